/-! BANK: what it answers, and its contracts -/
def szB (S : St) (b : Nat) : Nat := (gI S b 6).toNatClampNeg
def okB (S : St) (b : Nat) : Prop := gI S b 6 = nI (szB S b) ∧ szB S b ≤ 8
def dnB (S : St) (b : Nat) : Nat := (gI S b 9).toNatClampNeg
def okD (S : St) (b : Nat) : Prop := gI S b 9 = nI (dnB S b) ∧ dnB S b ≤ 40
def hasF (S : St) (b : Nat) (k : Int32) : Bool := !decide (k < 0) && !decide (gI S b 6 ≤ k)
def litF (S : St) (b : Nat) (k : Int32) : Bool := hasF S b k && decide ((gI S b 7 >>> (k &&& 31)) &&& 1 = 1)
def fldF (S : St) (b j : Nat) (k : Int32) : Int32 := if hasF S b k then gA S (34 + 6 * (b - 30) + j) k.toNatClampNeg else -9
def owF (S : St) (b : Nat) (k : Int32) : Bool := litF S b k && !isOfF (fldF S b 0 k) 3
def gloF (S : St) (b : Nat) (k night : Int32) : Int32 := glowF (fldF S b 0 k) (fldF S b 4 k) night
def partF (S : St) (b : Nat) (k what : Int32) : Int32 := if what = 0 then fldF S b 0 k else if what = 1 then fldF S b 1 k else if what = 2 then fldF S b 2 k else if what = 3 then fldF S b 3 k else if what = 4 then fldF S b 4 k else if what = 5 then bI (litF S b k) else gloF S b k (gI S b 8)
theorem partF_out {S : St} {b : Nat} {k what : Int32} (h : what.toInt < 0 ∨ 5 < what.toInt) : partF S b k what = gloF S b k (gI S b 8) := by
  have h0 : ¬ what = 0 := by rintro rfl; revert h; decide
  have h1 : ¬ what = 1 := by rintro rfl; revert h; decide
  have h2 : ¬ what = 2 := by rintro rfl; revert h; decide
  have h3 : ¬ what = 3 := by rintro rfl; revert h; decide
  have h4 : ¬ what = 4 := by rintro rfl; revert h; decide
  have h5 : ¬ what = 5 := by rintro rfl; revert h; decide
  simp [partF, h0, h1, h2, h3, h4, h5]
def fadF (g a c : Int32) : Int32 := if 0 < g - 2 * (if 0 ≤ a - c then a - c else 0 - (a - c)) then g - 2 * (if 0 ≤ a - c then a - c else 0 - (a - c)) else 0
def glaF (S : St) (b : Nat) (k place night : Int32) : Int32 := fadF (gloF S b k night) (fldF S b 3 k) place
def sumB (p : Nat → Bool) (f : Nat → Int32) : Nat → Int32 | 0 => 0 | n + 1 => if p n then sumB p f n + f n else sumB p f n
def sumN (f : Nat → Int32) : Nat → Int32 | 0 => 0 | n + 1 => sumN f n + f n
def briF (S : St) (b : Nat) (place night : Int32) : Int32 := sumB (fun i => litF S b (nI i)) (fun i => glaF S b (nI i) place night) (szB S b)
def aloF (S : St) (b a z : Nat) : Int32 := sumN (fun i => briF S b (nI (a + i)) (gI S b 8)) (z + 1 - a)
def shaF (S : St) (b : Nat) (k stand : Int32) (a z : Nat) : Int32 := if litF S b k then sumN (fun i => fadF (gloF S b k (gI S b 8)) stand (nI (a + i))) (z + 1 - a) else 0
def balR (S : St) (b : Nat) (one : Int32) : Nat → Int32
  | 0 => 100
  | n + 1 => if owF S b (nI n) && decide (fldF S b 2 (nI n) = one) then (if owF S b (nI n) && decide (fldF S b 1 (nI n) = one) then balR S b one n + 1 else balR S b one n) + (-1) else (if owF S b (nI n) && decide (fldF S b 1 (nI n) = one) then balR S b one n + 1 else balR S b one n)
def balF (S : St) (b : Nat) (one : Int32) : Int32 := balR S b one (szB S b)
def wriF (S : St) (b : Nat) (w k z : Int32) : St := if gI S b 9 < 40 then sI (sA S (34 + 6 * (b - 30) + 5) (upd (gA S (34 + 6 * (b - 30) + 5)) (dnB S b) (w + 4 * (k + 8 * z)))) b 9 (gI S b 9 + 1) else S
def passF (S : St) (b : Nat) : St := sI (wriF S b 0 0 0) b 8 (gI (wriF S b 0 0 0) b 8 + 1)
def putF (S : St) (b : Nat) (k : Int32) : St := if hasF S b k then sI (wriF S b 1 k 0) b 7 (gI (wriF S b 1 k 0) b 7 &&& ((1 <<< (k &&& 31)) ^^^ (-1))) else S
def ligF (S : St) (b : Nat) (k : Int32) : St := if hasF S b k then sI (wriF S b 2 k 0) b 7 (gI (wriF S b 2 k 0) b 7 ||| (1 <<< (k &&& 31))) else S
def carF (S : St) (b : Nat) (k p : Int32) : St := if hasF S b k then sA (wriF S b 3 k (gA S (34 + 6 * (b - 30) + 3) k.toNatClampNeg)) (34 + 6 * (b - 30) + 3) (upd (gA (wriF S b 3 k (gA S (34 + 6 * (b - 30) + 3) k.toNatClampNeg)) (34 + 6 * (b - 30) + 3)) k.toNatClampNeg p) else S
def lotK (S : St) (b : Nat) (lot : Int64) : Int32 := (lot / 8 - lot / 8 / (gI S b 6).toInt64 * (gI S b 6).toInt64).toInt32
def lotF (S : St) (b : Nat) (lot : Int64) : St := if gI S b 6 ≤ 0 then S else if lot < 0 then S else if lot - lot / 4 * 4 = 0 ∧ gI S b 8 < 40 then passF S b else if lot - lot / 4 * 4 = 1 then carF S b (lotK S b lot) ((lot / 64 - lot / 64 / 10 * 10).toInt32) else if litF S b (lotK S b lot) then putF S b (lotK S b lot) else ligF S b (lotK S b lot)
def tbK (deed : Int32) : Int32 := deed / 4 - deed / 4 / 8 * 8
def tbF (S : St) (b : Nat) (deed : Int32) : St := if deed - deed / 4 * 4 = 0 then sI S b 8 (gI S b 8 - 1) else if deed - deed / 4 * 4 = 1 then sI S b 7 (gI S b 7 ||| (1 <<< (tbK deed &&& 31))) else if deed - deed / 4 * 4 = 2 then sI S b 7 (gI S b 7 &&& ((1 <<< (tbK deed &&& 31)) ^^^ (-1))) else if hasF S b (tbK deed) then sA S (34 + 6 * (b - 30) + 3) (upd (gA S (34 + 6 * (b - 30) + 3)) (tbK deed).toNatClampNeg (deed / 4 / 8)) else S
theorem tbF_out {S : St} {b : Nat} {deed : Int32} (h : (deed - deed / 4 * 4).toInt < 0 ∨ 2 < (deed - deed / 4 * 4).toInt) : tbF S b deed = if hasF S b (tbK deed) then sA S (34 + 6 * (b - 30) + 3) (upd (gA S (34 + 6 * (b - 30) + 3)) (tbK deed).toNatClampNeg (deed / 4 / 8)) else S := by
  have h0 : ¬ deed - deed / 4 * 4 = 0 := by intro q; rw [q] at h; revert h; decide
  have h1 : ¬ deed - deed / 4 * 4 = 1 := by intro q; rw [q] at h; revert h; decide
  have h2 : ¬ deed - deed / 4 * 4 = 2 := by intro q; rw [q] at h; revert h; decide
  rw [tbF, if_neg h0, if_neg h1, if_neg h2]
/-- one step back: the last deed is taken back -/
def stepF (b : Nat) (S : St) : St := tbF (sI S b 9 (gI S b 9 - 1)) b (gA S (34 + 6 * (b - 30) + 5) (dnB S b - 1))
def undoF (b : Nat) : Nat → St → St | 0, S => S | m + 1, S => undoF b m (stepF b S)
theorem has_nat {S : St} {b : Nat} {k : Int32} (hz : okB S b) (h : hasF S b k = true) : ∃ j : Nat, k = nI j ∧ j < szB S b ∧ k.toNatClampNeg = j ∧ j < 8 := by
  unfold hasF at h
  rw [Bool.and_eq_true, Bool.not_eq_true', Bool.not_eq_true', decide_eq_false_iff_not, decide_eq_false_iff_not] at h
  obtain ⟨hz1, hz2⟩ := hz
  obtain ⟨j, hj, rfl⟩ := ix_of hz1 (by omega) h.1 h.2
  exact ⟨j, rfl, hj, nI_clamp (by omega), by omega⟩
theorem szB_of {S T : St} {b : Nat} (h : gI S b 6 = gI T b 6) : szB S b = szB T b := by unfold szB; rw [h]
theorem okB_of {S T : St} {b : Nat} (h : gI S b 6 = gI T b 6) (hT : okB T b) : okB S b := by unfold okB; rw [szB_of h, h]; exact hT
theorem dnB_of {S T : St} {b : Nat} (h : gI S b 9 = gI T b 9) : dnB S b = dnB T b := by unfold dnB; rw [h]
theorem okD_of {S T : St} {b : Nat} (h : gI S b 9 = gI T b 9) (hT : okD T b) : okD S b := by unfold okD; rw [dnB_of h, h]; exact hT
theorem gI_wri (S : St) (b : Nat) (w k z : Int32) (a j : Nat) (h : ¬ (a = b ∧ j = 9)) : gI (wriF S b w k z) a j = gI S a j := by
  unfold wriF
  split
  · rw [gI_ne h, gI_sA]
  · rfl
theorem gI_tbF (S : St) (b : Nat) (d : Int32) (a j : Nat) (h : j ≠ 7) (h8 : j ≠ 8) : gI (tbF S b d) a j = gI S a j := by
  unfold tbF
  split
  · rw [gI_ne (fun q => h8 q.2)]
  · split
    · rw [gI_ne (fun q => h q.2)]
    · split
      · rw [gI_ne (fun q => h q.2)]
      · split
        · rfl
        · rfl
set_option maxRecDepth 100000 in
set_option maxHeartbeats 4000000 in
theorem c_X0_size (E : En) (S : St) (b : Nat) (hb : kd b = 0) : CTe E i_X0_size S [.ref (eA E b)] S (some (.int (gI S b 6))) := by
  refine ct_of [(0, .ref (eA E b))] (by decide +kernel) (Nat.le_of_ble_eq_true rfl) rfl (fun X hM => ?_)
  refine g_aload_n (pc := 0) dX0_size_0 0 rfl rfl ?_
  refine gf_X0_30 (pc := 1) (by assumption) rfl dX0_size_1 ?_
  exact g_iret (pc := 4) hM rfl rfl ⟨rfl, rfl⟩ dX0_size_4
set_option maxRecDepth 100000 in
set_option maxHeartbeats 4000000 in
theorem c_X0_litSet (E : En) (S : St) (b : Nat) (hb : kd b = 0) : CTe E i_X0_litSet S [.ref (eA E b)] S (some (.int (gI S b 7))) := by
  refine ct_of [(0, .ref (eA E b))] (by decide +kernel) (Nat.le_of_ble_eq_true rfl) rfl (fun X hM => ?_)
  refine g_aload_n (pc := 0) dX0_litSet_0 0 rfl rfl ?_
  refine gf_X0_34 (pc := 1) (by assumption) rfl dX0_litSet_1 ?_
  exact g_iret (pc := 4) hM rfl rfl ⟨rfl, rfl⟩ dX0_litSet_4
set_option maxRecDepth 100000 in
set_option maxHeartbeats 4000000 in
theorem c_X0_thisNight (E : En) (S : St) (b : Nat) (hb : kd b = 0) : CTe E i_X0_thisNight S [.ref (eA E b)] S (some (.int (gI S b 8))) := by
  refine ct_of [(0, .ref (eA E b))] (by decide +kernel) (Nat.le_of_ble_eq_true rfl) rfl (fun X hM => ?_)
  refine g_aload_n (pc := 0) dX0_thisNight_0 0 rfl rfl ?_
  refine gf_X0_37 (pc := 1) (by assumption) rfl dX0_thisNight_1 ?_
  exact g_iret (pc := 4) hM rfl rfl ⟨rfl, rfl⟩ dX0_thisNight_4
set_option maxRecDepth 100000 in
set_option maxHeartbeats 4000000 in
theorem c_X0_deedsDone (E : En) (S : St) (b : Nat) (hb : kd b = 0) : CTe E i_X0_deedsDone S [.ref (eA E b)] S (some (.int (gI S b 9))) := by
  refine ct_of [(0, .ref (eA E b))] (by decide +kernel) (Nat.le_of_ble_eq_true rfl) rfl (fun X hM => ?_)
  refine g_aload_n (pc := 0) dX0_deedsDone_0 0 rfl rfl ?_
  refine gf_X0_40 (pc := 1) (by assumption) rfl dX0_deedsDone_1 ?_
  exact g_iret (pc := 4) hM rfl rfl ⟨rfl, rfl⟩ dX0_deedsDone_4
set_option maxRecDepth 100000 in
set_option maxHeartbeats 4000000 in
theorem c_X0_has (E : En) (S : St) (b : Nat) (k : Int32) (hb : kd b = 0) : CTe E i_X0_has S [.ref (eA E b), .int k] S (some (.int (bI (hasF S b k)))) := by
  refine ct_of [(0, .ref (eA E b)), (1, .int k)] (by decide +kernel) (Nat.le_of_ble_eq_true rfl) rfl (fun X hM => ?_)
  refine g_iload_n (pc := 0) dX0_has_0 1 rfl rfl ?_
  refine g_if_lt (pc := 1) (tgt := 16) dX0_has_1 (by decide) (fun c_1 => ?_) (fun c_1 => ?_)
  · have k_1 := Int32.not_le.mpr c_1
    refine g_iconst (pc := 16) (v := 0) dX0_has_16 (by decide) ?_
    exact g_iret (pc := 17) hM rfl rfl ⟨rfl, some_int (by simp [hasF, bI, *])⟩ dX0_has_17
  · have k_1 := Int32.not_lt.mp c_1
    refine g_iload_n (pc := 4) dX0_has_4 1 rfl rfl ?_
    refine g_aload_n (pc := 5) dX0_has_5 0 rfl rfl ?_
    refine gf_X0_30 (pc := 6) (by assumption) rfl dX0_has_6 ?_
    refine g_icmp_ge (pc := 9) (tgt := 16) dX0_has_9 (by decide) (fun c_9 => ?_) (fun c_9 => ?_)
    · have k_9 := Int32.not_lt.mpr c_9
      refine g_iconst (pc := 16) (v := 0) dX0_has_16 (by decide) ?_
      exact g_iret (pc := 17) hM rfl rfl ⟨rfl, some_int (by simp [hasF, bI, *])⟩ dX0_has_17
    · have k_9 := Int32.not_le.mp c_9
      refine g_iconst (pc := 12) (v := 1) dX0_has_12 (by decide) ?_
      refine g_goto (pc := 13) (tgt := 17) dX0_has_13 (by decide) ?_
      exact g_iret (pc := 17) hM rfl rfl ⟨rfl, some_int (by simp [hasF, bI, *])⟩ dX0_has_17
set_option maxRecDepth 100000 in
set_option maxHeartbeats 4000000 in
theorem c_X0_isLit (E : En) (S : St) (b : Nat) (k : Int32) (hb : kd b = 0) : CTe E i_X0_isLit S [.ref (eA E b), .int k] S (some (.int (bI (litF S b k)))) := by
  refine ct_of [(0, .ref (eA E b)), (1, .int k)] (by decide +kernel) (Nat.le_of_ble_eq_true rfl) rfl (fun X hM => ?_)
  refine g_aload_n (pc := 0) dX0_isLit_0 0 rfl rfl ?_
  refine g_iload_n (pc := 1) dX0_isLit_1 1 rfl rfl ?_
  refine g_invV (pc := 2) j_X0_has mw_X0_49 dX0_isLit_2 (rcv_X0 (by assumption)) (by rfl) (c_X0_has E S b k (by assumption)) (Nat.le_of_ble_eq_true rfl) (Nat.le_of_ble_eq_true rfl) (by rfl) (Nat.le_of_ble_eq_true rfl) ?_
  refine g_b_eq (pc := 5) (tgt := 24) dX0_isLit_5 (by decide) (fun c_5 => ?_) (fun c_5 => ?_)
  · refine g_iconst (pc := 24) (v := 0) dX0_isLit_24 (by decide) ?_
    exact g_iret (pc := 25) hM rfl rfl ⟨rfl, some_int (by first | (simp [litF, bI, c_5, c_17]; done) | (simp [litF, bI, c_5]; done))⟩ dX0_isLit_25
  · refine g_aload_n (pc := 8) dX0_isLit_8 0 rfl rfl ?_
    refine gf_X0_34 (pc := 9) (by assumption) rfl dX0_isLit_9 ?_
    refine g_iload_n (pc := 12) dX0_isLit_12 1 rfl rfl ?_
    refine g_ishr (pc := 13) dX0_isLit_13 ?_
    refine g_iconst (pc := 14) (v := 1) dX0_isLit_14 (by decide) ?_
    refine g_iand (pc := 15) dX0_isLit_15 ?_
    refine g_iconst (pc := 16) (v := 1) dX0_isLit_16 (by decide) ?_
    refine g_icmp_ne (pc := 17) (tgt := 24) dX0_isLit_17 (by decide) (fun c_17 => ?_) (fun c_17 => ?_)
    · refine g_iconst (pc := 24) (v := 0) dX0_isLit_24 (by decide) ?_
      exact g_iret (pc := 25) hM rfl rfl ⟨rfl, some_int (by first | (simp [litF, bI, c_5, c_17]; done) | (simp [litF, bI, c_5]; done))⟩ dX0_isLit_25
    · refine g_iconst (pc := 20) (v := 1) dX0_isLit_20 (by decide) ?_
      refine g_goto (pc := 21) (tgt := 25) dX0_isLit_21 (by decide) ?_
      exact g_iret (pc := 25) hM rfl rfl ⟨rfl, some_int (by first | (simp [litF, bI, c_5, c_17]; done) | (simp [litF, bI, c_5]; done))⟩ dX0_isLit_25
set_option maxRecDepth 100000 in
set_option maxHeartbeats 4000000 in
theorem c_X0_kindOf (E : En) (S : St) (b : Nat) (k : Int32) (hb : kd b = 0) (hz : okB S b) : CTe E i_X0_kindOf S [.ref (eA E b), .int k] S (some (.int (fldF S b 0 k))) := by
  refine ct_of [(0, .ref (eA E b)), (1, .int k)] (by decide +kernel) (Nat.le_of_ble_eq_true rfl) rfl (fun X hM => ?_)
  refine g_aload_n (pc := 0) dX0_kindOf_0 0 rfl rfl ?_
  refine g_iload_n (pc := 1) dX0_kindOf_1 1 rfl rfl ?_
  refine g_invV (pc := 2) j_X0_has mw_X0_49 dX0_kindOf_2 (rcv_X0 (by assumption)) (by rfl) (c_X0_has E S b k (by assumption)) (Nat.le_of_ble_eq_true rfl) (Nat.le_of_ble_eq_true rfl) (by rfl) (Nat.le_of_ble_eq_true rfl) ?_
  refine g_b_eq (pc := 5) (tgt := 17) dX0_kindOf_5 (by decide) (fun c_5 => ?_) (fun c_5 => ?_)
  · refine g_bipush (pc := 17) (v := -9) dX0_kindOf_17 (by decide) ?_
    exact g_iret (pc := 19) hM rfl rfl ⟨rfl, some_int (by first | (rw [fldF, if_pos c_5, hj3]; done) | (rw [fldF, if_pos c_5, hj3]; rfl) | (simp [fldF, c_5]; done))⟩ dX0_kindOf_19
  · obtain ⟨j, hj1, hj2, hj3, hj4⟩ := has_nat hz c_5
    refine g_aload_n (pc := 8) dX0_kindOf_8 0 rfl rfl ?_
    refine gf_X0_9 (pc := 9) (by assumption) rfl dX0_kindOf_9 ?_
    refine g_iload_n (pc := 12) dX0_kindOf_12 1 rfl rfl ?_
    refine g_iald (pc := 13) j hj1 (kd_b0 (by assumption)) (by rw [show (34 + 6 * (b - 30)) = 34 + 6 * (b - 30) + 0 from rfl, kd_bln 0 hb (by omega)]; exact hj4) (by rw [show (34 + 6 * (b - 30)) = 34 + 6 * (b - 30) + 0 from rfl, kd_bln 0 hb (by omega)]; omega) dX0_kindOf_13 ?_
    refine g_goto (pc := 14) (tgt := 19) dX0_kindOf_14 (by decide) ?_
    exact g_iret (pc := 19) hM rfl rfl ⟨rfl, some_int (by first | (rw [fldF, if_pos c_5, hj3]; done) | (rw [fldF, if_pos c_5, hj3]; rfl) | (simp [fldF, c_5]; done))⟩ dX0_kindOf_19
set_option maxRecDepth 100000 in
set_option maxHeartbeats 4000000 in
theorem c_X0_owerOf (E : En) (S : St) (b : Nat) (k : Int32) (hb : kd b = 0) (hz : okB S b) : CTe E i_X0_owerOf S [.ref (eA E b), .int k] S (some (.int (fldF S b 1 k))) := by
  refine ct_of [(0, .ref (eA E b)), (1, .int k)] (by decide +kernel) (Nat.le_of_ble_eq_true rfl) rfl (fun X hM => ?_)
  refine g_aload_n (pc := 0) dX0_owerOf_0 0 rfl rfl ?_
  refine g_iload_n (pc := 1) dX0_owerOf_1 1 rfl rfl ?_
  refine g_invV (pc := 2) j_X0_has mw_X0_49 dX0_owerOf_2 (rcv_X0 (by assumption)) (by rfl) (c_X0_has E S b k (by assumption)) (Nat.le_of_ble_eq_true rfl) (Nat.le_of_ble_eq_true rfl) (by rfl) (Nat.le_of_ble_eq_true rfl) ?_
  refine g_b_eq (pc := 5) (tgt := 17) dX0_owerOf_5 (by decide) (fun c_5 => ?_) (fun c_5 => ?_)
  · refine g_bipush (pc := 17) (v := -9) dX0_owerOf_17 (by decide) ?_
    exact g_iret (pc := 19) hM rfl rfl ⟨rfl, some_int (by first | (rw [fldF, if_pos c_5, hj3]; done) | (rw [fldF, if_pos c_5, hj3]; rfl) | (simp [fldF, c_5]; done))⟩ dX0_owerOf_19
  · obtain ⟨j, hj1, hj2, hj3, hj4⟩ := has_nat hz c_5
    refine g_aload_n (pc := 8) dX0_owerOf_8 0 rfl rfl ?_
    refine gf_X0_15 (pc := 9) (by assumption) rfl dX0_owerOf_9 ?_
    refine g_iload_n (pc := 12) dX0_owerOf_12 1 rfl rfl ?_
    refine g_iald (pc := 13) j hj1 (kd_b 1 (by assumption) (by omega)) (by rw [kd_bln 1 hb (by omega)]; exact hj4) (by rw [kd_bln 1 hb (by omega)]; omega) dX0_owerOf_13 ?_
    refine g_goto (pc := 14) (tgt := 19) dX0_owerOf_14 (by decide) ?_
    exact g_iret (pc := 19) hM rfl rfl ⟨rfl, some_int (by first | (rw [fldF, if_pos c_5, hj3]; done) | (rw [fldF, if_pos c_5, hj3]; rfl) | (simp [fldF, c_5]; done))⟩ dX0_owerOf_19
set_option maxRecDepth 100000 in
set_option maxHeartbeats 4000000 in
theorem c_X0_creditorOf (E : En) (S : St) (b : Nat) (k : Int32) (hb : kd b = 0) (hz : okB S b) : CTe E i_X0_creditorOf S [.ref (eA E b), .int k] S (some (.int (fldF S b 2 k))) := by
  refine ct_of [(0, .ref (eA E b)), (1, .int k)] (by decide +kernel) (Nat.le_of_ble_eq_true rfl) rfl (fun X hM => ?_)
  refine g_aload_n (pc := 0) dX0_creditorOf_0 0 rfl rfl ?_
  refine g_iload_n (pc := 1) dX0_creditorOf_1 1 rfl rfl ?_
  refine g_invV (pc := 2) j_X0_has mw_X0_49 dX0_creditorOf_2 (rcv_X0 (by assumption)) (by rfl) (c_X0_has E S b k (by assumption)) (Nat.le_of_ble_eq_true rfl) (Nat.le_of_ble_eq_true rfl) (by rfl) (Nat.le_of_ble_eq_true rfl) ?_
  refine g_b_eq (pc := 5) (tgt := 17) dX0_creditorOf_5 (by decide) (fun c_5 => ?_) (fun c_5 => ?_)
  · refine g_bipush (pc := 17) (v := -9) dX0_creditorOf_17 (by decide) ?_
    exact g_iret (pc := 19) hM rfl rfl ⟨rfl, some_int (by first | (rw [fldF, if_pos c_5, hj3]; done) | (rw [fldF, if_pos c_5, hj3]; rfl) | (simp [fldF, c_5]; done))⟩ dX0_creditorOf_19
  · obtain ⟨j, hj1, hj2, hj3, hj4⟩ := has_nat hz c_5
    refine g_aload_n (pc := 8) dX0_creditorOf_8 0 rfl rfl ?_
    refine gf_X0_18 (pc := 9) (by assumption) rfl dX0_creditorOf_9 ?_
    refine g_iload_n (pc := 12) dX0_creditorOf_12 1 rfl rfl ?_
    refine g_iald (pc := 13) j hj1 (kd_b 2 (by assumption) (by omega)) (by rw [kd_bln 2 hb (by omega)]; exact hj4) (by rw [kd_bln 2 hb (by omega)]; omega) dX0_creditorOf_13 ?_
    refine g_goto (pc := 14) (tgt := 19) dX0_creditorOf_14 (by decide) ?_
    exact g_iret (pc := 19) hM rfl rfl ⟨rfl, some_int (by first | (rw [fldF, if_pos c_5, hj3]; done) | (rw [fldF, if_pos c_5, hj3]; rfl) | (simp [fldF, c_5]; done))⟩ dX0_creditorOf_19
set_option maxRecDepth 100000 in
set_option maxHeartbeats 4000000 in
theorem c_X0_placeOf (E : En) (S : St) (b : Nat) (k : Int32) (hb : kd b = 0) (hz : okB S b) : CTe E i_X0_placeOf S [.ref (eA E b), .int k] S (some (.int (fldF S b 3 k))) := by
  refine ct_of [(0, .ref (eA E b)), (1, .int k)] (by decide +kernel) (Nat.le_of_ble_eq_true rfl) rfl (fun X hM => ?_)
  refine g_aload_n (pc := 0) dX0_placeOf_0 0 rfl rfl ?_
  refine g_iload_n (pc := 1) dX0_placeOf_1 1 rfl rfl ?_
  refine g_invV (pc := 2) j_X0_has mw_X0_49 dX0_placeOf_2 (rcv_X0 (by assumption)) (by rfl) (c_X0_has E S b k (by assumption)) (Nat.le_of_ble_eq_true rfl) (Nat.le_of_ble_eq_true rfl) (by rfl) (Nat.le_of_ble_eq_true rfl) ?_
  refine g_b_eq (pc := 5) (tgt := 17) dX0_placeOf_5 (by decide) (fun c_5 => ?_) (fun c_5 => ?_)
  · refine g_bipush (pc := 17) (v := -9) dX0_placeOf_17 (by decide) ?_
    exact g_iret (pc := 19) hM rfl rfl ⟨rfl, some_int (by first | (rw [fldF, if_pos c_5, hj3]; done) | (rw [fldF, if_pos c_5, hj3]; rfl) | (simp [fldF, c_5]; done))⟩ dX0_placeOf_19
  · obtain ⟨j, hj1, hj2, hj3, hj4⟩ := has_nat hz c_5
    refine g_aload_n (pc := 8) dX0_placeOf_8 0 rfl rfl ?_
    refine gf_X0_21 (pc := 9) (by assumption) rfl dX0_placeOf_9 ?_
    refine g_iload_n (pc := 12) dX0_placeOf_12 1 rfl rfl ?_
    refine g_iald (pc := 13) j hj1 (kd_b 3 (by assumption) (by omega)) (by rw [kd_bln 3 hb (by omega)]; exact hj4) (by rw [kd_bln 3 hb (by omega)]; omega) dX0_placeOf_13 ?_
    refine g_goto (pc := 14) (tgt := 19) dX0_placeOf_14 (by decide) ?_
    exact g_iret (pc := 19) hM rfl rfl ⟨rfl, some_int (by first | (rw [fldF, if_pos c_5, hj3]; done) | (rw [fldF, if_pos c_5, hj3]; rfl) | (simp [fldF, c_5]; done))⟩ dX0_placeOf_19
set_option maxRecDepth 100000 in
set_option maxHeartbeats 4000000 in
theorem c_X0_firstOf (E : En) (S : St) (b : Nat) (k : Int32) (hb : kd b = 0) (hz : okB S b) : CTe E i_X0_firstOf S [.ref (eA E b), .int k] S (some (.int (fldF S b 4 k))) := by
  refine ct_of [(0, .ref (eA E b)), (1, .int k)] (by decide +kernel) (Nat.le_of_ble_eq_true rfl) rfl (fun X hM => ?_)
  refine g_aload_n (pc := 0) dX0_firstOf_0 0 rfl rfl ?_
  refine g_iload_n (pc := 1) dX0_firstOf_1 1 rfl rfl ?_
  refine g_invV (pc := 2) j_X0_has mw_X0_49 dX0_firstOf_2 (rcv_X0 (by assumption)) (by rfl) (c_X0_has E S b k (by assumption)) (Nat.le_of_ble_eq_true rfl) (Nat.le_of_ble_eq_true rfl) (by rfl) (Nat.le_of_ble_eq_true rfl) ?_
  refine g_b_eq (pc := 5) (tgt := 17) dX0_firstOf_5 (by decide) (fun c_5 => ?_) (fun c_5 => ?_)
  · refine g_bipush (pc := 17) (v := -9) dX0_firstOf_17 (by decide) ?_
    exact g_iret (pc := 19) hM rfl rfl ⟨rfl, some_int (by first | (rw [fldF, if_pos c_5, hj3]; done) | (rw [fldF, if_pos c_5, hj3]; rfl) | (simp [fldF, c_5]; done))⟩ dX0_firstOf_19
  · obtain ⟨j, hj1, hj2, hj3, hj4⟩ := has_nat hz c_5
    refine g_aload_n (pc := 8) dX0_firstOf_8 0 rfl rfl ?_
    refine gf_X0_24 (pc := 9) (by assumption) rfl dX0_firstOf_9 ?_
    refine g_iload_n (pc := 12) dX0_firstOf_12 1 rfl rfl ?_
    refine g_iald (pc := 13) j hj1 (kd_b 4 (by assumption) (by omega)) (by rw [kd_bln 4 hb (by omega)]; exact hj4) (by rw [kd_bln 4 hb (by omega)]; omega) dX0_firstOf_13 ?_
    refine g_goto (pc := 14) (tgt := 19) dX0_firstOf_14 (by decide) ?_
    exact g_iret (pc := 19) hM rfl rfl ⟨rfl, some_int (by first | (rw [fldF, if_pos c_5, hj3]; done) | (rw [fldF, if_pos c_5, hj3]; rfl) | (simp [fldF, c_5]; done))⟩ dX0_firstOf_19
set_option maxRecDepth 100000 in
set_option maxHeartbeats 4000000 in
theorem c_X0_isOwing (E : En) (S : St) (b : Nat) (k : Int32) (hb : kd b = 0) (hz : okB S b) : CTe E i_X0_isOwing S [.ref (eA E b), .int k] S (some (.int (bI (owF S b k)))) := by
  refine ct_of [(0, .ref (eA E b)), (1, .int k)] (by decide +kernel) (Nat.le_of_ble_eq_true rfl) rfl (fun X hM => ?_)
  refine g_aload_n (pc := 0) dX0_isOwing_0 0 rfl rfl ?_
  refine g_iload_n (pc := 1) dX0_isOwing_1 1 rfl rfl ?_
  refine g_invV (pc := 2) j_X0_isLit mw_X0_53 dX0_isOwing_2 (rcv_X0 (by assumption)) (by rfl) (c_X0_isLit E S b k (by assumption)) (Nat.le_of_ble_eq_true rfl) (Nat.le_of_ble_eq_true rfl) (by rfl) (Nat.le_of_ble_eq_true rfl) ?_
  refine g_b_eq (pc := 5) (tgt := 24) dX0_isOwing_5 (by decide) (fun c_5 => ?_) (fun c_5 => ?_)
  · refine g_iconst (pc := 24) (v := 0) dX0_isOwing_24 (by decide) ?_
    exact g_iret (pc := 25) hM rfl rfl ⟨rfl, some_int (by first | (simp [owF, bI, c_5, c_17]; done) | (simp [owF, bI, c_5]; done))⟩ dX0_isOwing_25
  · refine g_aload_n (pc := 8) dX0_isOwing_8 0 rfl rfl ?_
    refine g_iload_n (pc := 9) dX0_isOwing_9 1 rfl rfl ?_
    refine g_invV (pc := 10) j_X0_kindOf mw_X0_56 dX0_isOwing_10 (rcv_X0 (by assumption)) (by rfl) (c_X0_kindOf E S b k (by assumption) (by first | assumption | omega | rfl)) (Nat.le_of_ble_eq_true rfl) (Nat.le_of_ble_eq_true rfl) (by rfl) (Nat.le_of_ble_eq_true rfl) ?_
    refine g_iconst (pc := 13) (v := 3) dX0_isOwing_13 (by decide) ?_
    refine g_invS (pc := 14) j_X2_isOf mw_X0_60 dX0_isOwing_14 (by rfl) (c_X2_isOf E S (fldF S b 0 k) 3 ) (Nat.le_of_ble_eq_true rfl) (Nat.le_of_ble_eq_true rfl) (by rfl) (Nat.le_of_ble_eq_true rfl) ?_
    refine g_b_ne (pc := 17) (tgt := 24) dX0_isOwing_17 (by decide) (fun c_17 => ?_) (fun c_17 => ?_)
    · refine g_iconst (pc := 24) (v := 0) dX0_isOwing_24 (by decide) ?_
      exact g_iret (pc := 25) hM rfl rfl ⟨rfl, some_int (by first | (simp [owF, bI, c_5, c_17]; done) | (simp [owF, bI, c_5]; done))⟩ dX0_isOwing_25
    · refine g_iconst (pc := 20) (v := 1) dX0_isOwing_20 (by decide) ?_
      refine g_goto (pc := 21) (tgt := 25) dX0_isOwing_21 (by decide) ?_
      exact g_iret (pc := 25) hM rfl rfl ⟨rfl, some_int (by first | (simp [owF, bI, c_5, c_17]; done) | (simp [owF, bI, c_5]; done))⟩ dX0_isOwing_25
set_option maxRecDepth 100000 in
set_option maxHeartbeats 4000000 in
theorem c_X0_glowOf (E : En) (S : St) (b : Nat) (k night : Int32) (hb : kd b = 0) (hz : okB S b) : CTe E i_X0_glowOf S [.ref (eA E b), .int k, .int night] S (some (.int (gloF S b k night))) := by
  refine ct_of [(0, .ref (eA E b)), (1, .int k), (2, .int night)] (by decide +kernel) (Nat.le_of_ble_eq_true rfl) rfl (fun X hM => ?_)
  refine g_aload_n (pc := 0) dX0_glowOf_0 0 rfl rfl ?_
  refine g_iload_n (pc := 1) dX0_glowOf_1 1 rfl rfl ?_
  refine g_invV (pc := 2) j_X0_kindOf mw_X0_56 dX0_glowOf_2 (rcv_X0 (by assumption)) (by rfl) (c_X0_kindOf E S b k (by assumption) (by first | assumption | omega | rfl)) (Nat.le_of_ble_eq_true rfl) (Nat.le_of_ble_eq_true rfl) (by rfl) (Nat.le_of_ble_eq_true rfl) ?_
  refine g_aload_n (pc := 5) dX0_glowOf_5 0 rfl rfl ?_
  refine g_iload_n (pc := 6) dX0_glowOf_6 1 rfl rfl ?_
  refine g_invV (pc := 7) j_X0_firstOf mw_X0_75 dX0_glowOf_7 (rcv_X0 (by assumption)) (by rfl) (c_X0_firstOf E S b k (by assumption) (by first | assumption | omega | rfl)) (Nat.le_of_ble_eq_true rfl) (Nat.le_of_ble_eq_true rfl) (by rfl) (Nat.le_of_ble_eq_true rfl) ?_
  refine g_iload_n (pc := 10) dX0_glowOf_10 2 rfl rfl ?_
  refine g_invS (pc := 11) j_X2_glow mw_X0_82 dX0_glowOf_11 (by rfl) (c_X2_glow E S (fldF S b 0 k) (fldF S b 4 k) night ) (Nat.le_of_ble_eq_true rfl) (Nat.le_of_ble_eq_true rfl) (by rfl) (Nat.le_of_ble_eq_true rfl) ?_
  exact g_iret (pc := 14) hM rfl rfl ⟨rfl, rfl⟩ dX0_glowOf_14
set_option maxRecDepth 100000 in
set_option maxHeartbeats 4000000 in
theorem c_X0_partOf (E : En) (S : St) (b : Nat) (k what : Int32) (hb : kd b = 0) (hz : okB S b) : CTe E i_X0_partOf S [.ref (eA E b), .int k, .int what] S (some (.int (partF S b k what))) := by
  refine ct_of [(0, .ref (eA E b)), (1, .int k), (2, .int what)] (by decide +kernel) (Nat.le_of_ble_eq_true rfl) rfl (fun X hM => ?_)
  refine g_iload_n (pc := 0) dX0_partOf_0 2 rfl rfl ?_
  rcases tsw0_5 what with c_1 | c_1 | c_1 | c_1 | c_1 | c_1 | c_1
  · refine g_tsIn (pc := 1) (tgt := 40) dX0_partOf_1 (by rw [c_1]; decide) (by rw [c_1]; decide) (by rw [c_1]; rfl) (by decide) ?_
    refine g_aload_n (pc := 40) dX0_partOf_40 0 rfl rfl ?_
    refine g_iload_n (pc := 41) dX0_partOf_41 1 rfl rfl ?_
    refine g_invV (pc := 42) j_X0_kindOf mw_X0_56 dX0_partOf_42 (rcv_X0 (by assumption)) (by rfl) (c_X0_kindOf E S b k (by assumption) (by first | assumption | omega | rfl)) (Nat.le_of_ble_eq_true rfl) (Nat.le_of_ble_eq_true rfl) (by rfl) (Nat.le_of_ble_eq_true rfl) ?_
    exact g_iret (pc := 45) hM rfl rfl ⟨rfl, some_int (by first | (rw [partF_out (by assumption)]; done) | (simp [partF, *]; done) | (simp [partF, bI, *]; done))⟩ dX0_partOf_45
  · refine g_tsIn (pc := 1) (tgt := 46) dX0_partOf_1 (by rw [c_1]; decide) (by rw [c_1]; decide) (by rw [c_1]; rfl) (by decide) ?_
    refine g_aload_n (pc := 46) dX0_partOf_46 0 rfl rfl ?_
    refine g_iload_n (pc := 47) dX0_partOf_47 1 rfl rfl ?_
    refine g_invV (pc := 48) j_X0_owerOf mw_X0_66 dX0_partOf_48 (rcv_X0 (by assumption)) (by rfl) (c_X0_owerOf E S b k (by assumption) (by first | assumption | omega | rfl)) (Nat.le_of_ble_eq_true rfl) (Nat.le_of_ble_eq_true rfl) (by rfl) (Nat.le_of_ble_eq_true rfl) ?_
    exact g_iret (pc := 51) hM rfl rfl ⟨rfl, some_int (by first | (rw [partF_out (by assumption)]; done) | (simp [partF, *]; done) | (simp [partF, bI, *]; done))⟩ dX0_partOf_51
  · refine g_tsIn (pc := 1) (tgt := 52) dX0_partOf_1 (by rw [c_1]; decide) (by rw [c_1]; decide) (by rw [c_1]; rfl) (by decide) ?_
    refine g_aload_n (pc := 52) dX0_partOf_52 0 rfl rfl ?_
    refine g_iload_n (pc := 53) dX0_partOf_53 1 rfl rfl ?_
    refine g_invV (pc := 54) j_X0_creditorOf mw_X0_69 dX0_partOf_54 (rcv_X0 (by assumption)) (by rfl) (c_X0_creditorOf E S b k (by assumption) (by first | assumption | omega | rfl)) (Nat.le_of_ble_eq_true rfl) (Nat.le_of_ble_eq_true rfl) (by rfl) (Nat.le_of_ble_eq_true rfl) ?_
    exact g_iret (pc := 57) hM rfl rfl ⟨rfl, some_int (by first | (rw [partF_out (by assumption)]; done) | (simp [partF, *]; done) | (simp [partF, bI, *]; done))⟩ dX0_partOf_57
  · refine g_tsIn (pc := 1) (tgt := 58) dX0_partOf_1 (by rw [c_1]; decide) (by rw [c_1]; decide) (by rw [c_1]; rfl) (by decide) ?_
    refine g_aload_n (pc := 58) dX0_partOf_58 0 rfl rfl ?_
    refine g_iload_n (pc := 59) dX0_partOf_59 1 rfl rfl ?_
    refine g_invV (pc := 60) j_X0_placeOf mw_X0_72 dX0_partOf_60 (rcv_X0 (by assumption)) (by rfl) (c_X0_placeOf E S b k (by assumption) (by first | assumption | omega | rfl)) (Nat.le_of_ble_eq_true rfl) (Nat.le_of_ble_eq_true rfl) (by rfl) (Nat.le_of_ble_eq_true rfl) ?_
    exact g_iret (pc := 63) hM rfl rfl ⟨rfl, some_int (by first | (rw [partF_out (by assumption)]; done) | (simp [partF, *]; done) | (simp [partF, bI, *]; done))⟩ dX0_partOf_63
  · refine g_tsIn (pc := 1) (tgt := 64) dX0_partOf_1 (by rw [c_1]; decide) (by rw [c_1]; decide) (by rw [c_1]; rfl) (by decide) ?_
    refine g_aload_n (pc := 64) dX0_partOf_64 0 rfl rfl ?_
    refine g_iload_n (pc := 65) dX0_partOf_65 1 rfl rfl ?_
    refine g_invV (pc := 66) j_X0_firstOf mw_X0_75 dX0_partOf_66 (rcv_X0 (by assumption)) (by rfl) (c_X0_firstOf E S b k (by assumption) (by first | assumption | omega | rfl)) (Nat.le_of_ble_eq_true rfl) (Nat.le_of_ble_eq_true rfl) (by rfl) (Nat.le_of_ble_eq_true rfl) ?_
    exact g_iret (pc := 69) hM rfl rfl ⟨rfl, some_int (by first | (rw [partF_out (by assumption)]; done) | (simp [partF, *]; done) | (simp [partF, bI, *]; done))⟩ dX0_partOf_69
  · refine g_tsIn (pc := 1) (tgt := 70) dX0_partOf_1 (by rw [c_1]; decide) (by rw [c_1]; decide) (by rw [c_1]; rfl) (by decide) ?_
    refine g_aload_n (pc := 70) dX0_partOf_70 0 rfl rfl ?_
    refine g_iload_n (pc := 71) dX0_partOf_71 1 rfl rfl ?_
    refine g_invV (pc := 72) j_X0_isLit mw_X0_53 dX0_partOf_72 (rcv_X0 (by assumption)) (by rfl) (c_X0_isLit E S b k (by assumption)) (Nat.le_of_ble_eq_true rfl) (Nat.le_of_ble_eq_true rfl) (by rfl) (Nat.le_of_ble_eq_true rfl) ?_
    refine g_b_eq (pc := 75) (tgt := 82) dX0_partOf_75 (by decide) (fun c_75 => ?_) (fun c_75 => ?_)
    · refine g_iconst (pc := 82) (v := 0) dX0_partOf_82 (by decide) ?_
      exact g_iret (pc := 83) hM rfl rfl ⟨rfl, some_int (by first | (rw [partF_out (by assumption)]; done) | (simp [partF, *]; done) | (simp [partF, bI, *]; done))⟩ dX0_partOf_83
    · refine g_iconst (pc := 78) (v := 1) dX0_partOf_78 (by decide) ?_
      refine g_goto (pc := 79) (tgt := 83) dX0_partOf_79 (by decide) ?_
      exact g_iret (pc := 83) hM rfl rfl ⟨rfl, some_int (by first | (rw [partF_out (by assumption)]; done) | (simp [partF, *]; done) | (simp [partF, bI, *]; done))⟩ dX0_partOf_83
  · refine g_tsOut (pc := 1) (tgt := 84) dX0_partOf_1 c_1 (by decide) ?_
    refine g_aload_n (pc := 84) dX0_partOf_84 0 rfl rfl ?_
    refine g_iload_n (pc := 85) dX0_partOf_85 1 rfl rfl ?_
    refine g_aload_n (pc := 86) dX0_partOf_86 0 rfl rfl ?_
    refine gf_X0_37 (pc := 87) (by assumption) rfl dX0_partOf_87 ?_
    refine g_invV (pc := 90) j_X0_glowOf mw_X0_78 dX0_partOf_90 (rcv_X0 (by assumption)) (by rfl) (c_X0_glowOf E S b k (gI S b 8) (by assumption) (by first | assumption | omega | rfl)) (Nat.le_of_ble_eq_true rfl) (Nat.le_of_ble_eq_true rfl) (by rfl) (Nat.le_of_ble_eq_true rfl) ?_
    exact g_iret (pc := 93) hM rfl rfl ⟨rfl, some_int (by first | (rw [partF_out (by assumption)]; done) | (simp [partF, *]; done) | (simp [partF, bI, *]; done))⟩ dX0_partOf_93
set_option maxRecDepth 100000 in
set_option maxHeartbeats 4000000 in
theorem c_X0_howManyOf (E : En) (S : St) (b : Nat) (kind : Int32) (hb : kd b = 0) (hz : okB S b) : CTe E i_X0_howManyOf S [.ref (eA E b), .int kind] S (some (.int (sumB (fun i => isOfF (fldF S b 0 (nI i)) kind) (fun _ => 1) (szB S b)))) := by
  refine ct_of [(0, .ref (eA E b)), (1, .int kind)] (by decide +kernel) (Nat.le_of_ble_eq_true rfl) rfl (fun X hM => ?_)
  refine g_iconst (pc := 0) (v := 0) dX0_howManyOf_0 (by decide) ?_
  refine g_istore_n (pc := 1) (L' := [(2, .int 0), (0, .ref (eA E b)), (1, .int kind)]) dX0_howManyOf_1 rfl (Nat.le_of_ble_eq_true rfl) rfl ?_
  refine g_iconst (pc := 2) (v := 0) dX0_howManyOf_2 (by decide) ?_
  refine g_istore_n (pc := 3) (L' := [(3, .int 0), (2, .int 0), (0, .ref (eA E b)), (1, .int kind)]) dX0_howManyOf_3 rfl (Nat.le_of_ble_eq_true rfl) rfl ?_
  have H_4 : ∀ n : Nat, n ≤ szB S b → G E X i_X0_howManyOf S 4 [(0, .ref (eA E b)), (1, .int kind), (2, .int (sumB (fun i => isOfF (fldF S b 0 (nI i)) kind) (fun _ => 1) n)), (3, .int (nI n))] [] := by
    refine dn_ind (szB S b) (fun n hn_4 ih_4 => ?_)
    refine g_iload_n (pc := 4) dX0_howManyOf_4 3 rfl rfl ?_
    refine g_aload_n (pc := 5) dX0_howManyOf_5 0 rfl rfl ?_
    refine gf_X0_30 (pc := 6) (by assumption) rfl dX0_howManyOf_6 ?_
    refine g_icmp_ge (pc := 9) (tgt := 33) dX0_howManyOf_9 (by decide) (fun c_9 => ?_) (fun c_9 => ?_)
    · have k_9 := Int32.not_lt.mpr c_9
      have he_4 : n = szB S b := Nat.le_antisymm hn_4 (by exact nle_of (N := szB S b) rfl hz.1 (by have := hz.2; omega) (by have := hz.2; omega) c_9)
      rw [he_4]
      refine g_iload_n (pc := 33) dX0_howManyOf_33 2 rfl rfl ?_
      exact g_iret (pc := 34) hM rfl rfl ⟨rfl, rfl⟩ dX0_howManyOf_34
    · have k_9 := Int32.not_le.mp c_9
      have hlt_4 : n < szB S b := by exact nlt_of (N := szB S b) rfl hz.1 (by have := hz.2; omega) (by have := hz.2; omega) c_9
      refine g_aload_n (pc := 12) dX0_howManyOf_12 0 rfl rfl ?_
      refine g_iload_n (pc := 13) dX0_howManyOf_13 3 rfl rfl ?_
      refine g_invV (pc := 14) j_X0_kindOf mw_X0_56 dX0_howManyOf_14 (rcv_X0 (by assumption)) (by rfl) (c_X0_kindOf E S b (nI n) (by assumption) (by first | assumption | omega | rfl)) (Nat.le_of_ble_eq_true rfl) (Nat.le_of_ble_eq_true rfl) (by rfl) (Nat.le_of_ble_eq_true rfl) ?_
      refine g_iload_n (pc := 17) dX0_howManyOf_17 1 rfl rfl ?_
      refine g_invS (pc := 18) j_X2_isOf mw_X0_60 dX0_howManyOf_18 (by rfl) (c_X2_isOf E S (fldF S b 0 (nI n)) kind ) (Nat.le_of_ble_eq_true rfl) (Nat.le_of_ble_eq_true rfl) (by rfl) (Nat.le_of_ble_eq_true rfl) ?_
      refine g_b_eq (pc := 21) (tgt := 27) dX0_howManyOf_21 (by decide) (fun c_21 => ?_) (fun c_21 => ?_)
      · refine g_iinc (pc := 27) (L' := [(3, .int (nI n + 1)), (0, .ref (eA E b)), (1, .int kind), (2, .int (sumB (fun i => isOfF (fldF S b 0 (nI i)) kind) (fun _ => 1) n))]) dX0_howManyOf_27 (k := 3) rfl (v := nI n + 1) rfl (Nat.le_of_ble_eq_true rfl) rfl ?_
        refine g_goto (pc := 30) (tgt := 4) dX0_howManyOf_30 (by decide) ?_
        refine g_sub (L' := [(0, .ref (eA E b)), (1, .int kind), (2, .int (sumB (fun i => isOfF (fldF S b 0 (nI i)) kind) (fun _ => 1) n)), (3, .int (nI n + 1))]) [1, 2, 3, 0] rfl ?_
        exact g_eq rfl (by simp only [nI_1, sumB, c_21, if_true, if_false, Bool.false_eq_true]) rfl (ih_4 hlt_4)
      · refine g_iinc (pc := 24) (L' := [(2, .int (sumB (fun i => isOfF (fldF S b 0 (nI i)) kind) (fun _ => 1) n + 1)), (0, .ref (eA E b)), (1, .int kind), (3, .int (nI n))]) dX0_howManyOf_24 (k := 2) rfl (v := sumB (fun i => isOfF (fldF S b 0 (nI i)) kind) (fun _ => 1) n + 1) rfl (Nat.le_of_ble_eq_true rfl) rfl ?_
        refine g_iinc (pc := 27) (L' := [(3, .int (nI n + 1)), (2, .int (sumB (fun i => isOfF (fldF S b 0 (nI i)) kind) (fun _ => 1) n + 1)), (0, .ref (eA E b)), (1, .int kind)]) dX0_howManyOf_27 (k := 3) rfl (v := nI n + 1) rfl (Nat.le_of_ble_eq_true rfl) rfl ?_
        refine g_goto (pc := 30) (tgt := 4) dX0_howManyOf_30 (by decide) ?_
        refine g_sub (L' := [(0, .ref (eA E b)), (1, .int kind), (2, .int (sumB (fun i => isOfF (fldF S b 0 (nI i)) kind) (fun _ => 1) n + 1)), (3, .int (nI n + 1))]) [2, 3, 1, 0] rfl ?_
        exact g_eq rfl (by simp only [nI_1, sumB, c_21, if_true, if_false, Bool.false_eq_true]) rfl (ih_4 hlt_4)
  refine g_sub (L' := [(0, .ref (eA E b)), (1, .int kind), (2, .int 0), (3, .int 0)]) [2, 3, 1, 0] rfl ?_
  exact g_eq rfl rfl rfl (H_4 0 (Nat.zero_le _))
set_option maxRecDepth 100000 in
set_option maxHeartbeats 4000000 in
theorem c_X0_litGlow (E : En) (S : St) (b : Nat) (hb : kd b = 0) (hz : okB S b) : CTe E i_X0_litGlow S [.ref (eA E b)] S (some (.int (sumB (fun i => litF S b (nI i)) (fun i => gloF S b (nI i) (gI S b 8)) (szB S b)))) := by
  refine ct_of [(0, .ref (eA E b))] (by decide +kernel) (Nat.le_of_ble_eq_true rfl) rfl (fun X hM => ?_)
  refine g_iconst (pc := 0) (v := 0) dX0_litGlow_0 (by decide) ?_
  refine g_istore_n (pc := 1) (L' := [(1, .int 0), (0, .ref (eA E b))]) dX0_litGlow_1 rfl (Nat.le_of_ble_eq_true rfl) rfl ?_
  refine g_iconst (pc := 2) (v := 0) dX0_litGlow_2 (by decide) ?_
  refine g_istore_n (pc := 3) (L' := [(2, .int 0), (1, .int 0), (0, .ref (eA E b))]) dX0_litGlow_3 rfl (Nat.le_of_ble_eq_true rfl) rfl ?_
  have H_4 : ∀ n : Nat, n ≤ szB S b → G E X i_X0_litGlow S 4 [(0, .ref (eA E b)), (1, .int (sumB (fun i => litF S b (nI i)) (fun i => gloF S b (nI i) (gI S b 8)) n)), (2, .int (nI n))] [] := by
    refine dn_ind (szB S b) (fun n hn_4 ih_4 => ?_)
    refine g_iload_n (pc := 4) dX0_litGlow_4 2 rfl rfl ?_
    refine g_aload_n (pc := 5) dX0_litGlow_5 0 rfl rfl ?_
    refine gf_X0_30 (pc := 6) (by assumption) rfl dX0_litGlow_6 ?_
    refine g_icmp_ge (pc := 9) (tgt := 38) dX0_litGlow_9 (by decide) (fun c_9 => ?_) (fun c_9 => ?_)
    · have k_9 := Int32.not_lt.mpr c_9
      have he_4 : n = szB S b := Nat.le_antisymm hn_4 (by exact nle_of (N := szB S b) rfl hz.1 (by have := hz.2; omega) (by have := hz.2; omega) c_9)
      rw [he_4]
      refine g_iload_n (pc := 38) dX0_litGlow_38 1 rfl rfl ?_
      exact g_iret (pc := 39) hM rfl rfl ⟨rfl, rfl⟩ dX0_litGlow_39
    · have k_9 := Int32.not_le.mp c_9
      have hlt_4 : n < szB S b := by exact nlt_of (N := szB S b) rfl hz.1 (by have := hz.2; omega) (by have := hz.2; omega) c_9
      refine g_aload_n (pc := 12) dX0_litGlow_12 0 rfl rfl ?_
      refine g_iload_n (pc := 13) dX0_litGlow_13 2 rfl rfl ?_
      refine g_invV (pc := 14) j_X0_isLit mw_X0_53 dX0_litGlow_14 (rcv_X0 (by assumption)) (by rfl) (c_X0_isLit E S b (nI n) (by assumption)) (Nat.le_of_ble_eq_true rfl) (Nat.le_of_ble_eq_true rfl) (by rfl) (Nat.le_of_ble_eq_true rfl) ?_
      refine g_b_eq (pc := 17) (tgt := 32) dX0_litGlow_17 (by decide) (fun c_17 => ?_) (fun c_17 => ?_)
      · refine g_iinc (pc := 32) (L' := [(2, .int (nI n + 1)), (0, .ref (eA E b)), (1, .int (sumB (fun i => litF S b (nI i)) (fun i => gloF S b (nI i) (gI S b 8)) n))]) dX0_litGlow_32 (k := 2) rfl (v := nI n + 1) rfl (Nat.le_of_ble_eq_true rfl) rfl ?_
        refine g_goto (pc := 35) (tgt := 4) dX0_litGlow_35 (by decide) ?_
        refine g_sub (L' := [(0, .ref (eA E b)), (1, .int (sumB (fun i => litF S b (nI i)) (fun i => gloF S b (nI i) (gI S b 8)) n)), (2, .int (nI n + 1))]) [1, 2, 0] rfl ?_
        exact g_eq rfl (by simp only [nI_1, sumB, c_17, if_true, if_false, Bool.false_eq_true]) rfl (ih_4 hlt_4)
      · refine g_iload_n (pc := 20) dX0_litGlow_20 1 rfl rfl ?_
        refine g_aload_n (pc := 21) dX0_litGlow_21 0 rfl rfl ?_
        refine g_iload_n (pc := 22) dX0_litGlow_22 2 rfl rfl ?_
        refine g_aload_n (pc := 23) dX0_litGlow_23 0 rfl rfl ?_
        refine gf_X0_37 (pc := 24) (by assumption) rfl dX0_litGlow_24 ?_
        refine g_invV (pc := 27) j_X0_glowOf mw_X0_78 dX0_litGlow_27 (rcv_X0 (by assumption)) (by rfl) (c_X0_glowOf E S b (nI n) (gI S b 8) (by assumption) (by first | assumption | omega | rfl)) (Nat.le_of_ble_eq_true rfl) (Nat.le_of_ble_eq_true rfl) (by rfl) (Nat.le_of_ble_eq_true rfl) ?_
        refine g_iadd (pc := 30) dX0_litGlow_30 ?_
        refine g_istore_n (pc := 31) (L' := [(1, .int (sumB (fun i => litF S b (nI i)) (fun i => gloF S b (nI i) (gI S b 8)) n + gloF S b (nI n) (gI S b 8))), (0, .ref (eA E b)), (2, .int (nI n))]) dX0_litGlow_31 rfl (Nat.le_of_ble_eq_true rfl) rfl ?_
        refine g_iinc (pc := 32) (L' := [(2, .int (nI n + 1)), (1, .int (sumB (fun i => litF S b (nI i)) (fun i => gloF S b (nI i) (gI S b 8)) n + gloF S b (nI n) (gI S b 8))), (0, .ref (eA E b))]) dX0_litGlow_32 (k := 2) rfl (v := nI n + 1) rfl (Nat.le_of_ble_eq_true rfl) rfl ?_
        refine g_goto (pc := 35) (tgt := 4) dX0_litGlow_35 (by decide) ?_
        refine g_sub (L' := [(0, .ref (eA E b)), (1, .int (sumB (fun i => litF S b (nI i)) (fun i => gloF S b (nI i) (gI S b 8)) n + gloF S b (nI n) (gI S b 8))), (2, .int (nI n + 1))]) [2, 1, 0] rfl ?_
        exact g_eq rfl (by simp only [nI_1, sumB, c_17, if_true, if_false, Bool.false_eq_true]) rfl (ih_4 hlt_4)
  refine g_sub (L' := [(0, .ref (eA E b)), (1, .int 0), (2, .int 0)]) [2, 1, 0] rfl ?_
  exact g_eq rfl rfl rfl (H_4 0 (Nat.zero_le _))
set_option maxRecDepth 100000 in
set_option maxHeartbeats 4000000 in
theorem c_X0_faded (E : En) (S : St) (g a c : Int32) : CTe E i_X0_faded S [.int g, .int a, .int c] S (some (.int (fadF g a c))) := by
  refine ct_of [(0, .int g), (1, .int a), (2, .int c)] (by decide +kernel) (Nat.le_of_ble_eq_true rfl) rfl (fun X hM => ?_)
  refine g_iconst (pc := 0) (v := 0) dX0_faded_0 (by decide) ?_
  refine g_iload_n (pc := 1) dX0_faded_1 0 rfl rfl ?_
  refine g_iconst (pc := 2) (v := 2) dX0_faded_2 (by decide) ?_
  refine g_iload_n (pc := 3) dX0_faded_3 1 rfl rfl ?_
  refine g_iload_n (pc := 4) dX0_faded_4 2 rfl rfl ?_
  refine g_isub (pc := 5) dX0_faded_5 ?_
  refine g_abs (pc := 6) mw_X0_86 dX0_faded_6 (Nat.le_of_ble_eq_true rfl) (Nat.le_of_ble_eq_true rfl) ?_
  refine g_imul (pc := 9) dX0_faded_9 ?_
  refine g_isub (pc := 10) dX0_faded_10 ?_
  refine g_max (pc := 11) mw_X0_91 dX0_faded_11 (Nat.le_of_ble_eq_true rfl) (Nat.le_of_ble_eq_true rfl) ?_
  exact g_iret (pc := 14) hM rfl rfl ⟨rfl, rfl⟩ dX0_faded_14
set_option maxRecDepth 100000 in
set_option maxHeartbeats 4000000 in
theorem c_X0_glowAt (E : En) (S : St) (b : Nat) (k place night : Int32) (hb : kd b = 0) (hz : okB S b) : CTe E i_X0_glowAt S [.ref (eA E b), .int k, .int place, .int night] S (some (.int (glaF S b k place night))) := by
  refine ct_of [(0, .ref (eA E b)), (1, .int k), (2, .int place), (3, .int night)] (by decide +kernel) (Nat.le_of_ble_eq_true rfl) rfl (fun X hM => ?_)
  refine g_aload_n (pc := 0) dX0_glowAt_0 0 rfl rfl ?_
  refine g_iload_n (pc := 1) dX0_glowAt_1 1 rfl rfl ?_
  refine g_iload_n (pc := 2) dX0_glowAt_2 3 rfl rfl ?_
  refine g_invV (pc := 3) j_X0_glowOf mw_X0_78 dX0_glowAt_3 (rcv_X0 (by assumption)) (by rfl) (c_X0_glowOf E S b k night (by assumption) (by first | assumption | omega | rfl)) (Nat.le_of_ble_eq_true rfl) (Nat.le_of_ble_eq_true rfl) (by rfl) (Nat.le_of_ble_eq_true rfl) ?_
  refine g_aload_n (pc := 6) dX0_glowAt_6 0 rfl rfl ?_
  refine g_iload_n (pc := 7) dX0_glowAt_7 1 rfl rfl ?_
  refine g_invV (pc := 8) j_X0_placeOf mw_X0_72 dX0_glowAt_8 (rcv_X0 (by assumption)) (by rfl) (c_X0_placeOf E S b k (by assumption) (by first | assumption | omega | rfl)) (Nat.le_of_ble_eq_true rfl) (Nat.le_of_ble_eq_true rfl) (by rfl) (Nat.le_of_ble_eq_true rfl) ?_
  refine g_iload_n (pc := 11) dX0_glowAt_11 2 rfl rfl ?_
  refine g_invS (pc := 12) j_X0_faded mw_X0_94 dX0_glowAt_12 (by rfl) (c_X0_faded E S (gloF S b k night) (fldF S b 3 k) place ) (Nat.le_of_ble_eq_true rfl) (Nat.le_of_ble_eq_true rfl) (by rfl) (Nat.le_of_ble_eq_true rfl) ?_
  exact g_iret (pc := 15) hM rfl rfl ⟨rfl, rfl⟩ dX0_glowAt_15
set_option maxRecDepth 100000 in
set_option maxHeartbeats 4000000 in
theorem c_X0_brightAt (E : En) (S : St) (b : Nat) (place night : Int32) (hb : kd b = 0) (hz : okB S b) : CTe E i_X0_brightAt S [.ref (eA E b), .int place, .int night] S (some (.int (briF S b place night))) := by
  refine ct_of [(0, .ref (eA E b)), (1, .int place), (2, .int night)] (by decide +kernel) (Nat.le_of_ble_eq_true rfl) rfl (fun X hM => ?_)
  refine g_iconst (pc := 0) (v := 0) dX0_brightAt_0 (by decide) ?_
  refine g_istore_n (pc := 1) (L' := [(3, .int 0), (0, .ref (eA E b)), (1, .int place), (2, .int night)]) dX0_brightAt_1 rfl (Nat.le_of_ble_eq_true rfl) rfl ?_
  refine g_iconst (pc := 2) (v := 0) dX0_brightAt_2 (by decide) ?_
  refine g_istore (pc := 3) (L' := [(4, .int 0), (3, .int 0), (0, .ref (eA E b)), (1, .int place), (2, .int night)]) dX0_brightAt_3 (Nat.le_of_ble_eq_true rfl) rfl ?_
  have H_5 : ∀ n : Nat, n ≤ szB S b → G E X i_X0_brightAt S 5 [(0, .ref (eA E b)), (1, .int place), (2, .int night), (3, .int (sumB (fun i => litF S b (nI i)) (fun i => glaF S b (nI i) place night) n)), (4, .int (nI n))] [] := by
    refine dn_ind (szB S b) (fun n hn_5 ih_5 => ?_)
    refine g_iload (pc := 5) dX0_brightAt_5 4 rfl ?_
    refine g_aload_n (pc := 7) dX0_brightAt_7 0 rfl rfl ?_
    refine gf_X0_30 (pc := 8) (by assumption) rfl dX0_brightAt_8 ?_
    refine g_icmp_ge (pc := 11) (tgt := 40) dX0_brightAt_11 (by decide) (fun c_11 => ?_) (fun c_11 => ?_)
    · have k_11 := Int32.not_lt.mpr c_11
      have he_5 : n = szB S b := Nat.le_antisymm hn_5 (by exact nle_of (N := szB S b) rfl hz.1 (by have := hz.2; omega) (by have := hz.2; omega) c_11)
      rw [he_5]
      refine g_iload_n (pc := 40) dX0_brightAt_40 3 rfl rfl ?_
      exact g_iret (pc := 41) hM rfl rfl ⟨rfl, rfl⟩ dX0_brightAt_41
    · have k_11 := Int32.not_le.mp c_11
      have hlt_5 : n < szB S b := by exact nlt_of (N := szB S b) rfl hz.1 (by have := hz.2; omega) (by have := hz.2; omega) c_11
      refine g_aload_n (pc := 14) dX0_brightAt_14 0 rfl rfl ?_
      refine g_iload (pc := 15) dX0_brightAt_15 4 rfl ?_
      refine g_invV (pc := 17) j_X0_isLit mw_X0_53 dX0_brightAt_17 (rcv_X0 (by assumption)) (by rfl) (c_X0_isLit E S b (nI n) (by assumption)) (Nat.le_of_ble_eq_true rfl) (Nat.le_of_ble_eq_true rfl) (by rfl) (Nat.le_of_ble_eq_true rfl) ?_
      refine g_b_eq (pc := 20) (tgt := 34) dX0_brightAt_20 (by decide) (fun c_20 => ?_) (fun c_20 => ?_)
      · refine g_iinc (pc := 34) (L' := [(4, .int (nI n + 1)), (0, .ref (eA E b)), (1, .int place), (2, .int night), (3, .int (sumB (fun i => litF S b (nI i)) (fun i => glaF S b (nI i) place night) n))]) dX0_brightAt_34 (k := 4) rfl (v := nI n + 1) rfl (Nat.le_of_ble_eq_true rfl) rfl ?_
        refine g_goto (pc := 37) (tgt := 5) dX0_brightAt_37 (by decide) ?_
        refine g_sub (L' := [(0, .ref (eA E b)), (1, .int place), (2, .int night), (3, .int (sumB (fun i => litF S b (nI i)) (fun i => glaF S b (nI i) place night) n)), (4, .int (nI n + 1))]) [1, 2, 3, 4, 0] rfl ?_
        exact g_eq rfl (by simp only [nI_1, sumB, c_20, if_true, if_false, Bool.false_eq_true]) rfl (ih_5 hlt_5)
      · refine g_iload_n (pc := 23) dX0_brightAt_23 3 rfl rfl ?_
        refine g_aload_n (pc := 24) dX0_brightAt_24 0 rfl rfl ?_
        refine g_iload (pc := 25) dX0_brightAt_25 4 rfl ?_
        refine g_iload_n (pc := 27) dX0_brightAt_27 1 rfl rfl ?_
        refine g_iload_n (pc := 28) dX0_brightAt_28 2 rfl rfl ?_
        refine g_invV (pc := 29) j_X0_glowAt mw_X0_97 dX0_brightAt_29 (rcv_X0 (by assumption)) (by rfl) (c_X0_glowAt E S b (nI n) place night (by assumption) (by first | assumption | omega | rfl)) (Nat.le_of_ble_eq_true rfl) (Nat.le_of_ble_eq_true rfl) (by rfl) (Nat.le_of_ble_eq_true rfl) ?_
        refine g_iadd (pc := 32) dX0_brightAt_32 ?_
        refine g_istore_n (pc := 33) (L' := [(3, .int (sumB (fun i => litF S b (nI i)) (fun i => glaF S b (nI i) place night) n + glaF S b (nI n) place night)), (0, .ref (eA E b)), (1, .int place), (2, .int night), (4, .int (nI n))]) dX0_brightAt_33 rfl (Nat.le_of_ble_eq_true rfl) rfl ?_
        refine g_iinc (pc := 34) (L' := [(4, .int (nI n + 1)), (3, .int (sumB (fun i => litF S b (nI i)) (fun i => glaF S b (nI i) place night) n + glaF S b (nI n) place night)), (0, .ref (eA E b)), (1, .int place), (2, .int night)]) dX0_brightAt_34 (k := 4) rfl (v := nI n + 1) rfl (Nat.le_of_ble_eq_true rfl) rfl ?_
        refine g_goto (pc := 37) (tgt := 5) dX0_brightAt_37 (by decide) ?_
        refine g_sub (L' := [(0, .ref (eA E b)), (1, .int place), (2, .int night), (3, .int (sumB (fun i => litF S b (nI i)) (fun i => glaF S b (nI i) place night) n + glaF S b (nI n) place night)), (4, .int (nI n + 1))]) [2, 3, 4, 1, 0] rfl ?_
        exact g_eq rfl (by simp only [nI_1, sumB, c_20, if_true, if_false, Bool.false_eq_true]) rfl (ih_5 hlt_5)
  refine g_sub (L' := [(0, .ref (eA E b)), (1, .int place), (2, .int night), (3, .int 0), (4, .int 0)]) [2, 3, 4, 1, 0] rfl ?_
  exact g_eq rfl rfl rfl (H_5 0 (Nat.zero_le _))
theorem clamp0 {a : Nat} (h : a < 2 ^ 31) : (if (0 : Int32) < nI a then nI a else 0) = nI a := by
  by_cases h2 : (0 : Int32) < nI a
  · rw [if_pos h2]
  · rw [if_neg h2]
    have h3 : ¬ nI 0 < nI a := by rw [nI_0]; exact h2
    have : a = 0 := by
      rcases Nat.eq_zero_or_pos a with q | q
      · exact q
      · exact absurd (nI_lt q h) h3
    rw [this, nI_0]
set_option maxRecDepth 100000 in
set_option maxHeartbeats 4000000 in
theorem c_X0_brightAlong (E : En) (S : St) (b : Nat) (a z : Nat) (hb : kd b = 0) (hz : okB S b) (haz : a ≤ z + 1) (hz9 : z ≤ 9) : CTe E i_X0_brightAlong S [.ref (eA E b), .int (nI a), .int (nI z)] S (some (.int (aloF S b a z))) := by
  refine ct_of [(0, .ref (eA E b)), (1, .int (nI a)), (2, .int (nI z))] (by decide +kernel) (Nat.le_of_ble_eq_true rfl) rfl (fun X hM => ?_)
  refine g_iconst (pc := 0) (v := 0) dX0_brightAlong_0 (by decide) ?_
  refine g_istore_n (pc := 1) (L' := [(3, .int 0), (0, .ref (eA E b)), (1, .int (nI a)), (2, .int (nI z))]) dX0_brightAlong_1 rfl (Nat.le_of_ble_eq_true rfl) rfl ?_
  refine g_iconst (pc := 2) (v := 0) dX0_brightAlong_2 (by decide) ?_
  refine g_iload_n (pc := 3) dX0_brightAlong_3 2 rfl rfl ?_
  refine g_max (pc := 4) mw_X0_91 dX0_brightAlong_4 (Nat.le_of_ble_eq_true rfl) (Nat.le_of_ble_eq_true rfl) ?_
  refine g_istore (pc := 7) (L' := [(4, .int (if 0 < nI a then nI a else 0)), (3, .int 0), (0, .ref (eA E b)), (1, .int (nI a)), (2, .int (nI z))]) dX0_brightAlong_7 (Nat.le_of_ble_eq_true rfl) rfl ?_
  have H_9 : ∀ n : Nat, n ≤ (z + 1 - a) → G E X i_X0_brightAlong S 9 [(0, .ref (eA E b)), (1, .int (nI a)), (2, .int (nI z)), (3, .int (sumN (fun i => briF S b (nI (a + i)) (gI S b 8)) n)), (4, .int (nI (a + n)))] [] := by
    refine dn_ind (z + 1 - a) (fun n hn_9 ih_9 => ?_)
    refine g_iload (pc := 9) dX0_brightAlong_9 4 rfl ?_
    refine g_iload_n (pc := 11) dX0_brightAlong_11 2 rfl rfl ?_
    refine g_icmp_gt (pc := 12) (tgt := 41) dX0_brightAlong_12 (by decide) (fun c_12 => ?_) (fun c_12 => ?_)
    · have k_12 := Int32.not_le.mpr c_12
      have he_9 : n = z + 1 - a := by have h1 : z < a + n := (nI_ltI (by omega) (by omega)).mp c_12; omega
      rw [he_9]
      refine g_iload_n (pc := 41) dX0_brightAlong_41 3 rfl rfl ?_
      exact g_iret (pc := 42) hM rfl rfl ⟨rfl, rfl⟩ dX0_brightAlong_42
    · have k_12 := Int32.not_lt.mp c_12
      refine g_iload (pc := 15) dX0_brightAlong_15 4 rfl ?_
      refine g_bipush (pc := 17) (v := 10) dX0_brightAlong_17 (by decide) ?_
      refine g_icmp_ge (pc := 19) (tgt := 41) dX0_brightAlong_19 (by decide) (fun c_19 => ?_) (fun c_19 => ?_)
      · have k_19 := Int32.not_lt.mpr c_19
        have he_9 : n = z + 1 - a := by have h1 : 10 ≤ a + n := (nI_leI (a := 10) (by omega) (by omega)).mp c_19; omega
        rw [he_9]
        refine g_iload_n (pc := 41) dX0_brightAlong_41 3 rfl rfl ?_
        exact g_iret (pc := 42) hM rfl rfl ⟨rfl, rfl⟩ dX0_brightAlong_42
      · have k_19 := Int32.not_le.mp c_19
        have hlt_9 : n < z + 1 - a := by have h1 : a + n ≤ z := (nI_leI (by omega) (by omega)).mp (Int32.not_lt.mp c_12); omega
        refine g_iload_n (pc := 22) dX0_brightAlong_22 3 rfl rfl ?_
        refine g_aload_n (pc := 23) dX0_brightAlong_23 0 rfl rfl ?_
        refine g_iload (pc := 24) dX0_brightAlong_24 4 rfl ?_
        refine g_aload_n (pc := 26) dX0_brightAlong_26 0 rfl rfl ?_
        refine gf_X0_37 (pc := 27) (by assumption) rfl dX0_brightAlong_27 ?_
        refine g_invV (pc := 30) j_X0_brightAt mw_X0_100 dX0_brightAlong_30 (rcv_X0 (by assumption)) (by rfl) (c_X0_brightAt E S b (nI (a + n)) (gI S b 8) (by assumption) (by first | assumption | omega | rfl)) (Nat.le_of_ble_eq_true rfl) (Nat.le_of_ble_eq_true rfl) (by rfl) (Nat.le_of_ble_eq_true rfl) ?_
        refine g_iadd (pc := 33) dX0_brightAlong_33 ?_
        refine g_istore_n (pc := 34) (L' := [(3, .int (sumN (fun i => briF S b (nI (a + i)) (gI S b 8)) n + briF S b (nI (a + n)) (gI S b 8))), (0, .ref (eA E b)), (1, .int (nI a)), (2, .int (nI z)), (4, .int (nI (a + n)))]) dX0_brightAlong_34 rfl (Nat.le_of_ble_eq_true rfl) rfl ?_
        refine g_iinc (pc := 35) (L' := [(4, .int (nI (a + n) + 1)), (3, .int (sumN (fun i => briF S b (nI (a + i)) (gI S b 8)) n + briF S b (nI (a + n)) (gI S b 8))), (0, .ref (eA E b)), (1, .int (nI a)), (2, .int (nI z))]) dX0_brightAlong_35 (k := 4) rfl (v := nI (a + n) + 1) rfl (Nat.le_of_ble_eq_true rfl) rfl ?_
        refine g_goto (pc := 38) (tgt := 9) dX0_brightAlong_38 (by decide) ?_
        refine g_sub (L' := [(0, .ref (eA E b)), (1, .int (nI a)), (2, .int (nI z)), (3, .int (sumN (fun i => briF S b (nI (a + i)) (gI S b 8)) n + briF S b (nI (a + n)) (gI S b 8))), (4, .int (nI (a + n) + 1))]) [2, 3, 4, 1, 0] rfl ?_
        exact g_eq rfl (by simp only [nI_1, sumN, Nat.add_assoc]) rfl (ih_9 hlt_9)
  refine g_sub (L' := [(0, .ref (eA E b)), (1, .int (nI a)), (2, .int (nI z)), (3, .int 0), (4, .int (if 0 < nI a then nI a else 0))]) [2, 3, 4, 1, 0] rfl ?_
  exact g_eq rfl (by simp only [clamp0 (show a < 2 ^ 31 by omega), sumN, Nat.add_zero]) rfl (H_9 0 (Nat.zero_le _))
set_option maxRecDepth 100000 in
set_option maxHeartbeats 4000000 in
theorem c_X0_shareAlong (E : En) (S : St) (b : Nat) (k stand : Int32) (a z : Nat) (hb : kd b = 0) (hz : okB S b) (haz : a ≤ z + 1) (hz9 : z ≤ 9) : CTe E i_X0_shareAlong S [.ref (eA E b), .int k, .int stand, .int (nI a), .int (nI z)] S (some (.int (shaF S b k stand a z))) := by
  refine ct_of [(0, .ref (eA E b)), (1, .int k), (2, .int stand), (3, .int (nI a)), (4, .int (nI z))] (by decide +kernel) (Nat.le_of_ble_eq_true rfl) rfl (fun X hM => ?_)
  refine g_aload_n (pc := 0) dX0_shareAlong_0 0 rfl rfl ?_
  refine g_iload_n (pc := 1) dX0_shareAlong_1 1 rfl rfl ?_
  refine g_invV (pc := 2) j_X0_isLit mw_X0_53 dX0_shareAlong_2 (rcv_X0 (by assumption)) (by rfl) (c_X0_isLit E S b k (by assumption)) (Nat.le_of_ble_eq_true rfl) (Nat.le_of_ble_eq_true rfl) (by rfl) (Nat.le_of_ble_eq_true rfl) ?_
  refine g_b_ne (pc := 5) (tgt := 10) dX0_shareAlong_5 (by decide) (fun c_5 => ?_) (fun c_5 => ?_)
  · refine g_aload_n (pc := 10) dX0_shareAlong_10 0 rfl rfl ?_
    refine g_iload_n (pc := 11) dX0_shareAlong_11 1 rfl rfl ?_
    refine g_aload_n (pc := 12) dX0_shareAlong_12 0 rfl rfl ?_
    refine gf_X0_37 (pc := 13) (by assumption) rfl dX0_shareAlong_13 ?_
    refine g_invV (pc := 16) j_X0_glowOf mw_X0_78 dX0_shareAlong_16 (rcv_X0 (by assumption)) (by rfl) (c_X0_glowOf E S b k (gI S b 8) (by assumption) (by first | assumption | omega | rfl)) (Nat.le_of_ble_eq_true rfl) (Nat.le_of_ble_eq_true rfl) (by rfl) (Nat.le_of_ble_eq_true rfl) ?_
    refine g_istore (pc := 19) (L' := [(5, .int (gloF S b k (gI S b 8))), (0, .ref (eA E b)), (1, .int k), (2, .int stand), (3, .int (nI a)), (4, .int (nI z))]) dX0_shareAlong_19 (Nat.le_of_ble_eq_true rfl) rfl ?_
    refine g_iconst (pc := 21) (v := 0) dX0_shareAlong_21 (by decide) ?_
    refine g_istore (pc := 22) (L' := [(6, .int 0), (5, .int (gloF S b k (gI S b 8))), (0, .ref (eA E b)), (1, .int k), (2, .int stand), (3, .int (nI a)), (4, .int (nI z))]) dX0_shareAlong_22 (Nat.le_of_ble_eq_true rfl) rfl ?_
    refine g_iconst (pc := 24) (v := 0) dX0_shareAlong_24 (by decide) ?_
    refine g_iload_n (pc := 25) dX0_shareAlong_25 5 rfl rfl ?_
    refine g_max (pc := 26) mw_X0_91 dX0_shareAlong_26 (Nat.le_of_ble_eq_true rfl) (Nat.le_of_ble_eq_true rfl) ?_
    refine g_istore (pc := 29) (L' := [(7, .int (if 0 < nI a then nI a else 0)), (6, .int 0), (5, .int (gloF S b k (gI S b 8))), (0, .ref (eA E b)), (1, .int k), (2, .int stand), (3, .int (nI a)), (4, .int (nI z))]) dX0_shareAlong_29 (Nat.le_of_ble_eq_true rfl) rfl ?_
    have H_31 : ∀ n : Nat, n ≤ (z + 1 - a) → G E X i_X0_shareAlong S 31 [(0, .ref (eA E b)), (1, .int k), (2, .int stand), (3, .int (nI a)), (4, .int (nI z)), (5, .int (gloF S b k (gI S b 8))), (6, .int (sumN (fun i => fadF (gloF S b k (gI S b 8)) stand (nI (a + i))) n)), (7, .int (nI (a + n)))] [] := by
      refine dn_ind (z + 1 - a) (fun n hn_31 ih_31 => ?_)
      refine g_iload (pc := 31) dX0_shareAlong_31 7 rfl ?_
      refine g_iload (pc := 33) dX0_shareAlong_33 4 rfl ?_
      refine g_icmp_gt (pc := 35) (tgt := 64) dX0_shareAlong_35 (by decide) (fun c_35 => ?_) (fun c_35 => ?_)
      · have k_35 := Int32.not_le.mpr c_35
        have he_31 : n = z + 1 - a := by have h1 : z < a + n := (nI_ltI (by omega) (by omega)).mp c_35; omega
        rw [he_31]
        refine g_iload (pc := 64) dX0_shareAlong_64 6 rfl ?_
        exact g_iret (pc := 66) hM rfl rfl ⟨rfl, some_int (by simp [shaF, c_5])⟩ dX0_shareAlong_66
      · have k_35 := Int32.not_lt.mp c_35
        refine g_iload (pc := 38) dX0_shareAlong_38 7 rfl ?_
        refine g_bipush (pc := 40) (v := 10) dX0_shareAlong_40 (by decide) ?_
        refine g_icmp_ge (pc := 42) (tgt := 64) dX0_shareAlong_42 (by decide) (fun c_42 => ?_) (fun c_42 => ?_)
        · have k_42 := Int32.not_lt.mpr c_42
          have he_31 : n = z + 1 - a := by have h1 : 10 ≤ a + n := (nI_leI (a := 10) (by omega) (by omega)).mp c_42; omega
          rw [he_31]
          refine g_iload (pc := 64) dX0_shareAlong_64 6 rfl ?_
          exact g_iret (pc := 66) hM rfl rfl ⟨rfl, some_int (by simp [shaF, c_5])⟩ dX0_shareAlong_66
        · have k_42 := Int32.not_le.mp c_42
          have hlt_31 : n < z + 1 - a := by have h1 : a + n ≤ z := (nI_leI (by omega) (by omega)).mp (Int32.not_lt.mp c_35); omega
          refine g_iload (pc := 45) dX0_shareAlong_45 6 rfl ?_
          refine g_iload (pc := 47) dX0_shareAlong_47 5 rfl ?_
          refine g_iload_n (pc := 49) dX0_shareAlong_49 2 rfl rfl ?_
          refine g_iload (pc := 50) dX0_shareAlong_50 7 rfl ?_
          refine g_invS (pc := 52) j_X0_faded mw_X0_94 dX0_shareAlong_52 (by rfl) (c_X0_faded E S (gloF S b k (gI S b 8)) stand (nI (a + n)) ) (Nat.le_of_ble_eq_true rfl) (Nat.le_of_ble_eq_true rfl) (by rfl) (Nat.le_of_ble_eq_true rfl) ?_
          refine g_iadd (pc := 55) dX0_shareAlong_55 ?_
          refine g_istore (pc := 56) (L' := [(6, .int (sumN (fun i => fadF (gloF S b k (gI S b 8)) stand (nI (a + i))) n + fadF (gloF S b k (gI S b 8)) stand (nI (a + n)))), (0, .ref (eA E b)), (1, .int k), (2, .int stand), (3, .int (nI a)), (4, .int (nI z)), (5, .int (gloF S b k (gI S b 8))), (7, .int (nI (a + n)))]) dX0_shareAlong_56 (Nat.le_of_ble_eq_true rfl) rfl ?_
          refine g_iinc (pc := 58) (L' := [(7, .int (nI (a + n) + 1)), (6, .int (sumN (fun i => fadF (gloF S b k (gI S b 8)) stand (nI (a + i))) n + fadF (gloF S b k (gI S b 8)) stand (nI (a + n)))), (0, .ref (eA E b)), (1, .int k), (2, .int stand), (3, .int (nI a)), (4, .int (nI z)), (5, .int (gloF S b k (gI S b 8)))]) dX0_shareAlong_58 (k := 7) rfl (v := nI (a + n) + 1) rfl (Nat.le_of_ble_eq_true rfl) rfl ?_
          refine g_goto (pc := 61) (tgt := 31) dX0_shareAlong_61 (by decide) ?_
          refine g_sub (L' := [(0, .ref (eA E b)), (1, .int k), (2, .int stand), (3, .int (nI a)), (4, .int (nI z)), (5, .int (gloF S b k (gI S b 8))), (6, .int (sumN (fun i => fadF (gloF S b k (gI S b 8)) stand (nI (a + i))) n + fadF (gloF S b k (gI S b 8)) stand (nI (a + n)))), (7, .int (nI (a + n) + 1))]) [2, 3, 4, 5, 6, 7, 1, 0] rfl ?_
          exact g_eq rfl (by simp only [nI_1, sumN, Nat.add_assoc]) rfl (ih_31 hlt_31)
    refine g_sub (L' := [(0, .ref (eA E b)), (1, .int k), (2, .int stand), (3, .int (nI a)), (4, .int (nI z)), (5, .int (gloF S b k (gI S b 8))), (6, .int 0), (7, .int (if 0 < nI a then nI a else 0))]) [3, 4, 5, 6, 7, 2, 1, 0] rfl ?_
    exact g_eq rfl (by simp only [clamp0 (show a < 2 ^ 31 by omega), sumN, Nat.add_zero]) rfl (H_31 0 (Nat.zero_le _))
  · refine g_iconst (pc := 8) (v := 0) dX0_shareAlong_8 (by decide) ?_
    exact g_iret (pc := 9) hM rfl rfl ⟨rfl, some_int (by simp [shaF, c_5])⟩ dX0_shareAlong_9
set_option maxRecDepth 100000 in
set_option maxHeartbeats 4000000 in
theorem c_X0_balanceOf (E : En) (S : St) (b : Nat) (one : Int32) (hb : kd b = 0) (hz : okB S b) : CTe E i_X0_balanceOf S [.ref (eA E b), .int one] S (some (.int (balF S b one))) := by
  refine ct_of [(0, .ref (eA E b)), (1, .int one)] (by decide +kernel) (Nat.le_of_ble_eq_true rfl) rfl (fun X hM => ?_)
  refine g_bipush (pc := 0) (v := 100) dX0_balanceOf_0 (by decide) ?_
  refine g_istore_n (pc := 2) (L' := [(2, .int 100), (0, .ref (eA E b)), (1, .int one)]) dX0_balanceOf_2 rfl (Nat.le_of_ble_eq_true rfl) rfl ?_
  refine g_iconst (pc := 3) (v := 0) dX0_balanceOf_3 (by decide) ?_
  refine g_istore_n (pc := 4) (L' := [(3, .int 0), (2, .int 100), (0, .ref (eA E b)), (1, .int one)]) dX0_balanceOf_4 rfl (Nat.le_of_ble_eq_true rfl) rfl ?_
  have H_5 : ∀ n : Nat, n ≤ szB S b → G E X i_X0_balanceOf S 5 [(0, .ref (eA E b)), (1, .int one), (2, .int (balR S b one n)), (3, .int (nI n))] [] := by
    refine dn_ind (szB S b) (fun n hn_5 ih_5 => ?_)
    refine g_iload_n (pc := 5) dX0_balanceOf_5 3 rfl rfl ?_
    refine g_aload_n (pc := 6) dX0_balanceOf_6 0 rfl rfl ?_
    refine gf_X0_30 (pc := 7) (by assumption) rfl dX0_balanceOf_7 ?_
    refine g_icmp_ge (pc := 10) (tgt := 59) dX0_balanceOf_10 (by decide) (fun c_10 => ?_) (fun c_10 => ?_)
    · have k_10 := Int32.not_lt.mpr c_10
      have he_5 : n = szB S b := Nat.le_antisymm hn_5 (by exact nle_of (N := szB S b) rfl hz.1 (by have := hz.2; omega) (by have := hz.2; omega) c_10)
      rw [he_5]
      refine g_iload_n (pc := 59) dX0_balanceOf_59 2 rfl rfl ?_
      exact g_iret (pc := 60) hM rfl rfl ⟨rfl, rfl⟩ dX0_balanceOf_60
    · have k_10 := Int32.not_le.mp c_10
      have hlt_5 : n < szB S b := by exact nlt_of (N := szB S b) rfl hz.1 (by have := hz.2; omega) (by have := hz.2; omega) c_10
      refine g_aload_n (pc := 13) dX0_balanceOf_13 0 rfl rfl ?_
      refine g_iload_n (pc := 14) dX0_balanceOf_14 3 rfl rfl ?_
      refine g_invV (pc := 15) j_X0_isOwing mw_X0_103 dX0_balanceOf_15 (rcv_X0 (by assumption)) (by rfl) (c_X0_isOwing E S b (nI n) (by assumption) (by first | assumption | omega | rfl)) (Nat.le_of_ble_eq_true rfl) (Nat.le_of_ble_eq_true rfl) (by rfl) (Nat.le_of_ble_eq_true rfl) ?_
      refine g_b_eq (pc := 18) (tgt := 33) dX0_balanceOf_18 (by decide) (fun c_18 => ?_) (fun c_18 => ?_)
      · refine g_aload_n (pc := 33) dX0_balanceOf_33 0 rfl rfl ?_
        refine g_iload_n (pc := 34) dX0_balanceOf_34 3 rfl rfl ?_
        refine g_invV (pc := 35) j_X0_isOwing mw_X0_103 dX0_balanceOf_35 (rcv_X0 (by assumption)) (by rfl) (c_X0_isOwing E S b (nI n) (by assumption) (by first | assumption | omega | rfl)) (Nat.le_of_ble_eq_true rfl) (Nat.le_of_ble_eq_true rfl) (by rfl) (Nat.le_of_ble_eq_true rfl) ?_
        refine g_b_eq (pc := 38) (tgt := 53) dX0_balanceOf_38 (by decide) (fun c_38 => ?_) (fun c_38 => ?_)
        · refine g_iinc (pc := 53) (L' := [(3, .int (nI n + 1)), (0, .ref (eA E b)), (1, .int one), (2, .int (balR S b one n))]) dX0_balanceOf_53 (k := 3) rfl (v := nI n + 1) rfl (Nat.le_of_ble_eq_true rfl) rfl ?_
          refine g_goto (pc := 56) (tgt := 5) dX0_balanceOf_56 (by decide) ?_
          refine g_sub (L' := [(0, .ref (eA E b)), (1, .int one), (2, .int (balR S b one n)), (3, .int (nI n + 1))]) [1, 2, 3, 0] rfl ?_
          exact g_eq rfl (by first | (exact absurd (c_18.symm.trans c_38) (by decide)) | (simp [nI_1, balR, c_18, c_38])) rfl (ih_5 hlt_5)
        · refine g_aload_n (pc := 41) dX0_balanceOf_41 0 rfl rfl ?_
          refine g_iload_n (pc := 42) dX0_balanceOf_42 3 rfl rfl ?_
          refine g_invV (pc := 43) j_X0_creditorOf mw_X0_69 dX0_balanceOf_43 (rcv_X0 (by assumption)) (by rfl) (c_X0_creditorOf E S b (nI n) (by assumption) (by first | assumption | omega | rfl)) (Nat.le_of_ble_eq_true rfl) (Nat.le_of_ble_eq_true rfl) (by rfl) (Nat.le_of_ble_eq_true rfl) ?_
          refine g_iload_n (pc := 46) dX0_balanceOf_46 1 rfl rfl ?_
          refine g_icmp_ne (pc := 47) (tgt := 53) dX0_balanceOf_47 (by decide) (fun c_47 => ?_) (fun c_47 => ?_)
          · refine g_iinc (pc := 53) (L' := [(3, .int (nI n + 1)), (0, .ref (eA E b)), (1, .int one), (2, .int (balR S b one n))]) dX0_balanceOf_53 (k := 3) rfl (v := nI n + 1) rfl (Nat.le_of_ble_eq_true rfl) rfl ?_
            refine g_goto (pc := 56) (tgt := 5) dX0_balanceOf_56 (by decide) ?_
            refine g_sub (L' := [(0, .ref (eA E b)), (1, .int one), (2, .int (balR S b one n)), (3, .int (nI n + 1))]) [1, 2, 3, 0] rfl ?_
            exact g_eq rfl (by first | (exact absurd (c_18.symm.trans c_38) (by decide)) | (simp [nI_1, balR, c_18, c_38, c_47])) rfl (ih_5 hlt_5)
          · refine g_iinc (pc := 50) (L' := [(2, .int (balR S b one n + (-1))), (0, .ref (eA E b)), (1, .int one), (3, .int (nI n))]) dX0_balanceOf_50 (k := 2) rfl (v := balR S b one n + (-1)) rfl (Nat.le_of_ble_eq_true rfl) rfl ?_
            refine g_iinc (pc := 53) (L' := [(3, .int (nI n + 1)), (2, .int (balR S b one n + (-1))), (0, .ref (eA E b)), (1, .int one)]) dX0_balanceOf_53 (k := 3) rfl (v := nI n + 1) rfl (Nat.le_of_ble_eq_true rfl) rfl ?_
            refine g_goto (pc := 56) (tgt := 5) dX0_balanceOf_56 (by decide) ?_
            refine g_sub (L' := [(0, .ref (eA E b)), (1, .int one), (2, .int (balR S b one n + (-1))), (3, .int (nI n + 1))]) [2, 3, 1, 0] rfl ?_
            exact g_eq rfl (by first | (exact absurd (c_18.symm.trans c_38) (by decide)) | (simp [nI_1, balR, c_18, c_38, eq_true c_47])) rfl (ih_5 hlt_5)
      · refine g_aload_n (pc := 21) dX0_balanceOf_21 0 rfl rfl ?_
        refine g_iload_n (pc := 22) dX0_balanceOf_22 3 rfl rfl ?_
        refine g_invV (pc := 23) j_X0_owerOf mw_X0_66 dX0_balanceOf_23 (rcv_X0 (by assumption)) (by rfl) (c_X0_owerOf E S b (nI n) (by assumption) (by first | assumption | omega | rfl)) (Nat.le_of_ble_eq_true rfl) (Nat.le_of_ble_eq_true rfl) (by rfl) (Nat.le_of_ble_eq_true rfl) ?_
        refine g_iload_n (pc := 26) dX0_balanceOf_26 1 rfl rfl ?_
        refine g_icmp_ne (pc := 27) (tgt := 33) dX0_balanceOf_27 (by decide) (fun c_27 => ?_) (fun c_27 => ?_)
        · refine g_aload_n (pc := 33) dX0_balanceOf_33 0 rfl rfl ?_
          refine g_iload_n (pc := 34) dX0_balanceOf_34 3 rfl rfl ?_
          refine g_invV (pc := 35) j_X0_isOwing mw_X0_103 dX0_balanceOf_35 (rcv_X0 (by assumption)) (by rfl) (c_X0_isOwing E S b (nI n) (by assumption) (by first | assumption | omega | rfl)) (Nat.le_of_ble_eq_true rfl) (Nat.le_of_ble_eq_true rfl) (by rfl) (Nat.le_of_ble_eq_true rfl) ?_
          refine g_b_eq (pc := 38) (tgt := 53) dX0_balanceOf_38 (by decide) (fun c_38 => ?_) (fun c_38 => ?_)
          · refine g_iinc (pc := 53) (L' := [(3, .int (nI n + 1)), (0, .ref (eA E b)), (1, .int one), (2, .int (balR S b one n))]) dX0_balanceOf_53 (k := 3) rfl (v := nI n + 1) rfl (Nat.le_of_ble_eq_true rfl) rfl ?_
            refine g_goto (pc := 56) (tgt := 5) dX0_balanceOf_56 (by decide) ?_
            refine g_sub (L' := [(0, .ref (eA E b)), (1, .int one), (2, .int (balR S b one n)), (3, .int (nI n + 1))]) [1, 2, 3, 0] rfl ?_
            exact g_eq rfl (by first | (exact absurd (c_18.symm.trans c_38) (by decide)) | (simp [nI_1, balR, c_18, c_27, c_38])) rfl (ih_5 hlt_5)
          · refine g_aload_n (pc := 41) dX0_balanceOf_41 0 rfl rfl ?_
            refine g_iload_n (pc := 42) dX0_balanceOf_42 3 rfl rfl ?_
            refine g_invV (pc := 43) j_X0_creditorOf mw_X0_69 dX0_balanceOf_43 (rcv_X0 (by assumption)) (by rfl) (c_X0_creditorOf E S b (nI n) (by assumption) (by first | assumption | omega | rfl)) (Nat.le_of_ble_eq_true rfl) (Nat.le_of_ble_eq_true rfl) (by rfl) (Nat.le_of_ble_eq_true rfl) ?_
            refine g_iload_n (pc := 46) dX0_balanceOf_46 1 rfl rfl ?_
            refine g_icmp_ne (pc := 47) (tgt := 53) dX0_balanceOf_47 (by decide) (fun c_47 => ?_) (fun c_47 => ?_)
            · refine g_iinc (pc := 53) (L' := [(3, .int (nI n + 1)), (0, .ref (eA E b)), (1, .int one), (2, .int (balR S b one n))]) dX0_balanceOf_53 (k := 3) rfl (v := nI n + 1) rfl (Nat.le_of_ble_eq_true rfl) rfl ?_
              refine g_goto (pc := 56) (tgt := 5) dX0_balanceOf_56 (by decide) ?_
              refine g_sub (L' := [(0, .ref (eA E b)), (1, .int one), (2, .int (balR S b one n)), (3, .int (nI n + 1))]) [1, 2, 3, 0] rfl ?_
              exact g_eq rfl (by first | (exact absurd (c_18.symm.trans c_38) (by decide)) | (simp [nI_1, balR, c_18, c_27, c_38, c_47])) rfl (ih_5 hlt_5)
            · refine g_iinc (pc := 50) (L' := [(2, .int (balR S b one n + (-1))), (0, .ref (eA E b)), (1, .int one), (3, .int (nI n))]) dX0_balanceOf_50 (k := 2) rfl (v := balR S b one n + (-1)) rfl (Nat.le_of_ble_eq_true rfl) rfl ?_
              refine g_iinc (pc := 53) (L' := [(3, .int (nI n + 1)), (2, .int (balR S b one n + (-1))), (0, .ref (eA E b)), (1, .int one)]) dX0_balanceOf_53 (k := 3) rfl (v := nI n + 1) rfl (Nat.le_of_ble_eq_true rfl) rfl ?_
              refine g_goto (pc := 56) (tgt := 5) dX0_balanceOf_56 (by decide) ?_
              refine g_sub (L' := [(0, .ref (eA E b)), (1, .int one), (2, .int (balR S b one n + (-1))), (3, .int (nI n + 1))]) [2, 3, 1, 0] rfl ?_
              exact g_eq rfl (by first | (exact absurd (c_18.symm.trans c_38) (by decide)) | (simp [nI_1, balR, c_18, c_27, c_38, eq_true c_47])) rfl (ih_5 hlt_5)
        · refine g_iinc (pc := 30) (L' := [(2, .int (balR S b one n + 1)), (0, .ref (eA E b)), (1, .int one), (3, .int (nI n))]) dX0_balanceOf_30 (k := 2) rfl (v := balR S b one n + 1) rfl (Nat.le_of_ble_eq_true rfl) rfl ?_
          refine g_aload_n (pc := 33) dX0_balanceOf_33 1 rfl rfl ?_
          refine g_iload_n (pc := 34) dX0_balanceOf_34 3 rfl rfl ?_
          refine g_invV (pc := 35) j_X0_isOwing mw_X0_103 dX0_balanceOf_35 (rcv_X0 (by assumption)) (by rfl) (c_X0_isOwing E S b (nI n) (by assumption) (by first | assumption | omega | rfl)) (Nat.le_of_ble_eq_true rfl) (Nat.le_of_ble_eq_true rfl) (by rfl) (Nat.le_of_ble_eq_true rfl) ?_
          refine g_b_eq (pc := 38) (tgt := 53) dX0_balanceOf_38 (by decide) (fun c_38 => ?_) (fun c_38 => ?_)
          · refine g_iinc (pc := 53) (L' := [(3, .int (nI n + 1)), (2, .int (balR S b one n + 1)), (0, .ref (eA E b)), (1, .int one)]) dX0_balanceOf_53 (k := 3) rfl (v := nI n + 1) rfl (Nat.le_of_ble_eq_true rfl) rfl ?_
            refine g_goto (pc := 56) (tgt := 5) dX0_balanceOf_56 (by decide) ?_
            refine g_sub (L' := [(0, .ref (eA E b)), (1, .int one), (2, .int (balR S b one n + 1)), (3, .int (nI n + 1))]) [2, 3, 1, 0] rfl ?_
            exact g_eq rfl (by first | (exact absurd (c_18.symm.trans c_38) (by decide)) | (simp [nI_1, balR, c_18, eq_true c_27, c_38])) rfl (ih_5 hlt_5)
          · refine g_aload_n (pc := 41) dX0_balanceOf_41 1 rfl rfl ?_
            refine g_iload_n (pc := 42) dX0_balanceOf_42 3 rfl rfl ?_
            refine g_invV (pc := 43) j_X0_creditorOf mw_X0_69 dX0_balanceOf_43 (rcv_X0 (by assumption)) (by rfl) (c_X0_creditorOf E S b (nI n) (by assumption) (by first | assumption | omega | rfl)) (Nat.le_of_ble_eq_true rfl) (Nat.le_of_ble_eq_true rfl) (by rfl) (Nat.le_of_ble_eq_true rfl) ?_
            refine g_iload_n (pc := 46) dX0_balanceOf_46 2 rfl rfl ?_
            refine g_icmp_ne (pc := 47) (tgt := 53) dX0_balanceOf_47 (by decide) (fun c_47 => ?_) (fun c_47 => ?_)
            · refine g_iinc (pc := 53) (L' := [(3, .int (nI n + 1)), (2, .int (balR S b one n + 1)), (0, .ref (eA E b)), (1, .int one)]) dX0_balanceOf_53 (k := 3) rfl (v := nI n + 1) rfl (Nat.le_of_ble_eq_true rfl) rfl ?_
              refine g_goto (pc := 56) (tgt := 5) dX0_balanceOf_56 (by decide) ?_
              refine g_sub (L' := [(0, .ref (eA E b)), (1, .int one), (2, .int (balR S b one n + 1)), (3, .int (nI n + 1))]) [2, 3, 1, 0] rfl ?_
              exact g_eq rfl (by first | (exact absurd (c_18.symm.trans c_38) (by decide)) | (simp [nI_1, balR, c_18, eq_true c_27, c_38, c_47])) rfl (ih_5 hlt_5)
            · refine g_iinc (pc := 50) (L' := [(2, .int ((balR S b one n + 1) + (-1))), (0, .ref (eA E b)), (1, .int one), (3, .int (nI n))]) dX0_balanceOf_50 (k := 0) rfl (v := (balR S b one n + 1) + (-1)) rfl (Nat.le_of_ble_eq_true rfl) rfl ?_
              refine g_iinc (pc := 53) (L' := [(3, .int (nI n + 1)), (2, .int ((balR S b one n + 1) + (-1))), (0, .ref (eA E b)), (1, .int one)]) dX0_balanceOf_53 (k := 3) rfl (v := nI n + 1) rfl (Nat.le_of_ble_eq_true rfl) rfl ?_
              refine g_goto (pc := 56) (tgt := 5) dX0_balanceOf_56 (by decide) ?_
              refine g_sub (L' := [(0, .ref (eA E b)), (1, .int one), (2, .int ((balR S b one n + 1) + (-1))), (3, .int (nI n + 1))]) [2, 3, 1, 0] rfl ?_
              exact g_eq rfl (by first | (exact absurd (c_18.symm.trans c_38) (by decide)) | (simp [nI_1, balR, c_18, eq_true c_27, c_38, eq_true c_47])) rfl (ih_5 hlt_5)
  refine g_sub (L' := [(0, .ref (eA E b)), (1, .int one), (2, .int 100), (3, .int 0)]) [2, 3, 1, 0] rfl ?_
  exact g_eq rfl rfl rfl (H_5 0 (Nat.zero_le _))
set_option maxRecDepth 100000 in
set_option maxHeartbeats 4000000 in
theorem c_X0_clear (E : En) (S : St) (b : Nat) (hb : kd b = 0) : CTe E i_X0_clear S [.ref (eA E b)] (sI (sI (sI (sI S b 6 0) b 7 0) b 8 0) b 9 0) none := by
  refine ct_of [(0, .ref (eA E b))] (by decide +kernel) (Nat.le_of_ble_eq_true rfl) rfl (fun X hM => ?_)
  refine g_aload_n (pc := 0) dX0_clear_0 0 rfl rfl ?_
  refine g_iconst (pc := 1) (v := 0) dX0_clear_1 (by decide) ?_
  refine pf_X0_30 (pc := 2) (by assumption) rfl dX0_clear_2 ?_
  refine g_aload_n (pc := 5) dX0_clear_5 0 rfl rfl ?_
  refine g_iconst (pc := 6) (v := 0) dX0_clear_6 (by decide) ?_
  refine pf_X0_34 (pc := 7) (by assumption) rfl dX0_clear_7 ?_
  refine g_aload_n (pc := 10) dX0_clear_10 0 rfl rfl ?_
  refine g_iconst (pc := 11) (v := 0) dX0_clear_11 (by decide) ?_
  refine pf_X0_37 (pc := 12) (by assumption) rfl dX0_clear_12 ?_
  refine g_aload_n (pc := 15) dX0_clear_15 0 rfl rfl ?_
  refine g_iconst (pc := 16) (v := 0) dX0_clear_16 (by decide) ?_
  refine pf_X0_40 (pc := 17) (by assumption) rfl dX0_clear_17 ?_
  exact g_vret (pc := 20) hM rfl ⟨rfl, rfl⟩ dX0_clear_20
set_option maxRecDepth 100000 in
set_option maxHeartbeats 4000000 in
theorem c_X0_write (E : En) (S : St) (b : Nat) (w k z : Int32) (hb : kd b = 0) (hd : okD S b) : CTe E i_X0_write S [.ref (eA E b), .int w, .int k, .int z] (wriF S b w k z) none := by
  refine ct_of [(0, .ref (eA E b)), (1, .int w), (2, .int k), (3, .int z)] (by decide +kernel) (Nat.le_of_ble_eq_true rfl) rfl (fun X hM => ?_)
  refine g_aload_n (pc := 0) dX0_write_0 0 rfl rfl ?_
  refine gf_X0_40 (pc := 1) (by assumption) rfl dX0_write_1 ?_
  refine g_bipush (pc := 4) (v := 40) dX0_write_4 (by decide) ?_
  refine g_icmp_ge (pc := 6) (tgt := 38) dX0_write_6 (by decide) (fun c_6 => ?_) (fun c_6 => ?_)
  · have k_6 := Int32.not_lt.mpr c_6
    exact g_vret (pc := 38) hM rfl ⟨by first | (rw [wriF, if_pos k_6]; rfl) | (rw [wriF, if_neg k_6]), rfl⟩ dX0_write_38
  · have k_6 := Int32.not_le.mp c_6
    refine g_aload_n (pc := 9) dX0_write_9 0 rfl rfl ?_
    refine gf_X0_27 (pc := 10) (by assumption) rfl dX0_write_10 ?_
    refine g_aload_n (pc := 13) dX0_write_13 0 rfl rfl ?_
    refine gf_X0_40 (pc := 14) (by assumption) rfl dX0_write_14 ?_
    refine g_iload_n (pc := 17) dX0_write_17 1 rfl rfl ?_
    refine g_iconst (pc := 18) (v := 4) dX0_write_18 (by decide) ?_
    refine g_iload_n (pc := 19) dX0_write_19 2 rfl rfl ?_
    refine g_bipush (pc := 20) (v := 8) dX0_write_20 (by decide) ?_
    refine g_iload_n (pc := 22) dX0_write_22 3 rfl rfl ?_
    refine g_imul (pc := 23) dX0_write_23 ?_
    refine g_iadd (pc := 24) dX0_write_24 ?_
    refine g_imul (pc := 25) dX0_write_25 ?_
    refine g_iadd (pc := 26) dX0_write_26 ?_
    refine g_iast (pc := 27) (dnB S b) hd.1 (kd_b 5 (by assumption) (by omega)) (by rw [kd_bln5 hb]; have h1 := hd.1; have h2 := hd.2; have h3 : gI S b 9 < 40 := k_6; rw [h1] at h3; exact (nI_ltI (b := 40) (by omega) (by omega)).mp h3) (by rw [kd_bln5 hb]; omega) dX0_write_27 ?_
    refine g_aload_n (pc := 28) dX0_write_28 0 rfl rfl ?_
    refine g_dup (pc := 29) dX0_write_29 rfl ?_
    refine gf_X0_40 (pc := 30) (by assumption) rfl dX0_write_30 ?_
    refine g_iconst (pc := 33) (v := 1) dX0_write_33 (by decide) ?_
    refine g_iadd (pc := 34) dX0_write_34 ?_
    refine pf_X0_40 (pc := 35) (by assumption) rfl dX0_write_35 ?_
    exact g_vret (pc := 38) hM rfl ⟨by first | (rw [wriF, if_pos k_6]; rfl) | (rw [wriF, if_neg k_6]), rfl⟩ dX0_write_38
set_option maxRecDepth 100000 in
set_option maxHeartbeats 4000000 in
theorem c_X0_passNight (E : En) (S : St) (b : Nat) (hb : kd b = 0) (hd : okD S b) : CTe E i_X0_passNight S [.ref (eA E b)] (passF S b) none := by
  refine ct_of [(0, .ref (eA E b))] (by decide +kernel) (Nat.le_of_ble_eq_true rfl) rfl (fun X hM => ?_)
  refine g_aload_n (pc := 0) dX0_passNight_0 0 rfl rfl ?_
  refine g_iconst (pc := 1) (v := 0) dX0_passNight_1 (by decide) ?_
  refine g_iconst (pc := 2) (v := 0) dX0_passNight_2 (by decide) ?_
  refine g_iconst (pc := 3) (v := 0) dX0_passNight_3 (by decide) ?_
  refine g_invN (pc := 4) j_X0_write mw_X0_106 dX0_passNight_4 (rcv_X0 (by assumption)) (by rfl) (c_X0_write E S b 0 0 0 (by assumption) (by first | assumption | omega | rfl)) (Nat.le_of_ble_eq_true rfl) (Nat.le_of_ble_eq_true rfl) (by rfl) (Nat.le_of_ble_eq_true rfl) ?_
  refine g_aload_n (pc := 7) dX0_passNight_7 0 rfl rfl ?_
  refine g_dup (pc := 8) dX0_passNight_8 rfl ?_
  refine gf_X0_37 (pc := 9) (by assumption) rfl dX0_passNight_9 ?_
  refine g_iconst (pc := 12) (v := 1) dX0_passNight_12 (by decide) ?_
  refine g_iadd (pc := 13) dX0_passNight_13 ?_
  refine pf_X0_37 (pc := 14) (by assumption) rfl dX0_passNight_14 ?_
  exact g_vret (pc := 17) hM rfl ⟨rfl, rfl⟩ dX0_passNight_17
set_option maxRecDepth 100000 in
set_option maxHeartbeats 4000000 in
theorem c_X0_putOut (E : En) (S : St) (b : Nat) (k : Int32) (hb : kd b = 0) (hd : okD S b) : CTe E i_X0_putOut S [.ref (eA E b), .int k] (putF S b k) none := by
  refine ct_of [(0, .ref (eA E b)), (1, .int k)] (by decide +kernel) (Nat.le_of_ble_eq_true rfl) rfl (fun X hM => ?_)
  refine g_aload_n (pc := 0) dX0_putOut_0 0 rfl rfl ?_
  refine g_iload_n (pc := 1) dX0_putOut_1 1 rfl rfl ?_
  refine g_invV (pc := 2) j_X0_has mw_X0_49 dX0_putOut_2 (rcv_X0 (by assumption)) (by rfl) (c_X0_has E S b k (by assumption)) (Nat.le_of_ble_eq_true rfl) (Nat.le_of_ble_eq_true rfl) (by rfl) (Nat.le_of_ble_eq_true rfl) ?_
  refine g_b_eq (pc := 5) (tgt := 29) dX0_putOut_5 (by decide) (fun c_5 => ?_) (fun c_5 => ?_)
  · exact g_vret (pc := 29) hM rfl ⟨by first | (rw [putF, if_pos c_5]; done) | (simp [putF, c_5]; done), rfl⟩ dX0_putOut_29
  · refine g_aload_n (pc := 8) dX0_putOut_8 0 rfl rfl ?_
    refine g_iconst (pc := 9) (v := 1) dX0_putOut_9 (by decide) ?_
    refine g_iload_n (pc := 10) dX0_putOut_10 1 rfl rfl ?_
    refine g_iconst (pc := 11) (v := 0) dX0_putOut_11 (by decide) ?_
    refine g_invN (pc := 12) j_X0_write mw_X0_106 dX0_putOut_12 (rcv_X0 (by assumption)) (by rfl) (c_X0_write E S b 1 k 0 (by assumption) (by first | assumption | omega | rfl)) (Nat.le_of_ble_eq_true rfl) (Nat.le_of_ble_eq_true rfl) (by rfl) (Nat.le_of_ble_eq_true rfl) ?_
    refine g_aload_n (pc := 15) dX0_putOut_15 0 rfl rfl ?_
    refine g_dup (pc := 16) dX0_putOut_16 rfl ?_
    refine gf_X0_34 (pc := 17) (by assumption) rfl dX0_putOut_17 ?_
    refine g_iconst (pc := 20) (v := 1) dX0_putOut_20 (by decide) ?_
    refine g_iload_n (pc := 21) dX0_putOut_21 1 rfl rfl ?_
    refine g_ishl (pc := 22) dX0_putOut_22 ?_
    refine g_iconst (pc := 23) (v := -1) dX0_putOut_23 (by decide) ?_
    refine g_ixor (pc := 24) dX0_putOut_24 ?_
    refine g_iand (pc := 25) dX0_putOut_25 ?_
    refine pf_X0_34 (pc := 26) (by assumption) rfl dX0_putOut_26 ?_
    exact g_vret (pc := 29) hM rfl ⟨by first | (rw [putF, if_pos c_5]; done) | (simp [putF, c_5]; done), rfl⟩ dX0_putOut_29
set_option maxRecDepth 100000 in
set_option maxHeartbeats 4000000 in
theorem c_X0_lightAgain (E : En) (S : St) (b : Nat) (k : Int32) (hb : kd b = 0) (hd : okD S b) : CTe E i_X0_lightAgain S [.ref (eA E b), .int k] (ligF S b k) none := by
  refine ct_of [(0, .ref (eA E b)), (1, .int k)] (by decide +kernel) (Nat.le_of_ble_eq_true rfl) rfl (fun X hM => ?_)
  refine g_aload_n (pc := 0) dX0_lightAgain_0 0 rfl rfl ?_
  refine g_iload_n (pc := 1) dX0_lightAgain_1 1 rfl rfl ?_
  refine g_invV (pc := 2) j_X0_has mw_X0_49 dX0_lightAgain_2 (rcv_X0 (by assumption)) (by rfl) (c_X0_has E S b k (by assumption)) (Nat.le_of_ble_eq_true rfl) (Nat.le_of_ble_eq_true rfl) (by rfl) (Nat.le_of_ble_eq_true rfl) ?_
  refine g_b_eq (pc := 5) (tgt := 27) dX0_lightAgain_5 (by decide) (fun c_5 => ?_) (fun c_5 => ?_)
  · exact g_vret (pc := 27) hM rfl ⟨by first | (rw [ligF, if_pos c_5]; done) | (simp [ligF, c_5]; done), rfl⟩ dX0_lightAgain_27
  · refine g_aload_n (pc := 8) dX0_lightAgain_8 0 rfl rfl ?_
    refine g_iconst (pc := 9) (v := 2) dX0_lightAgain_9 (by decide) ?_
    refine g_iload_n (pc := 10) dX0_lightAgain_10 1 rfl rfl ?_
    refine g_iconst (pc := 11) (v := 0) dX0_lightAgain_11 (by decide) ?_
    refine g_invN (pc := 12) j_X0_write mw_X0_106 dX0_lightAgain_12 (rcv_X0 (by assumption)) (by rfl) (c_X0_write E S b 2 k 0 (by assumption) (by first | assumption | omega | rfl)) (Nat.le_of_ble_eq_true rfl) (Nat.le_of_ble_eq_true rfl) (by rfl) (Nat.le_of_ble_eq_true rfl) ?_
    refine g_aload_n (pc := 15) dX0_lightAgain_15 0 rfl rfl ?_
    refine g_dup (pc := 16) dX0_lightAgain_16 rfl ?_
    refine gf_X0_34 (pc := 17) (by assumption) rfl dX0_lightAgain_17 ?_
    refine g_iconst (pc := 20) (v := 1) dX0_lightAgain_20 (by decide) ?_
    refine g_iload_n (pc := 21) dX0_lightAgain_21 1 rfl rfl ?_
    refine g_ishl (pc := 22) dX0_lightAgain_22 ?_
    refine g_ior (pc := 23) dX0_lightAgain_23 ?_
    refine pf_X0_34 (pc := 24) (by assumption) rfl dX0_lightAgain_24 ?_
    exact g_vret (pc := 27) hM rfl ⟨by first | (rw [ligF, if_pos c_5]; done) | (simp [ligF, c_5]; done), rfl⟩ dX0_lightAgain_27
theorem ln3 {b : Nat} (hb : kd b = 0) {j : Nat} (h : j < 8) : j < ln (34 + 6 * (b - 30) + 3) := by rw [kd_bln 3 hb (by omega)]; exact h
theorem lnb {b : Nat} (i : Nat) (hb : kd b = 0) (hi : i ≤ 4) : ln (34 + 6 * (b - 30) + i) < 2 ^ 31 := by rw [kd_bln i hb hi]; omega
set_option maxRecDepth 100000 in
set_option maxHeartbeats 4000000 in
theorem c_X0_carryTo (E : En) (S : St) (b : Nat) (k p : Int32) (hb : kd b = 0) (hz : okB S b) (hd : okD S b) : CTe E i_X0_carryTo S [.ref (eA E b), .int k, .int p] (carF S b k p) none := by
  refine ct_of [(0, .ref (eA E b)), (1, .int k), (2, .int p)] (by decide +kernel) (Nat.le_of_ble_eq_true rfl) rfl (fun X hM => ?_)
  refine g_aload_n (pc := 0) dX0_carryTo_0 0 rfl rfl ?_
  refine g_iload_n (pc := 1) dX0_carryTo_1 1 rfl rfl ?_
  refine g_invV (pc := 2) j_X0_has mw_X0_49 dX0_carryTo_2 (rcv_X0 (by assumption)) (by rfl) (c_X0_has E S b k (by assumption)) (Nat.le_of_ble_eq_true rfl) (Nat.le_of_ble_eq_true rfl) (by rfl) (Nat.le_of_ble_eq_true rfl) ?_
  refine g_b_eq (pc := 5) (tgt := 27) dX0_carryTo_5 (by decide) (fun c_5 => ?_) (fun c_5 => ?_)
  · exact g_vret (pc := 27) hM rfl ⟨by first | (rw [carF, if_pos c_5, hj3]; done) | (simp [carF, c_5]; done), rfl⟩ dX0_carryTo_27
  · obtain ⟨j, hj1, hj2, hj3, hj4⟩ := has_nat hz c_5
    refine g_aload_n (pc := 8) dX0_carryTo_8 0 rfl rfl ?_
    refine g_iconst (pc := 9) (v := 3) dX0_carryTo_9 (by decide) ?_
    refine g_iload_n (pc := 10) dX0_carryTo_10 1 rfl rfl ?_
    refine g_aload_n (pc := 11) dX0_carryTo_11 0 rfl rfl ?_
    refine gf_X0_21 (pc := 12) (by assumption) rfl dX0_carryTo_12 ?_
    refine g_iload_n (pc := 15) dX0_carryTo_15 1 rfl rfl ?_
    refine g_iald (pc := 16) j hj1 (kd_b 3 (by assumption) (by omega)) (ln3 hb hj4) (lnb 3 hb (by omega)) dX0_carryTo_16 ?_
    refine g_invN (pc := 17) j_X0_write mw_X0_106 dX0_carryTo_17 (rcv_X0 (by assumption)) (by rfl) (c_X0_write E S b 3 k (gA S (34 + 6 * (b - 30) + 3) j) (by assumption) (by first | assumption | omega | rfl)) (Nat.le_of_ble_eq_true rfl) (Nat.le_of_ble_eq_true rfl) (by rfl) (Nat.le_of_ble_eq_true rfl) ?_
    refine g_aload_n (pc := 20) dX0_carryTo_20 0 rfl rfl ?_
    refine gf_X0_21 (pc := 21) (by assumption) rfl dX0_carryTo_21 ?_
    refine g_iload_n (pc := 24) dX0_carryTo_24 1 rfl rfl ?_
    refine g_iload_n (pc := 25) dX0_carryTo_25 2 rfl rfl ?_
    refine g_iast (pc := 26) j hj1 (kd_b 3 (by assumption) (by omega)) (ln3 hb hj4) (lnb 3 hb (by omega)) dX0_carryTo_26 ?_
    exact g_vret (pc := 27) hM rfl ⟨by first | (rw [carF, if_pos c_5, hj3]; done) | (simp [carF, c_5]; done), rfl⟩ dX0_carryTo_27
set_option maxRecDepth 100000 in
set_option maxHeartbeats 4000000 in
theorem c_X0_takeBack (E : En) (S : St) (b : Nat) (deed : Int32) (hb : kd b = 0) (hz : okB S b) : CTe E i_X0_takeBack S [.ref (eA E b), .int deed] (tbF S b deed) none := by
  refine ct_of [(0, .ref (eA E b)), (1, .int deed)] (by decide +kernel) (Nat.le_of_ble_eq_true rfl) rfl (fun X hM => ?_)
  refine g_iload_n (pc := 0) dX0_takeBack_0 1 rfl rfl ?_
  refine g_iconst (pc := 1) (v := 4) dX0_takeBack_1 (by decide) ?_
  refine g_idiv (pc := 2) dX0_takeBack_2 (by decide) ?_
  refine g_bipush (pc := 3) (v := 8) dX0_takeBack_3 (by decide) ?_
  refine g_irem (pc := 5) dX0_takeBack_5 (by decide) ?_
  refine g_istore_n (pc := 6) (L' := [(2, .int ((deed / 4) - (deed / 4) / 8 * 8)), (0, .ref (eA E b)), (1, .int deed)]) dX0_takeBack_6 rfl (Nat.le_of_ble_eq_true rfl) rfl ?_
  refine g_iload_n (pc := 7) dX0_takeBack_7 2 rfl rfl ?_
  refine g_iconst (pc := 8) (v := 4) dX0_takeBack_8 (by decide) ?_
  refine g_irem (pc := 9) dX0_takeBack_9 (by decide) ?_
  rcases tsw0_2 (deed - deed / 4 * 4) with c_10 | c_10 | c_10 | c_10
  · refine g_tsIn (pc := 10) (tgt := 36) dX0_takeBack_10 (by rw [c_10]; decide) (by rw [c_10]; decide) (by rw [c_10]; rfl) (by decide) ?_
    refine g_aload_n (pc := 36) dX0_takeBack_36 1 rfl rfl ?_
    refine g_dup (pc := 37) dX0_takeBack_37 rfl ?_
    refine gf_X0_37 (pc := 38) (by assumption) rfl dX0_takeBack_38 ?_
    refine g_iconst (pc := 41) (v := 1) dX0_takeBack_41 (by decide) ?_
    refine g_isub (pc := 42) dX0_takeBack_42 ?_
    refine pf_X0_37 (pc := 43) (by assumption) rfl dX0_takeBack_43 ?_
    refine g_goto (pc := 46) (tgt := 101) dX0_takeBack_46 (by decide) ?_
    exact g_vret (pc := 101) hM rfl ⟨by first | (rw [tbF_out c_10, tbK, if_pos c_86, hj3]; done) | (rw [tbF_out c_10, tbK, c_86]; rfl) | (simp [tbF, tbK, c_10]; done), rfl⟩ dX0_takeBack_101
  · refine g_tsIn (pc := 10) (tgt := 49) dX0_takeBack_10 (by rw [c_10]; decide) (by rw [c_10]; decide) (by rw [c_10]; rfl) (by decide) ?_
    refine g_aload_n (pc := 49) dX0_takeBack_49 1 rfl rfl ?_
    refine g_dup (pc := 50) dX0_takeBack_50 rfl ?_
    refine gf_X0_34 (pc := 51) (by assumption) rfl dX0_takeBack_51 ?_
    refine g_iconst (pc := 54) (v := 1) dX0_takeBack_54 (by decide) ?_
    refine g_iload_n (pc := 55) dX0_takeBack_55 0 rfl rfl ?_
    refine g_ishl (pc := 56) dX0_takeBack_56 ?_
    refine g_ior (pc := 57) dX0_takeBack_57 ?_
    refine pf_X0_34 (pc := 58) (by assumption) rfl dX0_takeBack_58 ?_
    refine g_goto (pc := 61) (tgt := 101) dX0_takeBack_61 (by decide) ?_
    exact g_vret (pc := 101) hM rfl ⟨by first | (rw [tbF_out c_10, tbK, if_pos c_86, hj3]; done) | (rw [tbF_out c_10, tbK, c_86]; rfl) | (simp [tbF, tbK, c_10]; done), rfl⟩ dX0_takeBack_101
  · refine g_tsIn (pc := 10) (tgt := 64) dX0_takeBack_10 (by rw [c_10]; decide) (by rw [c_10]; decide) (by rw [c_10]; rfl) (by decide) ?_
    refine g_aload_n (pc := 64) dX0_takeBack_64 1 rfl rfl ?_
    refine g_dup (pc := 65) dX0_takeBack_65 rfl ?_
    refine gf_X0_34 (pc := 66) (by assumption) rfl dX0_takeBack_66 ?_
    refine g_iconst (pc := 69) (v := 1) dX0_takeBack_69 (by decide) ?_
    refine g_iload_n (pc := 70) dX0_takeBack_70 0 rfl rfl ?_
    refine g_ishl (pc := 71) dX0_takeBack_71 ?_
    refine g_iconst (pc := 72) (v := -1) dX0_takeBack_72 (by decide) ?_
    refine g_ixor (pc := 73) dX0_takeBack_73 ?_
    refine g_iand (pc := 74) dX0_takeBack_74 ?_
    refine pf_X0_34 (pc := 75) (by assumption) rfl dX0_takeBack_75 ?_
    refine g_goto (pc := 78) (tgt := 101) dX0_takeBack_78 (by decide) ?_
    exact g_vret (pc := 101) hM rfl ⟨by first | (rw [tbF_out c_10, tbK, if_pos c_86, hj3]; done) | (rw [tbF_out c_10, tbK, c_86]; rfl) | (simp [tbF, tbK, c_10]; done), rfl⟩ dX0_takeBack_101
  · refine g_tsOut (pc := 10) (tgt := 81) dX0_takeBack_10 c_10 (by decide) ?_
    refine g_aload_n (pc := 81) dX0_takeBack_81 1 rfl rfl ?_
    refine g_iload_n (pc := 82) dX0_takeBack_82 0 rfl rfl ?_
    refine g_invV (pc := 83) j_X0_has mw_X0_49 dX0_takeBack_83 (rcv_X0 (by assumption)) (by rfl) (c_X0_has E S b ((deed / 4) - (deed / 4) / 8 * 8) (by assumption)) (Nat.le_of_ble_eq_true rfl) (Nat.le_of_ble_eq_true rfl) (by rfl) (Nat.le_of_ble_eq_true rfl) ?_
    refine g_b_eq (pc := 86) (tgt := 101) dX0_takeBack_86 (by decide) (fun c_86 => ?_) (fun c_86 => ?_)
    · exact g_vret (pc := 101) hM rfl ⟨by first | (rw [tbF_out c_10, tbK, if_pos c_86, hj3]; done) | (rw [tbF_out c_10, tbK, c_86]; rfl) | (simp [tbF, tbK, c_86]; done), rfl⟩ dX0_takeBack_101
    · obtain ⟨j, hj1, hj2, hj3, hj4⟩ := has_nat hz c_86
      refine g_aload_n (pc := 89) dX0_takeBack_89 1 rfl rfl ?_
      refine gf_X0_21 (pc := 90) (by assumption) rfl dX0_takeBack_90 ?_
      refine g_iload_n (pc := 93) dX0_takeBack_93 0 rfl rfl ?_
      refine g_iload_n (pc := 94) dX0_takeBack_94 2 rfl rfl ?_
      refine g_iconst (pc := 95) (v := 4) dX0_takeBack_95 (by decide) ?_
      refine g_idiv (pc := 96) dX0_takeBack_96 (by decide) ?_
      refine g_bipush (pc := 97) (v := 8) dX0_takeBack_97 (by decide) ?_
      refine g_idiv (pc := 99) dX0_takeBack_99 (by decide) ?_
      refine g_iast (pc := 100) j hj1 (kd_b 3 (by assumption) (by omega)) (ln3 hb hj4) (lnb 3 hb (by omega)) dX0_takeBack_100 ?_
      exact g_vret (pc := 101) hM rfl ⟨by first | (rw [tbF_out c_10, tbK, if_pos c_86, hj3]; done) | (rw [tbF_out c_10, tbK, c_86]; rfl) | (simp [tbF, tbK, c_86]; done), rfl⟩ dX0_takeBack_101
set_option maxRecDepth 100000 in
set_option maxHeartbeats 4000000 in
theorem c_X0_takeBackFrom (E : En) (S : St) (b : Nat) (n0 M : Nat) (hb : kd b = 0) (hz : okB S b) (hd : okD S b) (h9 : gI S b 9 = nI (n0 + M)) (hnM : n0 + M ≤ 40) : CTe E i_X0_takeBackFrom S [.ref (eA E b), .int (nI n0)] (undoF b M S) none := by
  refine ct_of [(0, .ref (eA E b)), (1, .int (nI n0))] (by decide +kernel) (Nat.le_of_ble_eq_true rfl) rfl (fun X hM => ?_)
  have H_0 : ∀ (m : Nat) (T : St), n0 + m ≤ 40 → okB T b → okD T b → gI T b 9 = nI (n0 + m) → undoF b m T = undoF b M S → G E X i_X0_takeBackFrom T 0 [(0, .ref (eA E b)), (1, .int (nI n0))] [] := by
    intro m
    induction m with
    | zero =>
      intro T hle hzT hdT h9 hu
      refine g_aload_n (pc := 0) dX0_takeBackFrom_0 0 rfl rfl ?_
      refine gf_X0_40 (pc := 1) (by assumption) rfl dX0_takeBackFrom_1 ?_
      refine g_iload_n (pc := 4) dX0_takeBackFrom_4 1 rfl rfl ?_
      refine g_icmp_le (pc := 5) (tgt := 41) dX0_takeBackFrom_5 (by decide) (fun c_5 => ?_) (fun c_5 => ?_)
      · have k_5 := Int32.not_lt.mpr c_5
        exact g_vret (pc := 41) hM rfl ⟨hu, rfl⟩ dX0_takeBackFrom_41
      · have k_5 := Int32.not_le.mp c_5
        exact absurd (by rw [h9]; exact nI_le (by omega) (by omega)) c_5
    | succ m ih =>
      intro T hle hzT hdT h9 hu
      have hdn : dnB T b = n0 + (m + 1) := by unfold dnB; rw [h9]; exact nI_clamp (by omega)
      refine g_aload_n (pc := 0) dX0_takeBackFrom_0 0 rfl rfl ?_
      refine gf_X0_40 (pc := 1) (by assumption) rfl dX0_takeBackFrom_1 ?_
      refine g_iload_n (pc := 4) dX0_takeBackFrom_4 1 rfl rfl ?_
      refine g_icmp_le (pc := 5) (tgt := 41) dX0_takeBackFrom_5 (by decide) (fun c_5 => ?_) (fun c_5 => ?_)
      · have k_5 := Int32.not_lt.mpr c_5
        exact absurd (by rw [h9] at c_5; exact (nI_leI (by omega) (by omega)).mp c_5) (by omega)
      · have k_5 := Int32.not_le.mp c_5
        refine g_aload_n (pc := 8) dX0_takeBackFrom_8 0 rfl rfl ?_
        refine gf_X0_40 (pc := 9) (by assumption) rfl dX0_takeBackFrom_9 ?_
        refine g_if_le (pc := 12) (tgt := 41) dX0_takeBackFrom_12 (by decide) (fun c_12 => ?_) (fun c_12 => ?_)
        · have k_12 := Int32.not_lt.mpr c_12
          exact absurd (by rw [h9, ← nI_0] at c_12; exact (nI_leI (by omega) (by omega)).mp c_12) (by omega)
        · have k_12 := Int32.not_le.mp c_12
          refine g_aload_n (pc := 15) dX0_takeBackFrom_15 0 rfl rfl ?_
          refine g_dup (pc := 16) dX0_takeBackFrom_16 rfl ?_
          refine gf_X0_40 (pc := 17) (by assumption) rfl dX0_takeBackFrom_17 ?_
          refine g_iconst (pc := 20) (v := 1) dX0_takeBackFrom_20 (by decide) ?_
          refine g_isub (pc := 21) dX0_takeBackFrom_21 ?_
          refine pf_X0_40 (pc := 22) (by assumption) rfl dX0_takeBackFrom_22 ?_
          refine g_aload_n (pc := 25) dX0_takeBackFrom_25 0 rfl rfl ?_
          refine g_aload_n (pc := 26) dX0_takeBackFrom_26 0 rfl rfl ?_
          refine gf_X0_27 (pc := 27) (by assumption) rfl dX0_takeBackFrom_27 ?_
          refine g_aload_n (pc := 30) dX0_takeBackFrom_30 0 rfl rfl ?_
          refine gf_X0_40 (pc := 31) (by assumption) rfl dX0_takeBackFrom_31 ?_
          refine g_iald (pc := 34) (n0 + m) (by rw [gI_same, h9]; exact nI_pred _) (kd_b 5 (by assumption) (by omega)) (by rw [kd_bln5 hb]; omega) (by rw [kd_bln5 hb]; omega) dX0_takeBackFrom_34 ?_
          refine g_invN (pc := 35) j_X0_takeBack mw_X0_132 dX0_takeBackFrom_35 (rcv_X0 (by assumption)) (by rfl) (c_X0_takeBack E (sI T b 9 (gI T b 9 - 1)) b (gA (sI T b 9 (gI T b 9 - 1)) (34 + 6 * (b - 30) + 5) (n0 + m)) (by assumption) (okB_of (by rw [gI_ne (by omega)]) hzT)) (Nat.le_of_ble_eq_true rfl) (Nat.le_of_ble_eq_true rfl) (by rfl) (Nat.le_of_ble_eq_true rfl) ?_
          refine g_goto (pc := 38) (tgt := 0) dX0_takeBackFrom_38 (by decide) ?_
          refine g_sub (L' := [(0, .ref (eA E b)), (1, .int (nI n0))]) [0, 1] rfl ?_
          have e1 : stepF b T = tbF (sI T b 9 (gI T b 9 - 1)) b (gA (sI T b 9 (gI T b 9 - 1)) (34 + 6 * (b - 30) + 5) (n0 + m)) := by unfold stepF; rw [hdn]; rfl
          rw [← e1]
          have e2 : gI (stepF b T) b 9 = nI (n0 + m) := by rw [e1, gI_tbF _ _ _ _ _ (by omega) (by omega), gI_same, h9]; exact nI_pred _
          have e3 : gI (stepF b T) b 6 = gI T b 6 := by rw [e1, gI_tbF _ _ _ _ _ (by omega) (by omega), gI_ne (by omega)]
          have e4 : dnB (stepF b T) b = n0 + m := by unfold dnB; rw [e2]; exact nI_clamp (by omega)
          exact ih (stepF b T) (by omega) (okB_of e3 hzT) (by unfold okD; rw [e4]; exact ⟨e2, by omega⟩) e2 hu
  exact H_0 M S hnM hz hd h9 rfl
def addF (S : St) (b : Nat) (kk ow cr pl fi : Int32) : St := let T_19 := sA S (34 + 6 * (b - 30)) (upd (gA S (34 + 6 * (b - 30))) (szB S b) kk); let T_29 := sA T_19 (34 + 6 * (b - 30) + 1) (upd (gA T_19 (34 + 6 * (b - 30) + 1)) (szB S b) ow); let T_39 := sA T_29 (34 + 6 * (b - 30) + 2) (upd (gA T_29 (34 + 6 * (b - 30) + 2)) (szB S b) cr); let T_50 := sA T_39 (34 + 6 * (b - 30) + 3) (upd (gA T_39 (34 + 6 * (b - 30) + 3)) (szB S b) pl); let T_61 := sA T_50 (34 + 6 * (b - 30) + 4) (upd (gA T_50 (34 + 6 * (b - 30) + 4)) (szB S b) fi); let T_76 := sI T_61 b 7 (gI T_61 b 7 ||| ((1 : Int32) <<< ((gI T_61 b 6) &&& 31))); sI T_76 b 6 (gI T_76 b 6 + 1)
set_option maxRecDepth 100000 in
set_option maxHeartbeats 4000000 in
theorem c_X0_add (E : En) (S : St) (b : Nat) (kk ow cr pl fi : Int32) (hb : kd b = 0) (hz : okB S b) : CTe E i_X0_add S [.ref (eA E b), .int kk, .int ow, .int cr, .int pl, .int fi] (if gI S b 6 < 8 then addF S b kk ow cr pl fi else S) none := by
  refine ct_of [(0, .ref (eA E b)), (1, .int kk), (2, .int ow), (3, .int cr), (4, .int pl), (5, .int fi)] (by decide +kernel) (Nat.le_of_ble_eq_true rfl) rfl (fun X hM => ?_)
  refine g_aload_n (pc := 0) dX0_add_0 0 rfl rfl ?_
  refine gf_X0_30 (pc := 1) (by assumption) rfl dX0_add_1 ?_
  refine g_bipush (pc := 4) (v := 8) dX0_add_4 (by decide) ?_
  refine g_icmp_ge (pc := 6) (tgt := 86) dX0_add_6 (by decide) (fun c_6 => ?_) (fun c_6 => ?_)
  · have k_6 := Int32.not_lt.mpr c_6
    exact g_vret (pc := 86) hM rfl ⟨by rw [if_neg k_6], rfl⟩ dX0_add_86
  · have k_6 := Int32.not_le.mp c_6
    have hz8 : szB S b < 8 := by have h3 := k_6; rw [hz.1] at h3; exact (nI_ltI (b := 8) (by have := hz.2; omega) (by omega)).mp h3
    refine g_aload_n (pc := 9) dX0_add_9 0 rfl rfl ?_
    refine gf_X0_9 (pc := 10) (by assumption) rfl dX0_add_10 ?_
    refine g_aload_n (pc := 13) dX0_add_13 0 rfl rfl ?_
    refine gf_X0_30 (pc := 14) (by assumption) rfl dX0_add_14 ?_
    refine g_iload_n (pc := 17) dX0_add_17 1 rfl rfl ?_
    refine g_iast (pc := 18) (szB S b) hz.1 (kd_b0 (by assumption)) (by rw [show (34 + 6 * (b - 30)) = 34 + 6 * (b - 30) + 0 from rfl, kd_bln 0 hb (by omega)]; exact hz8) (by rw [show (34 + 6 * (b - 30)) = 34 + 6 * (b - 30) + 0 from rfl, kd_bln 0 hb (by omega)]; omega) dX0_add_18 ?_
    obtain ⟨T_19, e_19⟩ : ∃ T : St, T = sA S (34 + 6 * (b - 30)) (upd (gA S (34 + 6 * (b - 30))) (szB S b) kk) := ⟨_, rfl⟩
    rw [← e_19]
    refine g_aload_n (pc := 19) dX0_add_19 0 rfl rfl ?_
    refine gf_X0_15 (pc := 20) (by assumption) rfl dX0_add_20 ?_
    refine g_aload_n (pc := 23) dX0_add_23 0 rfl rfl ?_
    refine gf_X0_30 (pc := 24) (by assumption) rfl dX0_add_24 ?_
    refine g_iload_n (pc := 27) dX0_add_27 2 rfl rfl ?_
    refine g_iast (pc := 28) (szB S b) (by rw [e_19]; exact hz.1) (kd_b 1 (by assumption) (by omega)) (by rw [kd_bln 1 hb (by omega)]; exact hz8) (by rw [kd_bln 1 hb (by omega)]; omega) dX0_add_28 ?_
    obtain ⟨T_29, e_29⟩ : ∃ T : St, T = sA T_19 (34 + 6 * (b - 30) + 1) (upd (gA T_19 (34 + 6 * (b - 30) + 1)) (szB S b) ow) := ⟨_, rfl⟩
    rw [← e_29]
    refine g_aload_n (pc := 29) dX0_add_29 0 rfl rfl ?_
    refine gf_X0_18 (pc := 30) (by assumption) rfl dX0_add_30 ?_
    refine g_aload_n (pc := 33) dX0_add_33 0 rfl rfl ?_
    refine gf_X0_30 (pc := 34) (by assumption) rfl dX0_add_34 ?_
    refine g_iload_n (pc := 37) dX0_add_37 3 rfl rfl ?_
    refine g_iast (pc := 38) (szB S b) (by rw [e_29, e_19]; exact hz.1) (kd_b 2 (by assumption) (by omega)) (by rw [kd_bln 2 hb (by omega)]; exact hz8) (by rw [kd_bln 2 hb (by omega)]; omega) dX0_add_38 ?_
    obtain ⟨T_39, e_39⟩ : ∃ T : St, T = sA T_29 (34 + 6 * (b - 30) + 2) (upd (gA T_29 (34 + 6 * (b - 30) + 2)) (szB S b) cr) := ⟨_, rfl⟩
    rw [← e_39]
    refine g_aload_n (pc := 39) dX0_add_39 0 rfl rfl ?_
    refine gf_X0_21 (pc := 40) (by assumption) rfl dX0_add_40 ?_
    refine g_aload_n (pc := 43) dX0_add_43 0 rfl rfl ?_
    refine gf_X0_30 (pc := 44) (by assumption) rfl dX0_add_44 ?_
    refine g_iload (pc := 47) dX0_add_47 4 rfl ?_
    refine g_iast (pc := 49) (szB S b) (by rw [e_39, e_29, e_19]; exact hz.1) (kd_b 3 (by assumption) (by omega)) (by rw [kd_bln 3 hb (by omega)]; exact hz8) (by rw [kd_bln 3 hb (by omega)]; omega) dX0_add_49 ?_
    obtain ⟨T_50, e_50⟩ : ∃ T : St, T = sA T_39 (34 + 6 * (b - 30) + 3) (upd (gA T_39 (34 + 6 * (b - 30) + 3)) (szB S b) pl) := ⟨_, rfl⟩
    rw [← e_50]
    refine g_aload_n (pc := 50) dX0_add_50 0 rfl rfl ?_
    refine gf_X0_24 (pc := 51) (by assumption) rfl dX0_add_51 ?_
    refine g_aload_n (pc := 54) dX0_add_54 0 rfl rfl ?_
    refine gf_X0_30 (pc := 55) (by assumption) rfl dX0_add_55 ?_
    refine g_iload (pc := 58) dX0_add_58 5 rfl ?_
    refine g_iast (pc := 60) (szB S b) (by rw [e_50, e_39, e_29, e_19]; exact hz.1) (kd_b 4 (by assumption) (by omega)) (by rw [kd_bln 4 hb (by omega)]; exact hz8) (by rw [kd_bln 4 hb (by omega)]; omega) dX0_add_60 ?_
    obtain ⟨T_61, e_61⟩ : ∃ T : St, T = sA T_50 (34 + 6 * (b - 30) + 4) (upd (gA T_50 (34 + 6 * (b - 30) + 4)) (szB S b) fi) := ⟨_, rfl⟩
    rw [← e_61]
    refine g_aload_n (pc := 61) dX0_add_61 0 rfl rfl ?_
    refine g_dup (pc := 62) dX0_add_62 rfl ?_
    refine gf_X0_34 (pc := 63) (by assumption) rfl dX0_add_63 ?_
    refine g_iconst (pc := 66) (v := 1) dX0_add_66 (by decide) ?_
    refine g_aload_n (pc := 67) dX0_add_67 0 rfl rfl ?_
    refine gf_X0_30 (pc := 68) (by assumption) rfl dX0_add_68 ?_
    refine g_ishl (pc := 71) dX0_add_71 ?_
    refine g_ior (pc := 72) dX0_add_72 ?_
    refine pf_X0_34 (pc := 73) (by assumption) rfl dX0_add_73 ?_
    obtain ⟨T_76, e_76⟩ : ∃ T : St, T = sI T_61 b 7 (gI T_61 b 7 ||| ((1 : Int32) <<< ((gI T_61 b 6) &&& 31))) := ⟨_, rfl⟩
    rw [← e_76]
    refine g_aload_n (pc := 76) dX0_add_76 0 rfl rfl ?_
    refine g_dup (pc := 77) dX0_add_77 rfl ?_
    refine gf_X0_30 (pc := 78) (by assumption) rfl dX0_add_78 ?_
    refine g_iconst (pc := 81) (v := 1) dX0_add_81 (by decide) ?_
    refine g_iadd (pc := 82) dX0_add_82 ?_
    refine pf_X0_30 (pc := 83) (by assumption) rfl dX0_add_83 ?_
    exact g_vret (pc := 86) hM rfl ⟨by rw [if_pos k_6]; subst e_76; subst e_61; subst e_50; subst e_39; subst e_29; subst e_19; rfl, rfl⟩ dX0_add_86
def becF (S : St) (b c : Nat) : St := let T_20 := sA S (34 + 6 * (b - 30)) (va_cpy (gA S (34 + 6 * (c - 30))) (gA S (34 + 6 * (b - 30))) 0 0 8); let T_35 := sA T_20 (34 + 6 * (b - 30) + 1) (va_cpy (gA T_20 (34 + 6 * (c - 30) + 1)) (gA T_20 (34 + 6 * (b - 30) + 1)) 0 0 8); let T_50 := sA T_35 (34 + 6 * (b - 30) + 2) (va_cpy (gA T_35 (34 + 6 * (c - 30) + 2)) (gA T_35 (34 + 6 * (b - 30) + 2)) 0 0 8); let T_65 := sA T_50 (34 + 6 * (b - 30) + 3) (va_cpy (gA T_50 (34 + 6 * (c - 30) + 3)) (gA T_50 (34 + 6 * (b - 30) + 3)) 0 0 8); let T_80 := sA T_65 (34 + 6 * (b - 30) + 4) (va_cpy (gA T_65 (34 + 6 * (c - 30) + 4)) (gA T_65 (34 + 6 * (b - 30) + 4)) 0 0 8); let T_95 := sA T_80 (34 + 6 * (b - 30) + 5) (va_cpy (gA T_80 (34 + 6 * (c - 30) + 5)) (gA T_80 (34 + 6 * (b - 30) + 5)) 0 0 40); let T_103 := sI T_95 b 6 (gI T_95 c 6); let T_111 := sI T_103 b 7 (gI T_103 c 7); let T_119 := sI T_111 b 8 (gI T_111 c 8); sI T_119 b 9 (gI T_119 c 9)
set_option maxRecDepth 100000 in
set_option maxHeartbeats 4000000 in
theorem c_X0_become (E : En) (S : St) (b c : Nat) (hb : kd b = 0) (hc : kd c = 0) : CTe E i_X0_become S [.ref (eA E b), .ref (eA E c)] (becF S b c) none := by
  refine ct_of [(0, .ref (eA E b)), (1, .ref (eA E c))] (by decide +kernel) (Nat.le_of_ble_eq_true rfl) rfl (fun X hM => ?_)
  refine g_aload_n (pc := 0) dX0_become_0 1 rfl rfl ?_
  refine g_ifnonnull (pc := 1) (tgt := 5) dX0_become_1 (by decide) ?_
  refine g_aload_n (pc := 5) dX0_become_5 1 rfl rfl ?_
  refine gf_X0_9 (pc := 6) (by assumption) rfl dX0_become_6 ?_
  refine g_iconst (pc := 9) (v := 0) dX0_become_9 (by decide) ?_
  refine g_aload_n (pc := 10) dX0_become_10 0 rfl rfl ?_
  refine gf_X0_9 (pc := 11) (by assumption) rfl dX0_become_11 ?_
  refine g_iconst (pc := 14) (v := 0) dX0_become_14 (by decide) ?_
  refine g_bipush (pc := 15) (v := 8) dX0_become_15 (by decide) ?_
  refine g_copy (pc := 17) 0 0 8 mw_X0_43 rfl rfl rfl (kd_b0 (by assumption)) (kd_b0 (by assumption)) (by rw [show (34 + 6 * (c - 30)) = 34 + 6 * (c - 30) + 0 from rfl, kd_bln 0 hc (by omega)]; omega) (by rw [show (34 + 6 * (b - 30)) = 34 + 6 * (b - 30) + 0 from rfl, kd_bln 0 hb (by omega)]; omega) (by first | rw [show (34 + 6 * (c - 30)) = 34 + 6 * (c - 30) + 0 from rfl, kd_bln 0 hc (by omega)]; omega | rw [show (34 + 6 * (b - 30)) = 34 + 6 * (b - 30) + 0 from rfl, kd_bln 0 hb (by omega)]; omega) (by first | rw [show (34 + 6 * (c - 30)) = 34 + 6 * (c - 30) + 0 from rfl, kd_bln 0 hc (by omega)]; omega | rw [show (34 + 6 * (b - 30)) = 34 + 6 * (b - 30) + 0 from rfl, kd_bln 0 hb (by omega)]; omega) dX0_become_17 (Nat.le_of_ble_eq_true rfl) (Nat.le_of_ble_eq_true rfl) ?_
  obtain ⟨T_20, e_20⟩ : ∃ T : St, T = sA S (34 + 6 * (b - 30)) (va_cpy (gA S (34 + 6 * (c - 30))) (gA S (34 + 6 * (b - 30))) 0 0 8) := ⟨_, rfl⟩
  rw [← e_20]
  refine g_aload_n (pc := 20) dX0_become_20 1 rfl rfl ?_
  refine gf_X0_15 (pc := 21) (by assumption) rfl dX0_become_21 ?_
  refine g_iconst (pc := 24) (v := 0) dX0_become_24 (by decide) ?_
  refine g_aload_n (pc := 25) dX0_become_25 0 rfl rfl ?_
  refine gf_X0_15 (pc := 26) (by assumption) rfl dX0_become_26 ?_
  refine g_iconst (pc := 29) (v := 0) dX0_become_29 (by decide) ?_
  refine g_bipush (pc := 30) (v := 8) dX0_become_30 (by decide) ?_
  refine g_copy (pc := 32) 0 0 8 mw_X0_43 rfl rfl rfl (kd_b 1 (by assumption) (by omega)) (kd_b 1 (by assumption) (by omega)) (by rw [kd_bln 1 hc (by omega)]; omega) (by rw [kd_bln 1 hb (by omega)]; omega) (by first | rw [kd_bln 1 hc (by omega)]; omega | rw [kd_bln 1 hb (by omega)]; omega) (by first | rw [kd_bln 1 hc (by omega)]; omega | rw [kd_bln 1 hb (by omega)]; omega) dX0_become_32 (Nat.le_of_ble_eq_true rfl) (Nat.le_of_ble_eq_true rfl) ?_
  obtain ⟨T_35, e_35⟩ : ∃ T : St, T = sA T_20 (34 + 6 * (b - 30) + 1) (va_cpy (gA T_20 (34 + 6 * (c - 30) + 1)) (gA T_20 (34 + 6 * (b - 30) + 1)) 0 0 8) := ⟨_, rfl⟩
  rw [← e_35]
  refine g_aload_n (pc := 35) dX0_become_35 1 rfl rfl ?_
  refine gf_X0_18 (pc := 36) (by assumption) rfl dX0_become_36 ?_
  refine g_iconst (pc := 39) (v := 0) dX0_become_39 (by decide) ?_
  refine g_aload_n (pc := 40) dX0_become_40 0 rfl rfl ?_
  refine gf_X0_18 (pc := 41) (by assumption) rfl dX0_become_41 ?_
  refine g_iconst (pc := 44) (v := 0) dX0_become_44 (by decide) ?_
  refine g_bipush (pc := 45) (v := 8) dX0_become_45 (by decide) ?_
  refine g_copy (pc := 47) 0 0 8 mw_X0_43 rfl rfl rfl (kd_b 2 (by assumption) (by omega)) (kd_b 2 (by assumption) (by omega)) (by rw [kd_bln 2 hc (by omega)]; omega) (by rw [kd_bln 2 hb (by omega)]; omega) (by first | rw [kd_bln 2 hc (by omega)]; omega | rw [kd_bln 2 hb (by omega)]; omega) (by first | rw [kd_bln 2 hc (by omega)]; omega | rw [kd_bln 2 hb (by omega)]; omega) dX0_become_47 (Nat.le_of_ble_eq_true rfl) (Nat.le_of_ble_eq_true rfl) ?_
  obtain ⟨T_50, e_50⟩ : ∃ T : St, T = sA T_35 (34 + 6 * (b - 30) + 2) (va_cpy (gA T_35 (34 + 6 * (c - 30) + 2)) (gA T_35 (34 + 6 * (b - 30) + 2)) 0 0 8) := ⟨_, rfl⟩
  rw [← e_50]
  refine g_aload_n (pc := 50) dX0_become_50 1 rfl rfl ?_
  refine gf_X0_21 (pc := 51) (by assumption) rfl dX0_become_51 ?_
  refine g_iconst (pc := 54) (v := 0) dX0_become_54 (by decide) ?_
  refine g_aload_n (pc := 55) dX0_become_55 0 rfl rfl ?_
  refine gf_X0_21 (pc := 56) (by assumption) rfl dX0_become_56 ?_
  refine g_iconst (pc := 59) (v := 0) dX0_become_59 (by decide) ?_
  refine g_bipush (pc := 60) (v := 8) dX0_become_60 (by decide) ?_
  refine g_copy (pc := 62) 0 0 8 mw_X0_43 rfl rfl rfl (kd_b 3 (by assumption) (by omega)) (kd_b 3 (by assumption) (by omega)) (by rw [kd_bln 3 hc (by omega)]; omega) (by rw [kd_bln 3 hb (by omega)]; omega) (by first | rw [kd_bln 3 hc (by omega)]; omega | rw [kd_bln 3 hb (by omega)]; omega) (by first | rw [kd_bln 3 hc (by omega)]; omega | rw [kd_bln 3 hb (by omega)]; omega) dX0_become_62 (Nat.le_of_ble_eq_true rfl) (Nat.le_of_ble_eq_true rfl) ?_
  obtain ⟨T_65, e_65⟩ : ∃ T : St, T = sA T_50 (34 + 6 * (b - 30) + 3) (va_cpy (gA T_50 (34 + 6 * (c - 30) + 3)) (gA T_50 (34 + 6 * (b - 30) + 3)) 0 0 8) := ⟨_, rfl⟩
  rw [← e_65]
  refine g_aload_n (pc := 65) dX0_become_65 1 rfl rfl ?_
  refine gf_X0_24 (pc := 66) (by assumption) rfl dX0_become_66 ?_
  refine g_iconst (pc := 69) (v := 0) dX0_become_69 (by decide) ?_
  refine g_aload_n (pc := 70) dX0_become_70 0 rfl rfl ?_
  refine gf_X0_24 (pc := 71) (by assumption) rfl dX0_become_71 ?_
  refine g_iconst (pc := 74) (v := 0) dX0_become_74 (by decide) ?_
  refine g_bipush (pc := 75) (v := 8) dX0_become_75 (by decide) ?_
  refine g_copy (pc := 77) 0 0 8 mw_X0_43 rfl rfl rfl (kd_b 4 (by assumption) (by omega)) (kd_b 4 (by assumption) (by omega)) (by rw [kd_bln 4 hc (by omega)]; omega) (by rw [kd_bln 4 hb (by omega)]; omega) (by first | rw [kd_bln 4 hc (by omega)]; omega | rw [kd_bln 4 hb (by omega)]; omega) (by first | rw [kd_bln 4 hc (by omega)]; omega | rw [kd_bln 4 hb (by omega)]; omega) dX0_become_77 (Nat.le_of_ble_eq_true rfl) (Nat.le_of_ble_eq_true rfl) ?_
  obtain ⟨T_80, e_80⟩ : ∃ T : St, T = sA T_65 (34 + 6 * (b - 30) + 4) (va_cpy (gA T_65 (34 + 6 * (c - 30) + 4)) (gA T_65 (34 + 6 * (b - 30) + 4)) 0 0 8) := ⟨_, rfl⟩
  rw [← e_80]
  refine g_aload_n (pc := 80) dX0_become_80 1 rfl rfl ?_
  refine gf_X0_27 (pc := 81) (by assumption) rfl dX0_become_81 ?_
  refine g_iconst (pc := 84) (v := 0) dX0_become_84 (by decide) ?_
  refine g_aload_n (pc := 85) dX0_become_85 0 rfl rfl ?_
  refine gf_X0_27 (pc := 86) (by assumption) rfl dX0_become_86 ?_
  refine g_iconst (pc := 89) (v := 0) dX0_become_89 (by decide) ?_
  refine g_bipush (pc := 90) (v := 40) dX0_become_90 (by decide) ?_
  refine g_copy (pc := 92) 0 0 40 mw_X0_43 rfl rfl rfl (kd_b 5 (by assumption) (by omega)) (kd_b 5 (by assumption) (by omega)) (by rw [kd_bln5 hc]; omega) (by rw [kd_bln5 hb]; omega) (by first | rw [kd_bln5 hc]; omega | rw [kd_bln5 hb]; omega) (by first | rw [kd_bln5 hc]; omega | rw [kd_bln5 hb]; omega) dX0_become_92 (Nat.le_of_ble_eq_true rfl) (Nat.le_of_ble_eq_true rfl) ?_
  obtain ⟨T_95, e_95⟩ : ∃ T : St, T = sA T_80 (34 + 6 * (b - 30) + 5) (va_cpy (gA T_80 (34 + 6 * (c - 30) + 5)) (gA T_80 (34 + 6 * (b - 30) + 5)) 0 0 40) := ⟨_, rfl⟩
  rw [← e_95]
  refine g_aload_n (pc := 95) dX0_become_95 0 rfl rfl ?_
  refine g_aload_n (pc := 96) dX0_become_96 1 rfl rfl ?_
  refine gf_X0_30 (pc := 97) (by assumption) rfl dX0_become_97 ?_
  refine pf_X0_30 (pc := 100) (by assumption) rfl dX0_become_100 ?_
  obtain ⟨T_103, e_103⟩ : ∃ T : St, T = sI T_95 b 6 (gI T_95 c 6) := ⟨_, rfl⟩
  rw [← e_103]
  refine g_aload_n (pc := 103) dX0_become_103 0 rfl rfl ?_
  refine g_aload_n (pc := 104) dX0_become_104 1 rfl rfl ?_
  refine gf_X0_34 (pc := 105) (by assumption) rfl dX0_become_105 ?_
  refine pf_X0_34 (pc := 108) (by assumption) rfl dX0_become_108 ?_
  obtain ⟨T_111, e_111⟩ : ∃ T : St, T = sI T_103 b 7 (gI T_103 c 7) := ⟨_, rfl⟩
  rw [← e_111]
  refine g_aload_n (pc := 111) dX0_become_111 0 rfl rfl ?_
  refine g_aload_n (pc := 112) dX0_become_112 1 rfl rfl ?_
  refine gf_X0_37 (pc := 113) (by assumption) rfl dX0_become_113 ?_
  refine pf_X0_37 (pc := 116) (by assumption) rfl dX0_become_116 ?_
  obtain ⟨T_119, e_119⟩ : ∃ T : St, T = sI T_111 b 8 (gI T_111 c 8) := ⟨_, rfl⟩
  rw [← e_119]
  refine g_aload_n (pc := 119) dX0_become_119 0 rfl rfl ?_
  refine g_aload_n (pc := 120) dX0_become_120 1 rfl rfl ?_
  refine gf_X0_40 (pc := 121) (by assumption) rfl dX0_become_121 ?_
  refine pf_X0_40 (pc := 124) (by assumption) rfl dX0_become_124 ?_
  exact g_vret (pc := 127) hM rfl ⟨by subst e_119; subst e_111; subst e_103; subst e_95; subst e_80; subst e_65; subst e_50; subst e_35; subst e_20; rfl, rfl⟩ dX0_become_127
set_option maxRecDepth 100000 in
set_option maxHeartbeats 4000000 in
theorem c_X0_doByLot (E : En) (S : St) (b : Nat) (lot : Int64) (hb : kd b = 0) (hz : okB S b) (hd : okD S b) : CTe E i_X0_doByLot S [.ref (eA E b), .long lot] (lotF S b lot) none := by
  refine ct_of [(0, .ref (eA E b)), (1, .long lot)] (by decide +kernel) (Nat.le_of_ble_eq_true rfl) rfl (fun X hM => ?_)
  refine g_aload_n (pc := 0) dX0_doByLot_0 0 rfl rfl ?_
  refine gf_X0_30 (pc := 1) (by assumption) rfl dX0_doByLot_1 ?_
  refine g_if_le (pc := 4) (tgt := 13) dX0_doByLot_4 (by decide) (fun c_4 => ?_) (fun c_4 => ?_)
  · have k_4 := Int32.not_lt.mpr c_4
    exact g_vret (pc := 13) hM rfl ⟨by first | (exact absurd (c_34.symm.trans c_60) (by decide)) | (simp only [lotF, lotK, c_4, k_4, show ¬ (0 : Int64) = 1 from by decide, show ¬ (1 : Int64) = 0 from by decide, if_true, if_false, and_true, and_false, true_and, false_and, and_self, Bool.false_eq_true]; done), rfl⟩ dX0_doByLot_13
  · have k_4 := Int32.not_le.mp c_4
    refine g_lload_n (pc := 7) dX0_doByLot_7 1 rfl rfl ?_
    refine g_lconst (pc := 8) (v := 0) dX0_doByLot_8 (by decide) ?_
    refine g_lcmp (pc := 9) dX0_doByLot_9 ?_
    refine g_lc_ge (pc := 10) (tgt := 14) dX0_doByLot_10 (by decide) (fun c_10 => ?_) (fun c_10 => ?_)
    · have k_10 := Int64.not_lt.mpr c_10
      refine g_lload_n (pc := 14) dX0_doByLot_14 1 rfl rfl ?_
      refine g_ldc2 (pc := 15) kw_X0_110 dX0_doByLot_15 ?_
      refine g_ldiv (pc := 18) dX0_doByLot_18 (by decide) ?_
      refine g_aload_n (pc := 19) dX0_doByLot_19 0 rfl rfl ?_
      refine gf_X0_30 (pc := 20) (by assumption) rfl dX0_doByLot_20 ?_
      refine g_i2l (pc := 23) dX0_doByLot_23 ?_
      refine g_lrem (pc := 24) dX0_doByLot_24 (by intro q; have h1 : (0 : Int32) < gI S b 6 := k_4; rw [hz.1] at q h1; rw [nI_l (n := szB S b) (by have := hz.2; omega)] at q; have h2 := (nI_ltI (a := 0) (b := szB S b) (by omega) (by have := hz.2; omega)).mp (by rw [nI_0]; exact h1); have h3 := congrArg Int64.toInt q; rw [lN_toInt (by have := hz.2; omega)] at h3; have h4 : (0 : Int64).toInt = 0 := rfl; omega) ?_
      refine g_l2i (pc := 25) dX0_doByLot_25 ?_
      refine g_istore_n (pc := 26) (L' := [(3, .int (((lot / 8) - (lot / 8) / (gI S b 6).toInt64 * (gI S b 6).toInt64).toInt32)), (0, .ref (eA E b)), (1, .long lot)]) dX0_doByLot_26 rfl (Nat.le_of_ble_eq_true rfl) rfl ?_
      refine g_lload_n (pc := 27) dX0_doByLot_27 2 rfl rfl ?_
      refine g_ldc2 (pc := 28) kw_X0_112 dX0_doByLot_28 ?_
      refine g_lrem (pc := 31) dX0_doByLot_31 (by decide) ?_
      refine g_lconst (pc := 32) (v := 0) dX0_doByLot_32 (by decide) ?_
      refine g_lcmp (pc := 33) dX0_doByLot_33 ?_
      refine g_lc_ne (pc := 34) (tgt := 53) dX0_doByLot_34 (by decide) (fun c_34 => ?_) (fun c_34 => ?_)
      · refine g_lload_n (pc := 53) dX0_doByLot_53 2 rfl rfl ?_
        refine g_ldc2 (pc := 54) kw_X0_112 dX0_doByLot_54 ?_
        refine g_lrem (pc := 57) dX0_doByLot_57 (by decide) ?_
        refine g_lconst (pc := 58) (v := 1) dX0_doByLot_58 (by decide) ?_
        refine g_lcmp (pc := 59) dX0_doByLot_59 ?_
        refine g_lc_ne (pc := 60) (tgt := 81) dX0_doByLot_60 (by decide) (fun c_60 => ?_) (fun c_60 => ?_)
        · refine g_aload_n (pc := 81) dX0_doByLot_81 1 rfl rfl ?_
          refine g_iload_n (pc := 82) dX0_doByLot_82 0 rfl rfl ?_
          refine g_invV (pc := 83) j_X0_isLit mw_X0_53 dX0_doByLot_83 (rcv_X0 (by assumption)) (by rfl) (c_X0_isLit E S b (((lot / 8) - (lot / 8) / (gI S b 6).toInt64 * (gI S b 6).toInt64).toInt32) (by assumption)) (Nat.le_of_ble_eq_true rfl) (Nat.le_of_ble_eq_true rfl) (by rfl) (Nat.le_of_ble_eq_true rfl) ?_
          refine g_b_eq (pc := 86) (tgt := 97) dX0_doByLot_86 (by decide) (fun c_86 => ?_) (fun c_86 => ?_)
          · refine g_aload_n (pc := 97) dX0_doByLot_97 1 rfl rfl ?_
            refine g_iload_n (pc := 98) dX0_doByLot_98 0 rfl rfl ?_
            refine g_invN (pc := 99) j_X0_lightAgain mw_X0_129 dX0_doByLot_99 (rcv_X0 (by assumption)) (by rfl) (c_X0_lightAgain E S b (((lot / 8) - (lot / 8) / (gI S b 6).toInt64 * (gI S b 6).toInt64).toInt32) (by assumption) (by first | assumption | omega | rfl)) (Nat.le_of_ble_eq_true rfl) (Nat.le_of_ble_eq_true rfl) (by rfl) (Nat.le_of_ble_eq_true rfl) ?_
            exact g_vret (pc := 102) hM rfl ⟨by first | (exact absurd (c_34.symm.trans c_60) (by decide)) | (simp only [lotF, lotK, c_4, k_4, c_10, k_10, c_34, c_60, c_86, show ¬ (0 : Int64) = 1 from by decide, show ¬ (1 : Int64) = 0 from by decide, if_true, if_false, and_true, and_false, true_and, false_and, and_self, Bool.false_eq_true]; done), rfl⟩ dX0_doByLot_102
          · refine g_aload_n (pc := 89) dX0_doByLot_89 1 rfl rfl ?_
            refine g_iload_n (pc := 90) dX0_doByLot_90 0 rfl rfl ?_
            refine g_invN (pc := 91) j_X0_putOut mw_X0_125 dX0_doByLot_91 (rcv_X0 (by assumption)) (by rfl) (c_X0_putOut E S b (((lot / 8) - (lot / 8) / (gI S b 6).toInt64 * (gI S b 6).toInt64).toInt32) (by assumption) (by first | assumption | omega | rfl)) (Nat.le_of_ble_eq_true rfl) (Nat.le_of_ble_eq_true rfl) (by rfl) (Nat.le_of_ble_eq_true rfl) ?_
            refine g_goto (pc := 94) (tgt := 102) dX0_doByLot_94 (by decide) ?_
            exact g_vret (pc := 102) hM rfl ⟨by first | (exact absurd (c_34.symm.trans c_60) (by decide)) | (simp only [lotF, lotK, c_4, k_4, c_10, k_10, c_34, c_60, c_86, show ¬ (0 : Int64) = 1 from by decide, show ¬ (1 : Int64) = 0 from by decide, if_true, if_false, and_true, and_false, true_and, false_and, and_self, Bool.false_eq_true]; done), rfl⟩ dX0_doByLot_102
        · refine g_aload_n (pc := 63) dX0_doByLot_63 1 rfl rfl ?_
          refine g_iload_n (pc := 64) dX0_doByLot_64 0 rfl rfl ?_
          refine g_lload_n (pc := 65) dX0_doByLot_65 2 rfl rfl ?_
          refine g_ldc2 (pc := 66) kw_X0_117 dX0_doByLot_66 ?_
          refine g_ldiv (pc := 69) dX0_doByLot_69 (by decide) ?_
          refine g_ldc2 (pc := 70) kw_X0_119 dX0_doByLot_70 ?_
          refine g_lrem (pc := 73) dX0_doByLot_73 (by decide) ?_
          refine g_l2i (pc := 74) dX0_doByLot_74 ?_
          refine g_invN (pc := 75) j_X0_carryTo mw_X0_121 dX0_doByLot_75 (rcv_X0 (by assumption)) (by rfl) (c_X0_carryTo E S b (((lot / 8) - (lot / 8) / (gI S b 6).toInt64 * (gI S b 6).toInt64).toInt32) (((lot / 64) - (lot / 64) / 10 * 10).toInt32) (by assumption) (by first | assumption | omega | rfl) (by first | assumption | omega | rfl)) (Nat.le_of_ble_eq_true rfl) (Nat.le_of_ble_eq_true rfl) (by rfl) (Nat.le_of_ble_eq_true rfl) ?_
          refine g_goto (pc := 78) (tgt := 102) dX0_doByLot_78 (by decide) ?_
          exact g_vret (pc := 102) hM rfl ⟨by first | (exact absurd (c_34.symm.trans c_60) (by decide)) | (simp only [lotF, lotK, c_4, k_4, c_10, k_10, c_34, eq_true c_60, show ¬ (0 : Int64) = 1 from by decide, show ¬ (1 : Int64) = 0 from by decide, if_true, if_false, and_true, and_false, true_and, false_and, and_self, Bool.false_eq_true]; done), rfl⟩ dX0_doByLot_102
      · refine g_aload_n (pc := 37) dX0_doByLot_37 1 rfl rfl ?_
        refine gf_X0_37 (pc := 38) (by assumption) rfl dX0_doByLot_38 ?_
        refine g_bipush (pc := 41) (v := 40) dX0_doByLot_41 (by decide) ?_
        refine g_icmp_ge (pc := 43) (tgt := 53) dX0_doByLot_43 (by decide) (fun c_43 => ?_) (fun c_43 => ?_)
        · have k_43 := Int32.not_lt.mpr c_43
          refine g_lload_n (pc := 53) dX0_doByLot_53 2 rfl rfl ?_
          refine g_ldc2 (pc := 54) kw_X0_112 dX0_doByLot_54 ?_
          refine g_lrem (pc := 57) dX0_doByLot_57 (by decide) ?_
          refine g_lconst (pc := 58) (v := 1) dX0_doByLot_58 (by decide) ?_
          refine g_lcmp (pc := 59) dX0_doByLot_59 ?_
          refine g_lc_ne (pc := 60) (tgt := 81) dX0_doByLot_60 (by decide) (fun c_60 => ?_) (fun c_60 => ?_)
          · refine g_aload_n (pc := 81) dX0_doByLot_81 1 rfl rfl ?_
            refine g_iload_n (pc := 82) dX0_doByLot_82 0 rfl rfl ?_
            refine g_invV (pc := 83) j_X0_isLit mw_X0_53 dX0_doByLot_83 (rcv_X0 (by assumption)) (by rfl) (c_X0_isLit E S b (((lot / 8) - (lot / 8) / (gI S b 6).toInt64 * (gI S b 6).toInt64).toInt32) (by assumption)) (Nat.le_of_ble_eq_true rfl) (Nat.le_of_ble_eq_true rfl) (by rfl) (Nat.le_of_ble_eq_true rfl) ?_
            refine g_b_eq (pc := 86) (tgt := 97) dX0_doByLot_86 (by decide) (fun c_86 => ?_) (fun c_86 => ?_)
            · refine g_aload_n (pc := 97) dX0_doByLot_97 1 rfl rfl ?_
              refine g_iload_n (pc := 98) dX0_doByLot_98 0 rfl rfl ?_
              refine g_invN (pc := 99) j_X0_lightAgain mw_X0_129 dX0_doByLot_99 (rcv_X0 (by assumption)) (by rfl) (c_X0_lightAgain E S b (((lot / 8) - (lot / 8) / (gI S b 6).toInt64 * (gI S b 6).toInt64).toInt32) (by assumption) (by first | assumption | omega | rfl)) (Nat.le_of_ble_eq_true rfl) (Nat.le_of_ble_eq_true rfl) (by rfl) (Nat.le_of_ble_eq_true rfl) ?_
              exact g_vret (pc := 102) hM rfl ⟨by first | (exact absurd (c_34.symm.trans c_60) (by decide)) | (simp only [lotF, lotK, c_4, k_4, c_10, k_10, eq_true c_34, c_43, k_43, c_60, c_86, show ¬ (0 : Int64) = 1 from by decide, show ¬ (1 : Int64) = 0 from by decide, if_true, if_false, and_true, and_false, true_and, false_and, and_self, Bool.false_eq_true]; done), rfl⟩ dX0_doByLot_102
            · refine g_aload_n (pc := 89) dX0_doByLot_89 1 rfl rfl ?_
              refine g_iload_n (pc := 90) dX0_doByLot_90 0 rfl rfl ?_
              refine g_invN (pc := 91) j_X0_putOut mw_X0_125 dX0_doByLot_91 (rcv_X0 (by assumption)) (by rfl) (c_X0_putOut E S b (((lot / 8) - (lot / 8) / (gI S b 6).toInt64 * (gI S b 6).toInt64).toInt32) (by assumption) (by first | assumption | omega | rfl)) (Nat.le_of_ble_eq_true rfl) (Nat.le_of_ble_eq_true rfl) (by rfl) (Nat.le_of_ble_eq_true rfl) ?_
              refine g_goto (pc := 94) (tgt := 102) dX0_doByLot_94 (by decide) ?_
              exact g_vret (pc := 102) hM rfl ⟨by first | (exact absurd (c_34.symm.trans c_60) (by decide)) | (simp only [lotF, lotK, c_4, k_4, c_10, k_10, eq_true c_34, c_43, k_43, c_60, c_86, show ¬ (0 : Int64) = 1 from by decide, show ¬ (1 : Int64) = 0 from by decide, if_true, if_false, and_true, and_false, true_and, false_and, and_self, Bool.false_eq_true]; done), rfl⟩ dX0_doByLot_102
          · refine g_aload_n (pc := 63) dX0_doByLot_63 1 rfl rfl ?_
            refine g_iload_n (pc := 64) dX0_doByLot_64 0 rfl rfl ?_
            refine g_lload_n (pc := 65) dX0_doByLot_65 2 rfl rfl ?_
            refine g_ldc2 (pc := 66) kw_X0_117 dX0_doByLot_66 ?_
            refine g_ldiv (pc := 69) dX0_doByLot_69 (by decide) ?_
            refine g_ldc2 (pc := 70) kw_X0_119 dX0_doByLot_70 ?_
            refine g_lrem (pc := 73) dX0_doByLot_73 (by decide) ?_
            refine g_l2i (pc := 74) dX0_doByLot_74 ?_
            refine g_invN (pc := 75) j_X0_carryTo mw_X0_121 dX0_doByLot_75 (rcv_X0 (by assumption)) (by rfl) (c_X0_carryTo E S b (((lot / 8) - (lot / 8) / (gI S b 6).toInt64 * (gI S b 6).toInt64).toInt32) (((lot / 64) - (lot / 64) / 10 * 10).toInt32) (by assumption) (by first | assumption | omega | rfl) (by first | assumption | omega | rfl)) (Nat.le_of_ble_eq_true rfl) (Nat.le_of_ble_eq_true rfl) (by rfl) (Nat.le_of_ble_eq_true rfl) ?_
            refine g_goto (pc := 78) (tgt := 102) dX0_doByLot_78 (by decide) ?_
            exact g_vret (pc := 102) hM rfl ⟨by first | (exact absurd (c_34.symm.trans c_60) (by decide)) | (simp only [lotF, lotK, c_4, k_4, c_10, k_10, eq_true c_34, c_43, k_43, eq_true c_60, show ¬ (0 : Int64) = 1 from by decide, show ¬ (1 : Int64) = 0 from by decide, if_true, if_false, and_true, and_false, true_and, false_and, and_self, Bool.false_eq_true]; done), rfl⟩ dX0_doByLot_102
        · have k_43 := Int32.not_le.mp c_43
          refine g_aload_n (pc := 46) dX0_doByLot_46 1 rfl rfl ?_
          refine g_invN (pc := 47) j_X0_passNight mw_X0_114 dX0_doByLot_47 (rcv_X0 (by assumption)) (by rfl) (c_X0_passNight E S b (by assumption) (by first | assumption | omega | rfl)) (Nat.le_of_ble_eq_true rfl) (Nat.le_of_ble_eq_true rfl) (by rfl) (Nat.le_of_ble_eq_true rfl) ?_
          refine g_goto (pc := 50) (tgt := 102) dX0_doByLot_50 (by decide) ?_
          exact g_vret (pc := 102) hM rfl ⟨by first | (exact absurd (c_34.symm.trans c_60) (by decide)) | (simp only [lotF, lotK, c_4, k_4, c_10, k_10, eq_true c_34, c_43, k_43, show ¬ (0 : Int64) = 1 from by decide, show ¬ (1 : Int64) = 0 from by decide, if_true, if_false, and_true, and_false, true_and, false_and, and_self, Bool.false_eq_true]; done), rfl⟩ dX0_doByLot_102
    · have k_10 := Int64.not_le.mp c_10
      exact g_vret (pc := 13) hM rfl ⟨by first | (exact absurd (c_34.symm.trans c_60) (by decide)) | (simp only [lotF, lotK, c_4, k_4, c_10, k_10, show ¬ (0 : Int64) = 1 from by decide, show ¬ (1 : Int64) = 0 from by decide, if_true, if_false, and_true, and_false, true_and, false_and, and_self, Bool.false_eq_true]; done), rfl⟩ dX0_doByLot_13
