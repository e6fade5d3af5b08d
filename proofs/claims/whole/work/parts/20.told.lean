/-! GLOWDEBTS: whose a light is, turns, chances, lots, what is told -/
def gdR : Nat → Int64 → Int64 → Int64
  | 0, a, _ => a
  | n + 1, a, b => if b = 0 then a else gdR n b (a - a / b * b)
def gdF (a b : Int64) : Int64 := gdR 200 a b
def lwS (S : St) (a b : Int64) : St := sL (sL S 0 9 (a / gdF a b)) 0 10 (b / gdF a b)
def ltN (x : Int64) : Int64 := x * 48271 - x * 48271 / 2147483647 * 2147483647
def ltR (S : St) (s : Int32) : Nat → St × Int64
  | 0 => (S, s.toInt64)
  | n + 1 => (lotF (ltR S s n).1 30 (ltN (ltR S s n).2), ltN (ltR S s n).2)
def thR (S : St) : Int32 := sumB (fun i => !misF S (10 + i)) (fun _ => 1) 6
def thT (S : St) : Int32 := sumB (fun i => !misF S (16 + i)) (fun _ => 1) 4
def thK (S : St) : Int32 := sumB (fun i => !decide (gI S (31 + i) 6 ≤ 0)) (fun _ => 1) 3
def cmF (S : St) (b : Nat) (kind : Int32) : Int32 := sumB (fun i => isOfF (fldF S b 0 (nI i)) kind) (fun _ => 1) (szB S b)
def ctF (S : St) (what : Int32) : Int32 := if what = 0 then gI S 30 6 else if what = 1 then gI S 30 8 else if what = 2 then gI S 30 9 else if what = 3 then gI S 30 7 else if what = 4 then lgF S 30 else if what = 5 then cmF S 30 3 else if what = 6 then cmF S 30 2 else if what = 7 then thR S else if what = 8 then thT S else if what = 9 then thK S else -1
theorem ctF_out {S : St} {what : Int32} (h : what.toInt < 0 ∨ 9 < what.toInt) : ctF S what = -1 := by
  have h0 : ¬ what = 0 := by rintro rfl; revert h; decide
  have h1 : ¬ what = 1 := by rintro rfl; revert h; decide
  have h2 : ¬ what = 2 := by rintro rfl; revert h; decide
  have h3 : ¬ what = 3 := by rintro rfl; revert h; decide
  have h4 : ¬ what = 4 := by rintro rfl; revert h; decide
  have h5 : ¬ what = 5 := by rintro rfl; revert h; decide
  have h6 : ¬ what = 6 := by rintro rfl; revert h; decide
  have h7 : ¬ what = 7 := by rintro rfl; revert h; decide
  have h8 : ¬ what = 8 := by rintro rfl; revert h; decide
  have h9 : ¬ what = 9 := by rintro rfl; revert h; decide
  simp [ctF, h0, h1, h2, h3, h4, h5, h6, h7, h8, h9]
def mixF (h v : Int64) : Int64 := 31 * h + v
def dcR (S : St) : Nat → Int64 | 0 => 17 | n + 1 => mixF (dcR S n) (ctF S (nI n)).toInt64
def dpR (S : St) (k : Nat) (h : Int64) : Nat → Int64 | 0 => h | n + 1 => mixF (dpR S k h n) (partF S 30 (nI k) (nI n)).toInt64
def dlR (S : St) : Nat → Int64 | 0 => dcR S 10 | k + 1 => dpR S k (dlR S k) 7
def dkR (S : St) : Nat → Int64 | 0 => dlR S (szB S 30) | n + 1 => mixF (dkR S n) (if gI S (31 + n) 6 = 0 then -1 else gI S (31 + n) 9).toInt64
def dsR (S : St) (k : Nat) (h : Int64) : Nat → Int64 | 0 => h | n + 1 => mixF (dsR S k h n) (getF S k (nI n)).toInt64
def szS (S : St) (k : Nat) : Nat := (gI S k 1).toNatClampNeg
def ddR (S : St) (b : Nat) (h : Int64) : Nat → Int64 | 0 => h | n + 1 => dsR S (b + n) (mixF (ddR S b h n) (gI S (b + n) 1).toInt64) (szS S (b + n))
/-- a Strip is missing, or has from 0 to N places -/
def okS (S : St) (k N : Nat) : Prop := gI S k 1 = -1 ∨ ∃ m, m ≤ N ∧ gI S k 1 = nI m
theorem okS_le {S : St} {k N n : Nat} (h : okS S k N) (hN : N < 2 ^ 31) (hn : n < 2 ^ 31) (q : gI S k 1 ≤ nI n) : szS S k ≤ n := by
  unfold szS
  rcases h with h | ⟨m, hm, h⟩
  · rw [h]
    have : (-1 : Int32).toNatClampNeg = 0 := by decide
    omega
  · rw [h, nI_clamp (by omega)]
    rw [h] at q
    exact (nI_leI (by omega) hn).mp q
theorem okS_lt {S : St} {k N n : Nat} (h : okS S k N) (hN : N < 2 ^ 31) (hn : n < 2 ^ 31) (q : ¬ gI S k 1 ≤ nI n) : n < szS S k := by
  unfold szS
  rcases h with h | ⟨m, hm, h⟩
  · rw [h] at q
    exfalso
    apply q
    rw [Int32.le_iff_toInt_le, nI_toInt hn]
    have : (-1 : Int32).toInt = -1 := by decide
    omega
  · rw [h, nI_clamp (by omega)]
    rw [h] at q
    exact Nat.not_le.mp (fun z => q (nI_le z hn))
theorem okS_sz {S : St} {k N : Nat} (h : okS S k N) (hN : N < 2 ^ 31) : szS S k ≤ N := by
  unfold szS
  rcases h with h | ⟨m, hm, h⟩
  · rw [h]
    have : (-1 : Int32).toNatClampNeg = 0 := by decide
    omega
  · rw [h, nI_clamp (by omega)]
    exact hm
theorem okS_ln {S : St} {k N : Nat} (h : okS S k N) (hN : N < 2 ^ 31) : (gI S k 1).toInt ≤ (N : Int) := by
  rcases h with h | ⟨m, hm, h⟩
  · rw [h]
    have : (-1 : Int32).toInt = -1 := by decide
    omega
  · rw [h, nI_toInt (by omega)]
    omega
theorem okB_pass {S : St} {b : Nat} (h : okB S b) : okB (passF S b) b := okB_of (gI_pass6 S b) h
theorem okB_lot {S : St} {b : Nat} {x : Int64} (h : okB S b) : okB (lotF S b x) b := by
  unfold lotF
  split
  · exact h
  · split
    · exact h
    · split
      · exact okB_of (gI_pass6 S b) h
      · split
        · exact okB_of (gI_car6 S b _ _) h
        · split
          · exact okB_of (gI_put6 S b _) h
          · exact okB_of (gI_lig6 S b _) h
theorem okD_wri {S : St} {b : Nat} {w k z : Int32} (h : okD S b) : okD (wriF S b w k z) b := by
  unfold wriF
  split
  · rename_i q
    have h1 := h.1
    have h2 : dnB S b < 40 := by rw [h1] at q; exact (nI_ltI (b := 40) (by have := h.2; omega) (by omega)).mp q
    have e : gI (sI (sA S (34 + 6 * (b - 30) + 5) (upd (gA S (34 + 6 * (b - 30) + 5)) (dnB S b) (w + 4 * (k + 8 * z)))) b 9 (gI S b 9 + 1)) b 9 = nI (dnB S b + 1) := by rw [gI_same, h1, nI_1]
    have e2 : dnB (sI (sA S (34 + 6 * (b - 30) + 5) (upd (gA S (34 + 6 * (b - 30) + 5)) (dnB S b) (w + 4 * (k + 8 * z)))) b 9 (gI S b 9 + 1)) b = dnB S b + 1 := (congrArg Int32.toNatClampNeg e).trans (nI_clamp (by omega))
    exact ⟨by rw [e, e2], by rw [e2]; omega⟩
  · exact h
theorem okD_lot {S : St} {b : Nat} {x : Int64} (h : okD S b) : okD (lotF S b x) b := by
  unfold lotF
  split
  · exact h
  · split
    · exact h
    · split
      · exact okD_of (by unfold passF; rw [gI_ne (by omega)]) (okD_wri (w := 0) (k := 0) (z := 0) h)
      · split
        · unfold carF
          split
          · exact okD_of rfl (okD_wri (w := 3) (k := lotK S b x) (z := gA S (34 + 6 * (b - 30) + 3) (lotK S b x).toNatClampNeg) h)
          · exact h
        · split
          · unfold putF
            split
            · exact okD_of (by rw [gI_ne (by omega)]) (okD_wri (w := 1) (k := lotK S b x) (z := 0) h)
            · exact h
          · unfold ligF
            split
            · exact okD_of (by rw [gI_ne (by omega)]) (okD_wri (w := 2) (k := lotK S b x) (z := 0) h)
            · exact h
theorem ltR_ok {S : St} (hz : okB S 30) (hd : okD S 30) (s : Int32) : ∀ n, okB (ltR S s n).1 30 ∧ okD (ltR S s n).1 30
  | 0 => ⟨hz, hd⟩
  | n + 1 => ⟨okB_lot (ltR_ok hz hd s n).1, okD_lot (ltR_ok hz hd s n).2⟩
set_option maxRecDepth 100000 in
set_option maxHeartbeats 4000000 in
theorem c_X8_refusedLooks_n (E : En) (S : St) (x : Int32) : CTe E i_X8_refusedLooks S [.ref (eA E 0), .int x, .null] S (some (.int (-1))) := by
  refine ct_of [(0, .ref (eA E 0)), (1, .int x), (2, .null)] (by decide +kernel) (Nat.le_of_ble_eq_true rfl) rfl (fun X hM => ?_)
  refine g_aload_n (pc := 0) dX8_refusedLooks_0 0 rfl rfl ?_
  refine gf_X8_21 (pc := 1) rfl dX8_refusedLooks_1 ?_
  refine g_iload_n (pc := 4) dX8_refusedLooks_4 1 rfl rfl ?_
  refine g_invV (pc := 5) j_X0_has mw_X8_134 dX8_refusedLooks_5 (rcv_X0 rfl) (by rfl) (c_X0_has E S 30 x rfl) (Nat.le_of_ble_eq_true rfl) (Nat.le_of_ble_eq_true rfl) (by rfl) (Nat.le_of_ble_eq_true rfl) ?_
  refine g_b_eq (pc := 8) (tgt := 15) dX8_refusedLooks_8 (by decide) (fun c_8 => ?_) (fun c_8 => ?_)
  · refine g_iconst (pc := 15) (v := -1) dX8_refusedLooks_15 (by decide) ?_
    exact g_iret (pc := 16) hM rfl rfl ⟨rfl, rfl⟩ dX8_refusedLooks_16
  · refine g_aload_nN (pc := 11) dX8_refusedLooks_11 2 rfl rfl ?_
    refine g_ifnonnullN (pc := 12) dX8_refusedLooks_12 ?_
    refine g_iconst (pc := 15) (v := -1) dX8_refusedLooks_15 (by decide) ?_
    exact g_iret (pc := 16) hM rfl rfl ⟨rfl, rfl⟩ dX8_refusedLooks_16
set_option maxRecDepth 100000 in
set_option maxHeartbeats 4000000 in
theorem c_X8_refusedLooks_bad (E : En) (S : St) (x : Int32) (k : Nat) (hk : kd k = 3) (g1 : hasF S 30 x = false) : CTe E i_X8_refusedLooks S [.ref (eA E 0), .int x, .ref (eA E k)] S (some (.int (-1))) := by
  refine ct_of [(0, .ref (eA E 0)), (1, .int x), (2, .ref (eA E k))] (by decide +kernel) (Nat.le_of_ble_eq_true rfl) rfl (fun X hM => ?_)
  refine g_aload_n (pc := 0) dX8_refusedLooks_0 0 rfl rfl ?_
  refine gf_X8_21 (pc := 1) rfl dX8_refusedLooks_1 ?_
  refine g_iload_n (pc := 4) dX8_refusedLooks_4 1 rfl rfl ?_
  refine g_invV (pc := 5) j_X0_has mw_X8_134 dX8_refusedLooks_5 (rcv_X0 rfl) (by rfl) (c_X0_has E S 30 x rfl) (Nat.le_of_ble_eq_true rfl) (Nat.le_of_ble_eq_true rfl) (by rfl) (Nat.le_of_ble_eq_true rfl) ?_
  refine g_b_eq (pc := 8) (tgt := 15) dX8_refusedLooks_8 (by decide) (fun c_8 => ?_) (fun c_8 => ?_)
  · refine g_iconst (pc := 15) (v := -1) dX8_refusedLooks_15 (by decide) ?_
    exact g_iret (pc := 16) hM rfl rfl ⟨rfl, rfl⟩ dX8_refusedLooks_16
  · exact absurd (g1.symm.trans c_8) (by decide)
set_option maxRecDepth 100000 in
set_option maxHeartbeats 4000000 in
theorem c_X8_refusedLooks_m (E : En) (S : St) (x : Int32) (k : Nat) (hk : kd k = 3) (g1 : hasF S 30 x = true) (g2 : misF S k = true) : CTe E i_X8_refusedLooks S [.ref (eA E 0), .int x, .ref (eA E k)] (refS S 1) (some (.int (-3))) := by
  refine ct_of [(0, .ref (eA E 0)), (1, .int x), (2, .ref (eA E k))] (by decide +kernel) (Nat.le_of_ble_eq_true rfl) rfl (fun X hM => ?_)
  refine g_aload_n (pc := 0) dX8_refusedLooks_0 0 rfl rfl ?_
  refine gf_X8_21 (pc := 1) rfl dX8_refusedLooks_1 ?_
  refine g_iload_n (pc := 4) dX8_refusedLooks_4 1 rfl rfl ?_
  refine g_invV (pc := 5) j_X0_has mw_X8_134 dX8_refusedLooks_5 (rcv_X0 rfl) (by rfl) (c_X0_has E S 30 x rfl) (Nat.le_of_ble_eq_true rfl) (Nat.le_of_ble_eq_true rfl) (by rfl) (Nat.le_of_ble_eq_true rfl) ?_
  refine g_b_eq (pc := 8) (tgt := 15) dX8_refusedLooks_8 (by decide) (fun c_8 => ?_) (fun c_8 => ?_)
  · exact absurd (g1.symm.trans c_8) (by decide)
  · refine g_aload_n (pc := 11) dX8_refusedLooks_11 2 rfl rfl ?_
    refine g_ifnonnull (pc := 12) (tgt := 17) dX8_refusedLooks_12 (by decide) ?_
    refine g_aload_n (pc := 17) dX8_refusedLooks_17 2 rfl rfl ?_
    refine g_invV (pc := 18) j_X5_isMissing mw_X8_94 dX8_refusedLooks_18 (rcv_X5 (by assumption)) (by rfl) (c_X5_isMissing E S k (by assumption)) (Nat.le_of_ble_eq_true rfl) (Nat.le_of_ble_eq_true rfl) (by rfl) (Nat.le_of_ble_eq_true rfl) ?_
    refine g_b_eq (pc := 21) (tgt := 30) dX8_refusedLooks_21 (by decide) (fun c_21 => ?_) (fun c_21 => ?_)
    · exact absurd (g2.symm.trans c_21) (by decide)
    · refine g_aload_n (pc := 24) dX8_refusedLooks_24 0 rfl rfl ?_
      refine g_iconst (pc := 25) (v := 1) dX8_refusedLooks_25 (by decide) ?_
      refine g_invV (pc := 26) j_X8_refuse mw_X8_91 dX8_refusedLooks_26 (rcv_X8) (by rfl) (c_X8_refuse E S 1 (by first | assumption | omega | rfl)) (Nat.le_of_ble_eq_true rfl) (Nat.le_of_ble_eq_true rfl) (by rfl) (Nat.le_of_ble_eq_true rfl) ?_
      exact g_iret (pc := 29) hM rfl rfl ⟨rfl, rfl⟩ dX8_refusedLooks_29
theorem odd_iff {m : Nat} (hm : m ≤ 40) : nI m - nI m / 2 * 2 = 0 ↔ m % 2 = 0 := co_dec (N := 41) (P := fun m => nI m - nI m / 2 * 2 = 0 ↔ m % 2 = 0) (by decide +kernel) (by omega)
set_option maxRecDepth 100000 in
set_option maxHeartbeats 4000000 in
theorem c_X8_refusedLooks_s (E : En) (S : St) (x : Int32) (k m : Nat) (hk : kd k = 3) (g1 : hasF S 30 x = true) (hm : gI S k 1 = nI m) (hm2 : m ≤ 40) (g3 : ¬ m % 2 = 0) : CTe E i_X8_refusedLooks S [.ref (eA E 0), .int x, .ref (eA E k)] (refS S 5) (some (.int (-3))) := by
  have g2 := mis_of hm (by omega)
  have hln := ln_c hk
  refine ct_of [(0, .ref (eA E 0)), (1, .int x), (2, .ref (eA E k))] (by decide +kernel) (Nat.le_of_ble_eq_true rfl) rfl (fun X hM => ?_)
  refine g_aload_n (pc := 0) dX8_refusedLooks_0 0 rfl rfl ?_
  refine gf_X8_21 (pc := 1) rfl dX8_refusedLooks_1 ?_
  refine g_iload_n (pc := 4) dX8_refusedLooks_4 1 rfl rfl ?_
  refine g_invV (pc := 5) j_X0_has mw_X8_134 dX8_refusedLooks_5 (rcv_X0 rfl) (by rfl) (c_X0_has E S 30 x rfl) (Nat.le_of_ble_eq_true rfl) (Nat.le_of_ble_eq_true rfl) (by rfl) (Nat.le_of_ble_eq_true rfl) ?_
  refine g_b_eq (pc := 8) (tgt := 15) dX8_refusedLooks_8 (by decide) (fun c_8 => ?_) (fun c_8 => ?_)
  · exact absurd (g1.symm.trans c_8) (by decide)
  · refine g_aload_n (pc := 11) dX8_refusedLooks_11 2 rfl rfl ?_
    refine g_ifnonnull (pc := 12) (tgt := 17) dX8_refusedLooks_12 (by decide) ?_
    refine g_aload_n (pc := 17) dX8_refusedLooks_17 2 rfl rfl ?_
    refine g_invV (pc := 18) j_X5_isMissing mw_X8_94 dX8_refusedLooks_18 (rcv_X5 (by assumption)) (by rfl) (c_X5_isMissing E S k (by assumption)) (Nat.le_of_ble_eq_true rfl) (Nat.le_of_ble_eq_true rfl) (by rfl) (Nat.le_of_ble_eq_true rfl) ?_
    refine g_b_eq (pc := 21) (tgt := 30) dX8_refusedLooks_21 (by decide) (fun c_21 => ?_) (fun c_21 => ?_)
    · refine g_aload_n (pc := 30) dX8_refusedLooks_30 2 rfl rfl ?_
      refine g_invV (pc := 31) j_X5_size mw_X8_106 dX8_refusedLooks_31 (rcv_X5 (by assumption)) (by rfl) (c_X5_size E S k (by assumption)) (Nat.le_of_ble_eq_true rfl) (Nat.le_of_ble_eq_true rfl) (by rfl) (Nat.le_of_ble_eq_true rfl) ?_
      refine g_iconst (pc := 34) (v := 2) dX8_refusedLooks_34 (by decide) ?_
      refine g_irem (pc := 35) dX8_refusedLooks_35 (by decide) ?_
      refine g_if_eq (pc := 36) (tgt := 45) dX8_refusedLooks_36 (by decide) (fun c_36 => ?_) (fun c_36 => ?_)
      · exact absurd ((odd_iff hm2).mp (by rw [← hm]; exact c_36)) g3
      · refine g_aload_n (pc := 39) dX8_refusedLooks_39 0 rfl rfl ?_
        refine g_iconst (pc := 40) (v := 5) dX8_refusedLooks_40 (by decide) ?_
        refine g_invV (pc := 41) j_X8_refuse mw_X8_91 dX8_refusedLooks_41 (rcv_X8) (by rfl) (c_X8_refuse E S 5 (by first | assumption | omega | rfl)) (Nat.le_of_ble_eq_true rfl) (Nat.le_of_ble_eq_true rfl) (by rfl) (Nat.le_of_ble_eq_true rfl) ?_
        exact g_iret (pc := 44) hM rfl rfl ⟨rfl, rfl⟩ dX8_refusedLooks_44
    · exact absurd (g2.symm.trans c_21) (by decide)
set_option maxRecDepth 100000 in
set_option maxHeartbeats 4000000 in
theorem c_X8_refusedLooks_u (E : En) (S : St) (x : Int32) (k m : Nat) (hk : kd k = 3) (g1 : hasF S 30 x = true) (hm : gI S k 1 = nI m) (hm2 : m ≤ 40) (g3 : m % 2 = 0) (g4 : allB (prP S k) m = false) : CTe E i_X8_refusedLooks S [.ref (eA E 0), .int x, .ref (eA E k)] (refS S 3) (some (.int (-3))) := by
  have g2 := mis_of hm (by omega)
  have hln := ln_c hk
  refine ct_of [(0, .ref (eA E 0)), (1, .int x), (2, .ref (eA E k))] (by decide +kernel) (Nat.le_of_ble_eq_true rfl) rfl (fun X hM => ?_)
  refine g_aload_n (pc := 0) dX8_refusedLooks_0 0 rfl rfl ?_
  refine gf_X8_21 (pc := 1) rfl dX8_refusedLooks_1 ?_
  refine g_iload_n (pc := 4) dX8_refusedLooks_4 1 rfl rfl ?_
  refine g_invV (pc := 5) j_X0_has mw_X8_134 dX8_refusedLooks_5 (rcv_X0 rfl) (by rfl) (c_X0_has E S 30 x rfl) (Nat.le_of_ble_eq_true rfl) (Nat.le_of_ble_eq_true rfl) (by rfl) (Nat.le_of_ble_eq_true rfl) ?_
  refine g_b_eq (pc := 8) (tgt := 15) dX8_refusedLooks_8 (by decide) (fun c_8 => ?_) (fun c_8 => ?_)
  · exact absurd (g1.symm.trans c_8) (by decide)
  · refine g_aload_n (pc := 11) dX8_refusedLooks_11 2 rfl rfl ?_
    refine g_ifnonnull (pc := 12) (tgt := 17) dX8_refusedLooks_12 (by decide) ?_
    refine g_aload_n (pc := 17) dX8_refusedLooks_17 2 rfl rfl ?_
    refine g_invV (pc := 18) j_X5_isMissing mw_X8_94 dX8_refusedLooks_18 (rcv_X5 (by assumption)) (by rfl) (c_X5_isMissing E S k (by assumption)) (Nat.le_of_ble_eq_true rfl) (Nat.le_of_ble_eq_true rfl) (by rfl) (Nat.le_of_ble_eq_true rfl) ?_
    refine g_b_eq (pc := 21) (tgt := 30) dX8_refusedLooks_21 (by decide) (fun c_21 => ?_) (fun c_21 => ?_)
    · refine g_aload_n (pc := 30) dX8_refusedLooks_30 2 rfl rfl ?_
      refine g_invV (pc := 31) j_X5_size mw_X8_106 dX8_refusedLooks_31 (rcv_X5 (by assumption)) (by rfl) (c_X5_size E S k (by assumption)) (Nat.le_of_ble_eq_true rfl) (Nat.le_of_ble_eq_true rfl) (by rfl) (Nat.le_of_ble_eq_true rfl) ?_
      refine g_iconst (pc := 34) (v := 2) dX8_refusedLooks_34 (by decide) ?_
      refine g_irem (pc := 35) dX8_refusedLooks_35 (by decide) ?_
      refine g_if_eq (pc := 36) (tgt := 45) dX8_refusedLooks_36 (by decide) (fun c_36 => ?_) (fun c_36 => ?_)
      · refine g_aload_n (pc := 45) dX8_refusedLooks_45 2 rfl rfl ?_
        refine g_invS (pc := 46) j_X3_arePairs mw_X8_333 dX8_refusedLooks_46 (by rfl) (c_X3_arePairs E S k m (by assumption) (by first | assumption | omega | rfl) (by omega)) (Nat.le_of_ble_eq_true rfl) (Nat.le_of_ble_eq_true rfl) (by rfl) (Nat.le_of_ble_eq_true rfl) ?_
        refine g_b_eq (pc := 49) (tgt := 56) dX8_refusedLooks_49 (by decide) (fun c_49 => ?_) (fun c_49 => ?_)
        · refine g_aload_n (pc := 56) dX8_refusedLooks_56 0 rfl rfl ?_
          refine g_iconst (pc := 57) (v := 3) dX8_refusedLooks_57 (by decide) ?_
          refine g_invV (pc := 58) j_X8_refuse mw_X8_91 dX8_refusedLooks_58 (rcv_X8) (by rfl) (c_X8_refuse E S 3 (by first | assumption | omega | rfl)) (Nat.le_of_ble_eq_true rfl) (Nat.le_of_ble_eq_true rfl) (by rfl) (Nat.le_of_ble_eq_true rfl) ?_
          exact g_iret (pc := 61) hM rfl rfl ⟨rfl, rfl⟩ dX8_refusedLooks_61
        · exact absurd (g4.symm.trans c_49) (by decide)
      · exact absurd ((odd_iff hm2).mpr g3) (by rw [← hm]; exact c_36)
    · exact absurd (g2.symm.trans c_21) (by decide)
set_option maxRecDepth 100000 in
set_option maxHeartbeats 4000000 in
theorem c_X8_refusedLooks_ok (E : En) (S : St) (x : Int32) (k m : Nat) (hk : kd k = 3) (g1 : hasF S 30 x = true) (hm : gI S k 1 = nI m) (hm2 : m ≤ 40) (g3 : m % 2 = 0) (g4 : allB (prP S k) m = true) : CTe E i_X8_refusedLooks S [.ref (eA E 0), .int x, .ref (eA E k)] S (some (.int 0)) := by
  have g2 := mis_of hm (by omega)
  have hln := ln_c hk
  refine ct_of [(0, .ref (eA E 0)), (1, .int x), (2, .ref (eA E k))] (by decide +kernel) (Nat.le_of_ble_eq_true rfl) rfl (fun X hM => ?_)
  refine g_aload_n (pc := 0) dX8_refusedLooks_0 0 rfl rfl ?_
  refine gf_X8_21 (pc := 1) rfl dX8_refusedLooks_1 ?_
  refine g_iload_n (pc := 4) dX8_refusedLooks_4 1 rfl rfl ?_
  refine g_invV (pc := 5) j_X0_has mw_X8_134 dX8_refusedLooks_5 (rcv_X0 rfl) (by rfl) (c_X0_has E S 30 x rfl) (Nat.le_of_ble_eq_true rfl) (Nat.le_of_ble_eq_true rfl) (by rfl) (Nat.le_of_ble_eq_true rfl) ?_
  refine g_b_eq (pc := 8) (tgt := 15) dX8_refusedLooks_8 (by decide) (fun c_8 => ?_) (fun c_8 => ?_)
  · exact absurd (g1.symm.trans c_8) (by decide)
  · refine g_aload_n (pc := 11) dX8_refusedLooks_11 2 rfl rfl ?_
    refine g_ifnonnull (pc := 12) (tgt := 17) dX8_refusedLooks_12 (by decide) ?_
    refine g_aload_n (pc := 17) dX8_refusedLooks_17 2 rfl rfl ?_
    refine g_invV (pc := 18) j_X5_isMissing mw_X8_94 dX8_refusedLooks_18 (rcv_X5 (by assumption)) (by rfl) (c_X5_isMissing E S k (by assumption)) (Nat.le_of_ble_eq_true rfl) (Nat.le_of_ble_eq_true rfl) (by rfl) (Nat.le_of_ble_eq_true rfl) ?_
    refine g_b_eq (pc := 21) (tgt := 30) dX8_refusedLooks_21 (by decide) (fun c_21 => ?_) (fun c_21 => ?_)
    · refine g_aload_n (pc := 30) dX8_refusedLooks_30 2 rfl rfl ?_
      refine g_invV (pc := 31) j_X5_size mw_X8_106 dX8_refusedLooks_31 (rcv_X5 (by assumption)) (by rfl) (c_X5_size E S k (by assumption)) (Nat.le_of_ble_eq_true rfl) (Nat.le_of_ble_eq_true rfl) (by rfl) (Nat.le_of_ble_eq_true rfl) ?_
      refine g_iconst (pc := 34) (v := 2) dX8_refusedLooks_34 (by decide) ?_
      refine g_irem (pc := 35) dX8_refusedLooks_35 (by decide) ?_
      refine g_if_eq (pc := 36) (tgt := 45) dX8_refusedLooks_36 (by decide) (fun c_36 => ?_) (fun c_36 => ?_)
      · refine g_aload_n (pc := 45) dX8_refusedLooks_45 2 rfl rfl ?_
        refine g_invS (pc := 46) j_X3_arePairs mw_X8_333 dX8_refusedLooks_46 (by rfl) (c_X3_arePairs E S k m (by assumption) (by first | assumption | omega | rfl) (by omega)) (Nat.le_of_ble_eq_true rfl) (Nat.le_of_ble_eq_true rfl) (by rfl) (Nat.le_of_ble_eq_true rfl) ?_
        refine g_b_eq (pc := 49) (tgt := 56) dX8_refusedLooks_49 (by decide) (fun c_49 => ?_) (fun c_49 => ?_)
        · exact absurd (g4.symm.trans c_49) (by decide)
        · refine g_iconst (pc := 52) (v := 0) dX8_refusedLooks_52 (by decide) ?_
          refine g_goto (pc := 53) (tgt := 61) dX8_refusedLooks_53 (by decide) ?_
          exact g_iret (pc := 61) hM rfl rfl ⟨rfl, rfl⟩ dX8_refusedLooks_61
      · exact absurd ((odd_iff hm2).mpr g3) (by rw [← hm]; exact c_36)
    · exact absurd (g2.symm.trans c_21) (by decide)
set_option maxRecDepth 100000 in
set_option maxHeartbeats 4000000 in
theorem c_X8_firsts_bad0 (E : En) (S : St) (x r : Int32) (hr : idxF 6 r = false) : CTe E i_X8_firsts S [.ref (eA E 0), .int x, .int r] S (some (.int (-1))) := by
  refine ct_of [(0, .ref (eA E 0)), (1, .int x), (2, .int r)] (by decide +kernel) (Nat.le_of_ble_eq_true rfl) rfl (fun X hM => ?_)
  refine g_aload_n (pc := 0) dX8_firsts_0 0 rfl rfl ?_
  refine g_iload_n (pc := 1) dX8_firsts_1 2 rfl rfl ?_
  refine g_invV (pc := 2) j_X8_rowOf mw_X8_64 dX8_firsts_2 (rcv_X8) (by rfl) (c_X8_rowOf_0 E S r (by first | assumption | omega | rfl)) (Nat.le_of_ble_eq_true rfl) (Nat.le_of_ble_eq_true rfl) (by rfl) (Nat.le_of_ble_eq_true rfl) ?_
  refine g_astore_nN (pc := 5) (L' := [(3, .null), (0, .ref (eA E 0)), (1, .int x), (2, .int r)]) dX8_firsts_5 rfl (Nat.le_of_ble_eq_true rfl) rfl ?_
  refine g_aload_n (pc := 6) dX8_firsts_6 1 rfl rfl ?_
  refine g_iload_n (pc := 7) dX8_firsts_7 2 rfl rfl ?_
  refine g_aload_nN (pc := 8) dX8_firsts_8 0 rfl rfl ?_
  refine g_invV (pc := 9) j_X8_refusedLooks mw_X8_253 dX8_firsts_9 (rcv_X8) (by rfl) (c_X8_refusedLooks_n E S x ) (Nat.le_of_ble_eq_true rfl) (Nat.le_of_ble_eq_true rfl) (by rfl) (Nat.le_of_ble_eq_true rfl) ?_
  refine g_istore (pc := 12) (L' := [(4, .int (-1)), (3, .null), (0, .ref (eA E 0)), (1, .int x), (2, .int r)]) dX8_firsts_12 (Nat.le_of_ble_eq_true rfl) rfl ?_
  refine g_aload_nN (pc := 14) dX8_firsts_14 1 rfl rfl ?_
  refine g_ifnullN (pc := 15) (tgt := 23) dX8_firsts_15 (by decide) ?_
  refine g_iload (pc := 23) dX8_firsts_23 0 rfl ?_
  exact g_iret (pc := 25) hM rfl rfl ⟨rfl, rfl⟩ dX8_firsts_25
set_option maxRecDepth 100000 in
set_option maxHeartbeats 4000000 in
theorem c_X8_firsts_bad (E : En) (S : St) (x : Int32) (n : Nat) (hn : n < 6) (g1 : hasF S 30 x = false) : CTe E i_X8_firsts S [.ref (eA E 0), .int x, .int (nI n)] S (some (.int (-1))) := by
  refine ct_of [(0, .ref (eA E 0)), (1, .int x), (2, .int (nI n))] (by decide +kernel) (Nat.le_of_ble_eq_true rfl) rfl (fun X hM => ?_)
  refine g_aload_n (pc := 0) dX8_firsts_0 0 rfl rfl ?_
  refine g_iload_n (pc := 1) dX8_firsts_1 2 rfl rfl ?_
  refine g_invV (pc := 2) j_X8_rowOf mw_X8_64 dX8_firsts_2 (rcv_X8) (by rfl) (c_X8_rowOf_n E S n (by first | assumption | omega | rfl)) (Nat.le_of_ble_eq_true rfl) (Nat.le_of_ble_eq_true rfl) (by rfl) (Nat.le_of_ble_eq_true rfl) ?_
  refine g_astore_n (pc := 5) (L' := [(3, .ref (eA E (10 + n))), (0, .ref (eA E 0)), (1, .int x), (2, .int (nI n))]) dX8_firsts_5 rfl (Nat.le_of_ble_eq_true rfl) rfl ?_
  refine g_aload_n (pc := 6) dX8_firsts_6 1 rfl rfl ?_
  refine g_iload_n (pc := 7) dX8_firsts_7 2 rfl rfl ?_
  refine g_aload_n (pc := 8) dX8_firsts_8 0 rfl rfl ?_
  refine g_invV (pc := 9) j_X8_refusedLooks mw_X8_253 dX8_firsts_9 (rcv_X8) (by rfl) (c_X8_refusedLooks_bad E S x (10 + n) (kd_r (by omega)) (by first | assumption | omega | rfl)) (Nat.le_of_ble_eq_true rfl) (Nat.le_of_ble_eq_true rfl) (by rfl) (Nat.le_of_ble_eq_true rfl) ?_
  refine g_istore (pc := 12) (L' := [(4, .int (-1)), (3, .ref (eA E (10 + n))), (0, .ref (eA E 0)), (1, .int x), (2, .int (nI n))]) dX8_firsts_12 (Nat.le_of_ble_eq_true rfl) rfl ?_
  refine g_aload_n (pc := 14) dX8_firsts_14 1 rfl rfl ?_
  refine g_ifnull (pc := 15) dX8_firsts_15 ?_
  refine g_iload (pc := 18) dX8_firsts_18 0 rfl ?_
  refine g_if_eq (pc := 20) (tgt := 26) dX8_firsts_20 (by decide) (fun c_20 => ?_) (fun c_20 => ?_)
  · exact absurd c_20 (by decide)
  · refine g_iload (pc := 23) dX8_firsts_23 0 rfl ?_
    exact g_iret (pc := 25) hM rfl rfl ⟨rfl, rfl⟩ dX8_firsts_25
set_option maxRecDepth 100000 in
set_option maxHeartbeats 4000000 in
theorem c_X8_firsts_m (E : En) (S : St) (x : Int32) (n : Nat) (hn : n < 6) (g1 : hasF S 30 x = true) (g2 : misF S (10 + n) = true) : CTe E i_X8_firsts S [.ref (eA E 0), .int x, .int (nI n)] (refS S 1) (some (.int (-3))) := by
  refine ct_of [(0, .ref (eA E 0)), (1, .int x), (2, .int (nI n))] (by decide +kernel) (Nat.le_of_ble_eq_true rfl) rfl (fun X hM => ?_)
  refine g_aload_n (pc := 0) dX8_firsts_0 0 rfl rfl ?_
  refine g_iload_n (pc := 1) dX8_firsts_1 2 rfl rfl ?_
  refine g_invV (pc := 2) j_X8_rowOf mw_X8_64 dX8_firsts_2 (rcv_X8) (by rfl) (c_X8_rowOf_n E S n (by first | assumption | omega | rfl)) (Nat.le_of_ble_eq_true rfl) (Nat.le_of_ble_eq_true rfl) (by rfl) (Nat.le_of_ble_eq_true rfl) ?_
  refine g_astore_n (pc := 5) (L' := [(3, .ref (eA E (10 + n))), (0, .ref (eA E 0)), (1, .int x), (2, .int (nI n))]) dX8_firsts_5 rfl (Nat.le_of_ble_eq_true rfl) rfl ?_
  refine g_aload_n (pc := 6) dX8_firsts_6 1 rfl rfl ?_
  refine g_iload_n (pc := 7) dX8_firsts_7 2 rfl rfl ?_
  refine g_aload_n (pc := 8) dX8_firsts_8 0 rfl rfl ?_
  refine g_invV (pc := 9) j_X8_refusedLooks mw_X8_253 dX8_firsts_9 (rcv_X8) (by rfl) (c_X8_refusedLooks_m E S x (10 + n) (kd_r (by omega)) (by first | assumption | omega | rfl) (by first | assumption | omega | rfl)) (Nat.le_of_ble_eq_true rfl) (Nat.le_of_ble_eq_true rfl) (by rfl) (Nat.le_of_ble_eq_true rfl) ?_
  refine g_istore (pc := 12) (L' := [(4, .int (-3)), (3, .ref (eA E (10 + n))), (0, .ref (eA E 0)), (1, .int x), (2, .int (nI n))]) dX8_firsts_12 (Nat.le_of_ble_eq_true rfl) rfl ?_
  refine g_aload_n (pc := 14) dX8_firsts_14 1 rfl rfl ?_
  refine g_ifnull (pc := 15) dX8_firsts_15 ?_
  refine g_iload (pc := 18) dX8_firsts_18 0 rfl ?_
  refine g_if_eq (pc := 20) (tgt := 26) dX8_firsts_20 (by decide) (fun c_20 => ?_) (fun c_20 => ?_)
  · exact absurd c_20 (by decide)
  · refine g_iload (pc := 23) dX8_firsts_23 0 rfl ?_
    exact g_iret (pc := 25) hM rfl rfl ⟨rfl, rfl⟩ dX8_firsts_25
set_option maxRecDepth 100000 in
set_option maxHeartbeats 4000000 in
theorem c_X8_firsts_s (E : En) (S : St) (x : Int32) (n m : Nat) (hn : n < 6) (g1 : hasF S 30 x = true) (hm : gI S (10 + n) 1 = nI m) (hm2 : m ≤ 40) (g3 : ¬ m % 2 = 0) : CTe E i_X8_firsts S [.ref (eA E 0), .int x, .int (nI n)] (refS S 5) (some (.int (-3))) := by
  refine ct_of [(0, .ref (eA E 0)), (1, .int x), (2, .int (nI n))] (by decide +kernel) (Nat.le_of_ble_eq_true rfl) rfl (fun X hM => ?_)
  refine g_aload_n (pc := 0) dX8_firsts_0 0 rfl rfl ?_
  refine g_iload_n (pc := 1) dX8_firsts_1 2 rfl rfl ?_
  refine g_invV (pc := 2) j_X8_rowOf mw_X8_64 dX8_firsts_2 (rcv_X8) (by rfl) (c_X8_rowOf_n E S n (by first | assumption | omega | rfl)) (Nat.le_of_ble_eq_true rfl) (Nat.le_of_ble_eq_true rfl) (by rfl) (Nat.le_of_ble_eq_true rfl) ?_
  refine g_astore_n (pc := 5) (L' := [(3, .ref (eA E (10 + n))), (0, .ref (eA E 0)), (1, .int x), (2, .int (nI n))]) dX8_firsts_5 rfl (Nat.le_of_ble_eq_true rfl) rfl ?_
  refine g_aload_n (pc := 6) dX8_firsts_6 1 rfl rfl ?_
  refine g_iload_n (pc := 7) dX8_firsts_7 2 rfl rfl ?_
  refine g_aload_n (pc := 8) dX8_firsts_8 0 rfl rfl ?_
  refine g_invV (pc := 9) j_X8_refusedLooks mw_X8_253 dX8_firsts_9 (rcv_X8) (by rfl) (c_X8_refusedLooks_s E S x (10 + n) m (kd_r (by omega)) (by first | assumption | omega | rfl) (by first | assumption | omega | rfl) (by first | assumption | omega | rfl) (by first | assumption | omega | rfl)) (Nat.le_of_ble_eq_true rfl) (Nat.le_of_ble_eq_true rfl) (by rfl) (Nat.le_of_ble_eq_true rfl) ?_
  refine g_istore (pc := 12) (L' := [(4, .int (-3)), (3, .ref (eA E (10 + n))), (0, .ref (eA E 0)), (1, .int x), (2, .int (nI n))]) dX8_firsts_12 (Nat.le_of_ble_eq_true rfl) rfl ?_
  refine g_aload_n (pc := 14) dX8_firsts_14 1 rfl rfl ?_
  refine g_ifnull (pc := 15) dX8_firsts_15 ?_
  refine g_iload (pc := 18) dX8_firsts_18 0 rfl ?_
  refine g_if_eq (pc := 20) (tgt := 26) dX8_firsts_20 (by decide) (fun c_20 => ?_) (fun c_20 => ?_)
  · exact absurd c_20 (by decide)
  · refine g_iload (pc := 23) dX8_firsts_23 0 rfl ?_
    exact g_iret (pc := 25) hM rfl rfl ⟨rfl, rfl⟩ dX8_firsts_25
set_option maxRecDepth 100000 in
set_option maxHeartbeats 4000000 in
theorem c_X8_firsts_u (E : En) (S : St) (x : Int32) (n m : Nat) (hn : n < 6) (g1 : hasF S 30 x = true) (hm : gI S (10 + n) 1 = nI m) (hm2 : m ≤ 40) (g3 : m % 2 = 0) (g4 : allB (prP S (10 + n)) m = false) : CTe E i_X8_firsts S [.ref (eA E 0), .int x, .int (nI n)] (refS S 3) (some (.int (-3))) := by
  refine ct_of [(0, .ref (eA E 0)), (1, .int x), (2, .int (nI n))] (by decide +kernel) (Nat.le_of_ble_eq_true rfl) rfl (fun X hM => ?_)
  refine g_aload_n (pc := 0) dX8_firsts_0 0 rfl rfl ?_
  refine g_iload_n (pc := 1) dX8_firsts_1 2 rfl rfl ?_
  refine g_invV (pc := 2) j_X8_rowOf mw_X8_64 dX8_firsts_2 (rcv_X8) (by rfl) (c_X8_rowOf_n E S n (by first | assumption | omega | rfl)) (Nat.le_of_ble_eq_true rfl) (Nat.le_of_ble_eq_true rfl) (by rfl) (Nat.le_of_ble_eq_true rfl) ?_
  refine g_astore_n (pc := 5) (L' := [(3, .ref (eA E (10 + n))), (0, .ref (eA E 0)), (1, .int x), (2, .int (nI n))]) dX8_firsts_5 rfl (Nat.le_of_ble_eq_true rfl) rfl ?_
  refine g_aload_n (pc := 6) dX8_firsts_6 1 rfl rfl ?_
  refine g_iload_n (pc := 7) dX8_firsts_7 2 rfl rfl ?_
  refine g_aload_n (pc := 8) dX8_firsts_8 0 rfl rfl ?_
  refine g_invV (pc := 9) j_X8_refusedLooks mw_X8_253 dX8_firsts_9 (rcv_X8) (by rfl) (c_X8_refusedLooks_u E S x (10 + n) m (kd_r (by omega)) (by first | assumption | omega | rfl) (by first | assumption | omega | rfl) (by first | assumption | omega | rfl) (by first | assumption | omega | rfl) (by first | assumption | omega | rfl)) (Nat.le_of_ble_eq_true rfl) (Nat.le_of_ble_eq_true rfl) (by rfl) (Nat.le_of_ble_eq_true rfl) ?_
  refine g_istore (pc := 12) (L' := [(4, .int (-3)), (3, .ref (eA E (10 + n))), (0, .ref (eA E 0)), (1, .int x), (2, .int (nI n))]) dX8_firsts_12 (Nat.le_of_ble_eq_true rfl) rfl ?_
  refine g_aload_n (pc := 14) dX8_firsts_14 1 rfl rfl ?_
  refine g_ifnull (pc := 15) dX8_firsts_15 ?_
  refine g_iload (pc := 18) dX8_firsts_18 0 rfl ?_
  refine g_if_eq (pc := 20) (tgt := 26) dX8_firsts_20 (by decide) (fun c_20 => ?_) (fun c_20 => ?_)
  · exact absurd c_20 (by decide)
  · refine g_iload (pc := 23) dX8_firsts_23 0 rfl ?_
    exact g_iret (pc := 25) hM rfl rfl ⟨rfl, rfl⟩ dX8_firsts_25
set_option maxRecDepth 100000 in
set_option maxHeartbeats 4000000 in
theorem c_X8_firsts_ok (E : En) (S : St) (x : Int32) (n m : Nat) (hz : okB S 30) (hn : n < 6) (g1 : hasF S 30 x = true) (hm : gI S (10 + n) 1 = nI m) (hm2 : m ≤ 40) (g3 : m % 2 = 0) (g4 : allB (prP S (10 + n)) m = true) : CTe E i_X8_firsts S [.ref (eA E 0), .int x, .int (nI n)] S (some (.int (setB (fun i => fitF S (fldF S 30 0 x) (nI i) (10 + n) m) 10))) := by
  refine ct_of [(0, .ref (eA E 0)), (1, .int x), (2, .int (nI n))] (by decide +kernel) (Nat.le_of_ble_eq_true rfl) rfl (fun X hM => ?_)
  refine g_aload_n (pc := 0) dX8_firsts_0 0 rfl rfl ?_
  refine g_iload_n (pc := 1) dX8_firsts_1 2 rfl rfl ?_
  refine g_invV (pc := 2) j_X8_rowOf mw_X8_64 dX8_firsts_2 (rcv_X8) (by rfl) (c_X8_rowOf_n E S n (by first | assumption | omega | rfl)) (Nat.le_of_ble_eq_true rfl) (Nat.le_of_ble_eq_true rfl) (by rfl) (Nat.le_of_ble_eq_true rfl) ?_
  refine g_astore_n (pc := 5) (L' := [(3, .ref (eA E (10 + n))), (0, .ref (eA E 0)), (1, .int x), (2, .int (nI n))]) dX8_firsts_5 rfl (Nat.le_of_ble_eq_true rfl) rfl ?_
  refine g_aload_n (pc := 6) dX8_firsts_6 1 rfl rfl ?_
  refine g_iload_n (pc := 7) dX8_firsts_7 2 rfl rfl ?_
  refine g_aload_n (pc := 8) dX8_firsts_8 0 rfl rfl ?_
  refine g_invV (pc := 9) j_X8_refusedLooks mw_X8_253 dX8_firsts_9 (rcv_X8) (by rfl) (c_X8_refusedLooks_ok E S x (10 + n) m (kd_r (by omega)) (by first | assumption | omega | rfl) (by first | assumption | omega | rfl) (by first | assumption | omega | rfl) (by first | assumption | omega | rfl) (by first | assumption | omega | rfl)) (Nat.le_of_ble_eq_true rfl) (Nat.le_of_ble_eq_true rfl) (by rfl) (Nat.le_of_ble_eq_true rfl) ?_
  refine g_istore (pc := 12) (L' := [(4, .int 0), (3, .ref (eA E (10 + n))), (0, .ref (eA E 0)), (1, .int x), (2, .int (nI n))]) dX8_firsts_12 (Nat.le_of_ble_eq_true rfl) rfl ?_
  refine g_aload_n (pc := 14) dX8_firsts_14 1 rfl rfl ?_
  refine g_ifnull (pc := 15) dX8_firsts_15 ?_
  refine g_iload (pc := 18) dX8_firsts_18 0 rfl ?_
  refine g_if_eq (pc := 20) (tgt := 26) dX8_firsts_20 (by decide) (fun c_20 => ?_) (fun c_20 => ?_)
  · refine g_aload_n (pc := 26) dX8_firsts_26 2 rfl rfl ?_
    refine gf_X8_21 (pc := 27) rfl dX8_firsts_27 ?_
    refine g_iload_n (pc := 30) dX8_firsts_30 3 rfl rfl ?_
    refine g_invV (pc := 31) j_X0_kindOf mw_X8_142 dX8_firsts_31 (rcv_X0 rfl) (by rfl) (c_X0_kindOf E S 30 x rfl (by first | assumption | omega | rfl)) (Nat.le_of_ble_eq_true rfl) (Nat.le_of_ble_eq_true rfl) (by rfl) (Nat.le_of_ble_eq_true rfl) ?_
    refine g_aload_n (pc := 34) dX8_firsts_34 1 rfl rfl ?_
    refine g_invS (pc := 35) j_X3_fittingFirsts mw_X8_257 dX8_firsts_35 (by rfl) (c_X3_fittingFirsts E S (fldF S 30 0 x) (10 + n) m (kd_r (by omega)) (by first | assumption | omega | rfl) (by rw [ln_r hn]; exact hm2)) (Nat.le_of_ble_eq_true rfl) (Nat.le_of_ble_eq_true rfl) (by rfl) (Nat.le_of_ble_eq_true rfl) ?_
    exact g_iret (pc := 38) hM rfl rfl ⟨rfl, rfl⟩ dX8_firsts_38
  · exact absurd c_20 (by decide)
set_option maxRecDepth 100000 in
set_option maxHeartbeats 4000000 in
theorem c_X8_kinds_bad0 (E : En) (S : St) (x r : Int32) (hr : idxF 6 r = false) : CTe E i_X8_kinds S [.ref (eA E 0), .int x, .int r] S (some (.int (-1))) := by
  refine ct_of [(0, .ref (eA E 0)), (1, .int x), (2, .int r)] (by decide +kernel) (Nat.le_of_ble_eq_true rfl) rfl (fun X hM => ?_)
  refine g_aload_n (pc := 0) dX8_kinds_0 0 rfl rfl ?_
  refine g_iload_n (pc := 1) dX8_kinds_1 2 rfl rfl ?_
  refine g_invV (pc := 2) j_X8_rowOf mw_X8_64 dX8_kinds_2 (rcv_X8) (by rfl) (c_X8_rowOf_0 E S r (by first | assumption | omega | rfl)) (Nat.le_of_ble_eq_true rfl) (Nat.le_of_ble_eq_true rfl) (by rfl) (Nat.le_of_ble_eq_true rfl) ?_
  refine g_astore_nN (pc := 5) (L' := [(3, .null), (0, .ref (eA E 0)), (1, .int x), (2, .int r)]) dX8_kinds_5 rfl (Nat.le_of_ble_eq_true rfl) rfl ?_
  refine g_aload_n (pc := 6) dX8_kinds_6 1 rfl rfl ?_
  refine g_iload_n (pc := 7) dX8_kinds_7 2 rfl rfl ?_
  refine g_aload_nN (pc := 8) dX8_kinds_8 0 rfl rfl ?_
  refine g_invV (pc := 9) j_X8_refusedLooks mw_X8_253 dX8_kinds_9 (rcv_X8) (by rfl) (c_X8_refusedLooks_n E S x ) (Nat.le_of_ble_eq_true rfl) (Nat.le_of_ble_eq_true rfl) (by rfl) (Nat.le_of_ble_eq_true rfl) ?_
  refine g_istore (pc := 12) (L' := [(4, .int (-1)), (3, .null), (0, .ref (eA E 0)), (1, .int x), (2, .int r)]) dX8_kinds_12 (Nat.le_of_ble_eq_true rfl) rfl ?_
  refine g_aload_nN (pc := 14) dX8_kinds_14 1 rfl rfl ?_
  refine g_ifnullN (pc := 15) (tgt := 23) dX8_kinds_15 (by decide) ?_
  refine g_iload (pc := 23) dX8_kinds_23 0 rfl ?_
  exact g_iret (pc := 25) hM rfl rfl ⟨rfl, rfl⟩ dX8_kinds_25
set_option maxRecDepth 100000 in
set_option maxHeartbeats 4000000 in
theorem c_X8_kinds_bad (E : En) (S : St) (x : Int32) (n : Nat) (hn : n < 6) (g1 : hasF S 30 x = false) : CTe E i_X8_kinds S [.ref (eA E 0), .int x, .int (nI n)] S (some (.int (-1))) := by
  refine ct_of [(0, .ref (eA E 0)), (1, .int x), (2, .int (nI n))] (by decide +kernel) (Nat.le_of_ble_eq_true rfl) rfl (fun X hM => ?_)
  refine g_aload_n (pc := 0) dX8_kinds_0 0 rfl rfl ?_
  refine g_iload_n (pc := 1) dX8_kinds_1 2 rfl rfl ?_
  refine g_invV (pc := 2) j_X8_rowOf mw_X8_64 dX8_kinds_2 (rcv_X8) (by rfl) (c_X8_rowOf_n E S n (by first | assumption | omega | rfl)) (Nat.le_of_ble_eq_true rfl) (Nat.le_of_ble_eq_true rfl) (by rfl) (Nat.le_of_ble_eq_true rfl) ?_
  refine g_astore_n (pc := 5) (L' := [(3, .ref (eA E (10 + n))), (0, .ref (eA E 0)), (1, .int x), (2, .int (nI n))]) dX8_kinds_5 rfl (Nat.le_of_ble_eq_true rfl) rfl ?_
  refine g_aload_n (pc := 6) dX8_kinds_6 1 rfl rfl ?_
  refine g_iload_n (pc := 7) dX8_kinds_7 2 rfl rfl ?_
  refine g_aload_n (pc := 8) dX8_kinds_8 0 rfl rfl ?_
  refine g_invV (pc := 9) j_X8_refusedLooks mw_X8_253 dX8_kinds_9 (rcv_X8) (by rfl) (c_X8_refusedLooks_bad E S x (10 + n) (kd_r (by omega)) (by first | assumption | omega | rfl)) (Nat.le_of_ble_eq_true rfl) (Nat.le_of_ble_eq_true rfl) (by rfl) (Nat.le_of_ble_eq_true rfl) ?_
  refine g_istore (pc := 12) (L' := [(4, .int (-1)), (3, .ref (eA E (10 + n))), (0, .ref (eA E 0)), (1, .int x), (2, .int (nI n))]) dX8_kinds_12 (Nat.le_of_ble_eq_true rfl) rfl ?_
  refine g_aload_n (pc := 14) dX8_kinds_14 1 rfl rfl ?_
  refine g_ifnull (pc := 15) dX8_kinds_15 ?_
  refine g_iload (pc := 18) dX8_kinds_18 0 rfl ?_
  refine g_if_eq (pc := 20) (tgt := 26) dX8_kinds_20 (by decide) (fun c_20 => ?_) (fun c_20 => ?_)
  · exact absurd c_20 (by decide)
  · refine g_iload (pc := 23) dX8_kinds_23 0 rfl ?_
    exact g_iret (pc := 25) hM rfl rfl ⟨rfl, rfl⟩ dX8_kinds_25
set_option maxRecDepth 100000 in
set_option maxHeartbeats 4000000 in
theorem c_X8_kinds_m (E : En) (S : St) (x : Int32) (n : Nat) (hn : n < 6) (g1 : hasF S 30 x = true) (g2 : misF S (10 + n) = true) : CTe E i_X8_kinds S [.ref (eA E 0), .int x, .int (nI n)] (refS S 1) (some (.int (-3))) := by
  refine ct_of [(0, .ref (eA E 0)), (1, .int x), (2, .int (nI n))] (by decide +kernel) (Nat.le_of_ble_eq_true rfl) rfl (fun X hM => ?_)
  refine g_aload_n (pc := 0) dX8_kinds_0 0 rfl rfl ?_
  refine g_iload_n (pc := 1) dX8_kinds_1 2 rfl rfl ?_
  refine g_invV (pc := 2) j_X8_rowOf mw_X8_64 dX8_kinds_2 (rcv_X8) (by rfl) (c_X8_rowOf_n E S n (by first | assumption | omega | rfl)) (Nat.le_of_ble_eq_true rfl) (Nat.le_of_ble_eq_true rfl) (by rfl) (Nat.le_of_ble_eq_true rfl) ?_
  refine g_astore_n (pc := 5) (L' := [(3, .ref (eA E (10 + n))), (0, .ref (eA E 0)), (1, .int x), (2, .int (nI n))]) dX8_kinds_5 rfl (Nat.le_of_ble_eq_true rfl) rfl ?_
  refine g_aload_n (pc := 6) dX8_kinds_6 1 rfl rfl ?_
  refine g_iload_n (pc := 7) dX8_kinds_7 2 rfl rfl ?_
  refine g_aload_n (pc := 8) dX8_kinds_8 0 rfl rfl ?_
  refine g_invV (pc := 9) j_X8_refusedLooks mw_X8_253 dX8_kinds_9 (rcv_X8) (by rfl) (c_X8_refusedLooks_m E S x (10 + n) (kd_r (by omega)) (by first | assumption | omega | rfl) (by first | assumption | omega | rfl)) (Nat.le_of_ble_eq_true rfl) (Nat.le_of_ble_eq_true rfl) (by rfl) (Nat.le_of_ble_eq_true rfl) ?_
  refine g_istore (pc := 12) (L' := [(4, .int (-3)), (3, .ref (eA E (10 + n))), (0, .ref (eA E 0)), (1, .int x), (2, .int (nI n))]) dX8_kinds_12 (Nat.le_of_ble_eq_true rfl) rfl ?_
  refine g_aload_n (pc := 14) dX8_kinds_14 1 rfl rfl ?_
  refine g_ifnull (pc := 15) dX8_kinds_15 ?_
  refine g_iload (pc := 18) dX8_kinds_18 0 rfl ?_
  refine g_if_eq (pc := 20) (tgt := 26) dX8_kinds_20 (by decide) (fun c_20 => ?_) (fun c_20 => ?_)
  · exact absurd c_20 (by decide)
  · refine g_iload (pc := 23) dX8_kinds_23 0 rfl ?_
    exact g_iret (pc := 25) hM rfl rfl ⟨rfl, rfl⟩ dX8_kinds_25
set_option maxRecDepth 100000 in
set_option maxHeartbeats 4000000 in
theorem c_X8_kinds_s (E : En) (S : St) (x : Int32) (n m : Nat) (hn : n < 6) (g1 : hasF S 30 x = true) (hm : gI S (10 + n) 1 = nI m) (hm2 : m ≤ 40) (g3 : ¬ m % 2 = 0) : CTe E i_X8_kinds S [.ref (eA E 0), .int x, .int (nI n)] (refS S 5) (some (.int (-3))) := by
  refine ct_of [(0, .ref (eA E 0)), (1, .int x), (2, .int (nI n))] (by decide +kernel) (Nat.le_of_ble_eq_true rfl) rfl (fun X hM => ?_)
  refine g_aload_n (pc := 0) dX8_kinds_0 0 rfl rfl ?_
  refine g_iload_n (pc := 1) dX8_kinds_1 2 rfl rfl ?_
  refine g_invV (pc := 2) j_X8_rowOf mw_X8_64 dX8_kinds_2 (rcv_X8) (by rfl) (c_X8_rowOf_n E S n (by first | assumption | omega | rfl)) (Nat.le_of_ble_eq_true rfl) (Nat.le_of_ble_eq_true rfl) (by rfl) (Nat.le_of_ble_eq_true rfl) ?_
  refine g_astore_n (pc := 5) (L' := [(3, .ref (eA E (10 + n))), (0, .ref (eA E 0)), (1, .int x), (2, .int (nI n))]) dX8_kinds_5 rfl (Nat.le_of_ble_eq_true rfl) rfl ?_
  refine g_aload_n (pc := 6) dX8_kinds_6 1 rfl rfl ?_
  refine g_iload_n (pc := 7) dX8_kinds_7 2 rfl rfl ?_
  refine g_aload_n (pc := 8) dX8_kinds_8 0 rfl rfl ?_
  refine g_invV (pc := 9) j_X8_refusedLooks mw_X8_253 dX8_kinds_9 (rcv_X8) (by rfl) (c_X8_refusedLooks_s E S x (10 + n) m (kd_r (by omega)) (by first | assumption | omega | rfl) (by first | assumption | omega | rfl) (by first | assumption | omega | rfl) (by first | assumption | omega | rfl)) (Nat.le_of_ble_eq_true rfl) (Nat.le_of_ble_eq_true rfl) (by rfl) (Nat.le_of_ble_eq_true rfl) ?_
  refine g_istore (pc := 12) (L' := [(4, .int (-3)), (3, .ref (eA E (10 + n))), (0, .ref (eA E 0)), (1, .int x), (2, .int (nI n))]) dX8_kinds_12 (Nat.le_of_ble_eq_true rfl) rfl ?_
  refine g_aload_n (pc := 14) dX8_kinds_14 1 rfl rfl ?_
  refine g_ifnull (pc := 15) dX8_kinds_15 ?_
  refine g_iload (pc := 18) dX8_kinds_18 0 rfl ?_
  refine g_if_eq (pc := 20) (tgt := 26) dX8_kinds_20 (by decide) (fun c_20 => ?_) (fun c_20 => ?_)
  · exact absurd c_20 (by decide)
  · refine g_iload (pc := 23) dX8_kinds_23 0 rfl ?_
    exact g_iret (pc := 25) hM rfl rfl ⟨rfl, rfl⟩ dX8_kinds_25
set_option maxRecDepth 100000 in
set_option maxHeartbeats 4000000 in
theorem c_X8_kinds_u (E : En) (S : St) (x : Int32) (n m : Nat) (hn : n < 6) (g1 : hasF S 30 x = true) (hm : gI S (10 + n) 1 = nI m) (hm2 : m ≤ 40) (g3 : m % 2 = 0) (g4 : allB (prP S (10 + n)) m = false) : CTe E i_X8_kinds S [.ref (eA E 0), .int x, .int (nI n)] (refS S 3) (some (.int (-3))) := by
  refine ct_of [(0, .ref (eA E 0)), (1, .int x), (2, .int (nI n))] (by decide +kernel) (Nat.le_of_ble_eq_true rfl) rfl (fun X hM => ?_)
  refine g_aload_n (pc := 0) dX8_kinds_0 0 rfl rfl ?_
  refine g_iload_n (pc := 1) dX8_kinds_1 2 rfl rfl ?_
  refine g_invV (pc := 2) j_X8_rowOf mw_X8_64 dX8_kinds_2 (rcv_X8) (by rfl) (c_X8_rowOf_n E S n (by first | assumption | omega | rfl)) (Nat.le_of_ble_eq_true rfl) (Nat.le_of_ble_eq_true rfl) (by rfl) (Nat.le_of_ble_eq_true rfl) ?_
  refine g_astore_n (pc := 5) (L' := [(3, .ref (eA E (10 + n))), (0, .ref (eA E 0)), (1, .int x), (2, .int (nI n))]) dX8_kinds_5 rfl (Nat.le_of_ble_eq_true rfl) rfl ?_
  refine g_aload_n (pc := 6) dX8_kinds_6 1 rfl rfl ?_
  refine g_iload_n (pc := 7) dX8_kinds_7 2 rfl rfl ?_
  refine g_aload_n (pc := 8) dX8_kinds_8 0 rfl rfl ?_
  refine g_invV (pc := 9) j_X8_refusedLooks mw_X8_253 dX8_kinds_9 (rcv_X8) (by rfl) (c_X8_refusedLooks_u E S x (10 + n) m (kd_r (by omega)) (by first | assumption | omega | rfl) (by first | assumption | omega | rfl) (by first | assumption | omega | rfl) (by first | assumption | omega | rfl) (by first | assumption | omega | rfl)) (Nat.le_of_ble_eq_true rfl) (Nat.le_of_ble_eq_true rfl) (by rfl) (Nat.le_of_ble_eq_true rfl) ?_
  refine g_istore (pc := 12) (L' := [(4, .int (-3)), (3, .ref (eA E (10 + n))), (0, .ref (eA E 0)), (1, .int x), (2, .int (nI n))]) dX8_kinds_12 (Nat.le_of_ble_eq_true rfl) rfl ?_
  refine g_aload_n (pc := 14) dX8_kinds_14 1 rfl rfl ?_
  refine g_ifnull (pc := 15) dX8_kinds_15 ?_
  refine g_iload (pc := 18) dX8_kinds_18 0 rfl ?_
  refine g_if_eq (pc := 20) (tgt := 26) dX8_kinds_20 (by decide) (fun c_20 => ?_) (fun c_20 => ?_)
  · exact absurd c_20 (by decide)
  · refine g_iload (pc := 23) dX8_kinds_23 0 rfl ?_
    exact g_iret (pc := 25) hM rfl rfl ⟨rfl, rfl⟩ dX8_kinds_25
set_option maxRecDepth 100000 in
set_option maxHeartbeats 4000000 in
theorem c_X8_kinds_ok (E : En) (S : St) (x : Int32) (n m : Nat) (hz : okB S 30) (hn : n < 6) (g1 : hasF S 30 x = true) (hm : gI S (10 + n) 1 = nI m) (hm2 : m ≤ 40) (g3 : m % 2 = 0) (g4 : allB (prP S (10 + n)) m = true) : CTe E i_X8_kinds S [.ref (eA E 0), .int x, .int (nI n)] S (some (.int (setB (fun i => fitF S (nI i) (fldF S 30 4 x) (10 + n) m) 6))) := by
  refine ct_of [(0, .ref (eA E 0)), (1, .int x), (2, .int (nI n))] (by decide +kernel) (Nat.le_of_ble_eq_true rfl) rfl (fun X hM => ?_)
  refine g_aload_n (pc := 0) dX8_kinds_0 0 rfl rfl ?_
  refine g_iload_n (pc := 1) dX8_kinds_1 2 rfl rfl ?_
  refine g_invV (pc := 2) j_X8_rowOf mw_X8_64 dX8_kinds_2 (rcv_X8) (by rfl) (c_X8_rowOf_n E S n (by first | assumption | omega | rfl)) (Nat.le_of_ble_eq_true rfl) (Nat.le_of_ble_eq_true rfl) (by rfl) (Nat.le_of_ble_eq_true rfl) ?_
  refine g_astore_n (pc := 5) (L' := [(3, .ref (eA E (10 + n))), (0, .ref (eA E 0)), (1, .int x), (2, .int (nI n))]) dX8_kinds_5 rfl (Nat.le_of_ble_eq_true rfl) rfl ?_
  refine g_aload_n (pc := 6) dX8_kinds_6 1 rfl rfl ?_
  refine g_iload_n (pc := 7) dX8_kinds_7 2 rfl rfl ?_
  refine g_aload_n (pc := 8) dX8_kinds_8 0 rfl rfl ?_
  refine g_invV (pc := 9) j_X8_refusedLooks mw_X8_253 dX8_kinds_9 (rcv_X8) (by rfl) (c_X8_refusedLooks_ok E S x (10 + n) m (kd_r (by omega)) (by first | assumption | omega | rfl) (by first | assumption | omega | rfl) (by first | assumption | omega | rfl) (by first | assumption | omega | rfl) (by first | assumption | omega | rfl)) (Nat.le_of_ble_eq_true rfl) (Nat.le_of_ble_eq_true rfl) (by rfl) (Nat.le_of_ble_eq_true rfl) ?_
  refine g_istore (pc := 12) (L' := [(4, .int 0), (3, .ref (eA E (10 + n))), (0, .ref (eA E 0)), (1, .int x), (2, .int (nI n))]) dX8_kinds_12 (Nat.le_of_ble_eq_true rfl) rfl ?_
  refine g_aload_n (pc := 14) dX8_kinds_14 1 rfl rfl ?_
  refine g_ifnull (pc := 15) dX8_kinds_15 ?_
  refine g_iload (pc := 18) dX8_kinds_18 0 rfl ?_
  refine g_if_eq (pc := 20) (tgt := 26) dX8_kinds_20 (by decide) (fun c_20 => ?_) (fun c_20 => ?_)
  · refine g_aload_n (pc := 26) dX8_kinds_26 2 rfl rfl ?_
    refine gf_X8_21 (pc := 27) rfl dX8_kinds_27 ?_
    refine g_iload_n (pc := 30) dX8_kinds_30 3 rfl rfl ?_
    refine g_invV (pc := 31) j_X0_firstOf mw_X8_150 dX8_kinds_31 (rcv_X0 rfl) (by rfl) (c_X0_firstOf E S 30 x rfl (by first | assumption | omega | rfl)) (Nat.le_of_ble_eq_true rfl) (Nat.le_of_ble_eq_true rfl) (by rfl) (Nat.le_of_ble_eq_true rfl) ?_
    refine g_aload_n (pc := 34) dX8_kinds_34 1 rfl rfl ?_
    refine g_invS (pc := 35) j_X3_fittingKinds mw_X8_262 dX8_kinds_35 (by rfl) (c_X3_fittingKinds E S (fldF S 30 4 x) (10 + n) m (kd_r (by omega)) (by first | assumption | omega | rfl) (by rw [ln_r hn]; exact hm2)) (Nat.le_of_ble_eq_true rfl) (Nat.le_of_ble_eq_true rfl) (by rfl) (Nat.le_of_ble_eq_true rfl) ?_
    exact g_iret (pc := 38) hM rfl rfl ⟨rfl, rfl⟩ dX8_kinds_38
  · exact absurd c_20 (by decide)
set_option maxRecDepth 100000 in
set_option maxHeartbeats 4000000 in
theorem c_X8_test_bad0 (E : En) (S : St) (x r : Int32) (hr : idxF 6 r = false) : CTe E i_X8_test S [.ref (eA E 0), .int x, .int r] S (some (.int (-1))) := by
  refine ct_of [(0, .ref (eA E 0)), (1, .int x), (2, .int r)] (by decide +kernel) (Nat.le_of_ble_eq_true rfl) rfl (fun X hM => ?_)
  refine g_aload_n (pc := 0) dX8_test_0 0 rfl rfl ?_
  refine g_iload_n (pc := 1) dX8_test_1 2 rfl rfl ?_
  refine g_invV (pc := 2) j_X8_rowOf mw_X8_64 dX8_test_2 (rcv_X8) (by rfl) (c_X8_rowOf_0 E S r (by first | assumption | omega | rfl)) (Nat.le_of_ble_eq_true rfl) (Nat.le_of_ble_eq_true rfl) (by rfl) (Nat.le_of_ble_eq_true rfl) ?_
  refine g_astore_nN (pc := 5) (L' := [(3, .null), (0, .ref (eA E 0)), (1, .int x), (2, .int r)]) dX8_test_5 rfl (Nat.le_of_ble_eq_true rfl) rfl ?_
  refine g_aload_n (pc := 6) dX8_test_6 1 rfl rfl ?_
  refine g_iload_n (pc := 7) dX8_test_7 2 rfl rfl ?_
  refine g_aload_nN (pc := 8) dX8_test_8 0 rfl rfl ?_
  refine g_invV (pc := 9) j_X8_refusedLooks mw_X8_253 dX8_test_9 (rcv_X8) (by rfl) (c_X8_refusedLooks_n E S x ) (Nat.le_of_ble_eq_true rfl) (Nat.le_of_ble_eq_true rfl) (by rfl) (Nat.le_of_ble_eq_true rfl) ?_
  refine g_istore (pc := 12) (L' := [(4, .int (-1)), (3, .null), (0, .ref (eA E 0)), (1, .int x), (2, .int r)]) dX8_test_12 (Nat.le_of_ble_eq_true rfl) rfl ?_
  refine g_aload_nN (pc := 14) dX8_test_14 1 rfl rfl ?_
  refine g_ifnullN (pc := 15) (tgt := 23) dX8_test_15 (by decide) ?_
  refine g_iload (pc := 23) dX8_test_23 0 rfl ?_
  exact g_iret (pc := 25) hM rfl rfl ⟨rfl, rfl⟩ dX8_test_25
set_option maxRecDepth 100000 in
set_option maxHeartbeats 4000000 in
theorem c_X8_test_bad (E : En) (S : St) (x : Int32) (n : Nat) (hn : n < 6) (g1 : hasF S 30 x = false) : CTe E i_X8_test S [.ref (eA E 0), .int x, .int (nI n)] S (some (.int (-1))) := by
  refine ct_of [(0, .ref (eA E 0)), (1, .int x), (2, .int (nI n))] (by decide +kernel) (Nat.le_of_ble_eq_true rfl) rfl (fun X hM => ?_)
  refine g_aload_n (pc := 0) dX8_test_0 0 rfl rfl ?_
  refine g_iload_n (pc := 1) dX8_test_1 2 rfl rfl ?_
  refine g_invV (pc := 2) j_X8_rowOf mw_X8_64 dX8_test_2 (rcv_X8) (by rfl) (c_X8_rowOf_n E S n (by first | assumption | omega | rfl)) (Nat.le_of_ble_eq_true rfl) (Nat.le_of_ble_eq_true rfl) (by rfl) (Nat.le_of_ble_eq_true rfl) ?_
  refine g_astore_n (pc := 5) (L' := [(3, .ref (eA E (10 + n))), (0, .ref (eA E 0)), (1, .int x), (2, .int (nI n))]) dX8_test_5 rfl (Nat.le_of_ble_eq_true rfl) rfl ?_
  refine g_aload_n (pc := 6) dX8_test_6 1 rfl rfl ?_
  refine g_iload_n (pc := 7) dX8_test_7 2 rfl rfl ?_
  refine g_aload_n (pc := 8) dX8_test_8 0 rfl rfl ?_
  refine g_invV (pc := 9) j_X8_refusedLooks mw_X8_253 dX8_test_9 (rcv_X8) (by rfl) (c_X8_refusedLooks_bad E S x (10 + n) (kd_r (by omega)) (by first | assumption | omega | rfl)) (Nat.le_of_ble_eq_true rfl) (Nat.le_of_ble_eq_true rfl) (by rfl) (Nat.le_of_ble_eq_true rfl) ?_
  refine g_istore (pc := 12) (L' := [(4, .int (-1)), (3, .ref (eA E (10 + n))), (0, .ref (eA E 0)), (1, .int x), (2, .int (nI n))]) dX8_test_12 (Nat.le_of_ble_eq_true rfl) rfl ?_
  refine g_aload_n (pc := 14) dX8_test_14 1 rfl rfl ?_
  refine g_ifnull (pc := 15) dX8_test_15 ?_
  refine g_iload (pc := 18) dX8_test_18 0 rfl ?_
  refine g_if_eq (pc := 20) (tgt := 26) dX8_test_20 (by decide) (fun c_20 => ?_) (fun c_20 => ?_)
  · exact absurd c_20 (by decide)
  · refine g_iload (pc := 23) dX8_test_23 0 rfl ?_
    exact g_iret (pc := 25) hM rfl rfl ⟨rfl, rfl⟩ dX8_test_25
set_option maxRecDepth 100000 in
set_option maxHeartbeats 4000000 in
theorem c_X8_test_m (E : En) (S : St) (x : Int32) (n : Nat) (hn : n < 6) (g1 : hasF S 30 x = true) (g2 : misF S (10 + n) = true) : CTe E i_X8_test S [.ref (eA E 0), .int x, .int (nI n)] (refS S 1) (some (.int (-3))) := by
  refine ct_of [(0, .ref (eA E 0)), (1, .int x), (2, .int (nI n))] (by decide +kernel) (Nat.le_of_ble_eq_true rfl) rfl (fun X hM => ?_)
  refine g_aload_n (pc := 0) dX8_test_0 0 rfl rfl ?_
  refine g_iload_n (pc := 1) dX8_test_1 2 rfl rfl ?_
  refine g_invV (pc := 2) j_X8_rowOf mw_X8_64 dX8_test_2 (rcv_X8) (by rfl) (c_X8_rowOf_n E S n (by first | assumption | omega | rfl)) (Nat.le_of_ble_eq_true rfl) (Nat.le_of_ble_eq_true rfl) (by rfl) (Nat.le_of_ble_eq_true rfl) ?_
  refine g_astore_n (pc := 5) (L' := [(3, .ref (eA E (10 + n))), (0, .ref (eA E 0)), (1, .int x), (2, .int (nI n))]) dX8_test_5 rfl (Nat.le_of_ble_eq_true rfl) rfl ?_
  refine g_aload_n (pc := 6) dX8_test_6 1 rfl rfl ?_
  refine g_iload_n (pc := 7) dX8_test_7 2 rfl rfl ?_
  refine g_aload_n (pc := 8) dX8_test_8 0 rfl rfl ?_
  refine g_invV (pc := 9) j_X8_refusedLooks mw_X8_253 dX8_test_9 (rcv_X8) (by rfl) (c_X8_refusedLooks_m E S x (10 + n) (kd_r (by omega)) (by first | assumption | omega | rfl) (by first | assumption | omega | rfl)) (Nat.le_of_ble_eq_true rfl) (Nat.le_of_ble_eq_true rfl) (by rfl) (Nat.le_of_ble_eq_true rfl) ?_
  refine g_istore (pc := 12) (L' := [(4, .int (-3)), (3, .ref (eA E (10 + n))), (0, .ref (eA E 0)), (1, .int x), (2, .int (nI n))]) dX8_test_12 (Nat.le_of_ble_eq_true rfl) rfl ?_
  refine g_aload_n (pc := 14) dX8_test_14 1 rfl rfl ?_
  refine g_ifnull (pc := 15) dX8_test_15 ?_
  refine g_iload (pc := 18) dX8_test_18 0 rfl ?_
  refine g_if_eq (pc := 20) (tgt := 26) dX8_test_20 (by decide) (fun c_20 => ?_) (fun c_20 => ?_)
  · exact absurd c_20 (by decide)
  · refine g_iload (pc := 23) dX8_test_23 0 rfl ?_
    exact g_iret (pc := 25) hM rfl rfl ⟨rfl, rfl⟩ dX8_test_25
set_option maxRecDepth 100000 in
set_option maxHeartbeats 4000000 in
theorem c_X8_test_s (E : En) (S : St) (x : Int32) (n m : Nat) (hn : n < 6) (g1 : hasF S 30 x = true) (hm : gI S (10 + n) 1 = nI m) (hm2 : m ≤ 40) (g3 : ¬ m % 2 = 0) : CTe E i_X8_test S [.ref (eA E 0), .int x, .int (nI n)] (refS S 5) (some (.int (-3))) := by
  refine ct_of [(0, .ref (eA E 0)), (1, .int x), (2, .int (nI n))] (by decide +kernel) (Nat.le_of_ble_eq_true rfl) rfl (fun X hM => ?_)
  refine g_aload_n (pc := 0) dX8_test_0 0 rfl rfl ?_
  refine g_iload_n (pc := 1) dX8_test_1 2 rfl rfl ?_
  refine g_invV (pc := 2) j_X8_rowOf mw_X8_64 dX8_test_2 (rcv_X8) (by rfl) (c_X8_rowOf_n E S n (by first | assumption | omega | rfl)) (Nat.le_of_ble_eq_true rfl) (Nat.le_of_ble_eq_true rfl) (by rfl) (Nat.le_of_ble_eq_true rfl) ?_
  refine g_astore_n (pc := 5) (L' := [(3, .ref (eA E (10 + n))), (0, .ref (eA E 0)), (1, .int x), (2, .int (nI n))]) dX8_test_5 rfl (Nat.le_of_ble_eq_true rfl) rfl ?_
  refine g_aload_n (pc := 6) dX8_test_6 1 rfl rfl ?_
  refine g_iload_n (pc := 7) dX8_test_7 2 rfl rfl ?_
  refine g_aload_n (pc := 8) dX8_test_8 0 rfl rfl ?_
  refine g_invV (pc := 9) j_X8_refusedLooks mw_X8_253 dX8_test_9 (rcv_X8) (by rfl) (c_X8_refusedLooks_s E S x (10 + n) m (kd_r (by omega)) (by first | assumption | omega | rfl) (by first | assumption | omega | rfl) (by first | assumption | omega | rfl) (by first | assumption | omega | rfl)) (Nat.le_of_ble_eq_true rfl) (Nat.le_of_ble_eq_true rfl) (by rfl) (Nat.le_of_ble_eq_true rfl) ?_
  refine g_istore (pc := 12) (L' := [(4, .int (-3)), (3, .ref (eA E (10 + n))), (0, .ref (eA E 0)), (1, .int x), (2, .int (nI n))]) dX8_test_12 (Nat.le_of_ble_eq_true rfl) rfl ?_
  refine g_aload_n (pc := 14) dX8_test_14 1 rfl rfl ?_
  refine g_ifnull (pc := 15) dX8_test_15 ?_
  refine g_iload (pc := 18) dX8_test_18 0 rfl ?_
  refine g_if_eq (pc := 20) (tgt := 26) dX8_test_20 (by decide) (fun c_20 => ?_) (fun c_20 => ?_)
  · exact absurd c_20 (by decide)
  · refine g_iload (pc := 23) dX8_test_23 0 rfl ?_
    exact g_iret (pc := 25) hM rfl rfl ⟨rfl, rfl⟩ dX8_test_25
set_option maxRecDepth 100000 in
set_option maxHeartbeats 4000000 in
theorem c_X8_test_u (E : En) (S : St) (x : Int32) (n m : Nat) (hn : n < 6) (g1 : hasF S 30 x = true) (hm : gI S (10 + n) 1 = nI m) (hm2 : m ≤ 40) (g3 : m % 2 = 0) (g4 : allB (prP S (10 + n)) m = false) : CTe E i_X8_test S [.ref (eA E 0), .int x, .int (nI n)] (refS S 3) (some (.int (-3))) := by
  refine ct_of [(0, .ref (eA E 0)), (1, .int x), (2, .int (nI n))] (by decide +kernel) (Nat.le_of_ble_eq_true rfl) rfl (fun X hM => ?_)
  refine g_aload_n (pc := 0) dX8_test_0 0 rfl rfl ?_
  refine g_iload_n (pc := 1) dX8_test_1 2 rfl rfl ?_
  refine g_invV (pc := 2) j_X8_rowOf mw_X8_64 dX8_test_2 (rcv_X8) (by rfl) (c_X8_rowOf_n E S n (by first | assumption | omega | rfl)) (Nat.le_of_ble_eq_true rfl) (Nat.le_of_ble_eq_true rfl) (by rfl) (Nat.le_of_ble_eq_true rfl) ?_
  refine g_astore_n (pc := 5) (L' := [(3, .ref (eA E (10 + n))), (0, .ref (eA E 0)), (1, .int x), (2, .int (nI n))]) dX8_test_5 rfl (Nat.le_of_ble_eq_true rfl) rfl ?_
  refine g_aload_n (pc := 6) dX8_test_6 1 rfl rfl ?_
  refine g_iload_n (pc := 7) dX8_test_7 2 rfl rfl ?_
  refine g_aload_n (pc := 8) dX8_test_8 0 rfl rfl ?_
  refine g_invV (pc := 9) j_X8_refusedLooks mw_X8_253 dX8_test_9 (rcv_X8) (by rfl) (c_X8_refusedLooks_u E S x (10 + n) m (kd_r (by omega)) (by first | assumption | omega | rfl) (by first | assumption | omega | rfl) (by first | assumption | omega | rfl) (by first | assumption | omega | rfl) (by first | assumption | omega | rfl)) (Nat.le_of_ble_eq_true rfl) (Nat.le_of_ble_eq_true rfl) (by rfl) (Nat.le_of_ble_eq_true rfl) ?_
  refine g_istore (pc := 12) (L' := [(4, .int (-3)), (3, .ref (eA E (10 + n))), (0, .ref (eA E 0)), (1, .int x), (2, .int (nI n))]) dX8_test_12 (Nat.le_of_ble_eq_true rfl) rfl ?_
  refine g_aload_n (pc := 14) dX8_test_14 1 rfl rfl ?_
  refine g_ifnull (pc := 15) dX8_test_15 ?_
  refine g_iload (pc := 18) dX8_test_18 0 rfl ?_
  refine g_if_eq (pc := 20) (tgt := 26) dX8_test_20 (by decide) (fun c_20 => ?_) (fun c_20 => ?_)
  · exact absurd c_20 (by decide)
  · refine g_iload (pc := 23) dX8_test_23 0 rfl ?_
    exact g_iret (pc := 25) hM rfl rfl ⟨rfl, rfl⟩ dX8_test_25
set_option maxRecDepth 100000 in
set_option maxHeartbeats 4000000 in
theorem c_X8_test_no (E : En) (S : St) (x : Int32) (n m : Nat) (hz : okB S 30) (hn : n < 6) (g1 : hasF S 30 x = true) (hm : gI S (10 + n) 1 = nI m) (hm2 : m ≤ 40) (g3 : m % 2 = 0) (g4 : allB (prP S (10 + n)) m = true) (g5 : setB (fun i => fitF S (nI i) (fldF S 30 4 x) (10 + n) m) 6 = 0) : CTe E i_X8_test S [.ref (eA E 0), .int x, .int (nI n)] S (some (.int (-9))) := by
  refine ct_of [(0, .ref (eA E 0)), (1, .int x), (2, .int (nI n))] (by decide +kernel) (Nat.le_of_ble_eq_true rfl) rfl (fun X hM => ?_)
  refine g_aload_n (pc := 0) dX8_test_0 0 rfl rfl ?_
  refine g_iload_n (pc := 1) dX8_test_1 2 rfl rfl ?_
  refine g_invV (pc := 2) j_X8_rowOf mw_X8_64 dX8_test_2 (rcv_X8) (by rfl) (c_X8_rowOf_n E S n (by first | assumption | omega | rfl)) (Nat.le_of_ble_eq_true rfl) (Nat.le_of_ble_eq_true rfl) (by rfl) (Nat.le_of_ble_eq_true rfl) ?_
  refine g_astore_n (pc := 5) (L' := [(3, .ref (eA E (10 + n))), (0, .ref (eA E 0)), (1, .int x), (2, .int (nI n))]) dX8_test_5 rfl (Nat.le_of_ble_eq_true rfl) rfl ?_
  refine g_aload_n (pc := 6) dX8_test_6 1 rfl rfl ?_
  refine g_iload_n (pc := 7) dX8_test_7 2 rfl rfl ?_
  refine g_aload_n (pc := 8) dX8_test_8 0 rfl rfl ?_
  refine g_invV (pc := 9) j_X8_refusedLooks mw_X8_253 dX8_test_9 (rcv_X8) (by rfl) (c_X8_refusedLooks_ok E S x (10 + n) m (kd_r (by omega)) (by first | assumption | omega | rfl) (by first | assumption | omega | rfl) (by first | assumption | omega | rfl) (by first | assumption | omega | rfl) (by first | assumption | omega | rfl)) (Nat.le_of_ble_eq_true rfl) (Nat.le_of_ble_eq_true rfl) (by rfl) (Nat.le_of_ble_eq_true rfl) ?_
  refine g_istore (pc := 12) (L' := [(4, .int 0), (3, .ref (eA E (10 + n))), (0, .ref (eA E 0)), (1, .int x), (2, .int (nI n))]) dX8_test_12 (Nat.le_of_ble_eq_true rfl) rfl ?_
  refine g_aload_n (pc := 14) dX8_test_14 1 rfl rfl ?_
  refine g_ifnull (pc := 15) dX8_test_15 ?_
  refine g_iload (pc := 18) dX8_test_18 0 rfl ?_
  refine g_if_eq (pc := 20) (tgt := 26) dX8_test_20 (by decide) (fun c_20 => ?_) (fun c_20 => ?_)
  · refine g_aload_n (pc := 26) dX8_test_26 2 rfl rfl ?_
    refine gf_X8_21 (pc := 27) rfl dX8_test_27 ?_
    refine g_iload_n (pc := 30) dX8_test_30 3 rfl rfl ?_
    refine g_invV (pc := 31) j_X0_firstOf mw_X8_150 dX8_test_31 (rcv_X0 rfl) (by rfl) (c_X0_firstOf E S 30 x rfl (by first | assumption | omega | rfl)) (Nat.le_of_ble_eq_true rfl) (Nat.le_of_ble_eq_true rfl) (by rfl) (Nat.le_of_ble_eq_true rfl) ?_
    refine g_istore (pc := 34) (L' := [(5, .int (fldF S 30 4 x)), (4, .int 0), (3, .ref (eA E (10 + n))), (0, .ref (eA E 0)), (1, .int x), (2, .int (nI n))]) dX8_test_34 (Nat.le_of_ble_eq_true rfl) rfl ?_
    refine g_iload (pc := 36) dX8_test_36 0 rfl ?_
    refine g_aload_n (pc := 38) dX8_test_38 2 rfl rfl ?_
    refine g_invS (pc := 39) j_X3_fittingKinds mw_X8_262 dX8_test_39 (by rfl) (c_X3_fittingKinds E S (fldF S 30 4 x) (10 + n) m (kd_r (by omega)) (by first | assumption | omega | rfl) (by rw [ln_r hn]; exact hm2)) (Nat.le_of_ble_eq_true rfl) (Nat.le_of_ble_eq_true rfl) (by rfl) (Nat.le_of_ble_eq_true rfl) ?_
    refine g_istore (pc := 42) (L' := [(6, .int (setB (fun i => fitF S (nI i) (fldF S 30 4 x) (10 + n) m) 6)), (5, .int (fldF S 30 4 x)), (4, .int 0), (3, .ref (eA E (10 + n))), (0, .ref (eA E 0)), (1, .int x), (2, .int (nI n))]) dX8_test_42 (Nat.le_of_ble_eq_true rfl) rfl ?_
    refine g_iload (pc := 44) dX8_test_44 0 rfl ?_
    refine g_if_ne (pc := 46) (tgt := 52) dX8_test_46 (by decide) (fun c_46 => ?_) (fun c_46 => ?_)
    · exact absurd g5 c_46
    · refine g_bipush (pc := 49) (v := -9) dX8_test_49 (by decide) ?_
      exact g_iret (pc := 51) hM rfl rfl ⟨rfl, rfl⟩ dX8_test_51
  · exact absurd c_20 (by decide)
set_option maxRecDepth 100000 in
set_option maxHeartbeats 4000000 in
theorem c_X8_test_ok (E : En) (S : St) (x : Int32) (n m : Nat) (hz : okB S 30) (hn : n < 6) (g1 : hasF S 30 x = true) (hm : gI S (10 + n) 1 = nI m) (hm2 : m ≤ 40) (g3 : m % 2 = 0) (g4 : allB (prP S (10 + n)) m = true) (g5 : ¬ setB (fun i => fitF S (nI i) (fldF S 30 4 x) (10 + n) m) 6 = 0) : CTe E i_X8_test S [.ref (eA E 0), .int x, .int (nI n)] (sI S 0 8 (lpF (setB (fun i => fitF S (nI i) (fldF S 30 4 x) (10 + n) m) 6) (fldF S 30 4 x) (tnR (setB (fun i => fitF S (nI i) (fldF S 30 4 x) (10 + n) m) 6) (fldF S 30 4 x) 20).1)) (some (.int ((tnR (setB (fun i => fitF S (nI i) (fldF S 30 4 x) (10 + n) m) 6) (fldF S 30 4 x) 20).1))) := by
  refine ct_of [(0, .ref (eA E 0)), (1, .int x), (2, .int (nI n))] (by decide +kernel) (Nat.le_of_ble_eq_true rfl) rfl (fun X hM => ?_)
  refine g_aload_n (pc := 0) dX8_test_0 0 rfl rfl ?_
  refine g_iload_n (pc := 1) dX8_test_1 2 rfl rfl ?_
  refine g_invV (pc := 2) j_X8_rowOf mw_X8_64 dX8_test_2 (rcv_X8) (by rfl) (c_X8_rowOf_n E S n (by first | assumption | omega | rfl)) (Nat.le_of_ble_eq_true rfl) (Nat.le_of_ble_eq_true rfl) (by rfl) (Nat.le_of_ble_eq_true rfl) ?_
  refine g_astore_n (pc := 5) (L' := [(3, .ref (eA E (10 + n))), (0, .ref (eA E 0)), (1, .int x), (2, .int (nI n))]) dX8_test_5 rfl (Nat.le_of_ble_eq_true rfl) rfl ?_
  refine g_aload_n (pc := 6) dX8_test_6 1 rfl rfl ?_
  refine g_iload_n (pc := 7) dX8_test_7 2 rfl rfl ?_
  refine g_aload_n (pc := 8) dX8_test_8 0 rfl rfl ?_
  refine g_invV (pc := 9) j_X8_refusedLooks mw_X8_253 dX8_test_9 (rcv_X8) (by rfl) (c_X8_refusedLooks_ok E S x (10 + n) m (kd_r (by omega)) (by first | assumption | omega | rfl) (by first | assumption | omega | rfl) (by first | assumption | omega | rfl) (by first | assumption | omega | rfl) (by first | assumption | omega | rfl)) (Nat.le_of_ble_eq_true rfl) (Nat.le_of_ble_eq_true rfl) (by rfl) (Nat.le_of_ble_eq_true rfl) ?_
  refine g_istore (pc := 12) (L' := [(4, .int 0), (3, .ref (eA E (10 + n))), (0, .ref (eA E 0)), (1, .int x), (2, .int (nI n))]) dX8_test_12 (Nat.le_of_ble_eq_true rfl) rfl ?_
  refine g_aload_n (pc := 14) dX8_test_14 1 rfl rfl ?_
  refine g_ifnull (pc := 15) dX8_test_15 ?_
  refine g_iload (pc := 18) dX8_test_18 0 rfl ?_
  refine g_if_eq (pc := 20) (tgt := 26) dX8_test_20 (by decide) (fun c_20 => ?_) (fun c_20 => ?_)
  · refine g_aload_n (pc := 26) dX8_test_26 2 rfl rfl ?_
    refine gf_X8_21 (pc := 27) rfl dX8_test_27 ?_
    refine g_iload_n (pc := 30) dX8_test_30 3 rfl rfl ?_
    refine g_invV (pc := 31) j_X0_firstOf mw_X8_150 dX8_test_31 (rcv_X0 rfl) (by rfl) (c_X0_firstOf E S 30 x rfl (by first | assumption | omega | rfl)) (Nat.le_of_ble_eq_true rfl) (Nat.le_of_ble_eq_true rfl) (by rfl) (Nat.le_of_ble_eq_true rfl) ?_
    refine g_istore (pc := 34) (L' := [(5, .int (fldF S 30 4 x)), (4, .int 0), (3, .ref (eA E (10 + n))), (0, .ref (eA E 0)), (1, .int x), (2, .int (nI n))]) dX8_test_34 (Nat.le_of_ble_eq_true rfl) rfl ?_
    refine g_iload (pc := 36) dX8_test_36 0 rfl ?_
    refine g_aload_n (pc := 38) dX8_test_38 2 rfl rfl ?_
    refine g_invS (pc := 39) j_X3_fittingKinds mw_X8_262 dX8_test_39 (by rfl) (c_X3_fittingKinds E S (fldF S 30 4 x) (10 + n) m (kd_r (by omega)) (by first | assumption | omega | rfl) (by rw [ln_r hn]; exact hm2)) (Nat.le_of_ble_eq_true rfl) (Nat.le_of_ble_eq_true rfl) (by rfl) (Nat.le_of_ble_eq_true rfl) ?_
    refine g_istore (pc := 42) (L' := [(6, .int (setB (fun i => fitF S (nI i) (fldF S 30 4 x) (10 + n) m) 6)), (5, .int (fldF S 30 4 x)), (4, .int 0), (3, .ref (eA E (10 + n))), (0, .ref (eA E 0)), (1, .int x), (2, .int (nI n))]) dX8_test_42 (Nat.le_of_ble_eq_true rfl) rfl ?_
    refine g_iload (pc := 44) dX8_test_44 0 rfl ?_
    refine g_if_ne (pc := 46) (tgt := 52) dX8_test_46 (by decide) (fun c_46 => ?_) (fun c_46 => ?_)
    · refine g_iload (pc := 52) dX8_test_52 0 rfl ?_
      refine g_iload (pc := 54) dX8_test_54 1 rfl ?_
      refine g_invS (pc := 56) j_X3_tellingNight mw_X8_265 dX8_test_56 (by rfl) (c_X3_tellingNight E S (setB (fun i => fitF S (nI i) (fldF S 30 4 x) (10 + n) m) 6) (fldF S 30 4 x) ) (Nat.le_of_ble_eq_true rfl) (Nat.le_of_ble_eq_true rfl) (by rfl) (Nat.le_of_ble_eq_true rfl) ?_
      refine g_istore (pc := 59) (L' := [(7, .int ((tnR (setB (fun i => fitF S (nI i) (fldF S 30 4 x) (10 + n) m) 6) (fldF S 30 4 x) 20).1)), (6, .int (setB (fun i => fitF S (nI i) (fldF S 30 4 x) (10 + n) m) 6)), (5, .int (fldF S 30 4 x)), (4, .int 0), (3, .ref (eA E (10 + n))), (0, .ref (eA E 0)), (1, .int x), (2, .int (nI n))]) dX8_test_59 (Nat.le_of_ble_eq_true rfl) rfl ?_
      refine g_aload_n (pc := 61) dX8_test_61 5 rfl rfl ?_
      refine g_iload (pc := 62) dX8_test_62 1 rfl ?_
      refine g_iload (pc := 64) dX8_test_64 2 rfl ?_
      refine g_iload (pc := 66) dX8_test_66 0 rfl ?_
      refine g_invS (pc := 68) j_X3_largestPart mw_X8_268 dX8_test_68 (by rfl) (c_X3_largestPart E S (setB (fun i => fitF S (nI i) (fldF S 30 4 x) (10 + n) m) 6) (fldF S 30 4 x) ((tnR (setB (fun i => fitF S (nI i) (fldF S 30 4 x) (10 + n) m) 6) (fldF S 30 4 x) 20).1) ) (Nat.le_of_ble_eq_true rfl) (Nat.le_of_ble_eq_true rfl) (by rfl) (Nat.le_of_ble_eq_true rfl) ?_
      refine pf_X8_51 (pc := 71) rfl dX8_test_71 ?_
      refine g_iload (pc := 74) dX8_test_74 0 rfl ?_
      exact g_iret (pc := 76) hM rfl rfl ⟨rfl, rfl⟩ dX8_test_76
    · exact absurd c_46 g5
  · exact absurd c_20 (by decide)
set_option maxRecDepth 100000 in
set_option maxHeartbeats 4000000 in
theorem c_X8_whose_bad0 (E : En) (S : St) (x r : Int32) (hr : idxF 6 r = false) : CTe E i_X8_whose S [.ref (eA E 0), .int x, .int r] S (some (.int (-1))) := by
  refine ct_of [(0, .ref (eA E 0)), (1, .int x), (2, .int r)] (by decide +kernel) (Nat.le_of_ble_eq_true rfl) rfl (fun X hM => ?_)
  refine g_aload_n (pc := 0) dX8_whose_0 0 rfl rfl ?_
  refine g_iload_n (pc := 1) dX8_whose_1 2 rfl rfl ?_
  refine g_invV (pc := 2) j_X8_rowOf mw_X8_64 dX8_whose_2 (rcv_X8) (by rfl) (c_X8_rowOf_0 E S r (by first | assumption | omega | rfl)) (Nat.le_of_ble_eq_true rfl) (Nat.le_of_ble_eq_true rfl) (by rfl) (Nat.le_of_ble_eq_true rfl) ?_
  refine g_astore_nN (pc := 5) (L' := [(3, .null), (0, .ref (eA E 0)), (1, .int x), (2, .int r)]) dX8_whose_5 rfl (Nat.le_of_ble_eq_true rfl) rfl ?_
  refine g_aload_n (pc := 6) dX8_whose_6 1 rfl rfl ?_
  refine gf_X8_21 (pc := 7) rfl dX8_whose_7 ?_
  refine g_iload_n (pc := 10) dX8_whose_10 2 rfl rfl ?_
  refine g_invV (pc := 11) j_X0_has mw_X8_134 dX8_whose_11 (rcv_X0 rfl) (by rfl) (c_X0_has E S 30 x rfl) (Nat.le_of_ble_eq_true rfl) (Nat.le_of_ble_eq_true rfl) (by rfl) (Nat.le_of_ble_eq_true rfl) ?_
  refine g_b_eq (pc := 14) (tgt := 21) dX8_whose_14 (by decide) (fun c_14 => ?_) (fun c_14 => ?_)
  · refine g_iconst (pc := 21) (v := -1) dX8_whose_21 (by decide) ?_
    exact g_iret (pc := 22) hM rfl rfl ⟨rfl, rfl⟩ dX8_whose_22
  · refine g_aload_nN (pc := 17) dX8_whose_17 0 rfl rfl ?_
    refine g_ifnonnullN (pc := 18) dX8_whose_18 ?_
    refine g_iconst (pc := 21) (v := -1) dX8_whose_21 (by decide) ?_
    exact g_iret (pc := 22) hM rfl rfl ⟨rfl, rfl⟩ dX8_whose_22
set_option maxRecDepth 100000 in
set_option maxHeartbeats 4000000 in
theorem c_X8_whose_bad (E : En) (S : St) (x : Int32) (n : Nat) (hn : n < 6) (g1 : hasF S 30 x = false) : CTe E i_X8_whose S [.ref (eA E 0), .int x, .int (nI n)] S (some (.int (-1))) := by
  refine ct_of [(0, .ref (eA E 0)), (1, .int x), (2, .int (nI n))] (by decide +kernel) (Nat.le_of_ble_eq_true rfl) rfl (fun X hM => ?_)
  refine g_aload_n (pc := 0) dX8_whose_0 0 rfl rfl ?_
  refine g_iload_n (pc := 1) dX8_whose_1 2 rfl rfl ?_
  refine g_invV (pc := 2) j_X8_rowOf mw_X8_64 dX8_whose_2 (rcv_X8) (by rfl) (c_X8_rowOf_n E S n (by first | assumption | omega | rfl)) (Nat.le_of_ble_eq_true rfl) (Nat.le_of_ble_eq_true rfl) (by rfl) (Nat.le_of_ble_eq_true rfl) ?_
  refine g_astore_n (pc := 5) (L' := [(3, .ref (eA E (10 + n))), (0, .ref (eA E 0)), (1, .int x), (2, .int (nI n))]) dX8_whose_5 rfl (Nat.le_of_ble_eq_true rfl) rfl ?_
  refine g_aload_n (pc := 6) dX8_whose_6 1 rfl rfl ?_
  refine gf_X8_21 (pc := 7) rfl dX8_whose_7 ?_
  refine g_iload_n (pc := 10) dX8_whose_10 2 rfl rfl ?_
  refine g_invV (pc := 11) j_X0_has mw_X8_134 dX8_whose_11 (rcv_X0 rfl) (by rfl) (c_X0_has E S 30 x rfl) (Nat.le_of_ble_eq_true rfl) (Nat.le_of_ble_eq_true rfl) (by rfl) (Nat.le_of_ble_eq_true rfl) ?_
  refine g_b_eq (pc := 14) (tgt := 21) dX8_whose_14 (by decide) (fun c_14 => ?_) (fun c_14 => ?_)
  · refine g_iconst (pc := 21) (v := -1) dX8_whose_21 (by decide) ?_
    exact g_iret (pc := 22) hM rfl rfl ⟨rfl, rfl⟩ dX8_whose_22
  · exact absurd (g1.symm.trans c_14) (by decide)
set_option maxRecDepth 100000 in
set_option maxHeartbeats 4000000 in
theorem c_X8_whose_m (E : En) (S : St) (x : Int32) (n : Nat) (hn : n < 6) (g1 : hasF S 30 x = true) (g2 : misF S (10 + n) = true) : CTe E i_X8_whose S [.ref (eA E 0), .int x, .int (nI n)] (refS S 1) (some (.int (-3))) := by
  refine ct_of [(0, .ref (eA E 0)), (1, .int x), (2, .int (nI n))] (by decide +kernel) (Nat.le_of_ble_eq_true rfl) rfl (fun X hM => ?_)
  refine g_aload_n (pc := 0) dX8_whose_0 0 rfl rfl ?_
  refine g_iload_n (pc := 1) dX8_whose_1 2 rfl rfl ?_
  refine g_invV (pc := 2) j_X8_rowOf mw_X8_64 dX8_whose_2 (rcv_X8) (by rfl) (c_X8_rowOf_n E S n (by first | assumption | omega | rfl)) (Nat.le_of_ble_eq_true rfl) (Nat.le_of_ble_eq_true rfl) (by rfl) (Nat.le_of_ble_eq_true rfl) ?_
  refine g_astore_n (pc := 5) (L' := [(3, .ref (eA E (10 + n))), (0, .ref (eA E 0)), (1, .int x), (2, .int (nI n))]) dX8_whose_5 rfl (Nat.le_of_ble_eq_true rfl) rfl ?_
  refine g_aload_n (pc := 6) dX8_whose_6 1 rfl rfl ?_
  refine gf_X8_21 (pc := 7) rfl dX8_whose_7 ?_
  refine g_iload_n (pc := 10) dX8_whose_10 2 rfl rfl ?_
  refine g_invV (pc := 11) j_X0_has mw_X8_134 dX8_whose_11 (rcv_X0 rfl) (by rfl) (c_X0_has E S 30 x rfl) (Nat.le_of_ble_eq_true rfl) (Nat.le_of_ble_eq_true rfl) (by rfl) (Nat.le_of_ble_eq_true rfl) ?_
  refine g_b_eq (pc := 14) (tgt := 21) dX8_whose_14 (by decide) (fun c_14 => ?_) (fun c_14 => ?_)
  · exact absurd (g1.symm.trans c_14) (by decide)
  · refine g_aload_n (pc := 17) dX8_whose_17 0 rfl rfl ?_
    refine g_ifnonnull (pc := 18) (tgt := 23) dX8_whose_18 (by decide) ?_
    refine g_aload_n (pc := 23) dX8_whose_23 0 rfl rfl ?_
    refine g_invV (pc := 24) j_X5_isMissing mw_X8_94 dX8_whose_24 (rcv_X5 (kd_r (by omega))) (by rfl) (c_X5_isMissing E S (10 + n) (kd_r (by omega))) (Nat.le_of_ble_eq_true rfl) (Nat.le_of_ble_eq_true rfl) (by rfl) (Nat.le_of_ble_eq_true rfl) ?_
    refine g_b_eq (pc := 27) (tgt := 36) dX8_whose_27 (by decide) (fun c_27 => ?_) (fun c_27 => ?_)
    · exact absurd (g2.symm.trans c_27) (by decide)
    · refine g_aload_n (pc := 30) dX8_whose_30 1 rfl rfl ?_
      refine g_iconst (pc := 31) (v := 1) dX8_whose_31 (by decide) ?_
      refine g_invV (pc := 32) j_X8_refuse mw_X8_91 dX8_whose_32 (rcv_X8) (by rfl) (c_X8_refuse E S 1 (by first | assumption | omega | rfl)) (Nat.le_of_ble_eq_true rfl) (Nat.le_of_ble_eq_true rfl) (by rfl) (Nat.le_of_ble_eq_true rfl) ?_
      exact g_iret (pc := 35) hM rfl rfl ⟨rfl, rfl⟩ dX8_whose_35
set_option maxRecDepth 100000 in
set_option maxHeartbeats 4000000 in
theorem c_X8_whose_s (E : En) (S : St) (x : Int32) (n m : Nat) (hn : n < 6) (g1 : hasF S 30 x = true) (hm : gI S (10 + n) 1 = nI m) (hm2 : m ≤ 40) (g3 : ¬ m = 6) : CTe E i_X8_whose S [.ref (eA E 0), .int x, .int (nI n)] (refS S 5) (some (.int (-3))) := by
  have g2 := mis_of hm (by omega)
  refine ct_of [(0, .ref (eA E 0)), (1, .int x), (2, .int (nI n))] (by decide +kernel) (Nat.le_of_ble_eq_true rfl) rfl (fun X hM => ?_)
  refine g_aload_n (pc := 0) dX8_whose_0 0 rfl rfl ?_
  refine g_iload_n (pc := 1) dX8_whose_1 2 rfl rfl ?_
  refine g_invV (pc := 2) j_X8_rowOf mw_X8_64 dX8_whose_2 (rcv_X8) (by rfl) (c_X8_rowOf_n E S n (by first | assumption | omega | rfl)) (Nat.le_of_ble_eq_true rfl) (Nat.le_of_ble_eq_true rfl) (by rfl) (Nat.le_of_ble_eq_true rfl) ?_
  refine g_astore_n (pc := 5) (L' := [(3, .ref (eA E (10 + n))), (0, .ref (eA E 0)), (1, .int x), (2, .int (nI n))]) dX8_whose_5 rfl (Nat.le_of_ble_eq_true rfl) rfl ?_
  refine g_aload_n (pc := 6) dX8_whose_6 1 rfl rfl ?_
  refine gf_X8_21 (pc := 7) rfl dX8_whose_7 ?_
  refine g_iload_n (pc := 10) dX8_whose_10 2 rfl rfl ?_
  refine g_invV (pc := 11) j_X0_has mw_X8_134 dX8_whose_11 (rcv_X0 rfl) (by rfl) (c_X0_has E S 30 x rfl) (Nat.le_of_ble_eq_true rfl) (Nat.le_of_ble_eq_true rfl) (by rfl) (Nat.le_of_ble_eq_true rfl) ?_
  refine g_b_eq (pc := 14) (tgt := 21) dX8_whose_14 (by decide) (fun c_14 => ?_) (fun c_14 => ?_)
  · exact absurd (g1.symm.trans c_14) (by decide)
  · refine g_aload_n (pc := 17) dX8_whose_17 0 rfl rfl ?_
    refine g_ifnonnull (pc := 18) (tgt := 23) dX8_whose_18 (by decide) ?_
    refine g_aload_n (pc := 23) dX8_whose_23 0 rfl rfl ?_
    refine g_invV (pc := 24) j_X5_isMissing mw_X8_94 dX8_whose_24 (rcv_X5 (kd_r (by omega))) (by rfl) (c_X5_isMissing E S (10 + n) (kd_r (by omega))) (Nat.le_of_ble_eq_true rfl) (Nat.le_of_ble_eq_true rfl) (by rfl) (Nat.le_of_ble_eq_true rfl) ?_
    refine g_b_eq (pc := 27) (tgt := 36) dX8_whose_27 (by decide) (fun c_27 => ?_) (fun c_27 => ?_)
    · refine g_aload_n (pc := 36) dX8_whose_36 0 rfl rfl ?_
      refine g_invV (pc := 37) j_X5_size mw_X8_106 dX8_whose_37 (rcv_X5 (kd_r (by omega))) (by rfl) (c_X5_size E S (10 + n) (kd_r (by omega))) (Nat.le_of_ble_eq_true rfl) (Nat.le_of_ble_eq_true rfl) (by rfl) (Nat.le_of_ble_eq_true rfl) ?_
      refine g_bipush (pc := 40) (v := 6) dX8_whose_40 (by decide) ?_
      refine g_icmp_eq (pc := 42) (tgt := 51) dX8_whose_42 (by decide) (fun c_42 => ?_) (fun c_42 => ?_)
      · exact absurd ((nI_eq (b := 6) (by omega) (by omega)).mp (by rw [← hm]; exact c_42)) g3
      · refine g_aload_n (pc := 45) dX8_whose_45 1 rfl rfl ?_
        refine g_iconst (pc := 46) (v := 5) dX8_whose_46 (by decide) ?_
        refine g_invV (pc := 47) j_X8_refuse mw_X8_91 dX8_whose_47 (rcv_X8) (by rfl) (c_X8_refuse E S 5 (by first | assumption | omega | rfl)) (Nat.le_of_ble_eq_true rfl) (Nat.le_of_ble_eq_true rfl) (by rfl) (Nat.le_of_ble_eq_true rfl) ?_
        exact g_iret (pc := 50) hM rfl rfl ⟨rfl, rfl⟩ dX8_whose_50
    · exact absurd (g2.symm.trans c_27) (by decide)
set_option maxRecDepth 100000 in
set_option maxHeartbeats 4000000 in
theorem c_X8_whose_u (E : En) (S : St) (x : Int32) (n : Nat) (hn : n < 6) (g1 : hasF S 30 x = true) (hm : gI S (10 + n) 1 = nI 6) (g4 : allB (tlP S (10 + n)) 6 = false) : CTe E i_X8_whose S [.ref (eA E 0), .int x, .int (nI n)] (refS S 3) (some (.int (-3))) := by
  have g2 := mis_of hm (by omega)
  refine ct_of [(0, .ref (eA E 0)), (1, .int x), (2, .int (nI n))] (by decide +kernel) (Nat.le_of_ble_eq_true rfl) rfl (fun X hM => ?_)
  refine g_aload_n (pc := 0) dX8_whose_0 0 rfl rfl ?_
  refine g_iload_n (pc := 1) dX8_whose_1 2 rfl rfl ?_
  refine g_invV (pc := 2) j_X8_rowOf mw_X8_64 dX8_whose_2 (rcv_X8) (by rfl) (c_X8_rowOf_n E S n (by first | assumption | omega | rfl)) (Nat.le_of_ble_eq_true rfl) (Nat.le_of_ble_eq_true rfl) (by rfl) (Nat.le_of_ble_eq_true rfl) ?_
  refine g_astore_n (pc := 5) (L' := [(3, .ref (eA E (10 + n))), (0, .ref (eA E 0)), (1, .int x), (2, .int (nI n))]) dX8_whose_5 rfl (Nat.le_of_ble_eq_true rfl) rfl ?_
  refine g_aload_n (pc := 6) dX8_whose_6 1 rfl rfl ?_
  refine gf_X8_21 (pc := 7) rfl dX8_whose_7 ?_
  refine g_iload_n (pc := 10) dX8_whose_10 2 rfl rfl ?_
  refine g_invV (pc := 11) j_X0_has mw_X8_134 dX8_whose_11 (rcv_X0 rfl) (by rfl) (c_X0_has E S 30 x rfl) (Nat.le_of_ble_eq_true rfl) (Nat.le_of_ble_eq_true rfl) (by rfl) (Nat.le_of_ble_eq_true rfl) ?_
  refine g_b_eq (pc := 14) (tgt := 21) dX8_whose_14 (by decide) (fun c_14 => ?_) (fun c_14 => ?_)
  · exact absurd (g1.symm.trans c_14) (by decide)
  · refine g_aload_n (pc := 17) dX8_whose_17 0 rfl rfl ?_
    refine g_ifnonnull (pc := 18) (tgt := 23) dX8_whose_18 (by decide) ?_
    refine g_aload_n (pc := 23) dX8_whose_23 0 rfl rfl ?_
    refine g_invV (pc := 24) j_X5_isMissing mw_X8_94 dX8_whose_24 (rcv_X5 (kd_r (by omega))) (by rfl) (c_X5_isMissing E S (10 + n) (kd_r (by omega))) (Nat.le_of_ble_eq_true rfl) (Nat.le_of_ble_eq_true rfl) (by rfl) (Nat.le_of_ble_eq_true rfl) ?_
    refine g_b_eq (pc := 27) (tgt := 36) dX8_whose_27 (by decide) (fun c_27 => ?_) (fun c_27 => ?_)
    · refine g_aload_n (pc := 36) dX8_whose_36 0 rfl rfl ?_
      refine g_invV (pc := 37) j_X5_size mw_X8_106 dX8_whose_37 (rcv_X5 (kd_r (by omega))) (by rfl) (c_X5_size E S (10 + n) (kd_r (by omega))) (Nat.le_of_ble_eq_true rfl) (Nat.le_of_ble_eq_true rfl) (by rfl) (Nat.le_of_ble_eq_true rfl) ?_
      refine g_bipush (pc := 40) (v := 6) dX8_whose_40 (by decide) ?_
      refine g_icmp_eq (pc := 42) (tgt := 51) dX8_whose_42 (by decide) (fun c_42 => ?_) (fun c_42 => ?_)
      · refine g_aload_n (pc := 51) dX8_whose_51 0 rfl rfl ?_
        refine g_invS (pc := 52) j_X3_areTold mw_X8_272 dX8_whose_52 (by rfl) (c_X3_areTold E S (10 + n) 6 (kd_r (by omega)) (by first | assumption | omega | rfl) (by rw [ln_r hn]; omega)) (Nat.le_of_ble_eq_true rfl) (Nat.le_of_ble_eq_true rfl) (by rfl) (Nat.le_of_ble_eq_true rfl) ?_
        refine g_b_eq (pc := 55) (tgt := 70) dX8_whose_55 (by decide) (fun c_55 => ?_) (fun c_55 => ?_)
        · refine g_aload_n (pc := 70) dX8_whose_70 1 rfl rfl ?_
          refine g_iconst (pc := 71) (v := 3) dX8_whose_71 (by decide) ?_
          refine g_invV (pc := 72) j_X8_refuse mw_X8_91 dX8_whose_72 (rcv_X8) (by rfl) (c_X8_refuse E S 3 (by first | assumption | omega | rfl)) (Nat.le_of_ble_eq_true rfl) (Nat.le_of_ble_eq_true rfl) (by rfl) (Nat.le_of_ble_eq_true rfl) ?_
          exact g_iret (pc := 75) hM rfl rfl ⟨rfl, rfl⟩ dX8_whose_75
        · exact absurd (g4.symm.trans c_55) (by decide)
      · exact absurd hm c_42
    · exact absurd (g2.symm.trans c_27) (by decide)
set_option maxRecDepth 100000 in
set_option maxHeartbeats 4000000 in
theorem c_X8_whose_ok (E : En) (S : St) (x : Int32) (n : Nat) (hz : okB S 30) (hn : n < 6) (g1 : hasF S 30 x = true) (hm : gI S (10 + n) 1 = nI 6) (g4 : allB (tlP S (10 + n)) 6 = true) : CTe E i_X8_whose S [.ref (eA E 0), .int x, .int (nI n)] S (some (.int (fowF S 30 x (10 + n)))) := by
  have g2 := mis_of hm (by omega)
  refine ct_of [(0, .ref (eA E 0)), (1, .int x), (2, .int (nI n))] (by decide +kernel) (Nat.le_of_ble_eq_true rfl) rfl (fun X hM => ?_)
  refine g_aload_n (pc := 0) dX8_whose_0 0 rfl rfl ?_
  refine g_iload_n (pc := 1) dX8_whose_1 2 rfl rfl ?_
  refine g_invV (pc := 2) j_X8_rowOf mw_X8_64 dX8_whose_2 (rcv_X8) (by rfl) (c_X8_rowOf_n E S n (by first | assumption | omega | rfl)) (Nat.le_of_ble_eq_true rfl) (Nat.le_of_ble_eq_true rfl) (by rfl) (Nat.le_of_ble_eq_true rfl) ?_
  refine g_astore_n (pc := 5) (L' := [(3, .ref (eA E (10 + n))), (0, .ref (eA E 0)), (1, .int x), (2, .int (nI n))]) dX8_whose_5 rfl (Nat.le_of_ble_eq_true rfl) rfl ?_
  refine g_aload_n (pc := 6) dX8_whose_6 1 rfl rfl ?_
  refine gf_X8_21 (pc := 7) rfl dX8_whose_7 ?_
  refine g_iload_n (pc := 10) dX8_whose_10 2 rfl rfl ?_
  refine g_invV (pc := 11) j_X0_has mw_X8_134 dX8_whose_11 (rcv_X0 rfl) (by rfl) (c_X0_has E S 30 x rfl) (Nat.le_of_ble_eq_true rfl) (Nat.le_of_ble_eq_true rfl) (by rfl) (Nat.le_of_ble_eq_true rfl) ?_
  refine g_b_eq (pc := 14) (tgt := 21) dX8_whose_14 (by decide) (fun c_14 => ?_) (fun c_14 => ?_)
  · exact absurd (g1.symm.trans c_14) (by decide)
  · refine g_aload_n (pc := 17) dX8_whose_17 0 rfl rfl ?_
    refine g_ifnonnull (pc := 18) (tgt := 23) dX8_whose_18 (by decide) ?_
    refine g_aload_n (pc := 23) dX8_whose_23 0 rfl rfl ?_
    refine g_invV (pc := 24) j_X5_isMissing mw_X8_94 dX8_whose_24 (rcv_X5 (kd_r (by omega))) (by rfl) (c_X5_isMissing E S (10 + n) (kd_r (by omega))) (Nat.le_of_ble_eq_true rfl) (Nat.le_of_ble_eq_true rfl) (by rfl) (Nat.le_of_ble_eq_true rfl) ?_
    refine g_b_eq (pc := 27) (tgt := 36) dX8_whose_27 (by decide) (fun c_27 => ?_) (fun c_27 => ?_)
    · refine g_aload_n (pc := 36) dX8_whose_36 0 rfl rfl ?_
      refine g_invV (pc := 37) j_X5_size mw_X8_106 dX8_whose_37 (rcv_X5 (kd_r (by omega))) (by rfl) (c_X5_size E S (10 + n) (kd_r (by omega))) (Nat.le_of_ble_eq_true rfl) (Nat.le_of_ble_eq_true rfl) (by rfl) (Nat.le_of_ble_eq_true rfl) ?_
      refine g_bipush (pc := 40) (v := 6) dX8_whose_40 (by decide) ?_
      refine g_icmp_eq (pc := 42) (tgt := 51) dX8_whose_42 (by decide) (fun c_42 => ?_) (fun c_42 => ?_)
      · refine g_aload_n (pc := 51) dX8_whose_51 0 rfl rfl ?_
        refine g_invS (pc := 52) j_X3_areTold mw_X8_272 dX8_whose_52 (by rfl) (c_X3_areTold E S (10 + n) 6 (kd_r (by omega)) (by first | assumption | omega | rfl) (by rw [ln_r hn]; omega)) (Nat.le_of_ble_eq_true rfl) (Nat.le_of_ble_eq_true rfl) (by rfl) (Nat.le_of_ble_eq_true rfl) ?_
        refine g_b_eq (pc := 55) (tgt := 70) dX8_whose_55 (by decide) (fun c_55 => ?_) (fun c_55 => ?_)
        · exact absurd (g4.symm.trans c_55) (by decide)
        · refine g_aload_n (pc := 58) dX8_whose_58 1 rfl rfl ?_
          refine gf_X8_21 (pc := 59) rfl dX8_whose_59 ?_
          refine g_iload_n (pc := 62) dX8_whose_62 2 rfl rfl ?_
          refine g_aload_n (pc := 63) dX8_whose_63 0 rfl rfl ?_
          refine g_invS (pc := 64) j_X3_fittingOwers mw_X8_276 dX8_whose_64 (by rfl) (c_X3_fittingOwers E S 30 x (10 + n) rfl (by first | assumption | omega | rfl) (kd_r (by omega)) hm (by rw [ln_r hn]; omega)) (Nat.le_of_ble_eq_true rfl) (Nat.le_of_ble_eq_true rfl) (by rfl) (Nat.le_of_ble_eq_true rfl) ?_
          refine g_goto (pc := 67) (tgt := 75) dX8_whose_67 (by decide) ?_
          exact g_iret (pc := 75) hM rfl rfl ⟨rfl, rfl⟩ dX8_whose_75
      · exact absurd hm c_42
    · exact absurd (g2.symm.trans c_27) (by decide)
set_option maxRecDepth 100000 in
set_option maxHeartbeats 4000000 in
theorem c_X8_duel_bad (E : En) (S : St) (p n : Int32) (hz : okB S 30) (h : ¬ (placeF p = true ∧ ¬ n < 0 ∧ n ≤ 4)) : CTe E i_X8_duel S [.ref (eA E 0), .int p, .int n] S (some (.int (-1))) := by
  refine ct_of [(0, .ref (eA E 0)), (1, .int p), (2, .int n)] (by decide +kernel) (Nat.le_of_ble_eq_true rfl) rfl (fun X hM => ?_)
  refine g_iload_n (pc := 0) dX8_duel_0 1 rfl rfl ?_
  refine g_invS (pc := 1) j_X8_isPlace mw_X8_181 dX8_duel_1 (by rfl) (c_X8_isPlace E S p ) (Nat.le_of_ble_eq_true rfl) (Nat.le_of_ble_eq_true rfl) (by rfl) (Nat.le_of_ble_eq_true rfl) ?_
  refine g_b_eq (pc := 4) (tgt := 16) dX8_duel_4 (by decide) (fun c_4 => ?_) (fun c_4 => ?_)
  · refine g_iconst (pc := 16) (v := -1) dX8_duel_16 (by decide) ?_
    exact g_iret (pc := 17) hM rfl rfl ⟨rfl, rfl⟩ dX8_duel_17
  · refine g_iload_n (pc := 7) dX8_duel_7 2 rfl rfl ?_
    refine g_if_lt (pc := 8) (tgt := 16) dX8_duel_8 (by decide) (fun c_8 => ?_) (fun c_8 => ?_)
    · have k_8 := Int32.not_le.mpr c_8
      refine g_iconst (pc := 16) (v := -1) dX8_duel_16 (by decide) ?_
      exact g_iret (pc := 17) hM rfl rfl ⟨rfl, rfl⟩ dX8_duel_17
    · have k_8 := Int32.not_lt.mp c_8
      refine g_iload_n (pc := 11) dX8_duel_11 2 rfl rfl ?_
      refine g_iconst (pc := 12) (v := 4) dX8_duel_12 (by decide) ?_
      refine g_icmp_le (pc := 13) (tgt := 18) dX8_duel_13 (by decide) (fun c_13 => ?_) (fun c_13 => ?_)
      · have k_13 := Int32.not_lt.mpr c_13
        exact absurd ⟨c_4, c_8, c_13⟩ h
      · have k_13 := Int32.not_le.mp c_13
        refine g_iconst (pc := 16) (v := -1) dX8_duel_16 (by decide) ?_
        exact g_iret (pc := 17) hM rfl rfl ⟨rfl, rfl⟩ dX8_duel_17
set_option maxRecDepth 100000 in
set_option maxHeartbeats 4000000 in
theorem c_X8_duel_st (E : En) (S : St) (p n : Int32) (hz : okB S 30) (g1 : placeF p = true) (g2 : ¬ n < 0) (g3 : n ≤ 4) (h : ¬ (¬ gI S 30 6 = 0)) : CTe E i_X8_duel S [.ref (eA E 0), .int p, .int n] S (some (.int (-4))) := by
  refine ct_of [(0, .ref (eA E 0)), (1, .int p), (2, .int n)] (by decide +kernel) (Nat.le_of_ble_eq_true rfl) rfl (fun X hM => ?_)
  refine g_iload_n (pc := 0) dX8_duel_0 1 rfl rfl ?_
  refine g_invS (pc := 1) j_X8_isPlace mw_X8_181 dX8_duel_1 (by rfl) (c_X8_isPlace E S p ) (Nat.le_of_ble_eq_true rfl) (Nat.le_of_ble_eq_true rfl) (by rfl) (Nat.le_of_ble_eq_true rfl) ?_
  refine g_b_eq (pc := 4) (tgt := 16) dX8_duel_4 (by decide) (fun c_4 => ?_) (fun c_4 => ?_)
  · exact absurd (g1.symm.trans c_4) (by decide)
  · refine g_iload_n (pc := 7) dX8_duel_7 2 rfl rfl ?_
    refine g_if_lt (pc := 8) (tgt := 16) dX8_duel_8 (by decide) (fun c_8 => ?_) (fun c_8 => ?_)
    · have k_8 := Int32.not_le.mpr c_8
      (first | exact absurd g2 c_8 | exact absurd c_8 g2)
    · have k_8 := Int32.not_lt.mp c_8
      refine g_iload_n (pc := 11) dX8_duel_11 2 rfl rfl ?_
      refine g_iconst (pc := 12) (v := 4) dX8_duel_12 (by decide) ?_
      refine g_icmp_le (pc := 13) (tgt := 18) dX8_duel_13 (by decide) (fun c_13 => ?_) (fun c_13 => ?_)
      · have k_13 := Int32.not_lt.mpr c_13
        refine g_aload_n (pc := 18) dX8_duel_18 0 rfl rfl ?_
        refine gf_X8_21 (pc := 19) rfl dX8_duel_19 ?_
        refine g_invV (pc := 22) j_X0_size mw_X8_133 dX8_duel_22 (rcv_X0 rfl) (by rfl) (c_X0_size E S 30 rfl) (Nat.le_of_ble_eq_true rfl) (Nat.le_of_ble_eq_true rfl) (by rfl) (Nat.le_of_ble_eq_true rfl) ?_
        refine g_if_ne (pc := 25) (tgt := 33) dX8_duel_25 (by decide) (fun c_25 => ?_) (fun c_25 => ?_)
        · exact absurd c_25 h
        · refine g_bipush (pc := 28) (v := -4) dX8_duel_28 (by decide) ?_
          refine g_goto (pc := 30) (tgt := 46) dX8_duel_30 (by decide) ?_
          exact g_iret (pc := 46) hM rfl rfl ⟨rfl, rfl⟩ dX8_duel_46
      · have k_13 := Int32.not_le.mp c_13
        (first | exact absurd g3 c_13 | exact absurd c_13 g3)
set_option maxRecDepth 100000 in
set_option maxHeartbeats 4000000 in
theorem c_X8_duel_ok (E : En) (S : St) (p : Int32) (t : Nat) (hz : okB S 30) (g1 : placeF p = true) (ht4 : t ≤ 4) (h : ¬ gI S 30 6 = 0) : CTe E i_X8_duel S [.ref (eA E 0), .int p, .int (nI t)] (sA (scrF S (glW S 30 p)) 7 (auF S 30 p t)) (some (.int (atF S 30 p t))) := by
  refine ct_of [(0, .ref (eA E 0)), (1, .int p), (2, .int (nI t))] (by decide +kernel) (Nat.le_of_ble_eq_true rfl) rfl (fun X hM => ?_)
  refine g_iload_n (pc := 0) dX8_duel_0 1 rfl rfl ?_
  refine g_invS (pc := 1) j_X8_isPlace mw_X8_181 dX8_duel_1 (by rfl) (c_X8_isPlace E S p ) (Nat.le_of_ble_eq_true rfl) (Nat.le_of_ble_eq_true rfl) (by rfl) (Nat.le_of_ble_eq_true rfl) ?_
  refine g_b_eq (pc := 4) (tgt := 16) dX8_duel_4 (by decide) (fun c_4 => ?_) (fun c_4 => ?_)
  · exact absurd (g1.symm.trans c_4) (by decide)
  · refine g_iload_n (pc := 7) dX8_duel_7 2 rfl rfl ?_
    refine g_if_lt (pc := 8) (tgt := 16) dX8_duel_8 (by decide) (fun c_8 => ?_) (fun c_8 => ?_)
    · have k_8 := Int32.not_le.mpr c_8
      exact absurd c_8 (nI_pos (by omega))
    · have k_8 := Int32.not_lt.mp c_8
      refine g_iload_n (pc := 11) dX8_duel_11 2 rfl rfl ?_
      refine g_iconst (pc := 12) (v := 4) dX8_duel_12 (by decide) ?_
      refine g_icmp_le (pc := 13) (tgt := 18) dX8_duel_13 (by decide) (fun c_13 => ?_) (fun c_13 => ?_)
      · have k_13 := Int32.not_lt.mpr c_13
        refine g_aload_n (pc := 18) dX8_duel_18 0 rfl rfl ?_
        refine gf_X8_21 (pc := 19) rfl dX8_duel_19 ?_
        refine g_invV (pc := 22) j_X0_size mw_X8_133 dX8_duel_22 (rcv_X0 rfl) (by rfl) (c_X0_size E S 30 rfl) (Nat.le_of_ble_eq_true rfl) (Nat.le_of_ble_eq_true rfl) (by rfl) (Nat.le_of_ble_eq_true rfl) ?_
        refine g_if_ne (pc := 25) (tgt := 33) dX8_duel_25 (by decide) (fun c_25 => ?_) (fun c_25 => ?_)
        · refine g_aload_n (pc := 33) dX8_duel_33 0 rfl rfl ?_
          refine gf_X8_32 (pc := 34) rfl dX8_duel_34 ?_
          refine g_aload_n (pc := 37) dX8_duel_37 0 rfl rfl ?_
          refine gf_X8_21 (pc := 38) rfl dX8_duel_38 ?_
          refine g_iload_n (pc := 41) dX8_duel_41 1 rfl rfl ?_
          refine g_iload_n (pc := 42) dX8_duel_42 2 rfl rfl ?_
          refine g_invV (pc := 43) j_X4_afterTurns mw_X8_280 dX8_duel_43 (rcv_X4) (by rfl) (c_X4_afterTurns E S 30 p t rfl (by first | assumption | omega | rfl) (by first | assumption | omega | rfl)) (Nat.le_of_ble_eq_true rfl) (Nat.le_of_ble_eq_true rfl) (by rfl) (Nat.le_of_ble_eq_true rfl) ?_
          exact g_iret (pc := 46) hM rfl rfl ⟨rfl, rfl⟩ dX8_duel_46
        · exact absurd c_25 h
      · have k_13 := Int32.not_le.mp c_13
        exact absurd (nI_le (b := 4) ht4 (by omega)) c_13
set_option maxRecDepth 100000 in
set_option maxHeartbeats 4000000 in
theorem c_X8_greatestDivisor (E : En) (S : St) (a b : Int64) : CTe E i_X8_greatestDivisor S [.long a, .long b] S (some (.long (gdF a b))) := by
  refine ct_of [(0, .long a), (2, .long b)] (by decide +kernel) (Nat.le_of_ble_eq_true rfl) rfl (fun X hM => ?_)
  refine g_lload_n (pc := 0) dX8_greatestDivisor_0 0 rfl rfl ?_
  refine g_lstore (pc := 1) (L' := [(4, .long a), (0, .long a), (2, .long b)]) dX8_greatestDivisor_1 (Nat.le_of_ble_eq_true rfl) rfl ?_
  refine g_lload_n (pc := 3) dX8_greatestDivisor_3 2 rfl rfl ?_
  refine g_lstore (pc := 4) (L' := [(6, .long b), (4, .long a), (0, .long a), (2, .long b)]) dX8_greatestDivisor_4 (Nat.le_of_ble_eq_true rfl) rfl ?_
  refine g_iconst (pc := 6) (v := 0) dX8_greatestDivisor_6 (by decide) ?_
  refine g_istore (pc := 7) (L' := [(8, .int 0), (6, .long b), (4, .long a), (0, .long a), (2, .long b)]) dX8_greatestDivisor_7 (Nat.le_of_ble_eq_true rfl) rfl ?_
  have H_9 : ∀ (f : Nat) (x y : Int64), f ≤ 200 → gdR f x y = gdR 200 a b → G E X i_X8_greatestDivisor S 9 [(0, .long a), (2, .long b), (4, .long x), (6, .long y), (8, .int (nI (200 - f)))] [] := by
    intro f
    induction f with
    | zero =>
      intro x y h1 hu
      refine g_iload (pc := 9) dX8_greatestDivisor_9 4 rfl ?_
      refine g_sipush (pc := 11) (v := 200) dX8_greatestDivisor_11 (by decide) ?_
      refine g_icmp_ge (pc := 14) (tgt := 45) dX8_greatestDivisor_14 (by decide) (fun c_14 => ?_) (fun c_14 => ?_)
      · have k_14 := Int32.not_lt.mpr c_14
        refine g_lload (pc := 45) dX8_greatestDivisor_45 2 rfl ?_
        exact g_lret (pc := 47) hM rfl ⟨rfl, some_long hu⟩ dX8_greatestDivisor_47
      · have k_14 := Int32.not_le.mp c_14
        exact absurd (by decide) c_14
    | succ f ih_9 =>
      intro x y h1 hu
      refine g_iload (pc := 9) dX8_greatestDivisor_9 4 rfl ?_
      refine g_sipush (pc := 11) (v := 200) dX8_greatestDivisor_11 (by decide) ?_
      refine g_icmp_ge (pc := 14) (tgt := 45) dX8_greatestDivisor_14 (by decide) (fun c_14 => ?_) (fun c_14 => ?_)
      · have k_14 := Int32.not_lt.mpr c_14
        exact absurd ((nI_leI (a := 200) (by omega) (by omega)).mp c_14) (by omega)
      · have k_14 := Int32.not_le.mp c_14
        refine g_lload (pc := 17) dX8_greatestDivisor_17 3 rfl ?_
        refine g_lconst (pc := 19) (v := 0) dX8_greatestDivisor_19 (by decide) ?_
        refine g_lcmp (pc := 20) dX8_greatestDivisor_20 ?_
        refine g_lc_eq (pc := 21) (tgt := 45) dX8_greatestDivisor_21 (by decide) (fun c_21 => ?_) (fun c_21 => ?_)
        · refine g_lload (pc := 45) dX8_greatestDivisor_45 2 rfl ?_
          exact g_lret (pc := 47) hM rfl ⟨rfl, some_long (by rw [gdF, ← hu, gdR, if_pos c_21])⟩ dX8_greatestDivisor_47
        · refine g_lload (pc := 24) dX8_greatestDivisor_24 2 rfl ?_
          refine g_lload (pc := 26) dX8_greatestDivisor_26 3 rfl ?_
          refine g_lrem (pc := 28) dX8_greatestDivisor_28 c_21 ?_
          refine g_lstore (pc := 29) (L' := [(9, .long (x - x / y * y)), (0, .long a), (2, .long b), (4, .long x), (6, .long y), (8, .int (nI (200 - (f + 1))))]) dX8_greatestDivisor_29 (Nat.le_of_ble_eq_true rfl) rfl ?_
          refine g_lload (pc := 31) dX8_greatestDivisor_31 4 rfl ?_
          refine g_lstore (pc := 33) (L' := [(4, .long y), (9, .long (x - x / y * y)), (0, .long a), (2, .long b), (6, .long y), (8, .int (nI (200 - (f + 1))))]) dX8_greatestDivisor_33 (Nat.le_of_ble_eq_true rfl) rfl ?_
          refine g_lload (pc := 35) dX8_greatestDivisor_35 1 rfl ?_
          refine g_lstore (pc := 37) (L' := [(6, .long (x - x / y * y)), (4, .long y), (9, .long (x - x / y * y)), (0, .long a), (2, .long b), (8, .int (nI (200 - (f + 1))))]) dX8_greatestDivisor_37 (Nat.le_of_ble_eq_true rfl) rfl ?_
          refine g_iinc (pc := 39) (L' := [(8, .int (nI (200 - (f + 1)) + 1)), (6, .long (x - x / y * y)), (4, .long y), (9, .long (x - x / y * y)), (0, .long a), (2, .long b)]) dX8_greatestDivisor_39 (k := 5) rfl (v := nI (200 - (f + 1)) + 1) rfl (Nat.le_of_ble_eq_true rfl) rfl ?_
          refine g_goto (pc := 42) (tgt := 9) dX8_greatestDivisor_42 (by decide) ?_
          refine g_sub (L' := [(0, .long a), (2, .long b), (4, .long y), (6, .long (x - x / y * y)), (8, .int (nI (200 - (f + 1)) + 1))]) [4, 5, 2, 1, 0] rfl ?_
          exact g_eq rfl (by rw [nI_1, show 200 - (f + 1) + 1 = 200 - f by omega]) rfl (ih_9 y (x - x / y * y) (by omega) (by rw [← hu, gdR, if_neg c_21]))
  refine g_sub (L' := [(0, .long a), (2, .long b), (4, .long a), (6, .long b), (8, .int 0)]) [3, 4, 2, 1, 0] rfl ?_
  exact H_9 200 a b (by omega) rfl
set_option maxRecDepth 100000 in
set_option maxHeartbeats 4000000 in
theorem c_X8_tellInLowestTerms (E : En) (S : St) (a b : Int64) (h : 0 < gdF a b) : CTe E i_X8_tellInLowestTerms S [.ref (eA E 0), .long a, .long b] (lwS S a b) none := by
  refine ct_of [(0, .ref (eA E 0)), (1, .long a), (3, .long b)] (by decide +kernel) (Nat.le_of_ble_eq_true rfl) rfl (fun X hM => ?_)
  refine g_lload_n (pc := 0) dX8_tellInLowestTerms_0 1 rfl rfl ?_
  refine g_lload_n (pc := 1) dX8_tellInLowestTerms_1 2 rfl rfl ?_
  refine g_invS (pc := 2) j_X8_greatestDivisor mw_X8_342 dX8_tellInLowestTerms_2 (by rfl) (c_X8_greatestDivisor E S a b ) (Nat.le_of_ble_eq_true rfl) (Nat.le_of_ble_eq_true rfl) (by rfl) (Nat.le_of_ble_eq_true rfl) ?_
  refine g_lstore (pc := 5) (L' := [(5, .long (gdF a b)), (0, .ref (eA E 0)), (1, .long a), (3, .long b)]) dX8_tellInLowestTerms_5 (Nat.le_of_ble_eq_true rfl) rfl ?_
  refine g_lload (pc := 7) dX8_tellInLowestTerms_7 0 rfl ?_
  refine g_lconst (pc := 9) (v := 0) dX8_tellInLowestTerms_9 (by decide) ?_
  refine g_lcmp (pc := 10) dX8_tellInLowestTerms_10 ?_
  refine g_lc_le (pc := 11) (tgt := 30) dX8_tellInLowestTerms_11 (by decide) (fun c_11 => ?_) (fun c_11 => ?_)
  · have k_11 := Int64.not_lt.mpr c_11
    exact absurd h (Int64.not_lt.mpr c_11)
  · have k_11 := Int64.not_le.mp c_11
    refine g_aload_n (pc := 14) dX8_tellInLowestTerms_14 1 rfl rfl ?_
    refine g_lload_n (pc := 15) dX8_tellInLowestTerms_15 2 rfl rfl ?_
    refine g_lload (pc := 16) dX8_tellInLowestTerms_16 0 rfl ?_
    refine g_ldiv (pc := 18) dX8_tellInLowestTerms_18 (by intro q; rw [q] at h; exact absurd h (by decide)) ?_
    refine pf_X8_54 (pc := 19) rfl dX8_tellInLowestTerms_19 ?_
    refine g_aload_n (pc := 22) dX8_tellInLowestTerms_22 1 rfl rfl ?_
    refine g_lload_n (pc := 23) dX8_tellInLowestTerms_23 3 rfl rfl ?_
    refine g_lload (pc := 24) dX8_tellInLowestTerms_24 0 rfl ?_
    refine g_ldiv (pc := 26) dX8_tellInLowestTerms_26 (by intro q; rw [q] at h; exact absurd h (by decide)) ?_
    refine pf_X8_58 (pc := 27) rfl dX8_tellInLowestTerms_27 ?_
    exact g_vret (pc := 30) hM rfl ⟨rfl, rfl⟩ dX8_tellInLowestTerms_30
set_option maxRecDepth 100000 in
set_option maxHeartbeats 4000000 in
theorem c_X8_odds_bad (E : En) (S : St) (p v q : Int32) (hz : okB S 30) (h : ¬ (placeF p = true ∧ ¬ v < 0 ∧ ¬ 99 < v ∧ ¬ q < 0 ∧ q ≤ 12)) : CTe E i_X8_odds S [.ref (eA E 0), .int p, .int v, .int q] S (some (.int (-1))) := by
  refine ct_of [(0, .ref (eA E 0)), (1, .int p), (2, .int v), (3, .int q)] (by decide +kernel) (Nat.le_of_ble_eq_true rfl) rfl (fun X hM => ?_)
  refine g_iload_n (pc := 0) dX8_odds_0 1 rfl rfl ?_
  refine g_invS (pc := 1) j_X8_isPlace mw_X8_181 dX8_odds_1 (by rfl) (c_X8_isPlace E S p ) (Nat.le_of_ble_eq_true rfl) (Nat.le_of_ble_eq_true rfl) (by rfl) (Nat.le_of_ble_eq_true rfl) ?_
  refine g_b_eq (pc := 4) (tgt := 27) dX8_odds_4 (by decide) (fun c_4 => ?_) (fun c_4 => ?_)
  · refine g_iconst (pc := 27) (v := -1) dX8_odds_27 (by decide) ?_
    exact g_iret (pc := 28) hM rfl rfl ⟨rfl, rfl⟩ dX8_odds_28
  · refine g_iload_n (pc := 7) dX8_odds_7 2 rfl rfl ?_
    refine g_if_lt (pc := 8) (tgt := 27) dX8_odds_8 (by decide) (fun c_8 => ?_) (fun c_8 => ?_)
    · have k_8 := Int32.not_le.mpr c_8
      refine g_iconst (pc := 27) (v := -1) dX8_odds_27 (by decide) ?_
      exact g_iret (pc := 28) hM rfl rfl ⟨rfl, rfl⟩ dX8_odds_28
    · have k_8 := Int32.not_lt.mp c_8
      refine g_iload_n (pc := 11) dX8_odds_11 2 rfl rfl ?_
      refine g_bipush (pc := 12) (v := 99) dX8_odds_12 (by decide) ?_
      refine g_icmp_gt (pc := 14) (tgt := 27) dX8_odds_14 (by decide) (fun c_14 => ?_) (fun c_14 => ?_)
      · have k_14 := Int32.not_le.mpr c_14
        refine g_iconst (pc := 27) (v := -1) dX8_odds_27 (by decide) ?_
        exact g_iret (pc := 28) hM rfl rfl ⟨rfl, rfl⟩ dX8_odds_28
      · have k_14 := Int32.not_lt.mp c_14
        refine g_iload_n (pc := 17) dX8_odds_17 3 rfl rfl ?_
        refine g_if_lt (pc := 18) (tgt := 27) dX8_odds_18 (by decide) (fun c_18 => ?_) (fun c_18 => ?_)
        · have k_18 := Int32.not_le.mpr c_18
          refine g_iconst (pc := 27) (v := -1) dX8_odds_27 (by decide) ?_
          exact g_iret (pc := 28) hM rfl rfl ⟨rfl, rfl⟩ dX8_odds_28
        · have k_18 := Int32.not_lt.mp c_18
          refine g_iload_n (pc := 21) dX8_odds_21 3 rfl rfl ?_
          refine g_bipush (pc := 22) (v := 12) dX8_odds_22 (by decide) ?_
          refine g_icmp_le (pc := 24) (tgt := 29) dX8_odds_24 (by decide) (fun c_24 => ?_) (fun c_24 => ?_)
          · have k_24 := Int32.not_lt.mpr c_24
            exact absurd ⟨c_4, c_8, c_14, c_18, c_24⟩ h
          · have k_24 := Int32.not_le.mp c_24
            refine g_iconst (pc := 27) (v := -1) dX8_odds_27 (by decide) ?_
            exact g_iret (pc := 28) hM rfl rfl ⟨rfl, rfl⟩ dX8_odds_28
set_option maxRecDepth 100000 in
set_option maxHeartbeats 4000000 in
theorem c_X8_odds_st (E : En) (S : St) (p v q : Int32) (hz : okB S 30) (g1 : placeF p = true) (g2 : ¬ v < 0) (g3 : ¬ 99 < v) (g4 : ¬ q < 0) (g5 : q ≤ 12) (h : ¬ (¬ gI S 30 6 = 0)) : CTe E i_X8_odds S [.ref (eA E 0), .int p, .int v, .int q] S (some (.int (-4))) := by
  refine ct_of [(0, .ref (eA E 0)), (1, .int p), (2, .int v), (3, .int q)] (by decide +kernel) (Nat.le_of_ble_eq_true rfl) rfl (fun X hM => ?_)
  refine g_iload_n (pc := 0) dX8_odds_0 1 rfl rfl ?_
  refine g_invS (pc := 1) j_X8_isPlace mw_X8_181 dX8_odds_1 (by rfl) (c_X8_isPlace E S p ) (Nat.le_of_ble_eq_true rfl) (Nat.le_of_ble_eq_true rfl) (by rfl) (Nat.le_of_ble_eq_true rfl) ?_
  refine g_b_eq (pc := 4) (tgt := 27) dX8_odds_4 (by decide) (fun c_4 => ?_) (fun c_4 => ?_)
  · exact absurd (g1.symm.trans c_4) (by decide)
  · refine g_iload_n (pc := 7) dX8_odds_7 2 rfl rfl ?_
    refine g_if_lt (pc := 8) (tgt := 27) dX8_odds_8 (by decide) (fun c_8 => ?_) (fun c_8 => ?_)
    · have k_8 := Int32.not_le.mpr c_8
      (first | exact absurd g2 c_8 | exact absurd c_8 g2)
    · have k_8 := Int32.not_lt.mp c_8
      refine g_iload_n (pc := 11) dX8_odds_11 2 rfl rfl ?_
      refine g_bipush (pc := 12) (v := 99) dX8_odds_12 (by decide) ?_
      refine g_icmp_gt (pc := 14) (tgt := 27) dX8_odds_14 (by decide) (fun c_14 => ?_) (fun c_14 => ?_)
      · have k_14 := Int32.not_le.mpr c_14
        (first | exact absurd g3 c_14 | exact absurd c_14 g3)
      · have k_14 := Int32.not_lt.mp c_14
        refine g_iload_n (pc := 17) dX8_odds_17 3 rfl rfl ?_
        refine g_if_lt (pc := 18) (tgt := 27) dX8_odds_18 (by decide) (fun c_18 => ?_) (fun c_18 => ?_)
        · have k_18 := Int32.not_le.mpr c_18
          (first | exact absurd g4 c_18 | exact absurd c_18 g4)
        · have k_18 := Int32.not_lt.mp c_18
          refine g_iload_n (pc := 21) dX8_odds_21 3 rfl rfl ?_
          refine g_bipush (pc := 22) (v := 12) dX8_odds_22 (by decide) ?_
          refine g_icmp_le (pc := 24) (tgt := 29) dX8_odds_24 (by decide) (fun c_24 => ?_) (fun c_24 => ?_)
          · have k_24 := Int32.not_lt.mpr c_24
            refine g_aload_n (pc := 29) dX8_odds_29 0 rfl rfl ?_
            refine gf_X8_21 (pc := 30) rfl dX8_odds_30 ?_
            refine g_invV (pc := 33) j_X0_size mw_X8_133 dX8_odds_33 (rcv_X0 rfl) (by rfl) (c_X0_size E S 30 rfl) (Nat.le_of_ble_eq_true rfl) (Nat.le_of_ble_eq_true rfl) (by rfl) (Nat.le_of_ble_eq_true rfl) ?_
            refine g_if_ne (pc := 36) (tgt := 42) dX8_odds_36 (by decide) (fun c_36 => ?_) (fun c_36 => ?_)
            · exact absurd c_36 h
            · refine g_bipush (pc := 39) (v := -4) dX8_odds_39 (by decide) ?_
              exact g_iret (pc := 41) hM rfl rfl ⟨rfl, rfl⟩ dX8_odds_41
          · have k_24 := Int32.not_le.mp c_24
            (first | exact absurd g5 c_24 | exact absurd c_24 g5)
set_option maxRecDepth 100000 in
set_option maxHeartbeats 4000000 in
theorem c_X8_odds_ok (E : En) (S : St) (p v q : Int32) (hz : okB S 30) (hg : 0 < gdF (wyR (gI S 30 7) v q (glW S 30 p) (2 ^ szB S 30)) (pwG 12 (bcF (gI S 30 7)) 8)) (g1 : placeF p = true) (g2 : ¬ v < 0) (g3 : ¬ 99 < v) (g4 : ¬ q < 0) (g5 : q ≤ 12) (g6 : ¬ gI S 30 6 = 0) : CTe E i_X8_odds S [.ref (eA E 0), .int p, .int v, .int q] (lwS (scrF S (glW S 30 p)) (wyR (gI S 30 7) v q (glW S 30 p) (2 ^ szB S 30)) (pwG 12 (bcF (gI S 30 7)) 8)) (some (.int 1)) := by
  refine ct_of [(0, .ref (eA E 0)), (1, .int p), (2, .int v), (3, .int q)] (by decide +kernel) (Nat.le_of_ble_eq_true rfl) rfl (fun X hM => ?_)
  refine g_iload_n (pc := 0) dX8_odds_0 1 rfl rfl ?_
  refine g_invS (pc := 1) j_X8_isPlace mw_X8_181 dX8_odds_1 (by rfl) (c_X8_isPlace E S p ) (Nat.le_of_ble_eq_true rfl) (Nat.le_of_ble_eq_true rfl) (by rfl) (Nat.le_of_ble_eq_true rfl) ?_
  refine g_b_eq (pc := 4) (tgt := 27) dX8_odds_4 (by decide) (fun c_4 => ?_) (fun c_4 => ?_)
  · exact absurd (g1.symm.trans c_4) (by decide)
  · refine g_iload_n (pc := 7) dX8_odds_7 2 rfl rfl ?_
    refine g_if_lt (pc := 8) (tgt := 27) dX8_odds_8 (by decide) (fun c_8 => ?_) (fun c_8 => ?_)
    · have k_8 := Int32.not_le.mpr c_8
      (first | exact absurd g2 c_8 | exact absurd c_8 g2)
    · have k_8 := Int32.not_lt.mp c_8
      refine g_iload_n (pc := 11) dX8_odds_11 2 rfl rfl ?_
      refine g_bipush (pc := 12) (v := 99) dX8_odds_12 (by decide) ?_
      refine g_icmp_gt (pc := 14) (tgt := 27) dX8_odds_14 (by decide) (fun c_14 => ?_) (fun c_14 => ?_)
      · have k_14 := Int32.not_le.mpr c_14
        (first | exact absurd g3 c_14 | exact absurd c_14 g3)
      · have k_14 := Int32.not_lt.mp c_14
        refine g_iload_n (pc := 17) dX8_odds_17 3 rfl rfl ?_
        refine g_if_lt (pc := 18) (tgt := 27) dX8_odds_18 (by decide) (fun c_18 => ?_) (fun c_18 => ?_)
        · have k_18 := Int32.not_le.mpr c_18
          (first | exact absurd g4 c_18 | exact absurd c_18 g4)
        · have k_18 := Int32.not_lt.mp c_18
          refine g_iload_n (pc := 21) dX8_odds_21 3 rfl rfl ?_
          refine g_bipush (pc := 22) (v := 12) dX8_odds_22 (by decide) ?_
          refine g_icmp_le (pc := 24) (tgt := 29) dX8_odds_24 (by decide) (fun c_24 => ?_) (fun c_24 => ?_)
          · have k_24 := Int32.not_lt.mpr c_24
            refine g_aload_n (pc := 29) dX8_odds_29 0 rfl rfl ?_
            refine gf_X8_21 (pc := 30) rfl dX8_odds_30 ?_
            refine g_invV (pc := 33) j_X0_size mw_X8_133 dX8_odds_33 (rcv_X0 rfl) (by rfl) (c_X0_size E S 30 rfl) (Nat.le_of_ble_eq_true rfl) (Nat.le_of_ble_eq_true rfl) (by rfl) (Nat.le_of_ble_eq_true rfl) ?_
            refine g_if_ne (pc := 36) (tgt := 42) dX8_odds_36 (by decide) (fun c_36 => ?_) (fun c_36 => ?_)
            · refine g_aload_n (pc := 42) dX8_odds_42 0 rfl rfl ?_
              refine gf_X8_32 (pc := 43) rfl dX8_odds_43 ?_
              refine g_aload_n (pc := 46) dX8_odds_46 0 rfl rfl ?_
              refine gf_X8_21 (pc := 47) rfl dX8_odds_47 ?_
              refine g_iload_n (pc := 50) dX8_odds_50 1 rfl rfl ?_
              refine g_iload_n (pc := 51) dX8_odds_51 2 rfl rfl ?_
              refine g_iload_n (pc := 52) dX8_odds_52 3 rfl rfl ?_
              refine g_invV (pc := 53) j_X4_waysToBeDark mw_X8_283 dX8_odds_53 (rcv_X4) (by rfl) (c_X4_waysToBeDark E S 30 p v q rfl (by first | assumption | omega | rfl)) (Nat.le_of_ble_eq_true rfl) (Nat.le_of_ble_eq_true rfl) (by rfl) (Nat.le_of_ble_eq_true rfl) ?_
              refine g_lstore (pc := 56) (L' := [(4, .long (wyR (gI S 30 7) v q (glW S 30 p) (2 ^ szB S 30))), (0, .ref (eA E 0)), (1, .int p), (2, .int v), (3, .int q)]) dX8_odds_56 (Nat.le_of_ble_eq_true rfl) rfl ?_
              refine g_aload_n (pc := 58) dX8_odds_58 1 rfl rfl ?_
              refine g_lload (pc := 59) dX8_odds_59 0 rfl ?_
              refine g_bipush (pc := 61) (v := 12) dX8_odds_61 (by decide) ?_
              refine g_aload_n (pc := 63) dX8_odds_63 1 rfl rfl ?_
              refine gf_X8_21 (pc := 64) rfl dX8_odds_64 ?_
              refine g_invV (pc := 67) j_X0_litSet mw_X8_287 dX8_odds_67 (rcv_X0 rfl) (by rfl) (c_X0_litSet E (scrF S (glW S 30 p)) 30 rfl) (Nat.le_of_ble_eq_true rfl) (Nat.le_of_ble_eq_true rfl) (by rfl) (Nat.le_of_ble_eq_true rfl) ?_
              refine g_invS (pc := 70) j_J6_bitCount mw_X8_230 dX8_odds_70 (by rfl) (c_J6_bitCount E (scrF S (glW S 30 p)) (gI (scrF S (glW S 30 p)) 30 7) ) (Nat.le_of_ble_eq_true rfl) (Nat.le_of_ble_eq_true rfl) (by rfl) (Nat.le_of_ble_eq_true rfl) ?_
              refine g_invS (pc := 73) j_X4_power mw_X8_290 dX8_odds_73 (by rfl) (c_X4_power E (scrF S (glW S 30 p)) 12 (bcF (gI (scrF S (glW S 30 p)) 30 7)) ) (Nat.le_of_ble_eq_true rfl) (Nat.le_of_ble_eq_true rfl) (by rfl) (Nat.le_of_ble_eq_true rfl) ?_
              refine g_invN (pc := 76) j_X8_tellInLowestTerms mw_X8_294 dX8_odds_76 (rcv_X8) (by rfl) (c_X8_tellInLowestTerms E (scrF S (glW S 30 p)) (wyR (gI S 30 7) v q (glW S 30 p) (2 ^ szB S 30)) (pwG 12 (bcF (gI S 30 7)) 8) hg) (Nat.le_of_ble_eq_true rfl) (Nat.le_of_ble_eq_true rfl) (by rfl) (Nat.le_of_ble_eq_true rfl) ?_
              refine g_iconst (pc := 79) (v := 1) dX8_odds_79 (by decide) ?_
              exact g_iret (pc := 80) hM rfl rfl ⟨rfl, rfl⟩ dX8_odds_80
            · (first | exact absurd g6 c_36 | exact absurd c_36 g6)
          · have k_24 := Int32.not_le.mp c_24
            (first | exact absurd g5 c_24 | exact absurd c_24 g5)
set_option maxRecDepth 100000 in
set_option maxHeartbeats 4000000 in
theorem c_X8_mid_bad (E : En) (S : St) (p q : Int32) (hz : okB S 30) (h : ¬ (placeF p = true ∧ ¬ q < 0 ∧ q ≤ 12)) : CTe E i_X8_mid S [.ref (eA E 0), .int p, .int q] S (some (.int (-1))) := by
  refine ct_of [(0, .ref (eA E 0)), (1, .int p), (2, .int q)] (by decide +kernel) (Nat.le_of_ble_eq_true rfl) rfl (fun X hM => ?_)
  refine g_iload_n (pc := 0) dX8_mid_0 1 rfl rfl ?_
  refine g_invS (pc := 1) j_X8_isPlace mw_X8_181 dX8_mid_1 (by rfl) (c_X8_isPlace E S p ) (Nat.le_of_ble_eq_true rfl) (Nat.le_of_ble_eq_true rfl) (by rfl) (Nat.le_of_ble_eq_true rfl) ?_
  refine g_b_eq (pc := 4) (tgt := 17) dX8_mid_4 (by decide) (fun c_4 => ?_) (fun c_4 => ?_)
  · refine g_iconst (pc := 17) (v := -1) dX8_mid_17 (by decide) ?_
    exact g_iret (pc := 18) hM rfl rfl ⟨rfl, rfl⟩ dX8_mid_18
  · refine g_iload_n (pc := 7) dX8_mid_7 2 rfl rfl ?_
    refine g_if_lt (pc := 8) (tgt := 17) dX8_mid_8 (by decide) (fun c_8 => ?_) (fun c_8 => ?_)
    · have k_8 := Int32.not_le.mpr c_8
      refine g_iconst (pc := 17) (v := -1) dX8_mid_17 (by decide) ?_
      exact g_iret (pc := 18) hM rfl rfl ⟨rfl, rfl⟩ dX8_mid_18
    · have k_8 := Int32.not_lt.mp c_8
      refine g_iload_n (pc := 11) dX8_mid_11 2 rfl rfl ?_
      refine g_bipush (pc := 12) (v := 12) dX8_mid_12 (by decide) ?_
      refine g_icmp_le (pc := 14) (tgt := 19) dX8_mid_14 (by decide) (fun c_14 => ?_) (fun c_14 => ?_)
      · have k_14 := Int32.not_lt.mpr c_14
        exact absurd ⟨c_4, c_8, c_14⟩ h
      · have k_14 := Int32.not_le.mp c_14
        refine g_iconst (pc := 17) (v := -1) dX8_mid_17 (by decide) ?_
        exact g_iret (pc := 18) hM rfl rfl ⟨rfl, rfl⟩ dX8_mid_18
set_option maxRecDepth 100000 in
set_option maxHeartbeats 4000000 in
theorem c_X8_mid_st (E : En) (S : St) (p q : Int32) (hz : okB S 30) (g1 : placeF p = true) (g2 : ¬ q < 0) (g3 : q ≤ 12) (h : ¬ (¬ gI S 30 6 = 0)) : CTe E i_X8_mid S [.ref (eA E 0), .int p, .int q] S (some (.int (-4))) := by
  refine ct_of [(0, .ref (eA E 0)), (1, .int p), (2, .int q)] (by decide +kernel) (Nat.le_of_ble_eq_true rfl) rfl (fun X hM => ?_)
  refine g_iload_n (pc := 0) dX8_mid_0 1 rfl rfl ?_
  refine g_invS (pc := 1) j_X8_isPlace mw_X8_181 dX8_mid_1 (by rfl) (c_X8_isPlace E S p ) (Nat.le_of_ble_eq_true rfl) (Nat.le_of_ble_eq_true rfl) (by rfl) (Nat.le_of_ble_eq_true rfl) ?_
  refine g_b_eq (pc := 4) (tgt := 17) dX8_mid_4 (by decide) (fun c_4 => ?_) (fun c_4 => ?_)
  · exact absurd (g1.symm.trans c_4) (by decide)
  · refine g_iload_n (pc := 7) dX8_mid_7 2 rfl rfl ?_
    refine g_if_lt (pc := 8) (tgt := 17) dX8_mid_8 (by decide) (fun c_8 => ?_) (fun c_8 => ?_)
    · have k_8 := Int32.not_le.mpr c_8
      (first | exact absurd g2 c_8 | exact absurd c_8 g2)
    · have k_8 := Int32.not_lt.mp c_8
      refine g_iload_n (pc := 11) dX8_mid_11 2 rfl rfl ?_
      refine g_bipush (pc := 12) (v := 12) dX8_mid_12 (by decide) ?_
      refine g_icmp_le (pc := 14) (tgt := 19) dX8_mid_14 (by decide) (fun c_14 => ?_) (fun c_14 => ?_)
      · have k_14 := Int32.not_lt.mpr c_14
        refine g_aload_n (pc := 19) dX8_mid_19 0 rfl rfl ?_
        refine gf_X8_21 (pc := 20) rfl dX8_mid_20 ?_
        refine g_invV (pc := 23) j_X0_size mw_X8_133 dX8_mid_23 (rcv_X0 rfl) (by rfl) (c_X0_size E S 30 rfl) (Nat.le_of_ble_eq_true rfl) (Nat.le_of_ble_eq_true rfl) (by rfl) (Nat.le_of_ble_eq_true rfl) ?_
        refine g_if_ne (pc := 26) (tgt := 32) dX8_mid_26 (by decide) (fun c_26 => ?_) (fun c_26 => ?_)
        · exact absurd c_26 h
        · refine g_bipush (pc := 29) (v := -4) dX8_mid_29 (by decide) ?_
          exact g_iret (pc := 31) hM rfl rfl ⟨rfl, rfl⟩ dX8_mid_31
      · have k_14 := Int32.not_le.mp c_14
        (first | exact absurd g3 c_14 | exact absurd c_14 g3)
set_option maxRecDepth 100000 in
set_option maxHeartbeats 4000000 in
theorem c_X8_mid_ok (E : En) (S : St) (p q : Int32) (hz : okB S 30) (hg : 0 < gdF ((briF S 30 p (gI S 30 8)).toInt64 * (12 - q).toInt64) 12) (g1 : placeF p = true) (g2 : ¬ q < 0) (g3 : q ≤ 12) (g4 : ¬ gI S 30 6 = 0) : CTe E i_X8_mid S [.ref (eA E 0), .int p, .int q] (lwS S ((briF S 30 p (gI S 30 8)).toInt64 * (12 - q).toInt64) 12) (some (.int 1)) := by
  refine ct_of [(0, .ref (eA E 0)), (1, .int p), (2, .int q)] (by decide +kernel) (Nat.le_of_ble_eq_true rfl) rfl (fun X hM => ?_)
  refine g_iload_n (pc := 0) dX8_mid_0 1 rfl rfl ?_
  refine g_invS (pc := 1) j_X8_isPlace mw_X8_181 dX8_mid_1 (by rfl) (c_X8_isPlace E S p ) (Nat.le_of_ble_eq_true rfl) (Nat.le_of_ble_eq_true rfl) (by rfl) (Nat.le_of_ble_eq_true rfl) ?_
  refine g_b_eq (pc := 4) (tgt := 17) dX8_mid_4 (by decide) (fun c_4 => ?_) (fun c_4 => ?_)
  · exact absurd (g1.symm.trans c_4) (by decide)
  · refine g_iload_n (pc := 7) dX8_mid_7 2 rfl rfl ?_
    refine g_if_lt (pc := 8) (tgt := 17) dX8_mid_8 (by decide) (fun c_8 => ?_) (fun c_8 => ?_)
    · have k_8 := Int32.not_le.mpr c_8
      (first | exact absurd g2 c_8 | exact absurd c_8 g2)
    · have k_8 := Int32.not_lt.mp c_8
      refine g_iload_n (pc := 11) dX8_mid_11 2 rfl rfl ?_
      refine g_bipush (pc := 12) (v := 12) dX8_mid_12 (by decide) ?_
      refine g_icmp_le (pc := 14) (tgt := 19) dX8_mid_14 (by decide) (fun c_14 => ?_) (fun c_14 => ?_)
      · have k_14 := Int32.not_lt.mpr c_14
        refine g_aload_n (pc := 19) dX8_mid_19 0 rfl rfl ?_
        refine gf_X8_21 (pc := 20) rfl dX8_mid_20 ?_
        refine g_invV (pc := 23) j_X0_size mw_X8_133 dX8_mid_23 (rcv_X0 rfl) (by rfl) (c_X0_size E S 30 rfl) (Nat.le_of_ble_eq_true rfl) (Nat.le_of_ble_eq_true rfl) (by rfl) (Nat.le_of_ble_eq_true rfl) ?_
        refine g_if_ne (pc := 26) (tgt := 32) dX8_mid_26 (by decide) (fun c_26 => ?_) (fun c_26 => ?_)
        · refine g_aload_n (pc := 32) dX8_mid_32 0 rfl rfl ?_
          refine gf_X8_21 (pc := 33) rfl dX8_mid_33 ?_
          refine g_iload_n (pc := 36) dX8_mid_36 1 rfl rfl ?_
          refine g_aload_n (pc := 37) dX8_mid_37 0 rfl rfl ?_
          refine gf_X8_21 (pc := 38) rfl dX8_mid_38 ?_
          refine g_invV (pc := 41) j_X0_thisNight mw_X8_153 dX8_mid_41 (rcv_X0 rfl) (by rfl) (c_X0_thisNight E S 30 rfl) (Nat.le_of_ble_eq_true rfl) (Nat.le_of_ble_eq_true rfl) (by rfl) (Nat.le_of_ble_eq_true rfl) ?_
          refine g_invV (pc := 44) j_X0_brightAt mw_X8_197 dX8_mid_44 (rcv_X0 rfl) (by rfl) (c_X0_brightAt E S 30 p (gI S 30 8) rfl (by first | assumption | omega | rfl)) (Nat.le_of_ble_eq_true rfl) (Nat.le_of_ble_eq_true rfl) (by rfl) (Nat.le_of_ble_eq_true rfl) ?_
          refine g_i2l (pc := 47) dX8_mid_47 ?_
          refine g_lstore_n (pc := 48) (L' := [(3, .long ((briF S 30 p (gI S 30 8)).toInt64)), (0, .ref (eA E 0)), (1, .int p), (2, .int q)]) dX8_mid_48 rfl (Nat.le_of_ble_eq_true rfl) rfl ?_
          refine g_aload_n (pc := 49) dX8_mid_49 1 rfl rfl ?_
          refine g_lload_n (pc := 50) dX8_mid_50 0 rfl rfl ?_
          refine g_bipush (pc := 51) (v := 12) dX8_mid_51 (by decide) ?_
          refine g_iload_n (pc := 53) dX8_mid_53 3 rfl rfl ?_
          refine g_isub (pc := 54) dX8_mid_54 ?_
          refine g_i2l (pc := 55) dX8_mid_55 ?_
          refine g_lmul (pc := 56) dX8_mid_56 ?_
          refine g_ldc2 (pc := 57) kw_X8_298 dX8_mid_57 ?_
          refine g_invN (pc := 60) j_X8_tellInLowestTerms mw_X8_294 dX8_mid_60 (rcv_X8) (by rfl) (c_X8_tellInLowestTerms E S ((briF S 30 p (gI S 30 8)).toInt64 * (12 - q).toInt64) 12 hg) (Nat.le_of_ble_eq_true rfl) (Nat.le_of_ble_eq_true rfl) (by rfl) (Nat.le_of_ble_eq_true rfl) ?_
          refine g_iconst (pc := 63) (v := 1) dX8_mid_63 (by decide) ?_
          exact g_iret (pc := 64) hM rfl rfl ⟨rfl, rfl⟩ dX8_mid_64
        · (first | exact absurd g4 c_26 | exact absurd c_26 g4)
      · have k_14 := Int32.not_le.mp c_14
        (first | exact absurd g3 c_14 | exact absurd c_14 g3)
set_option maxRecDepth 100000 in
set_option maxHeartbeats 4000000 in
theorem c_X8_lots_bad (E : En) (S : St) (n s : Int32) (hz : okB S 30) (h : ¬ (¬ n < 1 ∧ ¬ 20 < n ∧ ¬ s < 1 ∧ s ≤ 2147483646)) : CTe E i_X8_lots S [.ref (eA E 0), .int n, .int s] S (some (.int (-1))) := by
  refine ct_of [(0, .ref (eA E 0)), (1, .int n), (2, .int s)] (by decide +kernel) (Nat.le_of_ble_eq_true rfl) rfl (fun X hM => ?_)
  refine g_iload_n (pc := 0) dX8_lots_0 1 rfl rfl ?_
  refine g_iconst (pc := 1) (v := 1) dX8_lots_1 (by decide) ?_
  refine g_icmp_lt (pc := 2) (tgt := 23) dX8_lots_2 (by decide) (fun c_2 => ?_) (fun c_2 => ?_)
  · have k_2 := Int32.not_le.mpr c_2
    refine g_iconst (pc := 23) (v := -1) dX8_lots_23 (by decide) ?_
    exact g_iret (pc := 24) hM rfl rfl ⟨rfl, rfl⟩ dX8_lots_24
  · have k_2 := Int32.not_lt.mp c_2
    refine g_iload_n (pc := 5) dX8_lots_5 1 rfl rfl ?_
    refine g_bipush (pc := 6) (v := 20) dX8_lots_6 (by decide) ?_
    refine g_icmp_gt (pc := 8) (tgt := 23) dX8_lots_8 (by decide) (fun c_8 => ?_) (fun c_8 => ?_)
    · have k_8 := Int32.not_le.mpr c_8
      refine g_iconst (pc := 23) (v := -1) dX8_lots_23 (by decide) ?_
      exact g_iret (pc := 24) hM rfl rfl ⟨rfl, rfl⟩ dX8_lots_24
    · have k_8 := Int32.not_lt.mp c_8
      refine g_iload_n (pc := 11) dX8_lots_11 2 rfl rfl ?_
      refine g_iconst (pc := 12) (v := 1) dX8_lots_12 (by decide) ?_
      refine g_icmp_lt (pc := 13) (tgt := 23) dX8_lots_13 (by decide) (fun c_13 => ?_) (fun c_13 => ?_)
      · have k_13 := Int32.not_le.mpr c_13
        refine g_iconst (pc := 23) (v := -1) dX8_lots_23 (by decide) ?_
        exact g_iret (pc := 24) hM rfl rfl ⟨rfl, rfl⟩ dX8_lots_24
      · have k_13 := Int32.not_lt.mp c_13
        refine g_iload_n (pc := 16) dX8_lots_16 2 rfl rfl ?_
        refine g_ldcw (pc := 17) kw_X8_300 dX8_lots_17 ?_
        refine g_icmp_le (pc := 20) (tgt := 25) dX8_lots_20 (by decide) (fun c_20 => ?_) (fun c_20 => ?_)
        · have k_20 := Int32.not_lt.mpr c_20
          exact absurd ⟨c_2, c_8, c_13, c_20⟩ h
        · have k_20 := Int32.not_le.mp c_20
          refine g_iconst (pc := 23) (v := -1) dX8_lots_23 (by decide) ?_
          exact g_iret (pc := 24) hM rfl rfl ⟨rfl, rfl⟩ dX8_lots_24
set_option maxRecDepth 100000 in
set_option maxHeartbeats 4000000 in
theorem c_X8_lots_st (E : En) (S : St) (n s : Int32) (hz : okB S 30) (g1 : ¬ n < 1) (g2 : ¬ 20 < n) (g3 : ¬ s < 1) (g4 : s ≤ 2147483646) (h : ¬ (¬ gI S 30 6 = 0)) : CTe E i_X8_lots S [.ref (eA E 0), .int n, .int s] S (some (.int (-4))) := by
  refine ct_of [(0, .ref (eA E 0)), (1, .int n), (2, .int s)] (by decide +kernel) (Nat.le_of_ble_eq_true rfl) rfl (fun X hM => ?_)
  refine g_iload_n (pc := 0) dX8_lots_0 1 rfl rfl ?_
  refine g_iconst (pc := 1) (v := 1) dX8_lots_1 (by decide) ?_
  refine g_icmp_lt (pc := 2) (tgt := 23) dX8_lots_2 (by decide) (fun c_2 => ?_) (fun c_2 => ?_)
  · have k_2 := Int32.not_le.mpr c_2
    (first | exact absurd g1 c_2 | exact absurd c_2 g1)
  · have k_2 := Int32.not_lt.mp c_2
    refine g_iload_n (pc := 5) dX8_lots_5 1 rfl rfl ?_
    refine g_bipush (pc := 6) (v := 20) dX8_lots_6 (by decide) ?_
    refine g_icmp_gt (pc := 8) (tgt := 23) dX8_lots_8 (by decide) (fun c_8 => ?_) (fun c_8 => ?_)
    · have k_8 := Int32.not_le.mpr c_8
      (first | exact absurd g2 c_8 | exact absurd c_8 g2)
    · have k_8 := Int32.not_lt.mp c_8
      refine g_iload_n (pc := 11) dX8_lots_11 2 rfl rfl ?_
      refine g_iconst (pc := 12) (v := 1) dX8_lots_12 (by decide) ?_
      refine g_icmp_lt (pc := 13) (tgt := 23) dX8_lots_13 (by decide) (fun c_13 => ?_) (fun c_13 => ?_)
      · have k_13 := Int32.not_le.mpr c_13
        (first | exact absurd g3 c_13 | exact absurd c_13 g3)
      · have k_13 := Int32.not_lt.mp c_13
        refine g_iload_n (pc := 16) dX8_lots_16 2 rfl rfl ?_
        refine g_ldcw (pc := 17) kw_X8_300 dX8_lots_17 ?_
        refine g_icmp_le (pc := 20) (tgt := 25) dX8_lots_20 (by decide) (fun c_20 => ?_) (fun c_20 => ?_)
        · have k_20 := Int32.not_lt.mpr c_20
          refine g_aload_n (pc := 25) dX8_lots_25 0 rfl rfl ?_
          refine gf_X8_21 (pc := 26) rfl dX8_lots_26 ?_
          refine g_invV (pc := 29) j_X0_size mw_X8_133 dX8_lots_29 (rcv_X0 rfl) (by rfl) (c_X0_size E S 30 rfl) (Nat.le_of_ble_eq_true rfl) (Nat.le_of_ble_eq_true rfl) (by rfl) (Nat.le_of_ble_eq_true rfl) ?_
          refine g_if_ne (pc := 32) (tgt := 38) dX8_lots_32 (by decide) (fun c_32 => ?_) (fun c_32 => ?_)
          · exact absurd c_32 h
          · refine g_bipush (pc := 35) (v := -4) dX8_lots_35 (by decide) ?_
            exact g_iret (pc := 37) hM rfl rfl ⟨rfl, rfl⟩ dX8_lots_37
        · have k_20 := Int32.not_le.mp c_20
          (first | exact absurd g4 c_20 | exact absurd c_20 g4)
set_option maxRecDepth 100000 in
set_option maxHeartbeats 4000000 in
theorem c_X8_lots_fu (E : En) (S : St) (n s : Int32) (hz : okB S 30) (g1 : ¬ n < 1) (g2 : ¬ 20 < n) (g3 : ¬ s < 1) (g4 : s ≤ 2147483646) (g5 : ¬ gI S 30 6 = 0) (h : ¬ (gI S 30 9 + n ≤ 40)) : CTe E i_X8_lots S [.ref (eA E 0), .int n, .int s] S (some (.int (-2))) := by
  refine ct_of [(0, .ref (eA E 0)), (1, .int n), (2, .int s)] (by decide +kernel) (Nat.le_of_ble_eq_true rfl) rfl (fun X hM => ?_)
  refine g_iload_n (pc := 0) dX8_lots_0 1 rfl rfl ?_
  refine g_iconst (pc := 1) (v := 1) dX8_lots_1 (by decide) ?_
  refine g_icmp_lt (pc := 2) (tgt := 23) dX8_lots_2 (by decide) (fun c_2 => ?_) (fun c_2 => ?_)
  · have k_2 := Int32.not_le.mpr c_2
    (first | exact absurd g1 c_2 | exact absurd c_2 g1)
  · have k_2 := Int32.not_lt.mp c_2
    refine g_iload_n (pc := 5) dX8_lots_5 1 rfl rfl ?_
    refine g_bipush (pc := 6) (v := 20) dX8_lots_6 (by decide) ?_
    refine g_icmp_gt (pc := 8) (tgt := 23) dX8_lots_8 (by decide) (fun c_8 => ?_) (fun c_8 => ?_)
    · have k_8 := Int32.not_le.mpr c_8
      (first | exact absurd g2 c_8 | exact absurd c_8 g2)
    · have k_8 := Int32.not_lt.mp c_8
      refine g_iload_n (pc := 11) dX8_lots_11 2 rfl rfl ?_
      refine g_iconst (pc := 12) (v := 1) dX8_lots_12 (by decide) ?_
      refine g_icmp_lt (pc := 13) (tgt := 23) dX8_lots_13 (by decide) (fun c_13 => ?_) (fun c_13 => ?_)
      · have k_13 := Int32.not_le.mpr c_13
        (first | exact absurd g3 c_13 | exact absurd c_13 g3)
      · have k_13 := Int32.not_lt.mp c_13
        refine g_iload_n (pc := 16) dX8_lots_16 2 rfl rfl ?_
        refine g_ldcw (pc := 17) kw_X8_300 dX8_lots_17 ?_
        refine g_icmp_le (pc := 20) (tgt := 25) dX8_lots_20 (by decide) (fun c_20 => ?_) (fun c_20 => ?_)
        · have k_20 := Int32.not_lt.mpr c_20
          refine g_aload_n (pc := 25) dX8_lots_25 0 rfl rfl ?_
          refine gf_X8_21 (pc := 26) rfl dX8_lots_26 ?_
          refine g_invV (pc := 29) j_X0_size mw_X8_133 dX8_lots_29 (rcv_X0 rfl) (by rfl) (c_X0_size E S 30 rfl) (Nat.le_of_ble_eq_true rfl) (Nat.le_of_ble_eq_true rfl) (by rfl) (Nat.le_of_ble_eq_true rfl) ?_
          refine g_if_ne (pc := 32) (tgt := 38) dX8_lots_32 (by decide) (fun c_32 => ?_) (fun c_32 => ?_)
          · refine g_aload_n (pc := 38) dX8_lots_38 0 rfl rfl ?_
            refine gf_X8_21 (pc := 39) rfl dX8_lots_39 ?_
            refine g_invV (pc := 42) j_X0_deedsDone mw_X8_163 dX8_lots_42 (rcv_X0 rfl) (by rfl) (c_X0_deedsDone E S 30 rfl) (Nat.le_of_ble_eq_true rfl) (Nat.le_of_ble_eq_true rfl) (by rfl) (Nat.le_of_ble_eq_true rfl) ?_
            refine g_iload_n (pc := 45) dX8_lots_45 1 rfl rfl ?_
            refine g_iadd (pc := 46) dX8_lots_46 ?_
            refine g_bipush (pc := 47) (v := 40) dX8_lots_47 (by decide) ?_
            refine g_icmp_le (pc := 49) (tgt := 55) dX8_lots_49 (by decide) (fun c_49 => ?_) (fun c_49 => ?_)
            · have k_49 := Int32.not_lt.mpr c_49
              exact absurd c_49 h
            · have k_49 := Int32.not_le.mp c_49
              refine g_bipush (pc := 52) (v := -2) dX8_lots_52 (by decide) ?_
              exact g_iret (pc := 54) hM rfl rfl ⟨rfl, rfl⟩ dX8_lots_54
          · (first | exact absurd g5 c_32 | exact absurd c_32 g5)
        · have k_20 := Int32.not_le.mp c_20
          (first | exact absurd g4 c_20 | exact absurd c_20 g4)
set_option maxRecDepth 100000 in
set_option maxHeartbeats 4000000 in
theorem c_X8_lots_ok (E : En) (S : St) (w : Nat) (s : Int32) (hz : okB S 30) (hd : okD S 30) (hw : w ≤ 20) (g1 : ¬ nI w < 1) (g2 : ¬ 20 < nI w) (g3 : ¬ s < 1) (g4 : s ≤ 2147483646) (g5 : ¬ gI S 30 6 = 0) (g6 : gI S 30 9 + nI w ≤ 40) : CTe E i_X8_lots S [.ref (eA E 0), .int (nI w), .int s] ((ltR S s w).1) (some (.int (lgF (ltR S s w).1 30))) := by
  refine ct_of [(0, .ref (eA E 0)), (1, .int (nI w)), (2, .int s)] (by decide +kernel) (Nat.le_of_ble_eq_true rfl) rfl (fun X hM => ?_)
  refine g_iload_n (pc := 0) dX8_lots_0 1 rfl rfl ?_
  refine g_iconst (pc := 1) (v := 1) dX8_lots_1 (by decide) ?_
  refine g_icmp_lt (pc := 2) (tgt := 23) dX8_lots_2 (by decide) (fun c_2 => ?_) (fun c_2 => ?_)
  · have k_2 := Int32.not_le.mpr c_2
    exact absurd c_2 g1
  · have k_2 := Int32.not_lt.mp c_2
    refine g_iload_n (pc := 5) dX8_lots_5 1 rfl rfl ?_
    refine g_bipush (pc := 6) (v := 20) dX8_lots_6 (by decide) ?_
    refine g_icmp_gt (pc := 8) (tgt := 23) dX8_lots_8 (by decide) (fun c_8 => ?_) (fun c_8 => ?_)
    · have k_8 := Int32.not_le.mpr c_8
      exact absurd c_8 g2
    · have k_8 := Int32.not_lt.mp c_8
      refine g_iload_n (pc := 11) dX8_lots_11 2 rfl rfl ?_
      refine g_iconst (pc := 12) (v := 1) dX8_lots_12 (by decide) ?_
      refine g_icmp_lt (pc := 13) (tgt := 23) dX8_lots_13 (by decide) (fun c_13 => ?_) (fun c_13 => ?_)
      · have k_13 := Int32.not_le.mpr c_13
        exact absurd c_13 g3
      · have k_13 := Int32.not_lt.mp c_13
        refine g_iload_n (pc := 16) dX8_lots_16 2 rfl rfl ?_
        refine g_ldcw (pc := 17) kw_X8_300 dX8_lots_17 ?_
        refine g_icmp_le (pc := 20) (tgt := 25) dX8_lots_20 (by decide) (fun c_20 => ?_) (fun c_20 => ?_)
        · have k_20 := Int32.not_lt.mpr c_20
          refine g_aload_n (pc := 25) dX8_lots_25 0 rfl rfl ?_
          refine gf_X8_21 (pc := 26) rfl dX8_lots_26 ?_
          refine g_invV (pc := 29) j_X0_size mw_X8_133 dX8_lots_29 (rcv_X0 rfl) (by rfl) (c_X0_size E S 30 rfl) (Nat.le_of_ble_eq_true rfl) (Nat.le_of_ble_eq_true rfl) (by rfl) (Nat.le_of_ble_eq_true rfl) ?_
          refine g_if_ne (pc := 32) (tgt := 38) dX8_lots_32 (by decide) (fun c_32 => ?_) (fun c_32 => ?_)
          · refine g_aload_n (pc := 38) dX8_lots_38 0 rfl rfl ?_
            refine gf_X8_21 (pc := 39) rfl dX8_lots_39 ?_
            refine g_invV (pc := 42) j_X0_deedsDone mw_X8_163 dX8_lots_42 (rcv_X0 rfl) (by rfl) (c_X0_deedsDone E S 30 rfl) (Nat.le_of_ble_eq_true rfl) (Nat.le_of_ble_eq_true rfl) (by rfl) (Nat.le_of_ble_eq_true rfl) ?_
            refine g_iload_n (pc := 45) dX8_lots_45 1 rfl rfl ?_
            refine g_iadd (pc := 46) dX8_lots_46 ?_
            refine g_bipush (pc := 47) (v := 40) dX8_lots_47 (by decide) ?_
            refine g_icmp_le (pc := 49) (tgt := 55) dX8_lots_49 (by decide) (fun c_49 => ?_) (fun c_49 => ?_)
            · have k_49 := Int32.not_lt.mpr c_49
              refine g_iload_n (pc := 55) dX8_lots_55 2 rfl rfl ?_
              refine g_i2l (pc := 56) dX8_lots_56 ?_
              refine g_lstore_n (pc := 57) (L' := [(3, .long s.toInt64), (0, .ref (eA E 0)), (1, .int (nI w)), (2, .int s)]) dX8_lots_57 rfl (Nat.le_of_ble_eq_true rfl) rfl ?_
              refine g_iconst (pc := 58) (v := 0) dX8_lots_58 (by decide) ?_
              refine g_istore (pc := 59) (L' := [(5, .int 0), (3, .long s.toInt64), (0, .ref (eA E 0)), (1, .int (nI w)), (2, .int s)]) dX8_lots_59 (Nat.le_of_ble_eq_true rfl) rfl ?_
              have H_61 : ∀ i : Nat, i ≤ w → G E X i_X8_lots ((ltR S s i).1) 61 [(0, .ref (eA E 0)), (1, .int (nI w)), (2, .int s), (3, .long ((ltR S s i).2)), (5, .int (nI i))] [] := by
                refine dn_ind w (fun i hn_61 ih_61 => ?_)
                refine g_iload (pc := 61) dX8_lots_61 4 rfl ?_
                refine g_iload_n (pc := 63) dX8_lots_63 1 rfl rfl ?_
                refine g_icmp_ge (pc := 64) (tgt := 91) dX8_lots_64 (by decide) (fun c_64 => ?_) (fun c_64 => ?_)
                · have k_64 := Int32.not_lt.mpr c_64
                  have he_61 : i = w := Nat.le_antisymm hn_61 (by exact nle_of (N := w) rfl rfl (by omega) (by omega) c_64)
                  rw [he_61]
                  refine g_aload_n (pc := 91) dX8_lots_91 0 rfl rfl ?_
                  refine gf_X8_21 (pc := 92) rfl dX8_lots_92 ?_
                  refine g_invV (pc := 95) j_X0_litGlow mw_X8_169 dX8_lots_95 (rcv_X0 rfl) (by rfl) (c_X0_litGlow E ((ltR S s w).1) 30 rfl (ltR_ok hz hd s w).1) (Nat.le_of_ble_eq_true rfl) (Nat.le_of_ble_eq_true rfl) (by rfl) (Nat.le_of_ble_eq_true rfl) ?_
                  exact g_iret (pc := 98) hM rfl rfl ⟨rfl, rfl⟩ dX8_lots_98
                · have k_64 := Int32.not_le.mp c_64
                  have hlt_61 : i < w := by exact nlt_of (N := w) rfl rfl (by omega) (by omega) c_64
                  refine g_lload_n (pc := 67) dX8_lots_67 3 rfl rfl ?_
                  refine g_ldc2 (pc := 68) kw_X8_301 dX8_lots_68 ?_
                  refine g_lmul (pc := 71) dX8_lots_71 ?_
                  refine g_ldc2 (pc := 72) kw_X8_303 dX8_lots_72 ?_
                  refine g_lrem (pc := 75) dX8_lots_75 (by decide) ?_
                  refine g_lstore_n (pc := 76) (L' := [(3, .long (((ltR S s i).2 * 48271) - ((ltR S s i).2 * 48271) / 2147483647 * 2147483647)), (0, .ref (eA E 0)), (1, .int (nI w)), (2, .int s), (5, .int (nI i))]) dX8_lots_76 rfl (Nat.le_of_ble_eq_true rfl) rfl ?_
                  refine g_aload_n (pc := 77) dX8_lots_77 1 rfl rfl ?_
                  refine gf_X8_21 (pc := 78) rfl dX8_lots_78 ?_
                  refine g_lload_n (pc := 81) dX8_lots_81 0 rfl rfl ?_
                  refine g_invN (pc := 82) j_X0_doByLot mw_X8_305 dX8_lots_82 (rcv_X0 rfl) (by rfl) (c_X0_doByLot E ((ltR S s i).1) 30 (((ltR S s i).2 * 48271) - ((ltR S s i).2 * 48271) / 2147483647 * 2147483647) rfl (ltR_ok hz hd s i).1 (ltR_ok hz hd s i).2) (Nat.le_of_ble_eq_true rfl) (Nat.le_of_ble_eq_true rfl) (by rfl) (Nat.le_of_ble_eq_true rfl) ?_
                  refine g_iinc (pc := 85) (L' := [(5, .int (nI i + 1)), (3, .long (((ltR S s i).2 * 48271) - ((ltR S s i).2 * 48271) / 2147483647 * 2147483647)), (0, .ref (eA E 0)), (1, .int (nI w)), (2, .int s)]) dX8_lots_85 (k := 4) rfl (v := nI i + 1) rfl (Nat.le_of_ble_eq_true rfl) rfl ?_
                  refine g_goto (pc := 88) (tgt := 61) dX8_lots_88 (by decide) ?_
                  refine g_sub (L' := [(0, .ref (eA E 0)), (1, .int (nI w)), (2, .int s), (3, .long (((ltR S s i).2 * 48271) - ((ltR S s i).2 * 48271) / 2147483647 * 2147483647)), (5, .int (nI i + 1))]) [2, 3, 4, 1, 0] rfl ?_
                  exact g_eq rfl (by rw [nI_1]; rfl) rfl (ih_61 hlt_61)
              refine g_sub (L' := [(0, .ref (eA E 0)), (1, .int (nI w)), (2, .int s), (3, .long s.toInt64), (5, .int 0)]) [2, 3, 4, 1, 0] rfl ?_
              exact g_eq rfl rfl rfl (H_61 0 (Nat.zero_le _))
            · have k_49 := Int32.not_le.mp c_49
              exact absurd g6 c_49
          · exact absurd c_32 g5
        · have k_20 := Int32.not_le.mp c_20
          exact absurd g4 c_20
set_option maxRecDepth 100000 in
set_option maxHeartbeats 4000000 in
theorem c_X8_asked (E : En) (S : St)  : CTe E i_X8_asked S [.ref (eA E 0)] S (some (.int (gI S 0 8))) := by
  refine ct_of [(0, .ref (eA E 0))] (by decide +kernel) (Nat.le_of_ble_eq_true rfl) rfl (fun X hM => ?_)
  refine g_aload_n (pc := 0) dX8_asked_0 0 rfl rfl ?_
  refine gf_X8_51 (pc := 1) rfl dX8_asked_1 ?_
  exact g_iret (pc := 4) hM rfl rfl ⟨rfl, rfl⟩ dX8_asked_4
set_option maxRecDepth 100000 in
set_option maxHeartbeats 4000000 in
theorem c_X8_upper (E : En) (S : St)  : CTe E i_X8_upper S [.ref (eA E 0)] S (some (.long (gL S 0 9))) := by
  refine ct_of [(0, .ref (eA E 0))] (by decide +kernel) (Nat.le_of_ble_eq_true rfl) rfl (fun X hM => ?_)
  refine g_aload_n (pc := 0) dX8_upper_0 0 rfl rfl ?_
  refine gf_X8_54 (pc := 1) rfl dX8_upper_1 ?_
  exact g_lret (pc := 4) hM rfl ⟨rfl, rfl⟩ dX8_upper_4
set_option maxRecDepth 100000 in
set_option maxHeartbeats 4000000 in
theorem c_X8_lower (E : En) (S : St)  : CTe E i_X8_lower S [.ref (eA E 0)] S (some (.long (gL S 0 10))) := by
  refine ct_of [(0, .ref (eA E 0))] (by decide +kernel) (Nat.le_of_ble_eq_true rfl) rfl (fun X hM => ?_)
  refine g_aload_n (pc := 0) dX8_lower_0 0 rfl rfl ?_
  refine gf_X8_58 (pc := 1) rfl dX8_lower_1 ?_
  exact g_lret (pc := 4) hM rfl ⟨rfl, rfl⟩ dX8_lower_4
set_option maxRecDepth 100000 in
set_option maxHeartbeats 4000000 in
theorem c_X8_finding (E : En) (S : St)  : CTe E i_X8_finding S [.ref (eA E 0)] S (some (.int (gI S 0 7))) := by
  refine ct_of [(0, .ref (eA E 0))] (by decide +kernel) (Nat.le_of_ble_eq_true rfl) rfl (fun X hM => ?_)
  refine g_aload_n (pc := 0) dX8_finding_0 0 rfl rfl ?_
  refine gf_X8_47 (pc := 1) rfl dX8_finding_1 ?_
  exact g_iret (pc := 4) hM rfl rfl ⟨rfl, rfl⟩ dX8_finding_4
set_option maxRecDepth 100000 in
set_option maxHeartbeats 4000000 in
theorem c_X8_findings_bad (E : En) (S : St) (f : Int32)  (h : ¬ (¬ f < 1 ∧ ¬ 6 ≤ f)) : CTe E i_X8_findings S [.ref (eA E 0), .int f] S (some (.int (-1))) := by
  refine ct_of [(0, .ref (eA E 0)), (1, .int f)] (by decide +kernel) (Nat.le_of_ble_eq_true rfl) rfl (fun X hM => ?_)
  refine g_iload_n (pc := 0) dX8_findings_0 1 rfl rfl ?_
  refine g_iconst (pc := 1) (v := 1) dX8_findings_1 (by decide) ?_
  refine g_icmp_lt (pc := 2) (tgt := 23) dX8_findings_2 (by decide) (fun c_2 => ?_) (fun c_2 => ?_)
  · have k_2 := Int32.not_le.mpr c_2
    refine g_iconst (pc := 23) (v := -1) dX8_findings_23 (by decide) ?_
    exact g_iret (pc := 24) hM rfl rfl ⟨rfl, rfl⟩ dX8_findings_24
  · have k_2 := Int32.not_lt.mp c_2
    refine g_iload_n (pc := 5) dX8_findings_5 1 rfl rfl ?_
    refine g_aload_n (pc := 6) dX8_findings_6 0 rfl rfl ?_
    refine gf_X8_43 (pc := 7) rfl dX8_findings_7 ?_
    refine g_alen (pc := 10) (v := 6) rfl rfl dX8_findings_10 ?_
    refine g_icmp_ge (pc := 11) (tgt := 23) dX8_findings_11 (by decide) (fun c_11 => ?_) (fun c_11 => ?_)
    · have k_11 := Int32.not_lt.mpr c_11
      refine g_iconst (pc := 23) (v := -1) dX8_findings_23 (by decide) ?_
      exact g_iret (pc := 24) hM rfl rfl ⟨rfl, rfl⟩ dX8_findings_24
    · have k_11 := Int32.not_le.mp c_11
      exact absurd ⟨c_2, c_11⟩ h
set_option maxRecDepth 100000 in
set_option maxHeartbeats 4000000 in
theorem c_X8_findings_ok (E : En) (S : St) (j : Nat) (h1 : 1 ≤ j) (h6 : j < 6) : CTe E i_X8_findings S [.ref (eA E 0), .int (nI j)] S (some (.int (gA S 4 j))) := by
  refine ct_of [(0, .ref (eA E 0)), (1, .int (nI j))] (by decide +kernel) (Nat.le_of_ble_eq_true rfl) rfl (fun X hM => ?_)
  refine g_iload_n (pc := 0) dX8_findings_0 1 rfl rfl ?_
  refine g_iconst (pc := 1) (v := 1) dX8_findings_1 (by decide) ?_
  refine g_icmp_lt (pc := 2) (tgt := 23) dX8_findings_2 (by decide) (fun c_2 => ?_) (fun c_2 => ?_)
  · have k_2 := Int32.not_le.mpr c_2
    exact absurd c_2 (nI_nlt (a := j) (b := 1) h1 (by omega))
  · have k_2 := Int32.not_lt.mp c_2
    refine g_iload_n (pc := 5) dX8_findings_5 1 rfl rfl ?_
    refine g_aload_n (pc := 6) dX8_findings_6 0 rfl rfl ?_
    refine gf_X8_43 (pc := 7) rfl dX8_findings_7 ?_
    refine g_alen (pc := 10) (v := 6) rfl rfl dX8_findings_10 ?_
    refine g_icmp_ge (pc := 11) (tgt := 23) dX8_findings_11 (by decide) (fun c_11 => ?_) (fun c_11 => ?_)
    · have k_11 := Int32.not_lt.mpr c_11
      exact absurd c_11 (nI_ge (a := j) (b := 6) h6 (by omega))
    · have k_11 := Int32.not_le.mp c_11
      refine g_aload_n (pc := 14) dX8_findings_14 0 rfl rfl ?_
      refine gf_X8_43 (pc := 15) rfl dX8_findings_15 ?_
      refine g_iload_n (pc := 18) dX8_findings_18 1 rfl rfl ?_
      refine g_iald (pc := 19) j rfl rfl (show j < 6 from h6) (by decide) dX8_findings_19 ?_
      refine g_goto (pc := 20) (tgt := 24) dX8_findings_20 (by decide) ?_
      exact g_iret (pc := 24) hM rfl rfl ⟨rfl, rfl⟩ dX8_findings_24
set_option maxRecDepth 100000 in
set_option maxHeartbeats 4000000 in
theorem c_X8_howManyThere_r (E : En) (S : St)  : CTe E i_X8_howManyThere S [.ref (eA E 1)] S (some (.int (thR S))) := by
  refine ct_of [(0, .ref (eA E 1))] (by decide +kernel) (Nat.le_of_ble_eq_true rfl) rfl (fun X hM => ?_)
  refine g_iconst (pc := 0) (v := 0) dX8_howManyThere_0 (by decide) ?_
  refine g_istore_n (pc := 1) (L' := [(1, .int 0), (0, .ref (eA E 1))]) dX8_howManyThere_1 rfl (Nat.le_of_ble_eq_true rfl) rfl ?_
  refine g_aload_n (pc := 2) dX8_howManyThere_2 1 rfl rfl ?_
  refine g_astore_n (pc := 3) (L' := [(2, .ref (eA E 1)), (1, .int 0), (0, .ref (eA E 1))]) dX8_howManyThere_3 rfl (Nat.le_of_ble_eq_true rfl) rfl ?_
  refine g_aload_n (pc := 4) dX8_howManyThere_4 0 rfl rfl ?_
  refine g_alenS (pc := 5) (v := 6) (by first | exact Or.inl rfl | exact Or.inr rfl) rfl dX8_howManyThere_5 ?_
  refine g_istore_n (pc := 6) (L' := [(3, .int 6), (2, .ref (eA E 1)), (1, .int 0), (0, .ref (eA E 1))]) dX8_howManyThere_6 rfl (Nat.le_of_ble_eq_true rfl) rfl ?_
  refine g_iconst (pc := 7) (v := 0) dX8_howManyThere_7 (by decide) ?_
  refine g_istore (pc := 8) (L' := [(4, .int 0), (3, .int 6), (2, .ref (eA E 1)), (1, .int 0), (0, .ref (eA E 1))]) dX8_howManyThere_8 (Nat.le_of_ble_eq_true rfl) rfl ?_
  have H_10 : ∀ n : Nat, n ≤ 6 → G E X i_X8_howManyThere S 10 [(1, .int (sumB (fun i => !misF S (10 + i)) (fun _ => 1) n)), (2, .ref (eA E 1)), (3, .int 6), (4, .int (nI n))] [] := by
    refine dn_ind 6 (fun n hn_10 ih_10 => ?_)
    refine g_iload (pc := 10) dX8_howManyThere_10 3 rfl ?_
    refine g_iload_n (pc := 12) dX8_howManyThere_12 2 rfl rfl ?_
    refine g_icmp_ge (pc := 13) (tgt := 44) dX8_howManyThere_13 (by decide) (fun c_13 => ?_) (fun c_13 => ?_)
    · have k_13 := Int32.not_lt.mpr c_13
      have he_10 : n = 6 := Nat.le_antisymm hn_10 (by exact nle_of (N := 6) rfl rfl (by omega) (by omega) c_13)
      rw [he_10]
      refine g_iload_n (pc := 44) dX8_howManyThere_44 0 rfl rfl ?_
      exact g_iret (pc := 45) hM rfl rfl ⟨rfl, rfl⟩ dX8_howManyThere_45
    · have k_13 := Int32.not_le.mp c_13
      have hlt_10 : n < 6 := by exact nlt_of (N := 6) rfl rfl (by omega) (by omega) c_13
      refine g_aload_n (pc := 16) dX8_howManyThere_16 1 rfl rfl ?_
      refine g_iload (pc := 17) dX8_howManyThere_17 3 rfl ?_
      refine g_aald1 (pc := 19) n rfl hlt_10 dX8_howManyThere_19 ?_
      refine g_astore (pc := 20) (L' := [(5, .ref (eA E (10 + n))), (1, .int (sumB (fun i => !misF S (10 + i)) (fun _ => 1) n)), (2, .ref (eA E 1)), (3, .int 6), (4, .int (nI n))]) dX8_howManyThere_20 (Nat.le_of_ble_eq_true rfl) rfl ?_
      refine g_aload (pc := 22) dX8_howManyThere_22 0 rfl ?_
      refine g_ifnull (pc := 24) dX8_howManyThere_24 ?_
      refine g_aload (pc := 27) dX8_howManyThere_27 0 rfl ?_
      refine g_invV (pc := 29) j_X5_isMissing mw_X8_94 dX8_howManyThere_29 (rcv_X5 (kd_r (by omega))) (by rfl) (c_X5_isMissing E S (10 + n) (kd_r (by omega))) (Nat.le_of_ble_eq_true rfl) (Nat.le_of_ble_eq_true rfl) (by rfl) (Nat.le_of_ble_eq_true rfl) ?_
      refine g_b_ne (pc := 32) (tgt := 38) dX8_howManyThere_32 (by decide) (fun c_32 => ?_) (fun c_32 => ?_)
      · refine g_iinc (pc := 38) (L' := [(4, .int (nI n + 1)), (5, .ref (eA E (10 + n))), (1, .int (sumB (fun i => !misF S (10 + i)) (fun _ => 1) n)), (2, .ref (eA E 1)), (3, .int 6)]) dX8_howManyThere_38 (k := 4) rfl (v := nI n + 1) rfl (Nat.le_of_ble_eq_true rfl) rfl ?_
        refine g_goto (pc := 41) (tgt := 10) dX8_howManyThere_41 (by decide) ?_
        refine g_sub (L' := [(1, .int (sumB (fun i => !misF S (10 + i)) (fun _ => 1) n)), (2, .ref (eA E 1)), (3, .int 6), (4, .int (nI n + 1))]) [2, 3, 4, 0] rfl ?_
        exact g_eq rfl (by simp only [nI_1, sumB, c_32, if_true, if_false, Bool.false_eq_true, Bool.not_true, Bool.not_false, Bool.and_true, Bool.true_and, Bool.and_false, Bool.false_and, Bool.or_true, Bool.true_or, Bool.or_false, Bool.false_or, decide_true, decide_false, Bool.and_self]) rfl (ih_10 hlt_10)
      · refine g_iinc (pc := 35) (L' := [(1, .int (sumB (fun i => !misF S (10 + i)) (fun _ => 1) n + 1)), (5, .ref (eA E (10 + n))), (2, .ref (eA E 1)), (3, .int 6), (4, .int (nI n))]) dX8_howManyThere_35 (k := 1) rfl (v := sumB (fun i => !misF S (10 + i)) (fun _ => 1) n + 1) rfl (Nat.le_of_ble_eq_true rfl) rfl ?_
        refine g_iinc (pc := 38) (L' := [(4, .int (nI n + 1)), (1, .int (sumB (fun i => !misF S (10 + i)) (fun _ => 1) n + 1)), (5, .ref (eA E (10 + n))), (2, .ref (eA E 1)), (3, .int 6)]) dX8_howManyThere_38 (k := 4) rfl (v := nI n + 1) rfl (Nat.le_of_ble_eq_true rfl) rfl ?_
        refine g_goto (pc := 41) (tgt := 10) dX8_howManyThere_41 (by decide) ?_
        refine g_sub (L' := [(1, .int (sumB (fun i => !misF S (10 + i)) (fun _ => 1) n + 1)), (2, .ref (eA E 1)), (3, .int 6), (4, .int (nI n + 1))]) [1, 3, 4, 0] rfl ?_
        exact g_eq rfl (by simp only [nI_1, sumB, c_32, if_true, if_false, Bool.false_eq_true, Bool.not_true, Bool.not_false, Bool.and_true, Bool.true_and, Bool.and_false, Bool.false_and, Bool.or_true, Bool.true_or, Bool.or_false, Bool.false_or, decide_true, decide_false, Bool.and_self]) rfl (ih_10 hlt_10)
  refine g_sub (L' := [(1, .int 0), (2, .ref (eA E 1)), (3, .int 6), (4, .int 0)]) [3, 2, 1, 0] rfl ?_
  exact g_eq rfl rfl rfl (H_10 0 (Nat.zero_le _))
set_option maxRecDepth 100000 in
set_option maxHeartbeats 4000000 in
theorem c_X8_howManyThere_t (E : En) (S : St)  : CTe E i_X8_howManyThere S [.ref (eA E 2)] S (some (.int (thT S))) := by
  refine ct_of [(0, .ref (eA E 2))] (by decide +kernel) (Nat.le_of_ble_eq_true rfl) rfl (fun X hM => ?_)
  refine g_iconst (pc := 0) (v := 0) dX8_howManyThere_0 (by decide) ?_
  refine g_istore_n (pc := 1) (L' := [(1, .int 0), (0, .ref (eA E 2))]) dX8_howManyThere_1 rfl (Nat.le_of_ble_eq_true rfl) rfl ?_
  refine g_aload_n (pc := 2) dX8_howManyThere_2 1 rfl rfl ?_
  refine g_astore_n (pc := 3) (L' := [(2, .ref (eA E 2)), (1, .int 0), (0, .ref (eA E 2))]) dX8_howManyThere_3 rfl (Nat.le_of_ble_eq_true rfl) rfl ?_
  refine g_aload_n (pc := 4) dX8_howManyThere_4 0 rfl rfl ?_
  refine g_alenS (pc := 5) (v := 4) (by first | exact Or.inl rfl | exact Or.inr rfl) rfl dX8_howManyThere_5 ?_
  refine g_istore_n (pc := 6) (L' := [(3, .int 4), (2, .ref (eA E 2)), (1, .int 0), (0, .ref (eA E 2))]) dX8_howManyThere_6 rfl (Nat.le_of_ble_eq_true rfl) rfl ?_
  refine g_iconst (pc := 7) (v := 0) dX8_howManyThere_7 (by decide) ?_
  refine g_istore (pc := 8) (L' := [(4, .int 0), (3, .int 4), (2, .ref (eA E 2)), (1, .int 0), (0, .ref (eA E 2))]) dX8_howManyThere_8 (Nat.le_of_ble_eq_true rfl) rfl ?_
  have H_10 : ∀ n : Nat, n ≤ 4 → G E X i_X8_howManyThere S 10 [(1, .int (sumB (fun i => !misF S (16 + i)) (fun _ => 1) n)), (2, .ref (eA E 2)), (3, .int 4), (4, .int (nI n))] [] := by
    refine dn_ind 4 (fun n hn_10 ih_10 => ?_)
    refine g_iload (pc := 10) dX8_howManyThere_10 3 rfl ?_
    refine g_iload_n (pc := 12) dX8_howManyThere_12 2 rfl rfl ?_
    refine g_icmp_ge (pc := 13) (tgt := 44) dX8_howManyThere_13 (by decide) (fun c_13 => ?_) (fun c_13 => ?_)
    · have k_13 := Int32.not_lt.mpr c_13
      have he_10 : n = 4 := Nat.le_antisymm hn_10 (by exact nle_of (N := 4) rfl rfl (by omega) (by omega) c_13)
      rw [he_10]
      refine g_iload_n (pc := 44) dX8_howManyThere_44 0 rfl rfl ?_
      exact g_iret (pc := 45) hM rfl rfl ⟨rfl, rfl⟩ dX8_howManyThere_45
    · have k_13 := Int32.not_le.mp c_13
      have hlt_10 : n < 4 := by exact nlt_of (N := 4) rfl rfl (by omega) (by omega) c_13
      refine g_aload_n (pc := 16) dX8_howManyThere_16 1 rfl rfl ?_
      refine g_iload (pc := 17) dX8_howManyThere_17 3 rfl ?_
      refine g_aald2 (pc := 19) n rfl hlt_10 dX8_howManyThere_19 ?_
      refine g_astore (pc := 20) (L' := [(5, .ref (eA E (16 + n))), (1, .int (sumB (fun i => !misF S (16 + i)) (fun _ => 1) n)), (2, .ref (eA E 2)), (3, .int 4), (4, .int (nI n))]) dX8_howManyThere_20 (Nat.le_of_ble_eq_true rfl) rfl ?_
      refine g_aload (pc := 22) dX8_howManyThere_22 0 rfl ?_
      refine g_ifnull (pc := 24) dX8_howManyThere_24 ?_
      refine g_aload (pc := 27) dX8_howManyThere_27 0 rfl ?_
      refine g_invV (pc := 29) j_X5_isMissing mw_X8_94 dX8_howManyThere_29 (rcv_X5 (kd_k (by omega))) (by rfl) (c_X5_isMissing E S (16 + n) (kd_k (by omega))) (Nat.le_of_ble_eq_true rfl) (Nat.le_of_ble_eq_true rfl) (by rfl) (Nat.le_of_ble_eq_true rfl) ?_
      refine g_b_ne (pc := 32) (tgt := 38) dX8_howManyThere_32 (by decide) (fun c_32 => ?_) (fun c_32 => ?_)
      · refine g_iinc (pc := 38) (L' := [(4, .int (nI n + 1)), (5, .ref (eA E (16 + n))), (1, .int (sumB (fun i => !misF S (16 + i)) (fun _ => 1) n)), (2, .ref (eA E 2)), (3, .int 4)]) dX8_howManyThere_38 (k := 4) rfl (v := nI n + 1) rfl (Nat.le_of_ble_eq_true rfl) rfl ?_
        refine g_goto (pc := 41) (tgt := 10) dX8_howManyThere_41 (by decide) ?_
        refine g_sub (L' := [(1, .int (sumB (fun i => !misF S (16 + i)) (fun _ => 1) n)), (2, .ref (eA E 2)), (3, .int 4), (4, .int (nI n + 1))]) [2, 3, 4, 0] rfl ?_
        exact g_eq rfl (by simp only [nI_1, sumB, c_32, if_true, if_false, Bool.false_eq_true, Bool.not_true, Bool.not_false, Bool.and_true, Bool.true_and, Bool.and_false, Bool.false_and, Bool.or_true, Bool.true_or, Bool.or_false, Bool.false_or, decide_true, decide_false, Bool.and_self]) rfl (ih_10 hlt_10)
      · refine g_iinc (pc := 35) (L' := [(1, .int (sumB (fun i => !misF S (16 + i)) (fun _ => 1) n + 1)), (5, .ref (eA E (16 + n))), (2, .ref (eA E 2)), (3, .int 4), (4, .int (nI n))]) dX8_howManyThere_35 (k := 1) rfl (v := sumB (fun i => !misF S (16 + i)) (fun _ => 1) n + 1) rfl (Nat.le_of_ble_eq_true rfl) rfl ?_
        refine g_iinc (pc := 38) (L' := [(4, .int (nI n + 1)), (1, .int (sumB (fun i => !misF S (16 + i)) (fun _ => 1) n + 1)), (5, .ref (eA E (16 + n))), (2, .ref (eA E 2)), (3, .int 4)]) dX8_howManyThere_38 (k := 4) rfl (v := nI n + 1) rfl (Nat.le_of_ble_eq_true rfl) rfl ?_
        refine g_goto (pc := 41) (tgt := 10) dX8_howManyThere_41 (by decide) ?_
        refine g_sub (L' := [(1, .int (sumB (fun i => !misF S (16 + i)) (fun _ => 1) n + 1)), (2, .ref (eA E 2)), (3, .int 4), (4, .int (nI n + 1))]) [1, 3, 4, 0] rfl ?_
        exact g_eq rfl (by simp only [nI_1, sumB, c_32, if_true, if_false, Bool.false_eq_true, Bool.not_true, Bool.not_false, Bool.and_true, Bool.true_and, Bool.and_false, Bool.false_and, Bool.or_true, Bool.true_or, Bool.or_false, Bool.false_or, decide_true, decide_false, Bool.and_self]) rfl (ih_10 hlt_10)
  refine g_sub (L' := [(1, .int 0), (2, .ref (eA E 2)), (3, .int 4), (4, .int 0)]) [3, 2, 1, 0] rfl ?_
  exact g_eq rfl rfl rfl (H_10 0 (Nat.zero_le _))
set_option maxRecDepth 100000 in
set_option maxHeartbeats 4000000 in
theorem c_X8_howManyKept (E : En) (S : St)  : CTe E i_X8_howManyKept S [.ref (eA E 0)] S (some (.int (thK S))) := by
  refine ct_of [(0, .ref (eA E 0))] (by decide +kernel) (Nat.le_of_ble_eq_true rfl) rfl (fun X hM => ?_)
  refine g_iconst (pc := 0) (v := 0) dX8_howManyKept_0 (by decide) ?_
  refine g_istore_n (pc := 1) (L' := [(1, .int 0), (0, .ref (eA E 0))]) dX8_howManyKept_1 rfl (Nat.le_of_ble_eq_true rfl) rfl ?_
  refine g_aload_n (pc := 2) dX8_howManyKept_2 1 rfl rfl ?_
  refine gf_X8_25 (pc := 3) rfl dX8_howManyKept_3 ?_
  refine g_astore_n (pc := 6) (L' := [(2, .ref (eA E 3)), (1, .int 0), (0, .ref (eA E 0))]) dX8_howManyKept_6 rfl (Nat.le_of_ble_eq_true rfl) rfl ?_
  refine g_aload_n (pc := 7) dX8_howManyKept_7 0 rfl rfl ?_
  refine g_alenB (pc := 8) dX8_howManyKept_8 ?_
  refine g_istore_n (pc := 9) (L' := [(3, .int 3), (2, .ref (eA E 3)), (1, .int 0), (0, .ref (eA E 0))]) dX8_howManyKept_9 rfl (Nat.le_of_ble_eq_true rfl) rfl ?_
  refine g_iconst (pc := 10) (v := 0) dX8_howManyKept_10 (by decide) ?_
  refine g_istore (pc := 11) (L' := [(4, .int 0), (3, .int 3), (2, .ref (eA E 3)), (1, .int 0), (0, .ref (eA E 0))]) dX8_howManyKept_11 (Nat.le_of_ble_eq_true rfl) rfl ?_
  have H_13 : ∀ n : Nat, n ≤ 3 → G E X i_X8_howManyKept S 13 [(0, .ref (eA E 0)), (1, .int (sumB (fun i => !decide (gI S (31 + i) 6 ≤ 0)) (fun _ => 1) n)), (2, .ref (eA E 3)), (3, .int 3), (4, .int (nI n))] [] := by
    refine dn_ind 3 (fun n hn_13 ih_13 => ?_)
    refine g_iload (pc := 13) dX8_howManyKept_13 4 rfl ?_
    refine g_iload_n (pc := 15) dX8_howManyKept_15 3 rfl rfl ?_
    refine g_icmp_ge (pc := 16) (tgt := 47) dX8_howManyKept_16 (by decide) (fun c_16 => ?_) (fun c_16 => ?_)
    · have k_16 := Int32.not_lt.mpr c_16
      have he_13 : n = 3 := Nat.le_antisymm hn_13 (by exact nle_of (N := 3) rfl rfl (by omega) (by omega) c_16)
      rw [he_13]
      refine g_iload_n (pc := 47) dX8_howManyKept_47 1 rfl rfl ?_
      exact g_iret (pc := 48) hM rfl rfl ⟨rfl, rfl⟩ dX8_howManyKept_48
    · have k_16 := Int32.not_le.mp c_16
      have hlt_13 : n < 3 := by exact nlt_of (N := 3) rfl rfl (by omega) (by omega) c_16
      refine g_aload_n (pc := 19) dX8_howManyKept_19 2 rfl rfl ?_
      refine g_iload (pc := 20) dX8_howManyKept_20 4 rfl ?_
      refine g_aald3 (pc := 22) n rfl hlt_13 dX8_howManyKept_22 ?_
      refine g_astore (pc := 23) (L' := [(5, .ref (eA E (31 + n))), (0, .ref (eA E 0)), (1, .int (sumB (fun i => !decide (gI S (31 + i) 6 ≤ 0)) (fun _ => 1) n)), (2, .ref (eA E 3)), (3, .int 3), (4, .int (nI n))]) dX8_howManyKept_23 (Nat.le_of_ble_eq_true rfl) rfl ?_
      refine g_aload (pc := 25) dX8_howManyKept_25 0 rfl ?_
      refine g_ifnull (pc := 27) dX8_howManyKept_27 ?_
      refine g_aload (pc := 30) dX8_howManyKept_30 0 rfl ?_
      refine g_invV (pc := 32) j_X0_size mw_X8_133 dX8_howManyKept_32 (rcv_X0 (kd_kc (by omega))) (by rfl) (c_X0_size E S (31 + n) (kd_kc (by omega))) (Nat.le_of_ble_eq_true rfl) (Nat.le_of_ble_eq_true rfl) (by rfl) (Nat.le_of_ble_eq_true rfl) ?_
      refine g_if_le (pc := 35) (tgt := 41) dX8_howManyKept_35 (by decide) (fun c_35 => ?_) (fun c_35 => ?_)
      · have k_35 := Int32.not_lt.mpr c_35
        refine g_iinc (pc := 41) (L' := [(4, .int (nI n + 1)), (5, .ref (eA E (31 + n))), (0, .ref (eA E 0)), (1, .int (sumB (fun i => !decide (gI S (31 + i) 6 ≤ 0)) (fun _ => 1) n)), (2, .ref (eA E 3)), (3, .int 3)]) dX8_howManyKept_41 (k := 5) rfl (v := nI n + 1) rfl (Nat.le_of_ble_eq_true rfl) rfl ?_
        refine g_goto (pc := 44) (tgt := 13) dX8_howManyKept_44 (by decide) ?_
        refine g_sub (L' := [(0, .ref (eA E 0)), (1, .int (sumB (fun i => !decide (gI S (31 + i) 6 ≤ 0)) (fun _ => 1) n)), (2, .ref (eA E 3)), (3, .int 3), (4, .int (nI n + 1))]) [2, 3, 4, 5, 0] rfl ?_
        exact g_eq rfl (by simp only [nI_1, sumB, c_35, k_35, if_true, if_false, Bool.false_eq_true, Bool.not_true, Bool.not_false, Bool.and_true, Bool.true_and, Bool.and_false, Bool.false_and, Bool.or_true, Bool.true_or, Bool.or_false, Bool.false_or, decide_true, decide_false, Bool.and_self]) rfl (ih_13 hlt_13)
      · have k_35 := Int32.not_le.mp c_35
        refine g_iinc (pc := 38) (L' := [(1, .int (sumB (fun i => !decide (gI S (31 + i) 6 ≤ 0)) (fun _ => 1) n + 1)), (5, .ref (eA E (31 + n))), (0, .ref (eA E 0)), (2, .ref (eA E 3)), (3, .int 3), (4, .int (nI n))]) dX8_howManyKept_38 (k := 2) rfl (v := sumB (fun i => !decide (gI S (31 + i) 6 ≤ 0)) (fun _ => 1) n + 1) rfl (Nat.le_of_ble_eq_true rfl) rfl ?_
        refine g_iinc (pc := 41) (L' := [(4, .int (nI n + 1)), (1, .int (sumB (fun i => !decide (gI S (31 + i) 6 ≤ 0)) (fun _ => 1) n + 1)), (5, .ref (eA E (31 + n))), (0, .ref (eA E 0)), (2, .ref (eA E 3)), (3, .int 3)]) dX8_howManyKept_41 (k := 5) rfl (v := nI n + 1) rfl (Nat.le_of_ble_eq_true rfl) rfl ?_
        refine g_goto (pc := 44) (tgt := 13) dX8_howManyKept_44 (by decide) ?_
        refine g_sub (L' := [(0, .ref (eA E 0)), (1, .int (sumB (fun i => !decide (gI S (31 + i) 6 ≤ 0)) (fun _ => 1) n + 1)), (2, .ref (eA E 3)), (3, .int 3), (4, .int (nI n + 1))]) [3, 1, 4, 5, 0] rfl ?_
        exact g_eq rfl (by simp only [nI_1, sumB, c_35, k_35, if_true, if_false, Bool.false_eq_true, Bool.not_true, Bool.not_false, Bool.and_true, Bool.true_and, Bool.and_false, Bool.false_and, Bool.or_true, Bool.true_or, Bool.or_false, Bool.false_or, decide_true, decide_false, Bool.and_self]) rfl (ih_13 hlt_13)
  refine g_sub (L' := [(0, .ref (eA E 0)), (1, .int 0), (2, .ref (eA E 3)), (3, .int 3), (4, .int 0)]) [4, 3, 2, 1, 0] rfl ?_
  exact g_eq rfl rfl rfl (H_13 0 (Nat.zero_le _))
set_option maxRecDepth 100000 in
set_option maxHeartbeats 4000000 in
theorem c_X8_count (E : En) (S : St) (what : Int32) (hz : okB S 30) : CTe E i_X8_count S [.ref (eA E 0), .int what] S (some (.int (ctF S what))) := by
  refine ct_of [(0, .ref (eA E 0)), (1, .int what)] (by decide +kernel) (Nat.le_of_ble_eq_true rfl) rfl (fun X hM => ?_)
  refine g_iload_n (pc := 0) dX8_count_0 1 rfl rfl ?_
  rcases tsw0_9 what with c_1 | c_1 | c_1 | c_1 | c_1 | c_1 | c_1 | c_1 | c_1 | c_1 | c_1
  · refine g_tsIn (pc := 1) (tgt := 56) dX8_count_1 (by rw [c_1]; decide) (by rw [c_1]; decide) (by rw [c_1]; rfl) (by decide) ?_
    refine g_aload_n (pc := 56) dX8_count_56 0 rfl rfl ?_
    refine gf_X8_21 (pc := 57) rfl dX8_count_57 ?_
    refine g_invV (pc := 60) j_X0_size mw_X8_133 dX8_count_60 (rcv_X0 rfl) (by rfl) (c_X0_size E S 30 rfl) (Nat.le_of_ble_eq_true rfl) (Nat.le_of_ble_eq_true rfl) (by rfl) (Nat.le_of_ble_eq_true rfl) ?_
    exact g_iret (pc := 63) hM rfl rfl ⟨rfl, some_int (by first | (rw [ctF_out (by assumption)]; done) | (simp [ctF, lgF, cmF, *]; done))⟩ dX8_count_63
  · refine g_tsIn (pc := 1) (tgt := 64) dX8_count_1 (by rw [c_1]; decide) (by rw [c_1]; decide) (by rw [c_1]; rfl) (by decide) ?_
    refine g_aload_n (pc := 64) dX8_count_64 0 rfl rfl ?_
    refine gf_X8_21 (pc := 65) rfl dX8_count_65 ?_
    refine g_invV (pc := 68) j_X0_thisNight mw_X8_153 dX8_count_68 (rcv_X0 rfl) (by rfl) (c_X0_thisNight E S 30 rfl) (Nat.le_of_ble_eq_true rfl) (Nat.le_of_ble_eq_true rfl) (by rfl) (Nat.le_of_ble_eq_true rfl) ?_
    exact g_iret (pc := 71) hM rfl rfl ⟨rfl, some_int (by first | (rw [ctF_out (by assumption)]; done) | (simp [ctF, lgF, cmF, *]; done))⟩ dX8_count_71
  · refine g_tsIn (pc := 1) (tgt := 72) dX8_count_1 (by rw [c_1]; decide) (by rw [c_1]; decide) (by rw [c_1]; rfl) (by decide) ?_
    refine g_aload_n (pc := 72) dX8_count_72 0 rfl rfl ?_
    refine gf_X8_21 (pc := 73) rfl dX8_count_73 ?_
    refine g_invV (pc := 76) j_X0_deedsDone mw_X8_163 dX8_count_76 (rcv_X0 rfl) (by rfl) (c_X0_deedsDone E S 30 rfl) (Nat.le_of_ble_eq_true rfl) (Nat.le_of_ble_eq_true rfl) (by rfl) (Nat.le_of_ble_eq_true rfl) ?_
    exact g_iret (pc := 79) hM rfl rfl ⟨rfl, some_int (by first | (rw [ctF_out (by assumption)]; done) | (simp [ctF, lgF, cmF, *]; done))⟩ dX8_count_79
  · refine g_tsIn (pc := 1) (tgt := 80) dX8_count_1 (by rw [c_1]; decide) (by rw [c_1]; decide) (by rw [c_1]; rfl) (by decide) ?_
    refine g_aload_n (pc := 80) dX8_count_80 0 rfl rfl ?_
    refine gf_X8_21 (pc := 81) rfl dX8_count_81 ?_
    refine g_invV (pc := 84) j_X0_litSet mw_X8_287 dX8_count_84 (rcv_X0 rfl) (by rfl) (c_X0_litSet E S 30 rfl) (Nat.le_of_ble_eq_true rfl) (Nat.le_of_ble_eq_true rfl) (by rfl) (Nat.le_of_ble_eq_true rfl) ?_
    exact g_iret (pc := 87) hM rfl rfl ⟨rfl, some_int (by first | (rw [ctF_out (by assumption)]; done) | (simp [ctF, lgF, cmF, *]; done))⟩ dX8_count_87
  · refine g_tsIn (pc := 1) (tgt := 88) dX8_count_1 (by rw [c_1]; decide) (by rw [c_1]; decide) (by rw [c_1]; rfl) (by decide) ?_
    refine g_aload_n (pc := 88) dX8_count_88 0 rfl rfl ?_
    refine gf_X8_21 (pc := 89) rfl dX8_count_89 ?_
    refine g_invV (pc := 92) j_X0_litGlow mw_X8_169 dX8_count_92 (rcv_X0 rfl) (by rfl) (c_X0_litGlow E S 30 rfl (by first | assumption | omega | rfl)) (Nat.le_of_ble_eq_true rfl) (Nat.le_of_ble_eq_true rfl) (by rfl) (Nat.le_of_ble_eq_true rfl) ?_
    exact g_iret (pc := 95) hM rfl rfl ⟨rfl, some_int (by first | (rw [ctF_out (by assumption)]; done) | (simp [ctF, lgF, cmF, *]; done))⟩ dX8_count_95
  · refine g_tsIn (pc := 1) (tgt := 96) dX8_count_1 (by rw [c_1]; decide) (by rw [c_1]; decide) (by rw [c_1]; rfl) (by decide) ?_
    refine g_aload_n (pc := 96) dX8_count_96 0 rfl rfl ?_
    refine gf_X8_21 (pc := 97) rfl dX8_count_97 ?_
    refine g_iconst (pc := 100) (v := 3) dX8_count_100 (by decide) ?_
    refine g_invV (pc := 101) j_X0_howManyOf mw_X8_309 dX8_count_101 (rcv_X0 rfl) (by rfl) (c_X0_howManyOf E S 30 3 rfl (by first | assumption | omega | rfl)) (Nat.le_of_ble_eq_true rfl) (Nat.le_of_ble_eq_true rfl) (by rfl) (Nat.le_of_ble_eq_true rfl) ?_
    exact g_iret (pc := 104) hM rfl rfl ⟨rfl, some_int (by first | (rw [ctF_out (by assumption)]; done) | (simp [ctF, lgF, cmF, *]; done))⟩ dX8_count_104
  · refine g_tsIn (pc := 1) (tgt := 105) dX8_count_1 (by rw [c_1]; decide) (by rw [c_1]; decide) (by rw [c_1]; rfl) (by decide) ?_
    refine g_aload_n (pc := 105) dX8_count_105 0 rfl rfl ?_
    refine gf_X8_21 (pc := 106) rfl dX8_count_106 ?_
    refine g_iconst (pc := 109) (v := 2) dX8_count_109 (by decide) ?_
    refine g_invV (pc := 110) j_X0_howManyOf mw_X8_309 dX8_count_110 (rcv_X0 rfl) (by rfl) (c_X0_howManyOf E S 30 2 rfl (by first | assumption | omega | rfl)) (Nat.le_of_ble_eq_true rfl) (Nat.le_of_ble_eq_true rfl) (by rfl) (Nat.le_of_ble_eq_true rfl) ?_
    exact g_iret (pc := 113) hM rfl rfl ⟨rfl, some_int (by first | (rw [ctF_out (by assumption)]; done) | (simp [ctF, lgF, cmF, *]; done))⟩ dX8_count_113
  · refine g_tsIn (pc := 1) (tgt := 114) dX8_count_1 (by rw [c_1]; decide) (by rw [c_1]; decide) (by rw [c_1]; rfl) (by decide) ?_
    refine g_aload_n (pc := 114) dX8_count_114 0 rfl rfl ?_
    refine gf_X8_11 (pc := 115) rfl dX8_count_115 ?_
    refine g_invS (pc := 118) j_X8_howManyThere mw_X8_312 dX8_count_118 (by rfl) (c_X8_howManyThere_r E S ) (Nat.le_of_ble_eq_true rfl) (Nat.le_of_ble_eq_true rfl) (by rfl) (Nat.le_of_ble_eq_true rfl) ?_
    exact g_iret (pc := 121) hM rfl rfl ⟨rfl, some_int (by first | (rw [ctF_out (by assumption)]; done) | (simp [ctF, lgF, cmF, *]; done))⟩ dX8_count_121
  · refine g_tsIn (pc := 1) (tgt := 122) dX8_count_1 (by rw [c_1]; decide) (by rw [c_1]; decide) (by rw [c_1]; rfl) (by decide) ?_
    refine g_aload_n (pc := 122) dX8_count_122 0 rfl rfl ?_
    refine gf_X8_15 (pc := 123) rfl dX8_count_123 ?_
    refine g_invS (pc := 126) j_X8_howManyThere mw_X8_312 dX8_count_126 (by rfl) (c_X8_howManyThere_t E S ) (Nat.le_of_ble_eq_true rfl) (Nat.le_of_ble_eq_true rfl) (by rfl) (Nat.le_of_ble_eq_true rfl) ?_
    exact g_iret (pc := 129) hM rfl rfl ⟨rfl, some_int (by first | (rw [ctF_out (by assumption)]; done) | (simp [ctF, lgF, cmF, *]; done))⟩ dX8_count_129
  · refine g_tsIn (pc := 1) (tgt := 130) dX8_count_1 (by rw [c_1]; decide) (by rw [c_1]; decide) (by rw [c_1]; rfl) (by decide) ?_
    refine g_aload_n (pc := 130) dX8_count_130 0 rfl rfl ?_
    refine g_invV (pc := 131) j_X8_howManyKept mw_X8_316 dX8_count_131 (rcv_X8) (by rfl) (c_X8_howManyKept E S ) (Nat.le_of_ble_eq_true rfl) (Nat.le_of_ble_eq_true rfl) (by rfl) (Nat.le_of_ble_eq_true rfl) ?_
    exact g_iret (pc := 134) hM rfl rfl ⟨rfl, some_int (by first | (rw [ctF_out (by assumption)]; done) | (simp [ctF, lgF, cmF, *]; done))⟩ dX8_count_134
  · refine g_tsOut (pc := 1) (tgt := 135) dX8_count_1 c_1 (by decide) ?_
    refine g_iconst (pc := 135) (v := -1) dX8_count_135 (by decide) ?_
    exact g_iret (pc := 136) hM rfl rfl ⟨rfl, some_int (by first | (rw [ctF_out (by assumption)]; done) | (simp [ctF, lgF, cmF, *]; done))⟩ dX8_count_136
set_option maxRecDepth 100000 in
set_option maxHeartbeats 4000000 in
theorem c_X8_digestOf_r (E : En) (S : St) (h : Int64) (hs : ∀ n, n < 6 → okS S (10 + n) 40) : CTe E i_X8_digestOf S [.long h, .ref (eA E 1)] S (some (.long (ddR S 10 h 6))) := by
  refine ct_of [(0, .long h), (2, .ref (eA E 1))] (by decide +kernel) (Nat.le_of_ble_eq_true rfl) rfl (fun X hM => ?_)
  refine g_lload_n (pc := 0) dX8_digestOf_0 0 rfl rfl ?_
  refine g_lstore_n (pc := 1) (L' := [(3, .long h), (0, .long h), (2, .ref (eA E 1))]) dX8_digestOf_1 rfl (Nat.le_of_ble_eq_true rfl) rfl ?_
  refine g_aload_n (pc := 2) dX8_digestOf_2 2 rfl rfl ?_
  refine g_astore (pc := 3) (L' := [(5, .ref (eA E 1)), (3, .long h), (0, .long h), (2, .ref (eA E 1))]) dX8_digestOf_3 (Nat.le_of_ble_eq_true rfl) rfl ?_
  refine g_aload (pc := 5) dX8_digestOf_5 0 rfl ?_
  refine g_alenS (pc := 7) (v := 6) (by first | exact Or.inl rfl | exact Or.inr rfl) rfl dX8_digestOf_7 ?_
  refine g_istore (pc := 8) (L' := [(6, .int 6), (5, .ref (eA E 1)), (3, .long h), (0, .long h), (2, .ref (eA E 1))]) dX8_digestOf_8 (Nat.le_of_ble_eq_true rfl) rfl ?_
  refine g_iconst (pc := 10) (v := 0) dX8_digestOf_10 (by decide) ?_
  refine g_istore (pc := 11) (L' := [(7, .int 0), (6, .int 6), (5, .ref (eA E 1)), (3, .long h), (0, .long h), (2, .ref (eA E 1))]) dX8_digestOf_11 (Nat.le_of_ble_eq_true rfl) rfl ?_
  have H_13 : ∀ n : Nat, n ≤ 6 → G E X i_X8_digestOf S 13 [(3, .long (ddR S 10 h n)), (5, .ref (eA E 1)), (6, .int 6), (7, .int (nI n))] [] := by
    refine dn_ind 6 (fun n hn_13 ih_13 => ?_)
    refine g_iload (pc := 13) dX8_digestOf_13 3 rfl ?_
    refine g_iload (pc := 15) dX8_digestOf_15 2 rfl ?_
    refine g_icmp_ge (pc := 17) (tgt := 85) dX8_digestOf_17 (by decide) (fun c_17 => ?_) (fun c_17 => ?_)
    · have k_17 := Int32.not_lt.mpr c_17
      have he_13 : n = 6 := Nat.le_antisymm hn_13 (by exact nle_of (N := 6) rfl rfl (by omega) (by omega) c_17)
      rw [he_13]
      refine g_lload_n (pc := 85) dX8_digestOf_85 0 rfl rfl ?_
      exact g_lret (pc := 86) hM rfl ⟨rfl, rfl⟩ dX8_digestOf_86
    · have k_17 := Int32.not_le.mp c_17
      have hlt_13 : n < 6 := by exact nlt_of (N := 6) rfl rfl (by omega) (by omega) c_17
      refine g_aload (pc := 20) dX8_digestOf_20 1 rfl ?_
      refine g_iload (pc := 22) dX8_digestOf_22 3 rfl ?_
      refine g_aald1 (pc := 24) n rfl hlt_13 dX8_digestOf_24 ?_
      refine g_astore (pc := 25) (L' := [(8, .ref (eA E (10 + n))), (3, .long (ddR S 10 h n)), (5, .ref (eA E 1)), (6, .int 6), (7, .int (nI n))]) dX8_digestOf_25 (Nat.le_of_ble_eq_true rfl) rfl ?_
      refine g_aload (pc := 27) dX8_digestOf_27 0 rfl ?_
      refine g_ifnull (pc := 29) dX8_digestOf_29 ?_
      refine g_ldc2 (pc := 32) kw_X8_321 dX8_digestOf_32 ?_
      refine g_lload_n (pc := 35) dX8_digestOf_35 1 rfl rfl ?_
      refine g_lmul (pc := 36) dX8_digestOf_36 ?_
      refine g_aload (pc := 37) dX8_digestOf_37 0 rfl ?_
      refine g_invV (pc := 39) j_X5_size mw_X8_106 dX8_digestOf_39 (rcv_X5 (kd_r (by omega))) (by rfl) (c_X5_size E S (10 + n) (kd_r (by omega))) (Nat.le_of_ble_eq_true rfl) (Nat.le_of_ble_eq_true rfl) (by rfl) (Nat.le_of_ble_eq_true rfl) ?_
      refine g_i2l (pc := 42) dX8_digestOf_42 ?_
      refine g_ladd (pc := 43) dX8_digestOf_43 ?_
      refine g_lstore_n (pc := 44) (L' := [(3, .long ((31 * ddR S 10 h n) + (gI S (10 + n) 1).toInt64)), (8, .ref (eA E (10 + n))), (5, .ref (eA E 1)), (6, .int 6), (7, .int (nI n))]) dX8_digestOf_44 rfl (Nat.le_of_ble_eq_true rfl) rfl ?_
      refine g_iconst (pc := 45) (v := 0) dX8_digestOf_45 (by decide) ?_
      refine g_istore (pc := 46) (L' := [(9, .int 0), (3, .long ((31 * ddR S 10 h n) + (gI S (10 + n) 1).toInt64)), (8, .ref (eA E (10 + n))), (5, .ref (eA E 1)), (6, .int 6), (7, .int (nI n))]) dX8_digestOf_46 (Nat.le_of_ble_eq_true rfl) rfl ?_
      have H_48 : ∀ j : Nat, j ≤ szS S (10 + n) → G E X i_X8_digestOf S 48 [(3, .long (dsR S (10 + n) (mixF (ddR S 10 h n) (gI S (10 + n) 1).toInt64) j)), (5, .ref (eA E 1)), (6, .int 6), (7, .int (nI n)), (8, .ref (eA E (10 + n))), (9, .int (nI j))] [] := by
        refine dn_ind (szS S (10 + n)) (fun j hn_48 ih_48 => ?_)
        refine g_iload (pc := 48) dX8_digestOf_48 5 rfl ?_
        refine g_aload (pc := 50) dX8_digestOf_50 4 rfl ?_
        refine g_invV (pc := 52) j_X5_size mw_X8_106 dX8_digestOf_52 (rcv_X5 (kd_r (by omega))) (by rfl) (c_X5_size E S (10 + n) (kd_r (by omega))) (Nat.le_of_ble_eq_true rfl) (Nat.le_of_ble_eq_true rfl) (by rfl) (Nat.le_of_ble_eq_true rfl) ?_
        refine g_icmp_ge (pc := 55) (tgt := 79) dX8_digestOf_55 (by decide) (fun c_55 => ?_) (fun c_55 => ?_)
        · have k_55 := Int32.not_lt.mpr c_55
          have he_48 : j = szS S (10 + n) := Nat.le_antisymm hn_48 (by exact okS_le (hs n hlt_13) (by omega) (by have := okS_sz (hs n hlt_13) (by omega); omega) c_55)
          rw [he_48]
          refine g_iinc (pc := 79) (L' := [(7, .int (nI n + 1)), (3, .long (dsR S (10 + n) (mixF (ddR S 10 h n) (gI S (10 + n) 1).toInt64) (szS S (10 + n)))), (5, .ref (eA E 1)), (6, .int 6), (8, .ref (eA E (10 + n))), (9, .int (nI (szS S (10 + n))))]) dX8_digestOf_79 (k := 3) rfl (v := nI n + 1) rfl (Nat.le_of_ble_eq_true rfl) rfl ?_
          refine g_goto (pc := 82) (tgt := 13) dX8_digestOf_82 (by decide) ?_
          refine g_sub (L' := [(3, .long (dsR S (10 + n) (mixF (ddR S 10 h n) (gI S (10 + n) 1).toInt64) (szS S (10 + n)))), (5, .ref (eA E 1)), (6, .int 6), (7, .int (nI n + 1))]) [1, 2, 3, 0] rfl ?_
          exact g_eq rfl (by rw [nI_1]; rfl) rfl (ih_13 hlt_13)
        · have k_55 := Int32.not_le.mp c_55
          have hlt_48 : j < szS S (10 + n) := by exact okS_lt (hs n hlt_13) (by omega) (by have := okS_sz (hs n hlt_13) (by omega); omega) c_55
          refine g_ldc2 (pc := 58) kw_X8_321 dX8_digestOf_58 ?_
          refine g_lload_n (pc := 61) dX8_digestOf_61 0 rfl rfl ?_
          refine g_lmul (pc := 62) dX8_digestOf_62 ?_
          refine g_aload (pc := 63) dX8_digestOf_63 4 rfl ?_
          refine g_iload (pc := 65) dX8_digestOf_65 5 rfl ?_
          refine g_invV (pc := 67) j_X5_get mw_X8_76 dX8_digestOf_67 (rcv_X5 (kd_r (by omega))) (by rfl) (c_X5_get E S (10 + n) (nI j) (kd_r (by omega)) (by rw [ln_r hlt_13]; exact okS_ln (hs n hlt_13) (by omega))) (Nat.le_of_ble_eq_true rfl) (Nat.le_of_ble_eq_true rfl) (by rfl) (Nat.le_of_ble_eq_true rfl) ?_
          refine g_i2l (pc := 70) dX8_digestOf_70 ?_
          refine g_ladd (pc := 71) dX8_digestOf_71 ?_
          refine g_lstore_n (pc := 72) (L' := [(3, .long ((31 * dsR S (10 + n) (mixF (ddR S 10 h n) (gI S (10 + n) 1).toInt64) j) + (getF S (10 + n) (nI j)).toInt64)), (5, .ref (eA E 1)), (6, .int 6), (7, .int (nI n)), (8, .ref (eA E (10 + n))), (9, .int (nI j))]) dX8_digestOf_72 rfl (Nat.le_of_ble_eq_true rfl) rfl ?_
          refine g_iinc (pc := 73) (L' := [(9, .int (nI j + 1)), (3, .long ((31 * dsR S (10 + n) (mixF (ddR S 10 h n) (gI S (10 + n) 1).toInt64) j) + (getF S (10 + n) (nI j)).toInt64)), (5, .ref (eA E 1)), (6, .int 6), (7, .int (nI n)), (8, .ref (eA E (10 + n)))]) dX8_digestOf_73 (k := 5) rfl (v := nI j + 1) rfl (Nat.le_of_ble_eq_true rfl) rfl ?_
          refine g_goto (pc := 76) (tgt := 48) dX8_digestOf_76 (by decide) ?_
          refine g_sub (L' := [(3, .long ((31 * dsR S (10 + n) (mixF (ddR S 10 h n) (gI S (10 + n) 1).toInt64) j) + (getF S (10 + n) (nI j)).toInt64)), (5, .ref (eA E 1)), (6, .int 6), (7, .int (nI n)), (8, .ref (eA E (10 + n))), (9, .int (nI j + 1))]) [1, 2, 3, 4, 5, 0] rfl ?_
          exact g_eq rfl (by rw [nI_1]; rfl) rfl (ih_48 hlt_48)
      refine g_sub (L' := [(3, .long ((31 * ddR S 10 h n) + (gI S (10 + n) 1).toInt64)), (5, .ref (eA E 1)), (6, .int 6), (7, .int (nI n)), (8, .ref (eA E (10 + n))), (9, .int 0)]) [1, 3, 4, 5, 2, 0] rfl ?_
      exact g_eq rfl rfl rfl (H_48 0 (Nat.zero_le _))
  refine g_sub (L' := [(3, .long h), (5, .ref (eA E 1)), (6, .int 6), (7, .int 0)]) [3, 2, 1, 0] rfl ?_
  exact g_eq rfl rfl rfl (H_13 0 (Nat.zero_le _))
set_option maxRecDepth 100000 in
set_option maxHeartbeats 4000000 in
theorem c_X8_digestOf_t (E : En) (S : St) (h : Int64) (hs : ∀ n, n < 4 → okS S (16 + n) 60) : CTe E i_X8_digestOf S [.long h, .ref (eA E 2)] S (some (.long (ddR S 16 h 4))) := by
  refine ct_of [(0, .long h), (2, .ref (eA E 2))] (by decide +kernel) (Nat.le_of_ble_eq_true rfl) rfl (fun X hM => ?_)
  refine g_lload_n (pc := 0) dX8_digestOf_0 0 rfl rfl ?_
  refine g_lstore_n (pc := 1) (L' := [(3, .long h), (0, .long h), (2, .ref (eA E 2))]) dX8_digestOf_1 rfl (Nat.le_of_ble_eq_true rfl) rfl ?_
  refine g_aload_n (pc := 2) dX8_digestOf_2 2 rfl rfl ?_
  refine g_astore (pc := 3) (L' := [(5, .ref (eA E 2)), (3, .long h), (0, .long h), (2, .ref (eA E 2))]) dX8_digestOf_3 (Nat.le_of_ble_eq_true rfl) rfl ?_
  refine g_aload (pc := 5) dX8_digestOf_5 0 rfl ?_
  refine g_alenS (pc := 7) (v := 4) (by first | exact Or.inl rfl | exact Or.inr rfl) rfl dX8_digestOf_7 ?_
  refine g_istore (pc := 8) (L' := [(6, .int 4), (5, .ref (eA E 2)), (3, .long h), (0, .long h), (2, .ref (eA E 2))]) dX8_digestOf_8 (Nat.le_of_ble_eq_true rfl) rfl ?_
  refine g_iconst (pc := 10) (v := 0) dX8_digestOf_10 (by decide) ?_
  refine g_istore (pc := 11) (L' := [(7, .int 0), (6, .int 4), (5, .ref (eA E 2)), (3, .long h), (0, .long h), (2, .ref (eA E 2))]) dX8_digestOf_11 (Nat.le_of_ble_eq_true rfl) rfl ?_
  have H_13 : ∀ n : Nat, n ≤ 4 → G E X i_X8_digestOf S 13 [(3, .long (ddR S 16 h n)), (5, .ref (eA E 2)), (6, .int 4), (7, .int (nI n))] [] := by
    refine dn_ind 4 (fun n hn_13 ih_13 => ?_)
    refine g_iload (pc := 13) dX8_digestOf_13 3 rfl ?_
    refine g_iload (pc := 15) dX8_digestOf_15 2 rfl ?_
    refine g_icmp_ge (pc := 17) (tgt := 85) dX8_digestOf_17 (by decide) (fun c_17 => ?_) (fun c_17 => ?_)
    · have k_17 := Int32.not_lt.mpr c_17
      have he_13 : n = 4 := Nat.le_antisymm hn_13 (by exact nle_of (N := 4) rfl rfl (by omega) (by omega) c_17)
      rw [he_13]
      refine g_lload_n (pc := 85) dX8_digestOf_85 0 rfl rfl ?_
      exact g_lret (pc := 86) hM rfl ⟨rfl, rfl⟩ dX8_digestOf_86
    · have k_17 := Int32.not_le.mp c_17
      have hlt_13 : n < 4 := by exact nlt_of (N := 4) rfl rfl (by omega) (by omega) c_17
      refine g_aload (pc := 20) dX8_digestOf_20 1 rfl ?_
      refine g_iload (pc := 22) dX8_digestOf_22 3 rfl ?_
      refine g_aald2 (pc := 24) n rfl hlt_13 dX8_digestOf_24 ?_
      refine g_astore (pc := 25) (L' := [(8, .ref (eA E (16 + n))), (3, .long (ddR S 16 h n)), (5, .ref (eA E 2)), (6, .int 4), (7, .int (nI n))]) dX8_digestOf_25 (Nat.le_of_ble_eq_true rfl) rfl ?_
      refine g_aload (pc := 27) dX8_digestOf_27 0 rfl ?_
      refine g_ifnull (pc := 29) dX8_digestOf_29 ?_
      refine g_ldc2 (pc := 32) kw_X8_321 dX8_digestOf_32 ?_
      refine g_lload_n (pc := 35) dX8_digestOf_35 1 rfl rfl ?_
      refine g_lmul (pc := 36) dX8_digestOf_36 ?_
      refine g_aload (pc := 37) dX8_digestOf_37 0 rfl ?_
      refine g_invV (pc := 39) j_X5_size mw_X8_106 dX8_digestOf_39 (rcv_X5 (kd_k (by omega))) (by rfl) (c_X5_size E S (16 + n) (kd_k (by omega))) (Nat.le_of_ble_eq_true rfl) (Nat.le_of_ble_eq_true rfl) (by rfl) (Nat.le_of_ble_eq_true rfl) ?_
      refine g_i2l (pc := 42) dX8_digestOf_42 ?_
      refine g_ladd (pc := 43) dX8_digestOf_43 ?_
      refine g_lstore_n (pc := 44) (L' := [(3, .long ((31 * ddR S 16 h n) + (gI S (16 + n) 1).toInt64)), (8, .ref (eA E (16 + n))), (5, .ref (eA E 2)), (6, .int 4), (7, .int (nI n))]) dX8_digestOf_44 rfl (Nat.le_of_ble_eq_true rfl) rfl ?_
      refine g_iconst (pc := 45) (v := 0) dX8_digestOf_45 (by decide) ?_
      refine g_istore (pc := 46) (L' := [(9, .int 0), (3, .long ((31 * ddR S 16 h n) + (gI S (16 + n) 1).toInt64)), (8, .ref (eA E (16 + n))), (5, .ref (eA E 2)), (6, .int 4), (7, .int (nI n))]) dX8_digestOf_46 (Nat.le_of_ble_eq_true rfl) rfl ?_
      have H_48 : ∀ j : Nat, j ≤ szS S (16 + n) → G E X i_X8_digestOf S 48 [(3, .long (dsR S (16 + n) (mixF (ddR S 16 h n) (gI S (16 + n) 1).toInt64) j)), (5, .ref (eA E 2)), (6, .int 4), (7, .int (nI n)), (8, .ref (eA E (16 + n))), (9, .int (nI j))] [] := by
        refine dn_ind (szS S (16 + n)) (fun j hn_48 ih_48 => ?_)
        refine g_iload (pc := 48) dX8_digestOf_48 5 rfl ?_
        refine g_aload (pc := 50) dX8_digestOf_50 4 rfl ?_
        refine g_invV (pc := 52) j_X5_size mw_X8_106 dX8_digestOf_52 (rcv_X5 (kd_k (by omega))) (by rfl) (c_X5_size E S (16 + n) (kd_k (by omega))) (Nat.le_of_ble_eq_true rfl) (Nat.le_of_ble_eq_true rfl) (by rfl) (Nat.le_of_ble_eq_true rfl) ?_
        refine g_icmp_ge (pc := 55) (tgt := 79) dX8_digestOf_55 (by decide) (fun c_55 => ?_) (fun c_55 => ?_)
        · have k_55 := Int32.not_lt.mpr c_55
          have he_48 : j = szS S (16 + n) := Nat.le_antisymm hn_48 (by exact okS_le (hs n hlt_13) (by omega) (by have := okS_sz (hs n hlt_13) (by omega); omega) c_55)
          rw [he_48]
          refine g_iinc (pc := 79) (L' := [(7, .int (nI n + 1)), (3, .long (dsR S (16 + n) (mixF (ddR S 16 h n) (gI S (16 + n) 1).toInt64) (szS S (16 + n)))), (5, .ref (eA E 2)), (6, .int 4), (8, .ref (eA E (16 + n))), (9, .int (nI (szS S (16 + n))))]) dX8_digestOf_79 (k := 3) rfl (v := nI n + 1) rfl (Nat.le_of_ble_eq_true rfl) rfl ?_
          refine g_goto (pc := 82) (tgt := 13) dX8_digestOf_82 (by decide) ?_
          refine g_sub (L' := [(3, .long (dsR S (16 + n) (mixF (ddR S 16 h n) (gI S (16 + n) 1).toInt64) (szS S (16 + n)))), (5, .ref (eA E 2)), (6, .int 4), (7, .int (nI n + 1))]) [1, 2, 3, 0] rfl ?_
          exact g_eq rfl (by rw [nI_1]; rfl) rfl (ih_13 hlt_13)
        · have k_55 := Int32.not_le.mp c_55
          have hlt_48 : j < szS S (16 + n) := by exact okS_lt (hs n hlt_13) (by omega) (by have := okS_sz (hs n hlt_13) (by omega); omega) c_55
          refine g_ldc2 (pc := 58) kw_X8_321 dX8_digestOf_58 ?_
          refine g_lload_n (pc := 61) dX8_digestOf_61 0 rfl rfl ?_
          refine g_lmul (pc := 62) dX8_digestOf_62 ?_
          refine g_aload (pc := 63) dX8_digestOf_63 4 rfl ?_
          refine g_iload (pc := 65) dX8_digestOf_65 5 rfl ?_
          refine g_invV (pc := 67) j_X5_get mw_X8_76 dX8_digestOf_67 (rcv_X5 (kd_k (by omega))) (by rfl) (c_X5_get E S (16 + n) (nI j) (kd_k (by omega)) (by rw [ln_t hlt_13]; exact okS_ln (hs n hlt_13) (by omega))) (Nat.le_of_ble_eq_true rfl) (Nat.le_of_ble_eq_true rfl) (by rfl) (Nat.le_of_ble_eq_true rfl) ?_
          refine g_i2l (pc := 70) dX8_digestOf_70 ?_
          refine g_ladd (pc := 71) dX8_digestOf_71 ?_
          refine g_lstore_n (pc := 72) (L' := [(3, .long ((31 * dsR S (16 + n) (mixF (ddR S 16 h n) (gI S (16 + n) 1).toInt64) j) + (getF S (16 + n) (nI j)).toInt64)), (5, .ref (eA E 2)), (6, .int 4), (7, .int (nI n)), (8, .ref (eA E (16 + n))), (9, .int (nI j))]) dX8_digestOf_72 rfl (Nat.le_of_ble_eq_true rfl) rfl ?_
          refine g_iinc (pc := 73) (L' := [(9, .int (nI j + 1)), (3, .long ((31 * dsR S (16 + n) (mixF (ddR S 16 h n) (gI S (16 + n) 1).toInt64) j) + (getF S (16 + n) (nI j)).toInt64)), (5, .ref (eA E 2)), (6, .int 4), (7, .int (nI n)), (8, .ref (eA E (16 + n)))]) dX8_digestOf_73 (k := 5) rfl (v := nI j + 1) rfl (Nat.le_of_ble_eq_true rfl) rfl ?_
          refine g_goto (pc := 76) (tgt := 48) dX8_digestOf_76 (by decide) ?_
          refine g_sub (L' := [(3, .long ((31 * dsR S (16 + n) (mixF (ddR S 16 h n) (gI S (16 + n) 1).toInt64) j) + (getF S (16 + n) (nI j)).toInt64)), (5, .ref (eA E 2)), (6, .int 4), (7, .int (nI n)), (8, .ref (eA E (16 + n))), (9, .int (nI j + 1))]) [1, 2, 3, 4, 5, 0] rfl ?_
          exact g_eq rfl (by rw [nI_1]; rfl) rfl (ih_48 hlt_48)
      refine g_sub (L' := [(3, .long ((31 * ddR S 16 h n) + (gI S (16 + n) 1).toInt64)), (5, .ref (eA E 2)), (6, .int 4), (7, .int (nI n)), (8, .ref (eA E (16 + n))), (9, .int 0)]) [1, 3, 4, 5, 2, 0] rfl ?_
      exact g_eq rfl rfl rfl (H_48 0 (Nat.zero_le _))
  refine g_sub (L' := [(3, .long h), (5, .ref (eA E 2)), (6, .int 4), (7, .int 0)]) [3, 2, 1, 0] rfl ?_
  exact g_eq rfl rfl rfl (H_13 0 (Nat.zero_le _))
set_option maxRecDepth 100000 in
set_option maxHeartbeats 4000000 in
theorem c_X8_digest (E : En) (S : St) (hz : okB S 30) (hr : ∀ n, n < 6 → okS S (10 + n) 40) (ht : ∀ n, n < 4 → okS S (16 + n) 60) : CTe E i_X8_digest S [.ref (eA E 0)] S (some (.long (ddR S 16 (ddR S 10 (dkR S 3) 6) 4))) := by
  refine ct_of [(0, .ref (eA E 0))] (by decide +kernel) (Nat.le_of_ble_eq_true rfl) rfl (fun X hM => ?_)
  refine g_ldc2 (pc := 0) kw_X8_319 dX8_digest_0 ?_
  refine g_lstore_n (pc := 3) (L' := [(1, .long 17), (0, .ref (eA E 0))]) dX8_digest_3 rfl (Nat.le_of_ble_eq_true rfl) rfl ?_
  refine g_iconst (pc := 4) (v := 0) dX8_digest_4 (by decide) ?_
  refine g_istore_n (pc := 5) (L' := [(3, .int 0), (1, .long 17), (0, .ref (eA E 0))]) dX8_digest_5 rfl (Nat.le_of_ble_eq_true rfl) rfl ?_
  have H_6 : ∀ n : Nat, n ≤ 10 → G E X i_X8_digest S 6 [(0, .ref (eA E 0)), (1, .long (dcR S n)), (3, .int (nI n))] [] := by
    refine dn_ind 10 (fun n hn_6 ih_6 => ?_)
    refine g_iload_n (pc := 6) dX8_digest_6 2 rfl rfl ?_
    refine g_bipush (pc := 7) (v := 9) dX8_digest_7 (by decide) ?_
    refine g_icmp_gt (pc := 9) (tgt := 31) dX8_digest_9 (by decide) (fun c_9 => ?_) (fun c_9 => ?_)
    · have k_9 := Int32.not_le.mpr c_9
      have he_6 : n = 10 := Nat.le_antisymm hn_6 (by have := (nI_ltI (a := 9) (b := n) (by omega) (by omega)).mp c_9; omega)
      rw [he_6]
      refine g_iconst (pc := 31) (v := 0) dX8_digest_31 (by decide) ?_
      refine g_istore_n (pc := 32) (L' := [(3, .int 0), (0, .ref (eA E 0)), (1, .long (dcR S 10))]) dX8_digest_32 rfl (Nat.le_of_ble_eq_true rfl) rfl ?_
      have H_33 : ∀ k : Nat, k ≤ szB S 30 → G E X i_X8_digest S 33 [(0, .ref (eA E 0)), (1, .long (dlR S k)), (3, .int (nI k))] [] := by
        refine dn_ind (szB S 30) (fun k hn_33 ih_33 => ?_)
        refine g_iload_n (pc := 33) dX8_digest_33 2 rfl rfl ?_
        refine g_aload_n (pc := 34) dX8_digest_34 0 rfl rfl ?_
        refine gf_X8_21 (pc := 35) rfl dX8_digest_35 ?_
        refine g_invV (pc := 38) j_X0_size mw_X8_133 dX8_digest_38 (rcv_X0 rfl) (by rfl) (c_X0_size E S 30 rfl) (Nat.le_of_ble_eq_true rfl) (Nat.le_of_ble_eq_true rfl) (by rfl) (Nat.le_of_ble_eq_true rfl) ?_
        refine g_icmp_ge (pc := 41) (tgt := 84) dX8_digest_41 (by decide) (fun c_41 => ?_) (fun c_41 => ?_)
        · have k_41 := Int32.not_lt.mpr c_41
          have he_33 : k = szB S 30 := Nat.le_antisymm hn_33 (by exact nle_of (N := szB S 30) rfl hz.1 (by have := hz.2; omega) (by have := hz.2; omega) c_41)
          rw [he_33]
          refine g_iconst (pc := 84) (v := 0) dX8_digest_84 (by decide) ?_
          refine g_istore_n (pc := 85) (L' := [(3, .int 0), (0, .ref (eA E 0)), (1, .long (dlR S (szB S 30)))]) dX8_digest_85 rfl (Nat.le_of_ble_eq_true rfl) rfl ?_
          have H_86 : ∀ n : Nat, n ≤ 3 → G E X i_X8_digest S 86 [(0, .ref (eA E 0)), (1, .long (dkR S n)), (3, .int (nI n))] [] := by
            refine dn_ind 3 (fun n hn_86 ih_86 => ?_)
            refine g_iload_n (pc := 86) dX8_digest_86 2 rfl rfl ?_
            refine g_aload_n (pc := 87) dX8_digest_87 0 rfl rfl ?_
            refine gf_X8_25 (pc := 88) rfl dX8_digest_88 ?_
            refine g_alenB (pc := 91) dX8_digest_91 ?_
            refine g_icmp_ge (pc := 92) (tgt := 138) dX8_digest_92 (by decide) (fun c_92 => ?_) (fun c_92 => ?_)
            · have k_92 := Int32.not_lt.mpr c_92
              have he_86 : n = 3 := Nat.le_antisymm hn_86 (by exact nle_of (N := 3) rfl rfl (by omega) (by omega) c_92)
              rw [he_86]
              refine g_lload_n (pc := 138) dX8_digest_138 1 rfl rfl ?_
              refine g_aload_n (pc := 139) dX8_digest_139 0 rfl rfl ?_
              refine gf_X8_11 (pc := 140) rfl dX8_digest_140 ?_
              refine g_invS (pc := 143) j_X8_digestOf mw_X8_326 dX8_digest_143 (by rfl) (c_X8_digestOf_r E S (dkR S 3) hr) (Nat.le_of_ble_eq_true rfl) (Nat.le_of_ble_eq_true rfl) (by rfl) (Nat.le_of_ble_eq_true rfl) ?_
              refine g_lstore_n (pc := 146) (L' := [(1, .long (ddR S 10 (dkR S 3) 6)), (0, .ref (eA E 0)), (3, .int (nI 3))]) dX8_digest_146 rfl (Nat.le_of_ble_eq_true rfl) rfl ?_
              refine g_lload_n (pc := 147) dX8_digest_147 0 rfl rfl ?_
              refine g_aload_n (pc := 148) dX8_digest_148 1 rfl rfl ?_
              refine gf_X8_15 (pc := 149) rfl dX8_digest_149 ?_
              refine g_invS (pc := 152) j_X8_digestOf mw_X8_326 dX8_digest_152 (by rfl) (c_X8_digestOf_t E S (ddR S 10 (dkR S 3) 6) ht) (Nat.le_of_ble_eq_true rfl) (Nat.le_of_ble_eq_true rfl) (by rfl) (Nat.le_of_ble_eq_true rfl) ?_
              exact g_lret (pc := 155) hM rfl ⟨rfl, rfl⟩ dX8_digest_155
            · have k_92 := Int32.not_le.mp c_92
              have hlt_86 : n < 3 := by exact nlt_of (N := 3) rfl rfl (by omega) (by omega) c_92
              refine g_aload_n (pc := 95) dX8_digest_95 0 rfl rfl ?_
              refine g_iload_n (pc := 96) dX8_digest_96 2 rfl rfl ?_
              refine g_invV (pc := 97) j_X8_keepOf mw_X8_126 dX8_digest_97 (rcv_X8) (by rfl) (c_X8_keepOf_n E S n hlt_86) (Nat.le_of_ble_eq_true rfl) (Nat.le_of_ble_eq_true rfl) (by rfl) (Nat.le_of_ble_eq_true rfl) ?_
              refine g_astore (pc := 100) (L' := [(4, .ref (eA E (31 + n))), (0, .ref (eA E 0)), (1, .long (dkR S n)), (3, .int (nI n))]) dX8_digest_100 (Nat.le_of_ble_eq_true rfl) rfl ?_
              refine g_ldc2 (pc := 102) kw_X8_321 dX8_digest_102 ?_
              refine g_lload_n (pc := 105) dX8_digest_105 2 rfl rfl ?_
              refine g_lmul (pc := 106) dX8_digest_106 ?_
              refine g_aload (pc := 107) dX8_digest_107 0 rfl ?_
              refine g_ifnull (pc := 109) dX8_digest_109 ?_
              refine g_aload (pc := 112) dX8_digest_112 0 rfl ?_
              refine g_invV (pc := 114) j_X0_size mw_X8_133 dX8_digest_114 (rcv_X0 (kd_kc (by omega))) (by rfl) (c_X0_size E S (31 + n) (kd_kc (by omega))) (Nat.le_of_ble_eq_true rfl) (Nat.le_of_ble_eq_true rfl) (by rfl) (Nat.le_of_ble_eq_true rfl) ?_
              refine g_if_ne (pc := 117) (tgt := 124) dX8_digest_117 (by decide) (fun c_117 => ?_) (fun c_117 => ?_)
              · refine g_aload (pc := 124) dX8_digest_124 0 rfl ?_
                refine g_invV (pc := 126) j_X0_deedsDone mw_X8_163 dX8_digest_126 (rcv_X0 (kd_kc (by omega))) (by rfl) (c_X0_deedsDone E S (31 + n) (kd_kc (by omega))) (Nat.le_of_ble_eq_true rfl) (Nat.le_of_ble_eq_true rfl) (by rfl) (Nat.le_of_ble_eq_true rfl) ?_
                refine g_i2l (pc := 129) dX8_digest_129 ?_
                refine g_ladd (pc := 130) dX8_digest_130 ?_
                refine g_lstore_n (pc := 131) (L' := [(1, .long ((31 * dkR S n) + (gI S (31 + n) 9).toInt64)), (4, .ref (eA E (31 + n))), (0, .ref (eA E 0)), (3, .int (nI n))]) dX8_digest_131 rfl (Nat.le_of_ble_eq_true rfl) rfl ?_
                refine g_iinc (pc := 132) (L' := [(3, .int (nI n + 1)), (1, .long ((31 * dkR S n) + (gI S (31 + n) 9).toInt64)), (4, .ref (eA E (31 + n))), (0, .ref (eA E 0))]) dX8_digest_132 (k := 3) rfl (v := nI n + 1) rfl (Nat.le_of_ble_eq_true rfl) rfl ?_
                refine g_goto (pc := 135) (tgt := 86) dX8_digest_135 (by decide) ?_
                refine g_sub (L' := [(0, .ref (eA E 0)), (1, .long ((31 * dkR S n) + (gI S (31 + n) 9).toInt64)), (3, .int (nI n + 1))]) [3, 1, 0] rfl ?_
                exact g_eq rfl (by rw [nI_1, dkR]; simp only [mixF, c_117, if_true, if_false, Bool.false_eq_true, Bool.not_true, Bool.not_false, Bool.and_true, Bool.true_and, Bool.and_false, Bool.false_and, Bool.or_true, Bool.true_or, Bool.or_false, Bool.false_or, decide_true, decide_false, Bool.and_self]) rfl (ih_86 hlt_86)
              · refine g_iconst (pc := 120) (v := -1) dX8_digest_120 (by decide) ?_
                refine g_goto (pc := 121) (tgt := 129) dX8_digest_121 (by decide) ?_
                refine g_i2l (pc := 129) dX8_digest_129 ?_
                refine g_ladd (pc := 130) dX8_digest_130 ?_
                refine g_lstore_n (pc := 131) (L' := [(1, .long ((31 * dkR S n) + ((-1 : Int32)).toInt64)), (4, .ref (eA E (31 + n))), (0, .ref (eA E 0)), (3, .int (nI n))]) dX8_digest_131 rfl (Nat.le_of_ble_eq_true rfl) rfl ?_
                refine g_iinc (pc := 132) (L' := [(3, .int (nI n + 1)), (1, .long ((31 * dkR S n) + ((-1 : Int32)).toInt64)), (4, .ref (eA E (31 + n))), (0, .ref (eA E 0))]) dX8_digest_132 (k := 3) rfl (v := nI n + 1) rfl (Nat.le_of_ble_eq_true rfl) rfl ?_
                refine g_goto (pc := 135) (tgt := 86) dX8_digest_135 (by decide) ?_
                refine g_sub (L' := [(0, .ref (eA E 0)), (1, .long ((31 * dkR S n) + ((-1 : Int32)).toInt64)), (3, .int (nI n + 1))]) [3, 1, 0] rfl ?_
                exact g_eq rfl (by rw [nI_1, dkR]; simp only [mixF, eq_true c_117, if_true, if_false, Bool.false_eq_true, Bool.not_true, Bool.not_false, Bool.and_true, Bool.true_and, Bool.and_false, Bool.false_and, Bool.or_true, Bool.true_or, Bool.or_false, Bool.false_or, decide_true, decide_false, Bool.and_self]) rfl (ih_86 hlt_86)
          refine g_sub (L' := [(0, .ref (eA E 0)), (1, .long (dlR S (szB S 30))), (3, .int 0)]) [1, 2, 0] rfl ?_
          exact g_eq rfl rfl rfl (H_86 0 (Nat.zero_le _))
        · have k_41 := Int32.not_le.mp c_41
          have hlt_33 : k < szB S 30 := by exact nlt_of (N := szB S 30) rfl hz.1 (by have := hz.2; omega) (by have := hz.2; omega) c_41
          refine g_iconst (pc := 44) (v := 0) dX8_digest_44 (by decide) ?_
          refine g_istore (pc := 45) (L' := [(4, .int 0), (0, .ref (eA E 0)), (1, .long (dlR S k)), (3, .int (nI k))]) dX8_digest_45 (Nat.le_of_ble_eq_true rfl) rfl ?_
          have H_47 : ∀ n : Nat, n ≤ 7 → G E X i_X8_digest S 47 [(0, .ref (eA E 0)), (1, .long (dpR S k (dlR S k) n)), (3, .int (nI k)), (4, .int (nI n))] [] := by
            refine dn_ind 7 (fun n hn_47 ih_47 => ?_)
            refine g_iload (pc := 47) dX8_digest_47 3 rfl ?_
            refine g_bipush (pc := 49) (v := 6) dX8_digest_49 (by decide) ?_
            refine g_icmp_gt (pc := 51) (tgt := 78) dX8_digest_51 (by decide) (fun c_51 => ?_) (fun c_51 => ?_)
            · have k_51 := Int32.not_le.mpr c_51
              have he_47 : n = 7 := Nat.le_antisymm hn_47 (by have := (nI_ltI (a := 6) (b := n) (by omega) (by omega)).mp c_51; omega)
              rw [he_47]
              refine g_iinc (pc := 78) (L' := [(3, .int (nI k + 1)), (0, .ref (eA E 0)), (1, .long (dpR S k (dlR S k) 7)), (4, .int (nI 7))]) dX8_digest_78 (k := 2) rfl (v := nI k + 1) rfl (Nat.le_of_ble_eq_true rfl) rfl ?_
              refine g_goto (pc := 81) (tgt := 33) dX8_digest_81 (by decide) ?_
              refine g_sub (L' := [(0, .ref (eA E 0)), (1, .long (dpR S k (dlR S k) 7)), (3, .int (nI k + 1))]) [1, 2, 0] rfl ?_
              exact g_eq rfl (by rw [nI_1]; rfl) rfl (ih_33 hlt_33)
            · have k_51 := Int32.not_lt.mp c_51
              have hlt_47 : n < 7 := by have := (nI_leI (a := n) (b := 6) (by omega) (by omega)).mp k_51; omega
              refine g_ldc2 (pc := 54) kw_X8_321 dX8_digest_54 ?_
              refine g_lload_n (pc := 57) dX8_digest_57 1 rfl rfl ?_
              refine g_lmul (pc := 58) dX8_digest_58 ?_
              refine g_aload_n (pc := 59) dX8_digest_59 0 rfl rfl ?_
              refine gf_X8_21 (pc := 60) rfl dX8_digest_60 ?_
              refine g_iload_n (pc := 63) dX8_digest_63 2 rfl rfl ?_
              refine g_iload (pc := 64) dX8_digest_64 3 rfl ?_
              refine g_invV (pc := 66) j_X0_partOf mw_X8_138 dX8_digest_66 (rcv_X0 rfl) (by rfl) (c_X0_partOf E S 30 (nI k) (nI n) rfl (by first | assumption | omega | rfl)) (Nat.le_of_ble_eq_true rfl) (Nat.le_of_ble_eq_true rfl) (by rfl) (Nat.le_of_ble_eq_true rfl) ?_
              refine g_i2l (pc := 69) dX8_digest_69 ?_
              refine g_ladd (pc := 70) dX8_digest_70 ?_
              refine g_lstore_n (pc := 71) (L' := [(1, .long ((31 * dpR S k (dlR S k) n) + (partF S 30 (nI k) (nI n)).toInt64)), (0, .ref (eA E 0)), (3, .int (nI k)), (4, .int (nI n))]) dX8_digest_71 rfl (Nat.le_of_ble_eq_true rfl) rfl ?_
              refine g_iinc (pc := 72) (L' := [(4, .int (nI n + 1)), (1, .long ((31 * dpR S k (dlR S k) n) + (partF S 30 (nI k) (nI n)).toInt64)), (0, .ref (eA E 0)), (3, .int (nI k))]) dX8_digest_72 (k := 3) rfl (v := nI n + 1) rfl (Nat.le_of_ble_eq_true rfl) rfl ?_
              refine g_goto (pc := 75) (tgt := 47) dX8_digest_75 (by decide) ?_
              refine g_sub (L' := [(0, .ref (eA E 0)), (1, .long ((31 * dpR S k (dlR S k) n) + (partF S 30 (nI k) (nI n)).toInt64)), (3, .int (nI k)), (4, .int (nI n + 1))]) [2, 1, 3, 0] rfl ?_
              exact g_eq rfl (by rw [nI_1]; rfl) rfl (ih_47 hlt_47)
          refine g_sub (L' := [(0, .ref (eA E 0)), (1, .long (dlR S k)), (3, .int (nI k)), (4, .int 0)]) [1, 2, 3, 0] rfl ?_
          exact g_eq rfl rfl rfl (H_47 0 (Nat.zero_le _))
      refine g_sub (L' := [(0, .ref (eA E 0)), (1, .long (dcR S 10)), (3, .int 0)]) [1, 2, 0] rfl ?_
      exact g_eq rfl rfl rfl (H_33 0 (Nat.zero_le _))
    · have k_9 := Int32.not_lt.mp c_9
      have hlt_6 : n < 10 := by have := (nI_leI (a := n) (b := 9) (by omega) (by omega)).mp k_9; omega
      refine g_ldc2 (pc := 12) kw_X8_321 dX8_digest_12 ?_
      refine g_lload_n (pc := 15) dX8_digest_15 1 rfl rfl ?_
      refine g_lmul (pc := 16) dX8_digest_16 ?_
      refine g_aload_n (pc := 17) dX8_digest_17 0 rfl rfl ?_
      refine g_iload_n (pc := 18) dX8_digest_18 2 rfl rfl ?_
      refine g_invV (pc := 19) j_X8_count mw_X8_323 dX8_digest_19 (rcv_X8) (by rfl) (c_X8_count E S (nI n) (by first | assumption | omega | rfl)) (Nat.le_of_ble_eq_true rfl) (Nat.le_of_ble_eq_true rfl) (by rfl) (Nat.le_of_ble_eq_true rfl) ?_
      refine g_i2l (pc := 22) dX8_digest_22 ?_
      refine g_ladd (pc := 23) dX8_digest_23 ?_
      refine g_lstore_n (pc := 24) (L' := [(1, .long ((31 * dcR S n) + (ctF S (nI n)).toInt64)), (0, .ref (eA E 0)), (3, .int (nI n))]) dX8_digest_24 rfl (Nat.le_of_ble_eq_true rfl) rfl ?_
      refine g_iinc (pc := 25) (L' := [(3, .int (nI n + 1)), (1, .long ((31 * dcR S n) + (ctF S (nI n)).toInt64)), (0, .ref (eA E 0))]) dX8_digest_25 (k := 2) rfl (v := nI n + 1) rfl (Nat.le_of_ble_eq_true rfl) rfl ?_
      refine g_goto (pc := 28) (tgt := 6) dX8_digest_28 (by decide) ?_
      refine g_sub (L' := [(0, .ref (eA E 0)), (1, .long ((31 * dcR S n) + (ctF S (nI n)).toInt64)), (3, .int (nI n + 1))]) [2, 1, 0] rfl ?_
      exact g_eq rfl (by rw [nI_1]; rfl) rfl (ih_6 hlt_6)
  refine g_sub (L' := [(0, .ref (eA E 0)), (1, .long 17), (3, .int 0)]) [2, 1, 0] rfl ?_
  exact g_eq rfl rfl rfl (H_6 0 (Nat.zero_le _))
