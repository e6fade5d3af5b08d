/-! THE REFERENCE: reading a text -/
/-- the reader's cells: from, place, end, number, readMany, read -/
def scS (S : St) (a p e n r : Int32) (rd : Nat → Int32) : St := sA (sI (sI (sI (sI (sI S 58 11 a) 58 12 p) 58 13 e) 58 14 n) 58 15 r) 66 rd
section SC
variable {S : St} {a p e n r x : Int32} {rd f : Nat → Int32}
theorem sc_g11 : gI (scS S a p e n r rd) 58 11 = a := rfl
theorem sc_g12 : gI (scS S a p e n r rd) 58 12 = p := rfl
theorem sc_g13 : gI (scS S a p e n r rd) 58 13 = e := rfl
theorem sc_g14 : gI (scS S a p e n r rd) 58 14 = n := rfl
theorem sc_g15 : gI (scS S a p e n r rd) 58 15 = r := rfl
theorem sc_r : gA (scS S a p e n r rd) 66 = rd := rfl
theorem sc_a {k : Nat} (h : k ≠ 66) : gA (scS S a p e n r rd) k = gA S k := gA_ne h
theorem sc_ext {T U : St} (h : ∀ i j, ¬ (i = 58 ∧ 11 ≤ j ∧ j ≤ 15) → gI T i j = gI U i j) (h11 : gI T 58 11 = gI U 58 11) (h12 : gI T 58 12 = gI U 58 12) (h13 : gI T 58 13 = gI U 58 13) (h14 : gI T 58 14 = gI U 58 14) (h15 : gI T 58 15 = gI U 58 15) (hl : ∀ i j, gL T i j = gL U i j) (ha : ∀ k i, gA T k i = gA U k i) : T = U := by
  refine st_ext (fun i j => ?_) hl ha
  by_cases q : i = 58 ∧ 11 ≤ j ∧ j ≤ 15
  · obtain ⟨rfl, q1, q2⟩ := q
    rcases (show j = 11 ∨ j = 12 ∨ j = 13 ∨ j = 14 ∨ j = 15 by omega) with rfl | rfl | rfl | rfl | rfl <;> assumption
  · exact h i j q
theorem sc_out {i j : Nat} (h : ¬ (i = 58 ∧ 11 ≤ j ∧ j ≤ 15)) : gI (scS S a p e n r rd) i j = gI S i j := by
  unfold scS
  rw [gI_sA, gI_ne (by omega), gI_ne (by omega), gI_ne (by omega), gI_ne (by omega), gI_ne (by omega)]
theorem sc_s11 : sI (scS S a p e n r rd) 58 11 x = scS S x p e n r rd := sc_ext (fun i j h => by rw [gI_ne (by omega), sc_out h, sc_out h]) rfl rfl rfl rfl rfl (fun _ _ => rfl) (fun _ _ => rfl)
theorem sc_s12 : sI (scS S a p e n r rd) 58 12 x = scS S a x e n r rd := sc_ext (fun i j h => by rw [gI_ne (by omega), sc_out h, sc_out h]) rfl rfl rfl rfl rfl (fun _ _ => rfl) (fun _ _ => rfl)
theorem sc_s13 : sI (scS S a p e n r rd) 58 13 x = scS S a p x n r rd := sc_ext (fun i j h => by rw [gI_ne (by omega), sc_out h, sc_out h]) rfl rfl rfl rfl rfl (fun _ _ => rfl) (fun _ _ => rfl)
theorem sc_s14 : sI (scS S a p e n r rd) 58 14 x = scS S a p e x r rd := sc_ext (fun i j h => by rw [gI_ne (by omega), sc_out h, sc_out h]) rfl rfl rfl rfl rfl (fun _ _ => rfl) (fun _ _ => rfl)
theorem sc_s15 : sI (scS S a p e n r rd) 58 15 x = scS S a p e n x rd := sc_ext (fun i j h => by rw [gI_ne (by omega), sc_out h, sc_out h]) rfl rfl rfl rfl rfl (fun _ _ => rfl) (fun _ _ => rfl)
theorem sc_w {k : Nat} : sA (scS S a p e n r rd) 66 (upd (gA (scS S a p e n r rd) 66) k x) = scS S a p e n r (upd rd k x) := by
  rw [sc_r]
  exact sA_sA _ _ _ _
theorem sc_self : scS S (gI S 58 11) (gI S 58 12) (gI S 58 13) (gI S 58 14) (gI S 58 15) (gA S 66) = S := by
  refine sc_ext (fun i j h => sc_out h) rfl rfl rfl rfl rfl (fun _ _ => rfl) (fun k i => ?_)
  by_cases h : k = 66
  · subst h; rfl
  · rw [sc_a h]
end SC
def hereG (S : St) (a p m : Nat) : Int32 := if p < m then gA S 63 (a + p) else -1000
theorem here_sc {S : St} {a' p' e n r : Int32} {rd : Nat → Int32} {a p m : Nat} : hereG (scS S a' p' e n r rd) a p m = hereG S a p m := by unfold hereG; rw [sc_a (by omega)]
def kindM (c : Int32) : Int32 := if c = 108 then 0 else if c = 106 then 1 else if c = 100 then 2 else if c = 102 then 3 else if c = 111 then 4 else if c = 109 then 5 else -1
def tkB (v high other : Int32) : Bool := inF v.toInt64 0 high.toInt64 && !decide (v = other)
def vG (S : St) (a p m k : Nat) : Int32 := hereG S a (p + k) m - 48
def tlB (S : St) (a p m r : Nat) : Bool := decide (0 ≤ kindM (hereG S a p m)) && !decide (nI r = 8) && tkB (vG S a p m 1) 5 (-1) && tkB (vG S a p m 2) 5 (vG S a p m 1) && tkB (vG S a p m 3) 9 (-1) && tkB (vG S a p m 4) 9 (-1)
def tlQ (S : St) (a p m r : Nat) : Nat := if decide (0 ≤ kindM (hereG S a p m)) && !decide (nI r = 8) then (if tkB (vG S a p m 1) 5 (-1) then (if tkB (vG S a p m 2) 5 (vG S a p m 1) then (if tkB (vG S a p m 3) 9 (-1) then (if tkB (vG S a p m 4) 9 (-1) then p + 5 else p + 4) else p + 3) else p + 2) else p + 1) else p
def rd5 (S : St) (a p m r : Nat) (rd : Nat → Int32) : Nat → Int32 := upd (upd (upd (upd (upd rd (5 * r) (kindM (hereG S a p m))) (5 * r + 1) (vG S a p m 1)) (5 * r + 2) (vG S a p m 2)) (5 * r + 3) (vG S a p m 3)) (5 * r + 4) (vG S a p m 4)
theorem tk_lt {S : St} {a p m k : Nat} {high other : Int32} (hh : high = 5 ∨ high = 9) (h : tkB (vG S a p m k) high other = true) : p + k < m := by
  rcases Nat.lt_or_ge (p + k) m with q | q
  · exact q
  · exfalso
    have e : vG S a p m k = -1048 := by unfold vG hereG; rw [if_neg (by omega)]; rfl
    rw [tkB, e] at h
    rcases hh with rfl | rfl
    · have : inF (-1048 : Int32).toInt64 0 (5 : Int32).toInt64 = false := by decide +kernel
      rw [this] at h
      cases h
    · have : inF (-1048 : Int32).toInt64 0 (9 : Int32).toInt64 = false := by decide +kernel
      rw [this] at h
      cases h
theorem tlB_lt {S : St} {a p m r : Nat} (h : tlB S a p m r = true) : p + 4 < m ∧ ¬ nI r = 8 := by
  unfold tlB at h
  simp only [Bool.and_eq_true, Bool.not_eq_true', decide_eq_false_iff_not] at h
  exact ⟨tk_lt (Or.inr rfl) h.2, h.1.1.1.1.2⟩
/-- from place p on, r lights read: the answer, the lights read, what was read -/
def fmR (S : St) (a m : Nat) : Nat → Nat → Nat → (Nat → Int32) → Int32 × Nat × (Nat → Int32)
  | 0, _, r, rd => (0, r, rd)
  | f + 1, p, r, rd => if hereG S a p m = 32 then fmR S a m f (p + 1) r rd else if p < m ∨ r = 0 then (if tlB S a p m r then fmR S a m f (p + 5) (r + 1) (rd5 S a p m r rd) else (nI (tlQ S a p m r), r, rd)) else (-9, r, rd)
set_option maxRecDepth 100000 in
set_option maxHeartbeats 4000000 in
theorem c_X9_here (E : En) (S : St) (a p m : Nat) (hp : gI S 58 12 = nI p) (he : gI S 58 13 = nI m) (hf : gI S 58 11 = nI a) (ham : a + m ≤ 240) (hpm : p ≤ 300) : CTe E i_X9_here S [.ref (eA E 58)] S (some (.int (hereG S a p m))) := by
  refine ct_of [(0, .ref (eA E 58))] (by decide +kernel) (Nat.le_of_ble_eq_true rfl) rfl (fun X hM => ?_)
  refine g_aload_n (pc := 0) dX9_here_0 0 rfl rfl ?_
  refine gf_X9_83 (pc := 1) rfl dX9_here_1 ?_
  refine g_aload_n (pc := 4) dX9_here_4 0 rfl rfl ?_
  refine gf_X9_86 (pc := 5) rfl dX9_here_5 ?_
  refine g_icmp_ge (pc := 8) (tgt := 28) dX9_here_8 (by decide) (fun c_8 => ?_) (fun c_8 => ?_)
  · have k_8 := Int32.not_lt.mpr c_8
    have hge : m ≤ p := by rw [hp, he] at c_8; exact (nI_leI (by omega) (by omega)).mp c_8
    refine g_sipush (pc := 28) (v := -1000) dX9_here_28 (by decide) ?_
    exact g_iret (pc := 31) hM rfl rfl ⟨rfl, some_int (by first | (rw [hereG, if_pos hlt]; done) | (rw [hereG, if_neg (by omega)]; done))⟩ dX9_here_31
  · have k_8 := Int32.not_le.mp c_8
    have hlt : p < m := by rw [hp, he] at k_8; exact (nI_ltI (by omega) (by omega)).mp k_8
    refine g_aload_n (pc := 11) dX9_here_11 0 rfl rfl ?_
    refine gf_X9_22 (pc := 12) rfl dX9_here_12 ?_
    refine g_aload_n (pc := 15) dX9_here_15 0 rfl rfl ?_
    refine gf_X9_89 (pc := 16) rfl dX9_here_16 ?_
    refine g_aload_n (pc := 19) dX9_here_19 0 rfl rfl ?_
    refine gf_X9_83 (pc := 20) rfl dX9_here_20 ?_
    refine g_iadd (pc := 23) dX9_here_23 ?_
    refine g_iald (pc := 24) (a + p) (nI_aE hf hp) rfl (show a + p < 240 by omega) (by decide) dX9_here_24 ?_
    refine g_goto (pc := 25) (tgt := 31) dX9_here_25 (by decide) ?_
    exact g_iret (pc := 31) hM rfl rfl ⟨rfl, some_int (by first | (rw [hereG, if_pos hlt]; done) | (rw [hereG, if_neg (by omega)]; done))⟩ dX9_here_31
set_option maxRecDepth 100000 in
set_option maxHeartbeats 4000000 in
theorem c_X9_kindOf (E : En) (S : St) (c : Int32) : CTe E i_X9_kindOf S [.int c] S (some (.int (kindM c))) := by
  refine ct_of [(0, .int c)] (by decide +kernel) (Nat.le_of_ble_eq_true rfl) rfl (fun X hM => ?_)
  refine g_iload_n (pc := 0) dX9_kindOf_0 0 rfl rfl ?_
  refine g_bipush (pc := 1) (v := 108) dX9_kindOf_1 (by decide) ?_
  refine g_icmp_ne (pc := 3) (tgt := 10) dX9_kindOf_3 (by decide) (fun c_3 => ?_) (fun c_3 => ?_)
  · refine g_iload_n (pc := 10) dX9_kindOf_10 0 rfl rfl ?_
    refine g_bipush (pc := 11) (v := 106) dX9_kindOf_11 (by decide) ?_
    refine g_icmp_ne (pc := 13) (tgt := 20) dX9_kindOf_13 (by decide) (fun c_13 => ?_) (fun c_13 => ?_)
    · refine g_iload_n (pc := 20) dX9_kindOf_20 0 rfl rfl ?_
      refine g_bipush (pc := 21) (v := 100) dX9_kindOf_21 (by decide) ?_
      refine g_icmp_ne (pc := 23) (tgt := 30) dX9_kindOf_23 (by decide) (fun c_23 => ?_) (fun c_23 => ?_)
      · refine g_iload_n (pc := 30) dX9_kindOf_30 0 rfl rfl ?_
        refine g_bipush (pc := 31) (v := 102) dX9_kindOf_31 (by decide) ?_
        refine g_icmp_ne (pc := 33) (tgt := 40) dX9_kindOf_33 (by decide) (fun c_33 => ?_) (fun c_33 => ?_)
        · refine g_iload_n (pc := 40) dX9_kindOf_40 0 rfl rfl ?_
          refine g_bipush (pc := 41) (v := 111) dX9_kindOf_41 (by decide) ?_
          refine g_icmp_ne (pc := 43) (tgt := 50) dX9_kindOf_43 (by decide) (fun c_43 => ?_) (fun c_43 => ?_)
          · refine g_iload_n (pc := 50) dX9_kindOf_50 0 rfl rfl ?_
            refine g_bipush (pc := 51) (v := 109) dX9_kindOf_51 (by decide) ?_
            refine g_icmp_ne (pc := 53) (tgt := 60) dX9_kindOf_53 (by decide) (fun c_53 => ?_) (fun c_53 => ?_)
            · refine g_iconst (pc := 60) (v := -1) dX9_kindOf_60 (by decide) ?_
              exact g_iret (pc := 61) hM rfl rfl ⟨rfl, some_int (by simp only [kindM, c_3, c_13, c_23, c_33, c_43, c_53, if_true, if_false, Bool.false_eq_true, Bool.not_true, Bool.not_false, Bool.and_true, Bool.true_and, Bool.and_false, Bool.false_and, Bool.or_true, Bool.true_or, Bool.or_false, Bool.false_or, decide_true, decide_false, Bool.and_self])⟩ dX9_kindOf_61
            · refine g_iconst (pc := 56) (v := 5) dX9_kindOf_56 (by decide) ?_
              refine g_goto (pc := 57) (tgt := 61) dX9_kindOf_57 (by decide) ?_
              exact g_iret (pc := 61) hM rfl rfl ⟨rfl, some_int (by simp only [kindM, c_3, c_13, c_23, c_33, c_43, eq_true c_53, if_true, if_false, Bool.false_eq_true, Bool.not_true, Bool.not_false, Bool.and_true, Bool.true_and, Bool.and_false, Bool.false_and, Bool.or_true, Bool.true_or, Bool.or_false, Bool.false_or, decide_true, decide_false, Bool.and_self])⟩ dX9_kindOf_61
          · refine g_iconst (pc := 46) (v := 4) dX9_kindOf_46 (by decide) ?_
            refine g_goto (pc := 47) (tgt := 61) dX9_kindOf_47 (by decide) ?_
            exact g_iret (pc := 61) hM rfl rfl ⟨rfl, some_int (by simp only [kindM, c_3, c_13, c_23, c_33, eq_true c_43, if_true, if_false, Bool.false_eq_true, Bool.not_true, Bool.not_false, Bool.and_true, Bool.true_and, Bool.and_false, Bool.false_and, Bool.or_true, Bool.true_or, Bool.or_false, Bool.false_or, decide_true, decide_false, Bool.and_self])⟩ dX9_kindOf_61
        · refine g_iconst (pc := 36) (v := 3) dX9_kindOf_36 (by decide) ?_
          refine g_goto (pc := 37) (tgt := 61) dX9_kindOf_37 (by decide) ?_
          exact g_iret (pc := 61) hM rfl rfl ⟨rfl, some_int (by simp only [kindM, c_3, c_13, c_23, eq_true c_33, if_true, if_false, Bool.false_eq_true, Bool.not_true, Bool.not_false, Bool.and_true, Bool.true_and, Bool.and_false, Bool.false_and, Bool.or_true, Bool.true_or, Bool.or_false, Bool.false_or, decide_true, decide_false, Bool.and_self])⟩ dX9_kindOf_61
      · refine g_iconst (pc := 26) (v := 2) dX9_kindOf_26 (by decide) ?_
        refine g_goto (pc := 27) (tgt := 61) dX9_kindOf_27 (by decide) ?_
        exact g_iret (pc := 61) hM rfl rfl ⟨rfl, some_int (by simp only [kindM, c_3, c_13, eq_true c_23, if_true, if_false, Bool.false_eq_true, Bool.not_true, Bool.not_false, Bool.and_true, Bool.true_and, Bool.and_false, Bool.false_and, Bool.or_true, Bool.true_or, Bool.or_false, Bool.false_or, decide_true, decide_false, Bool.and_self])⟩ dX9_kindOf_61
    · refine g_iconst (pc := 16) (v := 1) dX9_kindOf_16 (by decide) ?_
      refine g_goto (pc := 17) (tgt := 61) dX9_kindOf_17 (by decide) ?_
      exact g_iret (pc := 61) hM rfl rfl ⟨rfl, some_int (by simp only [kindM, c_3, eq_true c_13, if_true, if_false, Bool.false_eq_true, Bool.not_true, Bool.not_false, Bool.and_true, Bool.true_and, Bool.and_false, Bool.false_and, Bool.or_true, Bool.true_or, Bool.or_false, Bool.false_or, decide_true, decide_false, Bool.and_self])⟩ dX9_kindOf_61
  · refine g_iconst (pc := 6) (v := 0) dX9_kindOf_6 (by decide) ?_
    refine g_goto (pc := 7) (tgt := 61) dX9_kindOf_7 (by decide) ?_
    exact g_iret (pc := 61) hM rfl rfl ⟨rfl, some_int (by simp only [kindM, eq_true c_3, if_true, if_false, Bool.false_eq_true, Bool.not_true, Bool.not_false, Bool.and_true, Bool.true_and, Bool.and_false, Bool.false_and, Bool.or_true, Bool.true_or, Bool.or_false, Bool.false_or, decide_true, decide_false, Bool.and_self])⟩ dX9_kindOf_61
def tkS (S : St) (a p m : Nat) (num r : Int32) (rd : Nat → Int32) (high other : Int32) : St := if tkB (hereG S a p m - 48) high other then scS S (nI a) (nI (p + 1)) (nI m) (hereG S a p m - 48) r rd else scS S (nI a) (nI p) (nI m) num r rd
theorem tkS_t {S : St} {a p m : Nat} {num r : Int32} {rd : Nat → Int32} {high other : Int32} (h : tkB (hereG S a p m - 48) high other = true) : tkS S a p m num r rd high other = scS S (nI a) (nI (p + 1)) (nI m) (hereG S a p m - 48) r rd := by rw [tkS, if_pos h]
theorem tkS_f {S : St} {a p m : Nat} {num r : Int32} {rd : Nat → Int32} {high other : Int32} (h : tkB (hereG S a p m - 48) high other = false) : tkS S a p m num r rd high other = scS S (nI a) (nI p) (nI m) num r rd := by rw [tkS, h]; rfl
set_option maxRecDepth 100000 in
set_option maxHeartbeats 4000000 in
theorem c_X9_takes (E : En) (S : St) (a p m : Nat) (num r : Int32) (rd : Nat → Int32) (high other : Int32) (ham : a + m ≤ 240) (hpm : p ≤ 300) : CT E i_X9_takes (scS S (nI a) (nI p) (nI m) num r rd) [.ref (eA E 58), .int high, .int other] (fun S' r' => S' = tkS S a p m num r rd high other ∧ r' = some (.int (bI (tkB (hereG S a p m - 48) high other)))) := by
  refine ct_of [(0, .ref (eA E 58)), (1, .int high), (2, .int other)] (by decide +kernel) (Nat.le_of_ble_eq_true rfl) rfl (fun X hM => ?_)
  refine g_aload_n (pc := 0) dX9_takes_0 0 rfl rfl ?_
  refine g_invV (pc := 1) j_X9_here mw_X9_92 dX9_takes_1 rcv_X9 (by rfl) (c_X9_here E (scS S (nI a) (nI p) (nI m) num r rd) a p m sc_g12 sc_g13 sc_g11 (by omega) (by omega)) (Nat.le_of_ble_eq_true rfl) (Nat.le_of_ble_eq_true rfl) (by rfl) (Nat.le_of_ble_eq_true rfl) ?_
  rw [here_sc]
  refine g_bipush (pc := 4) (v := 48) dX9_takes_4 (by decide) ?_
  refine g_isub (pc := 6) dX9_takes_6 ?_
  refine g_istore_n (pc := 7) (L' := [(3, .int (hereG S a p m - 48)), (0, .ref (eA E 58)), (1, .int high), (2, .int other)]) dX9_takes_7 rfl (Nat.le_of_ble_eq_true rfl) rfl ?_
  refine g_iload_n (pc := 8) dX9_takes_8 0 rfl rfl ?_
  refine g_i2l (pc := 9) dX9_takes_9 ?_
  refine g_lconst (pc := 10) (v := 0) dX9_takes_10 (by decide) ?_
  refine g_iload_n (pc := 11) dX9_takes_11 2 rfl rfl ?_
  refine g_i2l (pc := 12) dX9_takes_12 ?_
  refine g_invS (pc := 13) j_X9_in mw_X9_62 dX9_takes_13 (by rfl) (c_X9_in E (scS S (nI a) (nI p) (nI m) num r rd) ((hereG S a p m - 48).toInt64) 0 high.toInt64 ) (Nat.le_of_ble_eq_true rfl) (Nat.le_of_ble_eq_true rfl) (by rfl) (Nat.le_of_ble_eq_true rfl) ?_
  refine g_b_eq (pc := 16) (tgt := 24) dX9_takes_16 (by decide) (fun c_16 => ?_) (fun c_16 => ?_)
  · refine g_iconst (pc := 24) (v := 0) dX9_takes_24 (by decide) ?_
    exact g_iret (pc := 25) hM rfl rfl ⟨by rw [tkS_f (by simp only [tkB, c_16, if_true, if_false, Bool.false_eq_true, Bool.not_true, Bool.not_false, Bool.and_true, Bool.true_and, Bool.and_false, Bool.false_and, Bool.or_true, Bool.true_or, Bool.or_false, Bool.false_or, decide_true, decide_false, Bool.and_self])], some_int (by rw [show tkB (hereG S a p m - 48) high other = false by simp only [tkB, c_16, if_true, if_false, Bool.false_eq_true, Bool.not_true, Bool.not_false, Bool.and_true, Bool.true_and, Bool.and_false, Bool.false_and, Bool.or_true, Bool.true_or, Bool.or_false, Bool.false_or, decide_true, decide_false, Bool.and_self]]; rfl)⟩ dX9_takes_25
  · refine g_iload_n (pc := 19) dX9_takes_19 0 rfl rfl ?_
    refine g_iload_n (pc := 20) dX9_takes_20 3 rfl rfl ?_
    refine g_icmp_ne (pc := 21) (tgt := 26) dX9_takes_21 (by decide) (fun c_21 => ?_) (fun c_21 => ?_)
    · refine g_aload_n (pc := 26) dX9_takes_26 1 rfl rfl ?_
      refine g_iload_n (pc := 27) dX9_takes_27 0 rfl rfl ?_
      refine pf_X9_96 (pc := 28) rfl dX9_takes_28 ?_
      rw [sc_s14]
      refine g_aload_n (pc := 31) dX9_takes_31 1 rfl rfl ?_
      refine g_dup (pc := 32) dX9_takes_32 rfl ?_
      refine gf_X9_83 (pc := 33) rfl dX9_takes_33 ?_
      rw [sc_g12]
      refine g_iconst (pc := 36) (v := 1) dX9_takes_36 (by decide) ?_
      refine g_iadd (pc := 37) dX9_takes_37 ?_
      refine pf_X9_83 (pc := 38) rfl dX9_takes_38 ?_
      rw [sc_s12]
      rw [show nI p + 1 = nI (p + 1) from nI_1 _]
      refine g_iconst (pc := 41) (v := 1) dX9_takes_41 (by decide) ?_
      exact g_iret (pc := 42) hM rfl rfl ⟨by rw [tkS_t (by simp only [tkB, c_16, c_21, if_true, if_false, Bool.false_eq_true, Bool.not_true, Bool.not_false, Bool.and_true, Bool.true_and, Bool.and_false, Bool.false_and, Bool.or_true, Bool.true_or, Bool.or_false, Bool.false_or, decide_true, decide_false, Bool.and_self])], some_int (by rw [show tkB (hereG S a p m - 48) high other = true by simp only [tkB, c_16, c_21, if_true, if_false, Bool.false_eq_true, Bool.not_true, Bool.not_false, Bool.and_true, Bool.true_and, Bool.and_false, Bool.false_and, Bool.or_true, Bool.true_or, Bool.or_false, Bool.false_or, decide_true, decide_false, Bool.and_self]]; rfl)⟩ dX9_takes_42
    · refine g_iconst (pc := 24) (v := 0) dX9_takes_24 (by decide) ?_
      exact g_iret (pc := 25) hM rfl rfl ⟨by rw [tkS_f (by simp only [tkB, c_16, eq_true c_21, if_true, if_false, Bool.false_eq_true, Bool.not_true, Bool.not_false, Bool.and_true, Bool.true_and, Bool.and_false, Bool.false_and, Bool.or_true, Bool.true_or, Bool.or_false, Bool.false_or, decide_true, decide_false, Bool.and_self])], some_int (by rw [show tkB (hereG S a p m - 48) high other = false by simp only [tkB, c_16, eq_true c_21, if_true, if_false, Bool.false_eq_true, Bool.not_true, Bool.not_false, Bool.and_true, Bool.true_and, Bool.and_false, Bool.false_and, Bool.or_true, Bool.true_or, Bool.or_false, Bool.false_or, decide_true, decide_false, Bool.and_self]]; rfl)⟩ dX9_takes_25
set_option maxRecDepth 100000 in
set_option maxHeartbeats 4000000 in
theorem c_X9_takesLight (E : En) (S : St) (a p m r : Nat) (num : Int32) (rd : Nat → Int32) (ham : a + m ≤ 240) (hpm : p ≤ 290) (hr : r ≤ 8) : CT E i_X9_takesLight (scS S (nI a) (nI p) (nI m) num (nI r) rd) [.ref (eA E 58)] (fun S' r' => r' = some (.int (bI (tlB S a p m r))) ∧ ∃ (num' : Int32) (rd' : Nat → Int32), S' = scS S (nI a) (nI (tlQ S a p m r)) (nI m) num' (nI (if tlB S a p m r then r + 1 else r)) rd' ∧ (tlB S a p m r = true → rd' = rd5 S a p m r rd)) := by
  refine ct_of [(0, .ref (eA E 58))] (by decide +kernel) (Nat.le_of_ble_eq_true rfl) rfl (fun X hM => ?_)
  refine g_aload_n (pc := 0) dX9_takesLight_0 0 rfl rfl ?_
  refine g_invV (pc := 1) j_X9_here mw_X9_92 dX9_takesLight_1 rcv_X9 (by rfl) (c_X9_here E (scS S (nI a) (nI p) (nI m) num (nI r) rd) a p m sc_g12 sc_g13 sc_g11 (by omega) (by omega)) (Nat.le_of_ble_eq_true rfl) (Nat.le_of_ble_eq_true rfl) (by rfl) (Nat.le_of_ble_eq_true rfl) ?_
  rw [here_sc]
  refine g_invS (pc := 4) j_X9_kindOf mw_X9_99 dX9_takesLight_4 (by rfl) (c_X9_kindOf E (scS S (nI a) (nI p) (nI m) num (nI r) rd) (hereG S a p m) ) (Nat.le_of_ble_eq_true rfl) (Nat.le_of_ble_eq_true rfl) (by rfl) (Nat.le_of_ble_eq_true rfl) ?_
  refine g_istore_n (pc := 7) (L' := [(1, .int (kindM (hereG S a p m))), (0, .ref (eA E 58))]) dX9_takesLight_7 rfl (Nat.le_of_ble_eq_true rfl) rfl ?_
  refine g_iload_n (pc := 8) dX9_takesLight_8 0 rfl rfl ?_
  refine g_if_lt (pc := 9) (tgt := 21) dX9_takesLight_9 (by decide) (fun c_9 => ?_) (fun c_9 => ?_)
  · have k_9 := Int32.not_le.mpr c_9
    refine g_iconst (pc := 21) (v := 0) dX9_takesLight_21 (by decide) ?_
    exact g_iret (pc := 22) hM rfl rfl (by have e : (decide (0 ≤ kindM (hereG S a p m)) && !decide (nI r = 8)) = false := (by simp [Int32.not_le.mpr c_9]); exact ⟨by simp only [tlB, e, Bool.false_and]; rfl, num, rd, by simp only [tlQ, tlB, e, Bool.false_and, if_false, Bool.false_eq_true], fun q => by simp only [tlB, e, Bool.false_and] at q; cases q⟩) dX9_takesLight_22
  · have k_9 := Int32.not_lt.mp c_9
    refine g_aload_n (pc := 12) dX9_takesLight_12 1 rfl rfl ?_
    refine gf_X9_102 (pc := 13) rfl dX9_takesLight_13 ?_
    rw [sc_g15]
    refine g_bipush (pc := 16) (v := 8) dX9_takesLight_16 (by decide) ?_
    refine g_icmp_ne (pc := 18) (tgt := 23) dX9_takesLight_18 (by decide) (fun c_18 => ?_) (fun c_18 => ?_)
    · have hr8 : r < 8 := by rcases Nat.lt_or_ge r 8 with q | q; exact q; exact absurd (by rw [show r = 8 by omega]; rfl) c_18
      refine g_aload_n (pc := 23) dX9_takesLight_23 1 rfl rfl ?_
      refine g_dup (pc := 24) dX9_takesLight_24 rfl ?_
      refine gf_X9_83 (pc := 25) rfl dX9_takesLight_25 ?_
      rw [sc_g12]
      refine g_iconst (pc := 28) (v := 1) dX9_takesLight_28 (by decide) ?_
      refine g_iadd (pc := 29) dX9_takesLight_29 ?_
      refine pf_X9_83 (pc := 30) rfl dX9_takesLight_30 ?_
      rw [sc_s12]
      rw [show nI p + 1 = nI (p + 1) from nI_1 _]
      refine g_iconst (pc := 33) (v := 5) dX9_takesLight_33 (by decide) ?_
      refine g_aload_n (pc := 34) dX9_takesLight_34 1 rfl rfl ?_
      refine gf_X9_102 (pc := 35) rfl dX9_takesLight_35 ?_
      rw [sc_g15]
      refine g_imul (pc := 38) dX9_takesLight_38 ?_
      refine g_istore_n (pc := 39) (L' := [(2, .int (5 * nI r)), (1, .int (kindM (hereG S a p m))), (0, .ref (eA E 58))]) dX9_takesLight_39 rfl (Nat.le_of_ble_eq_true rfl) rfl ?_
      refine g_aload_n (pc := 40) dX9_takesLight_40 2 rfl rfl ?_
      refine gf_X9_35 (pc := 41) rfl dX9_takesLight_41 ?_
      refine g_iload_n (pc := 44) dX9_takesLight_44 0 rfl rfl ?_
      refine g_iload_n (pc := 45) dX9_takesLight_45 1 rfl rfl ?_
      refine g_iast (pc := 46) (5 * r) (nI_mE rfl rfl) rfl (show 5 * r < 40 by omega) (by decide) dX9_takesLight_46 ?_
      rw [sc_w]
      refine g_iconst (pc := 47) (v := 1) dX9_takesLight_47 (by decide) ?_
      refine g_istore_n (pc := 48) (L' := [(3, .int 1), (2, .int (5 * nI r)), (1, .int (kindM (hereG S a p m))), (0, .ref (eA E 58))]) dX9_takesLight_48 rfl (Nat.le_of_ble_eq_true rfl) rfl ?_
      refine g_iload_n (pc := 49) dX9_takesLight_49 0 rfl rfl ?_
      refine g_iconst (pc := 50) (v := 5) dX9_takesLight_50 (by decide) ?_
      refine g_icmp_ge (pc := 51) (tgt := 109) dX9_takesLight_51 (by decide) (fun c_51 => ?_) (fun c_51 => ?_)
      · have k_51 := Int32.not_lt.mpr c_51
        exact absurd c_51 (by decide)
      · have k_51 := Int32.not_le.mp c_51
        refine g_aload_n (pc := 54) dX9_takesLight_54 3 rfl rfl ?_
        refine g_iload_n (pc := 55) dX9_takesLight_55 0 rfl rfl ?_
        refine g_iconst (pc := 56) (v := 3) dX9_takesLight_56 (by decide) ?_
        refine g_icmp_ge (pc := 57) (tgt := 64) dX9_takesLight_57 (by decide) (fun c_57 => ?_) (fun c_57 => ?_)
        · have k_57 := Int32.not_lt.mpr c_57
          exact absurd c_57 (by decide)
        · have k_57 := Int32.not_le.mp c_57
          refine g_iconst (pc := 60) (v := 5) dX9_takesLight_60 (by decide) ?_
          refine g_goto (pc := 61) (tgt := 66) dX9_takesLight_61 (by decide) ?_
          refine g_iload_n (pc := 66) dX9_takesLight_66 0 rfl rfl ?_
          refine g_iconst (pc := 67) (v := 2) dX9_takesLight_67 (by decide) ?_
          refine g_icmp_ne (pc := 68) (tgt := 82) dX9_takesLight_68 (by decide) (fun c_68 => ?_) (fun c_68 => ?_)
          · refine g_iconst (pc := 82) (v := -1) dX9_takesLight_82 (by decide) ?_
            refine g_invV (pc := 83) j_X9_takes mw_X9_105 dX9_takesLight_83 rcv_X9 (by rfl) (c_X9_takes E S a (p + 1) m num (nI r) (upd rd (5 * r) (kindM (hereG S a p m))) 5 (-1) (by omega) (by omega)) (Nat.le_of_ble_eq_true rfl) (Nat.le_of_ble_eq_true rfl) (by rfl) (Nat.le_of_ble_eq_true rfl) ?_
            refine g_b_ne (pc := 86) (tgt := 91) dX9_takesLight_86 (by decide) (fun c_86 => ?_) (fun c_86 => ?_)
            · rw [tkS_t c_86]
              have u_1 := c_86
              refine g_aload_n (pc := 91) dX9_takesLight_91 3 rfl rfl ?_
              refine gf_X9_35 (pc := 92) rfl dX9_takesLight_92 ?_
              refine g_iload_n (pc := 95) dX9_takesLight_95 1 rfl rfl ?_
              refine g_iload_n (pc := 96) dX9_takesLight_96 0 rfl rfl ?_
              refine g_iadd (pc := 97) dX9_takesLight_97 ?_
              refine g_aload_n (pc := 98) dX9_takesLight_98 3 rfl rfl ?_
              refine gf_X9_96 (pc := 99) rfl dX9_takesLight_99 ?_
              rw [sc_g14]
              refine g_iast (pc := 102) ((5 * r) + 1) (nI_aE (nI_mE rfl rfl) rfl) rfl (show (5 * r) + 1 < 40 by omega) (by decide) dX9_takesLight_102 ?_
              rw [sc_w]
              refine g_iinc (pc := 103) (L' := [(3, .int 2), (2, .int (5 * nI r)), (1, .int (kindM (hereG S a p m))), (0, .ref (eA E 58))]) dX9_takesLight_103 (k := 0) rfl (v := 2) (by decide) (Nat.le_of_ble_eq_true rfl) rfl ?_
              refine g_goto (pc := 106) (tgt := 49) dX9_takesLight_106 (by decide) ?_
              refine g_iload_n (pc := 49) dX9_takesLight_49 0 rfl rfl ?_
              refine g_iconst (pc := 50) (v := 5) dX9_takesLight_50 (by decide) ?_
              refine g_icmp_ge (pc := 51) (tgt := 109) dX9_takesLight_51 (by decide) (fun c_51 => ?_) (fun c_51 => ?_)
              · have k_51 := Int32.not_lt.mpr c_51
                exact absurd c_51 (by decide)
              · have k_51 := Int32.not_le.mp c_51
                refine g_aload_n (pc := 54) dX9_takesLight_54 3 rfl rfl ?_
                refine g_iload_n (pc := 55) dX9_takesLight_55 0 rfl rfl ?_
                refine g_iconst (pc := 56) (v := 3) dX9_takesLight_56 (by decide) ?_
                refine g_icmp_ge (pc := 57) (tgt := 64) dX9_takesLight_57 (by decide) (fun c_57 => ?_) (fun c_57 => ?_)
                · have k_57 := Int32.not_lt.mpr c_57
                  exact absurd c_57 (by decide)
                · have k_57 := Int32.not_le.mp c_57
                  refine g_iconst (pc := 60) (v := 5) dX9_takesLight_60 (by decide) ?_
                  refine g_goto (pc := 61) (tgt := 66) dX9_takesLight_61 (by decide) ?_
                  refine g_iload_n (pc := 66) dX9_takesLight_66 0 rfl rfl ?_
                  refine g_iconst (pc := 67) (v := 2) dX9_takesLight_67 (by decide) ?_
                  refine g_icmp_ne (pc := 68) (tgt := 82) dX9_takesLight_68 (by decide) (fun c_68 => ?_) (fun c_68 => ?_)
                  · exact absurd c_68 (by decide)
                  · refine g_aload_n (pc := 71) dX9_takesLight_71 3 rfl rfl ?_
                    refine gf_X9_35 (pc := 72) rfl dX9_takesLight_72 ?_
                    refine g_iload_n (pc := 75) dX9_takesLight_75 1 rfl rfl ?_
                    refine g_iconst (pc := 76) (v := 1) dX9_takesLight_76 (by decide) ?_
                    refine g_iadd (pc := 77) dX9_takesLight_77 ?_
                    refine g_iald (pc := 78) ((5 * r) + 1) (nI_aE (nI_mE rfl rfl) rfl) rfl (show (5 * r) + 1 < 40 by omega) (by decide) dX9_takesLight_78 ?_
                    rw [sc_r]
                    refine g_goto (pc := 79) (tgt := 83) dX9_takesLight_79 (by decide) ?_
                    refine g_invV (pc := 83) j_X9_takes mw_X9_105 dX9_takesLight_83 rcv_X9 (by rfl) (c_X9_takes E S a (p + 1 + 1) m (hereG S a (p + 1) m - 48) (nI r) (upd (upd rd (5 * r) (kindM (hereG S a p m))) ((5 * r) + 1) (hereG S a (p + 1) m - 48)) 5 ((upd (upd rd (5 * r) (kindM (hereG S a p m))) ((5 * r) + 1) (hereG S a (p + 1) m - 48)) ((5 * r) + 1)) (by omega) (by omega)) (Nat.le_of_ble_eq_true rfl) (Nat.le_of_ble_eq_true rfl) (by rfl) (Nat.le_of_ble_eq_true rfl) ?_
                    refine g_b_ne (pc := 86) (tgt := 91) dX9_takesLight_86 (by decide) (fun c_86 => ?_) (fun c_86 => ?_)
                    · rw [tkS_t c_86]
                      have u_2 := c_86; rw [pk_us] at u_2
                      refine g_aload_n (pc := 91) dX9_takesLight_91 3 rfl rfl ?_
                      refine gf_X9_35 (pc := 92) rfl dX9_takesLight_92 ?_
                      refine g_iload_n (pc := 95) dX9_takesLight_95 1 rfl rfl ?_
                      refine g_iload_n (pc := 96) dX9_takesLight_96 0 rfl rfl ?_
                      refine g_iadd (pc := 97) dX9_takesLight_97 ?_
                      refine g_aload_n (pc := 98) dX9_takesLight_98 3 rfl rfl ?_
                      refine gf_X9_96 (pc := 99) rfl dX9_takesLight_99 ?_
                      rw [sc_g14]
                      refine g_iast (pc := 102) ((5 * r) + 2) (nI_aE (nI_mE rfl rfl) rfl) rfl (show (5 * r) + 2 < 40 by omega) (by decide) dX9_takesLight_102 ?_
                      rw [sc_w]
                      refine g_iinc (pc := 103) (L' := [(3, .int 3), (2, .int (5 * nI r)), (1, .int (kindM (hereG S a p m))), (0, .ref (eA E 58))]) dX9_takesLight_103 (k := 0) rfl (v := 3) (by decide) (Nat.le_of_ble_eq_true rfl) rfl ?_
                      refine g_goto (pc := 106) (tgt := 49) dX9_takesLight_106 (by decide) ?_
                      refine g_iload_n (pc := 49) dX9_takesLight_49 0 rfl rfl ?_
                      refine g_iconst (pc := 50) (v := 5) dX9_takesLight_50 (by decide) ?_
                      refine g_icmp_ge (pc := 51) (tgt := 109) dX9_takesLight_51 (by decide) (fun c_51 => ?_) (fun c_51 => ?_)
                      · have k_51 := Int32.not_lt.mpr c_51
                        exact absurd c_51 (by decide)
                      · have k_51 := Int32.not_le.mp c_51
                        refine g_aload_n (pc := 54) dX9_takesLight_54 3 rfl rfl ?_
                        refine g_iload_n (pc := 55) dX9_takesLight_55 0 rfl rfl ?_
                        refine g_iconst (pc := 56) (v := 3) dX9_takesLight_56 (by decide) ?_
                        refine g_icmp_ge (pc := 57) (tgt := 64) dX9_takesLight_57 (by decide) (fun c_57 => ?_) (fun c_57 => ?_)
                        · have k_57 := Int32.not_lt.mpr c_57
                          refine g_bipush (pc := 64) (v := 9) dX9_takesLight_64 (by decide) ?_
                          refine g_iload_n (pc := 66) dX9_takesLight_66 0 rfl rfl ?_
                          refine g_iconst (pc := 67) (v := 2) dX9_takesLight_67 (by decide) ?_
                          refine g_icmp_ne (pc := 68) (tgt := 82) dX9_takesLight_68 (by decide) (fun c_68 => ?_) (fun c_68 => ?_)
                          · refine g_iconst (pc := 82) (v := -1) dX9_takesLight_82 (by decide) ?_
                            refine g_invV (pc := 83) j_X9_takes mw_X9_105 dX9_takesLight_83 rcv_X9 (by rfl) (c_X9_takes E S a (p + 1 + 1 + 1) m (hereG S a (p + 1 + 1) m - 48) (nI r) (upd (upd (upd rd (5 * r) (kindM (hereG S a p m))) ((5 * r) + 1) (hereG S a (p + 1) m - 48)) ((5 * r) + 2) (hereG S a (p + 1 + 1) m - 48)) 9 (-1) (by omega) (by omega)) (Nat.le_of_ble_eq_true rfl) (Nat.le_of_ble_eq_true rfl) (by rfl) (Nat.le_of_ble_eq_true rfl) ?_
                            refine g_b_ne (pc := 86) (tgt := 91) dX9_takesLight_86 (by decide) (fun c_86 => ?_) (fun c_86 => ?_)
                            · rw [tkS_t c_86]
                              have u_3 := c_86
                              refine g_aload_n (pc := 91) dX9_takesLight_91 3 rfl rfl ?_
                              refine gf_X9_35 (pc := 92) rfl dX9_takesLight_92 ?_
                              refine g_iload_n (pc := 95) dX9_takesLight_95 1 rfl rfl ?_
                              refine g_iload_n (pc := 96) dX9_takesLight_96 0 rfl rfl ?_
                              refine g_iadd (pc := 97) dX9_takesLight_97 ?_
                              refine g_aload_n (pc := 98) dX9_takesLight_98 3 rfl rfl ?_
                              refine gf_X9_96 (pc := 99) rfl dX9_takesLight_99 ?_
                              rw [sc_g14]
                              refine g_iast (pc := 102) ((5 * r) + 3) (nI_aE (nI_mE rfl rfl) rfl) rfl (show (5 * r) + 3 < 40 by omega) (by decide) dX9_takesLight_102 ?_
                              rw [sc_w]
                              refine g_iinc (pc := 103) (L' := [(3, .int 4), (2, .int (5 * nI r)), (1, .int (kindM (hereG S a p m))), (0, .ref (eA E 58))]) dX9_takesLight_103 (k := 0) rfl (v := 4) (by decide) (Nat.le_of_ble_eq_true rfl) rfl ?_
                              refine g_goto (pc := 106) (tgt := 49) dX9_takesLight_106 (by decide) ?_
                              refine g_iload_n (pc := 49) dX9_takesLight_49 0 rfl rfl ?_
                              refine g_iconst (pc := 50) (v := 5) dX9_takesLight_50 (by decide) ?_
                              refine g_icmp_ge (pc := 51) (tgt := 109) dX9_takesLight_51 (by decide) (fun c_51 => ?_) (fun c_51 => ?_)
                              · have k_51 := Int32.not_lt.mpr c_51
                                exact absurd c_51 (by decide)
                              · have k_51 := Int32.not_le.mp c_51
                                refine g_aload_n (pc := 54) dX9_takesLight_54 3 rfl rfl ?_
                                refine g_iload_n (pc := 55) dX9_takesLight_55 0 rfl rfl ?_
                                refine g_iconst (pc := 56) (v := 3) dX9_takesLight_56 (by decide) ?_
                                refine g_icmp_ge (pc := 57) (tgt := 64) dX9_takesLight_57 (by decide) (fun c_57 => ?_) (fun c_57 => ?_)
                                · have k_57 := Int32.not_lt.mpr c_57
                                  refine g_bipush (pc := 64) (v := 9) dX9_takesLight_64 (by decide) ?_
                                  refine g_iload_n (pc := 66) dX9_takesLight_66 0 rfl rfl ?_
                                  refine g_iconst (pc := 67) (v := 2) dX9_takesLight_67 (by decide) ?_
                                  refine g_icmp_ne (pc := 68) (tgt := 82) dX9_takesLight_68 (by decide) (fun c_68 => ?_) (fun c_68 => ?_)
                                  · refine g_iconst (pc := 82) (v := -1) dX9_takesLight_82 (by decide) ?_
                                    refine g_invV (pc := 83) j_X9_takes mw_X9_105 dX9_takesLight_83 rcv_X9 (by rfl) (c_X9_takes E S a (p + 1 + 1 + 1 + 1) m (hereG S a (p + 1 + 1 + 1) m - 48) (nI r) (upd (upd (upd (upd rd (5 * r) (kindM (hereG S a p m))) ((5 * r) + 1) (hereG S a (p + 1) m - 48)) ((5 * r) + 2) (hereG S a (p + 1 + 1) m - 48)) ((5 * r) + 3) (hereG S a (p + 1 + 1 + 1) m - 48)) 9 (-1) (by omega) (by omega)) (Nat.le_of_ble_eq_true rfl) (Nat.le_of_ble_eq_true rfl) (by rfl) (Nat.le_of_ble_eq_true rfl) ?_
                                    refine g_b_ne (pc := 86) (tgt := 91) dX9_takesLight_86 (by decide) (fun c_86 => ?_) (fun c_86 => ?_)
                                    · rw [tkS_t c_86]
                                      have u_4 := c_86
                                      refine g_aload_n (pc := 91) dX9_takesLight_91 3 rfl rfl ?_
                                      refine gf_X9_35 (pc := 92) rfl dX9_takesLight_92 ?_
                                      refine g_iload_n (pc := 95) dX9_takesLight_95 1 rfl rfl ?_
                                      refine g_iload_n (pc := 96) dX9_takesLight_96 0 rfl rfl ?_
                                      refine g_iadd (pc := 97) dX9_takesLight_97 ?_
                                      refine g_aload_n (pc := 98) dX9_takesLight_98 3 rfl rfl ?_
                                      refine gf_X9_96 (pc := 99) rfl dX9_takesLight_99 ?_
                                      rw [sc_g14]
                                      refine g_iast (pc := 102) ((5 * r) + 4) (nI_aE (nI_mE rfl rfl) rfl) rfl (show (5 * r) + 4 < 40 by omega) (by decide) dX9_takesLight_102 ?_
                                      rw [sc_w]
                                      refine g_iinc (pc := 103) (L' := [(3, .int 5), (2, .int (5 * nI r)), (1, .int (kindM (hereG S a p m))), (0, .ref (eA E 58))]) dX9_takesLight_103 (k := 0) rfl (v := 5) (by decide) (Nat.le_of_ble_eq_true rfl) rfl ?_
                                      refine g_goto (pc := 106) (tgt := 49) dX9_takesLight_106 (by decide) ?_
                                      refine g_iload_n (pc := 49) dX9_takesLight_49 0 rfl rfl ?_
                                      refine g_iconst (pc := 50) (v := 5) dX9_takesLight_50 (by decide) ?_
                                      refine g_icmp_ge (pc := 51) (tgt := 109) dX9_takesLight_51 (by decide) (fun c_51 => ?_) (fun c_51 => ?_)
                                      · have k_51 := Int32.not_lt.mpr c_51
                                        refine g_aload_n (pc := 109) dX9_takesLight_109 3 rfl rfl ?_
                                        refine g_dup (pc := 110) dX9_takesLight_110 rfl ?_
                                        refine gf_X9_102 (pc := 111) rfl dX9_takesLight_111 ?_
                                        rw [sc_g15]
                                        refine g_iconst (pc := 114) (v := 1) dX9_takesLight_114 (by decide) ?_
                                        refine g_iadd (pc := 115) dX9_takesLight_115 ?_
                                        refine pf_X9_102 (pc := 116) rfl dX9_takesLight_116 ?_
                                        rw [sc_s15]
                                        rw [show nI r + 1 = nI (r + 1) from nI_1 _]
                                        refine g_iconst (pc := 119) (v := 1) dX9_takesLight_119 (by decide) ?_
                                        exact g_iret (pc := 120) hM rfl rfl (by have e : (decide (0 ≤ kindM (hereG S a p m)) && !decide (nI r = 8)) = true := (by simp [Int32.not_lt.mp c_9, c_18]); have e1 : tkB (vG S a p m 1) 5 (-1) = true := u_1; have e2 : tkB (vG S a p m 2) 5 (vG S a p m 1) = true := u_2; have e3 : tkB (vG S a p m 3) 9 (-1) = true := u_3; have e4 : tkB (vG S a p m 4) 9 (-1) = true := u_4; exact ⟨by simp only [tlB, e, e1, e2, e3, e4, Bool.and_self, Bool.true_and, Bool.and_true]; rfl, (hereG S a (p + 1 + 1 + 1 + 1) m - 48), (upd (upd (upd (upd (upd rd (5 * r) (kindM (hereG S a p m))) ((5 * r) + 1) (hereG S a (p + 1) m - 48)) ((5 * r) + 2) (hereG S a (p + 1 + 1) m - 48)) ((5 * r) + 3) (hereG S a (p + 1 + 1 + 1) m - 48)) ((5 * r) + 4) (hereG S a (p + 1 + 1 + 1 + 1) m - 48)), by simp only [tlQ, tlB, e, e1, e2, e3, e4, Bool.and_self, Bool.true_and, Bool.and_true, if_true, nI_1] <;> rfl, fun _ => rfl⟩) dX9_takesLight_120
                                      · have k_51 := Int32.not_le.mp c_51
                                        exact absurd c_51 (by decide)
                                    · rw [tkS_f c_86]
                                      have u_4 := c_86
                                      refine g_iconst (pc := 89) (v := 0) dX9_takesLight_89 (by decide) ?_
                                      exact g_iret (pc := 90) hM rfl rfl (by have e : (decide (0 ≤ kindM (hereG S a p m)) && !decide (nI r = 8)) = true := (by simp [Int32.not_lt.mp c_9, c_18]); have e1 : tkB (vG S a p m 1) 5 (-1) = true := u_1; have e2 : tkB (vG S a p m 2) 5 (vG S a p m 1) = true := u_2; have e3 : tkB (vG S a p m 3) 9 (-1) = true := u_3; have e4 : tkB (vG S a p m 4) 9 (-1) = false := u_4; exact ⟨by simp only [tlB, e, e1, e2, e3, e4, Bool.and_self, Bool.true_and, Bool.and_true, Bool.and_false, Bool.false_and]; rfl, (hereG S a (p + 1 + 1 + 1) m - 48), (upd (upd (upd (upd rd (5 * r) (kindM (hereG S a p m))) ((5 * r) + 1) (hereG S a (p + 1) m - 48)) ((5 * r) + 2) (hereG S a (p + 1 + 1) m - 48)) ((5 * r) + 3) (hereG S a (p + 1 + 1 + 1) m - 48)), by simp only [tlQ, tlB, e, e1, e2, e3, e4, Bool.and_self, Bool.true_and, Bool.and_true, Bool.and_false, Bool.false_and, if_true, if_false, Bool.false_eq_true], fun q => by simp only [tlB, e, e1, e2, e3, e4, Bool.and_self, Bool.true_and, Bool.and_true, Bool.and_false, Bool.false_and, Bool.false_eq_true] at q⟩) dX9_takesLight_90
                                  · exact absurd c_68 (by decide)
                                · have k_57 := Int32.not_le.mp c_57
                                  exact absurd c_57 (by decide)
                            · rw [tkS_f c_86]
                              have u_3 := c_86
                              refine g_iconst (pc := 89) (v := 0) dX9_takesLight_89 (by decide) ?_
                              exact g_iret (pc := 90) hM rfl rfl (by have e : (decide (0 ≤ kindM (hereG S a p m)) && !decide (nI r = 8)) = true := (by simp [Int32.not_lt.mp c_9, c_18]); have e1 : tkB (vG S a p m 1) 5 (-1) = true := u_1; have e2 : tkB (vG S a p m 2) 5 (vG S a p m 1) = true := u_2; have e3 : tkB (vG S a p m 3) 9 (-1) = false := u_3; exact ⟨by simp only [tlB, e, e1, e2, e3, Bool.and_self, Bool.true_and, Bool.and_true, Bool.and_false, Bool.false_and]; rfl, (hereG S a (p + 1 + 1) m - 48), (upd (upd (upd rd (5 * r) (kindM (hereG S a p m))) ((5 * r) + 1) (hereG S a (p + 1) m - 48)) ((5 * r) + 2) (hereG S a (p + 1 + 1) m - 48)), by simp only [tlQ, tlB, e, e1, e2, e3, Bool.and_self, Bool.true_and, Bool.and_true, Bool.and_false, Bool.false_and, if_true, if_false, Bool.false_eq_true], fun q => by simp only [tlB, e, e1, e2, e3, Bool.and_self, Bool.true_and, Bool.and_true, Bool.and_false, Bool.false_and, Bool.false_eq_true] at q⟩) dX9_takesLight_90
                          · exact absurd c_68 (by decide)
                        · have k_57 := Int32.not_le.mp c_57
                          exact absurd c_57 (by decide)
                    · rw [tkS_f c_86]
                      have u_2 := c_86; rw [pk_us] at u_2
                      refine g_iconst (pc := 89) (v := 0) dX9_takesLight_89 (by decide) ?_
                      exact g_iret (pc := 90) hM rfl rfl (by have e : (decide (0 ≤ kindM (hereG S a p m)) && !decide (nI r = 8)) = true := (by simp [Int32.not_lt.mp c_9, c_18]); have e1 : tkB (vG S a p m 1) 5 (-1) = true := u_1; have e2 : tkB (vG S a p m 2) 5 (vG S a p m 1) = false := u_2; exact ⟨by simp only [tlB, e, e1, e2, Bool.and_self, Bool.true_and, Bool.and_true, Bool.and_false, Bool.false_and]; rfl, (hereG S a (p + 1) m - 48), (upd (upd rd (5 * r) (kindM (hereG S a p m))) ((5 * r) + 1) (hereG S a (p + 1) m - 48)), by simp only [tlQ, tlB, e, e1, e2, Bool.and_self, Bool.true_and, Bool.and_true, Bool.and_false, Bool.false_and, if_true, if_false, Bool.false_eq_true], fun q => by simp only [tlB, e, e1, e2, Bool.and_self, Bool.true_and, Bool.and_true, Bool.and_false, Bool.false_and, Bool.false_eq_true] at q⟩) dX9_takesLight_90
            · rw [tkS_f c_86]
              have u_1 := c_86
              refine g_iconst (pc := 89) (v := 0) dX9_takesLight_89 (by decide) ?_
              exact g_iret (pc := 90) hM rfl rfl (by have e : (decide (0 ≤ kindM (hereG S a p m)) && !decide (nI r = 8)) = true := (by simp [Int32.not_lt.mp c_9, c_18]); have e1 : tkB (vG S a p m 1) 5 (-1) = false := u_1; exact ⟨by simp only [tlB, e, e1, Bool.and_self, Bool.true_and, Bool.and_true, Bool.and_false, Bool.false_and]; rfl, num, (upd rd (5 * r) (kindM (hereG S a p m))), by simp only [tlQ, tlB, e, e1, Bool.and_self, Bool.true_and, Bool.and_true, Bool.and_false, Bool.false_and, if_true, if_false, Bool.false_eq_true], fun q => by simp only [tlB, e, e1, Bool.and_self, Bool.true_and, Bool.and_true, Bool.and_false, Bool.false_and, Bool.false_eq_true] at q⟩) dX9_takesLight_90
          · exact absurd c_68 (by decide)
    · refine g_iconst (pc := 21) (v := 0) dX9_takesLight_21 (by decide) ?_
      exact g_iret (pc := 22) hM rfl rfl (by have e : (decide (0 ≤ kindM (hereG S a p m)) && !decide (nI r = 8)) = false := (by simp [c_18]); exact ⟨by simp only [tlB, e, Bool.false_and]; rfl, num, rd, by simp only [tlQ, tlB, e, Bool.false_and, if_false, Bool.false_eq_true], fun q => by simp only [tlB, e, Bool.false_and] at q; cases q⟩) dX9_takesLight_22
theorem tlQ_t {S : St} {a p m r : Nat} (h : tlB S a p m r = true) : tlQ S a p m r = p + 5 := by
  unfold tlB at h
  simp only [Bool.and_eq_true] at h
  obtain ⟨⟨⟨⟨h1, h2⟩, h3⟩, h4⟩, h5⟩ := h
  rw [tlQ, if_pos (by simp only [Bool.and_eq_true]; exact h1), if_pos h2, if_pos h3, if_pos h4, if_pos h5]
theorem tlQ_le {S : St} {a p m r : Nat} : tlQ S a p m r ≤ p + 5 := by
  unfold tlQ
  repeat' split
  all_goals omega
theorem fm_r {S : St} {a m f : Nat} : ∀ {p r : Nat} {rd : Nat → Int32}, r ≤ 8 → (fmR S a m f p r rd).2.1 ≤ 8 := by
  induction f with
  | zero => intro p r rd h; exact h
  | succ f ih =>
    intro p r rd h
    rw [fmR]
    split
    · exact ih h
    · split
      · split
        · rename_i q
          have := (tlB_lt q).2
          refine ih ?_
          rcases Nat.lt_or_ge r 8 with z | z
          · omega
          · exact absurd (by rw [show r = 8 by omega]; rfl) this
        · exact h
      · exact h
def fmT (S : St) (i m : Nat) : Int32 × Nat × (Nat → Int32) := fmR S (60 * i) m (m + 1) 0 0 (gA S 66)
theorem sc_init {S : St} {a p e r x11 x12 x13 x15 : Int32} (h1 : x11 = a) (h2 : x12 = p) (h3 : x13 = e) (h4 : x15 = r) : sI (sI (sI (sI S 58 11 x11) 58 12 x12) 58 13 x13) 58 15 x15 = scS S a p e (gI S 58 14) r (gA S 66) := by
  subst h1; subst h2; subst h3; subst h4
  refine sc_ext (fun i j h => ?_) rfl rfl rfl rfl rfl (fun _ _ => rfl) (fun k i => ?_)
  · rw [sc_out h, gI_ne (by omega), gI_ne (by omega), gI_ne (by omega), gI_ne (by omega)]
  · by_cases q : k = 66
    · subst q; rfl
    · rw [sc_a q]; rfl
theorem nI_nm {k : Nat} (h : k ≤ 1000) : ¬ nI k = -9 := fun q => by have := congrArg Int32.toInt q; rw [nI_toInt (by omega)] at this; revert this; rw [show (-9 : Int32).toInt = -9 by decide]; omega
set_option maxRecDepth 100000 in
set_option maxHeartbeats 4000000 in
theorem c_X9_faultOf (E : En) (S : St) (i m : Nat) (hi : i < 4) (hm : gA S 62 i = nI m) (hm2 : m ≤ 60) : CT E i_X9_faultOf (S) [.ref (eA E 58), .int (nI i)] (fun S' r' => r' = some (.int (fmT S i m).1) ∧ ∃ (p : Int32) (num' : Int32) (rd' : Nat → Int32), S' = scS S (nI (60 * i)) p (nI m) num' (nI (fmT S i m).2.1) rd' ∧ ((fmT S i m).1 = -9 → rd' = (fmT S i m).2.2)) := by
  refine ct_of [(0, .ref (eA E 58)), (1, .int (nI i))] (by decide +kernel) (Nat.le_of_ble_eq_true rfl) rfl (fun X hM => ?_)
  refine g_aload_n (pc := 0) dX9_faultOf_0 0 rfl rfl ?_
  refine g_bipush (pc := 1) (v := 60) dX9_faultOf_1 (by decide) ?_
  refine g_iload_n (pc := 3) dX9_faultOf_3 1 rfl rfl ?_
  refine g_imul (pc := 4) dX9_faultOf_4 ?_
  refine pf_X9_89 (pc := 5) rfl dX9_faultOf_5 ?_
  refine g_aload_n (pc := 8) dX9_faultOf_8 0 rfl rfl ?_
  refine g_iconst (pc := 9) (v := 0) dX9_faultOf_9 (by decide) ?_
  refine pf_X9_83 (pc := 10) rfl dX9_faultOf_10 ?_
  refine g_aload_n (pc := 13) dX9_faultOf_13 0 rfl rfl ?_
  refine g_aload_n (pc := 14) dX9_faultOf_14 0 rfl rfl ?_
  refine gf_X9_19 (pc := 15) rfl dX9_faultOf_15 ?_
  refine g_iload_n (pc := 18) dX9_faultOf_18 1 rfl rfl ?_
  refine g_iald (pc := 19) i rfl rfl (show i < 4 by omega) (by decide) dX9_faultOf_19 ?_
  refine pf_X9_86 (pc := 20) rfl dX9_faultOf_20 ?_
  refine g_aload_n (pc := 23) dX9_faultOf_23 0 rfl rfl ?_
  refine g_iconst (pc := 24) (v := 0) dX9_faultOf_24 (by decide) ?_
  refine pf_X9_102 (pc := 25) rfl dX9_faultOf_25 ?_
  rw [sc_init (x11 := 60 * nI i) (x12 := 0) (x13 := gA (sI (sI S 58 11 (60 * nI i)) 58 12 0) 62 i) (x15 := 0) (a := nI (60 * i)) (p := nI 0) (e := nI m) (r := nI 0) (nI_mE rfl rfl) rfl hm rfl]
  refine g_iconst (pc := 28) (v := 1) dX9_faultOf_28 (by decide) ?_
  refine g_istore_n (pc := 29) (L' := [(2, .int 1), (0, .ref (eA E 58)), (1, .int (nI i))]) dX9_faultOf_29 rfl (Nat.le_of_ble_eq_true rfl) rfl ?_
  refine g_iload_n (pc := 30) dX9_faultOf_30 0 rfl rfl ?_
  refine g_if_eq (pc := 31) (tgt := 96) dX9_faultOf_31 (by decide) (fun c_31 => ?_) (fun c_31 => ?_)
  · exact absurd c_31 (by decide)
  · have H_34 : ∀ (f : Nat) (p : Nat) (r : Nat) (num : Int32) (rd : Nat → Int32), p ≤ m → r ≤ 8 → m + 1 ≤ p + f → fmR S (60 * i) m f p r rd = fmT S i m → G E X i_X9_faultOf (scS S (nI (60 * i)) (nI p) (nI m) num (nI r) rd) 34 [(0, .ref (eA E 58)), (1, .int (nI i)), (2, .int 1)] [] := by
      intro f
      induction f with
      | zero =>
        intro p r num rd h1 h2 h3 hu
        omega
      | succ f ih_34 =>
        intro p r num rd h1 h2 h3 hu
        refine g_aload_n (pc := 34) dX9_faultOf_34 0 rfl rfl ?_
        refine g_invV (pc := 35) j_X9_here mw_X9_92 dX9_faultOf_35 rcv_X9 (by rfl) (c_X9_here E (scS S (nI (60 * i)) (nI p) (nI m) num (nI r) rd) (60 * i) p m sc_g12 sc_g13 sc_g11 (by omega) (by omega)) (Nat.le_of_ble_eq_true rfl) (Nat.le_of_ble_eq_true rfl) (by rfl) (Nat.le_of_ble_eq_true rfl) ?_
        rw [here_sc]
        refine g_bipush (pc := 38) (v := 32) dX9_faultOf_38 (by decide) ?_
        refine g_icmp_ne (pc := 40) (tgt := 56) dX9_faultOf_40 (by decide) (fun c_40 => ?_) (fun c_40 => ?_)
        · refine g_aload_n (pc := 56) dX9_faultOf_56 0 rfl rfl ?_
          refine gf_X9_83 (pc := 57) rfl dX9_faultOf_57 ?_
          rw [sc_g12]
          refine g_aload_n (pc := 60) dX9_faultOf_60 0 rfl rfl ?_
          refine gf_X9_86 (pc := 61) rfl dX9_faultOf_61 ?_
          rw [sc_g13]
          refine g_icmp_lt (pc := 64) (tgt := 74) dX9_faultOf_64 (by decide) (fun c_64 => ?_) (fun c_64 => ?_)
          · have k_64 := Int32.not_le.mpr c_64
            refine g_iconst (pc := 74) (v := 1) dX9_faultOf_74 (by decide) ?_
            refine g_goto (pc := 75) (tgt := 79) dX9_faultOf_75 (by decide) ?_
            refine g_istore_n (pc := 79) (L' := [(2, .int 1), (0, .ref (eA E 58)), (1, .int (nI i))]) dX9_faultOf_79 rfl (Nat.le_of_ble_eq_true rfl) rfl ?_
            refine g_iload_n (pc := 80) dX9_faultOf_80 0 rfl rfl ?_
            refine g_if_eq (pc := 81) (tgt := 30) dX9_faultOf_81 (by decide) (fun c_81 => ?_) (fun c_81 => ?_)
            · exact absurd c_81 (by decide)
            · refine g_aload_n (pc := 84) dX9_faultOf_84 1 rfl rfl ?_
              refine g_invR (pc := 85) j_X9_takesLight mw_X9_109 dX9_faultOf_85 rcv_X9 (by rfl) (c_X9_takesLight E S (60 * i) p m r num rd (by omega) (by omega) (by omega)) (Nat.le_of_ble_eq_true rfl) (Nat.le_of_ble_eq_true rfl) (by rfl) (Nat.le_of_ble_eq_true rfl) (fun S_85 r_85 h_85 => ?_)
              obtain ⟨rfl, num_85, rd_85, rfl, hrd_85⟩ := h_85
              refine g_eq (st' := [.int (bI (tlB S (60 * i) p m r))]) rfl rfl rfl ?_
              refine g_b_ne (pc := 88) (tgt := 30) dX9_faultOf_88 (by decide) (fun c_88 => ?_) (fun c_88 => ?_)
              · have hrd := hrd_85 c_88
                have hb := tlB_lt c_88
                have hr8 : r < 8 := by rcases Nat.lt_or_ge r 8 with q | q; exact q; exact absurd (by rw [show r = 8 by omega]; rfl) hb.2
                rw [if_pos c_88, tlQ_t c_88, hrd]
                refine g_iload_n (pc := 30) dX9_faultOf_30 0 rfl rfl ?_
                refine g_if_eq (pc := 31) (tgt := 96) dX9_faultOf_31 (by decide) (fun c_31 => ?_) (fun c_31 => ?_)
                · exact absurd c_31 (by decide)
                · refine g_sub (L' := [(0, .ref (eA E 58)), (1, .int (nI i)), (2, .int 1)]) [1, 2, 0] rfl ?_
                  exact g_eq rfl rfl rfl (ih_34 (p + 5) (r + 1) num_85 (rd5 S (60 * i) p m r rd) (by omega) (by omega) (by omega) (by rw [← hu, fmR, if_neg c_40, if_pos (show p < m ∨ r = 0 from Or.inl ((nI_ltI (by omega) (by omega)).mp c_64)), if_pos c_88]))
              · rw [c_88, if_neg (by decide)]
                refine g_aload_n (pc := 91) dX9_faultOf_91 1 rfl rfl ?_
                refine gf_X9_83 (pc := 92) rfl dX9_faultOf_92 ?_
                rw [sc_g12]
                exact g_iret (pc := 95) hM rfl rfl (by have e : fmR S (60 * i) m (f + 1) p r rd = (nI (tlQ S (60 * i) p m r), r, rd) := (by rw [fmR, if_neg c_40, if_pos (show p < m ∨ r = 0 from Or.inl ((nI_ltI (by omega) (by omega)).mp c_64)), if_neg (by rw [c_88]; decide)]); rw [e] at hu; rw [← hu]; exact ⟨rfl, _, _, _, rfl, fun q => absurd q (nI_nm (by have := tlQ_le (S := S) (a := 60 * i) (p := p) (m := m) (r := r); omega))⟩) dX9_faultOf_95
          · have k_64 := Int32.not_lt.mp c_64
            refine g_aload_n (pc := 67) dX9_faultOf_67 0 rfl rfl ?_
            refine gf_X9_102 (pc := 68) rfl dX9_faultOf_68 ?_
            rw [sc_g15]
            refine g_if_ne (pc := 71) (tgt := 78) dX9_faultOf_71 (by decide) (fun c_71 => ?_) (fun c_71 => ?_)
            · refine g_iconst (pc := 78) (v := 0) dX9_faultOf_78 (by decide) ?_
              refine g_istore_n (pc := 79) (L' := [(2, .int 0), (0, .ref (eA E 58)), (1, .int (nI i))]) dX9_faultOf_79 rfl (Nat.le_of_ble_eq_true rfl) rfl ?_
              refine g_iload_n (pc := 80) dX9_faultOf_80 0 rfl rfl ?_
              refine g_if_eq (pc := 81) (tgt := 30) dX9_faultOf_81 (by decide) (fun c_81 => ?_) (fun c_81 => ?_)
              · refine g_iload_n (pc := 30) dX9_faultOf_30 0 rfl rfl ?_
                refine g_if_eq (pc := 31) (tgt := 96) dX9_faultOf_31 (by decide) (fun c_31 => ?_) (fun c_31 => ?_)
                · refine g_bipush (pc := 96) (v := -9) dX9_faultOf_96 (by decide) ?_
                  exact g_iret (pc := 98) hM rfl rfl (by have e : fmR S (60 * i) m (f + 1) p r rd = (-9, r, rd) := (by rw [fmR, if_neg c_40, if_neg (by rintro (q | q); exact c_64 ((nI_ltI (by omega) (by omega)).mpr q); exact c_71 (by rw [q]; rfl))]); rw [e] at hu; rw [← hu]; exact ⟨rfl, _, _, _, rfl, fun _ => rfl⟩) dX9_faultOf_98
                · exact absurd c_31 (by decide)
              · exact absurd c_81 (by decide)
            · refine g_iconst (pc := 74) (v := 1) dX9_faultOf_74 (by decide) ?_
              refine g_goto (pc := 75) (tgt := 79) dX9_faultOf_75 (by decide) ?_
              refine g_istore_n (pc := 79) (L' := [(2, .int 1), (0, .ref (eA E 58)), (1, .int (nI i))]) dX9_faultOf_79 rfl (Nat.le_of_ble_eq_true rfl) rfl ?_
              refine g_iload_n (pc := 80) dX9_faultOf_80 0 rfl rfl ?_
              refine g_if_eq (pc := 81) (tgt := 30) dX9_faultOf_81 (by decide) (fun c_81 => ?_) (fun c_81 => ?_)
              · exact absurd c_81 (by decide)
              · refine g_aload_n (pc := 84) dX9_faultOf_84 1 rfl rfl ?_
                refine g_invR (pc := 85) j_X9_takesLight mw_X9_109 dX9_faultOf_85 rcv_X9 (by rfl) (c_X9_takesLight E S (60 * i) p m r num rd (by omega) (by omega) (by omega)) (Nat.le_of_ble_eq_true rfl) (Nat.le_of_ble_eq_true rfl) (by rfl) (Nat.le_of_ble_eq_true rfl) (fun S_85 r_85 h_85 => ?_)
                obtain ⟨rfl, num_85, rd_85, rfl, hrd_85⟩ := h_85
                refine g_eq (st' := [.int (bI (tlB S (60 * i) p m r))]) rfl rfl rfl ?_
                refine g_b_ne (pc := 88) (tgt := 30) dX9_faultOf_88 (by decide) (fun c_88 => ?_) (fun c_88 => ?_)
                · have hrd := hrd_85 c_88
                  have hb := tlB_lt c_88
                  have hr8 : r < 8 := by rcases Nat.lt_or_ge r 8 with q | q; exact q; exact absurd (by rw [show r = 8 by omega]; rfl) hb.2
                  rw [if_pos c_88, tlQ_t c_88, hrd]
                  refine g_iload_n (pc := 30) dX9_faultOf_30 0 rfl rfl ?_
                  refine g_if_eq (pc := 31) (tgt := 96) dX9_faultOf_31 (by decide) (fun c_31 => ?_) (fun c_31 => ?_)
                  · exact absurd c_31 (by decide)
                  · refine g_sub (L' := [(0, .ref (eA E 58)), (1, .int (nI i)), (2, .int 1)]) [1, 2, 0] rfl ?_
                    exact g_eq rfl rfl rfl (ih_34 (p + 5) (r + 1) num_85 (rd5 S (60 * i) p m r rd) (by omega) (by omega) (by omega) (by rw [← hu, fmR, if_neg c_40, if_pos (show p < m ∨ r = 0 from Or.inr ((nI_eq (by omega) (by omega)).mp c_71)), if_pos c_88]))
                · rw [c_88, if_neg (by decide)]
                  refine g_aload_n (pc := 91) dX9_faultOf_91 1 rfl rfl ?_
                  refine gf_X9_83 (pc := 92) rfl dX9_faultOf_92 ?_
                  rw [sc_g12]
                  exact g_iret (pc := 95) hM rfl rfl (by have e : fmR S (60 * i) m (f + 1) p r rd = (nI (tlQ S (60 * i) p m r), r, rd) := (by rw [fmR, if_neg c_40, if_pos (show p < m ∨ r = 0 from Or.inr ((nI_eq (by omega) (by omega)).mp c_71)), if_neg (by rw [c_88]; decide)]); rw [e] at hu; rw [← hu]; exact ⟨rfl, _, _, _, rfl, fun q => absurd q (nI_nm (by have := tlQ_le (S := S) (a := 60 * i) (p := p) (m := m) (r := r); omega))⟩) dX9_faultOf_95
        · have hlt : p < m := by rcases Nat.lt_or_ge p m with q | q; exact q; exact absurd c_40 (by rw [hereG, if_neg (by omega)]; decide)
          refine g_aload_n (pc := 43) dX9_faultOf_43 0 rfl rfl ?_
          refine g_dup (pc := 44) dX9_faultOf_44 rfl ?_
          refine gf_X9_83 (pc := 45) rfl dX9_faultOf_45 ?_
          rw [sc_g12]
          refine g_iconst (pc := 48) (v := 1) dX9_faultOf_48 (by decide) ?_
          refine g_iadd (pc := 49) dX9_faultOf_49 ?_
          refine pf_X9_83 (pc := 50) rfl dX9_faultOf_50 ?_
          rw [sc_s12]
          rw [show nI p + 1 = nI (p + 1) from nI_1 _]
          refine g_goto (pc := 53) (tgt := 34) dX9_faultOf_53 (by decide) ?_
          refine g_sub (L' := [(0, .ref (eA E 58)), (1, .int (nI i)), (2, .int 1)]) [0, 1, 2] rfl ?_
          exact g_eq rfl rfl rfl (ih_34 (p + 1) r num rd (by omega) (by omega) (by omega) (by rw [← hu, fmR, if_pos c_40]))
    refine g_sub (L' := [(0, .ref (eA E 58)), (1, .int (nI i)), (2, .int 1)]) [1, 2, 0] rfl ?_
    exact g_eq rfl rfl rfl (H_34 (m + 1) 0 0 (gI S 58 14) (gA S 66) (by omega) (by omega) (by omega) rfl)
set_option maxRecDepth 100000 in
set_option maxHeartbeats 4000000 in
theorem c_X9_fault_bad (E : En) (S : St) (r : Int32) (hr : idxF 4 r = false) : CTe E i_X9_fault S [.ref (eA E 58), .int r] S (some (.int (-1))) := by
  refine ct_of [(0, .ref (eA E 58)), (1, .int r)] (by decide +kernel) (Nat.le_of_ble_eq_true rfl) rfl (fun X hM => ?_)
  refine g_iload_n (pc := 0) dX9_fault_0 1 rfl rfl ?_
  refine g_invS (pc := 1) j_X9_isText mw_X9_80 dX9_fault_1 (by rfl) (c_X9_isText E S r ) (Nat.le_of_ble_eq_true rfl) (Nat.le_of_ble_eq_true rfl) (by rfl) (Nat.le_of_ble_eq_true rfl) ?_
  refine g_b_ne (pc := 4) (tgt := 9) dX9_fault_4 (by decide) (fun c_4 => ?_) (fun c_4 => ?_)
  · exact absurd (hr.symm.trans c_4) (by decide)
  · refine g_iconst (pc := 7) (v := -1) dX9_fault_7 (by decide) ?_
    exact g_iret (pc := 8) hM rfl rfl ⟨rfl, rfl⟩ dX9_fault_8
set_option maxRecDepth 100000 in
set_option maxHeartbeats 4000000 in
theorem c_X9_fault_m (E : En) (S : St) (i : Nat) (hi : i < 4) (h : gA S 62 i = -1) : CTe E i_X9_fault S [.ref (eA E 58), .int (nI i)] (fndS S 1) (some (.int (-3))) := by
  have hx := idx_in hi (show 4 < 2 ^ 31 by omega)
  refine ct_of [(0, .ref (eA E 58)), (1, .int (nI i))] (by decide +kernel) (Nat.le_of_ble_eq_true rfl) rfl (fun X hM => ?_)
  refine g_iload_n (pc := 0) dX9_fault_0 1 rfl rfl ?_
  refine g_invS (pc := 1) j_X9_isText mw_X9_80 dX9_fault_1 (by rfl) (c_X9_isText E S (nI i) ) (Nat.le_of_ble_eq_true rfl) (Nat.le_of_ble_eq_true rfl) (by rfl) (Nat.le_of_ble_eq_true rfl) ?_
  refine g_b_ne (pc := 4) (tgt := 9) dX9_fault_4 (by decide) (fun c_4 => ?_) (fun c_4 => ?_)
  · refine g_aload_n (pc := 9) dX9_fault_9 0 rfl rfl ?_
    refine gf_X9_19 (pc := 10) rfl dX9_fault_10 ?_
    refine g_iload_n (pc := 13) dX9_fault_13 1 rfl rfl ?_
    refine g_iald (pc := 14) i rfl rfl (show i < 4 from hi) (by decide) dX9_fault_14 ?_
    refine g_if_ge (pc := 15) (tgt := 26) dX9_fault_15 (by decide) (fun c_15 => ?_) (fun c_15 => ?_)
    · have k_15 := Int32.not_lt.mpr c_15
      exact absurd c_15 (by rw [h]; decide)
    · have k_15 := Int32.not_le.mp c_15
      refine g_aload_n (pc := 18) dX9_fault_18 0 rfl rfl ?_
      refine g_iconst (pc := 19) (v := 1) dX9_fault_19 (by decide) ?_
      refine g_invV (pc := 20) j_X9_finds mw_X9_74 dX9_fault_20 (rcv_X9) (by rfl) (c_X9_finds E S 1 (by first | assumption | omega | rfl)) (Nat.le_of_ble_eq_true rfl) (Nat.le_of_ble_eq_true rfl) (by rfl) (Nat.le_of_ble_eq_true rfl) ?_
      refine g_goto (pc := 23) (tgt := 31) dX9_fault_23 (by decide) ?_
      exact g_iret (pc := 31) hM rfl rfl ⟨rfl, rfl⟩ dX9_fault_31
  · exact absurd (hx.symm.trans c_4) (by decide)
set_option maxRecDepth 100000 in
set_option maxHeartbeats 4000000 in
theorem c_X9_bank_bad (E : En) (S : St) (r : Int32) (hr : idxF 4 r = false) : CTe E i_X9_bank S [.ref (eA E 58), .int r] S (some (.int (-1))) := by
  refine ct_of [(0, .ref (eA E 58)), (1, .int r)] (by decide +kernel) (Nat.le_of_ble_eq_true rfl) rfl (fun X hM => ?_)
  refine g_iload_n (pc := 0) dX9_bank_0 1 rfl rfl ?_
  refine g_invS (pc := 1) j_X9_isText mw_X9_80 dX9_bank_1 (by rfl) (c_X9_isText E S r ) (Nat.le_of_ble_eq_true rfl) (Nat.le_of_ble_eq_true rfl) (by rfl) (Nat.le_of_ble_eq_true rfl) ?_
  refine g_b_ne (pc := 4) (tgt := 9) dX9_bank_4 (by decide) (fun c_4 => ?_) (fun c_4 => ?_)
  · exact absurd (hr.symm.trans c_4) (by decide)
  · refine g_iconst (pc := 7) (v := -1) dX9_bank_7 (by decide) ?_
    exact g_iret (pc := 8) hM rfl rfl ⟨rfl, rfl⟩ dX9_bank_8
set_option maxRecDepth 100000 in
set_option maxHeartbeats 4000000 in
theorem c_X9_bank_m (E : En) (S : St) (i : Nat) (hi : i < 4) (h : gA S 62 i = -1) : CTe E i_X9_bank S [.ref (eA E 58), .int (nI i)] (fndS S 1) (some (.int (-3))) := by
  have hx := idx_in hi (show 4 < 2 ^ 31 by omega)
  refine ct_of [(0, .ref (eA E 58)), (1, .int (nI i))] (by decide +kernel) (Nat.le_of_ble_eq_true rfl) rfl (fun X hM => ?_)
  refine g_iload_n (pc := 0) dX9_bank_0 1 rfl rfl ?_
  refine g_invS (pc := 1) j_X9_isText mw_X9_80 dX9_bank_1 (by rfl) (c_X9_isText E S (nI i) ) (Nat.le_of_ble_eq_true rfl) (Nat.le_of_ble_eq_true rfl) (by rfl) (Nat.le_of_ble_eq_true rfl) ?_
  refine g_b_ne (pc := 4) (tgt := 9) dX9_bank_4 (by decide) (fun c_4 => ?_) (fun c_4 => ?_)
  · refine g_aload_n (pc := 9) dX9_bank_9 0 rfl rfl ?_
    refine gf_X9_19 (pc := 10) rfl dX9_bank_10 ?_
    refine g_iload_n (pc := 13) dX9_bank_13 1 rfl rfl ?_
    refine g_iald (pc := 14) i rfl rfl (show i < 4 from hi) (by decide) dX9_bank_14 ?_
    refine g_if_ge (pc := 15) (tgt := 24) dX9_bank_15 (by decide) (fun c_15 => ?_) (fun c_15 => ?_)
    · have k_15 := Int32.not_lt.mpr c_15
      exact absurd c_15 (by rw [h]; decide)
    · have k_15 := Int32.not_le.mp c_15
      refine g_aload_n (pc := 18) dX9_bank_18 0 rfl rfl ?_
      refine g_iconst (pc := 19) (v := 1) dX9_bank_19 (by decide) ?_
      refine g_invV (pc := 20) j_X9_finds mw_X9_74 dX9_bank_20 (rcv_X9) (by rfl) (c_X9_finds E S 1 (by first | assumption | omega | rfl)) (Nat.le_of_ble_eq_true rfl) (Nat.le_of_ble_eq_true rfl) (by rfl) (Nat.le_of_ble_eq_true rfl) ?_
      exact g_iret (pc := 23) hM rfl rfl ⟨rfl, rfl⟩ dX9_bank_23
  · exact absurd (hx.symm.trans c_4) (by decide)
set_option maxRecDepth 100000 in
set_option maxHeartbeats 4000000 in
theorem c_X9_fault_ok (E : En) (S : St) (i m : Nat) (hi : i < 4) (hm : gA S 62 i = nI m) (hm2 : m ≤ 60) : CT E i_X9_fault (S) [.ref (eA E 58), .int (nI i)] (fun S' r' => r' = some (.int (fmT S i m).1) ∧ ∃ (p : Int32) (num' : Int32) (rd' : Nat → Int32), S' = scS S (nI (60 * i)) p (nI m) num' (nI (fmT S i m).2.1) rd') := by
  have hx := idx_in hi (show 4 < 2 ^ 31 by omega)
  refine ct_of [(0, .ref (eA E 58)), (1, .int (nI i))] (by decide +kernel) (Nat.le_of_ble_eq_true rfl) rfl (fun X hM => ?_)
  refine g_iload_n (pc := 0) dX9_fault_0 1 rfl rfl ?_
  refine g_invS (pc := 1) j_X9_isText mw_X9_80 dX9_fault_1 (by rfl) (c_X9_isText E S (nI i) ) (Nat.le_of_ble_eq_true rfl) (Nat.le_of_ble_eq_true rfl) (by rfl) (Nat.le_of_ble_eq_true rfl) ?_
  refine g_b_ne (pc := 4) (tgt := 9) dX9_fault_4 (by decide) (fun c_4 => ?_) (fun c_4 => ?_)
  · refine g_aload_n (pc := 9) dX9_fault_9 0 rfl rfl ?_
    refine gf_X9_19 (pc := 10) rfl dX9_fault_10 ?_
    refine g_iload_n (pc := 13) dX9_fault_13 1 rfl rfl ?_
    refine g_iald (pc := 14) i rfl rfl (show i < 4 from hi) (by decide) dX9_fault_14 ?_
    refine g_if_ge (pc := 15) (tgt := 26) dX9_fault_15 (by decide) (fun c_15 => ?_) (fun c_15 => ?_)
    · have k_15 := Int32.not_lt.mpr c_15
      refine g_aload_n (pc := 26) dX9_fault_26 0 rfl rfl ?_
      refine g_iload_n (pc := 27) dX9_fault_27 1 rfl rfl ?_
      refine g_invR (pc := 28) j_X9_faultOf mw_X9_113 dX9_fault_28 rcv_X9 (by rfl) (c_X9_faultOf E S i m hi hm hm2) (Nat.le_of_ble_eq_true rfl) (Nat.le_of_ble_eq_true rfl) (by rfl) (Nat.le_of_ble_eq_true rfl) (fun U r_28 h_28 => ?_)
      obtain ⟨rfl, p, num, rd, hU, hrd⟩ := h_28
      refine g_eq (st' := [.int (fmT S i m).1]) rfl rfl rfl ?_
      exact g_iret (pc := 31) hM rfl rfl ⟨rfl, p, num, rd, hU⟩ dX9_fault_31
    · have k_15 := Int32.not_le.mp c_15
      exact absurd (by rw [hm]; exact nI_pos' (by omega)) c_15
  · exact absurd (hx.symm.trans c_4) (by decide)
set_option maxRecDepth 100000 in
set_option maxHeartbeats 4000000 in
theorem c_X9_bank_f (E : En) (S : St) (i m : Nat) (hi : i < 4) (hm : gA S 62 i = nI m) (hm2 : m ≤ 60) (hne : ¬ (fmT S i m).1 = -9) : CT E i_X9_bank (S) [.ref (eA E 58), .int (nI i)] (fun S' r' => r' = some (.int (-4)) ∧ ∃ (p : Int32) (num' : Int32) (rd' : Nat → Int32), S' = scS S (nI (60 * i)) p (nI m) num' (nI (fmT S i m).2.1) rd') := by
  have hx := idx_in hi (show 4 < 2 ^ 31 by omega)
  refine ct_of [(0, .ref (eA E 58)), (1, .int (nI i))] (by decide +kernel) (Nat.le_of_ble_eq_true rfl) rfl (fun X hM => ?_)
  refine g_iload_n (pc := 0) dX9_bank_0 1 rfl rfl ?_
  refine g_invS (pc := 1) j_X9_isText mw_X9_80 dX9_bank_1 (by rfl) (c_X9_isText E S (nI i) ) (Nat.le_of_ble_eq_true rfl) (Nat.le_of_ble_eq_true rfl) (by rfl) (Nat.le_of_ble_eq_true rfl) ?_
  refine g_b_ne (pc := 4) (tgt := 9) dX9_bank_4 (by decide) (fun c_4 => ?_) (fun c_4 => ?_)
  · refine g_aload_n (pc := 9) dX9_bank_9 0 rfl rfl ?_
    refine gf_X9_19 (pc := 10) rfl dX9_bank_10 ?_
    refine g_iload_n (pc := 13) dX9_bank_13 1 rfl rfl ?_
    refine g_iald (pc := 14) i rfl rfl (show i < 4 from hi) (by decide) dX9_bank_14 ?_
    refine g_if_ge (pc := 15) (tgt := 24) dX9_bank_15 (by decide) (fun c_15 => ?_) (fun c_15 => ?_)
    · have k_15 := Int32.not_lt.mpr c_15
      refine g_aload_n (pc := 24) dX9_bank_24 0 rfl rfl ?_
      refine g_iload_n (pc := 25) dX9_bank_25 1 rfl rfl ?_
      refine g_invR (pc := 26) j_X9_faultOf mw_X9_113 dX9_bank_26 rcv_X9 (by rfl) (c_X9_faultOf E S i m hi hm hm2) (Nat.le_of_ble_eq_true rfl) (Nat.le_of_ble_eq_true rfl) (by rfl) (Nat.le_of_ble_eq_true rfl) (fun U r_26 h_26 => ?_)
      obtain ⟨rfl, p, num, rd, hU, hrd⟩ := h_26
      refine g_eq (st' := [.int (fmT S i m).1]) rfl rfl rfl ?_
      refine g_bipush (pc := 29) (v := -9) dX9_bank_29 (by decide) ?_
      refine g_icmp_eq (pc := 31) (tgt := 37) dX9_bank_31 (by decide) (fun c_31 => ?_) (fun c_31 => ?_)
      · exact absurd c_31 hne
      · refine g_bipush (pc := 34) (v := -4) dX9_bank_34 (by decide) ?_
        exact g_iret (pc := 36) hM rfl rfl ⟨rfl, p, num, rd, hU⟩ dX9_bank_36
    · have k_15 := Int32.not_le.mp c_15
      exact absurd (by rw [hm]; exact nI_pos' (by omega)) c_15
  · exact absurd (hx.symm.trans c_4) (by decide)
theorem fllF_s0 {f : Nat → Int32} {v : Int32} {m : Nat} : upd (fllF f 0 v m) m v = fllF f 0 v (m + 1) := by
  have h := fllF_s f 0 v m
  rwa [Nat.zero_add] at h
/-- the reference's bank, as read: lights 0..n-1 of r -/
def bkF (W rd : Nat → Int32) (r : Nat) : Nat → (Nat → Int32)
  | 0 => upd (upd (fllF W 0 0 1776) 0 (nI r)) 2 (((1 : Int32) <<< (nI r &&& 31)) - 1)
  | n + 1 => upd (upd (upd (upd (upd (bkF W rd r n) (11 + n) (rd (5 * n))) (19 + n) (rd (5 * n + 1))) (27 + n) (rd (5 * n + 2))) (3 + n) (rd (5 * n + 3))) (35 + n) (rd (5 * n + 4))
def bkS (S : St) (i m : Nat) : Nat → Int32 := bkF (gA S 59) (fmT S i m).2.2 (fmT S i m).2.1 (fmT S i m).2.1
set_option maxRecDepth 100000 in
set_option maxHeartbeats 4000000 in
theorem c_X9_bank_ok (E : En) (S : St) (i m : Nat) (hi : i < 4) (hm : gA S 62 i = nI m) (hm2 : m ≤ 60) (hb : (fmT S i m).1 = -9) : CT E i_X9_bank (S) [.ref (eA E 58), .int (nI i)] (fun S' r' => r' = some (.int (nI (fmT S i m).2.1)) ∧ ∃ (p : Int32) (num' : Int32), S' = sA (scS S (nI (60 * i)) p (nI m) num' (nI (fmT S i m).2.1) (fmT S i m).2.2) 59 (bkS S i m)) := by
  have hx := idx_in hi (show 4 < 2 ^ 31 by omega)
  refine ct_of [(0, .ref (eA E 58)), (1, .int (nI i))] (by decide +kernel) (Nat.le_of_ble_eq_true rfl) rfl (fun X hM => ?_)
  refine g_iload_n (pc := 0) dX9_bank_0 1 rfl rfl ?_
  refine g_invS (pc := 1) j_X9_isText mw_X9_80 dX9_bank_1 (by rfl) (c_X9_isText E S (nI i) ) (Nat.le_of_ble_eq_true rfl) (Nat.le_of_ble_eq_true rfl) (by rfl) (Nat.le_of_ble_eq_true rfl) ?_
  refine g_b_ne (pc := 4) (tgt := 9) dX9_bank_4 (by decide) (fun c_4 => ?_) (fun c_4 => ?_)
  · refine g_aload_n (pc := 9) dX9_bank_9 0 rfl rfl ?_
    refine gf_X9_19 (pc := 10) rfl dX9_bank_10 ?_
    refine g_iload_n (pc := 13) dX9_bank_13 1 rfl rfl ?_
    refine g_iald (pc := 14) i rfl rfl (show i < 4 from hi) (by decide) dX9_bank_14 ?_
    refine g_if_ge (pc := 15) (tgt := 24) dX9_bank_15 (by decide) (fun c_15 => ?_) (fun c_15 => ?_)
    · have k_15 := Int32.not_lt.mpr c_15
      refine g_aload_n (pc := 24) dX9_bank_24 0 rfl rfl ?_
      refine g_iload_n (pc := 25) dX9_bank_25 1 rfl rfl ?_
      refine g_invR (pc := 26) j_X9_faultOf mw_X9_113 dX9_bank_26 rcv_X9 (by rfl) (c_X9_faultOf E S i m hi hm hm2) (Nat.le_of_ble_eq_true rfl) (Nat.le_of_ble_eq_true rfl) (by rfl) (Nat.le_of_ble_eq_true rfl) (fun U r_26 h_26 => ?_)
      obtain ⟨rfl, p, num, rd, hU, hrd⟩ := h_26
      refine g_eq (st' := [.int (fmT S i m).1]) rfl rfl rfl ?_
      refine g_bipush (pc := 29) (v := -9) dX9_bank_29 (by decide) ?_
      refine g_icmp_eq (pc := 31) (tgt := 37) dX9_bank_31 (by decide) (fun c_31 => ?_) (fun c_31 => ?_)
      · have hrd2 := hrd hb
        obtain ⟨r, hr⟩ : ∃ r : Nat, r = (fmT S i m).2.1 := ⟨_, rfl⟩
        have hr8 : r ≤ 8 := by rw [hr]; exact fm_r (Nat.zero_le _)
        have h15 : gI U 58 15 = nI r := by rw [hU, hr]; rfl
        have h66 : gA U 66 = rd := by rw [hU]; rfl
        have h59 : gA U 59 = gA S 59 := by rw [hU]; rfl
        refine g_iconst (pc := 37) (v := 0) dX9_bank_37 (by decide) ?_
        refine g_istore_n (pc := 38) (L' := [(2, .int 0), (0, .ref (eA E 58)), (1, .int (nI i))]) dX9_bank_38 rfl (Nat.le_of_ble_eq_true rfl) rfl ?_
        have H_39 : ∀ n : Nat, n ≤ 1776 → G E X i_X9_bank (sA U 59 (fllF (gA U 59) 0 0 n)) 39 [(0, .ref (eA E 58)), (1, .int (nI i)), (2, .int (nI n))] [] := by
          refine dn_ind 1776 (fun n hn_39 ih_39 => ?_)
          refine g_iload_n (pc := 39) dX9_bank_39 2 rfl rfl ?_
          refine g_sipush (pc := 40) (v := 1776) dX9_bank_40 (by decide) ?_
          refine g_icmp_ge (pc := 43) (tgt := 59) dX9_bank_43 (by decide) (fun c_43 => ?_) (fun c_43 => ?_)
          · have k_43 := Int32.not_lt.mpr c_43
            have he_39 : n = 1776 := Nat.le_antisymm hn_39 (by exact nle_of (N := 1776) rfl rfl (by omega) (by omega) c_43)
            rw [he_39]
            refine g_aload_n (pc := 59) dX9_bank_59 0 rfl rfl ?_
            refine gf_X9_7 (pc := 60) rfl dX9_bank_60 ?_
            refine g_iconst (pc := 63) (v := 0) dX9_bank_63 (by decide) ?_
            refine g_aload_n (pc := 64) dX9_bank_64 0 rfl rfl ?_
            refine gf_X9_102 (pc := 65) rfl dX9_bank_65 ?_
            rw [show gI (sA U 59 (fllF (gA U 59) 0 0 1776)) 58 15 = nI r from h15]
            refine g_iast (pc := 68) 0 rfl rfl (by decide) (by decide) dX9_bank_68 ?_
            refine g_aload_n (pc := 69) dX9_bank_69 0 rfl rfl ?_
            refine gf_X9_7 (pc := 70) rfl dX9_bank_70 ?_
            refine g_iconst (pc := 73) (v := 2) dX9_bank_73 (by decide) ?_
            refine g_iconst (pc := 74) (v := 1) dX9_bank_74 (by decide) ?_
            refine g_aload_n (pc := 75) dX9_bank_75 0 rfl rfl ?_
            refine gf_X9_102 (pc := 76) rfl dX9_bank_76 ?_
            rw [show gI (sA (sA U 59 (fllF (gA U 59) 0 0 1776)) 59 (upd (gA (sA U 59 (fllF (gA U 59) 0 0 1776)) 59) 0 (nI r))) 58 15 = nI r from h15]
            refine g_ishl (pc := 79) dX9_bank_79 ?_
            refine g_iconst (pc := 80) (v := 1) dX9_bank_80 (by decide) ?_
            refine g_isub (pc := 81) dX9_bank_81 ?_
            refine g_iast (pc := 82) 2 rfl rfl (by decide) (by decide) dX9_bank_82 ?_
            refine g_iconst (pc := 83) (v := 0) dX9_bank_83 (by decide) ?_
            refine g_istore_n (pc := 84) (L' := [(2, .int 0), (0, .ref (eA E 58)), (1, .int (nI i))]) dX9_bank_84 rfl (Nat.le_of_ble_eq_true rfl) rfl ?_
            have H_85 : ∀ n : Nat, n ≤ r → G E X i_X9_bank (sA U 59 (bkF (gA U 59) rd r n)) 85 [(0, .ref (eA E 58)), (1, .int (nI i)), (2, .int (nI n))] [] := by
              refine dn_ind r (fun n hn_85 ih_85 => ?_)
              refine g_iload_n (pc := 85) dX9_bank_85 2 rfl rfl ?_
              refine g_aload_n (pc := 86) dX9_bank_86 0 rfl rfl ?_
              refine gf_X9_102 (pc := 87) rfl dX9_bank_87 ?_
              rw [show gI (sA U 59 (bkF (gA U 59) rd r n)) 58 15 = nI r from h15]
              refine g_icmp_ge (pc := 90) (tgt := 191) dX9_bank_90 (by decide) (fun c_90 => ?_) (fun c_90 => ?_)
              · have k_90 := Int32.not_lt.mpr c_90
                have he_85 : n = r := Nat.le_antisymm hn_85 (by exact nle_of (N := r) rfl rfl (by omega) (by omega) c_90)
                rw [he_85]
                refine g_aload_n (pc := 191) dX9_bank_191 0 rfl rfl ?_
                refine gf_X9_102 (pc := 192) rfl dX9_bank_192 ?_
                rw [show gI (sA U 59 (bkF (gA U 59) rd r r)) 58 15 = nI r from h15]
                exact g_iret (pc := 195) hM rfl rfl ⟨by rw [hr], p, num, by rw [← hr] at hU; rw [bkS, ← hr, ← hrd2, ← h59, ← hU]⟩ dX9_bank_195
              · have k_90 := Int32.not_le.mp c_90
                have hlt_85 : n < r := by exact nlt_of (N := r) rfl rfl (by omega) (by omega) c_90
                refine g_aload_n (pc := 93) dX9_bank_93 0 rfl rfl ?_
                refine gf_X9_7 (pc := 94) rfl dX9_bank_94 ?_
                refine g_bipush (pc := 97) (v := 11) dX9_bank_97 (by decide) ?_
                refine g_iload_n (pc := 99) dX9_bank_99 2 rfl rfl ?_
                refine g_iadd (pc := 100) dX9_bank_100 ?_
                refine g_aload_n (pc := 101) dX9_bank_101 0 rfl rfl ?_
                refine gf_X9_35 (pc := 102) rfl dX9_bank_102 ?_
                refine g_iconst (pc := 105) (v := 5) dX9_bank_105 (by decide) ?_
                refine g_iload_n (pc := 106) dX9_bank_106 2 rfl rfl ?_
                refine g_imul (pc := 107) dX9_bank_107 ?_
                refine g_iald (pc := 108) (5 * n) (nI_mE rfl rfl) rfl (show 5 * n < 40 by omega) (by decide) dX9_bank_108 ?_
                rw [show gA (sA U 59 (bkF (gA U 59) rd r n)) 66 (5 * n) = rd (5 * n) from congrFun h66 (5 * n)]
                refine g_iast (pc := 109) (11 + n) (nI_aE rfl rfl) rfl (show 11 + n < 1776 by omega) (by decide) dX9_bank_109 ?_
                refine g_aload_n (pc := 110) dX9_bank_110 0 rfl rfl ?_
                refine gf_X9_7 (pc := 111) rfl dX9_bank_111 ?_
                refine g_bipush (pc := 114) (v := 19) dX9_bank_114 (by decide) ?_
                refine g_iload_n (pc := 116) dX9_bank_116 2 rfl rfl ?_
                refine g_iadd (pc := 117) dX9_bank_117 ?_
                refine g_aload_n (pc := 118) dX9_bank_118 0 rfl rfl ?_
                refine gf_X9_35 (pc := 119) rfl dX9_bank_119 ?_
                refine g_iconst (pc := 122) (v := 5) dX9_bank_122 (by decide) ?_
                refine g_iload_n (pc := 123) dX9_bank_123 2 rfl rfl ?_
                refine g_imul (pc := 124) dX9_bank_124 ?_
                refine g_iconst (pc := 125) (v := 1) dX9_bank_125 (by decide) ?_
                refine g_iadd (pc := 126) dX9_bank_126 ?_
                refine g_iald (pc := 127) ((5 * n) + 1) (nI_aE (nI_mE rfl rfl) rfl) rfl (show (5 * n) + 1 < 40 by omega) (by decide) dX9_bank_127 ?_
                rw [show gA (sA (sA U 59 (bkF (gA U 59) rd r n)) 59 (upd (gA (sA U 59 (bkF (gA U 59) rd r n)) 59) (11 + n) (rd (5 * n)))) 66 ((5 * n) + 1) = rd ((5 * n) + 1) from congrFun h66 ((5 * n) + 1)]
                refine g_iast (pc := 128) (19 + n) (nI_aE rfl rfl) rfl (show 19 + n < 1776 by omega) (by decide) dX9_bank_128 ?_
                refine g_aload_n (pc := 129) dX9_bank_129 0 rfl rfl ?_
                refine gf_X9_7 (pc := 130) rfl dX9_bank_130 ?_
                refine g_bipush (pc := 133) (v := 27) dX9_bank_133 (by decide) ?_
                refine g_iload_n (pc := 135) dX9_bank_135 2 rfl rfl ?_
                refine g_iadd (pc := 136) dX9_bank_136 ?_
                refine g_aload_n (pc := 137) dX9_bank_137 0 rfl rfl ?_
                refine gf_X9_35 (pc := 138) rfl dX9_bank_138 ?_
                refine g_iconst (pc := 141) (v := 5) dX9_bank_141 (by decide) ?_
                refine g_iload_n (pc := 142) dX9_bank_142 2 rfl rfl ?_
                refine g_imul (pc := 143) dX9_bank_143 ?_
                refine g_iconst (pc := 144) (v := 2) dX9_bank_144 (by decide) ?_
                refine g_iadd (pc := 145) dX9_bank_145 ?_
                refine g_iald (pc := 146) ((5 * n) + 2) (nI_aE (nI_mE rfl rfl) rfl) rfl (show (5 * n) + 2 < 40 by omega) (by decide) dX9_bank_146 ?_
                rw [show gA (sA (sA (sA U 59 (bkF (gA U 59) rd r n)) 59 (upd (gA (sA U 59 (bkF (gA U 59) rd r n)) 59) (11 + n) (rd (5 * n)))) 59 (upd (gA (sA (sA U 59 (bkF (gA U 59) rd r n)) 59 (upd (gA (sA U 59 (bkF (gA U 59) rd r n)) 59) (11 + n) (rd (5 * n)))) 59) (19 + n) (rd ((5 * n) + 1)))) 66 ((5 * n) + 2) = rd ((5 * n) + 2) from congrFun h66 ((5 * n) + 2)]
                refine g_iast (pc := 147) (27 + n) (nI_aE rfl rfl) rfl (show 27 + n < 1776 by omega) (by decide) dX9_bank_147 ?_
                refine g_aload_n (pc := 148) dX9_bank_148 0 rfl rfl ?_
                refine gf_X9_7 (pc := 149) rfl dX9_bank_149 ?_
                refine g_iconst (pc := 152) (v := 3) dX9_bank_152 (by decide) ?_
                refine g_iload_n (pc := 153) dX9_bank_153 2 rfl rfl ?_
                refine g_iadd (pc := 154) dX9_bank_154 ?_
                refine g_aload_n (pc := 155) dX9_bank_155 0 rfl rfl ?_
                refine gf_X9_35 (pc := 156) rfl dX9_bank_156 ?_
                refine g_iconst (pc := 159) (v := 5) dX9_bank_159 (by decide) ?_
                refine g_iload_n (pc := 160) dX9_bank_160 2 rfl rfl ?_
                refine g_imul (pc := 161) dX9_bank_161 ?_
                refine g_iconst (pc := 162) (v := 3) dX9_bank_162 (by decide) ?_
                refine g_iadd (pc := 163) dX9_bank_163 ?_
                refine g_iald (pc := 164) ((5 * n) + 3) (nI_aE (nI_mE rfl rfl) rfl) rfl (show (5 * n) + 3 < 40 by omega) (by decide) dX9_bank_164 ?_
                rw [show gA (sA (sA (sA (sA U 59 (bkF (gA U 59) rd r n)) 59 (upd (gA (sA U 59 (bkF (gA U 59) rd r n)) 59) (11 + n) (rd (5 * n)))) 59 (upd (gA (sA (sA U 59 (bkF (gA U 59) rd r n)) 59 (upd (gA (sA U 59 (bkF (gA U 59) rd r n)) 59) (11 + n) (rd (5 * n)))) 59) (19 + n) (rd ((5 * n) + 1)))) 59 (upd (gA (sA (sA (sA U 59 (bkF (gA U 59) rd r n)) 59 (upd (gA (sA U 59 (bkF (gA U 59) rd r n)) 59) (11 + n) (rd (5 * n)))) 59 (upd (gA (sA (sA U 59 (bkF (gA U 59) rd r n)) 59 (upd (gA (sA U 59 (bkF (gA U 59) rd r n)) 59) (11 + n) (rd (5 * n)))) 59) (19 + n) (rd ((5 * n) + 1)))) 59) (27 + n) (rd ((5 * n) + 2)))) 66 ((5 * n) + 3) = rd ((5 * n) + 3) from congrFun h66 ((5 * n) + 3)]
                refine g_iast (pc := 165) (3 + n) (nI_aE rfl rfl) rfl (show 3 + n < 1776 by omega) (by decide) dX9_bank_165 ?_
                refine g_aload_n (pc := 166) dX9_bank_166 0 rfl rfl ?_
                refine gf_X9_7 (pc := 167) rfl dX9_bank_167 ?_
                refine g_bipush (pc := 170) (v := 35) dX9_bank_170 (by decide) ?_
                refine g_iload_n (pc := 172) dX9_bank_172 2 rfl rfl ?_
                refine g_iadd (pc := 173) dX9_bank_173 ?_
                refine g_aload_n (pc := 174) dX9_bank_174 0 rfl rfl ?_
                refine gf_X9_35 (pc := 175) rfl dX9_bank_175 ?_
                refine g_iconst (pc := 178) (v := 5) dX9_bank_178 (by decide) ?_
                refine g_iload_n (pc := 179) dX9_bank_179 2 rfl rfl ?_
                refine g_imul (pc := 180) dX9_bank_180 ?_
                refine g_iconst (pc := 181) (v := 4) dX9_bank_181 (by decide) ?_
                refine g_iadd (pc := 182) dX9_bank_182 ?_
                refine g_iald (pc := 183) ((5 * n) + 4) (nI_aE (nI_mE rfl rfl) rfl) rfl (show (5 * n) + 4 < 40 by omega) (by decide) dX9_bank_183 ?_
                rw [show gA (sA (sA (sA (sA (sA U 59 (bkF (gA U 59) rd r n)) 59 (upd (gA (sA U 59 (bkF (gA U 59) rd r n)) 59) (11 + n) (rd (5 * n)))) 59 (upd (gA (sA (sA U 59 (bkF (gA U 59) rd r n)) 59 (upd (gA (sA U 59 (bkF (gA U 59) rd r n)) 59) (11 + n) (rd (5 * n)))) 59) (19 + n) (rd ((5 * n) + 1)))) 59 (upd (gA (sA (sA (sA U 59 (bkF (gA U 59) rd r n)) 59 (upd (gA (sA U 59 (bkF (gA U 59) rd r n)) 59) (11 + n) (rd (5 * n)))) 59 (upd (gA (sA (sA U 59 (bkF (gA U 59) rd r n)) 59 (upd (gA (sA U 59 (bkF (gA U 59) rd r n)) 59) (11 + n) (rd (5 * n)))) 59) (19 + n) (rd ((5 * n) + 1)))) 59) (27 + n) (rd ((5 * n) + 2)))) 59 (upd (gA (sA (sA (sA (sA U 59 (bkF (gA U 59) rd r n)) 59 (upd (gA (sA U 59 (bkF (gA U 59) rd r n)) 59) (11 + n) (rd (5 * n)))) 59 (upd (gA (sA (sA U 59 (bkF (gA U 59) rd r n)) 59 (upd (gA (sA U 59 (bkF (gA U 59) rd r n)) 59) (11 + n) (rd (5 * n)))) 59) (19 + n) (rd ((5 * n) + 1)))) 59 (upd (gA (sA (sA (sA U 59 (bkF (gA U 59) rd r n)) 59 (upd (gA (sA U 59 (bkF (gA U 59) rd r n)) 59) (11 + n) (rd (5 * n)))) 59 (upd (gA (sA (sA U 59 (bkF (gA U 59) rd r n)) 59 (upd (gA (sA U 59 (bkF (gA U 59) rd r n)) 59) (11 + n) (rd (5 * n)))) 59) (19 + n) (rd ((5 * n) + 1)))) 59) (27 + n) (rd ((5 * n) + 2)))) 59) (3 + n) (rd ((5 * n) + 3)))) 66 ((5 * n) + 4) = rd ((5 * n) + 4) from congrFun h66 ((5 * n) + 4)]
                refine g_iast (pc := 184) (35 + n) (nI_aE rfl rfl) rfl (show 35 + n < 1776 by omega) (by decide) dX9_bank_184 ?_
                refine g_iinc (pc := 185) (L' := [(2, .int (nI n + 1)), (0, .ref (eA E 58)), (1, .int (nI i))]) dX9_bank_185 (k := 2) rfl (v := nI n + 1) rfl (Nat.le_of_ble_eq_true rfl) rfl ?_
                refine g_goto (pc := 188) (tgt := 85) dX9_bank_188 (by decide) ?_
                refine g_sub (L' := [(0, .ref (eA E 58)), (1, .int (nI i)), (2, .int (nI n + 1))]) [1, 2, 0] rfl ?_
                exact g_eq (by simp only [sA_sA, gA_same]; rfl) (by simp only [nI_1]) rfl (ih_85 hlt_85)
            refine g_sub (L' := [(0, .ref (eA E 58)), (1, .int (nI i)), (2, .int 0)]) [1, 2, 0] rfl ?_
            exact g_eq (by simp only [sA_sA, gA_same]; rfl) rfl rfl (H_85 0 (Nat.zero_le _))
          · have k_43 := Int32.not_le.mp c_43
            have hlt_39 : n < 1776 := by exact nlt_of (N := 1776) rfl rfl (by omega) (by omega) c_43
            refine g_aload_n (pc := 46) dX9_bank_46 0 rfl rfl ?_
            refine gf_X9_7 (pc := 47) rfl dX9_bank_47 ?_
            refine g_iload_n (pc := 50) dX9_bank_50 2 rfl rfl ?_
            refine g_iconst (pc := 51) (v := 0) dX9_bank_51 (by decide) ?_
            refine g_iast (pc := 52) n rfl rfl (show n < 1776 by omega) (by decide) dX9_bank_52 ?_
            refine g_iinc (pc := 53) (L' := [(2, .int (nI n + 1)), (0, .ref (eA E 58)), (1, .int (nI i))]) dX9_bank_53 (k := 2) rfl (v := nI n + 1) rfl (Nat.le_of_ble_eq_true rfl) rfl ?_
            refine g_goto (pc := 56) (tgt := 39) dX9_bank_56 (by decide) ?_
            refine g_sub (L' := [(0, .ref (eA E 58)), (1, .int (nI i)), (2, .int (nI n + 1))]) [1, 2, 0] rfl ?_
            exact g_eq (by rw [sA_sA, gA_same, fllF_s0]) (by simp only [nI_1]) rfl (ih_39 hlt_39)
        refine g_sub (L' := [(0, .ref (eA E 58)), (1, .int (nI i)), (2, .int 0)]) [1, 2, 0] rfl ?_
        exact g_eq (by rw [fllF_0]; exact (sA_self U 59).symm) rfl rfl (H_39 0 (Nat.zero_le _))
      · exact absurd hb c_31
    · have k_15 := Int32.not_le.mp c_15
      exact absurd (by rw [hm]; exact nI_pos' (by omega)) c_15
  · exact absurd (hx.symm.trans c_4) (by decide)
