/-! CHAINS -/
def stpA (f : Nat → Int32) (x : Int32) : Int32 := if persF x then f x.toNatClampNeg else -9
def stp0 (f : Nat → Int32) (to : Int32) (n : Nat) : Nat → Int32 := fun i => if i < n then (if nI i = to then 0 else -9) else f i
theorem stp0_0 (f : Nat → Int32) (to : Int32) : stp0 f to 0 = f := by funext i; simp [stp0]
theorem stp0_s (f : Nat → Int32) (to : Int32) (n : Nat) : upd (stp0 f to n) n (if nI n = to then 0 else -9) = stp0 f to (n + 1) := by
  funext i
  unfold stp0 upd
  by_cases h : i = n
  · subst h; simp
  · by_cases h2 : i < n
    · simp [h, h2, Nat.lt_succ_of_lt h2]
    · simp [h, h2, show ¬ i < n + 1 by omega]
/-- the lights 0 .. n - 1 of a round r -/
def stpI (S : St) (b : Nat) (r : Int32) (f : Nat → Int32) : Nat → Nat → Int32
  | 0 => f
  | n + 1 => if (owF S b (nI n) && persF (fldF S b 1 (nI n))) && (decide (stpI S b r f n (fldF S b 1 (nI n)).toNatClampNeg = -9) && decide (stpA (stpI S b r f n) (fldF S b 2 (nI n)) = r - 1)) then upd (stpI S b r f n) (fldF S b 1 (nI n)).toNatClampNeg r else stpI S b r f n
def stpO (S : St) (b : Nat) (f : Nat → Int32) : Nat → Nat → Int32
  | 0 => f
  | n + 1 => stpI S b (nI (n + 1)) (stpO S b f n) (szB S b)
def lowP (S : St) (b : Nat) (one : Int32) (i : Nat) : Bool := owF S b (nI i) && (decide (fldF S b 1 (nI i) = one) && decide (stpA (gA S 9) (fldF S b 2 (nI i)) = stpA (gA S 9) one - 1))
def fstI (p : Nat → Bool) : Nat → Nat → Int32 | 0, _ => -9 | f + 1, i => if p i then nI i else fstI p f (i + 1)
def lowF (S : St) (b : Nat) (one : Int32) : Int32 := fstI (lowP S b one) (szB S b) 0
def whoR (S : St) (b : Nat) (one : Int32) : Nat → Int32 | 0 => one | n + 1 => fldF S b 2 (lowF S b (whoR S b one n))
def chnR (S : St) (b : Nat) (one : Int32) (n : Nat) : Nat → Int32 := fun i => if i < n then lowF S b (whoR S b one i) else 0
theorem pers_nat {x : Int32} (h : persF x = true) : ∃ j : Nat, x = nI j ∧ j < 6 ∧ x.toNatClampNeg = j := by
  unfold persF at h
  rw [Bool.and_eq_true, Bool.not_eq_true', Bool.not_eq_true', decide_eq_false_iff_not, decide_eq_false_iff_not] at h
  obtain ⟨j, hj, rfl⟩ := ix_of (y := 6) (N := 6) rfl (by omega) h.1 h.2
  exact ⟨j, rfl, hj, nI_clamp (by omega)⟩
theorem fldF_sA {S : St} {k b j : Nat} {f : Nat → Int32} (hb : kd b = 0) (hk : k < 34) (x : Int32) : fldF (sA S k f) b j x = fldF S b j x := by
  have := kd_bng hb
  unfold fldF
  rw [gA_ne (by omega)]
  rfl
theorem owF_sA {S : St} {k b : Nat} {f : Nat → Int32} (hb : kd b = 0) (hk : k < 34) (x : Int32) : owF (sA S k f) b x = owF S b x := by
  unfold owF
  rw [fldF_sA hb hk]
  rfl
set_option maxRecDepth 100000 in
set_option maxHeartbeats 4000000 in
theorem c_X1_stepsOf (E : En) (S : St) (x : Int32) : CTe E i_X1_stepsOf S [.ref (eA E 8), .int x] S (some (.int (stpA (gA S 9) x))) := by
  refine ct_of [(0, .ref (eA E 8)), (1, .int x)] (by decide +kernel) (Nat.le_of_ble_eq_true rfl) rfl (fun X hM => ?_)
  refine g_iload_n (pc := 0) dX1_stepsOf_0 1 rfl rfl ?_
  refine g_nest (pc := 1) rfl dX1_stepsOf_1 (by rfl) (c_X8_isPerson E S x ) (Nat.le_of_ble_eq_true rfl) (by rfl) (Nat.le_of_ble_eq_true rfl) (fun S_1 r_1 h_1 => ?_)
  obtain ⟨rfl, rfl⟩ := h_1
  refine g_eq (st' := [.int (bI (persF x))]) rfl rfl rfl ?_
  refine g_b_eq (pc := 4) (tgt := 16) dX1_stepsOf_4 (by decide) (fun c_4 => ?_) (fun c_4 => ?_)
  · refine g_bipush (pc := 16) (v := -9) dX1_stepsOf_16 (by decide) ?_
    exact g_iret (pc := 18) hM rfl rfl ⟨rfl, some_int (by first | (rw [stpA, if_pos c_4, hj3]; done) | (rw [stpA, c_4]; rfl))⟩ dX1_stepsOf_18
  · obtain ⟨j, hj1, hj2, hj3⟩ := pers_nat c_4
    refine g_aload_n (pc := 7) dX1_stepsOf_7 0 rfl rfl ?_
    refine gf_X1_9 (pc := 8) rfl dX1_stepsOf_8 ?_
    refine g_iload_n (pc := 11) dX1_stepsOf_11 1 rfl rfl ?_
    refine g_iald (pc := 12) j hj1 rfl hj2 (by decide) dX1_stepsOf_12 ?_
    refine g_goto (pc := 13) (tgt := 18) dX1_stepsOf_13 (by decide) ?_
    exact g_iret (pc := 18) hM rfl rfl ⟨rfl, some_int (by first | (rw [stpA, if_pos c_4, hj3]; done) | (rw [stpA, c_4]; rfl))⟩ dX1_stepsOf_18
set_option maxRecDepth 100000 in
set_option maxHeartbeats 4000000 in
theorem c_X1_lowestNearer (E : En) (S : St) (b : Nat) (one : Int32) (hb : kd b = 0) (hz : okB S b) : CTe E i_X1_lowestNearer S [.ref (eA E 8), .ref (eA E b), .int one] S (some (.int (lowF S b one))) := by
  refine ct_of [(0, .ref (eA E 8)), (1, .ref (eA E b)), (2, .int one)] (by decide +kernel) (Nat.le_of_ble_eq_true rfl) rfl (fun X hM => ?_)
  refine g_iconst (pc := 0) (v := 0) dX1_lowestNearer_0 (by decide) ?_
  refine g_istore_n (pc := 1) (L' := [(3, .int 0), (0, .ref (eA E 8)), (1, .ref (eA E b)), (2, .int one)]) dX1_lowestNearer_1 rfl (Nat.le_of_ble_eq_true rfl) rfl ?_
  have H_2 : ∀ (f : Nat) (n : Nat), n + f = szB S b → fstI (lowP S b one) f n = fstI (lowP S b one) (szB S b) 0 → G E X i_X1_lowestNearer S 2 [(0, .ref (eA E 8)), (1, .ref (eA E b)), (2, .int one), (3, .int (nI n))] [] := by
    intro f
    induction f with
    | zero =>
      intro n h1 hu
      refine g_iload_n (pc := 2) dX1_lowestNearer_2 3 rfl rfl ?_
      refine g_aload_n (pc := 3) dX1_lowestNearer_3 1 rfl rfl ?_
      refine g_invV (pc := 4) j_X0_size mw_X1_15 dX1_lowestNearer_4 (rcv_X0 (by assumption)) (by rfl) (c_X0_size E S b (by assumption)) (Nat.le_of_ble_eq_true rfl) (Nat.le_of_ble_eq_true rfl) (by rfl) (Nat.le_of_ble_eq_true rfl) ?_
      refine g_icmp_ge (pc := 7) (tgt := 54) dX1_lowestNearer_7 (by decide) (fun c_7 => ?_) (fun c_7 => ?_)
      · have k_7 := Int32.not_lt.mpr c_7
        refine g_bipush (pc := 54) (v := -9) dX1_lowestNearer_54 (by decide) ?_
        exact g_iret (pc := 56) hM rfl rfl ⟨rfl, some_int (by rw [lowF, ← hu]; rfl)⟩ dX1_lowestNearer_56
      · have k_7 := Int32.not_le.mp c_7
        exact absurd (nlt_of (N := szB S b) rfl hz.1 (by have := hz.2; omega) (by have := hz.2; omega) c_7) (by omega)
    | succ f ih_2 =>
      intro n h1 hu
      refine g_iload_n (pc := 2) dX1_lowestNearer_2 3 rfl rfl ?_
      refine g_aload_n (pc := 3) dX1_lowestNearer_3 1 rfl rfl ?_
      refine g_invV (pc := 4) j_X0_size mw_X1_15 dX1_lowestNearer_4 (rcv_X0 (by assumption)) (by rfl) (c_X0_size E S b (by assumption)) (Nat.le_of_ble_eq_true rfl) (Nat.le_of_ble_eq_true rfl) (by rfl) (Nat.le_of_ble_eq_true rfl) ?_
      refine g_icmp_ge (pc := 7) (tgt := 54) dX1_lowestNearer_7 (by decide) (fun c_7 => ?_) (fun c_7 => ?_)
      · have k_7 := Int32.not_lt.mpr c_7
        exact absurd (nle_of (N := szB S b) rfl hz.1 (by have := hz.2; omega) (by have := hz.2; omega) c_7) (by omega)
      · have k_7 := Int32.not_le.mp c_7
        refine g_aload_n (pc := 10) dX1_lowestNearer_10 1 rfl rfl ?_
        refine g_iload_n (pc := 11) dX1_lowestNearer_11 3 rfl rfl ?_
        refine g_invV (pc := 12) j_X0_isOwing mw_X1_25 dX1_lowestNearer_12 (rcv_X0 (by assumption)) (by rfl) (c_X0_isOwing E S b (nI n) (by assumption) (by first | assumption | omega | rfl)) (Nat.le_of_ble_eq_true rfl) (Nat.le_of_ble_eq_true rfl) (by rfl) (Nat.le_of_ble_eq_true rfl) ?_
        refine g_b_eq (pc := 15) (tgt := 48) dX1_lowestNearer_15 (by decide) (fun c_15 => ?_) (fun c_15 => ?_)
        · refine g_iinc (pc := 48) (L' := [(3, .int (nI n + 1)), (0, .ref (eA E 8)), (1, .ref (eA E b)), (2, .int one)]) dX1_lowestNearer_48 (k := 3) rfl (v := nI n + 1) rfl (Nat.le_of_ble_eq_true rfl) rfl ?_
          refine g_goto (pc := 51) (tgt := 2) dX1_lowestNearer_51 (by decide) ?_
          refine g_sub (L' := [(0, .ref (eA E 8)), (1, .ref (eA E b)), (2, .int one), (3, .int (nI n + 1))]) [1, 2, 3, 0] rfl ?_
          exact g_eq rfl (by rw [nI_1]) rfl (ih_2 (n + 1) (by omega) (by rw [← hu, fstI]; simp only [lowP, c_15, if_true, if_false, Bool.false_eq_true, Bool.not_true, Bool.not_false, Bool.and_true, Bool.true_and, Bool.and_false, Bool.false_and, Bool.or_true, Bool.true_or, Bool.or_false, Bool.false_or, decide_true, decide_false, Bool.and_self]))
        · refine g_aload_n (pc := 18) dX1_lowestNearer_18 1 rfl rfl ?_
          refine g_iload_n (pc := 19) dX1_lowestNearer_19 3 rfl rfl ?_
          refine g_invV (pc := 20) j_X0_owerOf mw_X1_21 dX1_lowestNearer_20 (rcv_X0 (by assumption)) (by rfl) (c_X0_owerOf E S b (nI n) (by assumption) (by first | assumption | omega | rfl)) (Nat.le_of_ble_eq_true rfl) (Nat.le_of_ble_eq_true rfl) (by rfl) (Nat.le_of_ble_eq_true rfl) ?_
          refine g_iload_n (pc := 23) dX1_lowestNearer_23 2 rfl rfl ?_
          refine g_icmp_ne (pc := 24) (tgt := 48) dX1_lowestNearer_24 (by decide) (fun c_24 => ?_) (fun c_24 => ?_)
          · refine g_iinc (pc := 48) (L' := [(3, .int (nI n + 1)), (0, .ref (eA E 8)), (1, .ref (eA E b)), (2, .int one)]) dX1_lowestNearer_48 (k := 3) rfl (v := nI n + 1) rfl (Nat.le_of_ble_eq_true rfl) rfl ?_
            refine g_goto (pc := 51) (tgt := 2) dX1_lowestNearer_51 (by decide) ?_
            refine g_sub (L' := [(0, .ref (eA E 8)), (1, .ref (eA E b)), (2, .int one), (3, .int (nI n + 1))]) [1, 2, 3, 0] rfl ?_
            exact g_eq rfl (by rw [nI_1]) rfl (ih_2 (n + 1) (by omega) (by rw [← hu, fstI]; simp only [lowP, c_15, c_24, if_true, if_false, Bool.false_eq_true, Bool.not_true, Bool.not_false, Bool.and_true, Bool.true_and, Bool.and_false, Bool.false_and, Bool.or_true, Bool.true_or, Bool.or_false, Bool.false_or, decide_true, decide_false, Bool.and_self]))
          · refine g_aload_n (pc := 27) dX1_lowestNearer_27 0 rfl rfl ?_
            refine g_aload_n (pc := 28) dX1_lowestNearer_28 1 rfl rfl ?_
            refine g_iload_n (pc := 29) dX1_lowestNearer_29 3 rfl rfl ?_
            refine g_invV (pc := 30) j_X0_creditorOf mw_X1_32 dX1_lowestNearer_30 (rcv_X0 (by assumption)) (by rfl) (c_X0_creditorOf E S b (nI n) (by assumption) (by first | assumption | omega | rfl)) (Nat.le_of_ble_eq_true rfl) (Nat.le_of_ble_eq_true rfl) (by rfl) (Nat.le_of_ble_eq_true rfl) ?_
            refine g_invV (pc := 33) j_X1_stepsOf mw_X1_35 dX1_lowestNearer_33 (rcv_X1) (by rfl) (c_X1_stepsOf E S (fldF S b 2 (nI n)) ) (Nat.le_of_ble_eq_true rfl) (Nat.le_of_ble_eq_true rfl) (by rfl) (Nat.le_of_ble_eq_true rfl) ?_
            refine g_aload_n (pc := 36) dX1_lowestNearer_36 0 rfl rfl ?_
            refine g_iload_n (pc := 37) dX1_lowestNearer_37 2 rfl rfl ?_
            refine g_invV (pc := 38) j_X1_stepsOf mw_X1_35 dX1_lowestNearer_38 (rcv_X1) (by rfl) (c_X1_stepsOf E S one ) (Nat.le_of_ble_eq_true rfl) (Nat.le_of_ble_eq_true rfl) (by rfl) (Nat.le_of_ble_eq_true rfl) ?_
            refine g_iconst (pc := 41) (v := 1) dX1_lowestNearer_41 (by decide) ?_
            refine g_isub (pc := 42) dX1_lowestNearer_42 ?_
            refine g_icmp_ne (pc := 43) (tgt := 48) dX1_lowestNearer_43 (by decide) (fun c_43 => ?_) (fun c_43 => ?_)
            · refine g_iinc (pc := 48) (L' := [(3, .int (nI n + 1)), (0, .ref (eA E 8)), (1, .ref (eA E b)), (2, .int one)]) dX1_lowestNearer_48 (k := 3) rfl (v := nI n + 1) rfl (Nat.le_of_ble_eq_true rfl) rfl ?_
              refine g_goto (pc := 51) (tgt := 2) dX1_lowestNearer_51 (by decide) ?_
              refine g_sub (L' := [(0, .ref (eA E 8)), (1, .ref (eA E b)), (2, .int one), (3, .int (nI n + 1))]) [1, 2, 3, 0] rfl ?_
              exact g_eq rfl (by rw [nI_1]) rfl (ih_2 (n + 1) (by omega) (by rw [← hu, fstI]; simp only [lowP, c_15, eq_true c_24, c_43, if_true, if_false, Bool.false_eq_true, Bool.not_true, Bool.not_false, Bool.and_true, Bool.true_and, Bool.and_false, Bool.false_and, Bool.or_true, Bool.true_or, Bool.or_false, Bool.false_or, decide_true, decide_false, Bool.and_self]))
            · refine g_iload_n (pc := 46) dX1_lowestNearer_46 3 rfl rfl ?_
              exact g_iret (pc := 47) hM rfl rfl ⟨rfl, some_int (by rw [lowF, ← hu, fstI]; simp only [lowP, c_15, eq_true c_24, eq_true c_43, if_true, if_false, Bool.false_eq_true, Bool.not_true, Bool.not_false, Bool.and_true, Bool.true_and, Bool.and_false, Bool.false_and, Bool.or_true, Bool.true_or, Bool.or_false, Bool.false_or, decide_true, decide_false, Bool.and_self])⟩ dX1_lowestNearer_47
  refine g_sub (L' := [(0, .ref (eA E 8)), (1, .ref (eA E b)), (2, .int one), (3, .int 0)]) [1, 2, 3, 0] rfl ?_
  exact g_eq rfl rfl rfl (H_2 (szB S b) 0 (by omega) rfl)
set_option maxRecDepth 100000 in
set_option maxHeartbeats 4000000 in
theorem c_X1_shortest (E : En) (S : St) (b : Nat) (fr to : Int32) (hb : kd b = 0) (hz : okB S b) : CTe E i_X1_shortest S [.ref (eA E 8), .ref (eA E b), .int fr, .int to] (sA S 9 (stpO S b (stp0 (gA S 9) to 6) 5)) (some (.int (stpA (stpO S b (stp0 (gA S 9) to 6) 5) fr))) := by
  refine ct_of [(0, .ref (eA E 8)), (1, .ref (eA E b)), (2, .int fr), (3, .int to)] (by decide +kernel) (Nat.le_of_ble_eq_true rfl) rfl (fun X hM => ?_)
  refine g_iconst (pc := 0) (v := 0) dX1_shortest_0 (by decide) ?_
  refine g_istore (pc := 1) (L' := [(4, .int 0), (0, .ref (eA E 8)), (1, .ref (eA E b)), (2, .int fr), (3, .int to)]) dX1_shortest_1 (Nat.le_of_ble_eq_true rfl) rfl ?_
  have H_3 : ∀ n : Nat, n ≤ 6 → G E X i_X1_shortest (sA S 9 (stp0 (gA S 9) to n)) 3 [(0, .ref (eA E 8)), (1, .ref (eA E b)), (2, .int fr), (3, .int to), (4, .int (nI n))] [] := by
    refine dn_ind 6 (fun n hn_3 ih_3 => ?_)
    refine g_iload (pc := 3) dX1_shortest_3 4 rfl ?_
    refine g_bipush (pc := 5) (v := 6) dX1_shortest_5 (by decide) ?_
    refine g_icmp_ge (pc := 7) (tgt := 35) dX1_shortest_7 (by decide) (fun c_7 => ?_) (fun c_7 => ?_)
    · have k_7 := Int32.not_lt.mpr c_7
      have he_3 : n = 6 := Nat.le_antisymm hn_3 (by exact nle_of (N := 6) rfl rfl (by omega) (by omega) c_7)
      rw [he_3]
      refine g_iconst (pc := 35) (v := 1) dX1_shortest_35 (by decide) ?_
      refine g_istore (pc := 36) (L' := [(4, .int 1), (0, .ref (eA E 8)), (1, .ref (eA E b)), (2, .int fr), (3, .int to)]) dX1_shortest_36 (Nat.le_of_ble_eq_true rfl) rfl ?_
      have H_38 : ∀ r : Nat, r ≤ 5 → G E X i_X1_shortest (sA S 9 (stpO S b (stp0 (gA S 9) to 6) r)) 38 [(0, .ref (eA E 8)), (1, .ref (eA E b)), (2, .int fr), (3, .int to), (4, .int (nI (r + 1)))] [] := by
        refine dn_ind 5 (fun r hn_38 ih_38 => ?_)
        refine g_iload (pc := 38) dX1_shortest_38 4 rfl ?_
        refine g_bipush (pc := 40) (v := 6) dX1_shortest_40 (by decide) ?_
        refine g_icmp_ge (pc := 42) (tgt := 132) dX1_shortest_42 (by decide) (fun c_42 => ?_) (fun c_42 => ?_)
        · have k_42 := Int32.not_lt.mpr c_42
          have he_38 : r = 5 := Nat.le_antisymm hn_38 (by have := (nI_leI (a := 6) (b := r + 1) (by omega) (by omega)).mp c_42; omega)
          rw [he_38]
          refine g_aload_n (pc := 132) dX1_shortest_132 0 rfl rfl ?_
          refine g_iload_n (pc := 133) dX1_shortest_133 2 rfl rfl ?_
          refine g_invV (pc := 134) j_X1_stepsOf mw_X1_35 dX1_shortest_134 (rcv_X1) (by rfl) (c_X1_stepsOf E (sA S 9 (stpO S b (stp0 (gA S 9) to 6) 5)) fr ) (Nat.le_of_ble_eq_true rfl) (Nat.le_of_ble_eq_true rfl) (by rfl) (Nat.le_of_ble_eq_true rfl) ?_
          exact g_iret (pc := 137) hM rfl rfl ⟨rfl, some_int (by rw [gA_same])⟩ dX1_shortest_137
        · have k_42 := Int32.not_le.mp c_42
          have hlt_38 : r < 5 := by have := (nI_ltI (a := r + 1) (b := 6) (by omega) (by omega)).mp k_42; omega
          refine g_iconst (pc := 45) (v := 0) dX1_shortest_45 (by decide) ?_
          refine g_istore (pc := 46) (L' := [(5, .int 0), (0, .ref (eA E 8)), (1, .ref (eA E b)), (2, .int fr), (3, .int to), (4, .int (nI (r + 1)))]) dX1_shortest_46 (Nat.le_of_ble_eq_true rfl) rfl ?_
          have H_48 : ∀ n : Nat, n ≤ szB S b → G E X i_X1_shortest (sA S 9 (stpI S b (nI (r + 1)) (stpO S b (stp0 (gA S 9) to 6) r) n)) 48 [(0, .ref (eA E 8)), (1, .ref (eA E b)), (2, .int fr), (3, .int to), (4, .int (nI (r + 1))), (5, .int (nI n))] [] := by
            refine dn_ind (szB S b) (fun n hn_48 ih_48 => ?_)
            refine g_iload (pc := 48) dX1_shortest_48 5 rfl ?_
            refine g_aload_n (pc := 50) dX1_shortest_50 1 rfl rfl ?_
            refine g_invV (pc := 51) j_X0_size mw_X1_15 dX1_shortest_51 (rcv_X0 (by assumption)) (by rfl) (c_X0_size E (sA S 9 (stpI S b (nI (r + 1)) (stpO S b (stp0 (gA S 9) to 6) r) n)) b (by assumption)) (Nat.le_of_ble_eq_true rfl) (Nat.le_of_ble_eq_true rfl) (by rfl) (Nat.le_of_ble_eq_true rfl) ?_
            refine g_icmp_ge (pc := 54) (tgt := 126) dX1_shortest_54 (by decide) (fun c_54 => ?_) (fun c_54 => ?_)
            · have k_54 := Int32.not_lt.mpr c_54
              have he_48 : n = szB S b := Nat.le_antisymm hn_48 (by exact nle_of (N := szB S b) rfl hz.1 (by have := hz.2; omega) (by have := hz.2; omega) c_54)
              rw [he_48]
              refine g_iinc (pc := 126) (L' := [(4, .int (nI (r + 1) + 1)), (0, .ref (eA E 8)), (1, .ref (eA E b)), (2, .int fr), (3, .int to), (5, .int (nI (szB S b)))]) dX1_shortest_126 (k := 4) rfl (v := nI (r + 1) + 1) rfl (Nat.le_of_ble_eq_true rfl) rfl ?_
              refine g_goto (pc := 129) (tgt := 38) dX1_shortest_129 (by decide) ?_
              refine g_sub (L' := [(0, .ref (eA E 8)), (1, .ref (eA E b)), (2, .int fr), (3, .int to), (4, .int (nI (r + 1) + 1))]) [1, 2, 3, 4, 0] rfl ?_
              exact g_eq rfl (by simp only [nI_1]) rfl (ih_38 hlt_38)
            · have k_54 := Int32.not_le.mp c_54
              have hlt_48 : n < szB S b := by exact nlt_of (N := szB S b) rfl hz.1 (by have := hz.2; omega) (by have := hz.2; omega) c_54
              refine g_aload_n (pc := 57) dX1_shortest_57 1 rfl rfl ?_
              refine g_iload (pc := 58) dX1_shortest_58 5 rfl ?_
              refine g_invV (pc := 60) j_X0_owerOf mw_X1_21 dX1_shortest_60 (rcv_X0 (by assumption)) (by rfl) (c_X0_owerOf E (sA S 9 (stpI S b (nI (r + 1)) (stpO S b (stp0 (gA S 9) to 6) r) n)) b (nI n) (by assumption) hz) (Nat.le_of_ble_eq_true rfl) (Nat.le_of_ble_eq_true rfl) (by rfl) (Nat.le_of_ble_eq_true rfl) ?_
              refine g_istore (pc := 63) (L' := [(6, .int (fldF (sA S 9 (stpI S b (nI (r + 1)) (stpO S b (stp0 (gA S 9) to 6) r) n)) b 1 (nI n))), (0, .ref (eA E 8)), (1, .ref (eA E b)), (2, .int fr), (3, .int to), (4, .int (nI (r + 1))), (5, .int (nI n))]) dX1_shortest_63 (Nat.le_of_ble_eq_true rfl) rfl ?_
              refine g_aload_n (pc := 65) dX1_shortest_65 2 rfl rfl ?_
              refine g_iload (pc := 66) dX1_shortest_66 6 rfl ?_
              refine g_invV (pc := 68) j_X0_isOwing mw_X1_25 dX1_shortest_68 (rcv_X0 (by assumption)) (by rfl) (c_X0_isOwing E (sA S 9 (stpI S b (nI (r + 1)) (stpO S b (stp0 (gA S 9) to 6) r) n)) b (nI n) (by assumption) hz) (Nat.le_of_ble_eq_true rfl) (Nat.le_of_ble_eq_true rfl) (by rfl) (Nat.le_of_ble_eq_true rfl) ?_
              refine g_b_eq (pc := 71) (tgt := 120) dX1_shortest_71 (by decide) (fun c_71 => ?_) (fun c_71 => ?_)
              · rw [owF_sA hb (by omega)] at c_71
                refine g_iinc (pc := 120) (L' := [(5, .int (nI n + 1)), (6, .int (fldF (sA S 9 (stpI S b (nI (r + 1)) (stpO S b (stp0 (gA S 9) to 6) r) n)) b 1 (nI n))), (0, .ref (eA E 8)), (1, .ref (eA E b)), (2, .int fr), (3, .int to), (4, .int (nI (r + 1)))]) dX1_shortest_120 (k := 6) rfl (v := nI n + 1) rfl (Nat.le_of_ble_eq_true rfl) rfl ?_
                refine g_goto (pc := 123) (tgt := 48) dX1_shortest_123 (by decide) ?_
                refine g_sub (L' := [(0, .ref (eA E 8)), (1, .ref (eA E b)), (2, .int fr), (3, .int to), (4, .int (nI (r + 1))), (5, .int (nI n + 1))]) [2, 3, 4, 5, 6, 0] rfl ?_
                exact g_eq (by rw [stpI]; simp only [c_71, if_true, if_false, Bool.false_eq_true, Bool.not_true, Bool.not_false, Bool.and_true, Bool.true_and, Bool.and_false, Bool.false_and, Bool.or_true, Bool.true_or, Bool.or_false, Bool.false_or, decide_true, decide_false, Bool.and_self]) (by simp only [nI_1]) rfl (ih_48 hlt_48)
              · rw [owF_sA hb (by omega)] at c_71
                refine g_iload (pc := 74) dX1_shortest_74 0 rfl ?_
                refine g_nest (pc := 76) rfl dX1_shortest_76 (by rfl) (c_X8_isPerson E (sA S 9 (stpI S b (nI (r + 1)) (stpO S b (stp0 (gA S 9) to 6) r) n)) (fldF (sA S 9 (stpI S b (nI (r + 1)) (stpO S b (stp0 (gA S 9) to 6) r) n)) b 1 (nI n)) ) (Nat.le_of_ble_eq_true rfl) (by rfl) (Nat.le_of_ble_eq_true rfl) (fun S_76 r_76 h_76 => ?_)
                obtain ⟨rfl, rfl⟩ := h_76
                refine g_eq (st' := [.int (bI (persF (fldF (sA S 9 (stpI S b (nI (r + 1)) (stpO S b (stp0 (gA S 9) to 6) r) n)) b 1 (nI n))))]) rfl rfl rfl ?_
                refine g_b_eq (pc := 79) (tgt := 120) dX1_shortest_79 (by decide) (fun c_79 => ?_) (fun c_79 => ?_)
                · rw [fldF_sA hb (by omega)] at c_79
                  refine g_iinc (pc := 120) (L' := [(5, .int (nI n + 1)), (6, .int (fldF (sA S 9 (stpI S b (nI (r + 1)) (stpO S b (stp0 (gA S 9) to 6) r) n)) b 1 (nI n))), (0, .ref (eA E 8)), (1, .ref (eA E b)), (2, .int fr), (3, .int to), (4, .int (nI (r + 1)))]) dX1_shortest_120 (k := 6) rfl (v := nI n + 1) rfl (Nat.le_of_ble_eq_true rfl) rfl ?_
                  refine g_goto (pc := 123) (tgt := 48) dX1_shortest_123 (by decide) ?_
                  refine g_sub (L' := [(0, .ref (eA E 8)), (1, .ref (eA E b)), (2, .int fr), (3, .int to), (4, .int (nI (r + 1))), (5, .int (nI n + 1))]) [2, 3, 4, 5, 6, 0] rfl ?_
                  exact g_eq (by rw [stpI]; simp only [c_71, c_79, if_true, if_false, Bool.false_eq_true, Bool.not_true, Bool.not_false, Bool.and_true, Bool.true_and, Bool.and_false, Bool.false_and, Bool.or_true, Bool.true_or, Bool.or_false, Bool.false_or, decide_true, decide_false, Bool.and_self]) (by simp only [nI_1]) rfl (ih_48 hlt_48)
                · rw [fldF_sA hb (by omega)] at c_79
                  obtain ⟨j, hj1, hj2, hj3⟩ := pers_nat c_79
                  refine g_aload_n (pc := 82) dX1_shortest_82 1 rfl rfl ?_
                  refine gf_X1_9 (pc := 83) rfl dX1_shortest_83 ?_
                  refine g_iload (pc := 86) dX1_shortest_86 0 rfl ?_
                  refine g_iald (pc := 88) j (by rw [fldF_sA hb (by omega)]; exact hj1) rfl hj2 (by decide) dX1_shortest_88 ?_
                  refine g_bipush (pc := 89) (v := -9) dX1_shortest_89 (by decide) ?_
                  refine g_icmp_ne (pc := 91) (tgt := 120) dX1_shortest_91 (by decide) (fun c_91 => ?_) (fun c_91 => ?_)
                  · rw [gA_same] at c_91
                    refine g_iinc (pc := 120) (L' := [(5, .int (nI n + 1)), (6, .int (fldF (sA S 9 (stpI S b (nI (r + 1)) (stpO S b (stp0 (gA S 9) to 6) r) n)) b 1 (nI n))), (0, .ref (eA E 8)), (1, .ref (eA E b)), (2, .int fr), (3, .int to), (4, .int (nI (r + 1)))]) dX1_shortest_120 (k := 6) rfl (v := nI n + 1) rfl (Nat.le_of_ble_eq_true rfl) rfl ?_
                    refine g_goto (pc := 123) (tgt := 48) dX1_shortest_123 (by decide) ?_
                    refine g_sub (L' := [(0, .ref (eA E 8)), (1, .ref (eA E b)), (2, .int fr), (3, .int to), (4, .int (nI (r + 1))), (5, .int (nI n + 1))]) [2, 3, 4, 5, 6, 0] rfl ?_
                    exact g_eq (by rw [stpI, hj3]; simp only [c_71, c_79, c_91, if_true, if_false, Bool.false_eq_true, Bool.not_true, Bool.not_false, Bool.and_true, Bool.true_and, Bool.and_false, Bool.false_and, Bool.or_true, Bool.true_or, Bool.or_false, Bool.false_or, decide_true, decide_false, Bool.and_self]) (by simp only [nI_1]) rfl (ih_48 hlt_48)
                  · rw [gA_same] at c_91
                    refine g_aload_n (pc := 94) dX1_shortest_94 1 rfl rfl ?_
                    refine g_aload_n (pc := 95) dX1_shortest_95 2 rfl rfl ?_
                    refine g_iload (pc := 96) dX1_shortest_96 6 rfl ?_
                    refine g_invV (pc := 98) j_X0_creditorOf mw_X1_32 dX1_shortest_98 (rcv_X0 (by assumption)) (by rfl) (c_X0_creditorOf E (sA S 9 (stpI S b (nI (r + 1)) (stpO S b (stp0 (gA S 9) to 6) r) n)) b (nI n) (by assumption) hz) (Nat.le_of_ble_eq_true rfl) (Nat.le_of_ble_eq_true rfl) (by rfl) (Nat.le_of_ble_eq_true rfl) ?_
                    refine g_invV (pc := 101) j_X1_stepsOf mw_X1_35 dX1_shortest_101 (rcv_X1) (by rfl) (c_X1_stepsOf E (sA S 9 (stpI S b (nI (r + 1)) (stpO S b (stp0 (gA S 9) to 6) r) n)) (fldF (sA S 9 (stpI S b (nI (r + 1)) (stpO S b (stp0 (gA S 9) to 6) r) n)) b 2 (nI n)) ) (Nat.le_of_ble_eq_true rfl) (Nat.le_of_ble_eq_true rfl) (by rfl) (Nat.le_of_ble_eq_true rfl) ?_
                    refine g_iload (pc := 104) dX1_shortest_104 5 rfl ?_
                    refine g_iconst (pc := 106) (v := 1) dX1_shortest_106 (by decide) ?_
                    refine g_isub (pc := 107) dX1_shortest_107 ?_
                    refine g_icmp_ne (pc := 108) (tgt := 120) dX1_shortest_108 (by decide) (fun c_108 => ?_) (fun c_108 => ?_)
                    · rw [gA_same, fldF_sA hb (by omega)] at c_108
                      refine g_iinc (pc := 120) (L' := [(5, .int (nI n + 1)), (6, .int (fldF (sA S 9 (stpI S b (nI (r + 1)) (stpO S b (stp0 (gA S 9) to 6) r) n)) b 1 (nI n))), (0, .ref (eA E 8)), (1, .ref (eA E b)), (2, .int fr), (3, .int to), (4, .int (nI (r + 1)))]) dX1_shortest_120 (k := 6) rfl (v := nI n + 1) rfl (Nat.le_of_ble_eq_true rfl) rfl ?_
                      refine g_goto (pc := 123) (tgt := 48) dX1_shortest_123 (by decide) ?_
                      refine g_sub (L' := [(0, .ref (eA E 8)), (1, .ref (eA E b)), (2, .int fr), (3, .int to), (4, .int (nI (r + 1))), (5, .int (nI n + 1))]) [2, 3, 4, 5, 6, 0] rfl ?_
                      exact g_eq (by rw [stpI, hj3]; simp only [c_71, c_79, eq_true c_91, c_108, if_true, if_false, Bool.false_eq_true, Bool.not_true, Bool.not_false, Bool.and_true, Bool.true_and, Bool.and_false, Bool.false_and, Bool.or_true, Bool.true_or, Bool.or_false, Bool.false_or, decide_true, decide_false, Bool.and_self]) (by simp only [nI_1]) rfl (ih_48 hlt_48)
                    · rw [gA_same, fldF_sA hb (by omega)] at c_108
                      refine g_aload_n (pc := 111) dX1_shortest_111 1 rfl rfl ?_
                      refine gf_X1_9 (pc := 112) rfl dX1_shortest_112 ?_
                      refine g_iload (pc := 115) dX1_shortest_115 0 rfl ?_
                      refine g_iload (pc := 117) dX1_shortest_117 5 rfl ?_
                      refine g_iast (pc := 119) j (by rw [fldF_sA hb (by omega)]; exact hj1) rfl hj2 (by decide) dX1_shortest_119 ?_
                      refine g_iinc (pc := 120) (L' := [(5, .int (nI n + 1)), (6, .int (fldF (sA S 9 (stpI S b (nI (r + 1)) (stpO S b (stp0 (gA S 9) to 6) r) n)) b 1 (nI n))), (0, .ref (eA E 8)), (1, .ref (eA E b)), (2, .int fr), (3, .int to), (4, .int (nI (r + 1)))]) dX1_shortest_120 (k := 6) rfl (v := nI n + 1) rfl (Nat.le_of_ble_eq_true rfl) rfl ?_
                      refine g_goto (pc := 123) (tgt := 48) dX1_shortest_123 (by decide) ?_
                      refine g_sub (L' := [(0, .ref (eA E 8)), (1, .ref (eA E b)), (2, .int fr), (3, .int to), (4, .int (nI (r + 1))), (5, .int (nI n + 1))]) [2, 3, 4, 5, 6, 0] rfl ?_
                      exact g_eq (by rw [sA_sA, gA_same, stpI, hj3]; simp only [c_71, c_79, eq_true c_91, eq_true c_108, if_true, if_false, Bool.false_eq_true, Bool.not_true, Bool.not_false, Bool.and_true, Bool.true_and, Bool.and_false, Bool.false_and, Bool.or_true, Bool.true_or, Bool.or_false, Bool.false_or, decide_true, decide_false, Bool.and_self]) (by simp only [nI_1]) rfl (ih_48 hlt_48)
          refine g_sub (L' := [(0, .ref (eA E 8)), (1, .ref (eA E b)), (2, .int fr), (3, .int to), (4, .int (nI (r + 1))), (5, .int 0)]) [1, 2, 3, 4, 5, 0] rfl ?_
          exact g_eq rfl rfl rfl (H_48 0 (Nat.zero_le _))
      refine g_sub (L' := [(0, .ref (eA E 8)), (1, .ref (eA E b)), (2, .int fr), (3, .int to), (4, .int 1)]) [1, 2, 3, 4, 0] rfl ?_
      exact g_eq rfl rfl rfl (H_38 0 (Nat.zero_le _))
    · have k_7 := Int32.not_le.mp c_7
      have hlt_3 : n < 6 := by exact nlt_of (N := 6) rfl rfl (by omega) (by omega) c_7
      refine g_aload_n (pc := 10) dX1_shortest_10 0 rfl rfl ?_
      refine gf_X1_9 (pc := 11) rfl dX1_shortest_11 ?_
      refine g_iload (pc := 14) dX1_shortest_14 4 rfl ?_
      refine g_iload (pc := 16) dX1_shortest_16 4 rfl ?_
      refine g_iload_n (pc := 18) dX1_shortest_18 3 rfl rfl ?_
      refine g_icmp_ne (pc := 19) (tgt := 26) dX1_shortest_19 (by decide) (fun c_19 => ?_) (fun c_19 => ?_)
      · refine g_bipush (pc := 26) (v := -9) dX1_shortest_26 (by decide) ?_
        refine g_iast (pc := 28) n rfl rfl (show n < 6 from hlt_3) (by decide) dX1_shortest_28 ?_
        refine g_iinc (pc := 29) (L' := [(4, .int (nI n + 1)), (0, .ref (eA E 8)), (1, .ref (eA E b)), (2, .int fr), (3, .int to)]) dX1_shortest_29 (k := 4) rfl (v := nI n + 1) rfl (Nat.le_of_ble_eq_true rfl) rfl ?_
        refine g_goto (pc := 32) (tgt := 3) dX1_shortest_32 (by decide) ?_
        refine g_sub (L' := [(0, .ref (eA E 8)), (1, .ref (eA E b)), (2, .int fr), (3, .int to), (4, .int (nI n + 1))]) [1, 2, 3, 4, 0] rfl ?_
        exact g_eq (by rw [sA_sA, gA_same, ← stp0_s]; simp only [c_19, if_true, if_false]) (by simp only [nI_1]) rfl (ih_3 hlt_3)
      · refine g_iconst (pc := 22) (v := 0) dX1_shortest_22 (by decide) ?_
        refine g_goto (pc := 23) (tgt := 28) dX1_shortest_23 (by decide) ?_
        refine g_iast (pc := 28) n rfl rfl (show n < 6 from hlt_3) (by decide) dX1_shortest_28 ?_
        refine g_iinc (pc := 29) (L' := [(4, .int (nI n + 1)), (0, .ref (eA E 8)), (1, .ref (eA E b)), (2, .int fr), (3, .int to)]) dX1_shortest_29 (k := 4) rfl (v := nI n + 1) rfl (Nat.le_of_ble_eq_true rfl) rfl ?_
        refine g_goto (pc := 32) (tgt := 3) dX1_shortest_32 (by decide) ?_
        refine g_sub (L' := [(0, .ref (eA E 8)), (1, .ref (eA E b)), (2, .int fr), (3, .int to), (4, .int (nI n + 1))]) [1, 2, 3, 4, 0] rfl ?_
        exact g_eq (by rw [sA_sA, gA_same, ← stp0_s]; simp only [c_19, if_true, if_false]) (by simp only [nI_1]) rfl (ih_3 hlt_3)
  refine g_sub (L' := [(0, .ref (eA E 8)), (1, .ref (eA E b)), (2, .int fr), (3, .int to), (4, .int 0)]) [1, 2, 3, 4, 0] rfl ?_
  exact g_eq (by rw [stp0_0, sA_self]) rfl rfl (H_3 0 (Nat.zero_le _))
/-- the bank b is the same in both -/
def sameB (S T : St) (b : Nat) : Prop := (∀ j, 6 ≤ j → j ≤ 9 → gI S b j = gI T b j) ∧ ∀ j, j ≤ 5 → gA S (34 + 6 * (b - 30) + j) = gA T (34 + 6 * (b - 30) + j)
theorem hasF_eq {S T : St} {b : Nat} (h : sameB S T b) (k : Int32) : hasF S b k = hasF T b k := by unfold hasF; rw [h.1 6 (by omega) (by omega)]
theorem litF_eq {S T : St} {b : Nat} (h : sameB S T b) (k : Int32) : litF S b k = litF T b k := by unfold litF; rw [hasF_eq h, h.1 7 (by omega) (by omega)]
theorem fldF_eq {S T : St} {b : Nat} (h : sameB S T b) {j : Nat} (hj : j ≤ 5) (k : Int32) : fldF S b j k = fldF T b j k := by unfold fldF; rw [hasF_eq h, h.2 j hj]
theorem owF_eq {S T : St} {b : Nat} (h : sameB S T b) (k : Int32) : owF S b k = owF T b k := by unfold owF; rw [litF_eq h, fldF_eq h (by omega)]
theorem gloF_eq {S T : St} {b : Nat} (h : sameB S T b) (k n : Int32) : gloF S b k n = gloF T b k n := by unfold gloF; rw [fldF_eq h (by omega), fldF_eq h (by omega)]
theorem glaF_eq {S T : St} {b : Nat} (h : sameB S T b) (k p n : Int32) : glaF S b k p n = glaF T b k p n := by unfold glaF; rw [gloF_eq h, fldF_eq h (by omega)]
theorem szB_eq {S T : St} {b : Nat} (h : sameB S T b) : szB S b = szB T b := szB_of (h.1 6 (by omega) (by omega))
theorem briF_eq {S T : St} {b : Nat} (h : sameB S T b) (p n : Int32) : briF S b p n = briF T b p n := by
  unfold briF
  simp only [szB_eq h, litF_eq h, glaF_eq h]
theorem balR_eq {S T : St} {b : Nat} (h : sameB S T b) (one : Int32) : ∀ n, balR S b one n = balR T b one n
  | 0 => rfl
  | n + 1 => by simp only [balR, balR_eq h one n, owF_eq h, fldF_eq h (show 1 ≤ 5 by omega), fldF_eq h (show 2 ≤ 5 by omega)]
theorem balF_eq {S T : St} {b : Nat} (h : sameB S T b) (one : Int32) : balF S b one = balF T b one := by unfold balF; rw [szB_eq h, balR_eq h]
theorem partF_eq {S T : St} {b : Nat} (h : sameB S T b) (k w : Int32) : partF S b k w = partF T b k w := by
  unfold partF
  rw [fldF_eq h (by omega), fldF_eq h (by omega), fldF_eq h (by omega), fldF_eq h (by omega), fldF_eq h (by omega), litF_eq h, gloF_eq h, h.1 8 (by omega) (by omega)]
theorem lowF_eq {S T : St} {b : Nat} (h : sameB S T b) (h9 : gA S 9 = gA T 9) (one : Int32) : lowF S b one = lowF T b one := by
  have e : lowP S b one = lowP T b one := by
    funext i
    unfold lowP
    rw [owF_eq h, fldF_eq h (by omega), fldF_eq h (by omega), h9]
  unfold lowF
  rw [e, szB_eq h]
theorem sameB_rf (S : St) (b : Nat) : sameB S S b := ⟨fun _ _ _ => rfl, fun _ _ => rfl⟩
theorem sameB_sA {S T : St} {b k : Nat} {f : Nat → Int32} (h : sameB S T b) (hb : 30 ≤ b) (hk : k < 34) : sameB (sA S k f) T b := ⟨h.1, fun j hj => by rw [gA_ne (by omega)]; exact h.2 j hj⟩
theorem sameB_sI {S T : St} {b k j : Nat} {v : Int32} (h : sameB S T b) (hk : k ≠ b) : sameB (sI S k j v) T b := ⟨fun i h1 h2 => by rw [gI_ne (by omega)]; exact h.1 i h1 h2, h.2⟩
def chnG (S : St) (b : Nat) (one : Int32) (g : Nat → Int32) (n : Nat) : Nat → Int32 := fun i => if i < n then lowF S b (whoR S b one i) else g i
theorem chnG_0 (S : St) (b : Nat) (one : Int32) (g : Nat → Int32) : chnG S b one g 0 = g := by funext i; simp [chnG]
theorem chnG_s (S : St) (b : Nat) (one : Int32) (g : Nat → Int32) (n : Nat) : upd (chnG S b one g n) n (lowF S b (whoR S b one n)) = chnG S b one g (n + 1) := by
  funext i
  unfold chnG upd
  by_cases h : i = n
  · subst h; simp
  · by_cases h2 : i < n
    · simp [h, h2, Nat.lt_succ_of_lt h2]
    · simp [h, h2, show ¬ i < n + 1 by omega]
theorem setF_in {S : St} {k j m : Nat} {v : Int32} (hm : gI S k 1 = nI m) (hj : j < m) (hM : m < 2 ^ 31) : setF S k (nI j) v = sA S (k + 10) (upd (gA S (k + 10)) j v) := by
  have h1 : holdsF S k (nI j) = true := by
    unfold holdsF
    rw [hm]
    have a : ¬ nI j < 0 := nI_pos (by omega)
    have b : ¬ nI m ≤ nI j := nI_ge hj hM
    simp [a, b]
  rw [setF, if_pos h1, nI_clamp (by omega)]
theorem getF_in {S : St} {k j m : Nat} (hm : gI S k 1 = nI m) (hj : j < m) (hM : m < 2 ^ 31) : getF S k (nI j) = gA S (k + 10) j := by
  have h1 : holdsF S k (nI j) = true := by
    unfold holdsF
    rw [hm]
    have a : ¬ nI j < 0 := nI_pos (by omega)
    have b : ¬ nI m ≤ nI j := nI_ge hj hM
    simp [a, b]
  rw [getF, if_pos h1, nI_clamp (by omega)]
set_option maxRecDepth 100000 in
set_option maxHeartbeats 4000000 in
theorem c_X1_write (E : En) (S : St) (b k m : Nat) (fr : Int32) (hb : kd b = 0) (hz : okB S b) (hk : kd k = 3) (hm : stpA (gA S 9) fr = nI m) (hm6 : m ≤ 6) : CTe E i_X1_write S [.ref (eA E 8), .ref (eA E b), .int fr, .ref (eA E k)] (sA (sI S k 1 (nI m)) (k + 10) (chnG S b fr (fillF (gA S (k + 10)) 0 m) m)) none := by
  have hk2 := kd_sng hk
  have hb2 := kd_bng hb
  have hln := ln_c hk
  refine ct_of [(0, .ref (eA E 8)), (1, .ref (eA E b)), (2, .int fr), (3, .ref (eA E k))] (by decide +kernel) (Nat.le_of_ble_eq_true rfl) rfl (fun X hM => ?_)
  refine g_aload_n (pc := 0) dX1_write_0 3 rfl rfl ?_
  refine g_aload_n (pc := 1) dX1_write_1 0 rfl rfl ?_
  refine g_iload_n (pc := 2) dX1_write_2 2 rfl rfl ?_
  refine g_invV (pc := 3) j_X1_stepsOf mw_X1_35 dX1_write_3 (rcv_X1) (by rfl) (c_X1_stepsOf E S fr ) (Nat.le_of_ble_eq_true rfl) (Nat.le_of_ble_eq_true rfl) (by rfl) (Nat.le_of_ble_eq_true rfl) ?_
  rw [hm]
  refine g_iconst (pc := 6) (v := 0) dX1_write_6 (by decide) ?_
  refine g_invN (pc := 7) j_X5_renew mw_X1_38 dX1_write_7 (rcv_X5 (by assumption)) (by rfl) (c_X5_renew E S k m 0 (by assumption) (by first | assumption | omega | rfl)) (Nat.le_of_ble_eq_true rfl) (Nat.le_of_ble_eq_true rfl) (by rfl) (Nat.le_of_ble_eq_true rfl) ?_
  refine g_iload_n (pc := 10) dX1_write_10 2 rfl rfl ?_
  refine g_istore (pc := 11) (L' := [(4, .int fr), (0, .ref (eA E 8)), (1, .ref (eA E b)), (2, .int fr), (3, .ref (eA E k))]) dX1_write_11 (Nat.le_of_ble_eq_true rfl) rfl ?_
  refine g_iconst (pc := 13) (v := 0) dX1_write_13 (by decide) ?_
  refine g_istore (pc := 14) (L' := [(5, .int 0), (4, .int fr), (0, .ref (eA E 8)), (1, .ref (eA E b)), (2, .int fr), (3, .ref (eA E k))]) dX1_write_14 (Nat.le_of_ble_eq_true rfl) rfl ?_
  have H_16 : ∀ n : Nat, n ≤ m → G E X i_X1_write (sA (sI S k 1 (nI m)) (k + 10) (chnG S b fr (fillF (gA S (k + 10)) 0 m) n)) 16 [(0, .ref (eA E 8)), (1, .ref (eA E b)), (2, .int fr), (3, .ref (eA E k)), (4, .int (whoR S b fr n)), (5, .int (nI n))] [] := by
    refine dn_ind m (fun n hn_16 ih_16 => ?_)
    refine g_iload (pc := 16) dX1_write_16 5 rfl ?_
    refine g_aload_n (pc := 18) dX1_write_18 3 rfl rfl ?_
    refine g_invV (pc := 19) j_X5_size mw_X1_44 dX1_write_19 (rcv_X5 (by assumption)) (by rfl) (c_X5_size E (sA (sI S k 1 (nI m)) (k + 10) (chnG S b fr (fillF (gA S (k + 10)) 0 m) n)) k (by assumption)) (Nat.le_of_ble_eq_true rfl) (Nat.le_of_ble_eq_true rfl) (by rfl) (Nat.le_of_ble_eq_true rfl) ?_
    refine g_icmp_ge (pc := 22) (tgt := 56) dX1_write_22 (by decide) (fun c_22 => ?_) (fun c_22 => ?_)
    · have k_22 := Int32.not_lt.mpr c_22
      have he_16 : n = m := Nat.le_antisymm hn_16 (by exact nle_of (N := m) rfl (by rw [gI_sA, gI_same]) (by omega) (by omega) c_22)
      rw [he_16]
      exact g_vret (pc := 56) hM rfl ⟨rfl, rfl⟩ dX1_write_56
    · have k_22 := Int32.not_le.mp c_22
      have hlt_16 : n < m := by exact nlt_of (N := m) rfl (by rw [gI_sA, gI_same]) (by omega) (by omega) c_22
      refine g_aload_n (pc := 25) dX1_write_25 0 rfl rfl ?_
      refine g_aload_n (pc := 26) dX1_write_26 1 rfl rfl ?_
      refine g_iload (pc := 27) dX1_write_27 4 rfl ?_
      refine g_invV (pc := 29) j_X1_lowestNearer mw_X1_45 dX1_write_29 (rcv_X1) (by rfl) (c_X1_lowestNearer E (sA (sI S k 1 (nI m)) (k + 10) (chnG S b fr (fillF (gA S (k + 10)) 0 m) n)) b (whoR S b fr n) (by assumption) (okB_of (by rw [gI_sA, gI_ne (by omega)]) hz)) (Nat.le_of_ble_eq_true rfl) (Nat.le_of_ble_eq_true rfl) (by rfl) (Nat.le_of_ble_eq_true rfl) ?_
      have hsm : sameB ((sA (sI S k 1 (nI m)) (k + 10) (chnG S b fr (fillF (gA S (k + 10)) 0 m) n))) S b := sameB_sA (sameB_sI (sameB_rf S b) (by omega)) (by omega) (by omega)
      have h9 : gA ((sA (sI S k 1 (nI m)) (k + 10) (chnG S b fr (fillF (gA S (k + 10)) 0 m) n))) 9 = gA S 9 := gA_ne (by omega)
      rw [lowF_eq hsm h9]
      refine g_istore (pc := 32) (L' := [(6, .int (lowF S b (whoR S b fr n))), (0, .ref (eA E 8)), (1, .ref (eA E b)), (2, .int fr), (3, .ref (eA E k)), (4, .int (whoR S b fr n)), (5, .int (nI n))]) dX1_write_32 (Nat.le_of_ble_eq_true rfl) rfl ?_
      refine g_aload_n (pc := 34) dX1_write_34 4 rfl rfl ?_
      refine g_iload (pc := 35) dX1_write_35 6 rfl ?_
      refine g_iload (pc := 37) dX1_write_37 0 rfl ?_
      refine g_invN (pc := 39) j_X5_set mw_X1_49 dX1_write_39 (rcv_X5 (by assumption)) (by rfl) (c_X5_set E (sA (sI S k 1 (nI m)) (k + 10) (chnG S b fr (fillF (gA S (k + 10)) 0 m) n)) k (nI n) (lowF S b (whoR S b fr n)) (by assumption) (by rw [gI_sA, gI_same, nI_toInt (by omega)]; omega)) (Nat.le_of_ble_eq_true rfl) (Nat.le_of_ble_eq_true rfl) (by rfl) (Nat.le_of_ble_eq_true rfl) ?_
      rw [setF_in (m := m) (by rw [gI_sA, gI_same]) hlt_16 (by omega), sA_sA, gA_same, chnG_s]
      refine g_aload_n (pc := 42) dX1_write_42 2 rfl rfl ?_
      refine g_iload (pc := 43) dX1_write_43 0 rfl ?_
      refine g_invV (pc := 45) j_X0_creditorOf mw_X1_32 dX1_write_45 (rcv_X0 (by assumption)) (by rfl) (c_X0_creditorOf E (sA (sI S k 1 (nI m)) (k + 10) (chnG S b fr (fillF (gA S (k + 10)) 0 m) (n + 1))) b (lowF S b (whoR S b fr n)) (by assumption) (okB_of (by rw [gI_sA, gI_ne (by omega)]) hz)) (Nat.le_of_ble_eq_true rfl) (Nat.le_of_ble_eq_true rfl) (by rfl) (Nat.le_of_ble_eq_true rfl) ?_
      have hsm2 : sameB ((sA (sI S k 1 (nI m)) (k + 10) (chnG S b fr (fillF (gA S (k + 10)) 0 m) (n + 1)))) S b := sameB_sA (sameB_sI (sameB_rf S b) (by omega)) (by omega) (by omega)
      rw [fldF_eq hsm2 (by omega)]
      refine g_istore (pc := 48) (L' := [(4, .int (fldF S b 2 (lowF S b (whoR S b fr n)))), (6, .int (lowF S b (whoR S b fr n))), (0, .ref (eA E 8)), (1, .ref (eA E b)), (2, .int fr), (3, .ref (eA E k)), (5, .int (nI n))]) dX1_write_48 (Nat.le_of_ble_eq_true rfl) rfl ?_
      refine g_iinc (pc := 50) (L' := [(5, .int (nI n + 1)), (4, .int (fldF S b 2 (lowF S b (whoR S b fr n)))), (6, .int (lowF S b (whoR S b fr n))), (0, .ref (eA E 8)), (1, .ref (eA E b)), (2, .int fr), (3, .ref (eA E k))]) dX1_write_50 (k := 6) rfl (v := nI n + 1) rfl (Nat.le_of_ble_eq_true rfl) rfl ?_
      refine g_goto (pc := 53) (tgt := 16) dX1_write_53 (by decide) ?_
      refine g_sub (L' := [(0, .ref (eA E 8)), (1, .ref (eA E b)), (2, .int fr), (3, .ref (eA E k)), (4, .int (fldF S b 2 (lowF S b (whoR S b fr n)))), (5, .int (nI n + 1))]) [3, 4, 5, 6, 1, 0] rfl ?_
      exact g_eq rfl (by simp only [nI_1, whoR]) rfl (ih_16 hlt_16)
  refine g_sub (L' := [(0, .ref (eA E 8)), (1, .ref (eA E b)), (2, .int fr), (3, .ref (eA E k)), (4, .int fr), (5, .int 0)]) [2, 3, 4, 5, 1, 0] rfl ?_
  exact g_eq (by rw [chnG_0]) rfl rfl (H_16 0 (Nat.zero_le _))
