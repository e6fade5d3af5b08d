/-! SETS by turns -/
def laI (set : Nat) (g : Nat → Int32) : Nat → Nat → Int32
  | 0 => g
  | j + 1 => if nI set &&& nI (2 ^ j) = 0 then laI set g j else upd (laI set g j) set (if laI set g j (set - 2 ^ j) < laI set g j set then laI set g j (set - 2 ^ j) else laI set g j set)
def laO (z : Nat) (lit turn : Int32) (g : Nat → Int32) : Nat → Nat → Int32
  | 0 => g
  | m + 1 => if turn < bcF (nI (2 ^ z - 1 - m) ^^^ lit) then laO z lit turn g m else laI (2 ^ z - 1 - m) (laO z lit turn g m) z
def liI (set : Nat) (g : Nat → Int32) : Nat → Nat → Int32
  | 0 => g
  | j + 1 => if nI set &&& nI (2 ^ j) = 0 then upd (liI set g j) set (if liI set g j set < liI set g j (set + 2 ^ j) then liI set g j (set + 2 ^ j) else liI set g j set) else liI set g j
def liO (z : Nat) (lit turn : Int32) (g : Nat → Int32) : Nat → Nat → Int32
  | 0 => g
  | n + 1 => if turn < bcF (nI n ^^^ lit) then liO z lit turn g n else liI n (liO z lit turn g n) z
def auR (z t : Nat) (lit : Int32) (g : Nat → Int32) : Nat → Nat → Int32
  | 0 => g
  | m + 1 => if nI (t - 1 - m) - nI (t - 1 - m) / 2 * 2 = 0 then laO z lit (nI (t - 1 - m)) (auR z t lit g m) (2 ^ z) else liO z lit (nI (t - 1 - m)) (auR z t lit g m) (2 ^ z)
def auF (S : St) (b : Nat) (place : Int32) (t : Nat) : Nat → Int32 := auR (szB S b) t (gI S b 7) (gA (scrF S (glW S b place)) 7) t
def atF (S : St) (b : Nat) (place : Int32) (t : Nat) : Int32 := if !decide (gI S b 7 < 0) && !decide (256 ≤ gI S b 7) then auF S b place t (gI S b 7).toNatClampNeg else 0
theorem fa_and2 (a b : Nat) : nI a &&& nI b = nI (a &&& b) := by
  apply Int32.toBitVec_inj.mp
  show BitVec.ofNat 32 a &&& BitVec.ofNat 32 b = BitVec.ofNat 32 (a &&& b)
  apply BitVec.eq_of_toNat_eq
  simp only [BitVec.toNat_and, BitVec.toNat_ofNat]
  rw [Nat.and_mod_two_pow]
theorem and_pw {n j : Nat} (h : ¬ nI n &&& nI (2 ^ j) = 0) : 2 ^ j ≤ n := by
  rw [fa_and2] at h
  have h1 : n &&& 2 ^ j ≠ 0 := fun q => h (by rw [q, nI_0])
  rcases Nat.lt_or_ge n (2 ^ j) with q | q
  · exfalso
    apply h1
    apply Nat.eq_of_testBit_eq
    intro i
    rw [Nat.testBit_and, Nat.testBit_two_pow, Nat.zero_testBit]
    by_cases e : j = i
    · subst e
      rw [Nat.testBit_lt_two_pow q]
      rfl
    · simp [e]
  · exact q
theorem and_0 {n j z : Nat} (hz : z ≤ 8) (hj : j < z) (hn : n < 2 ^ z) (h : nI n &&& nI (2 ^ j) = 0) : n + 2 ^ j < 2 ^ z := by
  have hp := pow8 hz
  have hp2 : 2 ^ j ≤ 128 := by have := Nat.pow_le_pow_right (n := 2) (by omega) (show j ≤ 7 by omega); omega
  rw [fa_and2] at h
  have h1 : n &&& 2 ^ j = 0 := by
    have h3 := Nat.and_le_left (n := n) (m := 2 ^ j)
    have h2 : nI (n &&& 2 ^ j) = nI 0 := by rw [h, nI_0]
    exact (nI_eq (by omega) (by omega)).mp h2
  have key : ∀ n, n < 256 → (∀ j, j < 8 → (∀ z, z < 9 → (j < z → n < 2 ^ z → n &&& 2 ^ j = 0 → n + 2 ^ j < 2 ^ z))) := fun n hn => co_dec (N := 256) (P := fun n => ∀ j, j < 8 → (∀ z, z < 9 → (j < z → n < 2 ^ z → n &&& 2 ^ j = 0 → n + 2 ^ j < 2 ^ z))) (by decide +kernel) hn
  exact key n (by omega) j (by omega) z (by omega) hj hn h1
set_option maxRecDepth 100000 in
set_option maxHeartbeats 4000000 in
theorem c_X4_letOneAnswer (E : En) (S : St) (z : Nat) (lit turn : Int32) (hz8 : z ≤ 8) : CTe E i_X4_letOneAnswer S [.ref (eA E 5), .int (nI (2 ^ z)), .int lit, .int turn] (sA S 7 (laO z lit turn (gA S 7) (2 ^ z))) none := by
  have hp := pow8 hz8
  refine ct_of [(0, .ref (eA E 5)), (1, .int (nI (2 ^ z))), (2, .int lit), (3, .int turn)] (by decide +kernel) (Nat.le_of_ble_eq_true rfl) rfl (fun X hM => ?_)
  refine g_iload_n (pc := 0) dX4_letOneAnswer_0 1 rfl rfl ?_
  refine g_iconst (pc := 1) (v := 1) dX4_letOneAnswer_1 (by decide) ?_
  refine g_isub (pc := 2) dX4_letOneAnswer_2 ?_
  refine g_istore (pc := 3) (L' := [(4, .int (nI (2 ^ z) - 1)), (0, .ref (eA E 5)), (1, .int (nI (2 ^ z))), (2, .int lit), (3, .int turn)]) dX4_letOneAnswer_3 (Nat.le_of_ble_eq_true rfl) rfl ?_
  have H_5 : ∀ m : Nat, m ≤ 2 ^ z → G E X i_X4_letOneAnswer (sA S 7 (laO z lit turn (gA S 7) m)) 5 [(0, .ref (eA E 5)), (1, .int (nI (2 ^ z))), (2, .int lit), (3, .int turn), (4, .int (nI (2 ^ z - m) - 1))] [] := by
    refine dn_ind (2 ^ z) (fun m hn_5 ih_5 => ?_)
    refine g_iload (pc := 5) dX4_letOneAnswer_5 4 rfl ?_
    refine g_if_lt (pc := 7) (tgt := 81) dX4_letOneAnswer_7 (by decide) (fun c_7 => ?_) (fun c_7 => ?_)
    · have k_7 := Int32.not_le.mpr c_7
      have he_5 : m = 2 ^ z := by rcases Nat.lt_or_ge m (2 ^ z) with q | q; exact absurd (by rw [show 2 ^ z - m = (2 ^ z - m - 1) + 1 by omega, nI_pred] at c_7; exact c_7) (nI_pos (n := 2 ^ z - m - 1) (by omega)); omega
      rw [he_5]
      exact g_vret (pc := 81) hM rfl ⟨rfl, rfl⟩ dX4_letOneAnswer_81
    · have k_7 := Int32.not_lt.mp c_7
      obtain ⟨t, ht⟩ : ∃ t, 2 ^ z - m = t + 1 := ⟨2 ^ z - m - 1, by rcases Nat.lt_or_ge m (2 ^ z) with q | q; omega; exact absurd (by rw [show 2 ^ z - m = 0 by omega, nI_0]; decide) c_7⟩
      have hlt_5 : m < 2 ^ z := by omega
      have e3 : nI (2 ^ z - m) - 1 = nI t := by rw [ht]; exact nI_pred t
      rw [e3]
      have ht2 : 2 ^ z - 1 - m = t := by omega
      refine g_iload (pc := 10) dX4_letOneAnswer_10 4 rfl ?_
      refine g_iload_n (pc := 12) dX4_letOneAnswer_12 2 rfl rfl ?_
      refine g_ixor (pc := 13) dX4_letOneAnswer_13 ?_
      refine g_invS (pc := 14) j_J6_bitCount mw_X4_65 dX4_letOneAnswer_14 (by rfl) (c_J6_bitCount E (sA S 7 (laO z lit turn (gA S 7) m)) (nI t ^^^ lit) ) (Nat.le_of_ble_eq_true rfl) (Nat.le_of_ble_eq_true rfl) (by rfl) (Nat.le_of_ble_eq_true rfl) ?_
      refine g_iload_n (pc := 17) dX4_letOneAnswer_17 3 rfl rfl ?_
      refine g_icmp_gt (pc := 18) (tgt := 75) dX4_letOneAnswer_18 (by decide) (fun c_18 => ?_) (fun c_18 => ?_)
      · have k_18 := Int32.not_le.mpr c_18
        refine g_iinc (pc := 75) (L' := [(4, .int (nI t + (-1))), (0, .ref (eA E 5)), (1, .int (nI (2 ^ z))), (2, .int lit), (3, .int turn)]) dX4_letOneAnswer_75 (k := 4) rfl (v := nI t + (-1)) rfl (Nat.le_of_ble_eq_true rfl) rfl ?_
        refine g_goto (pc := 78) (tgt := 5) dX4_letOneAnswer_78 (by decide) ?_
        refine g_sub (L' := [(0, .ref (eA E 5)), (1, .int (nI (2 ^ z))), (2, .int lit), (3, .int turn), (4, .int (nI t + (-1)))]) [1, 2, 3, 4, 0] rfl ?_
        exact g_eq (by rw [laO, ht2, if_pos c_18]) (by rw [show 2 ^ z - (m + 1) = t by omega, Int32.sub_eq_add_neg]) rfl (ih_5 hlt_5)
      · have k_18 := Int32.not_lt.mp c_18
        refine g_iconst (pc := 21) (v := 1) dX4_letOneAnswer_21 (by decide) ?_
        refine g_istore (pc := 22) (L' := [(5, .int 1), (0, .ref (eA E 5)), (1, .int (nI (2 ^ z))), (2, .int lit), (3, .int turn), (4, .int (nI t))]) dX4_letOneAnswer_22 (Nat.le_of_ble_eq_true rfl) rfl ?_
        have H_24 : ∀ j : Nat, j ≤ z → G E X i_X4_letOneAnswer (sA S 7 (laI t (laO z lit turn (gA S 7) m) j)) 24 [(0, .ref (eA E 5)), (1, .int (nI (2 ^ z))), (2, .int lit), (3, .int turn), (4, .int (nI t)), (5, .int (nI (2 ^ j)))] [] := by
          refine dn_ind z (fun j hn_24 ih_24 => ?_)
          refine g_iload (pc := 24) dX4_letOneAnswer_24 5 rfl ?_
          refine g_iload_n (pc := 26) dX4_letOneAnswer_26 1 rfl rfl ?_
          refine g_icmp_ge (pc := 27) (tgt := 75) dX4_letOneAnswer_27 (by decide) (fun c_27 => ?_) (fun c_27 => ?_)
          · have k_27 := Int32.not_lt.mpr c_27
            have he_24 : j = z := Nat.le_antisymm hn_24 (by have h9 := nle_of (N := 2 ^ z) rfl rfl (by have := Nat.pow_le_pow_right (n := 2) (by omega) hn_24; omega) (by omega) c_27; rcases Nat.lt_or_ge j z with q | q; exact absurd h9 (by have := Nat.pow_lt_pow_right (a := 2) (by omega) q; omega); exact q)
            rw [he_24]
            refine g_iinc (pc := 75) (L' := [(4, .int (nI t + (-1))), (0, .ref (eA E 5)), (1, .int (nI (2 ^ z))), (2, .int lit), (3, .int turn), (5, .int (nI (2 ^ z)))]) dX4_letOneAnswer_75 (k := 4) rfl (v := nI t + (-1)) rfl (Nat.le_of_ble_eq_true rfl) rfl ?_
            refine g_goto (pc := 78) (tgt := 5) dX4_letOneAnswer_78 (by decide) ?_
            refine g_sub (L' := [(0, .ref (eA E 5)), (1, .int (nI (2 ^ z))), (2, .int lit), (3, .int turn), (4, .int (nI t + (-1)))]) [1, 2, 3, 4, 0] rfl ?_
            exact g_eq (by rw [laO, ht2, if_neg c_18]) (by rw [show 2 ^ z - (m + 1) = t by omega, Int32.sub_eq_add_neg]) rfl (ih_5 hlt_5)
          · have k_27 := Int32.not_le.mp c_27
            have hlt_24 : j < z := by rcases Nat.lt_or_ge j z with q | q; exact q; exact absurd (by rw [show j = z by omega]; exact Int32.le_refl _) c_27
            have hq0 : 1 ≤ 2 ^ j := Nat.one_le_two_pow
            have hpj : 2 ^ j ≤ 128 := by have := Nat.pow_le_pow_right (n := 2) (by omega) (show j ≤ 7 by omega); omega
            refine g_iload (pc := 30) dX4_letOneAnswer_30 4 rfl ?_
            refine g_iload (pc := 32) dX4_letOneAnswer_32 5 rfl ?_
            refine g_iand (pc := 34) dX4_letOneAnswer_34 ?_
            refine g_if_eq (pc := 35) (tgt := 65) dX4_letOneAnswer_35 (by decide) (fun c_35 => ?_) (fun c_35 => ?_)
            · refine g_iload (pc := 65) dX4_letOneAnswer_65 5 rfl ?_
              refine g_iload (pc := 67) dX4_letOneAnswer_67 5 rfl ?_
              refine g_iadd (pc := 69) dX4_letOneAnswer_69 ?_
              refine g_istore (pc := 70) (L' := [(5, .int (nI (2 ^ j) + nI (2 ^ j))), (0, .ref (eA E 5)), (1, .int (nI (2 ^ z))), (2, .int lit), (3, .int turn), (4, .int (nI t))]) dX4_letOneAnswer_70 (Nat.le_of_ble_eq_true rfl) rfl ?_
              refine g_goto (pc := 72) (tgt := 24) dX4_letOneAnswer_72 (by decide) ?_
              refine g_sub (L' := [(0, .ref (eA E 5)), (1, .int (nI (2 ^ z))), (2, .int lit), (3, .int turn), (4, .int (nI t)), (5, .int (nI (2 ^ j) + nI (2 ^ j)))]) [1, 2, 3, 4, 5, 0] rfl ?_
              exact g_eq (by rw [laI, if_pos c_35]) (by rw [nI_add, show 2 ^ j + 2 ^ j = 2 ^ (j + 1) by rw [Nat.pow_succ]; omega]) rfl (ih_24 hlt_24)
            · have hsub := and_pw c_35
              refine g_aload_n (pc := 38) dX4_letOneAnswer_38 0 rfl rfl ?_
              refine gf_X4_15 (pc := 39) rfl dX4_letOneAnswer_39 ?_
              refine g_iload (pc := 42) dX4_letOneAnswer_42 4 rfl ?_
              refine g_aload_n (pc := 44) dX4_letOneAnswer_44 0 rfl rfl ?_
              refine gf_X4_15 (pc := 45) rfl dX4_letOneAnswer_45 ?_
              refine g_iload (pc := 48) dX4_letOneAnswer_48 4 rfl ?_
              refine g_iald (pc := 50) t rfl rfl (show t < 256 by omega) (by decide) dX4_letOneAnswer_50 ?_
              refine g_aload_n (pc := 51) dX4_letOneAnswer_51 0 rfl rfl ?_
              refine gf_X4_15 (pc := 52) rfl dX4_letOneAnswer_52 ?_
              refine g_iload (pc := 55) dX4_letOneAnswer_55 4 rfl ?_
              refine g_iload (pc := 57) dX4_letOneAnswer_57 5 rfl ?_
              refine g_isub (pc := 59) dX4_letOneAnswer_59 ?_
              refine g_iald (pc := 60) (t - 2 ^ j) (pk_sub hsub) rfl (show t - 2 ^ j < 256 by omega) (by decide) dX4_letOneAnswer_60 ?_
              refine g_min (pc := 61) mw_X4_24 dX4_letOneAnswer_61 (Nat.le_of_ble_eq_true rfl) (Nat.le_of_ble_eq_true rfl) ?_
              refine g_iast (pc := 64) t rfl rfl (show t < 256 by omega) (by decide) dX4_letOneAnswer_64 ?_
              refine g_iload (pc := 65) dX4_letOneAnswer_65 5 rfl ?_
              refine g_iload (pc := 67) dX4_letOneAnswer_67 5 rfl ?_
              refine g_iadd (pc := 69) dX4_letOneAnswer_69 ?_
              refine g_istore (pc := 70) (L' := [(5, .int (nI (2 ^ j) + nI (2 ^ j))), (0, .ref (eA E 5)), (1, .int (nI (2 ^ z))), (2, .int lit), (3, .int turn), (4, .int (nI t))]) dX4_letOneAnswer_70 (Nat.le_of_ble_eq_true rfl) rfl ?_
              refine g_goto (pc := 72) (tgt := 24) dX4_letOneAnswer_72 (by decide) ?_
              refine g_sub (L' := [(0, .ref (eA E 5)), (1, .int (nI (2 ^ z))), (2, .int lit), (3, .int turn), (4, .int (nI t)), (5, .int (nI (2 ^ j) + nI (2 ^ j)))]) [1, 2, 3, 4, 5, 0] rfl ?_
              exact g_eq (by rw [sA_sA, gA_same, laI, if_neg c_35]) (by rw [nI_add, show 2 ^ j + 2 ^ j = 2 ^ (j + 1) by rw [Nat.pow_succ]; omega]) rfl (ih_24 hlt_24)
        refine g_sub (L' := [(0, .ref (eA E 5)), (1, .int (nI (2 ^ z))), (2, .int lit), (3, .int turn), (4, .int (nI t)), (5, .int 1)]) [1, 2, 3, 4, 5, 0] rfl ?_
        exact g_eq rfl rfl rfl (H_24 0 (Nat.zero_le _))
  refine g_sub (L' := [(0, .ref (eA E 5)), (1, .int (nI (2 ^ z))), (2, .int lit), (3, .int turn), (4, .int (nI (2 ^ z) - 1))]) [1, 2, 3, 4, 0] rfl ?_
  exact g_eq (by show S = sA S 7 (gA S 7); rw [sA_self]) rfl rfl (H_5 0 (Nat.zero_le _))
set_option maxRecDepth 100000 in
set_option maxHeartbeats 4000000 in
theorem c_X4_letOneLight (E : En) (S : St) (z : Nat) (lit turn : Int32) (hz8 : z ≤ 8) : CTe E i_X4_letOneLight S [.ref (eA E 5), .int (nI (2 ^ z)), .int lit, .int turn] (sA S 7 (liO z lit turn (gA S 7) (2 ^ z))) none := by
  have hp := pow8 hz8
  refine ct_of [(0, .ref (eA E 5)), (1, .int (nI (2 ^ z))), (2, .int lit), (3, .int turn)] (by decide +kernel) (Nat.le_of_ble_eq_true rfl) rfl (fun X hM => ?_)
  refine g_iconst (pc := 0) (v := 0) dX4_letOneLight_0 (by decide) ?_
  refine g_istore (pc := 1) (L' := [(4, .int 0), (0, .ref (eA E 5)), (1, .int (nI (2 ^ z))), (2, .int lit), (3, .int turn)]) dX4_letOneLight_1 (Nat.le_of_ble_eq_true rfl) rfl ?_
  have H_3 : ∀ n : Nat, n ≤ 2 ^ z → G E X i_X4_letOneLight (sA S 7 (liO z lit turn (gA S 7) n)) 3 [(0, .ref (eA E 5)), (1, .int (nI (2 ^ z))), (2, .int lit), (3, .int turn), (4, .int (nI n))] [] := by
    refine dn_ind (2 ^ z) (fun n hn_3 ih_3 => ?_)
    refine g_iload (pc := 3) dX4_letOneLight_3 4 rfl ?_
    refine g_iload_n (pc := 5) dX4_letOneLight_5 1 rfl rfl ?_
    refine g_icmp_ge (pc := 6) (tgt := 80) dX4_letOneLight_6 (by decide) (fun c_6 => ?_) (fun c_6 => ?_)
    · have k_6 := Int32.not_lt.mpr c_6
      have he_3 : n = 2 ^ z := Nat.le_antisymm hn_3 (by exact nle_of (N := 2 ^ z) rfl rfl (by omega) (by omega) c_6)
      rw [he_3]
      exact g_vret (pc := 80) hM rfl ⟨rfl, rfl⟩ dX4_letOneLight_80
    · have k_6 := Int32.not_le.mp c_6
      have hlt_3 : n < 2 ^ z := by exact nlt_of (N := 2 ^ z) rfl rfl (by omega) (by omega) c_6
      refine g_iload (pc := 9) dX4_letOneLight_9 4 rfl ?_
      refine g_iload_n (pc := 11) dX4_letOneLight_11 2 rfl rfl ?_
      refine g_ixor (pc := 12) dX4_letOneLight_12 ?_
      refine g_invS (pc := 13) j_J6_bitCount mw_X4_65 dX4_letOneLight_13 (by rfl) (c_J6_bitCount E (sA S 7 (liO z lit turn (gA S 7) n)) (nI n ^^^ lit) ) (Nat.le_of_ble_eq_true rfl) (Nat.le_of_ble_eq_true rfl) (by rfl) (Nat.le_of_ble_eq_true rfl) ?_
      refine g_iload_n (pc := 16) dX4_letOneLight_16 3 rfl rfl ?_
      refine g_icmp_gt (pc := 17) (tgt := 74) dX4_letOneLight_17 (by decide) (fun c_17 => ?_) (fun c_17 => ?_)
      · have k_17 := Int32.not_le.mpr c_17
        refine g_iinc (pc := 74) (L' := [(4, .int (nI n + 1)), (0, .ref (eA E 5)), (1, .int (nI (2 ^ z))), (2, .int lit), (3, .int turn)]) dX4_letOneLight_74 (k := 4) rfl (v := nI n + 1) rfl (Nat.le_of_ble_eq_true rfl) rfl ?_
        refine g_goto (pc := 77) (tgt := 3) dX4_letOneLight_77 (by decide) ?_
        refine g_sub (L' := [(0, .ref (eA E 5)), (1, .int (nI (2 ^ z))), (2, .int lit), (3, .int turn), (4, .int (nI n + 1))]) [1, 2, 3, 4, 0] rfl ?_
        exact g_eq (by rw [liO, if_pos c_17]) (by rw [nI_1]) rfl (ih_3 hlt_3)
      · have k_17 := Int32.not_lt.mp c_17
        refine g_iconst (pc := 20) (v := 1) dX4_letOneLight_20 (by decide) ?_
        refine g_istore (pc := 21) (L' := [(5, .int 1), (0, .ref (eA E 5)), (1, .int (nI (2 ^ z))), (2, .int lit), (3, .int turn), (4, .int (nI n))]) dX4_letOneLight_21 (Nat.le_of_ble_eq_true rfl) rfl ?_
        have H_23 : ∀ j : Nat, j ≤ z → G E X i_X4_letOneLight (sA S 7 (liI n (liO z lit turn (gA S 7) n) j)) 23 [(0, .ref (eA E 5)), (1, .int (nI (2 ^ z))), (2, .int lit), (3, .int turn), (4, .int (nI n)), (5, .int (nI (2 ^ j)))] [] := by
          refine dn_ind z (fun j hn_23 ih_23 => ?_)
          refine g_iload (pc := 23) dX4_letOneLight_23 5 rfl ?_
          refine g_iload_n (pc := 25) dX4_letOneLight_25 1 rfl rfl ?_
          refine g_icmp_ge (pc := 26) (tgt := 74) dX4_letOneLight_26 (by decide) (fun c_26 => ?_) (fun c_26 => ?_)
          · have k_26 := Int32.not_lt.mpr c_26
            have he_23 : j = z := Nat.le_antisymm hn_23 (by have h9 := nle_of (N := 2 ^ z) rfl rfl (by have := Nat.pow_le_pow_right (n := 2) (by omega) hn_23; omega) (by omega) c_26; rcases Nat.lt_or_ge j z with q | q; exact absurd h9 (by have := Nat.pow_lt_pow_right (a := 2) (by omega) q; omega); exact q)
            rw [he_23]
            refine g_iinc (pc := 74) (L' := [(4, .int (nI n + 1)), (0, .ref (eA E 5)), (1, .int (nI (2 ^ z))), (2, .int lit), (3, .int turn), (5, .int (nI (2 ^ z)))]) dX4_letOneLight_74 (k := 4) rfl (v := nI n + 1) rfl (Nat.le_of_ble_eq_true rfl) rfl ?_
            refine g_goto (pc := 77) (tgt := 3) dX4_letOneLight_77 (by decide) ?_
            refine g_sub (L' := [(0, .ref (eA E 5)), (1, .int (nI (2 ^ z))), (2, .int lit), (3, .int turn), (4, .int (nI n + 1))]) [1, 2, 3, 4, 0] rfl ?_
            exact g_eq (by rw [liO, if_neg c_17]) (by rw [nI_1]) rfl (ih_3 hlt_3)
          · have k_26 := Int32.not_le.mp c_26
            have hlt_23 : j < z := by rcases Nat.lt_or_ge j z with q | q; exact q; exact absurd (by rw [show j = z by omega]; exact Int32.le_refl _) c_26
            have hq0 : 1 ≤ 2 ^ j := Nat.one_le_two_pow
            have hpj : 2 ^ j ≤ 128 := by have := Nat.pow_le_pow_right (n := 2) (by omega) (show j ≤ 7 by omega); omega
            refine g_iload (pc := 29) dX4_letOneLight_29 4 rfl ?_
            refine g_iload (pc := 31) dX4_letOneLight_31 5 rfl ?_
            refine g_iand (pc := 33) dX4_letOneLight_33 ?_
            refine g_if_ne (pc := 34) (tgt := 64) dX4_letOneLight_34 (by decide) (fun c_34 => ?_) (fun c_34 => ?_)
            · refine g_iload (pc := 64) dX4_letOneLight_64 5 rfl ?_
              refine g_iload (pc := 66) dX4_letOneLight_66 5 rfl ?_
              refine g_iadd (pc := 68) dX4_letOneLight_68 ?_
              refine g_istore (pc := 69) (L' := [(5, .int (nI (2 ^ j) + nI (2 ^ j))), (0, .ref (eA E 5)), (1, .int (nI (2 ^ z))), (2, .int lit), (3, .int turn), (4, .int (nI n))]) dX4_letOneLight_69 (Nat.le_of_ble_eq_true rfl) rfl ?_
              refine g_goto (pc := 71) (tgt := 23) dX4_letOneLight_71 (by decide) ?_
              refine g_sub (L' := [(0, .ref (eA E 5)), (1, .int (nI (2 ^ z))), (2, .int lit), (3, .int turn), (4, .int (nI n)), (5, .int (nI (2 ^ j) + nI (2 ^ j)))]) [1, 2, 3, 4, 5, 0] rfl ?_
              exact g_eq (by rw [liI, if_neg c_34]) (by rw [nI_add, show 2 ^ j + 2 ^ j = 2 ^ (j + 1) by rw [Nat.pow_succ]; omega]) rfl (ih_23 hlt_23)
            · have hadd := and_0 hz8 hlt_23 hlt_3 c_34
              refine g_aload_n (pc := 37) dX4_letOneLight_37 0 rfl rfl ?_
              refine gf_X4_15 (pc := 38) rfl dX4_letOneLight_38 ?_
              refine g_iload (pc := 41) dX4_letOneLight_41 4 rfl ?_
              refine g_aload_n (pc := 43) dX4_letOneLight_43 0 rfl rfl ?_
              refine gf_X4_15 (pc := 44) rfl dX4_letOneLight_44 ?_
              refine g_iload (pc := 47) dX4_letOneLight_47 4 rfl ?_
              refine g_iald (pc := 49) n rfl rfl (show n < 256 by omega) (by decide) dX4_letOneLight_49 ?_
              refine g_aload_n (pc := 50) dX4_letOneLight_50 0 rfl rfl ?_
              refine gf_X4_15 (pc := 51) rfl dX4_letOneLight_51 ?_
              refine g_iload (pc := 54) dX4_letOneLight_54 4 rfl ?_
              refine g_iload (pc := 56) dX4_letOneLight_56 5 rfl ?_
              refine g_iadd (pc := 58) dX4_letOneLight_58 ?_
              refine g_iald (pc := 59) (n + 2 ^ j) (nI_add n (2 ^ j)) rfl (show n + 2 ^ j < 256 by omega) (by decide) dX4_letOneLight_59 ?_
              refine g_max (pc := 60) mw_X4_87 dX4_letOneLight_60 (Nat.le_of_ble_eq_true rfl) (Nat.le_of_ble_eq_true rfl) ?_
              refine g_iast (pc := 63) n rfl rfl (show n < 256 by omega) (by decide) dX4_letOneLight_63 ?_
              refine g_iload (pc := 64) dX4_letOneLight_64 5 rfl ?_
              refine g_iload (pc := 66) dX4_letOneLight_66 5 rfl ?_
              refine g_iadd (pc := 68) dX4_letOneLight_68 ?_
              refine g_istore (pc := 69) (L' := [(5, .int (nI (2 ^ j) + nI (2 ^ j))), (0, .ref (eA E 5)), (1, .int (nI (2 ^ z))), (2, .int lit), (3, .int turn), (4, .int (nI n))]) dX4_letOneLight_69 (Nat.le_of_ble_eq_true rfl) rfl ?_
              refine g_goto (pc := 71) (tgt := 23) dX4_letOneLight_71 (by decide) ?_
              refine g_sub (L' := [(0, .ref (eA E 5)), (1, .int (nI (2 ^ z))), (2, .int lit), (3, .int turn), (4, .int (nI n)), (5, .int (nI (2 ^ j) + nI (2 ^ j)))]) [1, 2, 3, 4, 5, 0] rfl ?_
              exact g_eq (by rw [sA_sA, gA_same, liI, if_pos c_34]) (by rw [nI_add, show 2 ^ j + 2 ^ j = 2 ^ (j + 1) by rw [Nat.pow_succ]; omega]) rfl (ih_23 hlt_23)
        refine g_sub (L' := [(0, .ref (eA E 5)), (1, .int (nI (2 ^ z))), (2, .int lit), (3, .int turn), (4, .int (nI n)), (5, .int 1)]) [1, 2, 3, 4, 5, 0] rfl ?_
        exact g_eq rfl rfl rfl (H_23 0 (Nat.zero_le _))
  refine g_sub (L' := [(0, .ref (eA E 5)), (1, .int (nI (2 ^ z))), (2, .int lit), (3, .int turn), (4, .int 0)]) [1, 2, 3, 4, 0] rfl ?_
  exact g_eq (by show S = sA S 7 (gA S 7); rw [sA_self]) rfl rfl (H_3 0 (Nat.zero_le _))
set_option maxRecDepth 100000 in
set_option maxHeartbeats 4000000 in
theorem c_X4_afterTurns (E : En) (S : St) (b : Nat) (place : Int32) (t : Nat) (hb : kd b = 0) (hz : okB S b) (ht4 : t ≤ 4) : CTe E i_X4_afterTurns S [.ref (eA E 5), .ref (eA E b), .int place, .int (nI t)] (sA (scrF S (glW S b place)) 7 (auF S b place t)) (some (.int (atF S b place t))) := by
  have hb2 := kd_bng hb
  have hp := pow8 hz.2
  refine ct_of [(0, .ref (eA E 5)), (1, .ref (eA E b)), (2, .int place), (3, .int (nI t))] (by decide +kernel) (Nat.le_of_ble_eq_true rfl) rfl (fun X hM => ?_)
  refine g_aload_n (pc := 0) dX4_afterTurns_0 0 rfl rfl ?_
  refine g_aload_n (pc := 1) dX4_afterTurns_1 1 rfl rfl ?_
  refine g_iload_n (pc := 2) dX4_afterTurns_2 2 rfl rfl ?_
  refine g_invN (pc := 3) j_X4_sumGlow mw_X4_70 dX4_afterTurns_3 (rcv_X4) (by rfl) (c_X4_sumGlow E S b place (by assumption) hz) (Nat.le_of_ble_eq_true rfl) (Nat.le_of_ble_eq_true rfl) (by rfl) (Nat.le_of_ble_eq_true rfl) ?_
  refine g_aload_n (pc := 6) dX4_afterTurns_6 1 rfl rfl ?_
  refine g_invV (pc := 7) j_X0_litSet mw_X4_74 dX4_afterTurns_7 (rcv_X0 (by assumption)) (by rfl) (c_X0_litSet E (scrF S (glW S b place)) b (by assumption)) (Nat.le_of_ble_eq_true rfl) (Nat.le_of_ble_eq_true rfl) (by rfl) (Nat.le_of_ble_eq_true rfl) ?_
  refine g_istore (pc := 10) (L' := [(4, .int (gI (scrF S (glW S b place)) b 7)), (0, .ref (eA E 5)), (1, .ref (eA E b)), (2, .int place), (3, .int (nI t))]) dX4_afterTurns_10 (Nat.le_of_ble_eq_true rfl) rfl ?_
  refine g_aload_n (pc := 12) dX4_afterTurns_12 2 rfl rfl ?_
  refine g_invS (pc := 13) j_X4_setsOf mw_X4_58 dX4_afterTurns_13 (by rfl) (c_X4_setsOf E (scrF S (glW S b place)) b (by assumption) hz) (Nat.le_of_ble_eq_true rfl) (Nat.le_of_ble_eq_true rfl) (by rfl) (Nat.le_of_ble_eq_true rfl) ?_
  refine g_istore (pc := 16) (L' := [(5, .int (nI (2 ^ szB (scrF S (glW S b place)) b))), (4, .int (gI (scrF S (glW S b place)) b 7)), (0, .ref (eA E 5)), (1, .ref (eA E b)), (2, .int place), (3, .int (nI t))]) dX4_afterTurns_16 (Nat.le_of_ble_eq_true rfl) rfl ?_
  refine g_iload_n (pc := 18) dX4_afterTurns_18 5 rfl rfl ?_
  refine g_iconst (pc := 19) (v := 4) dX4_afterTurns_19 (by decide) ?_
  refine g_min (pc := 20) mw_X4_24 dX4_afterTurns_20 (Nat.le_of_ble_eq_true rfl) (Nat.le_of_ble_eq_true rfl) ?_
  refine g_iconst (pc := 23) (v := 1) dX4_afterTurns_23 (by decide) ?_
  refine g_isub (pc := 24) dX4_afterTurns_24 ?_
  refine g_istore (pc := 25) (L' := [(6, .int ((if 4 < nI t then 4 else nI t) - 1)), (5, .int (nI (2 ^ szB (scrF S (glW S b place)) b))), (4, .int (gI (scrF S (glW S b place)) b 7)), (0, .ref (eA E 5)), (1, .ref (eA E b)), (2, .int place), (3, .int (nI t))]) dX4_afterTurns_25 (Nat.le_of_ble_eq_true rfl) rfl ?_
  have H_27 : ∀ m : Nat, m ≤ t → G E X i_X4_afterTurns (sA (scrF S (glW S b place)) 7 (auR (szB S b) t (gI S b 7) (gA (scrF S (glW S b place)) 7) m)) 27 [(0, .ref (eA E 5)), (1, .ref (eA E b)), (2, .int place), (3, .int (nI t)), (4, .int (gI S b 7)), (5, .int (nI (2 ^ szB S b))), (6, .int (nI (t - m) - 1))] [] := by
    refine dn_ind t (fun m hn_27 ih_27 => ?_)
    refine g_iload (pc := 27) dX4_afterTurns_27 6 rfl ?_
    refine g_if_lt (pc := 29) (tgt := 68) dX4_afterTurns_29 (by decide) (fun c_29 => ?_) (fun c_29 => ?_)
    · have k_29 := Int32.not_le.mpr c_29
      have he_27 : m = t := by rcases Nat.lt_or_ge m t with q | q; exact absurd (by rw [show t - m = (t - m - 1) + 1 by omega, nI_pred] at c_29; exact c_29) (nI_pos (n := t - m - 1) (by omega)); omega
      rw [he_27]
      refine g_iload (pc := 68) dX4_afterTurns_68 4 rfl ?_
      refine g_if_lt (pc := 70) (tgt := 93) dX4_afterTurns_70 (by decide) (fun c_70 => ?_) (fun c_70 => ?_)
      · have k_70 := Int32.not_le.mpr c_70
        refine g_iconst (pc := 93) (v := 0) dX4_afterTurns_93 (by decide) ?_
        exact g_iret (pc := 94) hM rfl rfl ⟨rfl, some_int (by simp only [atF, c_70, k_70, if_true, if_false, Bool.false_eq_true, Bool.not_true, Bool.not_false, Bool.and_true, Bool.true_and, Bool.and_false, Bool.false_and, Bool.or_true, Bool.true_or, Bool.or_false, Bool.false_or, decide_true, decide_false, Bool.and_self])⟩ dX4_afterTurns_94
      · have k_70 := Int32.not_lt.mp c_70
        refine g_iload (pc := 73) dX4_afterTurns_73 4 rfl ?_
        refine g_aload_n (pc := 75) dX4_afterTurns_75 0 rfl rfl ?_
        refine gf_X4_15 (pc := 76) rfl dX4_afterTurns_76 ?_
        refine g_alen (pc := 79) (v := 256) rfl rfl dX4_afterTurns_79 ?_
        refine g_icmp_ge (pc := 80) (tgt := 93) dX4_afterTurns_80 (by decide) (fun c_80 => ?_) (fun c_80 => ?_)
        · have k_80 := Int32.not_lt.mpr c_80
          refine g_iconst (pc := 93) (v := 0) dX4_afterTurns_93 (by decide) ?_
          exact g_iret (pc := 94) hM rfl rfl ⟨rfl, some_int (by simp only [atF, c_70, k_70, c_80, k_80, if_true, if_false, Bool.false_eq_true, Bool.not_true, Bool.not_false, Bool.and_true, Bool.true_and, Bool.and_false, Bool.false_and, Bool.or_true, Bool.true_or, Bool.or_false, Bool.false_or, decide_true, decide_false, Bool.and_self])⟩ dX4_afterTurns_94
        · have k_80 := Int32.not_le.mp c_80
          obtain ⟨q, hq1, hq2⟩ := ix_of (y := 256) (N := 256) rfl (by omega) c_70 c_80
          refine g_aload_n (pc := 83) dX4_afterTurns_83 0 rfl rfl ?_
          refine gf_X4_15 (pc := 84) rfl dX4_afterTurns_84 ?_
          refine g_iload (pc := 87) dX4_afterTurns_87 4 rfl ?_
          refine g_iald (pc := 89) q hq2 rfl (show q < 256 from hq1) (by decide) dX4_afterTurns_89 ?_
          refine g_goto (pc := 90) (tgt := 94) dX4_afterTurns_90 (by decide) ?_
          exact g_iret (pc := 94) hM rfl rfl ⟨rfl, some_int (by rw [gA_same]; simp only [atF, auF, c_70, c_80, if_true, if_false, Bool.false_eq_true, Bool.not_true, Bool.not_false, Bool.and_true, Bool.true_and, Bool.and_false, Bool.false_and, Bool.or_true, Bool.true_or, Bool.or_false, Bool.false_or, decide_true, decide_false, Bool.and_self]; rw [hq2, nI_clamp (by omega)])⟩ dX4_afterTurns_94
    · have k_29 := Int32.not_lt.mp c_29
      obtain ⟨u, hu⟩ : ∃ u, t - m = u + 1 := ⟨t - m - 1, by rcases Nat.lt_or_ge m t with q | q; omega; exact absurd (by rw [show t - m = 0 by omega, nI_0]; decide) c_29⟩
      have hlt_27 : m < t := by omega
      have e3 : nI (t - m) - 1 = nI u := by rw [hu]; exact nI_pred u
      rw [e3]
      have hu2 : t - 1 - m = u := by omega
      refine g_iload (pc := 32) dX4_afterTurns_32 6 rfl ?_
      refine g_iconst (pc := 34) (v := 2) dX4_afterTurns_34 (by decide) ?_
      refine g_irem (pc := 35) dX4_afterTurns_35 (by decide) ?_
      refine g_if_ne (pc := 36) (tgt := 52) dX4_afterTurns_36 (by decide) (fun c_36 => ?_) (fun c_36 => ?_)
      · refine g_aload_n (pc := 52) dX4_afterTurns_52 0 rfl rfl ?_
        refine g_iload (pc := 53) dX4_afterTurns_53 5 rfl ?_
        refine g_iload (pc := 55) dX4_afterTurns_55 4 rfl ?_
        refine g_iload (pc := 57) dX4_afterTurns_57 6 rfl ?_
        refine g_invN (pc := 59) j_X4_letOneLight mw_X4_84 dX4_afterTurns_59 (rcv_X4) (by rfl) (c_X4_letOneLight E (sA (scrF S (glW S b place)) 7 (auR (szB S b) t (gI S b 7) (gA (scrF S (glW S b place)) 7) m)) (szB S b) (gI S b 7) (nI u) hz.2) (Nat.le_of_ble_eq_true rfl) (Nat.le_of_ble_eq_true rfl) (by rfl) (Nat.le_of_ble_eq_true rfl) ?_
        refine g_iinc (pc := 62) (L' := [(6, .int (nI u + (-1))), (0, .ref (eA E 5)), (1, .ref (eA E b)), (2, .int place), (3, .int (nI t)), (4, .int (gI S b 7)), (5, .int (nI (2 ^ szB S b)))]) dX4_afterTurns_62 (k := 6) rfl (v := nI u + (-1)) rfl (Nat.le_of_ble_eq_true rfl) rfl ?_
        refine g_goto (pc := 65) (tgt := 27) dX4_afterTurns_65 (by decide) ?_
        refine g_sub (L' := [(0, .ref (eA E 5)), (1, .ref (eA E b)), (2, .int place), (3, .int (nI t)), (4, .int (gI S b 7)), (5, .int (nI (2 ^ szB S b))), (6, .int (nI u + (-1)))]) [1, 2, 3, 4, 5, 6, 0] rfl ?_
        exact g_eq (by rw [sA_sA, gA_same, auR, hu2, if_neg c_36]) (by rw [show t - (m + 1) = u by omega, Int32.sub_eq_add_neg]) rfl (ih_27 hlt_27)
      · refine g_aload_n (pc := 39) dX4_afterTurns_39 0 rfl rfl ?_
        refine g_iload (pc := 40) dX4_afterTurns_40 5 rfl ?_
        refine g_iload (pc := 42) dX4_afterTurns_42 4 rfl ?_
        refine g_iload (pc := 44) dX4_afterTurns_44 6 rfl ?_
        refine g_invN (pc := 46) j_X4_letOneAnswer mw_X4_80 dX4_afterTurns_46 (rcv_X4) (by rfl) (c_X4_letOneAnswer E (sA (scrF S (glW S b place)) 7 (auR (szB S b) t (gI S b 7) (gA (scrF S (glW S b place)) 7) m)) (szB S b) (gI S b 7) (nI u) hz.2) (Nat.le_of_ble_eq_true rfl) (Nat.le_of_ble_eq_true rfl) (by rfl) (Nat.le_of_ble_eq_true rfl) ?_
        refine g_goto (pc := 49) (tgt := 62) dX4_afterTurns_49 (by decide) ?_
        refine g_iinc (pc := 62) (L' := [(6, .int (nI u + (-1))), (0, .ref (eA E 5)), (1, .ref (eA E b)), (2, .int place), (3, .int (nI t)), (4, .int (gI S b 7)), (5, .int (nI (2 ^ szB S b)))]) dX4_afterTurns_62 (k := 6) rfl (v := nI u + (-1)) rfl (Nat.le_of_ble_eq_true rfl) rfl ?_
        refine g_goto (pc := 65) (tgt := 27) dX4_afterTurns_65 (by decide) ?_
        refine g_sub (L' := [(0, .ref (eA E 5)), (1, .ref (eA E b)), (2, .int place), (3, .int (nI t)), (4, .int (gI S b 7)), (5, .int (nI (2 ^ szB S b))), (6, .int (nI u + (-1)))]) [1, 2, 3, 4, 5, 6, 0] rfl ?_
        exact g_eq (by rw [sA_sA, gA_same, auR, hu2, if_pos c_36]) (by rw [show t - (m + 1) = u by omega, Int32.sub_eq_add_neg]) rfl (ih_27 hlt_27)
  refine g_sub (L' := [(0, .ref (eA E 5)), (1, .ref (eA E b)), (2, .int place), (3, .int (nI t)), (4, .int (gI (scrF S (glW S b place)) b 7)), (5, .int (nI (2 ^ szB (scrF S (glW S b place)) b))), (6, .int ((if 4 < nI t then 4 else nI t) - 1))]) [3, 4, 5, 6, 2, 1, 0] rfl ?_
  exact g_eq (by show scrF S (glW S b place) = sA (scrF S (glW S b place)) 7 (gA (scrF S (glW S b place)) 7); rw [sA_self]) (by rw [szB_scr, if_neg (show ¬ (4 : Int32) < nI t from nI_nlt (a := 4) ht4 (by omega))]; rfl) rfl (H_27 0 (Nat.zero_le _))
