/-! THE REFERENCE'S CONSTRUCTOR -/
abbrev i_X9_init : Ym := (yX9_init, cX9_init, 2, none, 1)
theorem uc_uc {c : Nat → va_E} {k : Nat} {e e2 : va_E} : uc (uc c k e) k e2 = uc c k e2 := by
  funext i
  unfold uc
  by_cases h : i = k
  · rw [if_pos h, if_pos h]
  · rw [if_neg h, if_neg h, if_neg h]
theorem uc_self {c : Nat → va_E} {k : Nat} {e : va_E} (h : c k = e) : uc c k e = c := by
  funext i
  unfold uc
  by_cases q : i = k
  · rw [if_pos q, q, h]
  · rw [if_neg q]
def mdV (a : Nat → Nat) (n : Nat) : va_E := .inr (5, [.ref (a n), .ref (a (n + 1)), .ref (a (n + 2)), .ref (a (n + 3)), .ref (a (n + 4)), .int 0, .ref (a (n + 5)), .int 0, .long 0, .long 1, .ref (a (n + 6)), .int 0, .int 0, .int 0, .int 0, .int 0, .ref (a (n + 7)), .ref (a (n + 8)), .ref (a (n + 9)), .ref (a (n + 10)), .ref (a (n + 11)), .ref (a (n + 12)), .long 0])
def mdZ (E : En) (c : Nat → va_E) (n : Nat) : Prop := c n = zI E 1776 ∧ c (n + 1) = .inl (eI E, 6, .inl (fillF (fun _ => 0) (-1) 6)) ∧ c (n + 2) = zI E 240 ∧ c (n + 3) = .inl (eI E, 4, .inl (fillF (fun _ => 0) (-1) 4)) ∧ c (n + 4) = zI E 240 ∧ c (n + 5) = zI E 6 ∧ c (n + 6) = zI E 40 ∧ c (n + 7) = zI E 40 ∧ c (n + 8) = zI E 10 ∧ c (n + 9) = zI E 6 ∧ c (n + 10) = zI E 5 ∧ c (n + 11) = zI E 5 ∧ c (n + 12) = zI E 5
set_option maxRecDepth 100000 in
set_option maxHeartbeats 4000000 in
theorem x9_rs {E : En} {X : Xt} {a : Nat → Nat} {c : Nat → va_E} {n k x N kc ks : Nat} {fs : List Value} (hk : k < N) (hx : a k = x) (hck : c k = .inr (5, fs)) (hf : fs[1]? = some (.ref (a (n + 1)))) (hn : n + 1 < N) (hne : k ≠ n + 1) (kk : NG E X i_X9_init a (uc c (n + 1) (.inl (eI E, 6, .inl (fillF (fun _ => 0) (-1) 6)))) N kc ks 133 [(1, .int (nI 6)), (0, .ref x)] []) : ∀ i, i ≤ 6 → NG E X i_X9_init a (uc c (n + 1) (.inl (eI E, 6, .inl (fillF (fun _ => 0) (-1) i)))) N kc ks 114 [(1, .int (nI i)), (0, .ref x)] [] := by
  refine dn_ind 6 (fun i hi ih => ?_)
  refine n_iload (pc := 114) dX9_init_114 0 rfl rfl ?_
  refine n_bipush (pc := 115) (v := nI 6) dX9_init_115 (by decide) ?_
  refine n_icmp_ge (pc := 117) (tgt := 133) dX9_init_117 (by decide) (fun q => ?_) (fun q => ?_)
  · have e : i = 6 := by have := (nI_leI (by omega) (by omega)).mp q; omega
    rw [e]; exact kk
  · have lt : i < 6 := by
      rcases Nat.lt_or_ge i 6 with w | w
      · exact w
      · exact absurd (nI_le w (by omega)) q
    refine n_aload (pc := 120) dX9_init_120 1 rfl rfl ?_
    refine n_get (pc := 121) (ci := 5) (k := k) (j := 1) (fs := fs) ix_X9 hk hx ((uc_n hne).trans hck) rfl (by omega) fw_X9_13 hf dX9_init_121 ?_
    refine n_iload (pc := 124) dX9_init_124 0 rfl rfl ?_
    refine n_iconst (pc := 125) (v := -1) dX9_init_125 (by decide) ?_
    refine n_iast (pc := 126) (k := n + 1) (i := i) hn rfl uc_s rfl lt (by omega) dX9_init_126 ?_
    rw [uc_uc, fillF_s]
    refine n_iinc (pc := 127) (x := nI i) (v := nI (i + 1)) (L' := [(1, .int (nI (i + 1))), (0, .ref x)]) dX9_init_127 (k := 0) rfl (by rw [show Int32.ofInt 1 = 1 from rfl]; exact nI_1 i) (by decide) rfl ?_
    exact n_goto (pc := 130) (tgt := 114) dX9_init_130 (by decide) (ih lt)
set_option maxRecDepth 100000 in
set_option maxHeartbeats 4000000 in
theorem x9_ts {E : En} {X : Xt} {a : Nat → Nat} {c : Nat → va_E} {n k x N kc ks : Nat} {fs : List Value} (hk : k < N) (hx : a k = x) (hck : c k = .inr (5, fs)) (hf : fs[3]? = some (.ref (a (n + 3)))) (hn : n + 3 < N) (hne : k ≠ n + 3) (kk : NG E X i_X9_init a (uc c (n + 3) (.inl (eI E, 4, .inl (fillF (fun _ => 0) (-1) 4)))) N kc ks 153 [(1, .int (nI 4)), (0, .ref x)] []) : ∀ i, i ≤ 4 → NG E X i_X9_init a (uc c (n + 3) (.inl (eI E, 4, .inl (fillF (fun _ => 0) (-1) i)))) N kc ks 135 [(1, .int (nI i)), (0, .ref x)] [] := by
  refine dn_ind 4 (fun i hi ih => ?_)
  refine n_iload (pc := 135) dX9_init_135 0 rfl rfl ?_
  refine n_iconst (pc := 136) (v := nI 4) dX9_init_136 (by decide) ?_
  refine n_icmp_ge (pc := 137) (tgt := 153) dX9_init_137 (by decide) (fun q => ?_) (fun q => ?_)
  · have e : i = 4 := by have := (nI_leI (by omega) (by omega)).mp q; omega
    rw [e]; exact kk
  · have lt : i < 4 := by
      rcases Nat.lt_or_ge i 4 with w | w
      · exact w
      · exact absurd (nI_le w (by omega)) q
    refine n_aload (pc := 140) dX9_init_140 1 rfl rfl ?_
    refine n_get (pc := 141) (ci := 5) (k := k) (j := 3) (fs := fs) ix_X9 hk hx ((uc_n hne).trans hck) rfl (by omega) fw_X9_19 hf dX9_init_141 ?_
    refine n_iload (pc := 144) dX9_init_144 0 rfl rfl ?_
    refine n_iconst (pc := 145) (v := -1) dX9_init_145 (by decide) ?_
    refine n_iast (pc := 146) (k := n + 3) (i := i) hn rfl uc_s rfl lt (by omega) dX9_init_146 ?_
    rw [uc_uc, fillF_s]
    refine n_iinc (pc := 147) (x := nI i) (v := nI (i + 1)) (L' := [(1, .int (nI (i + 1))), (0, .ref x)]) dX9_init_147 (k := 0) rfl (by rw [show Int32.ofInt 1 = 1 from rfl]; exact nI_1 i) (by decide) rfl ?_
    exact n_goto (pc := 150) (tgt := 135) dX9_init_150 (by decide) (ih lt)
set_option maxRecDepth 100000 in
set_option maxHeartbeats 8000000 in
theorem c_X9_init (E : En) (a : Nat → Nat) (c : Nat → va_E) (n sz k x : Nat) (hk : k < n) (hx : a k = x) (hck : c k = .inr (5, [.null, .null, .null, .null, .null, .int 0, .null, .int 0, .long 0, .long 0, .null, .int 0, .int 0, .int 0, .int 0, .int 0, .null, .null, .null, .null, .null, .null, .long 0])) : NT E i_X9_init 13 2383 a c n sz [.ref x] (fun a' c' n' => n' = n + 13 ∧ oldN a c n k a' c' ∧ c' k = mdV a' n ∧ mdZ E c' n) := by
  refine nt_of [(0, .ref x)] (by decide +kernel) (Nat.le_of_ble_eq_true rfl) rfl (fun X hX => ?_)
  obtain ⟨-, -, hcl, hsl⟩ := id hX
  refine n_aload (pc := 0) dX9_init_0 0 rfl rfl ?_
  refine n_obj (pc := 1) mw_X9_1 dX9_init_1 (Nat.le_refl _) (by decide) ?_
  refine n_aload (pc := 4) dX9_init_4 0 rfl rfl ?_
  refine n_sipush (pc := 5) (v := 1776) dX9_init_5 (by decide) ?_
  refine n_arrF (N' := 1776) (pc := 8) (ci := 5) (k := k) (j := 0) (fs := [.null, .null, .null, .null, .null, .int 0, .null, .int 0, .long 0, .long 0, .null, .int 0, .int 0, .int 0, .int 0, .int 0, .null, .null, .null, .null, .null, .null, .long 0]) rfl tyX9 tyX9_ok nmX9 ix_X9 (by omega) hx hck rfl (by omega) fw_X9_7 rfl rfl (by decide +kernel) (Nat.le_of_ble_eq_true rfl) rfl (by omega) (by omega) (by omega) dX9_init_8 dX9_init_10 (fun a0 c0 ha0 hc0 hk0 hz0 => ?_)
  have hx0 : a0 k = x := (ha0 k (by omega)).trans hx
  refine n_aload (pc := 13) dX9_init_13 0 rfl rfl ?_
  refine n_bipush (pc := 14) (v := 6) dX9_init_14 (by decide) ?_
  refine n_arrF (N' := 6) (pc := 16) (ci := 5) (k := k) (j := 1) (fs := [.ref (a0 n), .null, .null, .null, .null, .int 0, .null, .int 0, .long 0, .long 0, .null, .int 0, .int 0, .int 0, .int 0, .int 0, .null, .null, .null, .null, .null, .null, .long 0]) rfl tyX9 tyX9_ok nmX9 ix_X9 (by omega) hx0 hk0 rfl (by omega) fw_X9_13 rfl rfl (by decide +kernel) (Nat.le_of_ble_eq_true rfl) rfl (by omega) (by omega) (by omega) dX9_init_16 dX9_init_18 (fun a1 c1 ha1 hc1 hk1 hz1 => ?_)
  have hx1 : a1 k = x := (ha1 k (by omega)).trans hx0
  refine n_aload (pc := 21) dX9_init_21 0 rfl rfl ?_
  refine n_sipush (pc := 22) (v := 240) dX9_init_22 (by decide) ?_
  refine n_arrF (N' := 240) (pc := 25) (ci := 5) (k := k) (j := 2) (fs := [.ref (a0 n), .ref (a1 (n + 1)), .null, .null, .null, .int 0, .null, .int 0, .long 0, .long 0, .null, .int 0, .int 0, .int 0, .int 0, .int 0, .null, .null, .null, .null, .null, .null, .long 0]) rfl tyX9 tyX9_ok nmX9 ix_X9 (by omega) hx1 hk1 rfl (by omega) fw_X9_16 rfl rfl (by decide +kernel) (Nat.le_of_ble_eq_true rfl) rfl (by omega) (by omega) (by omega) dX9_init_25 dX9_init_27 (fun a2 c2 ha2 hc2 hk2 hz2 => ?_)
  have hx2 : a2 k = x := (ha2 k (by omega)).trans hx1
  refine n_aload (pc := 30) dX9_init_30 0 rfl rfl ?_
  refine n_iconst (pc := 31) (v := 4) dX9_init_31 (by decide) ?_
  refine n_arrF (N' := 4) (pc := 32) (ci := 5) (k := k) (j := 3) (fs := [.ref (a0 n), .ref (a1 (n + 1)), .ref (a2 (n + 2)), .null, .null, .int 0, .null, .int 0, .long 0, .long 0, .null, .int 0, .int 0, .int 0, .int 0, .int 0, .null, .null, .null, .null, .null, .null, .long 0]) rfl tyX9 tyX9_ok nmX9 ix_X9 (by omega) hx2 hk2 rfl (by omega) fw_X9_19 rfl rfl (by decide +kernel) (Nat.le_of_ble_eq_true rfl) rfl (by omega) (by omega) (by omega) dX9_init_32 dX9_init_34 (fun a3 c3 ha3 hc3 hk3 hz3 => ?_)
  have hx3 : a3 k = x := (ha3 k (by omega)).trans hx2
  refine n_aload (pc := 37) dX9_init_37 0 rfl rfl ?_
  refine n_sipush (pc := 38) (v := 240) dX9_init_38 (by decide) ?_
  refine n_arrF (N' := 240) (pc := 41) (ci := 5) (k := k) (j := 4) (fs := [.ref (a0 n), .ref (a1 (n + 1)), .ref (a2 (n + 2)), .ref (a3 (n + 3)), .null, .int 0, .null, .int 0, .long 0, .long 0, .null, .int 0, .int 0, .int 0, .int 0, .int 0, .null, .null, .null, .null, .null, .null, .long 0]) rfl tyX9 tyX9_ok nmX9 ix_X9 (by omega) hx3 hk3 rfl (by omega) fw_X9_22 rfl rfl (by decide +kernel) (Nat.le_of_ble_eq_true rfl) rfl (by omega) (by omega) (by omega) dX9_init_41 dX9_init_43 (fun a4 c4 ha4 hc4 hk4 hz4 => ?_)
  have hx4 : a4 k = x := (ha4 k (by omega)).trans hx3
  refine n_aload (pc := 46) dX9_init_46 0 rfl rfl ?_
  refine n_bipush (pc := 47) (v := 6) dX9_init_47 (by decide) ?_
  refine n_arrF (N' := 6) (pc := 49) (ci := 5) (k := k) (j := 6) (fs := [.ref (a0 n), .ref (a1 (n + 1)), .ref (a2 (n + 2)), .ref (a3 (n + 3)), .ref (a4 (n + 4)), .int 0, .null, .int 0, .long 0, .long 0, .null, .int 0, .int 0, .int 0, .int 0, .int 0, .null, .null, .null, .null, .null, .null, .long 0]) rfl tyX9 tyX9_ok nmX9 ix_X9 (by omega) hx4 hk4 rfl (by omega) fw_X9_25 rfl rfl (by decide +kernel) (Nat.le_of_ble_eq_true rfl) rfl (by omega) (by omega) (by omega) dX9_init_49 dX9_init_51 (fun a5 c5 ha5 hc5 hk5 hz5 => ?_)
  have hx5 : a5 k = x := (ha5 k (by omega)).trans hx4
  refine n_aload (pc := 54) dX9_init_54 0 rfl rfl ?_
  refine n_lconst (pc := 55) (v := 1) dX9_init_55 (by decide) ?_
  refine n_put (pc := 56) (ci := 5) (k := k) (j := 9) (fs := [.ref (a0 n), .ref (a1 (n + 1)), .ref (a2 (n + 2)), .ref (a3 (n + 3)), .ref (a4 (n + 4)), .int 0, .ref (a5 (n + 5)), .int 0, .long 0, .long 0, .null, .int 0, .int 0, .int 0, .int 0, .int 0, .null, .null, .null, .null, .null, .null, .long 0]) (ty := .long) tyX9 tyX9_ok nmX9 ix_X9 (by omega) hx5 hk5 rfl (by omega) fw_X9_28 rfl (by decide +kernel) rfl rfl (Nat.le_of_ble_eq_true rfl) dX9_init_56 ?_
  generalize hc5e : uc c5 k (.inr (5, [.ref (a0 n), .ref (a1 (n + 1)), .ref (a2 (n + 2)), .ref (a3 (n + 3)), .ref (a4 (n + 4)), .int 0, .ref (a5 (n + 5)), .int 0, .long 0, .long 1, .null, .int 0, .int 0, .int 0, .int 0, .int 0, .null, .null, .null, .null, .null, .null, .long 0])) = c5b
  have hk5b : c5b k = .inr (5, [.ref (a0 n), .ref (a1 (n + 1)), .ref (a2 (n + 2)), .ref (a3 (n + 3)), .ref (a4 (n + 4)), .int 0, .ref (a5 (n + 5)), .int 0, .long 0, .long 1, .null, .int 0, .int 0, .int 0, .int 0, .int 0, .null, .null, .null, .null, .null, .null, .long 0]) := by rw [← hc5e, uc_s]
  have hc5b : ∀ i, i ≠ k → c5b i = c5 i := fun i hi => by rw [← hc5e, uc_n hi]
  refine n_eq (c' := c5b) (fun _ _ => rfl) (fun i _ => by rw [← hc5e]; rfl) ?_
  refine n_aload (pc := 59) dX9_init_59 0 rfl rfl ?_
  refine n_bipush (pc := 60) (v := 40) dX9_init_60 (by decide) ?_
  refine n_arrF (N' := 40) (pc := 62) (ci := 5) (k := k) (j := 10) (fs := [.ref (a0 n), .ref (a1 (n + 1)), .ref (a2 (n + 2)), .ref (a3 (n + 3)), .ref (a4 (n + 4)), .int 0, .ref (a5 (n + 5)), .int 0, .long 0, .long 1, .null, .int 0, .int 0, .int 0, .int 0, .int 0, .null, .null, .null, .null, .null, .null, .long 0]) rfl tyX9 tyX9_ok nmX9 ix_X9 (by omega) hx5 hk5b rfl (by omega) fw_X9_32 rfl rfl (by decide +kernel) (Nat.le_of_ble_eq_true rfl) rfl (by omega) (by omega) (by omega) dX9_init_62 dX9_init_64 (fun a6 c6 ha6 hc6 hk6 hz6 => ?_)
  have hx6 : a6 k = x := (ha6 k (by omega)).trans hx5
  refine n_aload (pc := 67) dX9_init_67 0 rfl rfl ?_
  refine n_bipush (pc := 68) (v := 40) dX9_init_68 (by decide) ?_
  refine n_arrF (N' := 40) (pc := 70) (ci := 5) (k := k) (j := 16) (fs := [.ref (a0 n), .ref (a1 (n + 1)), .ref (a2 (n + 2)), .ref (a3 (n + 3)), .ref (a4 (n + 4)), .int 0, .ref (a5 (n + 5)), .int 0, .long 0, .long 1, .ref (a6 (n + 6)), .int 0, .int 0, .int 0, .int 0, .int 0, .null, .null, .null, .null, .null, .null, .long 0]) rfl tyX9 tyX9_ok nmX9 ix_X9 (by omega) hx6 hk6 rfl (by omega) fw_X9_35 rfl rfl (by decide +kernel) (Nat.le_of_ble_eq_true rfl) rfl (by omega) (by omega) (by omega) dX9_init_70 dX9_init_72 (fun a7 c7 ha7 hc7 hk7 hz7 => ?_)
  have hx7 : a7 k = x := (ha7 k (by omega)).trans hx6
  refine n_aload (pc := 75) dX9_init_75 0 rfl rfl ?_
  refine n_bipush (pc := 76) (v := 10) dX9_init_76 (by decide) ?_
  refine n_arrF (N' := 10) (pc := 78) (ci := 5) (k := k) (j := 17) (fs := [.ref (a0 n), .ref (a1 (n + 1)), .ref (a2 (n + 2)), .ref (a3 (n + 3)), .ref (a4 (n + 4)), .int 0, .ref (a5 (n + 5)), .int 0, .long 0, .long 1, .ref (a6 (n + 6)), .int 0, .int 0, .int 0, .int 0, .int 0, .ref (a7 (n + 7)), .null, .null, .null, .null, .null, .long 0]) rfl tyX9 tyX9_ok nmX9 ix_X9 (by omega) hx7 hk7 rfl (by omega) fw_X9_38 rfl rfl (by decide +kernel) (Nat.le_of_ble_eq_true rfl) rfl (by omega) (by omega) (by omega) dX9_init_78 dX9_init_80 (fun a8 c8 ha8 hc8 hk8 hz8 => ?_)
  have hx8 : a8 k = x := (ha8 k (by omega)).trans hx7
  refine n_aload (pc := 83) dX9_init_83 0 rfl rfl ?_
  refine n_bipush (pc := 84) (v := 6) dX9_init_84 (by decide) ?_
  refine n_arrF (N' := 6) (pc := 86) (ci := 5) (k := k) (j := 18) (fs := [.ref (a0 n), .ref (a1 (n + 1)), .ref (a2 (n + 2)), .ref (a3 (n + 3)), .ref (a4 (n + 4)), .int 0, .ref (a5 (n + 5)), .int 0, .long 0, .long 1, .ref (a6 (n + 6)), .int 0, .int 0, .int 0, .int 0, .int 0, .ref (a7 (n + 7)), .ref (a8 (n + 8)), .null, .null, .null, .null, .long 0]) rfl tyX9 tyX9_ok nmX9 ix_X9 (by omega) hx8 hk8 rfl (by omega) fw_X9_41 rfl rfl (by decide +kernel) (Nat.le_of_ble_eq_true rfl) rfl (by omega) (by omega) (by omega) dX9_init_86 dX9_init_88 (fun a9 c9 ha9 hc9 hk9 hz9 => ?_)
  have hx9 : a9 k = x := (ha9 k (by omega)).trans hx8
  refine n_aload (pc := 91) dX9_init_91 0 rfl rfl ?_
  refine n_iconst (pc := 92) (v := 5) dX9_init_92 (by decide) ?_
  refine n_arrF (N' := 5) (pc := 93) (ci := 5) (k := k) (j := 19) (fs := [.ref (a0 n), .ref (a1 (n + 1)), .ref (a2 (n + 2)), .ref (a3 (n + 3)), .ref (a4 (n + 4)), .int 0, .ref (a5 (n + 5)), .int 0, .long 0, .long 1, .ref (a6 (n + 6)), .int 0, .int 0, .int 0, .int 0, .int 0, .ref (a7 (n + 7)), .ref (a8 (n + 8)), .ref (a9 (n + 9)), .null, .null, .null, .long 0]) rfl tyX9 tyX9_ok nmX9 ix_X9 (by omega) hx9 hk9 rfl (by omega) fw_X9_44 rfl rfl (by decide +kernel) (Nat.le_of_ble_eq_true rfl) rfl (by omega) (by omega) (by omega) dX9_init_93 dX9_init_95 (fun a10 c10 ha10 hc10 hk10 hz10 => ?_)
  have hx10 : a10 k = x := (ha10 k (by omega)).trans hx9
  refine n_aload (pc := 98) dX9_init_98 0 rfl rfl ?_
  refine n_iconst (pc := 99) (v := 5) dX9_init_99 (by decide) ?_
  refine n_arrF (N' := 5) (pc := 100) (ci := 5) (k := k) (j := 20) (fs := [.ref (a0 n), .ref (a1 (n + 1)), .ref (a2 (n + 2)), .ref (a3 (n + 3)), .ref (a4 (n + 4)), .int 0, .ref (a5 (n + 5)), .int 0, .long 0, .long 1, .ref (a6 (n + 6)), .int 0, .int 0, .int 0, .int 0, .int 0, .ref (a7 (n + 7)), .ref (a8 (n + 8)), .ref (a9 (n + 9)), .ref (a10 (n + 10)), .null, .null, .long 0]) rfl tyX9 tyX9_ok nmX9 ix_X9 (by omega) hx10 hk10 rfl (by omega) fw_X9_47 rfl rfl (by decide +kernel) (Nat.le_of_ble_eq_true rfl) rfl (by omega) (by omega) (by omega) dX9_init_100 dX9_init_102 (fun a11 c11 ha11 hc11 hk11 hz11 => ?_)
  have hx11 : a11 k = x := (ha11 k (by omega)).trans hx10
  refine n_aload (pc := 105) dX9_init_105 0 rfl rfl ?_
  refine n_iconst (pc := 106) (v := 5) dX9_init_106 (by decide) ?_
  refine n_arrF (N' := 5) (pc := 107) (ci := 5) (k := k) (j := 21) (fs := [.ref (a0 n), .ref (a1 (n + 1)), .ref (a2 (n + 2)), .ref (a3 (n + 3)), .ref (a4 (n + 4)), .int 0, .ref (a5 (n + 5)), .int 0, .long 0, .long 1, .ref (a6 (n + 6)), .int 0, .int 0, .int 0, .int 0, .int 0, .ref (a7 (n + 7)), .ref (a8 (n + 8)), .ref (a9 (n + 9)), .ref (a10 (n + 10)), .ref (a11 (n + 11)), .null, .long 0]) rfl tyX9 tyX9_ok nmX9 ix_X9 (by omega) hx11 hk11 rfl (by omega) fw_X9_50 rfl rfl (by decide +kernel) (Nat.le_of_ble_eq_true rfl) rfl (by omega) (by omega) (by omega) dX9_init_107 dX9_init_109 (fun a12 c12 ha12 hc12 hk12 hz12 => ?_)
  have hx12 : a12 k = x := (ha12 k (by omega)).trans hx11
  have r0 : a12 n = a0 n := by rw [ha12 n (by omega), ha11 n (by omega), ha10 n (by omega), ha9 n (by omega), ha8 n (by omega), ha7 n (by omega), ha6 n (by omega), ha5 n (by omega), ha4 n (by omega), ha3 n (by omega), ha2 n (by omega), ha1 n (by omega)]
  have r1 : a12 (n + 1) = a1 (n + 1) := by rw [ha12 (n + 1) (by omega), ha11 (n + 1) (by omega), ha10 (n + 1) (by omega), ha9 (n + 1) (by omega), ha8 (n + 1) (by omega), ha7 (n + 1) (by omega), ha6 (n + 1) (by omega), ha5 (n + 1) (by omega), ha4 (n + 1) (by omega), ha3 (n + 1) (by omega), ha2 (n + 1) (by omega)]
  have r2 : a12 (n + 2) = a2 (n + 2) := by rw [ha12 (n + 2) (by omega), ha11 (n + 2) (by omega), ha10 (n + 2) (by omega), ha9 (n + 2) (by omega), ha8 (n + 2) (by omega), ha7 (n + 2) (by omega), ha6 (n + 2) (by omega), ha5 (n + 2) (by omega), ha4 (n + 2) (by omega), ha3 (n + 2) (by omega)]
  have r3 : a12 (n + 3) = a3 (n + 3) := by rw [ha12 (n + 3) (by omega), ha11 (n + 3) (by omega), ha10 (n + 3) (by omega), ha9 (n + 3) (by omega), ha8 (n + 3) (by omega), ha7 (n + 3) (by omega), ha6 (n + 3) (by omega), ha5 (n + 3) (by omega), ha4 (n + 3) (by omega)]
  have r4 : a12 (n + 4) = a4 (n + 4) := by rw [ha12 (n + 4) (by omega), ha11 (n + 4) (by omega), ha10 (n + 4) (by omega), ha9 (n + 4) (by omega), ha8 (n + 4) (by omega), ha7 (n + 4) (by omega), ha6 (n + 4) (by omega), ha5 (n + 4) (by omega)]
  have r5 : a12 (n + 5) = a5 (n + 5) := by rw [ha12 (n + 5) (by omega), ha11 (n + 5) (by omega), ha10 (n + 5) (by omega), ha9 (n + 5) (by omega), ha8 (n + 5) (by omega), ha7 (n + 5) (by omega), ha6 (n + 5) (by omega)]
  have r6 : a12 (n + 6) = a6 (n + 6) := by rw [ha12 (n + 6) (by omega), ha11 (n + 6) (by omega), ha10 (n + 6) (by omega), ha9 (n + 6) (by omega), ha8 (n + 6) (by omega), ha7 (n + 6) (by omega)]
  have r7 : a12 (n + 7) = a7 (n + 7) := by rw [ha12 (n + 7) (by omega), ha11 (n + 7) (by omega), ha10 (n + 7) (by omega), ha9 (n + 7) (by omega), ha8 (n + 7) (by omega)]
  have r8 : a12 (n + 8) = a8 (n + 8) := by rw [ha12 (n + 8) (by omega), ha11 (n + 8) (by omega), ha10 (n + 8) (by omega), ha9 (n + 8) (by omega)]
  have r9 : a12 (n + 9) = a9 (n + 9) := by rw [ha12 (n + 9) (by omega), ha11 (n + 9) (by omega), ha10 (n + 9) (by omega)]
  have r10 : a12 (n + 10) = a10 (n + 10) := by rw [ha12 (n + 10) (by omega), ha11 (n + 10) (by omega)]
  have r11 : a12 (n + 11) = a11 (n + 11) := by rw [ha12 (n + 11) (by omega)]
  have hK : c12 k = mdV a12 n := by
    rw [hk12]
    unfold mdV
    rw [r0, r1, r2, r3, r4, r5, r6, r7, r8, r9, r10, r11]
    rfl
  have z0 : c12 n = zI E 1776 := by rw [hc12 n (by omega) (by omega), hc11 n (by omega) (by omega), hc10 n (by omega) (by omega), hc9 n (by omega) (by omega), hc8 n (by omega) (by omega), hc7 n (by omega) (by omega), hc6 n (by omega) (by omega), hc5b n (by omega), hc5 n (by omega) (by omega), hc4 n (by omega) (by omega), hc3 n (by omega) (by omega), hc2 n (by omega) (by omega), hc1 n (by omega) (by omega), hz0]
  have z1 : c12 (n + 1) = zI E 6 := by rw [hc12 (n + 1) (by omega) (by omega), hc11 (n + 1) (by omega) (by omega), hc10 (n + 1) (by omega) (by omega), hc9 (n + 1) (by omega) (by omega), hc8 (n + 1) (by omega) (by omega), hc7 (n + 1) (by omega) (by omega), hc6 (n + 1) (by omega) (by omega), hc5b (n + 1) (by omega), hc5 (n + 1) (by omega) (by omega), hc4 (n + 1) (by omega) (by omega), hc3 (n + 1) (by omega) (by omega), hc2 (n + 1) (by omega) (by omega), hz1]
  have z2 : c12 (n + 2) = zI E 240 := by rw [hc12 (n + 2) (by omega) (by omega), hc11 (n + 2) (by omega) (by omega), hc10 (n + 2) (by omega) (by omega), hc9 (n + 2) (by omega) (by omega), hc8 (n + 2) (by omega) (by omega), hc7 (n + 2) (by omega) (by omega), hc6 (n + 2) (by omega) (by omega), hc5b (n + 2) (by omega), hc5 (n + 2) (by omega) (by omega), hc4 (n + 2) (by omega) (by omega), hc3 (n + 2) (by omega) (by omega), hz2]
  have z3 : c12 (n + 3) = zI E 4 := by rw [hc12 (n + 3) (by omega) (by omega), hc11 (n + 3) (by omega) (by omega), hc10 (n + 3) (by omega) (by omega), hc9 (n + 3) (by omega) (by omega), hc8 (n + 3) (by omega) (by omega), hc7 (n + 3) (by omega) (by omega), hc6 (n + 3) (by omega) (by omega), hc5b (n + 3) (by omega), hc5 (n + 3) (by omega) (by omega), hc4 (n + 3) (by omega) (by omega), hz3]
  have z4 : c12 (n + 4) = zI E 240 := by rw [hc12 (n + 4) (by omega) (by omega), hc11 (n + 4) (by omega) (by omega), hc10 (n + 4) (by omega) (by omega), hc9 (n + 4) (by omega) (by omega), hc8 (n + 4) (by omega) (by omega), hc7 (n + 4) (by omega) (by omega), hc6 (n + 4) (by omega) (by omega), hc5b (n + 4) (by omega), hc5 (n + 4) (by omega) (by omega), hz4]
  have z5 : c12 (n + 5) = zI E 6 := by rw [hc12 (n + 5) (by omega) (by omega), hc11 (n + 5) (by omega) (by omega), hc10 (n + 5) (by omega) (by omega), hc9 (n + 5) (by omega) (by omega), hc8 (n + 5) (by omega) (by omega), hc7 (n + 5) (by omega) (by omega), hc6 (n + 5) (by omega) (by omega), hc5b (n + 5) (by omega), hz5]
  have z6 : c12 (n + 6) = zI E 40 := by rw [hc12 (n + 6) (by omega) (by omega), hc11 (n + 6) (by omega) (by omega), hc10 (n + 6) (by omega) (by omega), hc9 (n + 6) (by omega) (by omega), hc8 (n + 6) (by omega) (by omega), hc7 (n + 6) (by omega) (by omega), hz6]
  have z7 : c12 (n + 7) = zI E 40 := by rw [hc12 (n + 7) (by omega) (by omega), hc11 (n + 7) (by omega) (by omega), hc10 (n + 7) (by omega) (by omega), hc9 (n + 7) (by omega) (by omega), hc8 (n + 7) (by omega) (by omega), hz7]
  have z8 : c12 (n + 8) = zI E 10 := by rw [hc12 (n + 8) (by omega) (by omega), hc11 (n + 8) (by omega) (by omega), hc10 (n + 8) (by omega) (by omega), hc9 (n + 8) (by omega) (by omega), hz8]
  have z9 : c12 (n + 9) = zI E 6 := by rw [hc12 (n + 9) (by omega) (by omega), hc11 (n + 9) (by omega) (by omega), hc10 (n + 9) (by omega) (by omega), hz9]
  have z10 : c12 (n + 10) = zI E 5 := by rw [hc12 (n + 10) (by omega) (by omega), hc11 (n + 10) (by omega) (by omega), hz10]
  have z11 : c12 (n + 11) = zI E 5 := by rw [hc12 (n + 11) (by omega) (by omega), hz11]
  have z12 : c12 (n + 12) = zI E 5 := by rw [hz12]
  have old : ∀ i, i < n → a12 i = a i := fun i hi => by rw [ha12 i (by omega), ha11 i (by omega), ha10 i (by omega), ha9 i (by omega), ha8 i (by omega), ha7 i (by omega), ha6 i (by omega), ha5 i (by omega), ha4 i (by omega), ha3 i (by omega), ha2 i (by omega), ha1 i (by omega), ha0 i hi]
  have oldc : ∀ i, i < n → i ≠ k → c12 i = c i := fun i hi hne => by rw [hc12 i (by omega) hne, hc11 i (by omega) hne, hc10 i (by omega) hne, hc9 i (by omega) hne, hc8 i (by omega) hne, hc7 i (by omega) hne, hc6 i (by omega) hne, hc5b i hne, hc5 i (by omega) hne, hc4 i (by omega) hne, hc3 i (by omega) hne, hc2 i (by omega) hne, hc1 i (by omega) hne, hc0 i (by omega) hne]
  refine n_iconst (pc := 112) (v := 0) dX9_init_112 (by decide) ?_
  refine n_istore (pc := 113) (L' := [(1, .int 0), (0, .ref x)]) dX9_init_113 rfl (by decide) rfl ?_
  have e1 : uc c12 (n + 1) (.inl (eI E, 6, .inl (fillF (fun _ => 0) (-1) 0))) = c12 := uc_self (by rw [z1, fillF_0])
  rw [← e1]
  refine x9_rs (k := k) (n := n) (fs := _) (by omega) hx12 hK rfl (by omega) (by omega) ?_ 0 (by omega)
  refine n_iconst (pc := 133) (v := 0) dX9_init_133 (by decide) ?_
  refine n_istore (pc := 134) (L' := [(1, .int 0), (0, .ref x)]) dX9_init_134 rfl (by decide) rfl ?_
  generalize hd : uc c12 (n + 1) (.inl (eI E, 6, .inl (fillF (fun _ => 0) (-1) 6))) = d
  have dn : ∀ i, i ≠ n + 1 → d i = c12 i := fun i hi => by rw [← hd, uc_n hi]
  have ds : d (n + 1) = .inl (eI E, 6, .inl (fillF (fun _ => 0) (-1) 6)) := by rw [← hd, uc_s]
  have e2 : uc d (n + 3) (.inl (eI E, 4, .inl (fillF (fun _ => 0) (-1) 0))) = d := uc_self (by rw [dn _ (by omega), z3, fillF_0])
  rw [← e2]
  refine x9_ts (k := k) (n := n) (fs := _) (by omega) hx12 ((dn k (by omega)).trans hK) rfl (by omega) (by omega) ?_ 0 (by omega)
  have fin : ∀ i, i ≠ n + 1 → i ≠ n + 3 → uc d (n + 3) (.inl (eI E, 4, .inl (fillF (fun _ => 0) (-1) 4))) i = c12 i := fun i h1 h2 => by rw [uc_n h2, dn i h1]
  refine n_vret (pc := 153) hX rfl (by omega) (by omega) ⟨rfl, ⟨old, fun i hi hne => (fin i (by omega) (by omega)).trans (oldc i hi hne)⟩, (fin k (by omega) (by omega)).trans hK, ?_⟩ dX9_init_153
  exact ⟨(fin _ (by omega) (by omega)).trans z0, (uc_n (by omega)).trans ds, (fin _ (by omega) (by omega)).trans z2, uc_s, (fin _ (by omega) (by omega)).trans z4, (fin _ (by omega) (by omega)).trans z5, (fin _ (by omega) (by omega)).trans z6, (fin _ (by omega) (by omega)).trans z7, (fin _ (by omega) (by omega)).trans z8, (fin _ (by omega) (by omega)).trans z9, (fin _ (by omega) (by omega)).trans z10, (fin _ (by omega) (by omega)).trans z11, (fin _ (by omega) (by omega)).trans z12⟩
