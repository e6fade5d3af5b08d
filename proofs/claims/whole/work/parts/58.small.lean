/-! THE SMALL CONSTRUCTORS: Strip, Bank, Sets, Chains -/
abbrev i_X5_init : Ym := (yX5_init, cX5_init, 2, none, 1)
abbrev i_X0_init : Ym := (yX0_init, cX0_init, 1, none, 1)
abbrev i_X4_init : Ym := (yX4_init, cX4_init, 1, none, 1)
abbrev i_X1_init : Ym := (yX1_init, cX1_init, 1, none, 1)
abbrev zI (E : En) (m : Nat) : va_E := .inl (eI E, m, .inl (fun _ => 0))
theorem ac_int : Cond.arrayClass .int ∈ TT := TT_t0 (List.mem_of_getElem? (i := 61) (by decide +kernel)) (by decide +kernel)
/-- the old cells are as they were, but cell k -/
def oldN (a : Nat → Nat) (c : Nat → va_E) (n k : Nat) (a' : Nat → Nat) (c' : Nat → va_E) : Prop := (∀ i, i < n → a' i = a i) ∧ ∀ i, i < n → i ≠ k → c' i = c i
def bkV (a : Nat → Nat) (n : Nat) : va_E := .inr (0, [.ref (a n), .ref (a (n + 1)), .ref (a (n + 2)), .ref (a (n + 3)), .ref (a (n + 4)), .ref (a (n + 5)), .int 0, .int 0, .int 0, .int 0])
section SM
variable {E : En} {X : Xt} {I : Ym} {a : Nat → Nat} {c : Nat → va_E} {n kc ks : Nat} {pc : Nat} {L : List (Nat × Value)} {st : List Value}
theorem n_max {idx : Nat} {x y : Int32} (hw : Cond.methodLink I.1.cls idx Lib.Math.max.name ∈ TT) (hd : decode I.2.1 pc = .ok (.invokestatic idx, 3)) (h1 : 1 ≤ I.2.2.2.2) (h2 : (st.map fun v => v.category).sum + 13 ≤ 37) (hc : kc ≤ (xR X).cells) (hs : ks ≤ (xR X).slots) (kk : NG E X I a c n kc ks (pc + 3) L (.int (if x < y then y else x) :: st)) : NG E X I a c n kc ks pc L (.int y :: .int x :: st) :=
  fun Y H locs ls hP hD hS hl => va_mmax Y.1 Y.2.1 (Y.2.2.1.trans hl.1.symm) Y.2.2.2.1 (Y.2.2.2.2.1 _ hw) (Y.2.2.2.2.1 _ lw_max_s) (Y.2.2.2.2.1 _ in_J9) (Y.2.2.2.2.1 _ lw_max_c) (by have := Y.2.2.2.2.2.2.2.2.1.1; omega) (by have := Y.2.2.2.2.2.2.2.2.1.2; omega) hc hs hd (kk Y H locs ls hP hD hS hl)
theorem n_vret {mc ms : Nat} {Post : (Nat → Nat) → (Nat → va_E) → Nat → Prop} (hX : NX E X I mc ms Post) (hr : I.2.2.2.1 = none) (hkc : kc = mc) (hks : ks = ms) (hp : Post a c n) (hd : decode I.2.1 pc = .ok (.return_, 1)) : NG E X I a c n kc ks pc L [] := by
  subst hkc; subst hks
  intro Y H locs ls hP hD hS hl
  rw [hX.1]
  exact W.vret Y.1 Y.2.1 (hX.2.1.trans hr) (fun t ht hW => ⟨⟨(a, c, n), rfl, hp, by rw [ht]; exact hP, hD⟩, hS.F ht⟩) hS.2.2 hd (hlocks := Y.2.2.2.2.2.2.2.1)
end SM
/-- a new row of ints, put into a final field: newarray, putfield -/
theorem n_arrF {E : En} {X : Xt} {I : Ym} {a : Nat → Nat} {c : Nat → va_E} {n kc ks : Nat} {pc : Nat} {L : List (Nat × Value)} {st : List Value} {idx ci N k j N' : Nat} {C0 : String} {T : u_T} {fs : List Value} {m : Int32} {x : Nat} (hi : I.1.name = "<init>") (ty0 : Nat → FieldType) (hty : ∀ k, k < N → parseFieldDescriptor (T k).2.2.1 = some (ty0 k)) (hnm : ∀ a, a < N → ∀ b, b < N → a ≠ b → (T a).2.1 ≠ (T b).2.1) (hin : ∀ w ∈ u_ws C0 T N, w ∈ TT) (hk : k < n) (hx : a k = x) (hck : c k = .inr (ci, fs)) (hcl : vwCl[ci]? = some (C0, T, N)) (hj : j < N) (hw : Cond.fieldLink I.1.cls idx (T j).1 (T j).2.1 (T j).2.2.1 ∈ TT) (hfin : (T j).2.2.2 = true) (hdecl : (T j).1 = I.1.cls) (htd : parseFieldDescriptor (T j).2.2.1 = some (.array .int)) (hl2 : j < fs.length) (hn : m = nI N') (hb : N' < 2 ^ 20) (hcells : kc + 1 ≤ (xR X).cells) (hslots : ks + N' ≤ (xR X).slots) (hd1 : decode I.2.1 pc = .ok (.newarray .int, 2)) (hd2 : decode I.2.1 (pc + 2) = .ok (.putfield idx, 3))
    (kk : ∀ (a' : Nat → Nat) (c' : Nat → va_E), (∀ i, i < n → a' i = a i) → (∀ i, i < n → i ≠ k → c' i = c i) → c' k = .inr (ci, fs.set j (.ref (a' n))) → c' n = zI E N' → NG E X I a' c' (n + 1) (kc + 1) (ks + N') (pc + 5) L st) : NG E X I a c n kc ks pc L (.int m :: .ref x :: st) := by
  refine n_newa hn hb hcells hslots hd1 ac_int (fun q => ?_)
  have nk : k ≠ n := by omega
  refine n_putF (k := k) (j := j) (fs := fs) (ty := .array .int) hi ty0 hty hnm hin (by omega) ((ua_n nk).trans hx) ((uc_n nk).trans hck) hcl hj hw hfin hdecl htd rfl rfl hl2 hd2 ?_
  refine kk _ _ (fun i hi => ua_n (by omega)) (fun i hi hne => ?_) ?_ ?_
  · rw [uc_n hne, uc_n (by omega)]
  · rw [uc_s, ua_s]
  · rw [uc_n nk.symm, uc_s]
set_option maxRecDepth 100000 in
set_option maxHeartbeats 4000000 in
/-- Strip(room): its cells, all 0; it is missing -/
theorem c_X5_init (E : En) (a : Nat → Nat) (c : Nat → va_E) (n sz k x m : Nat) (hk : k < n) (hx : a k = x) (hck : c k = .inr (3, [.null, .int 0])) (hm : m < 2 ^ 20) : NT E i_X5_init 1 m a c n sz [.ref x, .int (nI m)] (fun a' c' n' => n' = n + 1 ∧ oldN a c n k a' c' ∧ c' k = .inr (3, [.ref (a' n), .int (-1)]) ∧ c' n = zI E m) := by
  refine nt_of [(0, .ref x), (1, .int (nI m))] (by decide +kernel) (Nat.le_of_ble_eq_true rfl) rfl (fun X hX => ?_)
  obtain ⟨-, -, hc1, hs1⟩ := id hX
  refine n_aload (pc := 0) dX5_init_0 0 rfl rfl ?_
  refine n_obj (pc := 1) mw_X5_1 dX5_init_1 (Nat.le_refl _) (by decide) ?_
  refine n_aload (pc := 4) dX5_init_4 0 rfl rfl ?_
  refine n_iconst (pc := 5) (v := -1) dX5_init_5 (by decide) ?_
  refine n_put (pc := 6) (ci := 3) (k := k) (j := 1) (ty := .int) tyX5 tyX5_ok nmX5 ix_X5 hk hx hck rfl (by omega) fw_X5_9 rfl (by decide +kernel) rfl rfl (by decide) dX5_init_6 ?_
  refine n_aload (pc := 9) dX5_init_9 0 rfl rfl ?_
  refine n_iconst (pc := 10) (v := 0) dX5_init_10 (by decide) ?_
  refine n_iload (pc := 11) dX5_init_11 1 rfl rfl ?_
  refine n_max (pc := 12) mw_X5_13 dX5_init_12 (Nat.le_refl _) (Nat.le_of_ble_eq_true rfl) (by omega) (by omega) ?_
  have e : (if (0 : Int32) < nI m then nI m else 0) = nI m := clamp0 (by omega)
  rw [e]
  refine n_newa (pc := 15) rfl hm (by omega) (by omega) dX5_init_15 ac_int (fun q => ?_)
  have nk : k ≠ n := by omega
  refine n_putF (pc := 17) (ci := 3) (k := k) (j := 0) (fs := [.null, .int (-1)]) (ty := .array .int) rfl tyX5 tyX5_ok nmX5 ix_X5 (by omega) ((ua_n nk).trans hx) ((uc_n nk).trans uc_s) rfl (by omega) fw_X5_19 rfl rfl (by decide +kernel) rfl rfl (by decide) dX5_init_17 ?_
  refine n_vret (pc := 20) hX rfl (by omega) (by omega) ⟨rfl, ⟨fun i hi => ua_n (by omega), fun i hi hne => ?_⟩, ?_, ?_⟩ dX5_init_20
  · rw [uc_n hne, uc_n (by omega), uc_n hne]
  · rw [uc_s, ua_s]; rfl
  · rw [uc_n nk.symm, uc_s]
set_option maxRecDepth 100000 in
set_option maxHeartbeats 4000000 in
theorem c_X1_init (E : En) (a : Nat → Nat) (c : Nat → va_E) (n sz k x : Nat) (hk : k < n) (hx : a k = x) (hck : c k = .inr (1, [.null])) : NT E i_X1_init 1 6 a c n sz [.ref x] (fun a' c' n' => n' = n + 1 ∧ oldN a c n k a' c' ∧ c' k = .inr (1, [.ref (a' n)]) ∧ c' n = zI E 6) := by
  refine nt_of [(0, .ref x)] (by decide +kernel) (Nat.le_of_ble_eq_true rfl) rfl (fun X hX => ?_)
  obtain ⟨-, -, hc1, hs1⟩ := id hX
  have nk : k ≠ n := by omega
  refine n_aload (pc := 0) dX1_init_0 0 rfl rfl ?_
  refine n_obj (pc := 1) mw_X1_3 dX1_init_1 (Nat.le_refl _) (by decide) ?_
  refine n_aload (pc := 4) dX1_init_4 0 rfl rfl ?_
  refine n_bipush (pc := 5) (v := 6) dX1_init_5 (by decide) ?_
  refine n_newa (N' := 6) (pc := 7) rfl (by omega) (by omega) (by omega) dX1_init_7 ac_int (fun q => ?_)
  refine n_putF (pc := 9) (ci := 1) (k := k) (j := 0) (fs := [.null]) (ty := .array .int) rfl tyX1 tyX1_ok nmX1 ix_X1 (by omega) ((ua_n nk).trans hx) ((uc_n nk).trans hck) rfl (by omega) fw_X1_9 rfl rfl (by decide +kernel) rfl rfl (by decide) dX1_init_9 ?_
  refine n_vret (pc := 12) hX rfl (by omega) (by omega) ⟨rfl, ⟨fun i hi => ua_n (by omega), fun i hi hne => ?_⟩, ?_, ?_⟩ dX1_init_12
  · rw [uc_n hne, uc_n (by omega)]
  · rw [uc_s, ua_s]; rfl
  · rw [uc_n nk.symm, uc_s]
set_option maxRecDepth 100000 in
set_option maxHeartbeats 4000000 in
theorem c_X4_init (E : En) (a : Nat → Nat) (c : Nat → va_E) (n sz k x : Nat) (hk : k < n) (hx : a k = x) (hck : c k = .inr (2, [.null, .null])) : NT E i_X4_init 2 264 a c n sz [.ref x] (fun a' c' n' => n' = n + 2 ∧ oldN a c n k a' c' ∧ c' k = .inr (2, [.ref (a' n), .ref (a' (n + 1))]) ∧ c' n = zI E 8 ∧ c' (n + 1) = zI E 256) := by
  refine nt_of [(0, .ref x)] (by decide +kernel) (Nat.le_of_ble_eq_true rfl) rfl (fun X hX => ?_)
  obtain ⟨-, -, hc1, hs1⟩ := id hX
  have nk : k ≠ n := by omega
  have nk1 : k ≠ n + 1 := by omega
  refine n_aload (pc := 0) dX4_init_0 0 rfl rfl ?_
  refine n_obj (pc := 1) mw_X4_3 dX4_init_1 (Nat.le_refl _) (by decide) ?_
  refine n_aload (pc := 4) dX4_init_4 0 rfl rfl ?_
  refine n_bipush (pc := 5) (v := 8) dX4_init_5 (by decide) ?_
  refine n_newa (N' := 8) (pc := 7) rfl (by omega) (by omega) (by omega) dX4_init_7 ac_int (fun q => ?_)
  refine n_putF (pc := 9) (ci := 2) (k := k) (j := 0) (fs := [.null, .null]) (ty := .array .int) rfl tyX4 tyX4_ok nmX4 ix_X4 (by omega) ((ua_n nk).trans hx) ((uc_n nk).trans hck) rfl (by omega) fw_X4_9 rfl rfl (by decide +kernel) rfl rfl (by decide) dX4_init_9 ?_
  refine n_aload (pc := 12) dX4_init_12 0 rfl rfl ?_
  refine n_sipush (pc := 13) (v := 256) dX4_init_13 (by decide) ?_
  refine n_newa (N' := 256) (pc := 16) rfl (by omega) (by omega) (by omega) dX4_init_16 ac_int (fun q2 => ?_)
  refine n_putF (pc := 18) (ci := 2) (k := k) (j := 1) (fs := [.ref q, .null]) (ty := .array .int) rfl tyX4 tyX4_ok nmX4 ix_X4 (by omega) ((ua_n nk1).trans ((ua_n nk).trans hx)) ((uc_n nk1).trans uc_s) rfl (by omega) fw_X4_15 rfl rfl (by decide +kernel) rfl rfl (Nat.le_of_ble_eq_true rfl) dX4_init_18 ?_
  refine n_vret (pc := 21) hX rfl (by omega) (by omega) ⟨rfl, ⟨fun i hi => (ua_n (by omega)).trans (ua_n (by omega)), fun i hi hne => ?_⟩, ?_, ?_, ?_⟩ dX4_init_21
  · rw [uc_n hne, uc_n (by omega), uc_n hne, uc_n (by omega)]
  · rw [uc_s, ua_s, ua_n (show n ≠ n + 1 by omega), ua_s]; rfl
  · rw [uc_n nk.symm, uc_n (by omega), uc_n nk.symm, uc_s]
  · rw [uc_n nk1.symm, uc_s]
set_option maxRecDepth 100000 in
set_option maxHeartbeats 4000000 in
/-- Bank(): six rows of ints -/
theorem c_X0_init (E : En) (a : Nat → Nat) (c : Nat → va_E) (n sz k x : Nat) (hk : k < n) (hx : a k = x) (hck : c k = .inr (0, [.null, .null, .null, .null, .null, .null, .int 0, .int 0, .int 0, .int 0])) : NT E i_X0_init 6 80 a c n sz [.ref x] (fun a' c' n' => n' = n + 6 ∧ oldN a c n k a' c' ∧ c' k = bkV a' n ∧ (∀ j, j < 5 → c' (n + j) = zI E 8) ∧ c' (n + 5) = zI E 40) := by
  refine nt_of [(0, .ref x)] (by decide +kernel) (Nat.le_of_ble_eq_true rfl) rfl (fun X hX => ?_)
  obtain ⟨-, -, hcl, hsl⟩ := id hX
  refine n_aload (pc := 0) dX0_init_0 0 rfl rfl ?_
  refine n_obj (pc := 1) mw_X0_3 dX0_init_1 (Nat.le_refl _) (by decide) ?_
  refine n_aload (pc := 4) dX0_init_4 0 rfl rfl ?_
  refine n_bipush (pc := 5) (v := 8) dX0_init_5 (by decide) ?_
  refine n_arrF (N' := 8) (pc := 7) (ci := 0) (k := k) (j := 0) (fs := [.null, .null, .null, .null, .null, .null, .int 0, .int 0, .int 0, .int 0]) rfl tyX0 tyX0_ok nmX0 ix_X0 (by omega) hx hck rfl (by omega) fw_X0_9 rfl rfl (by decide +kernel) (Nat.le_of_ble_eq_true rfl) rfl (by omega) (by omega) (by omega) dX0_init_7 dX0_init_9 (fun a0 c0 ha0 hc0 hk0 hz0 => ?_)
  refine n_aload (pc := 12) dX0_init_12 0 rfl rfl ?_
  refine n_bipush (pc := 13) (v := 8) dX0_init_13 (by decide) ?_
  refine n_arrF (N' := 8) (pc := 15) (ci := 0) (k := k) (j := 1) (fs := [.ref (a0 n), .null, .null, .null, .null, .null, .int 0, .int 0, .int 0, .int 0]) rfl tyX0 tyX0_ok nmX0 ix_X0 (by omega) ((ha0 k (by omega)).trans hx) hk0 rfl (by omega) fw_X0_15 rfl rfl (by decide +kernel) (Nat.le_of_ble_eq_true rfl) rfl (by omega) (by omega) (by omega) dX0_init_15 dX0_init_17 (fun a1 c1 ha1 hc1 hk1 hz1 => ?_)
  refine n_aload (pc := 20) dX0_init_20 0 rfl rfl ?_
  refine n_bipush (pc := 21) (v := 8) dX0_init_21 (by decide) ?_
  refine n_arrF (N' := 8) (pc := 23) (ci := 0) (k := k) (j := 2) (fs := [.ref (a0 n), .ref (a1 (n + 1)), .null, .null, .null, .null, .int 0, .int 0, .int 0, .int 0]) rfl tyX0 tyX0_ok nmX0 ix_X0 (by omega) ((ha1 k (by omega)).trans ((ha0 k (by omega)).trans hx)) hk1 rfl (by omega) fw_X0_18 rfl rfl (by decide +kernel) (Nat.le_of_ble_eq_true rfl) rfl (by omega) (by omega) (by omega) dX0_init_23 dX0_init_25 (fun a2 c2 ha2 hc2 hk2 hz2 => ?_)
  refine n_aload (pc := 28) dX0_init_28 0 rfl rfl ?_
  refine n_bipush (pc := 29) (v := 8) dX0_init_29 (by decide) ?_
  refine n_arrF (N' := 8) (pc := 31) (ci := 0) (k := k) (j := 3) (fs := [.ref (a0 n), .ref (a1 (n + 1)), .ref (a2 (n + 2)), .null, .null, .null, .int 0, .int 0, .int 0, .int 0]) rfl tyX0 tyX0_ok nmX0 ix_X0 (by omega) ((ha2 k (by omega)).trans ((ha1 k (by omega)).trans ((ha0 k (by omega)).trans hx))) hk2 rfl (by omega) fw_X0_21 rfl rfl (by decide +kernel) (Nat.le_of_ble_eq_true rfl) rfl (by omega) (by omega) (by omega) dX0_init_31 dX0_init_33 (fun a3 c3 ha3 hc3 hk3 hz3 => ?_)
  refine n_aload (pc := 36) dX0_init_36 0 rfl rfl ?_
  refine n_bipush (pc := 37) (v := 8) dX0_init_37 (by decide) ?_
  refine n_arrF (N' := 8) (pc := 39) (ci := 0) (k := k) (j := 4) (fs := [.ref (a0 n), .ref (a1 (n + 1)), .ref (a2 (n + 2)), .ref (a3 (n + 3)), .null, .null, .int 0, .int 0, .int 0, .int 0]) rfl tyX0 tyX0_ok nmX0 ix_X0 (by omega) ((ha3 k (by omega)).trans ((ha2 k (by omega)).trans ((ha1 k (by omega)).trans ((ha0 k (by omega)).trans hx)))) hk3 rfl (by omega) fw_X0_24 rfl rfl (by decide +kernel) (Nat.le_of_ble_eq_true rfl) rfl (by omega) (by omega) (by omega) dX0_init_39 dX0_init_41 (fun a4 c4 ha4 hc4 hk4 hz4 => ?_)
  refine n_aload (pc := 44) dX0_init_44 0 rfl rfl ?_
  refine n_bipush (pc := 45) (v := 40) dX0_init_45 (by decide) ?_
  refine n_arrF (N' := 40) (pc := 47) (ci := 0) (k := k) (j := 5) (fs := [.ref (a0 n), .ref (a1 (n + 1)), .ref (a2 (n + 2)), .ref (a3 (n + 3)), .ref (a4 (n + 4)), .null, .int 0, .int 0, .int 0, .int 0]) rfl tyX0 tyX0_ok nmX0 ix_X0 (by omega) ((ha4 k (by omega)).trans ((ha3 k (by omega)).trans ((ha2 k (by omega)).trans ((ha1 k (by omega)).trans ((ha0 k (by omega)).trans hx))))) hk4 rfl (by omega) fw_X0_27 rfl rfl (by decide +kernel) (Nat.le_of_ble_eq_true rfl) rfl (by omega) (by omega) (by omega) dX0_init_47 dX0_init_49 (fun a5 c5 ha5 hc5 hk5 hz5 => ?_)
  refine n_aload (pc := 52) dX0_init_52 0 rfl rfl ?_
  refine n_iconst (pc := 53) (v := 0) dX0_init_53 (by decide) ?_
  refine n_put (pc := 54) (ci := 0) (k := k) (j := 6) (fs := [.ref (a0 n), .ref (a1 (n + 1)), .ref (a2 (n + 2)), .ref (a3 (n + 3)), .ref (a4 (n + 4)), .ref (a5 (n + 5)), .int 0, .int 0, .int 0, .int 0]) (ty := .int) tyX0 tyX0_ok nmX0 ix_X0 (by omega) ((ha5 k (by omega)).trans ((ha4 k (by omega)).trans ((ha3 k (by omega)).trans ((ha2 k (by omega)).trans ((ha1 k (by omega)).trans ((ha0 k (by omega)).trans hx)))))) hk5 rfl (by omega) fw_X0_30 rfl (by decide +kernel) rfl rfl (Nat.le_of_ble_eq_true rfl) dX0_init_54 ?_
  refine n_aload (pc := 57) dX0_init_57 0 rfl rfl ?_
  refine n_iconst (pc := 58) (v := 0) dX0_init_58 (by decide) ?_
  refine n_put (pc := 59) (ci := 0) (k := k) (j := 7) (fs := [.ref (a0 n), .ref (a1 (n + 1)), .ref (a2 (n + 2)), .ref (a3 (n + 3)), .ref (a4 (n + 4)), .ref (a5 (n + 5)), .int 0, .int 0, .int 0, .int 0]) (ty := .int) tyX0 tyX0_ok nmX0 ix_X0 (by omega) ((ha5 k (by omega)).trans ((ha4 k (by omega)).trans ((ha3 k (by omega)).trans ((ha2 k (by omega)).trans ((ha1 k (by omega)).trans ((ha0 k (by omega)).trans hx)))))) uc_s rfl (by omega) fw_X0_34 rfl (by decide +kernel) rfl rfl (Nat.le_of_ble_eq_true rfl) dX0_init_59 ?_
  refine n_aload (pc := 62) dX0_init_62 0 rfl rfl ?_
  refine n_iconst (pc := 63) (v := 0) dX0_init_63 (by decide) ?_
  refine n_put (pc := 64) (ci := 0) (k := k) (j := 8) (fs := [.ref (a0 n), .ref (a1 (n + 1)), .ref (a2 (n + 2)), .ref (a3 (n + 3)), .ref (a4 (n + 4)), .ref (a5 (n + 5)), .int 0, .int 0, .int 0, .int 0]) (ty := .int) tyX0 tyX0_ok nmX0 ix_X0 (by omega) ((ha5 k (by omega)).trans ((ha4 k (by omega)).trans ((ha3 k (by omega)).trans ((ha2 k (by omega)).trans ((ha1 k (by omega)).trans ((ha0 k (by omega)).trans hx)))))) uc_s rfl (by omega) fw_X0_37 rfl (by decide +kernel) rfl rfl (Nat.le_of_ble_eq_true rfl) dX0_init_64 ?_
  refine n_aload (pc := 67) dX0_init_67 0 rfl rfl ?_
  refine n_iconst (pc := 68) (v := 0) dX0_init_68 (by decide) ?_
  refine n_put (pc := 69) (ci := 0) (k := k) (j := 9) (fs := [.ref (a0 n), .ref (a1 (n + 1)), .ref (a2 (n + 2)), .ref (a3 (n + 3)), .ref (a4 (n + 4)), .ref (a5 (n + 5)), .int 0, .int 0, .int 0, .int 0]) (ty := .int) tyX0 tyX0_ok nmX0 ix_X0 (by omega) ((ha5 k (by omega)).trans ((ha4 k (by omega)).trans ((ha3 k (by omega)).trans ((ha2 k (by omega)).trans ((ha1 k (by omega)).trans ((ha0 k (by omega)).trans hx)))))) uc_s rfl (by omega) fw_X0_40 rfl (by decide +kernel) rfl rfl (Nat.le_of_ble_eq_true rfl) dX0_init_69 ?_
  have old : ∀ i, i < n → a5 i = a i := fun i hi => by rw [ha5 i (by omega), ha4 i (by omega), ha3 i (by omega), ha2 i (by omega), ha1 i (by omega), ha0 i hi]
  have cu : ∀ i, i ≠ k → uc (uc (uc (uc c5 k (.inr (0, [.ref (a0 n), .ref (a1 (n + 1)), .ref (a2 (n + 2)), .ref (a3 (n + 3)), .ref (a4 (n + 4)), .ref (a5 (n + 5)), .int 0, .int 0, .int 0, .int 0]))) k (.inr (0, [.ref (a0 n), .ref (a1 (n + 1)), .ref (a2 (n + 2)), .ref (a3 (n + 3)), .ref (a4 (n + 4)), .ref (a5 (n + 5)), .int 0, .int 0, .int 0, .int 0]))) k (.inr (0, [.ref (a0 n), .ref (a1 (n + 1)), .ref (a2 (n + 2)), .ref (a3 (n + 3)), .ref (a4 (n + 4)), .ref (a5 (n + 5)), .int 0, .int 0, .int 0, .int 0]))) k (.inr (0, [.ref (a0 n), .ref (a1 (n + 1)), .ref (a2 (n + 2)), .ref (a3 (n + 3)), .ref (a4 (n + 4)), .ref (a5 (n + 5)), .int 0, .int 0, .int 0, .int 0])) i = c5 i := fun i hi => by rw [uc_n hi, uc_n hi, uc_n hi, uc_n hi]
  refine n_vret (pc := 72) hX rfl (by omega) (by omega) ⟨rfl, ⟨old, fun i hi hne => (cu i hne).trans ?_⟩, ?_, fun j hj => (cu _ (by omega)).trans ?_, (cu _ (by omega)).trans hz5⟩ dX0_init_72
  · rw [hc5 i (by omega) hne, hc4 i (by omega) hne, hc3 i (by omega) hne, hc2 i (by omega) hne, hc1 i (by omega) hne, hc0 i hi hne]
  · rw [uc_s]
    unfold bkV
    rw [ha5 n (by omega), ha4 n (by omega), ha3 n (by omega), ha2 n (by omega), ha1 n (by omega), ha5 (n + 1) (by omega), ha4 (n + 1) (by omega), ha3 (n + 1) (by omega), ha2 (n + 1) (by omega), ha5 (n + 2) (by omega), ha4 (n + 2) (by omega), ha3 (n + 2) (by omega), ha5 (n + 3) (by omega), ha4 (n + 3) (by omega), ha5 (n + 4) (by omega)]
    rfl
  · have hj5 : j = 0 ∨ j = 1 ∨ j = 2 ∨ j = 3 ∨ j = 4 := by omega
    rcases hj5 with rfl | rfl | rfl | rfl | rfl
    · rw [Nat.add_zero, hc5 n (by omega) (by omega), hc4 n (by omega) (by omega), hc3 n (by omega) (by omega), hc2 n (by omega) (by omega), hc1 n (by omega) (by omega), hz0]
    · rw [hc5 _ (by omega) (by omega), hc4 _ (by omega) (by omega), hc3 _ (by omega) (by omega), hc2 _ (by omega) (by omega), hz1]
    · rw [hc5 _ (by omega) (by omega), hc4 _ (by omega) (by omega), hc3 _ (by omega) (by omega), hz2]
    · rw [hc5 _ (by omega) (by omega), hc4 _ (by omega) (by omega), hz3]
    · rw [hc5 _ (by omega) (by omega), hz4]
