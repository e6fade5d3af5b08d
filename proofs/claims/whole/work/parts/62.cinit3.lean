/-! THE CLASS'S CONSTRUCTOR, whole -/
set_option maxRecDepth 100000 in
set_option maxHeartbeats 16000000 in
theorem c_X8_init (E : En) (a : Nat → Nat) (c : Nat → va_E) (sz x : Nat) (hx : a 0 = x) (hck : c 0 = .inr (4, [.null, .null, .null, .null, .null, .null, .null, .int 0, .int 0, .long 0, .long 0])) : NT E i_X8_init 57 1152 a c 1 sz [.ref x] (fun a' c' n' => n' = 58 ∧ a' 0 = x ∧ fxA E a' c' ∧ fxR E a' c' 6 ∧ fxT E a' c' 4 ∧ fxK E a' c' 3) := by
  refine nt_of [(0, .ref x)] (by decide +kernel) (Nat.le_of_ble_eq_true rfl) rfl (fun X hX => ?_)
  obtain ⟨-, -, hcl, hsl⟩ := id hX
  refine n_aload (pc := 0) dX8_init_0 0 rfl rfl ?_
  refine n_obj (pc := 1) mw_X8_1 dX8_init_1 (by decide) (by decide) ?_
  refine n_aload (pc := 4) dX8_init_4 0 rfl rfl ?_
  refine n_bipush (pc := 5) (v := nI 6) dX8_init_5 (by decide) ?_
  refine n_qSF (pc := 7) (N' := 6) (ci := 4) (k := 0) (j := 0) (fs := [.null, .null, .null, .null, .null, .null, .null, .int 0, .int 0, .long 0, .long 0]) (ty := .array (.object "GlowDebts$Strip")) rfl tyX8 tyX8_ok nmX8 ix_X8 (by omega) hx hck rfl (by omega) cl_S fw_X8_11 rfl rfl (by decide +kernel) (fun _ => rfl) (fun _ => rfl) (Nat.le_of_ble_eq_true rfl) rfl (by omega) (by omega) (by omega) dX8_init_7 dX8_init_10 (fun a1 c1 ha1 hc1 hk1 hz1 => ?_)
  have hx1 : a1 0 = x := (ha1 0 (by omega)).trans hx
  refine n_aload (pc := 13) dX8_init_13 0 rfl rfl ?_
  refine n_iconst (pc := 14) (v := nI 4) dX8_init_14 (by decide) ?_
  refine n_qSF (pc := 15) (N' := 4) (ci := 4) (k := 0) (j := 1) (fs := [.ref (a1 1), .null, .null, .null, .null, .null, .null, .int 0, .int 0, .long 0, .long 0]) (ty := .array (.object "GlowDebts$Strip")) rfl tyX8 tyX8_ok nmX8 ix_X8 (by omega) hx1 hk1 rfl (by omega) cl_S fw_X8_15 rfl rfl (by decide +kernel) (fun _ => rfl) (fun _ => rfl) (Nat.le_of_ble_eq_true rfl) rfl (by omega) (by omega) (by omega) dX8_init_15 dX8_init_18 (fun a2 c2 ha2 hc2 hk2 hz2 => ?_)
  have hx2 : a2 0 = x := (ha2 0 (by omega)).trans hx1
  refine n_aload (pc := 21) dX8_init_21 0 rfl rfl ?_
  refine n_objF (pc := 22) (y := yX0_init) (cc := cX0_init) (ml := 1) (d := 1) (mc := 6) (ms := 80) (C2 := RX0) (T2 := TX0) (N2 := 10) (ci2 := 0) (f2 := [.null, .null, .null, .null, .null, .null, .int 0, .int 0, .int 0, .int 0]) (k := 0) (j := 2) (fs := [.ref (a1 1), .ref (a2 2), .null, .null, .null, .null, .null, .int 0, .int 0, .long 0, .long 0]) (ty := .object "GlowDebts$Bank") (Post := fun n a c a' c' k => c' k = bkV a' n ∧ (∀ j, j < 5 → c' (n + j) = zI E 8) ∧ c' (n + 5) = zI E 40) rfl rfl tyX0 tyX0_ok ix_X0 cl_B st_B in_X0 rfl (fun j hj => by rcases (show j = 0 ∨ j = 1 ∨ j = 2 ∨ j = 3 ∨ j = 4 ∨ j = 5 ∨ j = 6 ∨ j = 7 ∨ j = 8 ∨ j = 9 by omega) with rfl | rfl | rfl | rfl | rfl | rfl | rfl | rfl | rfl | rfl <;> rfl) rfl ⟨by decide +kernel, by decide +kernel, by decide +kernel⟩ co_B in_X0 im_B (fun U h => h.2.2.1) (fun a c n sz k x h1 h2 h3 => c_X0_init E a c n sz k x h1 h2 h3) (Nat.le_refl _) (by omega) (by omega) hx2 hk2 (by omega) fw_X8_21 rfl rfl (by decide +kernel) (fun _ => rfl) (fun _ => rfl) (Nat.le_of_ble_eq_true rfl) (by omega) (by omega) (by decide) dX8_init_22 dX8_init_25 dX8_init_26 dX8_init_29 (fun b3 e3 a3 c3 f3 ha3 hc3 hg3 hk3 hp3 => ?_)
  have hx3 : a3 0 = x := (ha3 0 (by omega)).trans hx2
  refine n_aload (pc := 32) dX8_init_32 0 rfl rfl ?_
  refine n_iconst (pc := 33) (v := nI 3) dX8_init_33 (by decide) ?_
  refine n_qBF (pc := 34) (N' := 3) (ci := 4) (k := 0) (j := 3) (fs := [.ref (a1 1), .ref (a2 2), .ref (a3 3), .null, .null, .null, .null, .int 0, .int 0, .long 0, .long 0]) (ty := .array (.object "GlowDebts$Bank")) rfl tyX8 tyX8_ok nmX8 ix_X8 (by omega) hx3 hk3 rfl (by omega) cl_B fw_X8_25 rfl rfl (by decide +kernel) (fun _ => rfl) (fun _ => rfl) (Nat.le_of_ble_eq_true rfl) rfl (by omega) (by omega) (by omega) dX8_init_34 dX8_init_37 (fun a4 c4 ha4 hc4 hk4 hz4 => ?_)
  have hx4 : a4 0 = x := (ha4 0 (by omega)).trans hx3
  refine n_aload (pc := 40) dX8_init_40 0 rfl rfl ?_
  refine n_objF (pc := 41) (y := yX4_init) (cc := cX4_init) (ml := 1) (d := 1) (mc := 2) (ms := 264) (C2 := RX4) (T2 := TX4) (N2 := 2) (ci2 := 2) (f2 := [.null, .null]) (k := 0) (j := 4) (fs := [.ref (a1 1), .ref (a2 2), .ref (a3 3), .ref (a4 10), .null, .null, .null, .int 0, .int 0, .long 0, .long 0]) (ty := .object "GlowDebts$Sets") (Post := fun n a c a' c' k => c' k = .inr (2, [.ref (a' n), .ref (a' (n + 1))]) ∧ c' n = zI E 8 ∧ c' (n + 1) = zI E 256) rfl rfl tyX4 tyX4_ok ix_X4 cl_T st_T in_X4 rfl (fun j hj => by rcases (show j = 0 ∨ j = 1 by omega) with rfl | rfl <;> rfl) rfl ⟨by decide +kernel, by decide +kernel, by decide +kernel⟩ co_T in_X4 im_T (fun U h => h.2.2.2.1) (fun a c n sz k x h1 h2 h3 => c_X4_init E a c n sz k x h1 h2 h3) (Nat.le_refl _) (by omega) (by omega) hx4 hk4 (by omega) fw_X8_32 rfl rfl (by decide +kernel) (fun _ => rfl) (fun _ => rfl) (Nat.le_of_ble_eq_true rfl) (by omega) (by omega) (by decide) dX8_init_41 dX8_init_44 dX8_init_45 dX8_init_48 (fun b5 e5 a5 c5 f5 ha5 hc5 hg5 hk5 hp5 => ?_)
  have hx5 : a5 0 = x := (ha5 0 (by omega)).trans hx4
  refine n_aload (pc := 51) dX8_init_51 0 rfl rfl ?_
  refine n_objF (pc := 52) (y := yX1_init) (cc := cX1_init) (ml := 1) (d := 1) (mc := 1) (ms := 6) (C2 := RX1) (T2 := TX1) (N2 := 1) (ci2 := 1) (f2 := [.null]) (k := 0) (j := 5) (fs := [.ref (a1 1), .ref (a2 2), .ref (a3 3), .ref (a4 10), .ref (a5 11), .null, .null, .int 0, .int 0, .long 0, .long 0]) (ty := .object "GlowDebts$Chains") (Post := fun n a c a' c' k => c' k = .inr (1, [.ref (a' n)]) ∧ c' n = zI E 6) rfl rfl tyX1 tyX1_ok ix_X1 cl_C st_C in_X1 rfl (fun j hj => by rcases (show j = 0 by omega) with rfl; rfl) rfl ⟨by decide +kernel, by decide +kernel, by decide +kernel⟩ co_C in_X1 im_C (fun U h => h.2.2.2.2) (fun a c n sz k x h1 h2 h3 => c_X1_init E a c n sz k x h1 h2 h3) (Nat.le_refl _) (by omega) (by omega) hx5 hk5 (by omega) fw_X8_39 rfl rfl (by decide +kernel) (fun _ => rfl) (fun _ => rfl) (Nat.le_of_ble_eq_true rfl) (by omega) (by omega) (by decide) dX8_init_52 dX8_init_55 dX8_init_56 dX8_init_59 (fun b6 e6 a6 c6 f6 ha6 hc6 hg6 hk6 hp6 => ?_)
  have hx6 : a6 0 = x := (ha6 0 (by omega)).trans hx5
  refine n_aload (pc := 62) dX8_init_62 0 rfl rfl ?_
  refine n_bipush (pc := 63) (v := nI 6) dX8_init_63 (by decide) ?_
  refine n_arrF (pc := 65) (N' := 6) (ci := 4) (k := 0) (j := 6) (fs := [.ref (a1 1), .ref (a2 2), .ref (a3 3), .ref (a4 10), .ref (a5 11), .ref (a6 14), .null, .int 0, .int 0, .long 0, .long 0]) rfl tyX8 tyX8_ok nmX8 ix_X8 (by omega) hx6 hk6 rfl (by omega) fw_X8_43 rfl rfl (by decide +kernel) (Nat.le_of_ble_eq_true rfl) rfl (by omega) (by omega) (by omega) dX8_init_65 dX8_init_67 (fun a7 c7 ha7 hc7 hk7 hz7 => ?_)
  have hx7 : a7 0 = x := (ha7 0 (by omega)).trans hx6
  refine n_aload (pc := 70) dX8_init_70 0 rfl rfl ?_
  refine n_iconst (pc := 71) (v := 0) dX8_init_71 (by decide) ?_
  refine n_put (pc := 72) (ci := 4) (k := 0) (j := 7) (fs := [.ref (a1 1), .ref (a2 2), .ref (a3 3), .ref (a4 10), .ref (a5 11), .ref (a6 14), .ref (a7 16), .int 0, .int 0, .long 0, .long 0]) (ty := .int) tyX8 tyX8_ok nmX8 ix_X8 (by omega) hx7 hk7 rfl (by omega) fw_X8_47 rfl (by decide +kernel) rfl rfl (Nat.le_of_ble_eq_true rfl) dX8_init_72 ?_
  refine n_aload (pc := 75) dX8_init_75 0 rfl rfl ?_
  refine n_iconst (pc := 76) (v := 0) dX8_init_76 (by decide) ?_
  refine n_put (pc := 77) (ci := 4) (k := 0) (j := 8) (fs := [.ref (a1 1), .ref (a2 2), .ref (a3 3), .ref (a4 10), .ref (a5 11), .ref (a6 14), .ref (a7 16), .int 0, .int 0, .long 0, .long 0]) (ty := .int) tyX8 tyX8_ok nmX8 ix_X8 (by omega) hx7 uc_s rfl (by omega) fw_X8_51 rfl (by decide +kernel) rfl rfl (Nat.le_of_ble_eq_true rfl) dX8_init_77 ?_
  refine n_aload (pc := 80) dX8_init_80 0 rfl rfl ?_
  refine n_lconst (pc := 81) (v := 0) dX8_init_81 (by decide) ?_
  refine n_put (pc := 82) (ci := 4) (k := 0) (j := 9) (fs := [.ref (a1 1), .ref (a2 2), .ref (a3 3), .ref (a4 10), .ref (a5 11), .ref (a6 14), .ref (a7 16), .int 0, .int 0, .long 0, .long 0]) (ty := .long) tyX8 tyX8_ok nmX8 ix_X8 (by omega) hx7 uc_s rfl (by omega) fw_X8_54 rfl (by decide +kernel) rfl rfl (Nat.le_of_ble_eq_true rfl) dX8_init_82 ?_
  refine n_aload (pc := 85) dX8_init_85 0 rfl rfl ?_
  refine n_lconst (pc := 86) (v := 1) dX8_init_86 (by decide) ?_
  refine n_put (pc := 87) (ci := 4) (k := 0) (j := 10) (fs := [.ref (a1 1), .ref (a2 2), .ref (a3 3), .ref (a4 10), .ref (a5 11), .ref (a6 14), .ref (a7 16), .int 0, .int 0, .long 0, .long 0]) (ty := .long) tyX8 tyX8_ok nmX8 ix_X8 (by omega) hx7 uc_s rfl (by omega) fw_X8_58 rfl (by decide +kernel) rfl rfl (Nat.le_of_ble_eq_true rfl) dX8_init_87 ?_
  simp only [uc_uc]
  generalize hd : uc c7 0 (.inr (4, List.set [.ref (a1 1), .ref (a2 2), .ref (a3 3), .ref (a4 10), .ref (a5 11), .ref (a6 14), .ref (a7 16), .int 0, .int 0, .long 0, .long 0] 10 (.long 1))) = d
  have ds : d 0 = .inr (4, [.ref (a1 1), .ref (a2 2), .ref (a3 3), .ref (a4 10), .ref (a5 11), .ref (a6 14), .ref (a7 16), .int 0, .int 0, .long 0, .long 1]) := by rw [← hd, uc_s]; rfl
  have dn : ∀ i, i ≠ 0 → d i = c7 i := fun i hi => by rw [← hd, uc_n hi]
  have r1 : a7 1 = a1 1 := by rw [ha7 1 (by omega), ha6 1 (by omega), ha5 1 (by omega), ha4 1 (by omega), ha3 1 (by omega), ha2 1 (by omega)]
  have r2 : a7 2 = a2 2 := by rw [ha7 2 (by omega), ha6 2 (by omega), ha5 2 (by omega), ha4 2 (by omega), ha3 2 (by omega)]
  have r3 : ∀ i, i < 10 → a7 i = a3 i := fun i hi => by rw [ha7 i (by omega), ha6 i (by omega), ha5 i (by omega), ha4 i (by omega)]
  have r4 : a7 10 = a4 10 := by rw [ha7 10 (by omega), ha6 10 (by omega), ha5 10 (by omega)]
  have r5 : ∀ i, i < 14 → a7 i = a5 i := fun i hi => by rw [ha7 i (by omega), ha6 i (by omega)]
  have r6 : ∀ i, i < 16 → a7 i = a6 i := fun i hi => ha7 i (by omega)
  have k3 : ∀ i, i < 10 → i ≠ 0 → c7 i = c3 i := fun i hi hn => by rw [hc7 i (by omega) hn, hc6 i (by omega) hn, hc5 i (by omega) hn, hc4 i (by omega) hn]
  have k5 : ∀ i, i < 14 → i ≠ 0 → c7 i = c5 i := fun i hi hn => by rw [hc7 i (by omega) hn, hc6 i (by omega) hn]
  have k6 : ∀ i, i < 16 → i ≠ 0 → c7 i = c6 i := fun i hi hn => hc7 i (by omega) hn
  have A : fxA E a7 d := by
    refine ⟨?_, ⟨?_, fun j hj => ?_, ?_⟩, ⟨?_, ?_, ?_⟩, ⟨?_, ?_⟩, ?_⟩
    · rw [ds]
      unfold gdV
      rw [r1, r2, r3 3 (by omega), r4, r5 11 (by omega), r6 14 (by omega)]
    · rw [dn 3 (by omega), k3 3 (by omega) (by omega), hg3 3 (by omega), hp3.1]
      exact (bkV_eq (fun i hi => r3 _ (by omega))).symm
    · rw [dn _ (by omega), k3 _ (by omega) (by omega), hg3 _ (by omega)]; exact hp3.2.1 j hj
    · rw [dn 9 (by omega), k3 9 (by omega) (by omega), hg3 9 (by omega)]; exact hp3.2.2
    · rw [dn 11 (by omega), k5 11 (by omega) (by omega), hg5 11 (by omega), hp5.1, r5 12 (by omega), r5 13 (by omega)]
    · rw [dn 12 (by omega), k5 12 (by omega) (by omega), hg5 12 (by omega)]; exact hp5.2.1
    · rw [dn 13 (by omega), k5 13 (by omega) (by omega), hg5 13 (by omega)]; exact hp5.2.2
    · rw [dn 14 (by omega), k6 14 (by omega) (by omega), hg6 14 (by omega), hp6.1, r6 15 (by omega)]
    · rw [dn 15 (by omega), k6 15 (by omega) (by omega), hg6 15 (by omega)]; exact hp6.2
    · rw [dn 16 (by omega)]; exact hz7
  have Rr : fxR E a7 d 0 := ⟨by rw [dn 1 (by omega), k3 1 (by omega) (by omega), hc3 1 (by omega) (by omega), hc2 1 (by omega) (by omega), hz1]; rfl, fun j hj => absurd hj (by omega)⟩
  have T : fxT E a7 d 0 := ⟨by rw [dn 2 (by omega), k3 2 (by omega) (by omega), hc3 2 (by omega) (by omega), hz2]; rfl, fun j hj => absurd hj (by omega)⟩
  have K : fxK E a7 d 0 := ⟨by rw [dn 10 (by omega), k5 10 (by omega) (by omega), hc5 10 (by omega) (by omega), hz4]; rfl, fun j hj => absurd hj (by omega)⟩
  refine n_iconst (pc := 90) (v := 0) dX8_init_90 (by decide) ?_
  refine n_istore (pc := 91) (L' := [(1, .int 0), (0, .ref x)]) dX8_init_91 rfl (by decide) rfl ?_
  refine x8_rows (kc := 16) (ks := 382) (by omega) (by omega) (fun a c hx hA hR hT hK => ?_) 0 (by omega) a7 d hx7 A Rr T K
  refine n_iconst (pc := 122) (v := 0) dX8_init_122 (by decide) ?_
  refine n_istore (pc := 123) (L' := [(1, .int 0), (0, .ref x)]) dX8_init_123 rfl (by decide) rfl ?_
  refine x8_texts (kc := 28) (ks := 634) (by omega) (by omega) (fun a c hx hA hT hR hK => ?_) 0 (by omega) a c hx hA hT hR hK
  refine n_iconst (pc := 154) (v := 0) dX8_init_154 (by decide) ?_
  refine n_istore (pc := 155) (L' := [(1, .int 0), (0, .ref x)]) dX8_init_155 rfl (by decide) rfl ?_
  refine x8_keeps (kc := 36) (ks := 882) (by omega) (by omega) (fun a c hx hA hR hT hK => ?_) 0 (by omega) a c hx hA hR hT hK
  exact n_vret (pc := 184) hX rfl rfl rfl ⟨rfl, hx, hA, hR, hT, hK⟩ dX8_init_184
