/-! THE LAW: what is known at its entry; its loop -/
theorem ev_eq {args : Array Value} {s : State} {tm : Term} {z : Int32} (h : (Cond.eq tm (.int z)).before args s = true) : tm.eval args s none [] s = some (.int z) := by
  cases hv : tm.eval args s none [] s with
  | none => simp [Cond.before, Cond.holds, Cond.value, hv] at h
  | some w =>
    have hz : (Term.int z).eval args s none [] s = some (.int z) := rfl
    simp only [Cond.before, Cond.holds, Cond.value, hv, hz] at h
    cases w <;> simp_all
theorem cl_8 : Cond.classLink RL 7 "GlowDebts" ∈ TT := TT_t0 (List.mem_of_getElem? (i := 14) (by decide +kernel)) (by decide +kernel)
theorem st_8 : Cond.instantiable "GlowDebts" 11 ∈ TT := TT_t0 (List.mem_of_getElem? (i := 15) (by decide +kernel)) (by decide +kernel)
theorem im_8 : Cond.instanceMethod yX8_init ∈ TT := TT_t0 (List.mem_of_getElem? (i := 17) (by decide +kernel)) (by decide +kernel)
theorem co_8 : Cond.code yX8_init cX8_init 2 none ∈ TT := TT_t0 (List.mem_of_getElem? (i := 18) (by decide +kernel)) (by decide +kernel)
theorem cl_9 : Cond.classLink RL 10 "GlowDebtsModel" ∈ TT := TT_t3 (List.mem_of_getElem? (i := 57) (by decide +kernel)) (by decide +kernel)
theorem st_9 : Cond.instantiable "GlowDebtsModel" 23 ∈ TT := TT_t3 (List.mem_of_getElem? (i := 58) (by decide +kernel)) (by decide +kernel)
theorem im_9 : Cond.instanceMethod yX9_init ∈ TT := TT_t3 (List.mem_of_getElem? (i := 60) (by decide +kernel)) (by decide +kernel)
theorem co_9 : Cond.code yX9_init cX9_init 2 none ∈ TT := TT_t3 (List.mem_of_getElem? (i := 61) (by decide +kernel)) (by decide +kernel)
theorem tb_26 : Cond.methodLinkNest RX8 20 yX0_init "GlowDebts" ∈ lw_tbl := List.mem_append_right _ (List.mem_append_left _ (List.mem_of_getElem? (i := 26) (by decide +kernel)))
theorem tb_65 : Cond.methodLinkNest RX8 31 yX4_init "GlowDebts" ∈ lw_tbl := List.mem_append_right _ (List.mem_append_left _ (List.mem_of_getElem? (i := 65) (by decide +kernel)))
theorem tb_78 : Cond.methodLinkNest RX8 38 yX1_init "GlowDebts" ∈ lw_tbl := List.mem_append_right _ (List.mem_append_left _ (List.mem_of_getElem? (i := 78) (by decide +kernel)))
theorem tb_is : Cond.methodLinkNest RX1 29 yX8_isPerson "GlowDebts" ∈ lw_tbl := List.mem_append_right _ (List.mem_append_right _ (List.mem_append_right _ (List.mem_append_left _ (List.mem_of_getElem? (i := 95) (by decide +kernel)))))
theorem tb_S : Cond.arrayOver (.object "GlowDebts$Strip") ∈ lw_tbl := List.mem_append_right _ (List.mem_append_left _ (List.mem_of_getElem? (i := 23) (by decide +kernel)))
theorem tb_B : Cond.arrayOver (.object "GlowDebts$Bank") ∈ lw_tbl := List.mem_append_right _ (List.mem_append_left _ (List.mem_of_getElem? (i := 62) (by decide +kernel)))
theorem tb_L : Cond.laysStatic "GlowDebts$Kinds" "LETTERS" "[I" ∈ lw_tbl := List.mem_append_right _ (List.mem_append_right _ (List.mem_append_left _ (List.mem_of_getElem? (i := 19) (by decide +kernel))))
theorem TT_hts {args : Array Value} {s : State} (hts : ∀ w ∈ lw_tbl, w.before args s = true) : ∀ w ∈ TT, w.before args s = true := fun w hw => hts w (List.mem_filter.mp hw).1
theorem law_K {args : Array Value} {s : State} (hts : ∀ w ∈ lw_tbl, w.before args s = true) : ∃ (D : va_G) (cI cB cS : ClassId), va_K D vwCl [(cI, .int), (cB, .object "GlowDebts$Bank"), (cS, .object "GlowDebts$Strip")] s := by
  have hT := TT_hts hts
  obtain ⟨c0, i0, k0⟩ := u_known (C := RX0) (T := TX0) (N := 10) (n := 10) hT ix_X0 (hT _ st_B)
  obtain ⟨c1, i1, k1⟩ := u_known (C := RX1) (T := TX1) (N := 1) (n := 1) hT ix_X1 (hT _ st_C)
  obtain ⟨c2, i2, k2⟩ := u_known (C := RX4) (T := TX4) (N := 2) (n := 2) hT ix_X4 (hT _ st_T)
  obtain ⟨c3, i3, k3⟩ := u_known (C := RX5) (T := TX5) (N := 2) (n := 2) hT ix_X5 (hT _ st_S)
  obtain ⟨c4, i4, k4⟩ := u_known (C := RX8) (T := TX8) (N := 11) (n := 11) hT ix_X8 (hT _ st_8)
  obtain ⟨c5, i5, k5⟩ := u_known (C := RX9) (T := TX9) (N := 23) (n := 23) hT ix_X9 (hT _ st_9)
  obtain ⟨cI, kI, compI, a1, a2, a3⟩ := Cond.arrayClass_spec (hT _ ac_int)
  obtain ⟨compB, cB, kB, b1, -, b3, b4, b5⟩ := Cond.arrayOver_spec (hts _ tb_B)
  obtain ⟨compS, cS, kS, d1, -, d3, d4, d5⟩ := Cond.arrayOver_spec (hts _ tb_S)
  refine ⟨(fun k => if k = 0 then c0 else if k = 1 then c1 else if k = 2 then c2 else if k = 3 then c3 else if k = 4 then c4 else c5, fun k => if k = 0 then i0 else if k = 1 then i1 else if k = 2 then i2 else if k = 3 then i3 else if k = 4 then i4 else i5), cI, cB, cS, ?_, ?_⟩
  · intro k q hq
    match k, hq with
    | 0, hq => cases hq; exact k0
    | 1, hq => cases hq; exact k1
    | 2, hq => cases hq; exact k2
    | 3, hq => cases hq; exact k3
    | 4, hq => cases hq; exact k4
    | 5, hq => cases hq; exact k5
    | k + 6, hq => simp [vwCl] at hq
  · intro k q hq
    match k, hq with
    | 0, hq => cases hq; exact ⟨fun n z => ⟨(fun k h => by cases h), kI, a2, compI, a3⟩, a1⟩
    | 1, hq => cases hq; exact ⟨fun n z => ⟨(fun k h => by cases h), kB, b3, compB, b4⟩, kB, compB, b3, b4, b1, b5⟩
    | 2, hq => cases hq; exact ⟨fun n z => ⟨(fun k h => by cases h), kS, d3, compS, d4⟩, kS, compS, d3, d4, d1, d5⟩
    | k + 3, hq => simp at hq
theorem law_T {b : Addr} {s : State} {A : Nat → Prop} (hts : ∀ w ∈ lw_tbl, w.before #[Value.ref b] s = true) (hgv : (Jvm.Cond.and given_1 narrow_1).before #[Value.ref b] s = true) (hA : ∀ a : Nat, a < s.heap.size → ¬ A a) : ∃ t : Nat, va_Z "GlowDebts$Kinds" "LETTERS" "[I" (.ref t) A s s.heap ∧ va_T .int t 6 letV A s s.heap := by
  have hs := flat_of_before _ hgv
  have harr : (Cond.arrayOf (.static "GlowDebts$Kinds" "LETTERS" "[I") .int).before #[Value.ref b] s = true := hs _ (by decide +kernel)
  have hlen : (Cond.eq (.length (.static "GlowDebts$Kinds" "LETTERS" "[I")) (.int 6)).before #[Value.ref b] s = true := hs _ (by decide +kernel)
  have h0 : (Cond.eq (.elem (.static "GlowDebts$Kinds" "LETTERS" "[I") (.int 0)) (.int 108)).before #[Value.ref b] s = true := hs _ (by decide +kernel)
  have h1 : (Cond.eq (.elem (.static "GlowDebts$Kinds" "LETTERS" "[I") (.int 1)) (.int 106)).before #[Value.ref b] s = true := hs _ (by decide +kernel)
  have h2 : (Cond.eq (.elem (.static "GlowDebts$Kinds" "LETTERS" "[I") (.int 2)) (.int 100)).before #[Value.ref b] s = true := hs _ (by decide +kernel)
  have h3 : (Cond.eq (.elem (.static "GlowDebts$Kinds" "LETTERS" "[I") (.int 3)) (.int 102)).before #[Value.ref b] s = true := hs _ (by decide +kernel)
  have h4 : (Cond.eq (.elem (.static "GlowDebts$Kinds" "LETTERS" "[I") (.int 4)) (.int 111)).before #[Value.ref b] s = true := hs _ (by decide +kernel)
  have h5 : (Cond.eq (.elem (.static "GlowDebts$Kinds" "LETTERS" "[I") (.int 5)) (.int 109)).before #[Value.ref b] s = true := hs _ (by decide +kernel)
  obtain ⟨t, e, hT⟩ := va_Tof (N := 6) (f := letV) (A := A) (by decide) harr (ev_eq hlen) (fun j hj => by
    match j, hj with
    | 0, _ => exact ev_eq h0
    | 1, _ => exact ev_eq h1
    | 2, _ => exact ev_eq h2
    | 3, _ => exact ev_eq h3
    | 4, _ => exact ev_eq h4
    | 5, _ => exact ev_eq h5
    | j + 6, hj => exact absurd hj (by omega)) hA
  exact ⟨t, va_Zref (hts _ tb_L) (TT_hts hts _ in_X2) e hA, hT⟩
theorem law_le {n i : Nat} (hn : n ≤ 384) (hi : i ≤ 384) (h : ¬ nI n - nI 6 < nI i) : i + 6 ≤ n := by
  rcases Nat.lt_or_ge n 6 with q | q
  · exfalso
    apply h
    rw [Int32.lt_iff_toInt_lt, nI_toInt (show i < 2 ^ 31 by omega)]
    have e : (nI n - nI 6).toInt < 0 := by
      match n, q with
      | 0, _ => decide
      | 1, _ => decide
      | 2, _ => decide
      | 3, _ => decide
      | 4, _ => decide
      | 5, _ => decide
      | n + 6, q => exact absurd q (by omega)
    omega
  · rw [pk_sub q, nI_ltI (by omega) (by omega)] at h
    omega
set_option maxRecDepth 100000 in
set_option maxHeartbeats 16000000 in
theorem law_one {E : En} {X : Xt} {b n i : Nat} {f : Nat → Int32} {S : St} (hX : SC X b n f) (hn : n ≤ 384) (hi : i + 6 ≤ n) (h : Rel S) (kk : ∀ S2, Rel S2 → G E X i_law S2 1550 (LL E b i) []) : G E X i_law S 27 (LL E b i) [] := by
  refine g_aload_n (pc := 27) dL_law_27 3 rfl rfl ?_
  refine g_iload_n (pc := 28) dL_law_28 0 rfl rfl ?_
  refine g_sld (pc := 29) hX (by omega) hn dL_law_29 ?_
  refine g_bipush (pc := 30) (v := nI 63) dL_law_30 (by decide) ?_
  refine g_iand (pc := 32) dL_law_32 ?_
  generalize f i &&& nI 63 = w
  rcases tsw0_46 w with c_1 | c_1 | c_1 | c_1 | c_1 | c_1 | c_1 | c_1 | c_1 | c_1 | c_1 | c_1 | c_1 | c_1 | c_1 | c_1 | c_1 | c_1 | c_1 | c_1 | c_1 | c_1 | c_1 | c_1 | c_1 | c_1 | c_1 | c_1 | c_1 | c_1 | c_1 | c_1 | c_1 | c_1 | c_1 | c_1 | c_1 | c_1 | c_1 | c_1 | c_1 | c_1 | c_1 | c_1 | c_1 | c_1 | c_1 | c_1
  · exact g_tsIn (pc := 33) (tgt := 236) dL_law_33 (by rw [c_1]; decide) (by rw [c_1]; decide) (by rw [c_1]; rfl) (by decide) (law_0 hX hn hi h kk)
  · exact g_tsIn (pc := 33) (tgt := 269) dL_law_33 (by rw [c_1]; decide) (by rw [c_1]; decide) (by rw [c_1]; rfl) (by decide) (law_1 hX hn hi h kk)
  · exact g_tsIn (pc := 33) (tgt := 312) dL_law_33 (by rw [c_1]; decide) (by rw [c_1]; decide) (by rw [c_1]; rfl) (by decide) (law_2 hX hn hi h kk)
  · exact g_tsIn (pc := 33) (tgt := 345) dL_law_33 (by rw [c_1]; decide) (by rw [c_1]; decide) (by rw [c_1]; rfl) (by decide) (law_3 hX hn hi h kk)
  · exact g_tsIn (pc := 33) (tgt := 368) dL_law_33 (by rw [c_1]; decide) (by rw [c_1]; decide) (by rw [c_1]; rfl) (by decide) (law_4 hX hn hi h kk)
  · exact g_tsIn (pc := 33) (tgt := 431) dL_law_33 (by rw [c_1]; decide) (by rw [c_1]; decide) (by rw [c_1]; rfl) (by decide) (law_5 hX hn hi h kk)
  · exact g_tsIn (pc := 33) (tgt := 454) dL_law_33 (by rw [c_1]; decide) (by rw [c_1]; decide) (by rw [c_1]; rfl) (by decide) (law_6 hX hn hi h kk)
  · exact g_tsIn (pc := 33) (tgt := 487) dL_law_33 (by rw [c_1]; decide) (by rw [c_1]; decide) (by rw [c_1]; rfl) (by decide) (law_7 hX hn hi h kk)
  · exact g_tsIn (pc := 33) (tgt := 530) dL_law_33 (by rw [c_1]; decide) (by rw [c_1]; decide) (by rw [c_1]; rfl) (by decide) (law_8 hX hn hi h kk)
  · exact g_tsIn (pc := 33) (tgt := 553) dL_law_33 (by rw [c_1]; decide) (by rw [c_1]; decide) (by rw [c_1]; rfl) (by decide) (law_9 hX hn hi h kk)
  · exact g_tsIn (pc := 33) (tgt := 576) dL_law_33 (by rw [c_1]; decide) (by rw [c_1]; decide) (by rw [c_1]; rfl) (by decide) (law_10 hX hn hi h kk)
  · exact g_tsIn (pc := 33) (tgt := 609) dL_law_33 (by rw [c_1]; decide) (by rw [c_1]; decide) (by rw [c_1]; rfl) (by decide) (law_11 hX hn hi h kk)
  · exact g_tsIn (pc := 33) (tgt := 642) dL_law_33 (by rw [c_1]; decide) (by rw [c_1]; decide) (by rw [c_1]; rfl) (by decide) (law_12 hX hn hi h kk)
  · exact g_tsIn (pc := 33) (tgt := 675) dL_law_33 (by rw [c_1]; decide) (by rw [c_1]; decide) (by rw [c_1]; rfl) (by decide) (law_13 hX hn hi h kk)
  · exact g_tsIn (pc := 33) (tgt := 688) dL_law_33 (by rw [c_1]; decide) (by rw [c_1]; decide) (by rw [c_1]; rfl) (by decide) (law_14 hX hn hi h kk)
  · exact g_tsIn (pc := 33) (tgt := 711) dL_law_33 (by rw [c_1]; decide) (by rw [c_1]; decide) (by rw [c_1]; rfl) (by decide) (law_15 hX hn hi h kk)
  · exact g_tsIn (pc := 33) (tgt := 734) dL_law_33 (by rw [c_1]; decide) (by rw [c_1]; decide) (by rw [c_1]; rfl) (by decide) (law_16 hX hn hi h kk)
  · exact g_tsIn (pc := 33) (tgt := 767) dL_law_33 (by rw [c_1]; decide) (by rw [c_1]; decide) (by rw [c_1]; rfl) (by decide) (law_17 hX hn hi h kk)
  · exact g_tsIn (pc := 33) (tgt := 790) dL_law_33 (by rw [c_1]; decide) (by rw [c_1]; decide) (by rw [c_1]; rfl) (by decide) (law_18 hX hn hi h kk)
  · exact g_tsIn (pc := 33) (tgt := 813) dL_law_33 (by rw [c_1]; decide) (by rw [c_1]; decide) (by rw [c_1]; rfl) (by decide) (law_19 hX hn hi h kk)
  · exact g_tsIn (pc := 33) (tgt := 836) dL_law_33 (by rw [c_1]; decide) (by rw [c_1]; decide) (by rw [c_1]; rfl) (by decide) (law_20 hX hn hi h kk)
  · exact g_tsIn (pc := 33) (tgt := 859) dL_law_33 (by rw [c_1]; decide) (by rw [c_1]; decide) (by rw [c_1]; rfl) (by decide) (law_21 hX hn hi h kk)
  · exact g_tsIn (pc := 33) (tgt := 892) dL_law_33 (by rw [c_1]; decide) (by rw [c_1]; decide) (by rw [c_1]; rfl) (by decide) (law_22 hX hn hi h kk)
  · exact g_tsIn (pc := 33) (tgt := 925) dL_law_33 (by rw [c_1]; decide) (by rw [c_1]; decide) (by rw [c_1]; rfl) (by decide) (law_23 hX hn hi h kk)
  · exact g_tsIn (pc := 33) (tgt := 968) dL_law_33 (by rw [c_1]; decide) (by rw [c_1]; decide) (by rw [c_1]; rfl) (by decide) (law_24 hX hn hi h kk)
  · exact g_tsIn (pc := 33) (tgt := 991) dL_law_33 (by rw [c_1]; decide) (by rw [c_1]; decide) (by rw [c_1]; rfl) (by decide) (law_25 hX hn hi h kk)
  · exact g_tsIn (pc := 33) (tgt := 1004) dL_law_33 (by rw [c_1]; decide) (by rw [c_1]; decide) (by rw [c_1]; rfl) (by decide) (law_26 hX hn hi h kk)
  · exact g_tsIn (pc := 33) (tgt := 1027) dL_law_33 (by rw [c_1]; decide) (by rw [c_1]; decide) (by rw [c_1]; rfl) (by decide) (law_27 hX hn hi h kk)
  · exact g_tsIn (pc := 33) (tgt := 1040) dL_law_33 (by rw [c_1]; decide) (by rw [c_1]; decide) (by rw [c_1]; rfl) (by decide) (law_28 hX hn hi h kk)
  · exact g_tsIn (pc := 33) (tgt := 1063) dL_law_33 (by rw [c_1]; decide) (by rw [c_1]; decide) (by rw [c_1]; rfl) (by decide) (law_29 hX hn hi h kk)
  · exact g_tsIn (pc := 33) (tgt := 1086) dL_law_33 (by rw [c_1]; decide) (by rw [c_1]; decide) (by rw [c_1]; rfl) (by decide) (law_30 hX hn hi h kk)
  · exact g_tsIn (pc := 33) (tgt := 1129) dL_law_33 (by rw [c_1]; decide) (by rw [c_1]; decide) (by rw [c_1]; rfl) (by decide) (law_31 hX hn hi h kk)
  · exact g_tsIn (pc := 33) (tgt := 1162) dL_law_33 (by rw [c_1]; decide) (by rw [c_1]; decide) (by rw [c_1]; rfl) (by decide) (law_32 hX hn hi h kk)
  · exact g_tsIn (pc := 33) (tgt := 1195) dL_law_33 (by rw [c_1]; decide) (by rw [c_1]; decide) (by rw [c_1]; rfl) (by decide) (law_33 hX hn hi h kk)
  · exact g_tsIn (pc := 33) (tgt := 1228) dL_law_33 (by rw [c_1]; decide) (by rw [c_1]; decide) (by rw [c_1]; rfl) (by decide) (law_34 hX hn hi h kk)
  · exact g_tsIn (pc := 33) (tgt := 1261) dL_law_33 (by rw [c_1]; decide) (by rw [c_1]; decide) (by rw [c_1]; rfl) (by decide) (law_35 hX hn hi h kk)
  · exact g_tsIn (pc := 33) (tgt := 1294) dL_law_33 (by rw [c_1]; decide) (by rw [c_1]; decide) (by rw [c_1]; rfl) (by decide) (law_36 hX hn hi h kk)
  · exact g_tsIn (pc := 33) (tgt := 1327) dL_law_33 (by rw [c_1]; decide) (by rw [c_1]; decide) (by rw [c_1]; rfl) (by decide) (law_37 hX hn hi h kk)
  · exact g_tsIn (pc := 33) (tgt := 1370) dL_law_33 (by rw [c_1]; decide) (by rw [c_1]; decide) (by rw [c_1]; rfl) (by decide) (law_38 hX hn hi h kk)
  · exact g_tsIn (pc := 33) (tgt := 1403) dL_law_33 (by rw [c_1]; decide) (by rw [c_1]; decide) (by rw [c_1]; rfl) (by decide) (law_39 hX hn hi h kk)
  · exact g_tsIn (pc := 33) (tgt := 1436) dL_law_33 (by rw [c_1]; decide) (by rw [c_1]; decide) (by rw [c_1]; rfl) (by decide) (law_40 hX hn hi h kk)
  · exact g_tsIn (pc := 33) (tgt := 1449) dL_law_33 (by rw [c_1]; decide) (by rw [c_1]; decide) (by rw [c_1]; rfl) (by decide) (law_41 hX hn hi h kk)
  · exact g_tsIn (pc := 33) (tgt := 1463) dL_law_33 (by rw [c_1]; decide) (by rw [c_1]; decide) (by rw [c_1]; rfl) (by decide) (law_42 hX hn hi h kk)
  · exact g_tsIn (pc := 33) (tgt := 1477) dL_law_33 (by rw [c_1]; decide) (by rw [c_1]; decide) (by rw [c_1]; rfl) (by decide) (law_43 hX hn hi h kk)
  · exact g_tsIn (pc := 33) (tgt := 1500) dL_law_33 (by rw [c_1]; decide) (by rw [c_1]; decide) (by rw [c_1]; rfl) (by decide) (law_44 hX hn hi h kk)
  · exact g_tsIn (pc := 33) (tgt := 1513) dL_law_33 (by rw [c_1]; decide) (by rw [c_1]; decide) (by rw [c_1]; rfl) (by decide) (law_45 hX hn hi h kk)
  · exact g_tsIn (pc := 33) (tgt := 1536) dL_law_33 (by rw [c_1]; decide) (by rw [c_1]; decide) (by rw [c_1]; rfl) (by decide) (law_46 hX hn hi h kk)
  · exact g_tsOut (pc := 33) (tgt := 1550) dL_law_33 c_1 (by decide) (kk _ h)
theorem law_loop {E : En} {X : Xt} {b n : Nat} {f : Nat → Int32} (hX : SC X b n f) (hn : n ≤ 384) (hend : ∀ S i, G E X i_law S 1556 (LL E b i) []) : ∀ (m i : Nat) (S : St), n ≤ i + m → i ≤ 384 → Rel S → G E X i_law S 18 (LL E b i) [] := by
  intro m
  induction m with
  | zero =>
    intro i S hm hi h
    refine g_iload_n (pc := 18) dL_law_18 0 rfl rfl ?_
    refine g_aload_n (pc := 19) dL_law_19 3 rfl rfl ?_
    refine g_slen (pc := 20) hX dL_law_20 ?_
    refine g_bipush (pc := 21) (v := nI 6) dL_law_21 (by decide) ?_
    refine g_isub (pc := 23) dL_law_23 ?_
    refine g_icmp_gt (pc := 24) (tgt := 1556) dL_law_24 (by decide) (fun _ => hend _ _) (fun q => ?_)
    have := law_le hn hi q
    omega
  | succ m ih =>
    intro i S hm hi h
    refine g_iload_n (pc := 18) dL_law_18 0 rfl rfl ?_
    refine g_aload_n (pc := 19) dL_law_19 3 rfl rfl ?_
    refine g_slen (pc := 20) hX dL_law_20 ?_
    refine g_bipush (pc := 21) (v := nI 6) dL_law_21 (by decide) ?_
    refine g_isub (pc := 23) dL_law_23 ?_
    refine g_icmp_gt (pc := 24) (tgt := 1556) dL_law_24 (by decide) (fun _ => hend _ _) (fun q => ?_)
    have hq := law_le hn hi q
    refine law_one hX hn hq h (fun S2 h2 => ?_)
    refine g_iinc (pc := 1550) (x := nI i) (v := nI (i + 6)) (L' := LL E b (i + 6)) dL_law_1550 (k := 0) rfl (nI_add i 6) (by decide) rfl ?_
    exact g_goto (pc := 1553) (tgt := 18) dL_law_1553 (by decide) (ih (i + 6) S2 (by omega) (by omega) h2)
