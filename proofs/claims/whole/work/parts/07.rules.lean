section GF
variable {E : En} {X : Xt} {I : Ym} {S : St} {pc : Nat} {L : List (Nat × Value)} {st : List Value}
theorem kd_lt {k c : Nat} (h : kd k = c) (hc : c ≠ 99) : k < 72 := by
  rcases Nat.lt_or_ge k 72 with q | q
  · exact q
  · exfalso
    apply hc
    rw [← h]
    unfold kd
    rw [List.getD_eq_getElem?_getD, List.getElem?_eq_none (by exact q)]
    rfl
theorem cell_sI (E : En) (S : St) {k j : Nat} (v : Int32) {i : Nat} (h : i ≠ k) : cell E (sI S k j v) i = cell E S i := by
  have e : ∀ b, gI (sI S k j v) i b = gI S i b := fun b => gI_ne (fun q => h q.1)
  unfold cell
  simp only [e, gL_sI, gA_sI]
theorem cell_sL (E : En) (S : St) {k j : Nat} (v : Int64) {i : Nat} (h : i ≠ k) : cell E (sL S k j v) i = cell E S i := by
  have e : ∀ b, gL (sL S k j v) i b = gL S i b := fun b => by rw [gL_sL, if_neg (fun q => h q.1)]
  unfold cell
  simp only [e, gI_sL, gA_sL]
theorem cell_sA (E : En) (S : St) {k : Nat} (f : Nat → Int32) {i : Nat} (h : i ≠ k) : cell E (sA S k f) i = cell E S i := by
  unfold cell
  simp only [gI_sA, gL_sA, gA_ne h]
theorem cell_0 (E : En) (S : St) {k : Nat} (h : kd k = 0) : cell E S k = .inr (0, [.ref (eA E (34 + 6 * (k - 30))), .ref (eA E (34 + 6 * (k - 30) + 1)), .ref (eA E (34 + 6 * (k - 30) + 2)), .ref (eA E (34 + 6 * (k - 30) + 3)), .ref (eA E (34 + 6 * (k - 30) + 4)), .ref (eA E (34 + 6 * (k - 30) + 5)), .int (gI S k 6), .int (gI S k 7), .int (gI S k 8), .int (gI S k 9)]) := by unfold cell; rw [h]; rfl
theorem cell_3 (E : En) (S : St) {k : Nat} (h : kd k = 3) : cell E S k = .inr (3, [.ref (eA E (k + 10)), .int (gI S k 1)]) := by unfold cell; rw [h]; rfl
theorem cell_6 (E : En) (S : St) {k : Nat} (h : kd k = 6) : cell E S k = .inl (eI E, ln k, .inl (gA S k)) := by unfold cell; rw [h]; rfl
theorem cell_4 (E : En) (S : St) : cell E S 0 = .inr (4, [.ref (eA E 1), .ref (eA E 2), .ref (eA E 30), .ref (eA E 3), .ref (eA E 5), .ref (eA E 8), .ref (eA E 4), .int (gI S 0 7), .int (gI S 0 8), .long (gL S 0 9), .long (gL S 0 10)]) := rfl
theorem cell_5 (E : En) (S : St) : cell E S 58 = .inr (5, [.ref (eA E 59), .ref (eA E 60), .ref (eA E 61), .ref (eA E 62), .ref (eA E 63), .int (gI S 58 5), .ref (eA E 64), .int (gI S 58 7), .long (gL S 58 8), .long (gL S 58 9), .ref (eA E 65), .int (gI S 58 11), .int (gI S 58 12), .int (gI S 58 13), .int (gI S 58 14), .int (gI S 58 15), .ref (eA E 66), .ref (eA E 67), .ref (eA E 68), .ref (eA E 69), .ref (eA E 70), .ref (eA E 71), .long (gL S 58 22)]) := rfl
theorem cell_1 (E : En) (S : St) : cell E S 8 = .inr (1, [.ref (eA E 9)]) := rfl
theorem cell_2 (E : En) (S : St) : cell E S 5 = .inr (2, [.ref (eA E 6), .ref (eA E 7)]) := rfl
theorem rcv_X8 : rcv E S "GlowDebts" 0 := ⟨by omega, 4, _, _, cell_4 E S, rfl, rfl⟩
theorem rcv_X9 : rcv E S "GlowDebtsModel" 58 := ⟨by omega, 5, _, _, cell_5 E S, rfl, rfl⟩
theorem rcv_X4 : rcv E S "GlowDebts$Sets" 5 := ⟨by omega, 2, _, _, cell_2 E S, rfl, rfl⟩
theorem rcv_X1 : rcv E S "GlowDebts$Chains" 8 := ⟨by omega, 1, _, _, cell_1 E S, rfl, rfl⟩
theorem rcv_X0 {k : Nat} (h : kd k = 0) : rcv E S "GlowDebts$Bank" k := ⟨kd_lt h (by omega), 0, _, _, cell_0 E S h, rfl, rfl⟩
theorem rcv_X5 {k : Nat} (h : kd k = 3) : rcv E S "GlowDebts$Strip" k := ⟨kd_lt h (by omega), 3, _, _, cell_3 E S h, rfl, rfl⟩
theorem g_get {k ci j N idx : Nat} {C : String} {T : u_T} {fs : List Value} {v : Value} (hc : cell E S k = .inr (ci, fs)) (hk : k < 72) (hcl : vwCl[ci]? = some (C, T, N)) (hix : ∀ w ∈ u_ws C T N, w ∈ TT) (hj : j < N) (hw : Cond.fieldLink I.1.cls idx (T j).1 (T j).2.1 (T j).2.2.1 ∈ TT) (hv : fs[j]? = some v) (hd : decode I.2.1 pc = .ok (.getfield idx, 3)) (kk : G E X I S (pc + 3) L (v :: st)) : G E X I S pc L (.ref (eA E k) :: st) :=
  fun Y H locs ls hP hS hl => va_get Y.1 Y.2.1 Y.2.2.2.2.1 hix Y.2.2.2.1 Y.2.2.2.2.2.1.1 hP k ((wd_get hk).trans (by rw [hc])) hcl j hj (Y.2.2.2.2.1 _ hw) (fun _ h => h) hv hd (kk Y H locs ls hP hS hl)
theorem g_put {S' : St} {k ci j N idx : Nat} {C : String} {T : u_T} {fs : List Value} {v : Value} {ty : FieldType} (ty0 : Nat → FieldType) (hty : ∀ k, k < N → parseFieldDescriptor (T k).2.2.1 = some (ty0 k)) (hnm : ∀ a, a < N → ∀ b, b < N → a ≠ b → (T a).2.1 ≠ (T b).2.1) (hc : cell E S k = .inr (ci, fs)) (hc' : cell E S' k = .inr (ci, fs.set j v)) (ho : ∀ i, i < 72 → i ≠ k → cell E S' i = cell E S i) (hk : k < 72) (hcl : vwCl[ci]? = some (C, T, N)) (hix : ∀ w ∈ u_ws C T N, w ∈ TT) (hj : j < N) (hw : Cond.fieldLink I.1.cls idx (T j).1 (T j).2.1 (T j).2.2.1 ∈ TT) (hfin : (T j).2.2.2 = false) (htd : parseFieldDescriptor (T j).2.2.1 = some ty) (hn : narrow ty v = v) (hfit : fits ty v = true) (hl2 : j < fs.length) (hd : decode I.2.1 pc = .ok (.putfield idx, 3)) (kk : G E X I S' (pc + 3) L st) : G E X I S pc L (v :: .ref (eA E k) :: st) :=
  fun Y H locs ls hP hS hl => va_put Y.1 Y.2.1 Y.2.2.2.2.1 hix ty0 hty hnm Y.2.2.2.1 Y.2.2.2.2.2.1.1 hP (wd_D Y.2.2.2.2.2.1.2.2.2 Y.2.2.2.2.2.2.1) hS k ((wd_get hk).trans (by rw [hc])) hcl j hj (Y.2.2.2.2.1 _ hw) (fun _ h => h) hfin htd hn hfit hl2 hd (fun H1 locs1 hP1 _ hS1 => kk Y H1 locs1 ls (by rw [← hc', wd_set hk ho] at hP1; exact hP1) hS1 hl)
/-- a place of a row of ints is read -/
theorem g_iald (n : Nat) {k : Nat} {i : Int32} (hi : i = nI n) (hk : kd k = 6) (hn : n < ln k) (hb : ln k < 2 ^ 31) (hd : decode I.2.1 pc = .ok (.iaload, 1)) (kk : G E X I S (pc + 1) L (.int (gA S k n) :: st)) : G E X I S pc L (.int i :: .ref (eA E k) :: st) := by
  subst hi
  have hc : (nI n).toNatClampNeg = n := nI_clamp (by omega)
  intro Y H locs ls hP hS hl
  refine va_iald Y.1 Y.2.1 Y.2.2.2.2.2.1.1 hP k 0 ((wd_get (kd_lt hk (by omega))).trans (by rw [cell_6 E S hk])) rfl (vp_in_nI hn hb) hd ?_
  rw [hc]
  exact kk Y H locs ls hP hS hl
theorem g_iast (n : Nat) {k : Nat} {i x : Int32} (hi : i = nI n) (hk : kd k = 6) (hn : n < ln k) (hb : ln k < 2 ^ 31) (hd : decode I.2.1 pc = .ok (.iastore, 1)) (kk : G E X I (sA S k (upd (gA S k) n x)) (pc + 1) L st) : G E X I S pc L (.int x :: .int i :: .ref (eA E k) :: st) := by
  subst hi
  have hc : (nI n).toNatClampNeg = n := nI_clamp (by omega)
  have hk1 := kd_lt hk (by omega)
  intro Y H locs ls hP hS hl
  refine va_iast Y.1 Y.2.1 Y.2.2.2.2.2.1.1 hP (wd_D Y.2.2.2.2.2.1.2.2.2 Y.2.2.2.2.2.2.1) hS k 0 ((wd_get hk1).trans (by rw [cell_6 E S hk])) rfl (vp_in_nI hn hb) hd (fun H1 locs1 hP1 _ hS1 => kk Y H1 locs1 ls ?_ hS1 hl)
  have e := cell_6 E (sA S k (upd (gA S k) n x)) hk
  rw [gA_same] at e
  rw [hc, ← e, wd_set hk1 (fun i _ hne => cell_sA E S _ hne)] at hP1
  exact hP1
theorem g_alen {k : Nat} {v : Int32} (hk : kd k = 6) (hv : Int32.ofNat (ln k) = v) (hd : decode I.2.1 pc = .ok (.arraylength, 1)) (kk : G E X I S (pc + 1) L (.int v :: st)) : G E X I S pc L (.ref (eA E k) :: st) :=
  fun Y H locs ls hP hS hl => va_alen Y.1 Y.2.1 Y.2.2.2.2.2.1.1 hP k 0 ((wd_get (kd_lt hk (by omega))).trans (by rw [cell_6 E S hk])) rfl hv hd (kk Y H locs ls hP hS hl)
theorem g_alenS {k : Nat} {v : Int32} (hk : k = 1 ∨ k = 2) (hv : Int32.ofNat (ln k) = v) (hd : decode I.2.1 pc = .ok (.arraylength, 1)) (kk : G E X I S (pc + 1) L (.int v :: st)) : G E X I S pc L (.ref (eA E k) :: st) := by
  rcases hk with rfl | rfl
  · exact fun Y H locs ls hP hS hl => va_alen Y.1 Y.2.1 Y.2.2.2.2.2.1.1 hP 1 2 (wd_get (by omega)) rfl hv hd (kk Y H locs ls hP hS hl)
  · exact fun Y H locs ls hP hS hl => va_alen Y.1 Y.2.1 Y.2.2.2.2.2.1.1 hP 2 2 (wd_get (by omega)) rfl hv hd (kk Y H locs ls hP hS hl)
theorem g_alenB (hd : decode I.2.1 pc = .ok (.arraylength, 1)) (kk : G E X I S (pc + 1) L (.int 3 :: st)) : G E X I S pc L (.ref (eA E 3) :: st) :=
  fun Y H locs ls hP hS hl => va_alen Y.1 Y.2.1 Y.2.2.2.2.2.1.1 hP 3 1 (wd_get (by omega)) rfl rfl hd (kk Y H locs ls hP hS hl)
theorem g_aald1 (n : Nat) {i : Int32} (hi : i = nI n) (hn : n < 6) (hd : decode I.2.1 pc = .ok (.aaload, 1)) (kk : G E X I S (pc + 1) L (.ref (eA E (10 + n)) :: st)) : G E X I S pc L (.int i :: .ref (eA E 1) :: st) := by
  subst hi
  have hc : (nI n).toNatClampNeg = n := nI_clamp (by omega)
  intro Y H locs ls hP hS hl
  refine va_aldq Y.1 Y.2.1 Y.2.2.2.2.2.1.1 hP 1 2 (wd_get (by omega)) rfl (vp_in_nI (N := 6) hn (by omega)) hd ?_
  rw [hc]
  have e : (if n < ln 1 then some (eA E (if (1 : Nat) = 1 then 10 + n else 16 + n)) else none) = some (eA E (10 + n)) := by rw [if_pos (show n < ln 1 from hn), if_pos rfl]
  show Wx E X H locs (F0 _ _ _ (va_rf (if n < ln 1 then some (eA E (if (1 : Nat) = 1 then 10 + n else 16 + n)) else none) :: st))
  rw [e]
  exact kk Y H locs ls hP hS hl
theorem g_aald2 (n : Nat) {i : Int32} (hi : i = nI n) (hn : n < 4) (hd : decode I.2.1 pc = .ok (.aaload, 1)) (kk : G E X I S (pc + 1) L (.ref (eA E (16 + n)) :: st)) : G E X I S pc L (.int i :: .ref (eA E 2) :: st) := by
  subst hi
  have hc : (nI n).toNatClampNeg = n := nI_clamp (by omega)
  intro Y H locs ls hP hS hl
  refine va_aldq Y.1 Y.2.1 Y.2.2.2.2.2.1.1 hP 2 2 (wd_get (by omega)) rfl (vp_in_nI (N := 4) hn (by omega)) hd ?_
  rw [hc]
  have e : (if n < ln 2 then some (eA E (if (2 : Nat) = 1 then 10 + n else 16 + n)) else none) = some (eA E (16 + n)) := by rw [if_pos (show n < ln 2 from hn), if_neg (by omega)]
  show Wx E X H locs (F0 _ _ _ (va_rf (if n < ln 2 then some (eA E (if (2 : Nat) = 1 then 10 + n else 16 + n)) else none) :: st))
  rw [e]
  exact kk Y H locs ls hP hS hl
theorem g_aald3 (n : Nat) {i : Int32} (hi : i = nI n) (hn : n < 3) (hd : decode I.2.1 pc = .ok (.aaload, 1)) (kk : G E X I S (pc + 1) L (.ref (eA E (31 + n)) :: st)) : G E X I S pc L (.int i :: .ref (eA E 3) :: st) := by
  subst hi
  have hc : (nI n).toNatClampNeg = n := nI_clamp (by omega)
  intro Y H locs ls hP hS hl
  refine va_aldq Y.1 Y.2.1 Y.2.2.2.2.2.1.1 hP 3 1 (wd_get (by omega)) rfl (vp_in_nI (N := 3) hn (by omega)) hd ?_
  rw [hc]
  have e : (if n < 3 then some (eA E (31 + n)) else none) = some (eA E (31 + n)) := if_pos hn
  show Wx E X H locs (F0 _ _ _ (va_rf (if n < 3 then some (eA E (31 + n)) else none) :: st))
  rw [e]
  exact kk Y H locs ls hP hS hl
theorem g_letters (ho : I.1.cls = RX2) (hd : decode I.2.1 pc = .ok (.getstatic 9, 3)) (kk : G E X I S (pc + 3) L (.ref (eT E) :: st)) : G E X I S pc L st :=
  fun Y H locs ls hP hS hl => va_gets Y.1 Y.2.1 Y.2.2.2.2.2.1.2.2.1.1 hS Y.2.2.2.1 (Y.2.2.2.2.1 _ (ho ▸ fw_X2_9)) (fun _ h => h) hd (kk Y H locs ls hP hS hl)
theorem g_tlen (hd : decode I.2.1 pc = .ok (.arraylength, 1)) (kk : G E X I S (pc + 1) L (.int 6 :: st)) : G E X I S pc L (.ref (eT E) :: st) :=
  fun Y H locs ls hP hS hl => va_tlen Y.1 Y.2.1 Y.2.2.2.2.2.1.2.2.1.2 hS rfl hd (kk Y H locs ls hP hS hl)
theorem g_tald (n : Nat) {i : Int32} (hi : i = nI n) (hn : n < 6) (hd : decode I.2.1 pc = .ok (.iaload, 1)) (kk : G E X I S (pc + 1) L (letV n :: st)) : G E X I S pc L (.int i :: .ref (eT E) :: st) := by
  subst hi
  have hc : (nI n).toNatClampNeg = n := nI_clamp (by omega)
  exact fun Y H locs ls hP hS hl => va_ti Y.1 Y.2.1 Y.2.2.2.2.2.1.2.2.1.2 hS (vp_in_nI hn (by omega)) (by rw [hc]) hd (kk Y H locs ls hP hS hl)
theorem g_max {idx : Nat} {x y : Int32} (hw : Cond.methodLink I.1.cls idx Lib.Math.max.name ∈ TT) (hd : decode I.2.1 pc = .ok (.invokestatic idx, 3)) (h1 : 1 ≤ I.2.2.2.2) (h2 : (st.map fun v => v.category).sum + 13 ≤ 37) (kk : G E X I S (pc + 3) L (.int (if x < y then y else x) :: st)) : G E X I S pc L (.int y :: .int x :: st) :=
  fun Y H locs ls hP hS hl => va_mmax Y.1 Y.2.1 (Y.2.2.1.trans hl.1.symm) Y.2.2.2.1 (Y.2.2.2.2.1 _ hw) (Y.2.2.2.2.1 _ lw_max_s) (Y.2.2.2.2.1 _ in_J9) (Y.2.2.2.2.1 _ lw_max_c) (by have := Y.2.2.2.2.2.2.2.2.1.1; omega) (by have := Y.2.2.2.2.2.2.2.2.1.2; omega) Y.2.2.2.2.2.2.2.2.2.1 Y.2.2.2.2.2.2.2.2.2.2 hd (kk Y H locs ls hP hS hl)
theorem g_min {idx : Nat} {x y : Int32} (hw : Cond.methodLink I.1.cls idx Lib.Math.min.name ∈ TT) (hd : decode I.2.1 pc = .ok (.invokestatic idx, 3)) (h1 : 1 ≤ I.2.2.2.2) (h2 : (st.map fun v => v.category).sum + 13 ≤ 37) (kk : G E X I S (pc + 3) L (.int (if y < x then y else x) :: st)) : G E X I S pc L (.int y :: .int x :: st) :=
  fun Y H locs ls hP hS hl => va_mmin Y.1 Y.2.1 (Y.2.2.1.trans hl.1.symm) Y.2.2.2.1 (Y.2.2.2.2.1 _ hw) (Y.2.2.2.2.1 _ lw_min_s) (Y.2.2.2.2.1 _ in_J9) (Y.2.2.2.2.1 _ lw_min_c) (by have := Y.2.2.2.2.2.2.2.2.1.1; omega) (by have := Y.2.2.2.2.2.2.2.2.1.2; omega) Y.2.2.2.2.2.2.2.2.2.1 Y.2.2.2.2.2.2.2.2.2.2 hd (kk Y H locs ls hP hS hl)
theorem g_abs {idx : Nat} {x : Int32} (hw : Cond.methodLink I.1.cls idx Lib.Math.abs.name ∈ TT) (hd : decode I.2.1 pc = .ok (.invokestatic idx, 3)) (h1 : 1 ≤ I.2.2.2.2) (h2 : (st.map fun v => v.category).sum + 13 ≤ 37) (kk : G E X I S (pc + 3) L (.int (if 0 ≤ x then x else 0 - x) :: st)) : G E X I S pc L (.int x :: st) :=
  fun Y H locs ls hP hS hl => va_mabs Y.1 Y.2.1 (Y.2.2.1.trans hl.1.symm) Y.2.2.2.1 (Y.2.2.2.2.1 _ hw) (Y.2.2.2.2.1 _ lw_abs_s) (Y.2.2.2.2.1 _ in_J9) (Y.2.2.2.2.1 _ lw_abs_c) (by have := Y.2.2.2.2.2.2.2.2.1.1; omega) (by have := Y.2.2.2.2.2.2.2.2.1.2; omega) Y.2.2.2.2.2.2.2.2.2.1 Y.2.2.2.2.2.2.2.2.2.2 hd (kk Y H locs ls hP hS hl)
/-- System.arraycopy between rows of ints (one and the same, too) -/
theorem g_copy (a b z : Nat) {idx k0 k1 : Nat} {sp dp n : Int32} (hw : Cond.methodLink I.1.cls idx arraycopyName ∈ TT) (ha : sp = nI a) (hb : dp = nI b) (hz : n = nI z) (hk0 : kd k0 = 6) (hk1 : kd k1 = 6) (h4 : a + z ≤ ln k0) (h5 : b + z ≤ ln k1) (hb0 : ln k0 < 2 ^ 31) (hb1 : ln k1 < 2 ^ 31) (hd : decode I.2.1 pc = .ok (.invokestatic idx, 3)) (h1 : 1 ≤ I.2.2.2.2) (h2 : (st.map fun v => v.category).sum + 18 ≤ 37)
    (kk : G E X I (sA S k1 (va_cpy (gA S k0) (gA S k1) a b z)) (pc + 3) L st) : G E X I S pc L (.int n :: .int dp :: .ref (eA E k1) :: .int sp :: .ref (eA E k0) :: st) := by
  subst ha; subst hb; subst hz
  have c1 : (nI a).toNatClampNeg = a := nI_clamp (by omega)
  have c2 : (nI b).toNatClampNeg = b := nI_clamp (by omega)
  have c3 : (nI z).toNatClampNeg = z := nI_clamp (by omega)
  have q0 := kd_lt hk0 (by omega)
  have q1 := kd_lt hk1 (by omega)
  intro Y H locs ls hP hS hl
  refine va_copyi Y.1 Y.2.1 (Y.2.2.1.trans hl.1.symm) Y.2.2.2.1 (Y.2.2.2.2.1 _ hw) (Y.2.2.2.2.1 _ lw_copy_n) (Y.2.2.2.2.1 _ lw_copy_s) (Y.2.2.2.2.1 _ in_J10) Y.2.2.2.2.2.1.1 hP (wd_D Y.2.2.2.2.2.1.2.2.2 Y.2.2.2.2.2.2.1) hS k0 k1 0 0 (ty := .int) ((wd_get q0).trans (by rw [cell_6 E S hk0])) ((wd_get q1).trans (by rw [cell_6 E S hk1])) rfl rfl rfl (nI_pos (by omega)) (nI_pos (by omega)) (nI_pos (by omega)) (by rw [c1, c3]; exact h4) (by rw [c2, c3]; exact h5) (fun _ _ => rfl) (by have := Y.2.2.2.2.2.2.2.2.1.1; omega) ?_ hd (fun H1 locs1 hP1 _ hS1 => kk Y H1 locs1 ls ?_ hS1 hl)
  · have := Y.2.2.2.2.2.2.2.2.1.2
    have e : nativeFrameWords "java/lang/System" "arraycopy" 5 = 7 := by decide +kernel
    rw [e]
    omega
  · have e := cell_6 E (sA S k1 (va_cpy (gA S k0) (gA S k1) a b z)) hk1
    rw [gA_same] at e
    rw [c1, c2, c3, ← e, wd_set q1 (fun i _ hne => cell_sA E S _ hne)] at hP1
    exact hP1
/-- the one call of a private method of another class: Chains asks isPerson -/
theorem g_nest {As L2 : List Value} {Post : St → Option Value → Prop} (ho : I.1.cls = RX1) (hd : decode I.2.1 pc = .ok (.invokestatic 29, 3)) (hn : As.length = 1) (hc : CT E i_X8_isPerson S As Post) (hdep : i_X8_isPerson.2.2.2.2 + 1 ≤ I.2.2.2.2) (hst : st = As.reverse ++ L2) (hrest : (L2.map fun v => v.category).sum ≤ 8)
    (kk : ∀ (S' : St) (r : Option Value), Post S' r → G E X I S' (pc + 3) L (r.toList ++ L2)) : G E X I S pc L st := by
  intro Y H locs ls hP hS hl
  obtain ⟨hx, hb, hml, hown, hts, hK, hA, hlk, ⟨hf, hlo⟩, hcc, hss⟩ := id Y
  obtain ⟨hJ1, hJ2⟩ := j_X8_isPerson
  have hAD := AD_A hA
  have hpg : ∀ w ∈ wsD i_X8_isPerson, w ∈ TT ∧ ((w.onTables && w.keeps) = true ∨ ∃ ty, w = .arrayClass ty) := by
    intro w hw
    rcases List.mem_cons.mp hw with rfl | hw
    · exact hJ2 _ (by simp)
    · exact TT_ok w hw
  have cb := va_cnB (R := xR X) (s := xs X) (args := xa X) (own := I.1.cls) (host := "GlowDebts") (index := 29) (y := yX8_isPerson) (rm := rmD i_X8_isPerson.2.2.2.2) (mc := 0) (ms := 0) 1 hts hpg rfl rfl rfl (by rw [ho]; exact hK.2.1) (hts _ (hJ2 _ (by simp)).1) hJ1 ⟨by show i_X8_isPerson.2.2.2.2 + 1 ≤ _; omega, by show 8 + (1 + 11) + 37 * i_X8_isPerson.2.2.2.2 ≤ _; omega⟩
  have hrun := va_runSN (y := yX8_isPerson) (l := eN E) (e := xe X) (below := xb X) (meth := xM X) (locs := locs) (cells := xk X) (slots := xn X) (rest := L2) (g := F0 (xm X) pc ls st) (nL := I.2.2.1) (H := H) (Ts := TT) ⟨hx, hb, hml, hown, hts⟩ hc ⟨cb, hts _ (hJ2 _ (by simp)).1, trivial⟩
    ⟨fun a U g mk z => ⟨z.1, z.2.1, Kn_blind a g mk z.2.2⟩, fun U hU hW => ⟨rfl, by rw [hU]; exact hP, Kn_call hK hAD hS hU hW⟩⟩
    rfl hn hl.1 hst (lv_room hrest) hd ⟨by omega, by omega⟩
  exact g_runB hrun hS hAD (fun S' r H1 locs1 hp hP1 hS1 => kk S' r hp Y H1 locs1 ls hP1 hS1 hl)
/-- the calls, told exactly: an answer, or none -/
theorem g_invV {J : Ym} {n idx : Nat} {k : Nat} {As L2 : List Value} {S1 : St} {v : Value} (hJ : JV J n) (hm : Cond.methodLink I.1.cls idx J.1 ∈ TT) (hd : decode I.2.1 pc = .ok (.invokevirtual idx, 3)) (hk : rcv E S J.1.cls k) (hn : As.length = n) (hc : CTe E J S (.ref (eA E k) :: As) S1 (some v)) (hdep : J.2.2.2.2 + 1 ≤ I.2.2.2.2) (hnl : J.2.2.1 ≤ 18) (hst : st = As.reverse ++ .ref (eA E k) :: L2) (hrest : (L2.map fun v => v.category).sum ≤ 8) (kk : G E X I S1 (pc + 3) L (v :: L2)) : G E X I S pc L st :=
  g_invR hJ hm hd hk hn hc hdep hnl hst hrest (fun S' r h => by obtain ⟨rfl, rfl⟩ := h; exact kk)
theorem g_invN {J : Ym} {n idx : Nat} {k : Nat} {As L2 : List Value} {S1 : St} (hJ : JV J n) (hm : Cond.methodLink I.1.cls idx J.1 ∈ TT) (hd : decode I.2.1 pc = .ok (.invokevirtual idx, 3)) (hk : rcv E S J.1.cls k) (hn : As.length = n) (hc : CTe E J S (.ref (eA E k) :: As) S1 none) (hdep : J.2.2.2.2 + 1 ≤ I.2.2.2.2) (hnl : J.2.2.1 ≤ 18) (hst : st = As.reverse ++ .ref (eA E k) :: L2) (hrest : (L2.map fun v => v.category).sum ≤ 8) (kk : G E X I S1 (pc + 3) L L2) : G E X I S pc L st :=
  g_invR hJ hm hd hk hn hc hdep hnl hst hrest (fun S' r h => by obtain ⟨rfl, rfl⟩ := h; exact kk)
theorem g_invS {J : Ym} {n idx : Nat} {As L2 : List Value} {S1 : St} {v : Value} (hJ : JS J n) (hm : Cond.methodLink I.1.cls idx J.1 ∈ TT) (hd : decode I.2.1 pc = .ok (.invokestatic idx, 3)) (hn : As.length = n) (hc : CTe E J S As S1 (some v)) (hdep : J.2.2.2.2 + 1 ≤ I.2.2.2.2) (hnl : J.2.2.1 ≤ 18) (hst : st = As.reverse ++ L2) (hrest : (L2.map fun v => v.category).sum ≤ 8) (kk : G E X I S1 (pc + 3) L (v :: L2)) : G E X I S pc L st :=
  g_invSR hJ hm hd hn hc hdep hnl hst hrest (fun S' r h => by obtain ⟨rfl, rfl⟩ := h; exact kk)
theorem g_invSN {J : Ym} {n idx : Nat} {As L2 : List Value} {S1 : St} (hJ : JS J n) (hm : Cond.methodLink I.1.cls idx J.1 ∈ TT) (hd : decode I.2.1 pc = .ok (.invokestatic idx, 3)) (hn : As.length = n) (hc : CTe E J S As S1 none) (hdep : J.2.2.2.2 + 1 ≤ I.2.2.2.2) (hnl : J.2.2.1 ≤ 18) (hst : st = As.reverse ++ L2) (hrest : (L2.map fun v => v.category).sum ≤ 8) (kk : G E X I S1 (pc + 3) L L2) : G E X I S pc L st :=
  g_invSR hJ hm hd hn hc hdep hnl hst hrest (fun S' r h => by obtain ⟨rfl, rfl⟩ := h; exact kk)
/-- what a method's end needs of where it stands -/
def MX (E : En) (X : Xt) (I : Ym) (Post : St → Option Value → Prop) : Prop := xQ X = MQ (xb X) (Qg E Post) (xa X) (xs X) 0 0 (AD E) ∧ xA X = AD E ∧ (xM X).sig.returnType = I.2.2.2.1 ∧ xk X = 0 ∧ xn X = 0
theorem ct_of {args : List Value} {Post : St → Option Value → Prop} (L : List (Nat × Value)) (hy : plainName I.1.cls = true) (hlen : (lg_sl args).length ≤ I.2.2.1) (hL : lv_args 0 args = L) (hg : ∀ X, MX E X I Post → G E X I S 0 L []) : CT E I S args Post := by
  refine Met.ofW (cc := I.2.1) (maxL := I.2.2.1) (ret := I.2.2.2.1) hy rfl ?_
  intro p e s m as below meth c s₁ B hml hv
  obtain ⟨rfl, hP, hK⟩ := hv
  have hown : s.vm.findClass I.1.cls = some m.cls := findClass_of_methodNamed B.named
  have hts := atoms_spec (ws := wsD I) B.pre
  have hl := lv_entry args (n := I.2.2.1) hlen
  rw [lg_entry_eq]
  generalize (lg_sl args ++ List.replicate (I.2.2.1 - (lg_sl args).length) Slot.unset).toArray = ls at hl ⊢
  rw [hL] at hl
  exact hg ((p, e, rmD I.2.2.2.2, s), (m, args.toArray, below, meth, c), (0, 0), AD E, MQ below (Qg E Post) args.toArray s 0 0 (AD E)) ⟨rfl, rfl, B.returns, rfl, rfl⟩
    ⟨B.exec, B.bytes, hml, hown, fun w hw => hts w (List.mem_cons_of_mem _ hw), hK, fun k hk => ⟨k, hk, rfl⟩, B.notSynchronized, ⟨Nat.le_refl _, Nat.le_refl _⟩, Nat.zero_le _, Nat.zero_le _⟩ s.heap [] ls hP va_S.rf hl
theorem g_post {H : Heap} {locs : List Loc} {Post : St → Option Value → Prop} (hM : MX E X I Post) (hP : va_P (eD E) vwCl (wd E S) H) (hS : va_S (xA X) (xs X).heap H locs) {r : Option Value} (hp : Post S r) : (∀ t : State, t.heap = H → (xs X).WarmedH t.vm → Qg E Post (xa X) (xs X) (.returned r) t) ∧ (∀ q ∈ locs, AD E q.base) := by
  rw [hM.2.1] at hS
  exact ⟨fun t ht hW => ⟨⟨S, r, rfl, hp, by rw [ht]; exact hP⟩, hS.F ht⟩, hS.2.2⟩
theorem g_iret {Post : St → Option Value → Prop} {v : Int32} {ty : FieldType} (hM : MX E X I Post) (hr : I.2.2.2.1 = some ty) (hn : narrow ty (.int v) = .int v) (hp : Post S (some (.int v))) (hd : decode I.2.1 pc = .ok (.ireturn, 1)) : G E X I S pc L [.int v] := by
  intro Y H locs ls hP hS hl
  obtain ⟨h1, h2⟩ := g_post hM hP hS hp
  show W _ _ _ _ _ _ _ _ _ _ _ _ _ _ (xQ X) _
  rw [hM.1, hM.2.2.2.1, hM.2.2.2.2]
  exact W.zret (v := v) (ty := ty) Y.1 Y.2.1 (hM.2.2.1.trans hr) hn h1 h2 hd (hlocks := Y.2.2.2.2.2.2.2.1)
theorem g_lret {Post : St → Option Value → Prop} {v : Int64} (hM : MX E X I Post) (hr : I.2.2.2.1 = some .long) (hp : Post S (some (.long v))) (hd : decode I.2.1 pc = .ok (.lreturn, 1)) : G E X I S pc L [.long v] := by
  intro Y H locs ls hP hS hl
  obtain ⟨h1, h2⟩ := g_post hM hP hS hp
  show W _ _ _ _ _ _ _ _ _ _ _ _ _ _ (xQ X) _
  rw [hM.1, hM.2.2.2.1, hM.2.2.2.2]
  exact W.lret (v := v) Y.1 Y.2.1 (hM.2.2.1.trans hr) h1 h2 hd (hlocks := Y.2.2.2.2.2.2.2.1)
theorem g_vret {Post : St → Option Value → Prop} (hM : MX E X I Post) (hr : I.2.2.2.1 = none) (hp : Post S none) (hd : decode I.2.1 pc = .ok (.return_, 1)) : G E X I S pc L [] := by
  intro Y H locs ls hP hS hl
  obtain ⟨h1, h2⟩ := g_post hM hP hS hp
  show W _ _ _ _ _ _ _ _ _ _ _ _ _ _ (xQ X) _
  rw [hM.1, hM.2.2.2.1, hM.2.2.2.2]
  exact W.vret Y.1 Y.2.1 (hM.2.2.1.trans hr) h1 h2 hd (hlocks := Y.2.2.2.2.2.2.2.1)
theorem g_aret {Post : St → Option Value → Prop} {v : Value} {C : String} (hM : MX E X I Post) (hr : I.2.2.2.1 = some (.object C)) (hv : v = .null ∨ ∃ a, v = .ref a) (hp : Post S (some v)) (hd : decode I.2.1 pc = .ok (.areturn, 1)) : G E X I S pc L [v] := by
  intro Y H locs ls hP hS hl
  obtain ⟨h1, h2⟩ := g_post hM hP hS hp
  show W _ _ _ _ _ _ _ _ _ _ _ _ _ _ (xQ X) _
  rw [hM.1, hM.2.2.2.1, hM.2.2.2.2]
  exact W.aret (v := v) Y.1 Y.2.1 (hM.2.2.1.trans hr) (Or.inl ⟨C, rfl⟩) hv h1 h2 hd (hlocks := Y.2.2.2.2.2.2.2.1)
theorem pf_X8_47 {x : Int32} (ho : I.1.cls = RX8) (hd : decode I.2.1 pc = .ok (.putfield 47, 3)) (kk : G E X I (sI S 0 7 x) (pc + 3) L st) : G E X I S pc L (.int x :: .ref (eA E 0) :: st) := by
  have e := (cell_4 E (sI S 0 7 x))
  simp only [gI_sI, gL_sI, gI_sL, gL_sL] at e
  exact g_put (k := 0) (j := 7) (ty := .int) tyX8 tyX8_ok nmX8 (cell_4 E S) (e.trans (by simp)) (fun i _ hne => cell_sI E S _ hne) (by omega) rfl ix_X8 (by omega) (ho ▸ fw_X8_47) rfl (by decide +kernel) rfl rfl (by show 7 < 11; omega) hd kk
theorem pf_X8_51 {x : Int32} (ho : I.1.cls = RX8) (hd : decode I.2.1 pc = .ok (.putfield 51, 3)) (kk : G E X I (sI S 0 8 x) (pc + 3) L st) : G E X I S pc L (.int x :: .ref (eA E 0) :: st) := by
  have e := (cell_4 E (sI S 0 8 x))
  simp only [gI_sI, gL_sI, gI_sL, gL_sL] at e
  exact g_put (k := 0) (j := 8) (ty := .int) tyX8 tyX8_ok nmX8 (cell_4 E S) (e.trans (by simp)) (fun i _ hne => cell_sI E S _ hne) (by omega) rfl ix_X8 (by omega) (ho ▸ fw_X8_51) rfl (by decide +kernel) rfl rfl (by show 8 < 11; omega) hd kk
theorem pf_X8_54 {x : Int64} (ho : I.1.cls = RX8) (hd : decode I.2.1 pc = .ok (.putfield 54, 3)) (kk : G E X I (sL S 0 9 x) (pc + 3) L st) : G E X I S pc L (.long x :: .ref (eA E 0) :: st) := by
  have e := (cell_4 E (sL S 0 9 x))
  simp only [gI_sI, gL_sI, gI_sL, gL_sL] at e
  exact g_put (k := 0) (j := 9) (ty := .long) tyX8 tyX8_ok nmX8 (cell_4 E S) (e.trans (by simp)) (fun i _ hne => cell_sL E S _ hne) (by omega) rfl ix_X8 (by omega) (ho ▸ fw_X8_54) rfl (by decide +kernel) rfl rfl (by show 9 < 11; omega) hd kk
theorem pf_X8_58 {x : Int64} (ho : I.1.cls = RX8) (hd : decode I.2.1 pc = .ok (.putfield 58, 3)) (kk : G E X I (sL S 0 10 x) (pc + 3) L st) : G E X I S pc L (.long x :: .ref (eA E 0) :: st) := by
  have e := (cell_4 E (sL S 0 10 x))
  simp only [gI_sI, gL_sI, gI_sL, gL_sL] at e
  exact g_put (k := 0) (j := 10) (ty := .long) tyX8 tyX8_ok nmX8 (cell_4 E S) (e.trans (by simp)) (fun i _ hne => cell_sL E S _ hne) (by omega) rfl ix_X8 (by omega) (ho ▸ fw_X8_58) rfl (by decide +kernel) rfl rfl (by show 10 < 11; omega) hd kk
theorem gf_X8_11 (ho : I.1.cls = RX8) (hd : decode I.2.1 pc = .ok (.getfield 11, 3)) (kk : G E X I S (pc + 3) L (.ref (eA E 1) :: st)) : G E X I S pc L (.ref (eA E 0) :: st) := g_get (k := 0) (j := 0) (cell_4 E S) (by omega) rfl ix_X8 (by omega) (ho ▸ fw_X8_11) rfl hd kk
theorem gf_X8_15 (ho : I.1.cls = RX8) (hd : decode I.2.1 pc = .ok (.getfield 15, 3)) (kk : G E X I S (pc + 3) L (.ref (eA E 2) :: st)) : G E X I S pc L (.ref (eA E 0) :: st) := g_get (k := 0) (j := 1) (cell_4 E S) (by omega) rfl ix_X8 (by omega) (ho ▸ fw_X8_15) rfl hd kk
theorem gf_X8_25 (ho : I.1.cls = RX8) (hd : decode I.2.1 pc = .ok (.getfield 25, 3)) (kk : G E X I S (pc + 3) L (.ref (eA E 3) :: st)) : G E X I S pc L (.ref (eA E 0) :: st) := g_get (k := 0) (j := 3) (cell_4 E S) (by omega) rfl ix_X8 (by omega) (ho ▸ fw_X8_25) rfl hd kk
theorem gf_X8_21 (ho : I.1.cls = RX8) (hd : decode I.2.1 pc = .ok (.getfield 21, 3)) (kk : G E X I S (pc + 3) L (.ref (eA E 30) :: st)) : G E X I S pc L (.ref (eA E 0) :: st) := g_get (k := 0) (j := 2) (cell_4 E S) (by omega) rfl ix_X8 (by omega) (ho ▸ fw_X8_21) rfl hd kk
theorem gf_X8_32 (ho : I.1.cls = RX8) (hd : decode I.2.1 pc = .ok (.getfield 32, 3)) (kk : G E X I S (pc + 3) L (.ref (eA E 5) :: st)) : G E X I S pc L (.ref (eA E 0) :: st) := g_get (k := 0) (j := 4) (cell_4 E S) (by omega) rfl ix_X8 (by omega) (ho ▸ fw_X8_32) rfl hd kk
theorem gf_X8_39 (ho : I.1.cls = RX8) (hd : decode I.2.1 pc = .ok (.getfield 39, 3)) (kk : G E X I S (pc + 3) L (.ref (eA E 8) :: st)) : G E X I S pc L (.ref (eA E 0) :: st) := g_get (k := 0) (j := 5) (cell_4 E S) (by omega) rfl ix_X8 (by omega) (ho ▸ fw_X8_39) rfl hd kk
theorem gf_X8_51 (ho : I.1.cls = RX8) (hd : decode I.2.1 pc = .ok (.getfield 51, 3)) (kk : G E X I S (pc + 3) L (.int (gI S 0 8) :: st)) : G E X I S pc L (.ref (eA E 0) :: st) := g_get (k := 0) (j := 8) (cell_4 E S) (by omega) rfl ix_X8 (by omega) (ho ▸ fw_X8_51) rfl hd kk
theorem gf_X8_54 (ho : I.1.cls = RX8) (hd : decode I.2.1 pc = .ok (.getfield 54, 3)) (kk : G E X I S (pc + 3) L (.long (gL S 0 9) :: st)) : G E X I S pc L (.ref (eA E 0) :: st) := g_get (k := 0) (j := 9) (cell_4 E S) (by omega) rfl ix_X8 (by omega) (ho ▸ fw_X8_54) rfl hd kk
theorem gf_X8_58 (ho : I.1.cls = RX8) (hd : decode I.2.1 pc = .ok (.getfield 58, 3)) (kk : G E X I S (pc + 3) L (.long (gL S 0 10) :: st)) : G E X I S pc L (.ref (eA E 0) :: st) := g_get (k := 0) (j := 10) (cell_4 E S) (by omega) rfl ix_X8 (by omega) (ho ▸ fw_X8_58) rfl hd kk
theorem gf_X8_47 (ho : I.1.cls = RX8) (hd : decode I.2.1 pc = .ok (.getfield 47, 3)) (kk : G E X I S (pc + 3) L (.int (gI S 0 7) :: st)) : G E X I S pc L (.ref (eA E 0) :: st) := g_get (k := 0) (j := 7) (cell_4 E S) (by omega) rfl ix_X8 (by omega) (ho ▸ fw_X8_47) rfl hd kk
theorem gf_X8_43 (ho : I.1.cls = RX8) (hd : decode I.2.1 pc = .ok (.getfield 43, 3)) (kk : G E X I S (pc + 3) L (.ref (eA E 4) :: st)) : G E X I S pc L (.ref (eA E 0) :: st) := g_get (k := 0) (j := 6) (cell_4 E S) (by omega) rfl ix_X8 (by omega) (ho ▸ fw_X8_43) rfl hd kk
theorem pf_X9_28 {x : Int64} (ho : I.1.cls = RX9) (hd : decode I.2.1 pc = .ok (.putfield 28, 3)) (kk : G E X I (sL S 58 9 x) (pc + 3) L st) : G E X I S pc L (.long x :: .ref (eA E 58) :: st) := by
  have e := (cell_5 E (sL S 58 9 x))
  simp only [gI_sI, gL_sI, gI_sL, gL_sL] at e
  exact g_put (k := 58) (j := 9) (ty := .long) tyX9 tyX9_ok nmX9 (cell_5 E S) (e.trans (by simp)) (fun i _ hne => cell_sL E S _ hne) (by omega) rfl ix_X9 (by omega) (ho ▸ fw_X9_28) rfl (by decide +kernel) rfl rfl (by show 9 < 23; omega) hd kk
theorem gf_X9_13 (ho : I.1.cls = RX9) (hd : decode I.2.1 pc = .ok (.getfield 13, 3)) (kk : G E X I S (pc + 3) L (.ref (eA E 60) :: st)) : G E X I S pc L (.ref (eA E 58) :: st) := g_get (k := 58) (j := 1) (cell_5 E S) (by omega) rfl ix_X9 (by omega) (ho ▸ fw_X9_13) rfl hd kk
theorem gf_X9_19 (ho : I.1.cls = RX9) (hd : decode I.2.1 pc = .ok (.getfield 19, 3)) (kk : G E X I S (pc + 3) L (.ref (eA E 62) :: st)) : G E X I S pc L (.ref (eA E 58) :: st) := g_get (k := 58) (j := 3) (cell_5 E S) (by omega) rfl ix_X9 (by omega) (ho ▸ fw_X9_19) rfl hd kk
theorem pf_X9_53 {x : Int32} (ho : I.1.cls = RX9) (hd : decode I.2.1 pc = .ok (.putfield 53, 3)) (kk : G E X I (sI S 58 5 x) (pc + 3) L st) : G E X I S pc L (.int x :: .ref (eA E 58) :: st) := by
  have e := (cell_5 E (sI S 58 5 x))
  simp only [gI_sI, gL_sI, gI_sL, gL_sL] at e
  exact g_put (k := 58) (j := 5) (ty := .int) tyX9 tyX9_ok nmX9 (cell_5 E S) (e.trans (by simp)) (fun i _ hne => cell_sI E S _ hne) (by omega) rfl ix_X9 (by omega) (ho ▸ fw_X9_53) rfl (by decide +kernel) rfl rfl (by show 5 < 23; omega) hd kk
theorem gf_X9_25 (ho : I.1.cls = RX9) (hd : decode I.2.1 pc = .ok (.getfield 25, 3)) (kk : G E X I S (pc + 3) L (.ref (eA E 64) :: st)) : G E X I S pc L (.ref (eA E 58) :: st) := g_get (k := 58) (j := 6) (cell_5 E S) (by omega) rfl ix_X9 (by omega) (ho ▸ fw_X9_25) rfl hd kk
theorem pf_X9_57 {x : Int32} (ho : I.1.cls = RX9) (hd : decode I.2.1 pc = .ok (.putfield 57, 3)) (kk : G E X I (sI S 58 7 x) (pc + 3) L st) : G E X I S pc L (.int x :: .ref (eA E 58) :: st) := by
  have e := (cell_5 E (sI S 58 7 x))
  simp only [gI_sI, gL_sI, gI_sL, gL_sL] at e
  exact g_put (k := 58) (j := 7) (ty := .int) tyX9 tyX9_ok nmX9 (cell_5 E S) (e.trans (by simp)) (fun i _ hne => cell_sI E S _ hne) (by omega) rfl ix_X9 (by omega) (ho ▸ fw_X9_57) rfl (by decide +kernel) rfl rfl (by show 7 < 23; omega) hd kk
theorem gf_X9_7 (ho : I.1.cls = RX9) (hd : decode I.2.1 pc = .ok (.getfield 7, 3)) (kk : G E X I S (pc + 3) L (.ref (eA E 59) :: st)) : G E X I S pc L (.ref (eA E 58) :: st) := g_get (k := 58) (j := 0) (cell_5 E S) (by omega) rfl ix_X9 (by omega) (ho ▸ fw_X9_7) rfl hd kk
theorem gf_X9_16 (ho : I.1.cls = RX9) (hd : decode I.2.1 pc = .ok (.getfield 16, 3)) (kk : G E X I S (pc + 3) L (.ref (eA E 61) :: st)) : G E X I S pc L (.ref (eA E 58) :: st) := g_get (k := 58) (j := 2) (cell_5 E S) (by omega) rfl ix_X9 (by omega) (ho ▸ fw_X9_16) rfl hd kk
theorem gf_X9_32 (ho : I.1.cls = RX9) (hd : decode I.2.1 pc = .ok (.getfield 32, 3)) (kk : G E X I S (pc + 3) L (.ref (eA E 65) :: st)) : G E X I S pc L (.ref (eA E 58) :: st) := g_get (k := 58) (j := 10) (cell_5 E S) (by omega) rfl ix_X9 (by omega) (ho ▸ fw_X9_32) rfl hd kk
theorem gf_X9_22 (ho : I.1.cls = RX9) (hd : decode I.2.1 pc = .ok (.getfield 22, 3)) (kk : G E X I S (pc + 3) L (.ref (eA E 63) :: st)) : G E X I S pc L (.ref (eA E 58) :: st) := g_get (k := 58) (j := 4) (cell_5 E S) (by omega) rfl ix_X9 (by omega) (ho ▸ fw_X9_22) rfl hd kk
theorem gf_X9_83 (ho : I.1.cls = RX9) (hd : decode I.2.1 pc = .ok (.getfield 83, 3)) (kk : G E X I S (pc + 3) L (.int (gI S 58 12) :: st)) : G E X I S pc L (.ref (eA E 58) :: st) := g_get (k := 58) (j := 12) (cell_5 E S) (by omega) rfl ix_X9 (by omega) (ho ▸ fw_X9_83) rfl hd kk
theorem gf_X9_86 (ho : I.1.cls = RX9) (hd : decode I.2.1 pc = .ok (.getfield 86, 3)) (kk : G E X I S (pc + 3) L (.int (gI S 58 13) :: st)) : G E X I S pc L (.ref (eA E 58) :: st) := g_get (k := 58) (j := 13) (cell_5 E S) (by omega) rfl ix_X9 (by omega) (ho ▸ fw_X9_86) rfl hd kk
theorem gf_X9_89 (ho : I.1.cls = RX9) (hd : decode I.2.1 pc = .ok (.getfield 89, 3)) (kk : G E X I S (pc + 3) L (.int (gI S 58 11) :: st)) : G E X I S pc L (.ref (eA E 58) :: st) := g_get (k := 58) (j := 11) (cell_5 E S) (by omega) rfl ix_X9 (by omega) (ho ▸ fw_X9_89) rfl hd kk
theorem pf_X9_96 {x : Int32} (ho : I.1.cls = RX9) (hd : decode I.2.1 pc = .ok (.putfield 96, 3)) (kk : G E X I (sI S 58 14 x) (pc + 3) L st) : G E X I S pc L (.int x :: .ref (eA E 58) :: st) := by
  have e := (cell_5 E (sI S 58 14 x))
  simp only [gI_sI, gL_sI, gI_sL, gL_sL] at e
  exact g_put (k := 58) (j := 14) (ty := .int) tyX9 tyX9_ok nmX9 (cell_5 E S) (e.trans (by simp)) (fun i _ hne => cell_sI E S _ hne) (by omega) rfl ix_X9 (by omega) (ho ▸ fw_X9_96) rfl (by decide +kernel) rfl rfl (by show 14 < 23; omega) hd kk
theorem pf_X9_83 {x : Int32} (ho : I.1.cls = RX9) (hd : decode I.2.1 pc = .ok (.putfield 83, 3)) (kk : G E X I (sI S 58 12 x) (pc + 3) L st) : G E X I S pc L (.int x :: .ref (eA E 58) :: st) := by
  have e := (cell_5 E (sI S 58 12 x))
  simp only [gI_sI, gL_sI, gI_sL, gL_sL] at e
  exact g_put (k := 58) (j := 12) (ty := .int) tyX9 tyX9_ok nmX9 (cell_5 E S) (e.trans (by simp)) (fun i _ hne => cell_sI E S _ hne) (by omega) rfl ix_X9 (by omega) (ho ▸ fw_X9_83) rfl (by decide +kernel) rfl rfl (by show 12 < 23; omega) hd kk
theorem gf_X9_102 (ho : I.1.cls = RX9) (hd : decode I.2.1 pc = .ok (.getfield 102, 3)) (kk : G E X I S (pc + 3) L (.int (gI S 58 15) :: st)) : G E X I S pc L (.ref (eA E 58) :: st) := g_get (k := 58) (j := 15) (cell_5 E S) (by omega) rfl ix_X9 (by omega) (ho ▸ fw_X9_102) rfl hd kk
theorem gf_X9_35 (ho : I.1.cls = RX9) (hd : decode I.2.1 pc = .ok (.getfield 35, 3)) (kk : G E X I S (pc + 3) L (.ref (eA E 66) :: st)) : G E X I S pc L (.ref (eA E 58) :: st) := g_get (k := 58) (j := 16) (cell_5 E S) (by omega) rfl ix_X9 (by omega) (ho ▸ fw_X9_35) rfl hd kk
theorem gf_X9_96 (ho : I.1.cls = RX9) (hd : decode I.2.1 pc = .ok (.getfield 96, 3)) (kk : G E X I S (pc + 3) L (.int (gI S 58 14) :: st)) : G E X I S pc L (.ref (eA E 58) :: st) := g_get (k := 58) (j := 14) (cell_5 E S) (by omega) rfl ix_X9 (by omega) (ho ▸ fw_X9_96) rfl hd kk
theorem pf_X9_102 {x : Int32} (ho : I.1.cls = RX9) (hd : decode I.2.1 pc = .ok (.putfield 102, 3)) (kk : G E X I (sI S 58 15 x) (pc + 3) L st) : G E X I S pc L (.int x :: .ref (eA E 58) :: st) := by
  have e := (cell_5 E (sI S 58 15 x))
  simp only [gI_sI, gL_sI, gI_sL, gL_sL] at e
  exact g_put (k := 58) (j := 15) (ty := .int) tyX9 tyX9_ok nmX9 (cell_5 E S) (e.trans (by simp)) (fun i _ hne => cell_sI E S _ hne) (by omega) rfl ix_X9 (by omega) (ho ▸ fw_X9_102) rfl (by decide +kernel) rfl rfl (by show 15 < 23; omega) hd kk
theorem pf_X9_89 {x : Int32} (ho : I.1.cls = RX9) (hd : decode I.2.1 pc = .ok (.putfield 89, 3)) (kk : G E X I (sI S 58 11 x) (pc + 3) L st) : G E X I S pc L (.int x :: .ref (eA E 58) :: st) := by
  have e := (cell_5 E (sI S 58 11 x))
  simp only [gI_sI, gL_sI, gI_sL, gL_sL] at e
  exact g_put (k := 58) (j := 11) (ty := .int) tyX9 tyX9_ok nmX9 (cell_5 E S) (e.trans (by simp)) (fun i _ hne => cell_sI E S _ hne) (by omega) rfl ix_X9 (by omega) (ho ▸ fw_X9_89) rfl (by decide +kernel) rfl rfl (by show 11 < 23; omega) hd kk
theorem pf_X9_86 {x : Int32} (ho : I.1.cls = RX9) (hd : decode I.2.1 pc = .ok (.putfield 86, 3)) (kk : G E X I (sI S 58 13 x) (pc + 3) L st) : G E X I S pc L (.int x :: .ref (eA E 58) :: st) := by
  have e := (cell_5 E (sI S 58 13 x))
  simp only [gI_sI, gL_sI, gI_sL, gL_sL] at e
  exact g_put (k := 58) (j := 13) (ty := .int) tyX9 tyX9_ok nmX9 (cell_5 E S) (e.trans (by simp)) (fun i _ hne => cell_sI E S _ hne) (by omega) rfl ix_X9 (by omega) (ho ▸ fw_X9_86) rfl (by decide +kernel) rfl rfl (by show 13 < 23; omega) hd kk
theorem gf_X9_38 (ho : I.1.cls = RX9) (hd : decode I.2.1 pc = .ok (.getfield 38, 3)) (kk : G E X I S (pc + 3) L (.ref (eA E 67) :: st)) : G E X I S pc L (.ref (eA E 58) :: st) := g_get (k := 58) (j := 17) (cell_5 E S) (by omega) rfl ix_X9 (by omega) (ho ▸ fw_X9_38) rfl hd kk
theorem gf_X9_41 (ho : I.1.cls = RX9) (hd : decode I.2.1 pc = .ok (.getfield 41, 3)) (kk : G E X I S (pc + 3) L (.ref (eA E 68) :: st)) : G E X I S pc L (.ref (eA E 58) :: st) := g_get (k := 58) (j := 18) (cell_5 E S) (by omega) rfl ix_X9 (by omega) (ho ▸ fw_X9_41) rfl hd kk
theorem gf_X9_44 (ho : I.1.cls = RX9) (hd : decode I.2.1 pc = .ok (.getfield 44, 3)) (kk : G E X I S (pc + 3) L (.ref (eA E 69) :: st)) : G E X I S pc L (.ref (eA E 58) :: st) := g_get (k := 58) (j := 19) (cell_5 E S) (by omega) rfl ix_X9 (by omega) (ho ▸ fw_X9_44) rfl hd kk
theorem gf_X9_47 (ho : I.1.cls = RX9) (hd : decode I.2.1 pc = .ok (.getfield 47, 3)) (kk : G E X I S (pc + 3) L (.ref (eA E 70) :: st)) : G E X I S pc L (.ref (eA E 58) :: st) := g_get (k := 58) (j := 20) (cell_5 E S) (by omega) rfl ix_X9 (by omega) (ho ▸ fw_X9_47) rfl hd kk
theorem gf_X9_50 (ho : I.1.cls = RX9) (hd : decode I.2.1 pc = .ok (.getfield 50, 3)) (kk : G E X I S (pc + 3) L (.ref (eA E 71) :: st)) : G E X I S pc L (.ref (eA E 58) :: st) := g_get (k := 58) (j := 21) (cell_5 E S) (by omega) rfl ix_X9 (by omega) (ho ▸ fw_X9_50) rfl hd kk
theorem pf_X9_223 {x : Int64} (ho : I.1.cls = RX9) (hd : decode I.2.1 pc = .ok (.putfield 223, 3)) (kk : G E X I (sL S 58 8 x) (pc + 3) L st) : G E X I S pc L (.long x :: .ref (eA E 58) :: st) := by
  have e := (cell_5 E (sL S 58 8 x))
  simp only [gI_sI, gL_sI, gI_sL, gL_sL] at e
  exact g_put (k := 58) (j := 8) (ty := .long) tyX9 tyX9_ok nmX9 (cell_5 E S) (e.trans (by simp)) (fun i _ hne => cell_sL E S _ hne) (by omega) rfl ix_X9 (by omega) (ho ▸ fw_X9_223) rfl (by decide +kernel) rfl rfl (by show 8 < 23; omega) hd kk
theorem gf_X9_57 (ho : I.1.cls = RX9) (hd : decode I.2.1 pc = .ok (.getfield 57, 3)) (kk : G E X I S (pc + 3) L (.int (gI S 58 7) :: st)) : G E X I S pc L (.ref (eA E 58) :: st) := g_get (k := 58) (j := 7) (cell_5 E S) (by omega) rfl ix_X9 (by omega) (ho ▸ fw_X9_57) rfl hd kk
theorem gf_X9_223 (ho : I.1.cls = RX9) (hd : decode I.2.1 pc = .ok (.getfield 223, 3)) (kk : G E X I S (pc + 3) L (.long (gL S 58 8) :: st)) : G E X I S pc L (.ref (eA E 58) :: st) := g_get (k := 58) (j := 8) (cell_5 E S) (by omega) rfl ix_X9 (by omega) (ho ▸ fw_X9_223) rfl hd kk
theorem gf_X9_28 (ho : I.1.cls = RX9) (hd : decode I.2.1 pc = .ok (.getfield 28, 3)) (kk : G E X I S (pc + 3) L (.long (gL S 58 9) :: st)) : G E X I S pc L (.ref (eA E 58) :: st) := g_get (k := 58) (j := 9) (cell_5 E S) (by omega) rfl ix_X9 (by omega) (ho ▸ fw_X9_28) rfl hd kk
theorem gf_X9_53 (ho : I.1.cls = RX9) (hd : decode I.2.1 pc = .ok (.getfield 53, 3)) (kk : G E X I S (pc + 3) L (.int (gI S 58 5) :: st)) : G E X I S pc L (.ref (eA E 58) :: st) := g_get (k := 58) (j := 5) (cell_5 E S) (by omega) rfl ix_X9 (by omega) (ho ▸ fw_X9_53) rfl hd kk
theorem gf_X9_261 (ho : I.1.cls = RX9) (hd : decode I.2.1 pc = .ok (.getfield 261, 3)) (kk : G E X I S (pc + 3) L (.long (gL S 58 22) :: st)) : G E X I S pc L (.ref (eA E 58) :: st) := g_get (k := 58) (j := 22) (cell_5 E S) (by omega) rfl ix_X9 (by omega) (ho ▸ fw_X9_261) rfl hd kk
theorem pf_X9_261 {x : Int64} (ho : I.1.cls = RX9) (hd : decode I.2.1 pc = .ok (.putfield 261, 3)) (kk : G E X I (sL S 58 22 x) (pc + 3) L st) : G E X I S pc L (.long x :: .ref (eA E 58) :: st) := by
  have e := (cell_5 E (sL S 58 22 x))
  simp only [gI_sI, gL_sI, gI_sL, gL_sL] at e
  exact g_put (k := 58) (j := 22) (ty := .long) tyX9 tyX9_ok nmX9 (cell_5 E S) (e.trans (by simp)) (fun i _ hne => cell_sL E S _ hne) (by omega) rfl ix_X9 (by omega) (ho ▸ fw_X9_261) rfl (by decide +kernel) rfl rfl (by show 22 < 23; omega) hd kk
theorem pf_X0_30 {k : Nat} (h : kd k = 0) {x : Int32} (ho : I.1.cls = RX0) (hd : decode I.2.1 pc = .ok (.putfield 30, 3)) (kk : G E X I (sI S k 6 x) (pc + 3) L st) : G E X I S pc L (.int x :: .ref (eA E k) :: st) := by
  have e := (cell_0 E (sI S k 6 x) h)
  simp only [gI_sI, gL_sI, gI_sL, gL_sL] at e
  exact g_put (k := k) (j := 6) (ty := .int) tyX0 tyX0_ok nmX0 (cell_0 E S h) (e.trans (by simp)) (fun i _ hne => cell_sI E S _ hne) (kd_lt h (by omega)) rfl ix_X0 (by omega) (ho ▸ fw_X0_30) rfl (by decide +kernel) rfl rfl (by show 6 < 10; omega) hd kk
theorem pf_X0_34 {k : Nat} (h : kd k = 0) {x : Int32} (ho : I.1.cls = RX0) (hd : decode I.2.1 pc = .ok (.putfield 34, 3)) (kk : G E X I (sI S k 7 x) (pc + 3) L st) : G E X I S pc L (.int x :: .ref (eA E k) :: st) := by
  have e := (cell_0 E (sI S k 7 x) h)
  simp only [gI_sI, gL_sI, gI_sL, gL_sL] at e
  exact g_put (k := k) (j := 7) (ty := .int) tyX0 tyX0_ok nmX0 (cell_0 E S h) (e.trans (by simp)) (fun i _ hne => cell_sI E S _ hne) (kd_lt h (by omega)) rfl ix_X0 (by omega) (ho ▸ fw_X0_34) rfl (by decide +kernel) rfl rfl (by show 7 < 10; omega) hd kk
theorem pf_X0_37 {k : Nat} (h : kd k = 0) {x : Int32} (ho : I.1.cls = RX0) (hd : decode I.2.1 pc = .ok (.putfield 37, 3)) (kk : G E X I (sI S k 8 x) (pc + 3) L st) : G E X I S pc L (.int x :: .ref (eA E k) :: st) := by
  have e := (cell_0 E (sI S k 8 x) h)
  simp only [gI_sI, gL_sI, gI_sL, gL_sL] at e
  exact g_put (k := k) (j := 8) (ty := .int) tyX0 tyX0_ok nmX0 (cell_0 E S h) (e.trans (by simp)) (fun i _ hne => cell_sI E S _ hne) (kd_lt h (by omega)) rfl ix_X0 (by omega) (ho ▸ fw_X0_37) rfl (by decide +kernel) rfl rfl (by show 8 < 10; omega) hd kk
theorem pf_X0_40 {k : Nat} (h : kd k = 0) {x : Int32} (ho : I.1.cls = RX0) (hd : decode I.2.1 pc = .ok (.putfield 40, 3)) (kk : G E X I (sI S k 9 x) (pc + 3) L st) : G E X I S pc L (.int x :: .ref (eA E k) :: st) := by
  have e := (cell_0 E (sI S k 9 x) h)
  simp only [gI_sI, gL_sI, gI_sL, gL_sL] at e
  exact g_put (k := k) (j := 9) (ty := .int) tyX0 tyX0_ok nmX0 (cell_0 E S h) (e.trans (by simp)) (fun i _ hne => cell_sI E S _ hne) (kd_lt h (by omega)) rfl ix_X0 (by omega) (ho ▸ fw_X0_40) rfl (by decide +kernel) rfl rfl (by show 9 < 10; omega) hd kk
theorem gf_X0_30 {k : Nat} (h : kd k = 0) (ho : I.1.cls = RX0) (hd : decode I.2.1 pc = .ok (.getfield 30, 3)) (kk : G E X I S (pc + 3) L (.int (gI S k 6) :: st)) : G E X I S pc L (.ref (eA E k) :: st) := g_get (k := k) (j := 6) (cell_0 E S h) (kd_lt h (by omega)) rfl ix_X0 (by omega) (ho ▸ fw_X0_30) rfl hd kk
theorem gf_X0_9 {k : Nat} (h : kd k = 0) (ho : I.1.cls = RX0) (hd : decode I.2.1 pc = .ok (.getfield 9, 3)) (kk : G E X I S (pc + 3) L (.ref (eA E (34 + 6 * (k - 30))) :: st)) : G E X I S pc L (.ref (eA E k) :: st) := g_get (k := k) (j := 0) (cell_0 E S h) (kd_lt h (by omega)) rfl ix_X0 (by omega) (ho ▸ fw_X0_9) rfl hd kk
theorem gf_X0_15 {k : Nat} (h : kd k = 0) (ho : I.1.cls = RX0) (hd : decode I.2.1 pc = .ok (.getfield 15, 3)) (kk : G E X I S (pc + 3) L (.ref (eA E (34 + 6 * (k - 30) + 1)) :: st)) : G E X I S pc L (.ref (eA E k) :: st) := g_get (k := k) (j := 1) (cell_0 E S h) (kd_lt h (by omega)) rfl ix_X0 (by omega) (ho ▸ fw_X0_15) rfl hd kk
theorem gf_X0_18 {k : Nat} (h : kd k = 0) (ho : I.1.cls = RX0) (hd : decode I.2.1 pc = .ok (.getfield 18, 3)) (kk : G E X I S (pc + 3) L (.ref (eA E (34 + 6 * (k - 30) + 2)) :: st)) : G E X I S pc L (.ref (eA E k) :: st) := g_get (k := k) (j := 2) (cell_0 E S h) (kd_lt h (by omega)) rfl ix_X0 (by omega) (ho ▸ fw_X0_18) rfl hd kk
theorem gf_X0_21 {k : Nat} (h : kd k = 0) (ho : I.1.cls = RX0) (hd : decode I.2.1 pc = .ok (.getfield 21, 3)) (kk : G E X I S (pc + 3) L (.ref (eA E (34 + 6 * (k - 30) + 3)) :: st)) : G E X I S pc L (.ref (eA E k) :: st) := g_get (k := k) (j := 3) (cell_0 E S h) (kd_lt h (by omega)) rfl ix_X0 (by omega) (ho ▸ fw_X0_21) rfl hd kk
theorem gf_X0_24 {k : Nat} (h : kd k = 0) (ho : I.1.cls = RX0) (hd : decode I.2.1 pc = .ok (.getfield 24, 3)) (kk : G E X I S (pc + 3) L (.ref (eA E (34 + 6 * (k - 30) + 4)) :: st)) : G E X I S pc L (.ref (eA E k) :: st) := g_get (k := k) (j := 4) (cell_0 E S h) (kd_lt h (by omega)) rfl ix_X0 (by omega) (ho ▸ fw_X0_24) rfl hd kk
theorem gf_X0_34 {k : Nat} (h : kd k = 0) (ho : I.1.cls = RX0) (hd : decode I.2.1 pc = .ok (.getfield 34, 3)) (kk : G E X I S (pc + 3) L (.int (gI S k 7) :: st)) : G E X I S pc L (.ref (eA E k) :: st) := g_get (k := k) (j := 7) (cell_0 E S h) (kd_lt h (by omega)) rfl ix_X0 (by omega) (ho ▸ fw_X0_34) rfl hd kk
theorem gf_X0_27 {k : Nat} (h : kd k = 0) (ho : I.1.cls = RX0) (hd : decode I.2.1 pc = .ok (.getfield 27, 3)) (kk : G E X I S (pc + 3) L (.ref (eA E (34 + 6 * (k - 30) + 5)) :: st)) : G E X I S pc L (.ref (eA E k) :: st) := g_get (k := k) (j := 5) (cell_0 E S h) (kd_lt h (by omega)) rfl ix_X0 (by omega) (ho ▸ fw_X0_27) rfl hd kk
theorem gf_X0_37 {k : Nat} (h : kd k = 0) (ho : I.1.cls = RX0) (hd : decode I.2.1 pc = .ok (.getfield 37, 3)) (kk : G E X I S (pc + 3) L (.int (gI S k 8) :: st)) : G E X I S pc L (.ref (eA E k) :: st) := g_get (k := k) (j := 8) (cell_0 E S h) (kd_lt h (by omega)) rfl ix_X0 (by omega) (ho ▸ fw_X0_37) rfl hd kk
theorem gf_X0_40 {k : Nat} (h : kd k = 0) (ho : I.1.cls = RX0) (hd : decode I.2.1 pc = .ok (.getfield 40, 3)) (kk : G E X I S (pc + 3) L (.int (gI S k 9) :: st)) : G E X I S pc L (.ref (eA E k) :: st) := g_get (k := k) (j := 9) (cell_0 E S h) (kd_lt h (by omega)) rfl ix_X0 (by omega) (ho ▸ fw_X0_40) rfl hd kk
theorem gf_X1_9 (ho : I.1.cls = RX1) (hd : decode I.2.1 pc = .ok (.getfield 9, 3)) (kk : G E X I S (pc + 3) L (.ref (eA E 9) :: st)) : G E X I S pc L (.ref (eA E 8) :: st) := g_get (k := 8) (j := 0) (cell_1 E S) (by omega) rfl ix_X1 (by omega) (ho ▸ fw_X1_9) rfl hd kk
theorem gf_X4_15 (ho : I.1.cls = RX4) (hd : decode I.2.1 pc = .ok (.getfield 15, 3)) (kk : G E X I S (pc + 3) L (.ref (eA E 7) :: st)) : G E X I S pc L (.ref (eA E 5) :: st) := g_get (k := 5) (j := 1) (cell_2 E S) (by omega) rfl ix_X4 (by omega) (ho ▸ fw_X4_15) rfl hd kk
theorem gf_X4_9 (ho : I.1.cls = RX4) (hd : decode I.2.1 pc = .ok (.getfield 9, 3)) (kk : G E X I S (pc + 3) L (.ref (eA E 6) :: st)) : G E X I S pc L (.ref (eA E 5) :: st) := g_get (k := 5) (j := 0) (cell_2 E S) (by omega) rfl ix_X4 (by omega) (ho ▸ fw_X4_9) rfl hd kk
theorem pf_X5_9 {k : Nat} (h : kd k = 3) {x : Int32} (ho : I.1.cls = RX5) (hd : decode I.2.1 pc = .ok (.putfield 9, 3)) (kk : G E X I (sI S k 1 x) (pc + 3) L st) : G E X I S pc L (.int x :: .ref (eA E k) :: st) := by
  have e := (cell_3 E (sI S k 1 x) h)
  simp only [gI_sI, gL_sI, gI_sL, gL_sL] at e
  exact g_put (k := k) (j := 1) (ty := .int) tyX5 tyX5_ok nmX5 (cell_3 E S h) (e.trans (by simp)) (fun i _ hne => cell_sI E S _ hne) (kd_lt h (by omega)) rfl ix_X5 (by omega) (ho ▸ fw_X5_9) rfl (by decide +kernel) rfl rfl (by show 1 < 2; omega) hd kk
theorem gf_X5_19 {k : Nat} (h : kd k = 3) (ho : I.1.cls = RX5) (hd : decode I.2.1 pc = .ok (.getfield 19, 3)) (kk : G E X I S (pc + 3) L (.ref (eA E (k + 10)) :: st)) : G E X I S pc L (.ref (eA E k) :: st) := g_get (k := k) (j := 0) (cell_3 E S h) (kd_lt h (by omega)) rfl ix_X5 (by omega) (ho ▸ fw_X5_19) rfl hd kk
theorem gf_X5_9 {k : Nat} (h : kd k = 3) (ho : I.1.cls = RX5) (hd : decode I.2.1 pc = .ok (.getfield 9, 3)) (kk : G E X I S (pc + 3) L (.int (gI S k 1) :: st)) : G E X I S pc L (.ref (eA E k) :: st) := g_get (k := k) (j := 1) (cell_3 E S h) (kd_lt h (by omega)) rfl ix_X5 (by omega) (ho ▸ fw_X5_9) rfl hd kk
end GF
