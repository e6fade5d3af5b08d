/-! NIGHT, ANSWER, RELIGHT, CARRY, LOTS, UNDO, KEEP, ON -/
theorem rel_self {S : St} (h : Rel S) : Rel (sA S 59 (gA S 59)) := by rw [sA_self]; exact h
theorem dn_get {S : St} (h : Rel S) : ∃ d, d ≤ 40 ∧ gI S 30 9 = nI d ∧ gA S 59 43 = nI d := ⟨dnB S 30, h.1.1.1.2.1.2, h.1.1.1.2.1.1, (n_done h.1.1.1).trans h.1.1.1.2.1.1⟩
theorem lt40 {d : Nat} (h : d ≤ 40) : nI d < 40 ↔ d < 40 := nI_ltI (b := 40) (by omega) (by omega)
theorem eq40 {d : Nat} (h : d ≤ 40) : nI d = 40 ↔ d = 40 := nI_eq (b := 40) (by omega) (by omega)
theorem pass_59 (S : St) : gA (passF S 30) 59 = gA S 59 := by unfold passF wriF; split <;> rfl
theorem put_59 (S : St) (k : Int32) : gA (putF S 30 k) 59 = gA S 59 := by unfold putF wriF; split <;> (try split) <;> rfl
theorem lig_59 (S : St) (k : Int32) : gA (ligF S 30 k) 59 = gA S 59 := by unfold ligF wriF; split <;> (try split) <;> rfl
theorem car_59 (S : St) (k p : Int32) : gA (carF S 30 k p) 59 = gA S 59 := by unfold carF wriF; split <;> (try split) <;> rfl
theorem lg_59 (S : St) (W : Nat → Int32) : lgF (sA S 59 W) 30 = lgF S 30 := rfl
theorem p_night (E : En) {S : St} (h : Rel S) : PRi E i_X8_night i_X9_night S [] := by
  have hB := h.1.1.1
  have hz := hB.1
  have hdd := hB.2.1
  have hm := bE_okM hB
  obtain ⟨d, hd, e9, e43⟩ := dn_get h
  obtain ⟨m, hm40, en⟩ := lt_nt h
  have en8 : gI S 30 8 = nI m := (n_night hB).symm.trans en
  by_cases q : ¬ gI S 30 6 = 0 ∧ gI S 30 8 < 40
  · obtain ⟨q1, q2⟩ := q
    have q0 : ¬ gA S 59 0 = 0 := by rw [no_0 h]; exact q1
    have q40 : ¬ gA S 59 1 = 40 := by
      rw [en, eq40 hm40]
      rw [en8, lt40 hm40] at q2
      omega
    by_cases g : gI S 30 9 < 40
    · have hd40 : d < 40 := by rw [e9, lt40 hd] at g; exact g
      have r := deed_pass (rel_self h) e9 hd40 q2
      have eW : ntW (gA (passF S 30) 59) d = upd (mdF (gA S 59) d) 1 (gI S 30 8 + 1) := by
        unfold ntW
        rw [pass_59, mdF_lo (by omega), n_night hB]
      have c9 := c_X9_night_ok E (passF S 30) d (okM_w (pass_59 S) hm) (by rw [pass_59]; exact q0) (by rw [pass_59]; exact q40) (by rw [pass_59]; exact e43) hd40
      rw [eW] at c9
      refine pr_mk (c_X8_night_ok E S hz hdd q1 q2 g) c9 ?_ r
      rw [← ga_lg r.1.1.1]
      rfl
    · have hd40 : d = 40 := by rw [e9, lt40 hd] at g; omega
      exact pr_no h (c_X8_night_fu E S hz hdd q1 q2 g) (c_X9_night_full E S q0 q40 (by rw [e43, hd40]; rfl))
  · refine pr_no h (c_X8_night_st E S hz hdd q) (c_X9_night_no E S ?_)
    by_cases q0 : gI S 30 6 = 0
    · exact Or.inl ((no_0 h).trans q0)
    · right
      have : ¬ gI S 30 8 < 40 := fun z => q ⟨q0, z⟩
      rw [en8, lt40 hm40] at this
      rw [en, show m = 40 by omega]; rfl
theorem p_answer (E : En) {S : St} (h : Rel S) (k : Int32) : PRi E i_X8_answer i_X9_answer S [.int k] := by
  have hB := h.1.1.1
  have hz := hB.1
  have hdd := hB.2.1
  have hm := bE_okM hB
  obtain ⟨d, hd, e9, e43⟩ := dn_get h
  by_cases q : hasF S 30 k = true
  · obtain ⟨j, rfl, hj, hj2⟩ := lt_get h q
    by_cases l : litF S 30 (nI j) = true
    · have l9 : ¬ bI (hsF (gA S 59 2) (nI j)) = 0 := by rw [bI_n0, ← n_lt hB hj]; exact l
      by_cases g : gI S 30 9 < 40
      · have hd40 : d < 40 := by rw [e9, lt40 hd] at g; exact g
        have r := deed_put (rel_self h) e9 hd40 hj l
        have eW : lgW (gA (putF S 30 (nI j)) 59) d j = upd (mdF (gA S 59) d) 2 (gI S 30 7 ^^^ ((1 : Int32) <<< (nI j &&& 31))) := by
          unfold lgW
          rw [put_59, mdF_lo (by omega), n_lit hB]
        have c9 := c_X9_answer_ok E (putF S 30 (nI j)) j d (okM_w (put_59 S _) hm) (by rw [nM_w (put_59 S _)]; exact hj2) (by rw [put_59]; exact l9) (by rw [put_59]; exact e43) hd40
        rw [eW] at c9
        refine pr_mk (c_X8_answer_ok E S (nI j) hz hdd q l g) c9 ?_ r
        have es : szB (sA (putF S 30 (nI j)) 59 (upd (mdF (gA S 59) d) 2 (gI S 30 7 ^^^ ((1 : Int32) <<< (nI j &&& 31))))) 30 = szB S 30 := by
          show szB (putF S 30 (nI j)) 30 = _
          exact szB_of (gI_put6 S 30 (nI j))
        rw [← n_glo r.1.1.1 (by rw [es]; exact hj), n_night r.1.1.1]
        rfl
      · have hd40 : d = 40 := by rw [e9, lt40 hd] at g; omega
        exact pr_no h (c_X8_answer_fu E S (nI j) hz hdd q l g) (c_X9_answer_full E S j hm hj2 l9 (by rw [e43, hd40]; rfl))
    · exact pr_no h (c_X8_answer_st E S (nI j) hz hdd q l) (c_X9_answer_no E S j hm hj2 (by rw [bI_0, ← n_lt hB hj]; exact bF l))
  · exact pr_no h (c_X8_answer_bad E S k hz hdd q) (c_X9_answer_bad E S k hm (by rw [← lt_idx h]; exact bF q))
theorem p_relight (E : En) {S : St} (h : Rel S) (k : Int32) : PRi E i_X8_relight i_X9_relight S [.int k] := by
  have hB := h.1.1.1
  have hz := hB.1
  have hdd := hB.2.1
  have hm := bE_okM hB
  obtain ⟨d, hd, e9, e43⟩ := dn_get h
  by_cases q : hasF S 30 k = true
  · obtain ⟨j, rfl, hj, hj2⟩ := lt_get h q
    by_cases l : litF S 30 (nI j) = false
    · have l9 : ¬ bI (hsF (gA S 59 2) (nI j)) = 1 := by rw [← n_lt hB hj, l]; decide
      by_cases g : gI S 30 9 < 40
      · have hd40 : d < 40 := by rw [e9, lt40 hd] at g; exact g
        have r := deed_lig (rel_self h) e9 hd40 hj l
        have eW : lgW (gA (ligF S 30 (nI j)) 59) d j = upd (mdF (gA S 59) d) 2 (gI S 30 7 ^^^ ((1 : Int32) <<< (nI j &&& 31))) := by
          unfold lgW
          rw [lig_59, mdF_lo (by omega), n_lit hB]
        have c9 := c_X9_relight_ok E (ligF S 30 (nI j)) j d (okM_w (lig_59 S _) hm) (by rw [nM_w (lig_59 S _)]; exact hj2) (by rw [lig_59]; exact l9) (by rw [lig_59]; exact e43) hd40
        rw [eW] at c9
        refine pr_mk (c_X8_relight_ok E S (nI j) hz hdd q l g) c9 ?_ r
        have es : szB (sA (ligF S 30 (nI j)) 59 (upd (mdF (gA S 59) d) 2 (gI S 30 7 ^^^ ((1 : Int32) <<< (nI j &&& 31))))) 30 = szB S 30 := by
          show szB (ligF S 30 (nI j)) 30 = _
          exact szB_of (gI_lig6 S 30 (nI j))
        rw [← n_glo r.1.1.1 (by rw [es]; exact hj), n_night r.1.1.1]
        rfl
      · have hd40 : d = 40 := by rw [e9, lt40 hd] at g; omega
        exact pr_no h (c_X8_relight_fu E S (nI j) hz hdd q l g) (c_X9_relight_full E S j hm hj2 l9 (by rw [e43, hd40]; rfl))
    · have l1 : litF S 30 (nI j) = true := by simpa using l
      exact pr_no h (c_X8_relight_st E S (nI j) hz hdd q l) (c_X9_relight_no E S j hm hj2 (by rw [← n_lt hB hj, l1]; rfl))
  · exact pr_no h (c_X8_relight_bad E S k hz hdd q) (c_X9_relight_bad E S k hm (by rw [← lt_idx h]; exact bF q))
theorem p_carry (E : En) {S : St} (h : Rel S) (k p : Int32) : PRi E i_X8_carry i_X9_carry S [.int k, .int p] := by
  have hB := h.1.1.1
  have hz := hB.1
  have hdd := hB.2.1
  have hm := bE_okM hB
  obtain ⟨d, hd, e9, e43⟩ := dn_get h
  by_cases q : hasF S 30 k = true ∧ placeF p = true
  · obtain ⟨q, qp⟩ := q
    obtain ⟨j, rfl, hj, hj2⟩ := lt_get h q
    have e3 := n_f3 hB hj
    by_cases l : fldF S 30 3 (nI j) = p
    · exact pr_no h (c_X8_carry_st E S (nI j) p hz hdd q qp (fun z => z l)) (c_X9_carry_no E S j p hm hj2 qp (by rw [← e3]; exact l))
    · have l9 : ¬ gA S 59 (3 + j) = p := by rw [← e3]; exact l
      by_cases g : gI S 30 9 < 40
      · have hd40 : d < 40 := by rw [e9, lt40 hd] at g; exact g
        obtain ⟨a, ha, rfl⟩ := idx_nat (m := 10) (by omega) qp
        have r := deed_car (p := a) (rel_self h) e9 hd40 hj ha
        have c9 := c_X9_carry_ok E (carF S 30 (nI j) (nI a)) j d (nI a) (okM_w (car_59 S _ _) hm) (by rw [nM_w (car_59 S _ _)]; exact hj2) qp (by rw [car_59]; exact l9) (by rw [car_59]; exact e43) hd40
        rw [car_59] at c9
        exact pr_mk (c_X8_carry_ok E S (nI j) (nI a) hz hdd q qp l g) c9 e3.symm r
      · have hd40 : d = 40 := by rw [e9, lt40 hd] at g; omega
        exact pr_no h (c_X8_carry_fu E S (nI j) p hz hdd q qp l g) (c_X9_carry_full E S j p hm hj2 qp l9 (by rw [e43, hd40]; rfl))
  · exact pr_no h (c_X8_carry_bad E S k p hz hdd q) (c_X9_carry_bad E S k p hm (fun z => q ⟨(lt_idx h).trans z.1, z.2⟩))
/-! lots -/
theorem lk_w {S T : St} (e : gA T 59 = gA S 59) (x : Int64) : lkM T x = lkM S x := by unfold lkM; rw [e]
theorem loW_w {S T : St} (e : gA T 59 = gA S 59) (s : Int32) (d : Nat) : ∀ n, loW T s d n = loW S s d n
  | 0 => e
  | n + 1 => by rw [loW, loW, loW_w e s d n, lk_w e]
theorem lot_59 (S : St) (x : Int64) : gA (lotF S 30 x) 59 = gA S 59 := by
  unfold lotF
  split
  · rfl
  split
  · rfl
  split
  · exact pass_59 S
  split
  · exact car_59 S _ _
  split
  · exact put_59 S _
  · exact lig_59 S _
theorem lt_st {S : St} (h : Rel S) (h0 : 0 < nM S) {d s : Nat} (hs : s < 2147483647) (hd : gI S 30 9 = nI d) : ∀ n, d + n ≤ 40 → Rel (sA (ltR S (nI s) n).1 59 (loW S (nI s) d n)) ∧ gI (ltR S (nI s) n).1 30 9 = nI (d + n) ∧ gI (ltR S (nI s) n).1 30 6 = gI S 30 6 ∧ (ltR S (nI s) n).2 = sdM (nI s) n ∧ gA (ltR S (nI s) n).1 59 = gA S 59
  | 0, _ => ⟨rel_self h, hd, rfl, rfl, rfl⟩
  | n + 1, hn => by
    obtain ⟨r, i9, i6, il, i59⟩ := lt_st h h0 hs hd n (by omega)
    have hm := bE_okM h.1.1.1
    have hN := bE_nM h.1.1.1
    have h8 := hm.2
    obtain ⟨v, hv, ev⟩ := sd_nat hs (n + 1)
    have e2 : ltN (ltR S (nI s) n).2 = lN v := by rw [il]; exact ev
    generalize hU : (ltR S (nI s) n).1 = U at r i9 i6 i59
    generalize hW : loW S (nI s) d n = W at r
    have eU : (ltR S (nI s) (n + 1)).1 = lotF U 30 (lN v) := by
      show lotF (ltR S (nI s) n).1 30 (ltN (ltR S (nI s) n).2) = _
      rw [e2, hU]
    have eU2 : (ltR S (nI s) (n + 1)).2 = lN v := e2
    rw [eU, eU2, ev]
    have esz : szB U 30 = nM S := by rw [hN]; exact szB_of i6
    have hzU : okB U 30 := okB_of i6 h.1.1.1.1
    have e6 : gI U 30 6 = nI (nM S) := by rw [← esz]; exact hzU.1
    have ek : lotK U 30 (lN v) = nI (v / 8 % nM S) := by
      have q : v / 8 ≤ v := Nat.div_le_self v 8
      unfold lotK
      rw [e6, nI_l (by omega), show (8 : Int64) = lN 8 from rfl, div_nat (by omega) (by omega), rem_nat (by omega) (by omega), lN_i]
    have ek9 : lkM S (lN v) = nI (v / 8 % nM S) := lk_nat hm h0 hv
    have kl : v / 8 % nM S < nM S := Nat.mod_lt _ h0
    have b1 : gA (sA U 59 W) 59 1 = gI U 30 8 := n_night r.1.1.1
    have b2 : gA (sA U 59 W) 59 2 = gI U 30 7 := n_lit r.1.1.1
    rw [gA_same] at b1 b2
    have ep : (lN v / 64 - lN v / 64 / 10 * 10).toInt32 = nI (v / 64 % 10) := by
      have q : v / 64 ≤ v := Nat.div_le_self v 64
      rw [show (64 : Int64) = lN 64 from rfl, show (10 : Int64) = lN 10 from rfl, div_nat (by omega) (by omega), rem_nat (by omega) (by omega), lN_i]
    have n6 : ¬ gI U 30 6 ≤ 0 := by rw [e6]; exact Int32.not_le.mpr (nI_gt0 h0 (by omega))
    have nv : ¬ lN v < 0 := by
      rw [Int64.lt_iff_toInt_lt, lN_toI (by omega), show (0 : Int64).toInt = 0 by decide]
      omega
    have k1 : ∀ T, gI T 30 9 = nI (d + n + 1) → gI T 30 9 = nI (d + (n + 1)) := fun T h => h
    have fin : ∀ T : St, ∀ W' : Nat → Int32, lotF U 30 (lN v) = T → loW S (nI s) d (n + 1) = W' → Rel (sA T 59 W') → gI T 30 9 = nI (d + n + 1) → gI T 30 6 = gI U 30 6 → Rel (sA (lotF U 30 (lN v)) 59 (loW S (nI s) d (n + 1))) ∧ gI (lotF U 30 (lN v)) 30 9 = nI (d + (n + 1)) ∧ gI (lotF U 30 (lN v)) 30 6 = gI S 30 6 ∧ lN v = lN v ∧ gA (lotF U 30 (lN v)) 59 = gA S 59 := by
      intro T W' h1 h2 h3 h4 h5
      rw [h2, lot_59, h1]
      exact ⟨h3, h4, h5.trans i6, rfl, i59⟩
    have eW : loW S (nI s) d (n + 1) = if lN v - lN v / 4 * 4 = 0 ∧ gI U 30 8 < 40 then upd (mdF W (d + n)) 1 (gI U 30 8 + 1) else if lN v - lN v / 4 * 4 = 1 then upd (mdF W (d + n)) (3 + v / 8 % nM S) (nI (v / 64 % 10)) else upd (mdF W (d + n)) 2 (gI U 30 7 ^^^ ((1 : Int32) <<< (nI (v / 8 % nM S) &&& 31))) := by
      rw [loW, ev, hW, ek9, ep, nI_clamp (by omega), mdF_lo (by omega), mdF_lo (by omega), b1, b2]
    have eL : lotF U 30 (lN v) = if lN v - lN v / 4 * 4 = 0 ∧ gI U 30 8 < 40 then passF U 30 else if lN v - lN v / 4 * 4 = 1 then carF U 30 (nI (v / 8 % nM S)) (nI (v / 64 % 10)) else if litF U 30 (nI (v / 8 % nM S)) then putF U 30 (nI (v / 8 % nM S)) else ligF U 30 (nI (v / 8 % nM S)) := by
      unfold lotF
      rw [if_neg n6, if_neg nv, ek, ep]
    have p10 : v / 64 % 10 < 10 := Nat.mod_lt _ (by omega)
    by_cases q1 : lN v - lN v / 4 * 4 = 0 ∧ gI U 30 8 < 40
    · rw [if_pos q1] at eW eL
      exact fin _ _ eL eW (deed_pass r i9 (by omega) q1.2) (cD_pass i9 (by omega)).2.2.2.1 (gI_pass6 U 30)
    · rw [if_neg q1] at eW eL
      by_cases q2 : lN v - lN v / 4 * 4 = 1
      · rw [if_pos q2] at eW eL
        refine fin _ _ eL eW (deed_car r i9 (by omega) (by omega) p10) ?_ (gI_car6 U 30 _ _)
        unfold carF
        rw [if_pos (has_lt hzU (by omega)), wri_is i9 (by omega)]
        rfl
      · rw [if_neg q2] at eW eL
        by_cases q3 : litF U 30 (nI (v / 8 % nM S)) = true
        · rw [if_pos q3] at eL
          refine fin _ _ eL eW (deed_put r i9 (by omega) (by omega) q3) ?_ (gI_put6 U 30 _)
          unfold putF
          rw [if_pos (has_lt hzU (by omega)), wri_is i9 (by omega)]
          rfl
        · rw [if_neg q3] at eL
          refine fin _ _ eL eW (deed_lig r i9 (by omega) (by omega) (bF q3)) ?_ (gI_lig6 U 30 _)
          unfold ligF
          rw [if_pos (has_lt hzU (by omega)), wri_is i9 (by omega)]
          rfl
theorem p_lots (E : En) {S : St} (h : Rel S) (x s : Int32) : PRi E i_X8_lots i_X9_lots S [.int x, .int s] := by
  have hB := h.1.1.1
  have hz := hB.1
  have hdd := hB.2.1
  have hm := bE_okM hB
  obtain ⟨d, hd, e9, e43⟩ := dn_get h
  have sg : ∀ y : Int32, ¬ y < 1 → ¬ y < 0 := fun y q z => q (Int32.lt_iff_toInt_lt.mpr (by have := Int32.lt_iff_toInt_lt.mp z; rw [show (0 : Int32).toInt = 0 by decide] at this; rw [show (1 : Int32).toInt = 1 by decide]; omega))
  by_cases q : ¬ x < 1 ∧ ¬ 20 < x ∧ ¬ s < 1 ∧ s ≤ 2147483646
  · obtain ⟨q1, q2, q3, q4⟩ := q
    have r9 : inF x.toInt64 1 20 = true ∧ inF s.toInt64 1 2147483646 = true := ⟨in_120.mpr ⟨q1, Int32.not_lt.mp q2⟩, in_sd.mpr ⟨q3, q4⟩⟩
    by_cases g0 : gI S 30 6 = 0
    · exact pr_no h (c_X8_lots_st E S x s hz q1 q2 q3 q4 (fun z => z g0)) (c_X9_lots_no E S x s r9 ((no_0 h).trans g0))
    · have g0' : ¬ gA S 59 0 = 0 := by rw [no_0 h]; exact g0
      by_cases g : gI S 30 9 + x ≤ 40
      · obtain ⟨w, hw, rfl⟩ := nI_of2 (x := x) (M := 20) (n := 20) (by decide) (sg x q1) (Int32.not_lt.mp q2)
        obtain ⟨s, hs, rfl⟩ := nI_of2 (x := s) (M := 2147483646) (n := 2147483646) (by decide) (sg s q3) q4
        have hdw : d + w ≤ 40 := by
          rw [e9, nI_add] at g
          exact (nI_leI (b := 40) (by omega) (by omega)).mp g
        have h0 : 0 < nM S := by
          rcases Nat.eq_zero_or_pos (nM S) with z | z
          · exfalso; apply g0'; rw [hm.1, z]; rfl
          · exact z
        obtain ⟨r, -, -, -, i59⟩ := lt_st h h0 (show s < 2147483647 by omega) e9 w hdw
        have hm1 := okM_w i59 hm
        have h01 : 0 < nM (ltR S (nI s) w).1 := by rw [nM_w i59]; exact h0
        have c9 := c_X9_lots_ok E (ltR S (nI s) w).1 w d (nI s) hm1 r9 (by rw [i59]; exact g0') (by rw [i59]; exact e43) hdw (by rw [i59, e43, nI_add]; exact nI_le (b := 40) hdw (by omega)) (by
          rw [hm1.1, nI_l (by have := hm1.2; omega), lN_z (by have := hm1.2; omega)]; omega) (fun n => (lk_ok hm1 h01 (by omega) n).1) (fun n => (lk_ok hm1 h01 (by omega) n).2)
        rw [loW_w i59] at c9
        refine pr_mk (c_X8_lots_ok E S w (nI s) hz hdd hw q1 q2 q3 q4 g0 g) c9 ?_ r
        rw [← ga_lg r.1.1.1]
        rfl
      · exact pr_no h (c_X8_lots_fu E S x s hz q1 q2 q3 q4 g0 g) (c_X9_lots_full E S x s r9 g0' (by rw [n_done hB]; exact g))
  · refine pr_no h (c_X8_lots_bad E S x s hz q) (c_X9_lots_bad E S x s (fun z => q ?_))
    have a := in_120.mp z.1
    have b := in_sd.mp z.2
    exact ⟨a.1, Int32.not_lt.mpr a.2, b.1, b.2⟩
