/-! FAULT, BANK: alike -/
theorem here_w {S T : St} (e : gA T 63 = gA S 63) : hereG T = hereG S := by funext a p m; unfold hereG; rw [e]
theorem tlB_w {S T : St} (e : gA T 63 = gA S 63) : tlB T = tlB S := by funext a p m r; unfold tlB vG; rw [here_w e]
theorem tlQ_w {S T : St} (e : gA T 63 = gA S 63) : tlQ T = tlQ S := by funext a p m r; unfold tlQ vG; rw [here_w e]
theorem rd5_w {S T : St} (e : gA T 63 = gA S 63) : rd5 T = rd5 S := by funext a p m r rd; unfold rd5 vG; rw [here_w e]
theorem fmR_w {S T : St} (e : gA T 63 = gA S 63) {a m : Nat} : ∀ f p r rd, fmR T a m f p r rd = fmR S a m f p r rd
  | 0, _, _, _ => rfl
  | f + 1, p, r, rd => by rw [fmR, fmR, here_w e, tlB_w e, tlQ_w e, rd5_w e, fmR_w e f, fmR_w e f]
theorem fmT_w {S T : St} (e : gA T 63 = gA S 63) (e2 : gA T 66 = gA S 66) {i m : Nat} : fmT T i m = fmT S i m := by unfold fmT; rw [fmR_w e, e2]
/-- the reference's reader leaves the relation -/
theorem RL_sc {S : St} (h : Rel S) {a p e n r : Int32} {rd : Nat → Int32} : Rel (scS S a p e n r rd) := by
  refine RL_as h ?_ ⟨rfl, rfl, rfl, rfl, rfl, rfl, rfl, rfl⟩ h.2.2.2.1
  unfold scS
  exact sameW_sA (sameW_sI (sameW_sI (sameW_sI (sameW_sI (sameW_sI (sameW_rf S) (by omega)) (by omega)) (by omega)) (by omega)) (by omega)) (by omega)
theorem tx_c {S : St} {n m : Nat} (a : gI S (16 + n) 1 = nI m) (hm : m ≤ 60) (c : ∀ i, i < m → gA S (16 + n + 10) i = gA S 63 (60 * n + i)) : ∀ i, i < m → getF S (16 + n) (nI i) = hereG S (60 * n) i m := fun i hi => by rw [getF_in a hi (by omega), here_lt hi]; exact c i hi
theorem p_fault (E : En) {S : St} (h : Rel S) (r : Int32) : PRi E i_X8_fault i_X9_fault S [.int r] := by
  by_cases hr : idxF 4 r = true
  · obtain ⟨n, hn, rfl⟩ := idx_nat (by omega) hr
    rcases tx_get h hn with ⟨a, b⟩ | ⟨m, hm, a, b, c⟩
    · exact pr_fnd h (c_X8_fault_m E S n hn (mis_1 a)) (c_X9_fault_m E _ n hn b)
    · refine ⟨S, _, _, c_X8_fault_ok E S n m hn a hm, c_X9_fault_ok E S n m hn b hm, fun S2 r hq => ?_⟩
      obtain ⟨h1, p, num, rd, h2⟩ := hq
      refine ⟨?_, by rw [h2]; exact RL_sc h⟩
      rw [h1, ff_is (tx_c a hm c) a hm (m + 7) (m + 1) 0 0 (gA S 66) (by omega) (by omega) (by omega) (by omega)]
      rfl
  · exact pr_no h (c_X8_fault_bad E S r (bF hr)) (c_X9_fault_bad E S r (bF hr))
/-- a row of the reference after a bank is read -/
theorem bkF_at {W rd : Nat → Int32} {r : Nat} : ∀ n, n ≤ 8 → ∀ i, bkF W rd r n i = if i = 0 then nI r else if i = 2 then (((1 : Int32) <<< (nI r &&& 31)) - 1) else if 11 ≤ i ∧ i < 11 + n then rd (5 * (i - 11)) else if 19 ≤ i ∧ i < 19 + n then rd (5 * (i - 19) + 1) else if 27 ≤ i ∧ i < 27 + n then rd (5 * (i - 27) + 2) else if 3 ≤ i ∧ i < 3 + n then rd (5 * (i - 3) + 3) else if 35 ≤ i ∧ i < 35 + n then rd (5 * (i - 35) + 4) else if i < 1776 then 0 else W i
  | 0, _, i => by
    rw [bkF]
    by_cases h1 : i = 2
    · rw [h1, pk_us, if_neg (by omega), if_pos rfl]
    · rw [pk_un h1]
      by_cases h2 : i = 0
      · rw [h2, pk_us, if_pos rfl]
      · rw [pk_un h2, if_neg h2, if_neg h1, if_neg (by omega), if_neg (by omega), if_neg (by omega), if_neg (by omega), if_neg (by omega)]
        unfold fllF
        by_cases h3 : i < 1776
        · rw [if_pos (by omega), if_pos h3]
        · rw [if_neg (by omega), if_neg h3]
  | n + 1, hn, i => by
    have ih := bkF_at (W := W) (rd := rd) (r := r) n (by omega) i
    rw [bkF]
    by_cases h5 : i = 35 + n
    · rw [h5, pk_us, if_neg (by omega), if_neg (by omega), if_neg (by omega), if_neg (by omega), if_neg (by omega), if_neg (by omega), if_pos (by omega), show 35 + n - 35 = n by omega]
    rw [pk_un h5]
    by_cases h4 : i = 3 + n
    · rw [h4, pk_us, if_neg (by omega), if_neg (by omega), if_neg (by omega), if_neg (by omega), if_neg (by omega), if_pos (by omega), show 3 + n - 3 = n by omega]
    rw [pk_un h4]
    by_cases h3 : i = 27 + n
    · rw [h3, pk_us, if_neg (by omega), if_neg (by omega), if_neg (by omega), if_neg (by omega), if_pos (by omega), show 27 + n - 27 = n by omega]
    rw [pk_un h3]
    by_cases h2 : i = 19 + n
    · rw [h2, pk_us, if_neg (by omega), if_neg (by omega), if_neg (by omega), if_pos (by omega), show 19 + n - 19 = n by omega]
    rw [pk_un h2]
    by_cases h1 : i = 11 + n
    · rw [h1, pk_us, if_neg (by omega), if_neg (by omega), if_pos (by omega), show 11 + n - 11 = n by omega]
    rw [pk_un h1, ih]
    have c : ∀ b, i ≠ b + n → ((b ≤ i ∧ i < b + n) ↔ (b ≤ i ∧ i < b + (n + 1))) := fun b hb => by omega
    simp only [c 11 h1, c 19 h2, c 27 h3, c 3 h4, c 35 h5]
theorem sh_m1 {r : Nat} (h : r ≤ 8) : ((1 : Int32) <<< (nI r &&& 31)) - 1 = nI (2 ^ r - 1) := by
  have z : ∀ r : Fin 9, ((1 : Int32) <<< (nI r.1 &&& 31)) - 1 = nI (2 ^ r.1 - 1) := by decide +kernel
  exact z ⟨r, by omega⟩
theorem clr_at {T : St} : (∀ k j, ¬ (31 ≤ k ∧ k < 34 ∧ 6 ≤ j ∧ j ≤ 9) → gI (clrK T 3) k j = gI T k j) ∧ (∀ k j, 31 ≤ k → k < 34 → 6 ≤ j → j ≤ 9 → gI (clrK T 3) k j = 0) ∧ (∀ k j, gL (clrK T 3) k j = gL T k j) ∧ ∀ k, gA (clrK T 3) k = gA T k := by
  refine ⟨fun k j h => ?_, fun k j h1 h2 h3 h4 => ?_, fun _ _ => rfl, fun _ => rfl⟩
  · unfold clrK clrK clrK clrK
    rw [gI_ne (by omega), gI_ne (by omega), gI_ne (by omega), gI_ne (by omega), gI_ne (by omega), gI_ne (by omega), gI_ne (by omega), gI_ne (by omega), gI_ne (by omega), gI_ne (by omega), gI_ne (by omega), gI_ne (by omega)]
  · have hk : k = 31 ∨ k = 32 ∨ k = 33 := by omega
    have hj : j = 6 ∨ j = 7 ∨ j = 8 ∨ j = 9 := by omega
    rcases hk with rfl | rfl | rfl <;> rcases hj with rfl | rfl | rfl | rfl <;> rfl
/-- an empty kept bank in both -/
theorem BK_0 {T : St} {b o : Nat} (h : ∀ j, 6 ≤ j → j ≤ 9 → gI T b j = 0) (w : ∀ i, i < 44 → gA T 59 (o + i) = 0) : BK T b o := by
  have es : szB T b = 0 := by unfold szB; rw [h 6 (by omega) (by omega)]; rfl
  have ed : dnB T b = 0 := by unfold dnB; rw [h 9 (by omega) (by omega)]; rfl
  have z : okB T b := ⟨by rw [es, h 6 (by omega) (by omega)]; rfl, by omega⟩
  have d : okD T b := ⟨by rw [ed, h 9 (by omega) (by omega)]; rfl, by omega⟩
  refine ⟨⟨z, d, ?_, ?_, ?_, ?_, fun k hk => by omega⟩, ⟨z, d, ⟨0, by omega, h 8 (by omega) (by omega)⟩, ⟨0, by rw [es]; decide, h 7 (by omega) (by omega)⟩, fun k hk => by omega⟩, fun u hu => by omega⟩
  · rw [h 6 (by omega) (by omega)]; exact w 0 (by omega)
  · rw [h 8 (by omega) (by omega)]; exact w 1 (by omega)
  · rw [h 7 (by omega) (by omega)]; exact w 2 (by omega)
  · rw [h 9 (by omega) (by omega)]; exact w 43 (by omega)
theorem bank_rel {S T : St} {W rd rd' : Nat → Int32} {r : Nat} {a p e num x : Int32} (h : Rel S) (hf : frB S T) (hv : inv T r rd) (hr : r ≤ 8) : Rel (sA (scS (clrK T 3) a p e num x rd') 59 (bkF W rd r r)) := by
  obtain ⟨c1, c2, c3, c4⟩ := clr_at (T := T)
  obtain ⟨v6, v7, v8, v9, vj⟩ := hv
  obtain ⟨f1, f2, f3⟩ := hf
  generalize hX : sA (scS (clrK T 3) a p e num x rd') 59 (bkF W rd r r) = X
  have iX : ∀ k j, k ≠ 58 → gI X k j = gI (clrK T 3) k j := fun k j hk => by rw [← hX, gI_sA]; exact sc_out (by omega)
  have lX : ∀ k j, gL X k j = gL T k j := fun k j => by rw [← hX]; rfl
  have aX : ∀ k, k ≠ 59 → k ≠ 66 → gA X k = gA T k := fun k h1 h2 => by rw [← hX, gA_ne h1, sc_a h2, c4]
  have wX : ∀ i, gA X 59 i = bkF W rd r r i := fun i => by rw [← hX, gA_same]
  have i30 : ∀ j, gI X 30 j = gI T 30 j := fun j => by rw [iX 30 j (by omega), c1 30 j (by omega)]
  have iO : ∀ k j, k ≠ 30 → k ≠ 58 → ¬ (31 ≤ k ∧ k < 34) → gI X k j = gI S k j := fun k j h1 h2 h3 => by rw [iX k j h2, c1 k j (by omega), f1 k j h1]
  have aO : ∀ k, k < 34 ∨ 39 ≤ k → k ≠ 59 → k ≠ 66 → gA X k = gA S k := fun k h1 h2 h3 => by rw [aX k h2 h3, f3 k h1]
  have es : szB X 30 = r := by unfold szB; rw [i30, v6, nI_clamp (by omega)]
  have ed : dnB X 30 = 0 := by unfold dnB; rw [i30, v9]; rfl
  have z : okB X 30 := ⟨by rw [es, i30, v6], by omega⟩
  have d : okD X 30 := ⟨by rw [ed, i30, v9]; rfl, by omega⟩
  refine ⟨⟨⟨⟨z, d, ?_, ?_, ?_, ?_, fun k hk => ?_⟩, ⟨z, d, ⟨0, by omega, (i30 8).trans v8⟩, ⟨2 ^ r - 1, ?_, (i30 7).trans v7⟩, fun k hk => ?_⟩, fun u hu => by omega⟩, fun n hn => ?_, ?_, ?_⟩, ?_⟩
  · rw [wX, bkF_at r hr, if_pos rfl, i30, v6]
  · rw [wX, bkF_at r hr, if_neg (by omega), if_neg (by omega), if_neg (by omega), if_neg (by omega), if_neg (by omega), if_neg (by omega), if_neg (by omega), if_pos (by omega), i30, v8]
  · rw [wX, bkF_at r hr, if_neg (by omega), if_pos (by omega), sh_m1 hr, i30, v7]
  · rw [wX, bkF_at r hr, if_neg (by omega), if_neg (by omega), if_neg (by omega), if_neg (by omega), if_neg (by omega), if_neg (by omega), if_neg (by omega), if_pos (by omega), i30, v9]
  · rw [es] at hk
    obtain ⟨⟨w0, w1, w2, w3, w4⟩, -⟩ := vj k hk
    rw [wX, wX, wX, wX, wX, aX _ (by omega) (by omega), aX _ (by omega) (by omega), aX _ (by omega) (by omega), aX _ (by omega) (by omega), aX _ (by omega) (by omega)]
    refine ⟨?_, ?_, ?_, ?_, ?_⟩
    · rw [bkF_at r hr, if_neg (by omega), if_neg (by omega), if_pos (by omega), show 0 + 11 + k - 11 = k by omega]; exact w0.symm
    · rw [bkF_at r hr, if_neg (by omega), if_neg (by omega), if_neg (by omega), if_pos (by omega), show 0 + 19 + k - 19 = k by omega]; exact w1.symm
    · rw [bkF_at r hr, if_neg (by omega), if_neg (by omega), if_neg (by omega), if_neg (by omega), if_pos (by omega), show 0 + 27 + k - 27 = k by omega]; exact w2.symm
    · rw [bkF_at r hr, if_neg (by omega), if_neg (by omega), if_neg (by omega), if_neg (by omega), if_neg (by omega), if_pos (by omega), show 0 + 3 + k - 3 = k by omega]; exact w3.symm
    · rw [bkF_at r hr, if_neg (by omega), if_neg (by omega), if_neg (by omega), if_neg (by omega), if_neg (by omega), if_neg (by omega), if_pos (by omega), show 0 + 35 + k - 35 = k by omega]; exact w4.symm
  · rw [es]; have := Nat.two_pow_pos r; omega
  · rw [es] at hk
    obtain ⟨⟨w0, w1, w2, w3, w4⟩, g0, g1, g2, g3, g4⟩ := vj k hk
    rw [aX _ (by omega) (by omega), aX _ (by omega) (by omega), aX _ (by omega) (by omega), aX _ (by omega) (by omega), aX _ (by omega) (by omega)]
    exact ⟨w0.symm ▸ g0, w1.symm ▸ g1, w2.symm ▸ g2, w3.symm ▸ g3, w4.symm ▸ g4⟩
  · refine BK_0 (fun j h1 h2 => ?_) (fun i hi => ?_)
    · rw [iX _ _ (by omega)]; exact c2 _ _ (by omega) (by omega) h1 h2
    · rw [wX, bkF_at r hr, if_neg (by omega), if_neg (by omega), if_neg (by omega), if_neg (by omega), if_neg (by omega), if_neg (by omega), if_neg (by omega), if_pos (by omega)]
  · exact rwE_of h.1.2.2.1 (fun n _ => iO _ _ (by omega) (by omega) (by omega)) (fun n _ => by rw [aO _ (by omega) (by omega) (by omega)]) (fun n _ i _ => by rw [aO _ (by omega) (by omega) (by omega)]) (fun n _ i _ => by rw [aO _ (by omega) (by omega) (by omega)])
  · exact rwE_of h.1.2.2.2 (fun n _ => iO _ _ (by omega) (by omega) (by omega)) (fun n _ => by rw [aO _ (by omega) (by omega) (by omega)]) (fun n _ i _ => by rw [aO _ (by omega) (by omega) (by omega)]) (fun n _ i _ => by rw [aO _ (by omega) (by omega) (by omega)])
  · have i58 : ∀ j, ¬ (11 ≤ j ∧ j ≤ 15) → gI X 58 j = gI S 58 j := fun j hj => by rw [← hX, gI_sA, sc_out (by omega), c1 58 j (by omega), f1 58 j (by omega)]
    refine RLt_same h.2 ⟨aO 4 (by omega) (by omega) (by omega), aO 64 (by omega) (by omega) (by omega), iO 0 7 (by omega) (by omega) (by omega), i58 5 (by omega), ?_, ?_, ?_, ?_⟩ (iO 0 8 (by omega) (by omega) (by omega)) (i58 7 (by omega))
    · rw [lX, f2]
    · rw [lX, f2]
    · rw [lX, f2]
    · rw [lX, f2]
theorem p_bank (E : En) {S : St} (h : Rel S) (r : Int32) : PRi E i_X8_bank i_X9_bank S [.int r] := by
  by_cases hr : idxF 4 r = true
  · obtain ⟨n, hn, rfl⟩ := idx_nat (by omega) hr
    rcases tx_get h hn with ⟨a, b⟩ | ⟨m, hm, a, b, c⟩
    · exact pr_fnd h (c_X8_bank_m E S n hn (mis_1 a)) (c_X9_bank_m E _ n hn b)
    · have hc := tx_c a hm c
      have e : ffR S (16 + n) (m + 7) 0 0 = (fmT S n m).1 := ff_is hc a hm (m + 7) (m + 1) 0 0 (gA S 66) (by omega) (by omega) (by omega) (by omega)
      by_cases q : ffR S (16 + n) (m + 7) 0 0 = -9
      · have q9 : (fmT S n m).1 = -9 := e.symm.trans q
        have hr8 : (fmT S n m).2.1 ≤ 8 := fm_r (by omega)
        obtain ⟨hf, hv⟩ := rd_is hc a hm (kd_k hn) (m + 7) (m + 1) 0 0 (gA S 66) (sI (sI (sI (sI S 30 6 0) 30 7 0) 30 8 0) 30 9 0) (by omega) (by omega) (by omega) (by omega) ⟨fun k j hk => by rw [gI_ne (by omega), gI_ne (by omega), gI_ne (by omega), gI_ne (by omega)], fun _ _ => rfl, fun _ _ => rfl⟩ ⟨rfl, rfl, rfl, rfl, fun j hj => absurd hj (by omega)⟩ q9
        have c8 := c_X8_bank_ok E S n m hn a hm q
        generalize hT : rdR 30 (16 + n) (m + 7) 0 (sI (sI (sI (sI S 30 6 0) 30 7 0) 30 8 0) 30 9 0) = T at hf hv c8
        have g63 : gA (clrK T 3) 63 = gA S 63 := (clr_at.2.2.2 63).trans (hf.2.2 63 (by omega))
        have g66 : gA (clrK T 3) 66 = gA S 66 := (clr_at.2.2.2 66).trans (hf.2.2 66 (by omega))
        have g62 : gA (clrK T 3) 62 = gA S 62 := (clr_at.2.2.2 62).trans (hf.2.2 62 (by omega))
        have eT : fmT (clrK T 3) n m = fmT S n m := fmT_w g63 g66
        have c9 := c_X9_bank_ok E (clrK T 3) n m hn (by rw [g62]; exact b) hm (by rw [eT]; exact q9)
        refine ⟨_, _, _, c8, c9, fun S2 r2 hq => ?_⟩
        obtain ⟨h1, p, num, h2⟩ := hq
        refine ⟨?_, ?_⟩
        · rw [h1, eT, clr_at.1 30 6 (by omega), hv.1]
          rfl
        · rw [h2]
          unfold bkS
          rw [eT]
          exact bank_rel h hf hv hr8
      · refine ⟨S, _, _, c_X8_bank_f E S n m hn a hm q, c_X9_bank_f E S n m hn b hm (fun z => q (e.trans z)), fun S2 r2 hq => ?_⟩
        obtain ⟨h1, p, num, rd, h2⟩ := hq
        exact ⟨h1, by rw [h2]; exact RL_sc h⟩
  · exact pr_no h (c_X8_bank_bad E S r (bF hr)) (c_X9_bank_bad E S r (bF hr))
