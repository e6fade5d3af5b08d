/-! CHAIN: the call -/
theorem oN_w {S T : St} (e : gA T 59 = gA S 59) : oN T = oN S := by funext n; unfold oN; rw [e]
theorem tN_w {S T : St} (e : gA T 59 = gA S 59) : tN T = tN S := by funext n; unfold tN; rw [e]
theorem okP_w {S T : St} (e : gA T 59 = gA S 59) (h : okP S) : okP T := by
  intro n hn
  rw [nM_w e] at hn
  rw [e, oN_w e, tN_w e]
  exact h n hn
theorem awI_w {S T : St} (e : gA T 59 = gA S 59) {A : Nat → Int32} : ∀ n, awI T A n = awI S A n
  | 0 => rfl
  | n + 1 => by rw [awI, awI, awI_w e n, dbM_w e, oN_w e, tN_w e]
theorem awO_w {S T : St} (e : gA T 59 = gA S 59) (e2 : gA T 68 = gA S 68) {b : Nat} : ∀ n, awO T b n = awO S b n
  | 0 => by rw [awO, awO, e2]
  | n + 1 => by rw [awO, awO, awO_w e e2 n, awI_w e, nM_w e]
theorem cdM_w {S T : St} (e : gA T 59 = gA S 59) {A : Nat → Int32} {c : Nat} {v : Int32} {j : Nat} : cdM T A c v j = cdM S A c v j := by unfold cdM; rw [dbM_w e, tN_w e, e]
theorem cuM_w {S T : St} (e : gA T 59 = gA S 59) {a : Nat} {l : Nat → Nat} : ∀ n, cuM T a l n = cuM S a l n
  | 0 => rfl
  | n + 1 => by rw [cuM, cuM, tN_w e]
theorem paM_at {F : Nat → Int32} {r : Nat} {l : Nat → Nat} : ∀ n i, paM F r l n i = if 40 * r ≤ i ∧ i < 40 * r + n then nI (l (i - 40 * r)) else F i
  | 0, i => by rw [paM, if_neg (by omega)]
  | n + 1, i => by
    rw [paM]
    by_cases q : i = 40 * r + n
    · rw [q, pk_us, if_pos (by omega), show 40 * r + n - 40 * r = n by omega]
    · rw [pk_un q, paM_at n i]
      by_cases w : 40 * r ≤ i ∧ i < 40 * r + n
      · rw [if_pos w, if_pos (by omega)]
      · rw [if_neg w, if_neg (by omega)]
theorem fst_is {p : Nat → Bool} : ∀ f i, (∃ j, i ≤ j ∧ j < i + f ∧ p j = true) → ∃ j, i ≤ j ∧ j < i + f ∧ p j = true ∧ (∀ k, i ≤ k → k < j → p k = false) ∧ fstI p f i = nI j
  | 0, i, ⟨j, h1, h2, _⟩ => absurd h2 (by omega)
  | f + 1, i, ⟨j, h1, h2, h3⟩ => by
    rw [fstI]
    cases q : p i
    · have ji : j ≠ i := fun z => by rw [z, q] at h3; exact absurd h3 (by decide)
      obtain ⟨k, a, b, c, d, e⟩ := fst_is f (i + 1) ⟨j, by omega, by omega, h3⟩
      refine ⟨k, by omega, by omega, c, fun m hm hmk => ?_, by rw [if_neg (by decide)]; exact e⟩
      by_cases z : m = i
      · rw [z]; exact q
      · exact d m (by omega) hmk
    · exact ⟨i, Nat.le_refl _, by omega, q, fun k h4 h5 => absurd h5 (by omega), by rw [if_pos rfl]⟩
section CW
variable {S : St}
/-- a light that leads nearer, in both -/
theorem low_e (h : Rel S) {b e c k : Nat} (hb : b < 6) (hk : k < nM S) (hc : dst S b (e + 1) c) (hc6 : c < 6) (he : e ≤ 5) : lowP (spF S (nI b)) 30 (nI c) k = decide (hsF (dbM S) (nI k) = true ∧ oN S k = c ∧ awO S b 6 (tN S k) = nI e) := by
  have hP := RL_okP h
  obtain ⟨o6, t6⟩ := oP_lt hP hk
  have hm := bE_okM h.1.1.1
  unfold lowP spF
  rw [owF_sA rfl (by omega), fldF_sA rfl (by omega), fldF_sA rfl (by omega), own_e h hk, fo_e h hk, ft_e h hk, gA_same, stp_n t6, stp_n hc6]
  have sc : stpO S 30 (stp0 (gA S 9) (nI b) 6) 5 c = nI (e + 1) := by
    rcases st_5 h hb hc6 (gA S 9) with ⟨q, m⟩ | ⟨d, hd, q, w⟩
    · exact absurd hc.1 (m _)
    · rw [q, dst_un w hc]
  rw [sc, nI_pred]
  rw [Bool.eq_iff_iff]
  simp only [Bool.and_eq_true, decide_eq_true_eq]
  have e1 : nI (oN S k) = nI c ↔ oN S k = c := nI_eq (by omega) (by omega)
  have e2 : stpO S 30 (stp0 (gA S 9) (nI b) 6) 5 (tN S k) = nI e ↔ awO S b 6 (tN S k) = nI e := by
    rcases st_5 h hb t6 (gA S 9) with ⟨q, m⟩ | ⟨d, hd, q, w⟩
    · rcases aw_6 hP hm.2 hb t6 with ⟨q', m'⟩ | ⟨d', hd', q', w'⟩
      · rw [q, q']
        constructor
        · intro z; exact absurd z (nm9 (by omega))
        · intro z
          rw [far_n] at z
          have := (nI_eq (by omega) (by omega)).mp z
          omega
      · exact absurd w'.1 (m _)
    · rcases aw_6 hP hm.2 hb t6 with ⟨q', m'⟩ | ⟨d', hd', q', w'⟩
      · exact absurd w.1 (m' _)
      · rw [q, q', dst_un w w']
  rw [e1, e2]
theorem path (h : Rel S) {a b d : Nat} (ha : a < 6) (hb : b < 6) (hd : dst S b d a) (hd5 : d ≤ 5) (l : Nat → Nat) (hl : ∀ i, l i = (lowF (spF S (nI b)) 30 (whoR (spF S (nI b)) 30 (nI a) i)).toNatClampNeg) : ∀ i, i ≤ d → (cuM S a l i < 6 ∧ whoR (spF S (nI b)) 30 (nI a) i = nI (cuM S a l i) ∧ dst S b (d - i) (cuM S a l i)) ∧ ∀ j, j < i → l j < nM S ∧ lowF (spF S (nI b)) 30 (whoR (spF S (nI b)) 30 (nI a) j) = nI (l j) ∧ cdM S (awO S b 6) (cuM S a l j) (nI d - nI j - 1) (l j) = true ∧ ∀ k, k < l j → cdM S (awO S b 6) (cuM S a l j) (nI d - nI j - 1) k = false
  | 0, _ => ⟨⟨ha, rfl, hd⟩, fun j hj => absurd hj (by omega)⟩
  | i + 1, hi => by
    obtain ⟨⟨c6, ew, dc⟩, ih⟩ := path h ha hb hd hd5 l hl i (by omega)
    have hm := bE_okM h.1.1.1
    have hP := RL_okP h
    have hN := bE_nM h.1.1.1
    have eL : ∀ c, lowF (spF S (nI b)) 30 (nI c) = fstI (lowP (spF S (nI b)) 30 (nI c)) (nM S) 0 := fun c => by rw [hN]; rfl
    generalize hc : cuM S a l i = c at c6 ew dc
    have ei : d - i = (d - i - 1) + 1 := by omega
    rw [ei] at dc
    have lp := fun k hk => low_e h (b := b) (e := d - i - 1) (c := c) (k := k) hb hk dc c6 (by omega)
    obtain ⟨k0, hk0, w0⟩ := dst_st dc
    have t06 := (oP_lt hP hk0.1).2
    have a0 : awO S b 6 (tN S k0) = nI (d - i - 1) := by
      rcases aw_6 hP hm.2 hb t06 with ⟨q', m'⟩ | ⟨d', hd', q', w'⟩
      · exact absurd w0.1 (m' _)
      · rw [q', dst_un w' w0]
    obtain ⟨j, j1, j2, j3, j4, j5⟩ := fst_is (p := lowP (spF S (nI b)) 30 (nI c)) (nM S) 0 ⟨k0, Nat.zero_le _, by have := hk0.1; omega, by rw [lp k0 hk0.1]; exact decide_eq_true ⟨hk0.2.1, hk0.2.2, a0⟩⟩
    have jN : j < nM S := by omega
    have lj : l i = j := by rw [hl, ew, eL, j5, nI_clamp (by have := hm.2; omega)]
    have ev : nI d - nI i - 1 = nI (d - i - 1) := by rw [pk_sub (by omega), show (1 : Int32) = nI 1 from rfl, pk_sub (by omega)]
    have cd : ∀ k, k < nM S → cdM S (awO S b 6) c (nI d - nI i - 1) k = lowP (spF S (nI b)) 30 (nI c) k := fun k hk => by
      rw [lp k hk, ev]
      unfold cdM
      rw [(hP k hk).1.1, Bool.eq_iff_iff]
      have o6 := (oP_lt hP hk).1
      simp only [Bool.and_eq_true, decide_eq_true_eq, nI_eq (show oN S k < 2 ^ 31 by omega) (show c < 2 ^ 31 by omega)]
      constructor
      · rintro ⟨⟨x, y⟩, z⟩; exact ⟨x, y, z⟩
      · rintro ⟨x, y, z⟩; exact ⟨⟨x, y⟩, z⟩
    rw [lp j jN] at j3
    obtain ⟨q1, q2, q3⟩ := of_decide_eq_true j3
    have tj6 := (oP_lt hP jN).2
    have dj : dst S b (d - (i + 1)) (tN S j) := by
      rcases aw_6 hP hm.2 hb tj6 with ⟨q', m'⟩ | ⟨d', hd', q', w'⟩
      · rw [q', far_n] at q3
        have := (nI_eq (by omega) (by omega)).mp q3
        omega
      · rw [q'] at q3
        have := (nI_eq (by omega) (by omega)).mp q3
        rw [show d - (i + 1) = d' by omega]
        exact w'
    refine ⟨⟨?_, ?_, ?_⟩, fun m hmi => ?_⟩
    · rw [cuM, lj]; exact tj6
    · rw [whoR, ew, eL, j5, cuM, lj]
      unfold spF
      rw [fldF_sA rfl (by omega)]
      exact ft_e h jN
    · rw [cuM, lj]; exact dj
    · rcases Nat.lt_or_ge m i with g | g
      · exact ih m g
      · have em : m = i := by omega
        subst em
        rw [hc, lj, ew, eL, j5]
        refine ⟨jN, rfl, ?_, fun k hk => ?_⟩
        · rw [cd j jN, lp j jN]; exact j3
        · rw [cd k (by omega)]; exact j4 k (Nat.zero_le _) hk
end CW
theorem p_chain (E : En) {S : St} (h : Rel S) (x y r : Int32) : PRi E i_X8_chain i_X9_chain S [.int x, .int y, .int r] := by
  have hB := h.1.1.1
  have hm := bE_okM hB
  have hP := RL_okP h
  by_cases hr : idxF 6 r = true
  · obtain ⟨n, hn, rfl⟩ := idx_nat (by omega) hr
    by_cases c : persF x = true ∧ persF y = true
    · obtain ⟨c1, c2⟩ := c
      obtain ⟨a, rfl, ha, -⟩ := pers_nat c1
      obtain ⟨b, rfl, hb, -⟩ := pers_nat c2
      have c9 : inF (nI a).toInt64 0 5 = true ∧ inF (nI b).toInt64 0 5 = true ∧ idxF 6 (nI n) = true := ⟨pers_05.mp c1, pers_05.mp c2, hr⟩
      have es : stpA (gA (spF S (nI b)) 9) (nI a) = stpO S 30 (stp0 (gA S 9) (nI b) 6) 5 a := by
        rw [stp_n ha]; unfold spF; rw [gA_same]
      have s59 : gA (spF S (nI b)) 59 = gA S 59 := by unfold spF; rw [gA_ne (by omega)]
      have s68 : gA (spF S (nI b)) 68 = gA S 68 := by unfold spF; rw [gA_ne (by omega)]
      rcases st_5 h hb ha (gA S 9) with ⟨q, m⟩ | ⟨d, hd5, q, w⟩
      · have A : awO S b 6 a = 1000000 := by
          rcases aw_6 hP hm.2 hb ha with ⟨q', _⟩ | ⟨d', _, _, w'⟩
          · exact q'
          · exact absurd w'.1 (m _)
        refine pr_mk (c_X8_chain_no E S (nI a) (nI b) n hB.1 hn c1 c2 (fun z => z (es.trans q))) (c_X9_chain_no E (spF S (nI b)) a b n (okM_w s59 hm) (okP_w s59 hP) ha hb hn c9 (by rw [awO_w s59 s68, A]; exact Int32.le_refl _)) rfl ?_
        unfold spF
        exact RL_as h (sameW_sA (sameW_sA (sameW_rf S) (by omega)) (by omega)) ⟨rfl, rfl, rfl, rfl, rfl, rfl, rfl, rfl⟩ h.2.2.2.1
      · have A : awO S b 6 a = nI d := by
          rcases aw_6 hP hm.2 hb ha with ⟨_, m'⟩ | ⟨d', _, q', w'⟩
          · exact absurd w.1 (m' _)
          · rw [q', dst_un w' w]
        have c8 := c_X8_chain_ok E S (nI a) (nI b) n d hB.1 hn c1 c2 (es.trans q) (by omega)
        generalize hG : spF S (nI b) = G at c8
        obtain ⟨l, hl⟩ : ∃ l : Nat → Nat, ∀ i, l i = (lowF (spF S (nI b)) 30 (whoR (spF S (nI b)) 30 (nI a) i)).toNatClampNeg := ⟨_, fun _ => rfl⟩
        have pth := path h ha hb w hd5 l hl d (Nat.le_refl _)
        rw [hG] at pth
        obtain ⟨-, pj⟩ := pth
        generalize hC : chnG G 30 (nI a) (fillF (gA G (10 + n + 10)) 0 d) d = C at c8
        have aG : ∀ k, k ≠ 9 → gA G k = gA S k := fun k hk => by rw [← hG]; unfold spF; exact gA_ne hk
        have iG : ∀ k j, gI G k j = gI S k j := fun k j => by rw [← hG]; rfl
        have lG : ∀ k j, gL G k j = gL S k j := fun k j => by rw [← hG]; rfl
        generalize hT : sA (sI G (10 + n) 1 (nI d)) (10 + n + 10) C = T at c8
        have aT : ∀ k, k ≠ 9 → k ≠ 10 + n + 10 → gA T k = gA S k := fun k h1 h2 => by rw [← hT, gA_ne h2]; exact aG k h1
        have cT : gA T (10 + n + 10) = C := by rw [← hT, gA_same]
        have iT : ∀ k j, ¬ (k = 10 + n ∧ j = 1) → gI T k j = gI S k j := fun k j h1 => by rw [← hT, gI_sA, gI_ne h1, iG]
        have iT1 : gI T (10 + n) 1 = nI d := by rw [← hT, gI_sA, gI_same]
        have t59 : gA T 59 = gA S 59 := aT 59 (by omega) (by omega)
        have t68 : gA T 68 = gA S 68 := aT 68 (by omega) (by omega)
        have c9' := c_X9_chain_ok E T a b n d l (okM_w t59 hm) (okP_w t59 hP) ha hb hn c9 (by rw [awO_w t59 t68, A]) hd5 (fun i hi => by
          obtain ⟨p1, -, p3, p4⟩ := pj i hi
          rw [nM_w t59, awO_w t59 t68, cuM_w t59]
          exact ⟨p1, by rw [cdM_w t59]; exact p3, fun k hk => by rw [cdM_w t59]; exact p4 k hk⟩)
        refine pr_mk c8 c9' rfl ?_
        have eC : ∀ i, i < d → C i = nI (l i) := fun i hi => by
          rw [← hC]
          unfold chnG
          rw [if_pos hi]
          exact (pj i hi).2.1
        generalize hP2 : paM (fllF (gA T 61) (40 * n) 0 40) n l d = P
        have eP : ∀ i, P i = if 40 * n ≤ i ∧ i < 40 * n + d then nI (l (i - 40 * n)) else if 40 * n ≤ i ∧ i < 40 * n + 40 then 0 else gA S 61 i := fun i => by
          rw [← hP2, paM_at]
          unfold fllF
          rw [aT 61 (by omega) (by omega)]
        generalize hX : sA (chU T b n d) 61 P = X
        have aX : ∀ k, k ≠ 60 → k ≠ 61 → k ≠ 68 → gA X k = gA T k := fun k h1 h2 h3 => by
          rw [← hX, gA_ne h2]; unfold chU; rw [gA_ne h2, gA_ne h1, gA_ne h3]
        have X61 : gA X 61 = P := by rw [← hX, gA_same]
        have X60 : gA X 60 = upd (gA S 60) n (nI d) := by
          rw [← hX, gA_ne (by omega)]; unfold chU; rw [gA_ne (by omega), gA_same, aT 60 (by omega) (by omega)]
        have iX : ∀ k j, gI X k j = gI T k j := fun k j => by rw [← hX]; rfl
        have lX : ∀ k j, gL X k j = gL S k j := fun k j => by rw [← hX, ← lG k j, ← hT]; rfl
        have aO : ∀ k, k ≠ 9 → k ≠ 10 + n + 10 → k ≠ 60 → k ≠ 61 → k ≠ 68 → gA X k = gA S k := fun k h1 h2 h3 h4 h5 => by rw [aX k h3 h4 h5, aT k h1 h2]
        have iO : ∀ k j, ¬ (k = 10 + n ∧ j = 1) → gI X k j = gI S k j := fun k j h1 => by rw [iX, iT k j h1]
        refine RL_mk h ⟨fun k j h1 h2 => iO k j (by omega), fun k h1 h2 => aO k (by omega) (by omega) (by omega) (by omega) (by omega)⟩ ?_ ?_ ?_
        · refine rwE_set (n0 := n) h.1.2.2.1 (fun k hk hne => iO _ _ (by omega)) (fun k hne => ?_) (fun k hk hne => aO _ (by omega) (by omega) (by omega) (by omega) (by omega)) (fun k i hne hi => ?_) (Or.inr ⟨d, by omega, (iX _ _).trans iT1, ?_, fun i hi => ?_⟩)
          · rw [X60, pk_un hne]
          · rw [X61, eP, if_neg (by omega), if_neg (by omega)]
          · rw [X60, pk_us]
          · rw [aX _ (by omega) (by omega) (by omega), cT, X61, eC i hi, eP, if_pos (by omega), show 40 * n + i - 40 * n = i by omega]
        · exact rwE_of h.1.2.2.2 (fun k hk => iO _ _ (by omega)) (fun k hk => by rw [aO _ (by omega) (by omega) (by omega) (by omega) (by omega)]) (fun k hk i hi => by rw [aO _ (by omega) (by omega) (by omega) (by omega) (by omega)]) (fun k hk i hi => by rw [aO _ (by omega) (by omega) (by omega) (by omega) (by omega)])
        · exact RLt_same h.2 ⟨aO 4 (by omega) (by omega) (by omega) (by omega) (by omega), aO 64 (by omega) (by omega) (by omega) (by omega) (by omega), iO 0 7 (by omega), iO 58 5 (by omega), lX _ _, lX _ _, lX _ _, lX _ _⟩ (iO 0 8 (by omega)) (iO 58 7 (by omega))
    · refine pr_no h (c_X8_chain_bad E S x y n hB.1 hn c) (c_X9_chain_bad E S x y (nI n) (fun z => c ⟨pers_05.mpr z.1, pers_05.mpr z.2.1⟩))
  · exact pr_no h (c_X8_chain_bad0 E S x y r (bF hr)) (c_X9_chain_bad E S x y r (fun z => hr z.2.2))
