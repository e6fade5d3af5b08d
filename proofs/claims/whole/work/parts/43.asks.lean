/-! WHAT IS ASKED of the bank: light, mark, glows, bright, along, when, dark, owes, ring, rings, least -/
theorem in_b {x lo hi : Int32} {L H : Int64} (hL : L.toInt = lo.toInt) (hH : H.toInt = hi.toInt) : inF x.toInt64 L H = true ↔ (¬ x < lo ∧ x ≤ hi) := by
  unfold inF
  simp only [Bool.and_eq_true, Bool.not_eq_true', decide_eq_false_iff_not]
  rw [Int64.lt_iff_toInt_lt, Int64.lt_iff_toInt_lt, Int32.lt_iff_toInt_lt, Int32.le_iff_toInt_le, Int32.toInt_toInt64, hL, hH]
  omega
theorem in_06 {x : Int32} : inF x.toInt64 0 6 = true ↔ (¬ x < 0 ∧ x ≤ 6) := in_b (by decide) (by decide)
theorem in_099 {x : Int32} : inF x.toInt64 0 99 = true ↔ (¬ x < 0 ∧ x ≤ 99) := in_b (by decide) (by decide)
theorem in_0200 {x : Int32} : inF x.toInt64 0 200 = true ↔ (¬ x < 0 ∧ x ≤ 200) := in_b (by decide) (by decide)
theorem in_05 {x : Int32} : inF x.toInt64 0 5 = true ↔ (¬ x < 0 ∧ x ≤ 5) := in_b (by decide) (by decide)
theorem in_04 {x : Int32} : inF x.toInt64 0 4 = true ↔ (¬ x < 0 ∧ x ≤ 4) := in_b (by decide) (by decide)
theorem in_012 {x : Int32} : inF x.toInt64 0 12 = true ↔ (¬ x < 0 ∧ x ≤ 12) := in_b (by decide) (by decide)
theorem in_110 {x : Int32} : inF x.toInt64 1 10 = true ↔ (¬ x < 1 ∧ x ≤ 10) := in_b (by decide) (by decide)
theorem in_120 {x : Int32} : inF x.toInt64 1 20 = true ↔ (¬ x < 1 ∧ x ≤ 20) := in_b (by decide) (by decide)
theorem in_sd {x : Int32} : inF x.toInt64 1 2147483646 = true ↔ (¬ x < 1 ∧ x ≤ 2147483646) := in_b (by decide) (by decide)
theorem bF {b : Bool} (h : ¬ b = true) : b = false := by simpa using h
section AS
variable {S : St}
theorem lt_get (h : Rel S) {k : Int32} (q : hasF S 30 k = true) : ∃ j, k = nI j ∧ j < szB S 30 ∧ j < nM S := by
  obtain ⟨j, e, hj, -, -⟩ := has_nat h.1.1.1.1 q
  exact ⟨j, e, hj, by rw [bE_nM h.1.1.1]; exact hj⟩
theorem lt_idx (h : Rel S) {k : Int32} : hasF S 30 k = idxF (nM S) k := by rw [bE_nM h.1.1.1]; exact has_idx h.1.1.1.1
/-- a light's parts -/
theorem lt_k (h : Rel S) {k : Nat} (hk : k < nM S) : ∃ m, m < 6 ∧ gA S 59 (11 + k) = nI m := ((wr_of h.1.1.1 h.1.1.2.1).2 k hk).1
theorem lt_o (h : Rel S) {k : Nat} (hk : k < nM S) : ∃ m, m < 6 ∧ gA S 59 (19 + k) = nI m := ((wr_of h.1.1.1 h.1.1.2.1).2 k hk).2.1
theorem lt_t (h : Rel S) {k : Nat} (hk : k < nM S) : ∃ m, m < 6 ∧ gA S 59 (27 + k) = nI m := ((wr_of h.1.1.1 h.1.1.2.1).2 k hk).2.2.1
theorem lt_p (h : Rel S) {k : Nat} (hk : k < nM S) : ∃ m, m < 10 ∧ gA S 59 (3 + k) = nI m := ((wr_of h.1.1.1 h.1.1.2.1).2 k hk).2.2.2.1
theorem lt_f (h : Rel S) {k : Nat} (hk : k < nM S) : ∃ m, m < 10 ∧ gA S 59 (35 + k) = nI m := ((wr_of h.1.1.1 h.1.1.2.1).2 k hk).2.2.2.2
theorem lt_nt (h : Rel S) : ∃ m, m ≤ 40 ∧ gA S 59 1 = nI m := by
  obtain ⟨m, hm, e⟩ := h.1.1.2.1.2.2.1
  exact ⟨m, hm, (n_night h.1.1.1).trans e⟩
theorem lt_li (h : Rel S) : ∃ m, m < 2 ^ nM S ∧ gA S 59 2 = nI m := by
  obtain ⟨m, hm, e⟩ := h.1.1.2.1.2.2.2.1
  exact ⟨m, by rw [bE_nM h.1.1.1]; exact hm, (n_lit h.1.1.1).trans e⟩
theorem RL_okP (h : Rel S) : okP S := by
  intro n hn
  obtain ⟨a, ha, ea⟩ := lt_o h hn
  obtain ⟨b, hb, eb⟩ := lt_t h hn
  unfold oN tN
  rw [ea, eb, nI_clamp (by omega), nI_clamp (by omega)]
  exact ⟨⟨rfl, ha⟩, rfl, hb⟩
theorem no_0 (h : Rel S) : gA S 59 0 = gI S 30 6 := n_no h.1.1.1
end AS
section AC
theorem p_light (E : En) {S : St} (h : Rel S) (k w : Int32) : PRi E i_X8_light i_X9_light S [.int k, .int w] := by
  have hz := h.1.1.1.1
  have hm := bE_okM h.1.1.1
  by_cases q : hasF S 30 k = true ∧ ¬ w < 0 ∧ w ≤ 6
  · obtain ⟨q1, q2, q3⟩ := q
    obtain ⟨j, rfl, hj, hj2⟩ := lt_get h q1
    exact pr_as h (c_X8_light_ok E S (nI j) w hz q1 q2 q3) (c_X9_light_ok E _ j w hm hj2 (in_06.mpr ⟨q2, q3⟩)) rfl (part_lt h.1.1.1 hj).symm
  · exact pr_no h (c_X8_light_bad E S k w hz q) (c_X9_light_bad E S k w hm (fun z => q ⟨(lt_idx h).trans z.1, in_06.mp z.2⟩))
theorem isOf_is {a w : Nat} (ha : a < 6) (hw : w < 6) (h0 : 0 < w) : isOfF (nI a) (nI w) = isAM (nI a) (nI w) := by
  have z : ∀ a w : Fin 6, 0 < w.1 → isOfF (nI a.1) (nI w.1) = isAM (nI a.1) (nI w.1) := by decide +kernel
  exact z ⟨a, ha⟩ ⟨w, hw⟩ h0
theorem sg1 (a b : Int32) : -(a - b) = b - a := Int32.neg_sub
theorem sg2 (a b c : Int32) : a - b + c = c + a - b := by grind
theorem sg3 (a b c : Int32) : c - (a - b) = c + b - a := by grind
theorem sign_is {a w : Nat} (ha : a < 6) (hw : w < 6) (h0 : 0 < w) (hi : isOfF (nI a) (nI w) = true) (f n : Int32) : signF (nI w) (nI a) f n = if nI w = 1 then f - glowF (nI a) f n else if nI w = 2 then 100 + glowF (nI a) f n - f else if nI w = 3 then 100 + f - glowF (nI a) f n else if nI w = 4 then dewF f n - glowF (nI a) f n else glowF (nI a) f n - forF f n := by
  have g0 : glowF 0 f n = f := rfl
  have g2 : glowF 2 f n = dewF f n := rfl
  have g3 : glowF 3 f n = forF f n := rfl
  have hw5 : w = 1 ∨ w = 2 ∨ w = 3 ∨ w = 4 ∨ w = 5 := by omega
  generalize hg : glowF (nI a) f n = g
  rcases hw5 with rfl | rfl | rfl | rfl | rfl
  · show -(glowF (nI a) f n - glowF 0 f n) = f - g
    rw [g0, hg, sg1]
  · show glowF (nI a) f n - glowF 0 f n + 100 = 100 + g - f
    rw [g0, hg, sg2]
  · show 100 - (glowF (nI a) f n - glowF 0 f n) = 100 + f - g
    rw [g0, hg, sg3]
  · show -(glowF (nI a) f n - glowF 2 f n) = dewF f n - g
    rw [g2, hg, sg1]
  · show glowF (nI a) f n - glowF 3 f n = g - forF f n
    rw [g3, hg]
theorem p_mark (E : En) {S : St} (h : Rel S) (k w : Int32) : PRi E i_X8_mark i_X9_mark S [.int k, .int w] := by
  have hz := h.1.1.1.1
  have hm := bE_okM h.1.1.1
  have hc : inF w.toInt64 1 5 = true ↔ (¬ w ≤ 0 ∧ w < 6) := by
    rw [in_b (x := w) (lo := 1) (hi := 5) (by decide) (by decide), Int32.lt_iff_toInt_lt, Int32.le_iff_toInt_le, Int32.lt_iff_toInt_lt, Int32.le_iff_toInt_le, show (1 : Int32).toInt = 1 by decide, show (5 : Int32).toInt = 5 by decide, show (0 : Int32).toInt = 0 by decide, show (6 : Int32).toInt = 6 by decide]
    omega
  by_cases q : hasF S 30 k = true ∧ ¬ w ≤ 0 ∧ w < 6
  · obtain ⟨q1, q2, q3⟩ := q
    obtain ⟨j, rfl, hj, hj2⟩ := lt_get h q1
    obtain ⟨a, ha, ea⟩ := lt_k h hj2
    obtain ⟨c, hc6, rfl⟩ := ix_of (x := w) (y := 6) (N := 6) rfl (by omega) (fun z => q2 (Int32.le_of_lt z)) (Int32.not_le.mpr q3)
    have c0 : 0 < c := by
      rcases Nat.eq_zero_or_pos c with e | e
      · subst e; exact absurd (by decide) q2
      · exact e
    have e0 : fldF S 30 0 (nI j) = nI a := (n_f0 h.1.1.1 hj).trans ea
    by_cases g : isOfF (fldF S 30 0 (nI j)) (nI c) = true
    · refine pr_eq h (c_X8_mark_ok E S (nI j) (nI c) hz q1 q2 q3 g) (c_X9_mark_ok E S j (nI c) hm hj2 (hc.mpr ⟨q2, q3⟩) (by rw [ea, ← isOf_is ha hc6 c0, ← e0]; exact g)) ?_
      rw [e0] at g ⊢
      rw [sign_is ha hc6 c0 g, n_f4 h.1.1.1 hj, ← n_night h.1.1.1]
      unfold mkM glQ
      rw [ea]
    · exact pr_fnd h (c_X8_mark_u E S (nI j) (nI c) hz q1 q2 q3 g) (c_X9_mark_no E _ j (nI c) hm hj2 (hc.mpr ⟨q2, q3⟩) (by show isAM (gA S 59 (11 + j)) (nI c) = false; rw [ea, ← isOf_is ha hc6 c0, ← e0]; exact bF g))
  · exact pr_no h (c_X8_mark_bad E S k w hz q) (c_X9_mark_bad E S k w hm (fun z => q ⟨(lt_idx h).trans z.1, hc.mp z.2⟩))
theorem p_glows (E : En) {S : St} (h : Rel S) (k w : Int32) : PRi E i_X8_glows i_X9_glows S [.int k, .int w] := by
  have hz := h.1.1.1.1
  have hm := bE_okM h.1.1.1
  by_cases q : hasF S 30 k = true ∧ ¬ w < 0 ∧ w ≤ 99
  · obtain ⟨q1, q2, q3⟩ := q
    obtain ⟨j, rfl, hj, hj2⟩ := lt_get h q1
    exact pr_eq h (c_X8_glows_ok E S (nI j) w hz q1 q2 q3) (c_X9_glows_ok E S j w hm hj2 (in_099.mpr ⟨q2, q3⟩)) (n_glo h.1.1.1 hj).symm
  · exact pr_no h (c_X8_glows_bad E S k w hz q) (c_X9_glows_bad E S k w hm (fun z => q ⟨(lt_idx h).trans z.1, in_099.mp z.2⟩))
theorem p_bright (E : En) {S : St} (h : Rel S) (p : Int32) : PRi E i_X8_bright i_X9_bright S [.int p] := by
  by_cases q : placeF p = true
  · exact pr_eq h (c_X8_bright_ok E S p h.1.1.1.1 q) (c_X9_bright_ok E S p (bE_okM h.1.1.1) q) (bri_brM h.1.1.1).symm
  · exact pr_no h (c_X8_bright_bad E S p h.1.1.1.1 q) (c_X9_bright_bad E S p (bF q))
theorem str_iff {x y : Int32} : strF x y = true ↔ ∃ a z, x = nI a ∧ y = nI z ∧ a ≤ z ∧ z ≤ 9 := by
  unfold strF
  simp only [Bool.and_eq_true, decide_eq_true_eq]
  constructor
  · rintro ⟨⟨p, q⟩, r⟩
    obtain ⟨a, ha, rfl⟩ := idx_nat (m := 10) (by omega) p
    obtain ⟨z, hz, rfl⟩ := idx_nat (m := 10) (by omega) q
    exact ⟨a, z, rfl, rfl, (nI_leI (by omega) (by omega)).mp r, by omega⟩
  · rintro ⟨a, z, rfl, rfl, p, q⟩
    exact ⟨⟨idx_in (m := 10) (by omega) (by omega), idx_in (m := 10) (by omega) (by omega)⟩, nI_le p (by omega)⟩
theorem pl_in {a z : Nat} (h1 : a ≤ z) (h2 : z ≤ 9) : placeF (nI a) = true ∧ inF (nI z).toInt64 (nI a).toInt64 9 = true := by
  refine ⟨idx_in (m := 10) (by omega) (by omega), ?_⟩
  rw [in_b (x := nI z) (lo := nI a) (hi := 9) (Int32.toInt_toInt64 _) (by decide)]
  exact ⟨nI_nlt h1 (by omega), nI_le (a := z) (b := 9) h2 (by omega)⟩
theorem in_str {x y : Int32} (h1 : placeF x = true) (h2 : inF y.toInt64 x.toInt64 9 = true) : strF x y = true := by
  obtain ⟨a, ha, rfl⟩ := idx_nat (m := 10) (by omega) h1
  rw [in_b (lo := nI a) (hi := 9) (Int32.toInt_toInt64 _) (by decide)] at h2
  obtain ⟨z, hz, rfl⟩ := nI_of2 (x := y) (M := 9) (n := 9) (by decide) (fun w => h2.1 (Int32.lt_iff_toInt_lt.mpr (by rw [nI_toInt (by omega)]; have := Int32.lt_iff_toInt_lt.mp w; rw [show (0 : Int32).toInt = 0 by decide] at this; omega))) h2.2
  exact str_iff.mpr ⟨a, z, rfl, rfl, Nat.le_of_not_lt (fun w => h2.1 (nI_lt w (by omega))), hz⟩
theorem p_along (E : En) {S : St} (h : Rel S) (x y : Int32) : PRi E i_X8_along i_X9_along S [.int x, .int y] := by
  by_cases q : strF x y = true
  · obtain ⟨a, z, rfl, rfl, h1, h2⟩ := str_iff.mp q
    obtain ⟨g1, g2⟩ := pl_in h1 h2
    exact pr_eq h (c_X8_along_ok E S a z h.1.1.1.1 (by omega) h2 q) (c_X9_along_ok E S a z (z + 1 - a) (bE_okM h.1.1.1) g1 g2 (by omega) (by omega)) (alo_al h.1.1.1 (by omega)).symm
  · exact pr_no h (c_X8_along_bad E S x y h.1.1.1.1 q) (c_X9_along_bad E S x y (fun z => q (in_str z.1 z.2)))
theorem first_or (P : Nat → Prop) : ∀ N, (∃ n, n ≤ N ∧ P n ∧ ∀ j, j < n → ¬ P j) ∨ ∀ j, j ≤ N → ¬ P j
  | 0 => by
    rcases Classical.em (P 0) with q | q
    · exact Or.inl ⟨0, Nat.le_refl _, q, fun j hj => absurd hj (by omega)⟩
    · exact Or.inr (fun j hj => by rw [Nat.le_zero.mp hj]; exact q)
  | N + 1 => by
    rcases first_or P N with ⟨n, hn, a, b⟩ | z
    · exact Or.inl ⟨n, by omega, a, b⟩
    · rcases Classical.em (P (N + 1)) with q | q
      · exact Or.inl ⟨N + 1, Nat.le_refl _, q, fun j hj => z j (by omega)⟩
      · exact Or.inr (fun j hj => by
          rcases Nat.lt_or_ge j (N + 1) with w | w
          · exact z j (by omega)
          · rw [show j = N + 1 by omega]; exact q)
theorem p_when (E : En) {S : St} (h : Rel S) (p v : Int32) : PRi E i_X8_when i_X9_when S [.int p, .int v] := by
  have hz := h.1.1.1.1
  have hm := bE_okM h.1.1.1
  by_cases q : placeF p = true ∧ ¬ v < 0 ∧ v ≤ 200
  · obtain ⟨q1, q2, q3⟩ := q
    have e : ∀ j, briF S 30 p (gI S 30 8 + nI j) = brR S p (gA S 59 2) (gA S 59 1 + nI j) (nM S) := fun j => by rw [bri_br h.1.1.1, n_night h.1.1.1]
    rcases first_or (fun j => v ≤ briF S 30 p (gI S 30 8 + nI j)) 40 with ⟨n, hn, a, b⟩ | z
    · have eT : ∀ (T : St), gA T 59 = gA S 59 → ∀ j, brR T p (gA T 59 2) (gA T 59 1 + nI j) (nM T) = brR S p (gA S 59 2) (gA S 59 1 + nI j) (nM S) := fun T hT j => by rw [brR_w hT, hT, nM_w hT]
      exact pr_as h (c_X8_when_ok E S p v n hz q1 q2 q3 hn b a) (c_X9_when_ok E _ p v n hm q1 (in_0200.mpr ⟨q2, q3⟩) hn (fun j hj => by have := b j hj; rw [eT _ (by rfl), ← e]; exact this) (by rw [eT _ (by rfl), ← e]; exact a)) rfl (by rw [eT _ (by rfl), ← e])
    · exact pr_no h (c_X8_when_no E S p v hz q1 q2 q3 z) (c_X9_when_no E S p v hm q1 (in_0200.mpr ⟨q2, q3⟩) (fun j hj => by have := z j hj; rw [e] at this; exact this))
  · exact pr_no h (c_X8_when_bad E S p v hz q) (c_X9_when_bad E S p v (fun z => q ⟨z.1, in_0200.mp z.2⟩))
theorem alM_w {S T : St} (e : gA T 59 = gA S 59) {p : Nat} : ∀ n, alM T p n = alM S p n
  | 0 => rfl
  | n + 1 => by rw [alM, alM, alM_w e n, brM_w e]
theorem lowR_eq {x y : Nat → Int32} {w : Nat → Int32} : ∀ n, (∀ i, i < n → x i = y i) → lowR x w n = lowR y w n
  | 0, _ => rfl
  | n + 1, h => by rw [lowR, lowR, lowR_eq n (fun i hi => h i (by omega)), h n (by omega)]
theorem dkM_w {S T : St} (e : gA T 59 = gA S 59) {m c : Nat} : dkM T m c = dkM S m c := lowR_eq c (fun i _ => alM_w e m)
theorem p_dark (E : En) {S : St} (h : Rel S) (x : Int32) : PRi E i_X8_dark i_X9_dark S [.int x] := by
  have hz := h.1.1.1.1
  have hm := bE_okM h.1.1.1
  by_cases q : ¬ x < 1 ∧ x ≤ 10
  · obtain ⟨q1, q2⟩ := q
    by_cases g : gI S 30 6 = 0
    · exact pr_no h (c_X8_dark_st E S x hz q1 q2 (fun z => z g)) (c_X9_dark_no E S x (in_110.mpr ⟨q1, q2⟩) ((no_0 h).trans g))
    · obtain ⟨w, hw, rfl⟩ := nI_of2 (x := x) (M := 10) (n := 10) (by decide) (fun z => q1 (Int32.lt_iff_toInt_lt.mpr (by have := Int32.lt_iff_toInt_lt.mp z; rw [show (0 : Int32).toInt = 0 by decide] at this; rw [show (1 : Int32).toInt = 1 by decide]; omega))) q2
      have w1 : 1 ≤ w := by
        rcases Nat.eq_zero_or_pos w with e | e
        · subst e; exact absurd (by decide) q1
        · exact e
      have e := dark_is h.1.1.1 h.1.1.2.1 w1 hw
      refine pr_as h (c_X8_dark_ok E S w hz w1 hw g) (c_X9_dark_ok E _ w (10 - w + 1) hm (in_110.mpr ⟨q1, q2⟩) (by show ¬ gA S 59 0 = 0; rw [no_0 h]; exact g) w1 (by omega)) ?_ ?_
      · rw [dkM_w (S := S) (T := sI S 0 8 (drkR S w (10 - w)).2) rfl, e]
      · rw [dkM_w (S := S) (T := sI S 0 8 (drkR S w (10 - w)).2) rfl, e]
  · exact pr_no h (c_X8_dark_bad E S x hz q) (c_X9_dark_bad E S x (bF (fun z => q (in_110.mp z))))
theorem pers_05 {x : Int32} : persF x = true ↔ inF x.toInt64 0 5 = true := by
  rw [in_05]
  unfold persF
  simp only [Bool.and_eq_true, Bool.not_eq_true', decide_eq_false_iff_not]
  rw [Int32.lt_iff_toInt_lt, Int32.le_iff_toInt_le, Int32.le_iff_toInt_le, show (5 : Int32).toInt = 5 by decide, show (6 : Int32).toInt = 6 by decide]
  omega
theorem p_owes (E : En) {S : St} (h : Rel S) (x : Int32) : PRi E i_X8_owes i_X9_owes S [.int x] := by
  by_cases q : persF x = true
  · exact pr_eq h (c_X8_owes_ok E S x h.1.1.1.1 q) (c_X9_owes_ok E S x (bE_okM h.1.1.1) (pers_05.mp q)) (bal_ob h.1.1.1).symm
  · exact pr_no h (c_X8_owes_bad E S x h.1.1.1.1 q) (c_X9_owes_bad E S x (bF (fun z => q (pers_05.mpr z))))
/-! sets: what the reference reads is its row w alone -/
theorem isFo_w {S T : St} (e : gA T 59 = gA S 59) : isFoM T = isFoM S := by funext k; unfold isFoM; rw [e]
theorem dbR_w {S T : St} (e : gA T 59 = gA S 59) : ∀ n, dbR T n = dbR S n
  | 0 => rfl
  | n + 1 => by rw [dbR, dbR, dbR_w e n, e, isFo_w e]
theorem dbM_w {S T : St} (e : gA T 59 = gA S 59) : dbM T = dbM S := by unfold dbM; rw [dbR_w e, nM_w e]
theorem obR_w {S T : St} (e : gA T 59 = gA S 59) {x s : Int32} : ∀ n, obR T x s n = obR S x s n
  | 0 => rfl
  | n + 1 => by rw [obR, obR, obR_w e n, e]
theorem obM_w {S T : St} (e : gA T 59 = gA S 59) {x s : Int32} : obM T x s = obM S x s := by unfold obM; rw [obR_w e, nM_w e]
theorem rgM_w {S T : St} (e : gA T 59 = gA S 59) : rgM T = rgM S := by
  funext s
  unfold rgM
  rw [dbM_w e]
  have : (fun x => decide (obM T (nI x) s = 0)) = (fun x => decide (obM S (nI x) s = 0)) := by funext x; rw [obM_w e]
  rw [this]
theorem rbM_w {S T : St} (e : gA T 59 = gA S 59) : ∀ n, rbM T n = rbM S n
  | 0 => rfl
  | n + 1 => by rw [rbM, rbM, rbM_w e n, rgM_w e]
theorem rkM_w {S T : St} (e : gA T 59 = gA S 59) {k : Nat} : ∀ n, rkM T k n = rkM S k n
  | 0 => rfl
  | n + 1 => by rw [rkM, rkM, rkM_w e n, rgM_w e]
theorem lsM_w {S T : St} (e : gA T 59 = gA S 59) {k : Nat} : ∀ n, lsM T k n = lsM S k n
  | 0 => rfl
  | n + 1 => by rw [lsM, lsM, lsM_w e n, rgM_w e]
theorem scr_59 {S : St} {w : Nat → Int32} : gA (scrF S w) 59 = gA S 59 := by unfold scrF; rw [gA_ne (by omega), gA_ne (by omega)]
theorem scs_59 {S : St} {w : Nat → Int32} {a b : Nat} {v : Int32} : gA (sI (scrF S w) a b v) 59 = gA S 59 := scr_59 (w := w)
theorem sW_scr {S T : St} (g : sameW S T) (w : Nat → Int32) : sameW S (scrF T w) := sameW_sA (sameW_sA g (by omega)) (by omega)
theorem p256 {N : Nat} (h : N ≤ 8) : 2 ^ N ≤ 256 := Nat.pow_le_pow_right (n := 2) (by omega) h
/-- the scratch written, and what is asked -/
theorem RL_scr {S : St} (h : Rel S) (w : Nat → Int32) (v : Int32) : Rel (sI (sI (scrF S w) 0 8 v) 58 7 v) := RL_as h (sameW_sI (sameW_sI (sW_scr (sameW_rf S) w) (by omega)) (by omega)) ⟨rfl, rfl, rfl, rfl, rfl, rfl, rfl, rfl⟩ rfl
theorem RL_scr0 {S : St} (h : Rel S) (w : Nat → Int32) : Rel (scrF S w) := RL_as h (sW_scr (sameW_rf S) w) ⟨rfl, rfl, rfl, rfl, rfl, rfl, rfl, rfl⟩ h.2.2.2.1
theorem p_ring (E : En) {S : St} (h : Rel S) : PRi E i_X8_ring i_X9_ring S [] := by
  have hz := h.1.1.1.1
  have hm := bE_okM h.1.1.1
  by_cases g : gI S 30 6 = 0
  · exact pr_no h (c_X8_ring_st E S hz (fun z => z g)) (c_X9_ring_no E S ((no_0 h).trans g))
  · have h8 := p256 hm.2
    obtain ⟨⟨j, hj, ej⟩, e⟩ := lr_rb h.1.1.1 (RL_okP h) (2 ^ nM S) h8
    have e2 : lrF S = rbM S (2 ^ nM S) := by unfold lrF; rw [← bE_nM h.1.1.1]; exact e
    have e3 : ∀ v, rbM (sI (scrF S (deW S 30)) 0 8 v) (2 ^ nM (sI (scrF S (deW S 30)) 0 8 v)) = rbM S (2 ^ nM S) := fun v => by rw [nM_w (S := S) (T := sI (scrF S (deW S 30)) 0 8 v) scs_59, rbM_w (S := S) (T := sI (scrF S (deW S 30)) 0 8 v) scs_59]
    refine pr_mk (c_X8_ring_ok E S hz g) (c_X9_ring_ok E _ (okM_w (S := S) (scs_59 (w := deW S 30)) hm) (by show ¬ gA (scrF S (deW S 30)) 59 0 = 0; rw [scr_59, no_0 h]; exact g)) ?_ ?_
    · rw [e3, e2, ej, bc_on hj]
    · rw [e3, e2]; exact RL_scr h _ _
theorem p_rings (E : En) {S : St} (h : Rel S) (k : Int32) : PRi E i_X8_rings i_X9_rings S [.int k] := by
  have hz := h.1.1.1.1
  have hm := bE_okM h.1.1.1
  by_cases q : hasF S 30 k = true
  · obtain ⟨j, rfl, hj, hj2⟩ := lt_get h q
    have h8 := p256 hm.2
    refine pr_mk (c_X8_rings_ok E S (nI j) hz q) (c_X9_rings_ok E _ j (okM_w (S := S) scr_59 hm) (by rw [nM_w (S := S) scr_59]; exact hj2)) ?_ (RL_scr0 h _)
    rw [nM_w (S := S) scr_59, rkM_w (S := S) scr_59, ← bE_nM h.1.1.1, rk_is h.1.1.1 (RL_okP h) _ h8]
  · exact pr_no h (c_X8_rings_bad E S k hz q) (c_X9_rings_bad E S k hm (by rw [← lt_idx h]; exact bF q))
theorem p_least (E : En) {S : St} (h : Rel S) (k : Int32) : PRi E i_X8_least i_X9_least S [.int k] := by
  have hz := h.1.1.1.1
  have hm := bE_okM h.1.1.1
  by_cases q : hasF S 30 k = true
  · obtain ⟨j, rfl, hj, hj2⟩ := lt_get h q
    have h8 := p256 hm.2
    obtain ⟨⟨i, hi, ei⟩, e⟩ := sr_ls h.1.1.1 (RL_okP h) (k := j) (2 ^ nM S) h8
    have e2 : srF S (nI j) = lsM S j (2 ^ nM S) := by unfold srF; rw [← bE_nM h.1.1.1]; exact e
    have e3 : ∀ v, lsM (sI (scrF S (deW S 30)) 0 8 v) j (2 ^ nM (sI (scrF S (deW S 30)) 0 8 v)) = lsM S j (2 ^ nM S) := fun v => by rw [nM_w (S := S) (T := sI (scrF S (deW S 30)) 0 8 v) scs_59, lsM_w (S := S) (T := sI (scrF S (deW S 30)) 0 8 v) scs_59]
    by_cases g : srF S (nI j) = 0
    · refine pr_mk (c_X8_least_no E S (nI j) hz q (fun z => z g)) (c_X9_least_no E _ j (okM_w (S := S) scr_59 hm) (by rw [nM_w (S := S) scr_59]; exact hj2) ?_) rfl (RL_scr0 h _)
      rw [nM_w (S := S) scr_59, lsM_w (S := S) scr_59, ← e2]; exact g
    · refine pr_mk (c_X8_least_ok E S (nI j) hz q g) (c_X9_least_ok E _ j (okM_w (S := S) (scs_59 (w := deW S 30)) hm) (by rw [nM_w (S := S) (T := sI (scrF S (deW S 30)) 0 8 (srF S (nI j))) scs_59]; exact hj2) ?_) ?_ ?_
      · rw [e3, ← e2]; exact g
      · rw [e3, e2, ei, bc_on hi]
      · rw [e3, e2]; exact RL_scr h _ _
  · exact pr_no h (c_X8_least_bad E S k hz q) (c_X9_least_bad E S k hm (by rw [← lt_idx h]; exact bF q))
end AC
