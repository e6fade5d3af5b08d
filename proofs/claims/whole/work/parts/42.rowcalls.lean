/-! ROWS, TEXTS, WHAT IS TOLD: call by call -/
def sameK (S T : St) : Prop := (∀ k j, 30 ≤ k → k < 34 → gI T k j = gI S k j) ∧ ∀ k, 34 ≤ k → k < 60 → gA T k = gA S k
theorem BK_sameK {S T : St} (g : sameK S T) {b o : Nat} (hb : 30 ≤ b) (hb2 : b < 34) (h : BK S b o) : BK T b o := BK_of h (fun j _ _ => g.1 b j (by omega) (by omega)) (fun j hj k _ => by rw [g.2 _ (by omega) (by omega)]) (fun k _ => by rw [g.2 _ (by omega) (by omega)]) (fun i _ => by rw [g.2 59 (by omega) (by omega)])
theorem RLt_same {S T : St} (h : RLt S) (g : sameT S T) (ha : gI T 0 8 = gI S 0 8) (hb : gI T 58 7 = gI S 58 7) : RLt T := RLt_as h g (by rw [ha, hb]; exact h.2.2.1)
theorem RL_mk {S T : St} (h : Rel S) (g : sameK S T) (hr : rwE T 10 60 61 6 40) (ht : rwE T 16 62 63 4 60) (hT : RLt T) : Rel T := ⟨⟨BK_sameK g (by omega) (by omega) h.1.1, fun n hn => BK_sameK g (by omega) (by omega) (h.1.2.1 n hn), hr, ht⟩, hT⟩
theorem rw_get {S : St} (h : Rel S) {n : Nat} (hn : n < 6) : (gI S (10 + n) 1 = -1 ∧ gA S 60 n = -1) ∨ ∃ m, m ≤ 40 ∧ gI S (10 + n) 1 = nI m ∧ gA S 60 n = nI m ∧ ∀ i, i < m → gA S (10 + n + 10) i = gA S 61 (40 * n + i) := by
  rw [show 10 + n + 10 = 10 + 10 + n by omega]
  exact h.1.2.2.1 n hn
theorem tx_get {S : St} (h : Rel S) {n : Nat} (hn : n < 4) : (gI S (16 + n) 1 = -1 ∧ gA S 62 n = -1) ∨ ∃ m, m ≤ 60 ∧ gI S (16 + n) 1 = nI m ∧ gA S 62 n = nI m ∧ ∀ i, i < m → gA S (16 + n + 10) i = gA S 63 (60 * n + i) := by
  rw [show 16 + n + 10 = 16 + 10 + n by omega]
  exact h.1.2.2.2 n hn
/-- one row changed, the others not -/
theorem rwE_set {S T : St} {k sz dat N M n0 : Nat} (h : rwE S k sz dat N M) (hi : ∀ n, n < N → n ≠ n0 → gI T (k + n) 1 = gI S (k + n) 1) (hs : ∀ n, n ≠ n0 → gA T sz n = gA S sz n) (ha : ∀ n, n < N → n ≠ n0 → gA T (k + 10 + n) = gA S (k + 10 + n)) (hd : ∀ n i, n ≠ n0 → i < M → gA T dat (M * n + i) = gA S dat (M * n + i)) (hx : (gI T (k + n0) 1 = -1 ∧ gA T sz n0 = -1) ∨ ∃ m, m ≤ M ∧ gI T (k + n0) 1 = nI m ∧ gA T sz n0 = nI m ∧ ∀ i, i < m → gA T (k + n0 + 10) i = gA T dat (M * n0 + i)) : rwE T k sz dat N M := by
  intro n hn
  by_cases q : n = n0
  · subst q
    rw [show k + 10 + n = k + n + 10 by omega]
    exact hx
  · rcases h n hn with ⟨a, b⟩ | ⟨m, hm, a, b, c⟩
    · exact Or.inl ⟨(hi n hn q).trans a, (hs n q).trans b⟩
    · exact Or.inr ⟨m, hm, (hi n hn q).trans a, (hs n q).trans b, fun i hi2 => by rw [ha n hn q, hd n i q (by omega)]; exact c i hi2⟩
theorem mis_1 {S : St} {k : Nat} (h : gI S k 1 = -1) : misF S k = true := by unfold misF; rw [h]; decide
theorem holds_idx {S : St} {k m : Nat} {i : Int32} (h : gI S k 1 = nI m) : holdsF S k i = idxF m i := by unfold holdsF idxF; rw [h]
theorem cut3 {x : Int32} {N : Nat} (hN : N < 2 ^ 31) : nI N < x ∨ x < 0 ∨ ∃ m, m ≤ N ∧ x = nI m := by
  by_cases h : x < 0
  · exact Or.inr (Or.inl h)
  by_cases g : nI N < x
  · exact Or.inl g
  · obtain ⟨j, hj, e⟩ := nI_of2 (M := nI N) (nI_toInt hN) h (Int32.not_lt.mp g)
    exact Or.inr (Or.inr ⟨j, hj, e⟩)
section RC
set_option maxRecDepth 20000
theorem p_row (E : En) {S : St} (h : Rel S) (r x : Int32) : PRi E i_X8_row i_X9_row S [.int r, .int x] := by
  by_cases hr : idxF 6 r = true
  · obtain ⟨n, hn, rfl⟩ := idx_nat (by omega) hr
    rcases cut3 (x := x) (N := 40) (by omega) with q | q | ⟨m, hm, rfl⟩
    · exact pr_no h (c_X8_row_big E S n x hn q) (c_X9_row_big E S n x hn q)
    · exact pr_fnd h (c_X8_row_neg E S n x hn q) (c_X9_row_neg E _ n x hn q)
    · refine pr_mk (c_X8_row_ok E S n m hn hm) (c_X9_row_ok E _ n m hn hm) rfl (RL_mk h ?_ ?_ ?_ ?_)
      · exact ⟨fun k j h1 h2 => gI_ne (S := S) (by omega), fun k h1 h2 => by rw [gA_ne (by omega), gA_ne (by omega), gA_ne (by omega)]; rfl⟩
      · refine rwE_set (n0 := n) h.1.2.2.1 (fun k hk hne => gI_ne (S := S) (by omega)) (fun k hne => ?_) (fun k hk hne => ?_) (fun k i hne hi => ?_) (Or.inr ⟨m, hm, gI_same S _ _ _, ?_, fun i hi => ?_⟩)
        · rw [gA_ne (by omega), gA_same, pk_un hne, gA_ne (by omega)]; rfl
        · rw [gA_ne (by omega), gA_ne (by omega), gA_ne (by omega)]; rfl
        · rw [gA_same, gA_ne (by omega)]
          unfold fllF
          rw [if_neg (by omega)]; rfl
        · rw [gA_ne (by omega), gA_same, pk_us]
        · rw [gA_ne (by omega), gA_ne (by omega), gA_same, gA_same]
          unfold fillF fllF
          rw [if_pos hi, if_pos (by omega)]
      · exact rwE_of h.1.2.2.2 (fun k hk => gI_ne (S := S) (by omega)) (fun k hk => by rw [gA_ne (by omega), gA_ne (by omega), gA_ne (by omega)]; rfl) (fun k hk i hi => by rw [gA_ne (by omega), gA_ne (by omega), gA_ne (by omega)]; rfl) (fun k hk i hi => by rw [gA_ne (by omega), gA_ne (by omega), gA_ne (by omega)]; rfl)
      · exact RLt_same h.2 ⟨by rw [gA_ne (by omega), gA_ne (by omega), gA_ne (by omega)]; rfl, by rw [gA_ne (by omega), gA_ne (by omega), gA_ne (by omega)]; rfl, gI_ne (S := S) (by omega), gI_ne (S := S) (by omega), rfl, rfl, rfl, rfl⟩ (gI_ne (S := S) (by omega)) (gI_ne (S := S) (by omega))
  · rw [Bool.not_eq_true] at hr
    exact pr_no h (c_X8_row_bad E S r x hr) (c_X9_row_bad E S r x hr)
theorem p_text (E : En) {S : St} (h : Rel S) (r x : Int32) : PRi E i_X8_text i_X9_text S [.int r, .int x] := by
  by_cases hr : idxF 4 r = true
  · obtain ⟨n, hn, rfl⟩ := idx_nat (by omega) hr
    rcases cut3 (x := x) (N := 60) (by omega) with q | q | ⟨m, hm, rfl⟩
    · exact pr_no h (c_X8_text_big E S n x hn q) (c_X9_text_big E S n x hn q)
    · exact pr_fnd h (c_X8_text_neg E S n x hn q) (c_X9_text_neg E _ n x hn q)
    · refine pr_mk (c_X8_text_ok E S n m hn hm) (c_X9_text_ok E _ n m hn hm) rfl (RL_mk h ?_ ?_ ?_ ?_)
      · exact ⟨fun k j h1 h2 => gI_ne (S := S) (by omega), fun k h1 h2 => by rw [gA_ne (by omega), gA_ne (by omega), gA_ne (by omega)]; rfl⟩
      · exact rwE_of h.1.2.2.1 (fun k hk => gI_ne (S := S) (by omega)) (fun k hk => by rw [gA_ne (by omega), gA_ne (by omega), gA_ne (by omega)]; rfl) (fun k hk i hi => by rw [gA_ne (by omega), gA_ne (by omega), gA_ne (by omega)]; rfl) (fun k hk i hi => by rw [gA_ne (by omega), gA_ne (by omega), gA_ne (by omega)]; rfl)
      · refine rwE_set (n0 := n) h.1.2.2.2 (fun k hk hne => gI_ne (S := S) (by omega)) (fun k hne => ?_) (fun k hk hne => ?_) (fun k i hne hi => ?_) (Or.inr ⟨m, hm, gI_same S _ _ _, ?_, fun i hi => ?_⟩)
        · rw [gA_ne (by omega), gA_same, pk_un hne, gA_ne (by omega)]; rfl
        · rw [gA_ne (by omega), gA_ne (by omega), gA_ne (by omega)]; rfl
        · rw [gA_same, gA_ne (by omega)]
          unfold fllF
          rw [if_neg (by omega)]; rfl
        · rw [gA_ne (by omega), gA_same, pk_us]
        · rw [gA_ne (by omega), gA_ne (by omega), gA_same, gA_same]
          unfold fillF fllF
          rw [if_pos hi, if_pos (by omega)]
      · exact RLt_same h.2 ⟨by rw [gA_ne (by omega), gA_ne (by omega), gA_ne (by omega)]; rfl, by rw [gA_ne (by omega), gA_ne (by omega), gA_ne (by omega)]; rfl, gI_ne (S := S) (by omega), gI_ne (S := S) (by omega), rfl, rfl, rfl, rfl⟩ (gI_ne (S := S) (by omega)) (gI_ne (S := S) (by omega))
  · rw [Bool.not_eq_true] at hr
    exact pr_no h (c_X8_text_bad E S r x hr) (c_X9_text_bad E S r x hr)
theorem p_lay (E : En) {S : St} (h : Rel S) (r i v : Int32) : PRi E i_X8_lay i_X9_lay S [.int r, .int i, .int v] := by
  by_cases hr : idxF 6 r = true
  · obtain ⟨n, hn, rfl⟩ := idx_nat (by omega) hr
    rcases rw_get h hn with ⟨a, b⟩ | ⟨m, hm, a, b, c⟩
    · exact pr_fnd h (c_X8_lay_m E S n i v hn (mis_1 a)) (c_X9_lay_m E _ n i v hn b)
    · by_cases q : idxF m i = true
      · obtain ⟨j, hj, rfl⟩ := idx_nat (by omega) q
        have g60 : ∀ f x, gA (sA (sI S 0 8 x) (10 + n + 10) f) 60 = gA S 60 := fun f x => by rw [gA_ne (by omega)]; rfl
        have g61 : ∀ f x, gA (sA (sI S 0 8 x) (10 + n + 10) f) 61 = gA S 61 := fun f x => by rw [gA_ne (by omega)]; rfl
        refine pr_mk (c_X8_lay_ok E S n j m v hn a hj hm) (c_X9_lay_ok E _ n j m v hn (by rw [g60]; exact b) hm hj) rfl (RL_mk h ?_ ?_ ?_ ?_)
        · refine ⟨fun k j h1 h2 => ?_, fun k h1 h2 => ?_⟩
          · rw [gI_ne (by omega)]; exact gI_ne (S := S) (by omega)
          · show gA (sA (sA (sI S 0 8 _) _ _) 61 _) k = _
            rw [gA_ne (by omega), gA_ne (by omega)]; rfl
        · have key : ∀ k, gA (sI (sA (sA (sI S 0 8 (gA S (10 + n + 10) j)) (10 + n + 10) (upd (gA S (10 + n + 10)) j v)) 61 (upd (gA S 61) (40 * n + j) v)) 58 7 (gA S 61 (40 * n + j))) k = if k = 61 then upd (gA S 61) (40 * n + j) v else if k = 10 + n + 10 then upd (gA S (10 + n + 10)) j v else gA S k := fun k => by
            rw [gA_sI, gA_sA, gA_sA, gA_sI]
          rw [g61]
          refine rwE_set (n0 := n) h.1.2.2.1 (fun k hk hne => ?_) (fun k hne => ?_) (fun k hk hne => ?_) (fun k i hne hi => ?_) (Or.inr ⟨m, hm, ?_, ?_, fun i hi => ?_⟩)
          · rw [gI_ne (by omega)]; exact gI_ne (S := S) (by omega)
          · rw [key, if_neg (by omega), if_neg (by omega)]
          · rw [key, if_neg (by omega), if_neg (by omega)]
          · rw [key, if_pos rfl, pk_un (by omega)]
          · rw [gI_ne (by omega)]; exact (gI_ne (S := S) (by omega)).trans a
          · rw [key, if_neg (by omega), if_neg (by omega)]; exact b
          · rw [key, key, if_neg (by omega), if_pos rfl, if_pos rfl]
            by_cases z : i = j
            · rw [z, pk_us, pk_us]
            · rw [pk_un z, pk_un (by omega)]; exact c i hi
        · refine rwE_of h.1.2.2.2 (fun k hk => ?_) (fun k hk => ?_) (fun k hk i hi => ?_) (fun k hk i hi => ?_)
          · rw [gI_ne (by omega)]; exact gI_ne (S := S) (by omega)
          · rw [gA_sI, gA_ne (by omega), gA_ne (by omega)]; rfl
          · rw [gA_sI, gA_ne (by omega), gA_ne (by omega)]; rfl
          · rw [gA_sI, gA_ne (by omega), gA_ne (by omega)]; rfl
        · refine RLt_as h.2 ⟨?_, ?_, rfl, rfl, rfl, rfl, rfl, rfl⟩ ?_
          · rw [gA_sI, gA_ne (by omega), gA_ne (by omega)]; rfl
          · rw [gA_sI, gA_ne (by omega), gA_ne (by omega)]; rfl
          · rw [g61, gI_same]
            show gA S (10 + n + 10) j = _
            exact c j hj
      · rw [Bool.not_eq_true] at q
        exact pr_fnd h (c_X8_lay_b E S n i v hn (mis_of a (by omega)) ((holds_idx a).trans q)) (c_X9_lay_b E _ n m i v hn b hm q)
  · rw [Bool.not_eq_true] at hr
    exact pr_no h (c_X8_lay_bad E S r i v hr) (c_X9_lay_bad E S r i v hr)
theorem p_at (E : En) {S : St} (h : Rel S) (r i : Int32) : PRi E i_X8_at i_X9_at S [.int r, .int i] := by
  by_cases hr : idxF 6 r = true
  · obtain ⟨n, hn, rfl⟩ := idx_nat (by omega) hr
    rcases rw_get h hn with ⟨a, b⟩ | ⟨m, hm, a, b, c⟩
    · exact pr_fnd h (c_X8_at_m E S n i hn (mis_1 a)) (c_X9_at_m E _ n i hn b)
    · by_cases q : idxF m i = true
      · obtain ⟨j, hj, rfl⟩ := idx_nat (by omega) q
        exact pr_as h (c_X8_at_ok E S n j m hn a hj hm) (c_X9_at_ok E _ n j m hn b hm hj) rfl (c j hj).symm
      · rw [Bool.not_eq_true] at q
        exact pr_fnd h (c_X8_at_b E S n i hn (mis_of a (by omega)) ((holds_idx a).trans q)) (c_X9_at_b E _ n m i hn b hm q)
  · rw [Bool.not_eq_true] at hr
    exact pr_no h (c_X8_at_bad E S r i hr) (c_X9_at_bad E S r i hr)
theorem p_put (E : En) {S : St} (h : Rel S) (r i v : Int32) : PRi E i_X8_put i_X9_put S [.int r, .int i, .int v] := by
  by_cases hr : idxF 4 r = true
  · obtain ⟨n, hn, rfl⟩ := idx_nat (by omega) hr
    rcases tx_get h hn with ⟨a, b⟩ | ⟨m, hm, a, b, c⟩
    · exact pr_fnd h (c_X8_put_m E S n i v hn (mis_1 a)) (c_X9_put_m E _ n i v hn b)
    · by_cases q : idxF m i = true
      · obtain ⟨j, hj, rfl⟩ := idx_nat (by omega) q
        have g62 : ∀ f, gA (sA S (16 + n + 10) f) 62 = gA S 62 := fun f => by rw [gA_ne (by omega)]
        have g63 : ∀ f, gA (sA S (16 + n + 10) f) 63 = gA S 63 := fun f => by rw [gA_ne (by omega)]
        refine pr_mk (c_X8_put_ok E S n j m v hn a hj hm) (c_X9_put_ok E _ n j m v hn (by rw [g62]; exact b) hm hj) (by rw [g63, c j hj]) (RL_mk h ?_ ?_ ?_ ?_)
        · exact ⟨fun k j h1 h2 => rfl, fun k h1 h2 => by rw [gA_ne (by omega), gA_ne (by omega)]⟩
        · exact rwE_of h.1.2.2.1 (fun k hk => rfl) (fun k hk => by rw [gA_ne (by omega), gA_ne (by omega)]) (fun k hk i hi => by rw [gA_ne (by omega), gA_ne (by omega)]) (fun k hk i hi => by rw [gA_ne (by omega), gA_ne (by omega)])
        · rw [g63]
          have key : ∀ k, gA (sA (sA S (16 + n + 10) (upd (gA S (16 + n + 10)) j v.toInt8.toInt32)) 63 (upd (gA S 63) (60 * n + j) v.toInt8.toInt32)) k = if k = 63 then upd (gA S 63) (60 * n + j) v.toInt8.toInt32 else if k = 16 + n + 10 then upd (gA S (16 + n + 10)) j v.toInt8.toInt32 else gA S k := fun k => by
            rw [gA_sA, gA_sA]
          refine rwE_set (n0 := n) h.1.2.2.2 (fun k hk hne => rfl) (fun k hne => ?_) (fun k hk hne => ?_) (fun k i hne hi => ?_) (Or.inr ⟨m, hm, a, ?_, fun i hi => ?_⟩)
          · rw [key, if_neg (by omega), if_neg (by omega)]
          · rw [key, if_neg (by omega), if_neg (by omega)]
          · rw [key, if_pos rfl, pk_un (by omega)]
          · rw [key, if_neg (by omega), if_neg (by omega)]; exact b
          · rw [key, key, if_neg (by omega), if_pos rfl, if_pos rfl]
            by_cases z : i = j
            · rw [z, pk_us, pk_us]
            · rw [pk_un z, pk_un (by omega)]; exact c i hi
        · exact RLt_same h.2 ⟨by rw [gA_ne (by omega), gA_ne (by omega)], by rw [gA_ne (by omega), gA_ne (by omega)], rfl, rfl, rfl, rfl, rfl, rfl⟩ rfl rfl
      · rw [Bool.not_eq_true] at q
        exact pr_fnd h (c_X8_put_b E S n i v hn (mis_of a (by omega)) ((holds_idx a).trans q)) (c_X9_put_b E _ n m i v hn b hm q)
  · rw [Bool.not_eq_true] at hr
    exact pr_no h (c_X8_put_bad E S r i v hr) (c_X9_put_bad E S r i v hr)
theorem p_tear (E : En) {S : St} (h : Rel S) (r : Int32) : PRi E i_X8_tear i_X9_tear S [.int r] := by
  by_cases hr : idxF 6 r = true
  · obtain ⟨n, hn, rfl⟩ := idx_nat (by omega) hr
    rcases rw_get h hn with ⟨a, b⟩ | ⟨m, hm, a, b, c⟩
    · exact pr_fnd h (c_X8_tear_m E S n hn (mis_1 a)) (c_X9_tear_m E _ n hn b)
    · refine pr_mk (c_X8_tear_ok E S n hn (mis_of a (by omega))) (c_X9_tear_ok E _ n m hn b hm) rfl (RL_mk h ?_ ?_ ?_ ?_)
      · exact ⟨fun k j h1 h2 => gI_ne (S := S) (by omega), fun k h1 h2 => by rw [gA_ne (by omega)]; rfl⟩
      · refine rwE_set (n0 := n) h.1.2.2.1 (fun k hk hne => gI_ne (S := S) (by omega)) (fun k hne => ?_) (fun k hk hne => ?_) (fun k i hne hi => ?_) (Or.inl ⟨gI_same S _ _ _, ?_⟩)
        · rw [gA_same, pk_un hne]; rfl
        · rw [gA_ne (by omega)]; rfl
        · rw [gA_ne (by omega)]; rfl
        · rw [gA_same, pk_us]
      · exact rwE_of h.1.2.2.2 (fun k hk => gI_ne (S := S) (by omega)) (fun k hk => by rw [gA_ne (by omega)]; rfl) (fun k hk i hi => by rw [gA_ne (by omega)]; rfl) (fun k hk i hi => by rw [gA_ne (by omega)]; rfl)
      · exact RLt_same h.2 ⟨rfl, rfl, gI_ne (S := S) (by omega), gI_ne (S := S) (by omega), rfl, rfl, rfl, rfl⟩ (gI_ne (S := S) (by omega)) (gI_ne (S := S) (by omega))
  · rw [Bool.not_eq_true] at hr
    exact pr_no h (c_X8_tear_bad E S r hr) (c_X9_tear_bad E S r hr)
theorem sumL_eq {f g : Nat → Int32} : ∀ m, (∀ i, i < m → f i = g i) → sumL f m = sumL g m
  | 0, _ => rfl
  | m + 1, h => by rw [sumL, sumL, sumL_eq m (fun i hi => h i (by omega)), h m (by omega)]
theorem p_mean (E : En) {S : St} (h : Rel S) (r : Int32) : PRi E i_X8_mean i_X9_mean S [.int r] := by
  by_cases hr : idxF 6 r = true
  · obtain ⟨n, hn, rfl⟩ := idx_nat (by omega) hr
    rcases rw_get h hn with ⟨a, b⟩ | ⟨m, hm, a, b, c⟩
    · exact pr_fnd h (c_X8_mean_m E S n hn (mis_1 a)) (c_X9_mean_m E _ n hn b)
    · rcases Nat.eq_zero_or_pos m with rfl | q
      · exact pr_fnd h (c_X8_mean_0 E S n hn a) (c_X9_mean_0 E _ n hn b)
      · exact pr_as h (c_X8_mean_ok E S n m hn a q hm) (c_X9_mean_ok E _ n m hn b q hm) rfl (by rw [sumL_eq m c]; rfl)
  · rw [Bool.not_eq_true] at hr
    exact pr_no h (c_X8_mean_bad E S r hr) (c_X9_mean_bad E S r hr)
theorem run_iff {T : St} {k m : Nat} {i z : Int32} (hm : gI T k 1 = nI m) (hM : m ≤ 60) (hz : ¬ z < 0) : runF T k i z = true ↔ ∃ a c, i = nI a ∧ z = nI c ∧ a + c ≤ m := by
  constructor
  · intro q
    unfold runF at q
    rw [hm] at q
    simp only [Bool.and_eq_true, Bool.not_eq_true', decide_eq_false_iff_not, decide_eq_true_eq] at q
    obtain ⟨⟨⟨-, -⟩, q3⟩, q4⟩ := q
    obtain ⟨a, ha, rfl⟩ := nI_of q3
    obtain ⟨c, hc, rfl⟩ := nI_of hz
    refine ⟨a, c, rfl, rfl, ?_⟩
    rw [Int32.le_iff_toInt_le, nI_toInt ha, Int32.toInt_sub, nI_toInt (show m < 2 ^ 31 by omega), nI_toInt hc, Int.bmod_eq_of_le (by omega) (by omega)] at q4
    omega
  · rintro ⟨a, c, rfl, rfl, q⟩
    exact run_in hm q (by omega)
theorem rin_iff {m : Nat} {i z : Int32} (hM : m ≤ 60) (hz : ¬ z < 0) : (¬ i < 0 ∧ i.toInt64 + z.toInt64 ≤ (nI m).toInt64) ↔ ∃ a c, i = nI a ∧ z = nI c ∧ a + c ≤ m := by
  have key : ∀ a c : Nat, a < 2 ^ 31 → c < 2 ^ 31 → ((nI a).toInt64 + (nI c).toInt64 ≤ (nI m).toInt64 ↔ a + c ≤ m) := by
    intro a c ha hc
    rw [Int64.le_iff_toInt_le, Int64.toInt_add, Int32.toInt_toInt64, Int32.toInt_toInt64, Int32.toInt_toInt64, nI_toInt ha, nI_toInt hc, nI_toInt (show m < 2 ^ 31 by omega), Int.bmod_eq_of_le (by omega) (by omega)]
    omega
  constructor
  · rintro ⟨q3, q4⟩
    obtain ⟨a, ha, rfl⟩ := nI_of q3
    obtain ⟨c, hc, rfl⟩ := nI_of hz
    exact ⟨a, c, rfl, rfl, (key a c ha hc).mp q4⟩
  · rintro ⟨a, c, rfl, rfl, q⟩
    exact ⟨nI_pos (by omega), (key a c (by omega) (by omega)).mpr q⟩
theorem p_copy (E : En) {S : St} (h : Rel S) (r i t j z : Int32) : PRi E i_X8_copy i_X9_copy S [.int r, .int i, .int t, .int j, .int z] := by
  by_cases hr : idxF 6 r = true
  · obtain ⟨n, hn, rfl⟩ := idx_nat (by omega) hr
    by_cases ht : idxF 6 t = true
    · obtain ⟨t, htn, rfl⟩ := idx_nat (by omega) ht
      by_cases hz : z < 0
      · exact pr_fnd h (c_X8_copy_neg E S n t i j z hn htn hz) (c_X9_copy_neg E _ n t i j z hn htn hz)
      rcases rw_get h hn with ⟨a, b⟩ | ⟨m, hm, a, b, c⟩
      · exact pr_fnd h (c_X8_copy_m1 E S n t i j z hn htn hz (mis_1 a)) (c_X9_copy_m E _ n t i j z hn htn hz (Or.inl b))
      rcases rw_get h htn with ⟨a', b'⟩ | ⟨m', hm', a', b', c'⟩
      · exact pr_fnd h (c_X8_copy_m2 E S n t i j z hn htn hz (mis_of a (by omega)) (mis_1 a')) (c_X9_copy_m E _ n t i j z hn htn hz (Or.inr b'))
      have k1 := run_iff (i := i) a (by omega) hz
      have k2 := run_iff (i := j) a' (by omega) hz
      have k3 := rin_iff (m := m) (i := i) (by omega) hz
      have k4 := rin_iff (m := m') (i := j) (by omega) hz
      by_cases q1 : runF S (10 + n) i z = true
      · by_cases q2 : runF S (10 + t) j z = true
        · obtain ⟨x, c1, rfl, rfl, w1⟩ := k1.mp q1
          obtain ⟨y, c2, rfl, e, w2⟩ := k2.mp q2
          have e2 : c1 = c2 := (nI_eq (by omega) (by omega)).mp e
          subst e2
          have g60 : ∀ f, gA (sA S (10 + t + 10) f) 60 = gA S 60 := fun f => by rw [gA_ne (by omega)]
          have g61 : ∀ f, gA (sA S (10 + t + 10) f) 61 = gA S 61 := fun f => by rw [gA_ne (by omega)]
          refine pr_mk (c_X8_copy_ok E S n t x y c1 m m' hn htn a a' w1 w2 hm hm') (c_X9_copy_ok E _ n t x y c1 m m' hn htn (by rw [g60]; exact b) (by rw [g60]; exact b') hm hm' w1 w2) rfl (RL_mk h ?_ ?_ ?_ ?_)
          · exact ⟨fun k j h1 h2 => rfl, fun k h1 h2 => by rw [gA_ne (by omega), gA_ne (by omega), gA_ne (by omega)]⟩
          · rw [g61]
            refine rwE_set (n0 := t) h.1.2.2.1 (fun k hk hne => rfl) (fun k hne => ?_) (fun k hk hne => ?_) (fun k i hne hi => ?_) (Or.inr ⟨m', hm', a', ?_, fun i hi => ?_⟩)
            · rw [gA_ne (by omega), gA_ne (by omega), g60]
            · rw [gA_ne (by omega), gA_ne (by omega), gA_ne (by omega)]
            · rw [gA_same]
              unfold cpyB
              rw [if_neg (by omega)]
            · rw [gA_ne (by omega), gA_ne (by omega), g60]; exact b'
            · rw [gA_ne (by omega), gA_ne (by omega), gA_same, gA_same]
              unfold cpyB
              by_cases w : y ≤ i ∧ i < y + c1
              · rw [if_pos (by omega), pk_cpy_in w.1 w.2]
                unfold cpyH
                rw [if_pos (by omega), c _ (by omega)]
                congr 1
                omega
              · rw [if_neg (by omega), pk_cpy_out (by omega)]
                exact c' i hi
          · exact rwE_of h.1.2.2.2 (fun k hk => rfl) (fun k hk => by rw [gA_ne (by omega), gA_ne (by omega), gA_ne (by omega)]) (fun k hk i hi => by rw [gA_ne (by omega), gA_ne (by omega), gA_ne (by omega)]) (fun k hk i hi => by rw [gA_ne (by omega), gA_ne (by omega), gA_ne (by omega)])
          · exact RLt_same h.2 ⟨by rw [gA_ne (by omega), gA_ne (by omega), gA_ne (by omega)], by rw [gA_ne (by omega), gA_ne (by omega), gA_ne (by omega)], rfl, rfl, rfl, rfl, rfl, rfl⟩ rfl rfl
        · refine pr_fnd h (c_X8_copy_b2 E S n t i j z hn htn hz (mis_of a (by omega)) (mis_of a' (by omega)) q1 (by simpa using q2)) (c_X9_copy_b E _ n t m m' i j z hn htn hz b b' hm hm' (fun w => q2 (k2.mpr (k4.mp ⟨w.2.1, w.2.2.2⟩))))
      · refine pr_fnd h (c_X8_copy_b1 E S n t i j z hn htn hz (mis_of a (by omega)) (mis_of a' (by omega)) (by simpa using q1)) (c_X9_copy_b E _ n t m m' i j z hn htn hz b b' hm hm' (fun w => q1 (k1.mpr (k3.mp ⟨w.1, Int64.not_lt.mp w.2.2.1⟩))))
    · rw [Bool.not_eq_true] at ht
      exact pr_no h (c_X8_copy_ob E S n t i j z hn ht) (c_X9_copy_bad E S _ t i j z (fun w => by rw [ht] at w; exact absurd w.2 (by decide)))
  · rw [Bool.not_eq_true] at hr
    have hb : ¬ (idxF 6 r = true ∧ idxF 6 t = true) := fun w => by rw [hr] at w; exact absurd w.1 (by decide)
    by_cases ht : idxF 6 t = true
    · obtain ⟨t, htn, rfl⟩ := idx_nat (by omega) ht
      exact pr_no h (c_X8_copy_bo E S r t i j z hr htn) (c_X9_copy_bad E S r _ i j z hb)
    · rw [Bool.not_eq_true] at ht
      exact pr_no h (c_X8_copy_bb E S r t i j z hr ht) (c_X9_copy_bad E S r t i j z hb)
theorem p_asked (E : En) {S : St} (h : Rel S) : PRi E i_X8_asked i_X9_asked S [] := pr_eq h (c_X8_asked E S) (c_X9_asked E S) h.2.2.2.1.symm
theorem p_finding (E : En) {S : St} (h : Rel S) : PRi E i_X8_finding i_X9_finding S [] := pr_eq h (c_X8_finding E S) (c_X9_finding E S) h.2.2.1.symm
theorem p_upper (E : En) {S : St} (h : Rel S) : PRl E i_X8_upper i_X9_upper S [] := ⟨S, _, _, c_X8_upper E S, c_X9_upper E S, fun _ _ q => by obtain ⟨rfl, rfl⟩ := q; exact ⟨by rw [h.2.2.2.2.1], h⟩⟩
theorem p_lower (E : En) {S : St} (h : Rel S) : PRl E i_X8_lower i_X9_lower S [] := ⟨S, _, _, c_X8_lower E S, c_X9_lower E S, fun _ _ q => by obtain ⟨rfl, rfl⟩ := q; exact ⟨by rw [h.2.2.2.2.2], h⟩⟩
theorem in_15 {x : Int32} : inF x.toInt64 1 5 = true ↔ (¬ x < 1 ∧ ¬ 6 ≤ x) := by
  unfold inF
  simp only [Bool.and_eq_true, Bool.not_eq_true', decide_eq_false_iff_not]
  rw [Int64.lt_iff_toInt_lt, Int64.lt_iff_toInt_lt, Int32.lt_iff_toInt_lt, Int32.le_iff_toInt_le, Int32.toInt_toInt64, show (1 : Int64).toInt = 1 by decide, show (5 : Int64).toInt = 5 by decide, show (1 : Int32).toInt = 1 by decide, show (6 : Int32).toInt = 6 by decide]
  omega
theorem p_findings (E : En) {S : St} (h : Rel S) (f : Int32) : PRi E i_X8_findings i_X9_findings S [.int f] := by
  by_cases q : ¬ f < 1 ∧ ¬ 6 ≤ f
  · obtain ⟨j, hj, rfl⟩ := ix_of (y := 6) (N := 6) rfl (by omega) (fun z => q.1 (by rw [Int32.lt_iff_toInt_lt] at z ⊢; rw [show (1 : Int32).toInt = 1 by decide]; rw [show (0 : Int32).toInt = 0 by decide] at z; omega)) q.2
    have h1 : 1 ≤ j := by
      rcases Nat.eq_zero_or_pos j with e | e
      · subst e; exact absurd (by decide) q.1
      · exact e
    exact pr_eq h (c_X8_findings_ok E S j h1 hj) (c_X9_findings_ok E S j (in_15.mpr q) hj) (h.2.1 j hj).symm
  · refine pr_no h (c_X8_findings_bad E S f q) (c_X9_findings_bad E S f ?_)
    rw [← Bool.not_eq_true]
    exact fun z => q (in_15.mp z)
theorem p_count (E : En) {S : St} (h : Rel S) (f : Int32) : PRi E i_X8_count i_X9_count S [.int f] := pr_eq h (c_X8_count E S f h.1.1.1.1) (c_X9_count E S f (bE_okM h.1.1.1)) (ct_is h.1.1.1 h.1.2.2.1 h.1.2.2.2 (fun n hn => (h.1.2.1 n hn).1)).symm
end RC
