/-! DIGEST, DIM, STOW: alike -/
theorem dg_1 {S : St} (h : Rel S) : ∀ n, dcR S n = g1M S n
  | 0 => rfl
  | n + 1 => by
    rw [dcR, g1M, dg_1 h n, ct_is h.1.1.1 h.1.2.2.1 h.1.2.2.2 (fun n hn => (h.1.2.1 n hn).1)]
    rfl
theorem dg_2i {S : St} (h : Rel S) {k : Nat} (hk : k < szB S 30) {x : Int64} : ∀ n, dpR S k x n = g2I S k x n
  | 0 => rfl
  | n + 1 => by
    rw [dpR, g2I, dg_2i h hk n, part_lt h.1.1.1 hk]
    rfl
theorem dg_2 {S : St} (h : Rel S) : ∀ k, k ≤ szB S 30 → dlR S k = g2M S k
  | 0, _ => dg_1 h 10
  | k + 1, hk => by
    rw [dlR, g2M, dg_2 h k (by omega), dg_2i h (by omega)]
theorem dg_3 {S : St} (h : Rel S) : ∀ n, n ≤ 3 → dkR S n = g3M S n
  | 0, _ => by
    rw [dkR, g3M, bE_nM h.1.1.1]
    exact dg_2 h _ (Nat.le_refl _)
  | n + 1, hn => by
    have e0 : gA S 59 (444 + 444 * n) = gI S (31 + n) 6 := (h.1.2.1 n (by omega)).1.2.2.1
    have e43 : gA S 59 (444 + 444 * n + 43) = gI S (31 + n) 9 := (h.1.2.1 n (by omega)).1.2.2.2.2.2.1
    rw [dkR, g3M, dg_3 h n (by omega), e0, e43]
    show mixF _ _ = mixF _ _
    congr 1
    split
    · rfl
    · rfl
theorem dg_r {S : St} {k sz dat N M : Nat} (h : rwE S k sz dat N M) (hM : M ≤ 60) {x : Int64} (hg : ∀ n i m, n < N → gI S (k + n) 1 = nI m → i < m → m ≤ M → getF S (k + n) (nI i) = gA S (k + 10 + n) i) : ∀ n, n ≤ N → ddR S k x n = gsM (gA S sz) (gA S dat) M x n
  | 0, _ => rfl
  | n + 1, hn => by
    rw [ddR, gsM, dg_r h hM hg n (by omega), rw_sz h (by omega)]
    unfold szS
    rw [rw_sz h (by omega)]
    rcases h n (by omega) with ⟨a, b⟩ | ⟨m, hm, a, b, c⟩
    · rw [b]
      rfl
    · rw [b, nI_clamp (by omega)]
      have z : ∀ y, ∀ j, j ≤ m → dsR S (k + n) y j = gsI (gA S dat) (M * n) y j := by
        intro y j
        induction j with
        | zero => intro _; rfl
        | succ j ih =>
          intro hj
          rw [dsR, gsI, ih (by omega), hg n j m (by omega) a (by omega) hm, c j (by omega)]
          rfl
      exact z _ _ (Nat.le_refl _)
theorem p_digest (E : En) {S : St} (h : Rel S) : PRl E i_X8_digest i_X9_digest S [] := by
  have hR : ∀ n, n < 6 → okS S (10 + n) 40 := fun n hn => by
    rcases rw_get h hn with ⟨a, b⟩ | ⟨m, hm, a, b, c⟩
    · exact Or.inl a
    · exact Or.inr ⟨m, hm, a⟩
  have hT : ∀ n, n < 4 → okS S (16 + n) 60 := fun n hn => by
    rcases tx_get h hn with ⟨a, b⟩ | ⟨m, hm, a, b, c⟩
    · exact Or.inl a
    · exact Or.inr ⟨m, hm, a⟩
  have hR9 : okR (gA S 60) 6 40 := fun n hn => by
    rcases rw_get h hn with ⟨a, b⟩ | ⟨m, hm, a, b, c⟩
    · exact Or.inl b
    · exact Or.inr ⟨m, hm, b⟩
  have hT9 : okR (gA S 62) 4 60 := fun n hn => by
    rcases tx_get h hn with ⟨a, b⟩ | ⟨m, hm, a, b, c⟩
    · exact Or.inl b
    · exact Or.inr ⟨m, hm, b⟩
  refine ⟨S, _, _, c_X8_digest E S h.1.1.1.1 hR hT, c_X9_digest E S (bE_okM h.1.1.1) hR9 hT9, fun S2 r hq => ?_⟩
  obtain ⟨rfl, rfl⟩ := hq
  refine ⟨?_, RL_as h (sameW_sL (sameW_rf S)) ⟨rfl, rfl, rfl, rfl, rfl, rfl, rfl, rfl⟩ h.2.2.2.1⟩
  have e1 : ddR S 10 (dkR S 3) 6 = gsM (gA S 60) (gA S 61) 40 (g3M S 3) 6 := by
    rw [dg_3 h 3 (by omega)]
    exact dg_r h.1.2.2.1 (by omega) (fun n i m hn a hi hm => by rw [getF_in a hi (by omega), show 10 + n + 10 = 10 + 10 + n by omega]) 6 (by omega)
  have e2 : ddR S 16 (ddR S 10 (dkR S 3) 6) 4 = g5M S 4 := by
    rw [e1]
    exact dg_r h.1.2.2.2 (by omega) (fun n i m hn a hi hm => by rw [getF_in a hi (by omega), show 16 + n + 10 = 16 + 10 + n by omega]) 4 (by omega)
  rw [e2]
/-! dim -/
def onN (n : Nat) : Nat → Nat | 0 => 0 | k + 1 => onN n k + (if n.testBit k = true then 1 else 0)
theorem onN_le (n : Nat) : ∀ k, onN n k ≤ k
  | 0 => Nat.le_refl _
  | k + 1 => by
    have := onN_le n k
    rw [onN]
    split <;> omega
theorem onF_nat {n : Nat} (hn : n < 256) : onF (nI n) = nI (onN n 8) := by
  have z : ∀ k, k ≤ 8 → onR (nI n) k = nI (onN n k) := by
    intro k
    induction k with
    | zero => intro _; rfl
    | succ k ih =>
      intro hk
      rw [onR, onN, ih (by omega), ← bit01, hs_nat (by omega) (by omega)]
      cases n.testBit k
      · exact Int32.add_zero _
      · exact nI_1 _
  exact z 8 (Nat.le_refl _)
theorem onN_sub {n l : Nat} (hs : ∀ k, n.testBit k = true → l.testBit k = true) : ∀ k, onN n k ≤ onN l k ∧ (onN n k = onN l k → ∀ j, j < k → n.testBit j = l.testBit j)
  | 0 => ⟨Nat.le_refl _, fun _ j hj => absurd hj (by omega)⟩
  | k + 1 => by
    obtain ⟨a, b⟩ := onN_sub hs k
    rw [onN, onN]
    have c := hs k
    cases q : n.testBit k
    · cases w : l.testBit k
      · refine ⟨by simpa using a, fun z j hj => ?_⟩
        rcases Nat.lt_or_ge j k with g | g
        · exact b (by simpa using z) j g
        · rw [show j = k by omega, q, w]
      · refine ⟨by simp; omega, fun z => ?_⟩
        simp at z
        omega
    · rw [q] at c
      have w := c rfl
      rw [w]
      refine ⟨by simpa using a, fun z j hj => ?_⟩
      rcases Nat.lt_or_ge j k with g | g
      · exact b (by simpa using z) j g
      · rw [show j = k by omega, q, w]
/-- a set within another one, by bits -/
theorem with_bits {n l : Nat} (hn : n < 256) (hl : l < 256) (h : withF (nI n) (nI l) = true) : ∀ k, n.testBit k = true → l.testBit k = true := by
  intro k hk
  have k8 : k < 8 := by
    rcases Nat.lt_or_ge k 8 with q | q
    · exact q
    · rw [Nat.testBit_lt_two_pow (Nat.lt_of_lt_of_le hn (show 256 ≤ 2 ^ k from Nat.pow_le_pow_right (n := 2) (by omega) q))] at hk
      exact absurd hk (by decide)
  unfold withF at h
  rw [decide_eq_true_eq] at h
  have e : hsF (nI n &&& (nI l ^^^ -1)) (nI k) = false := by rw [h, hs_0 k8]
  rw [hs_and k8, hs_xor k8, hs_m1 k8, hs_nat k8 (by omega), hs_nat k8 (by omega), hk] at e
  cases q : l.testBit k
  · rw [q] at e; exact absurd e (by decide)
  · rfl
theorem with_self {l : Nat} (hl : l < 256) : withF (nI l) (nI l) = true := by
  have z : ∀ l : Fin 256, withF (nI l.1) (nI l.1) = true := by decide +kernel
  exact z ⟨l, hl⟩
theorem and_self0 {l : Nat} (hl : l < 256) : nI l &&& (nI l ^^^ -1) = 0 := by
  have z : ∀ l : Fin 256, nI l.1 &&& (nI l.1 ^^^ -1) = 0 := by decide +kernel
  exact z ⟨l, hl⟩
/-- how bright without a set's lights: the rest -/
theorem gl_g {S : St} (h : Rel S) {p : Int32} {k : Nat} (hk : k < szB S 30) : glW S 30 p k = gvM S k (gA S 59 (3 + k)) p (gA S 59 1) := by
  unfold glW
  rw [if_pos (has_lt h.1.1.1.1 hk), gla_gv h.1.1.1 hk, n_night h.1.1.1]
theorem gl_0 {S : St} (h : Rel S) {p : Int32} {k : Nat} (hk : szB S 30 ≤ k) (h8 : k < 8) : glW S 30 p k = 0 := by
  unfold glW
  rw [has_idx h.1.1.1.1]
  have : idxF (szB S 30) (nI k) = false := by
    unfold idxF
    rw [decide_eq_true (nI_le hk (by omega)), Bool.not_true, Bool.and_false]
  rw [this]; rfl
theorem sb_top {S : St} (h : Rel S) {p : Int32} {n : Nat} : ∀ j, szB S 30 + j ≤ 8 → sbR (glW S 30 p) n (szB S 30 + j) = sbR (glW S 30 p) n (szB S 30)
  | 0, _ => rfl
  | j + 1, hj => by
    rw [← Nat.add_assoc, sbR, sb_top h j (by omega), gl_0 h (by omega) (by omega)]
    split
    · exact Int32.add_zero _
    · rfl
theorem rest_is {S : St} (h : Rel S) {p : Int32} {n l : Nat} (hn : n < 256) (hl : l < 256) (el : gA S 59 2 = nI l) (hw : withF (nI n) (nI l) = true) : briF S 30 p (gI S 30 8) - sbR (glW S 30 p) n 8 = brR S p (nI l &&& (nI n ^^^ -1)) (gA S 59 1) (nM S) := by
  have hB := h.1.1.1
  have h8 := hB.1.2
  have e8 : sbR (glW S 30 p) n 8 = sbR (glW S 30 p) n (szB S 30) := by
    have := sb_top h (p := p) (n := n) (8 - szB S 30) (by omega)
    rw [show szB S 30 + (8 - szB S 30) = 8 by omega] at this
    exact this
  have hb := with_bits hn hl hw
  have z : ∀ k, k ≤ szB S 30 → brR S p (nI l) (gA S 59 1) k = brR S p (nI l &&& (nI n ^^^ -1)) (gA S 59 1) k + sbR (glW S 30 p) n k := by
    intro k
    induction k with
    | zero => intro _; rfl
    | succ k ih =>
      intro hk
      rw [brR, brR, sbR, ih (by omega), gl_g h (by omega), hs_and (by omega), hs_xor (by omega), hs_m1 (by omega), hs_nat (by omega) (by omega), hs_nat (by omega) (by omega)]
      have c := hb k
      generalize gvM S k (gA S 59 (3 + k)) p (gA S 59 1) = g
      generalize brR S p (nI l &&& (nI n ^^^ -1)) (gA S 59 1) k = u
      generalize sbR (glW S 30 p) n k = w
      cases q : n.testBit k
      · cases y : l.testBit k
        · show u + w + 0 = u + 0 + w
          grind
        · show u + w + g = u + g + w
          grind
      · rw [q] at c
        rw [c rfl]
        show u + w + g = u + 0 + (w + g)
        grind
  rw [bri_br hB, el, ← n_night hB, bE_nM hB, e8, z _ (Nat.le_refl _), Int32.add_sub_cancel]
theorem dmP_is {S : St} (h : Rel S) {p v : Int32} {n l : Nat} (hn : n < 256) (hl : l < 256) (el : gA S 59 2 = nI l) : dmP S p v n = (withF (nI n) (nI l) && decide (briF S 30 p (gI S 30 8) - sbR (glW S 30 p) n 8 ≤ v)) := by
  unfold dmP
  rw [el]
  show (withF (nI n) (nI l) && _) = _
  cases q : withF (nI n) (nI l)
  · rfl
  · rw [rest_is h hn hl el q, Bool.true_and, Bool.true_and]
    generalize brR S p (nI l &&& (nI n ^^^ -1)) (gA S 59 1) (nM S) = x
    by_cases w : v < x
    · rw [decide_eq_true w, decide_eq_false (Int32.not_le.mpr w)]; rfl
    · rw [decide_eq_false w, decide_eq_true (Int32.not_lt.mp w)]; rfl
/-- the first pass: what it finds -/
theorem dm1_is {S : St} {p v : Int32} {l : Nat} (hl : l < 256) (el : gA S 59 2 = nI l) : ∀ n, n ≤ 256 → ∃ b, b < 256 ∧ dm1 S p v n = nI b ∧ (b = l ∨ (b < n ∧ dmP S p v b = true)) ∧ (∀ i, i < n → dmP S p v i = true → onN b 8 ≤ onN i 8) ∧ (b ≠ l → ∀ i, i < b → dmP S p v i = true → onN b 8 < onN i 8) ∧ onN b 8 ≤ onN l 8 ∧ (b = l → ∀ i, i < n → dmP S p v i = true → onN l 8 ≤ onN i 8)
  | 0, _ => ⟨l, hl, el, Or.inl rfl, fun i hi => absurd hi (by omega), fun z => absurd rfl z, Nat.le_refl _, fun _ i hi => absurd hi (by omega)⟩
  | n + 1, hn => by
    obtain ⟨b, hb, eb, c1, c2, c3, c4, c5⟩ := dm1_is hl el (p := p) (v := v) n (by omega)
    have o1 := onN_le n 8
    have o2 := onN_le b 8
    rw [dm1, eb, onF_nat hb, onF_nat (show n < 256 by omega)]
    by_cases q : dmP S p v n = true ∧ onN n 8 < onN b 8
    · rw [if_pos (by rw [Bool.and_eq_true, decide_eq_true_eq, nI_ltI (by omega) (by omega)]; exact q)]
      have nl : n ≠ l := fun z => by rw [z] at q; omega
      refine ⟨n, by omega, rfl, Or.inr ⟨by omega, q.1⟩, fun i hi hp => ?_, fun _ i hi hp => ?_, by omega, fun z => absurd z nl⟩
      · rcases Nat.lt_or_ge i n with g | g
        · have := c2 i g hp; omega
        · rw [show i = n by omega]; exact Nat.le_refl _
      · have := c2 i hi hp; omega
    · rw [if_neg (by rw [Bool.and_eq_true, decide_eq_true_eq, nI_ltI (by omega) (by omega)]; exact q)]
      refine ⟨b, hb, rfl, ?_, fun i hi hp => ?_, c3, c4, fun z i hi hp => ?_⟩
      · rcases c1 with c | c
        · exact Or.inl c
        · exact Or.inr ⟨by omega, c.2⟩
      · rcases Nat.lt_or_ge i n with g | g
        · exact c2 i g hp
        · have e : i = n := by omega
          subst e
          rcases Nat.lt_or_ge (onN i 8) (onN b 8) with w | w
          · exact absurd ⟨hp, w⟩ q
          · exact w
      · rcases Nat.lt_or_ge i n with g | g
        · exact c5 z i g hp
        · have e : i = n := by omega
          subst e
          rcases Nat.lt_or_ge (onN i 8) (onN b 8) with w | w
          · exact absurd ⟨hp, w⟩ q
          · rw [← z]; exact w
theorem fa_dm {S : St} (h : Rel S) {p v : Int32} {l : Nat} (hl : l < 256) (el : gA S 59 2 = nI l) : ∀ n, n ≤ 256 → faR (gI S 30 7) (briF S 30 p (gI S 30 8)) v (glW S 30 p) n = dm1 S p v n
  | 0, _ => (n_lit h.1.1.1).symm
  | n + 1, hn => by
    obtain ⟨b, hb, eb, -⟩ := dm1_is hl el (p := p) (v := v) n (by omega)
    rw [faR, dm1, fa_dm h hl el n (by omega), eb, bc_on hb, bc_on (show n < 256 by omega), dmP_is h (by omega) hl el, ← n_lit h.1.1.1, el, Bool.and_comm]
/-- the second pass changes nothing -/
theorem dm2_is {S : St} (h : Rel S) {p v : Int32} {l M : Nat} (hl : l < M) (hM : M ≤ 256) (el : gA S 59 2 = nI l) (hv : ¬ v < 0) : dm2 S p v M M = dm1 S p v M := by
  obtain ⟨b, hb, eb, c1, c2, c3, c4, c5⟩ := dm1_is (show l < 256 by omega) el (p := p) (v := v) M hM
  have Pl : dmP S p v l = true := by
    unfold dmP
    rw [el, and_self0 (by omega), decide_eq_true rfl, Bool.true_and, Bool.not_eq_true', decide_eq_false_iff_not]
    have z : ∀ k, k ≤ 8 → brR S p 0 (gA S 59 1) k = 0 := by
      intro k
      induction k with
      | zero => intro _; rfl
      | succ k ih =>
        intro hk
        rw [brR, ih (by omega), hs_0 (by omega)]; rfl
    rw [z _ (bE_okM h.1.1.1).2]
    exact hv
  have bM : b < M ∧ dmP S p v b = true := by
    rcases c1 with c | c
    · rw [c]; exact ⟨hl, Pl⟩
    · exact c
  have low : ∀ i, i < b → dmP S p v i = true → ¬ onN i 8 = onN b 8 := by
    intro i hi hp e
    by_cases q : b = l
    · subst q
      have w : withF (nI i) (nI b) = true := by
        rw [dmP_is h (by omega) (by omega) el, Bool.and_eq_true] at hp
        exact hp.1
      have s := (onN_sub (with_bits (by omega) (by omega) w) 8).2 e
      have : i = b := Nat.eq_of_testBit_eq (fun k => by
        rcases Nat.lt_or_ge k 8 with g | g
        · exact s k g
        · have p8 : 256 ≤ 2 ^ k := Nat.pow_le_pow_right (n := 2) (by omega) g
          rw [Nat.testBit_lt_two_pow (by omega), Nat.testBit_lt_two_pow (by omega)])
      omega
    · have := c3 q i hi hp; omega
  have key : ∀ j, j ≤ M → ∃ c, c < 256 ∧ dm2 S p v M j = nI c ∧ onN c 8 = onN b 8 ∧ ((M - j ≤ c ∧ c < M ∧ dmP S p v c = true ∧ ∀ i, M - j ≤ i → i < c → ¬ (dmP S p v i = true ∧ onN i 8 = onN b 8)) ∨ (c = b ∧ ∀ i, M - j ≤ i → i < M → ¬ (dmP S p v i = true ∧ onN i 8 = onN b 8))) := by
    intro j
    induction j with
    | zero => intro _; exact ⟨b, hb, eb, rfl, Or.inr ⟨rfl, fun i h1 h2 => by omega⟩⟩
    | succ j ih =>
      intro hj
      obtain ⟨c, hc, ec, oc, hh⟩ := ih (by omega)
      have o1 := onN_le (M - 1 - j) 8
      have o2 := onN_le c 8
      rw [dm2, ec, onF_nat hc, onF_nat (show M - 1 - j < 256 by omega)]
      by_cases q : dmP S p v (M - 1 - j) = true ∧ onN (M - 1 - j) 8 = onN c 8
      · rw [if_pos (by rw [Bool.and_eq_true, decide_eq_true_eq, nI_eq (by omega) (by omega)]; exact q)]
        exact ⟨M - 1 - j, by omega, rfl, q.2.trans oc, Or.inl ⟨by omega, by omega, q.1, fun i h1 h2 => by omega⟩⟩
      · rw [if_neg (by rw [Bool.and_eq_true, decide_eq_true_eq, nI_eq (by omega) (by omega)]; exact q)]
        refine ⟨c, hc, rfl, oc, ?_⟩
        rcases hh with ⟨a1, a2, a3, a4⟩ | ⟨a1, a2⟩
        · refine Or.inl ⟨by omega, a2, a3, fun i h1 h2 => ?_⟩
          rcases Nat.lt_or_ge i (M - j) with g | g
          · rw [show i = M - 1 - j by omega, ← oc]; exact q
          · exact a4 i g h2
        · refine Or.inr ⟨a1, fun i h1 h2 => ?_⟩
          rcases Nat.lt_or_ge i (M - j) with g | g
          · rw [show i = M - 1 - j by omega, ← oc]; exact q
          · exact a2 i g h2
  obtain ⟨c, hc, ec, oc, hh⟩ := key M (Nat.le_refl _)
  rw [ec, eb]
  rcases hh with ⟨a1, a2, a3, a4⟩ | ⟨a1, a2⟩
  · congr 1
    rcases Nat.lt_trichotomy c b with g | g | g
    · exact absurd oc (low c g a3)
    · exact g
    · exact absurd ⟨bM.2, rfl⟩ (a4 b (by omega) g)
  · exact absurd ⟨bM.2, rfl⟩ (a2 b (by omega) bM.1)
theorem dmP_w {S T : St} (e : gA T 59 = gA S 59) {p v : Int32} {n : Nat} : dmP T p v n = dmP S p v n := by unfold dmP; rw [e, brR_w e, nM_w e]
theorem dm1_w {S T : St} (e : gA T 59 = gA S 59) {p v : Int32} : ∀ n, dm1 T p v n = dm1 S p v n
  | 0 => by rw [dm1, dm1, e]
  | n + 1 => by rw [dm1, dm1, dm1_w e n, dmP_w e]
theorem dm2_w {S T : St} (e : gA T 59 = gA S 59) {p v : Int32} {m : Nat} : ∀ n, dm2 T p v m n = dm2 S p v m n
  | 0 => by rw [dm2, dm2, dm1_w e]
  | n + 1 => by rw [dm2, dm2, dm2_w e n, dmP_w e]
theorem p_dim (E : En) {S : St} (h : Rel S) (p v : Int32) : PRi E i_X8_dim i_X9_dim S [.int p, .int v] := by
  have hB := h.1.1.1
  have hm := bE_okM hB
  by_cases q : placeF p = true ∧ ¬ v < 0 ∧ v ≤ 99
  · obtain ⟨q1, q2, q3⟩ := q
    obtain ⟨l, hl, el⟩ := lt_li h
    have h8 := p256 hm.2
    have e1 : faF S p v = dm1 S p v (2 ^ nM S) := by
      unfold faF
      rw [← bE_nM hB]
      exact fa_dm h (by omega) el _ h8
    have e2 : dm2 S p v (2 ^ nM S) (2 ^ nM S) = faF S p v := by rw [e1]; exact dm2_is h hl h8 el q2
    have e3 : ∀ x, dm2 (sI (scrF S (glW S 30 p)) 0 8 x) p v (2 ^ nM (sI (scrF S (glW S 30 p)) 0 8 x)) (2 ^ nM (sI (scrF S (glW S 30 p)) 0 8 x)) = faF S p v := fun x => by
      rw [nM_w (S := S) (T := sI (scrF S (glW S 30 p)) 0 8 x) scs_59, dm2_w (S := S) (T := sI (scrF S (glW S 30 p)) 0 8 x) scs_59, e2]
    obtain ⟨b, hb, eb, -⟩ := dm1_is (show l < 256 by omega) el (p := p) (v := v) (2 ^ nM S) h8
    refine pr_mk (c_X8_dim_ok E S p v hB.1 q1 q2 q3) (c_X9_dim_ok E _ p v (okM_w (S := S) (scs_59 (w := glW S 30 p)) hm) q1 (in_099.mpr ⟨q2, q3⟩)) ?_ ?_
    · rw [e3, e1, eb, bc_on hb]
    · rw [e3]; exact RL_scr h _ _
  · exact pr_no h (c_X8_dim_bad E S p v hB.1 q) (c_X9_dim_bad E S p v (fun z => q ⟨z.1, in_099.mp z.2⟩))
