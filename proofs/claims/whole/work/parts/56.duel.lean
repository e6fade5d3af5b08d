/-! DUEL: alike -/
/-- how many bits two sets differ by, of k -/
def dfN (s l : Nat) : Nat → Nat | 0 => 0 | k + 1 => dfN s l k + (if s.testBit k = l.testBit k then 0 else 1)
theorem df_on {s l : Nat} : ∀ k, onN (s ^^^ l) k = dfN s l k
  | 0 => rfl
  | k + 1 => by
    rw [onN, dfN, df_on k, Nat.testBit_xor]
    cases s.testBit k <;> cases l.testBit k <;> rfl
theorem df_le (s l : Nat) : ∀ k, dfN s l k ≤ k
  | 0 => Nat.le_refl _
  | k + 1 => by
    have := df_le s l k
    rw [dfN]
    split <;> omega
theorem df_self (l : Nat) : ∀ k, dfN l l k = 0
  | 0 => rfl
  | k + 1 => by rw [dfN, df_self l k, if_pos rfl]
/-- sets that differ in one bit -/
theorem df_1 {s s' l j : Nat} (h : ∀ k, k ≠ j → s'.testBit k = s.testBit k) : ∀ k, dfN s' l k ≤ dfN s l k + (if j < k then 1 else 0)
  | 0 => Nat.le_refl _
  | k + 1 => by
    have ih := df_1 (l := l) h k
    rw [dfN, dfN]
    by_cases q : k = j
    · subst q
      rw [if_neg (show ¬ k < k by omega)] at ih
      rw [if_pos (show k < k + 1 by omega)]
      split <;> split <;> omega
    · rw [h k q]
      by_cases w : j < k
      · rw [if_pos w] at ih
        rw [if_pos (show j < k + 1 by omega)]
        omega
      · rw [if_neg w] at ih
        rw [if_neg (show ¬ j < k + 1 by omega)]
        omega
theorem tb_sub {s j N : Nat} (hs : s < 2 ^ N) (h : s.testBit j = true) : 2 ^ j ≤ s ∧ ∀ k, (s - 2 ^ j).testBit k = (s.testBit k && decide (k ≠ j)) := by
  have jN : j < N := by
    rcases Nat.lt_or_ge j N with q | q
    · exact q
    · rw [tb_big hs q] at h; exact absurd h (by decide)
  obtain ⟨a, b⟩ := sub_tb N s (2 ^ j) hs (Nat.pow_lt_pow_right (by omega) jN) (fun k hk => by
    rw [Nat.testBit_two_pow] at hk
    rw [← of_decide_eq_true hk]; exact h)
  refine ⟨a, fun k => ?_⟩
  rw [b, Nat.testBit_two_pow]
  by_cases q : k = j
  · rw [decide_eq_true q.symm, decide_eq_false (fun z => z q)]; rfl
  · rw [decide_eq_false (fun z => q z.symm), decide_eq_true q]; rfl
theorem tb_add {s j : Nat} (hs : s < 256) (hj : j < 8) (h : s.testBit j = false) : ∀ k, (s + 2 ^ j).testBit k = (s.testBit k || decide (k = j)) := by
  obtain ⟨-, -, -, e⟩ := (bit_f hs hj).2 h
  intro k
  rw [← e, Nat.testBit_or, Nat.testBit_two_pow]
  congr 1
  by_cases q : k = j
  · rw [decide_eq_true q, decide_eq_true q.symm]
  · rw [decide_eq_false q, decide_eq_false (fun z => q z.symm)]
theorem xor_nat {a b : Nat} (ha : a < 256) (hb : b < 256) : nI a ^^^ nI b = nI (a ^^^ b) := by
  have h : a ^^^ b < 2 ^ 8 := Nat.xor_lt_two_pow (by omega) (by omega)
  rw [← Int32.toBitVec_inj, Int32.toBitVec_xor]
  refine BitVec.eq_of_getLsbD_eq (fun i hi => ?_)
  have e : ∀ x, (nI x).toBitVec.getLsbD i = x.testBit i := fun x => by
    show (BitVec.ofNat 32 x).getLsbD i = _
    rw [BitVec.getLsbD_ofNat]; simp [hi]
  rw [BitVec.getLsbD_xor, e, e, e, Nat.testBit_xor]
theorem bc_df {s l : Nat} (hs : s < 256) (hl : l < 256) : bcF (nI s ^^^ nI l) = nI (dfN s l 8) := by
  have h : s ^^^ l < 2 ^ 8 := Nat.xor_lt_two_pow (by omega) (by omega)
  rw [xor_nat hs hl, bc_on (by omega), onF_nat (by omega), df_on]
/-! one turn of the class: a set's new value -/
/-- the fold over the bits: least, greatest -/
def mnV (f : Nat → Int32) (s : Nat) : Nat → Int32 | 0 => f s | j + 1 => if s.testBit j = true then (if f (s - 2 ^ j) < mnV f s j then f (s - 2 ^ j) else mnV f s j) else mnV f s j
def mxV (f : Nat → Int32) (s : Nat) : Nat → Int32 | 0 => f s | j + 1 => if s.testBit j = true then mxV f s j else (if mxV f s j < f (s + 2 ^ j) then f (s + 2 ^ j) else mxV f s j)
theorem tb_and {s j : Nat} (hs : s < 256) (hj : j < 8) : (nI s &&& nI (2 ^ j) = 0) ↔ s.testBit j = false := by
  have z : ∀ s : Fin 256, ∀ j : Fin 8, (nI s.1 &&& nI (2 ^ j.1) = 0) ↔ s.1.testBit j.1 = false := by decide +kernel
  exact z ⟨s, hs⟩ ⟨j, hj⟩
theorem laI_is {s : Nat} {g : Nat → Int32} (hs : s < 256) : ∀ j, j ≤ 8 → laI s g j s = mnV g s j ∧ ∀ i, i ≠ s → laI s g j i = g i
  | 0, _ => ⟨rfl, fun _ _ => rfl⟩
  | j + 1, hj => by
    obtain ⟨a, b⟩ := laI_is (g := g) hs j (by omega)
    rw [laI, mnV]
    have t := tb_and hs (show j < 8 by omega)
    cases q : s.testBit j
    · rw [if_pos (t.mpr q), if_neg (by decide)]
      exact ⟨a, b⟩
    · obtain ⟨c, -⟩ := tb_sub (N := 8) (by omega) q
      have p := Nat.two_pow_pos j
      rw [if_neg (fun z => by rw [t.mp z] at q; exact absurd q (by decide)), if_pos rfl, b (s - 2 ^ j) (by omega), a]
      exact ⟨pk_us, fun i hi => by rw [pk_un hi]; exact b i hi⟩
theorem liI_is {s : Nat} {g : Nat → Int32} (hs : s < 256) : ∀ j, j ≤ 8 → liI s g j s = mxV g s j ∧ ∀ i, i ≠ s → liI s g j i = g i
  | 0, _ => ⟨rfl, fun _ _ => rfl⟩
  | j + 1, hj => by
    obtain ⟨a, b⟩ := liI_is (g := g) hs j (by omega)
    rw [liI, mxV]
    have t := tb_and hs (show j < 8 by omega)
    cases q : s.testBit j
    · have p := Nat.two_pow_pos j
      rw [if_pos (t.mpr q), if_neg (show ¬ (false = true) by decide), b (s + 2 ^ j) (by omega), a]
      exact ⟨pk_us, fun i hi => by rw [pk_un hi]; exact b i hi⟩
    · rw [if_neg (fun z => by rw [t.mp z] at q; exact absurd q (by decide)), if_pos rfl]
      exact ⟨a, b⟩
theorem mnV_eq {f g : Nat → Int32} {s : Nat} (h : ∀ i, i ≤ s → f i = g i) : ∀ j, mnV f s j = mnV g s j
  | 0 => h s (Nat.le_refl _)
  | j + 1 => by rw [mnV, mnV, mnV_eq h j, h _ (Nat.sub_le _ _)]
theorem mxV_eq {f g : Nat → Int32} {s : Nat} (h : ∀ i, s ≤ i → f i = g i) : ∀ j, mxV f s j = mxV g s j
  | 0 => h s (Nat.le_refl _)
  | j + 1 => by rw [mxV, mxV, mxV_eq h j, h _ (Nat.le_add_right _ _)]
theorem laO_is {z l d : Nat} {g : Nat → Int32} (hz : z ≤ 8) (hl : l < 256) (hd : d ≤ 8) : ∀ m, m ≤ 2 ^ z → ∀ s, s < 2 ^ z → laO z (nI l) (nI d) g m s = if 2 ^ z - m ≤ s ∧ dfN s l 8 ≤ d then mnV g s z else g s
  | 0, _, s, hs => by rw [laO, if_neg (by omega)]
  | m + 1, hm, s, hs => by
    have p := p256 hz
    have ih := laO_is (g := g) hz hl hd m (by omega)
    have dl := df_le (2 ^ z - 1 - m) l 8
    rw [laO, bc_df (show 2 ^ z - 1 - m < 256 by omega) hl]
    by_cases c : d < dfN (2 ^ z - 1 - m) l 8
    · rw [if_pos (nI_lt c (by omega)), ih s hs]
      by_cases q : 2 ^ z - m ≤ s ∧ dfN s l 8 ≤ d
      · rw [if_pos q, if_pos (by omega)]
      · rw [if_neg q, if_neg (fun w => q ⟨by
          rcases Nat.lt_or_ge s (2 ^ z - m) with y | y
          · have e : s = 2 ^ z - 1 - m := by omega
            rw [e] at w; omega
          · exact y, w.2⟩)]
    · rw [if_neg (nI_nlt (by omega) (by omega))]
      obtain ⟨a, b⟩ := laI_is (s := 2 ^ z - 1 - m) (g := laO z (nI l) (nI d) g m) (by omega) z hz
      by_cases q : s = 2 ^ z - 1 - m
      · subst q
        rw [a, if_pos ⟨by omega, by omega⟩]
        refine mnV_eq (fun i hi => ?_) z
        rw [ih i (by omega), if_neg (by omega)]
      · rw [b s q, ih s hs]
        by_cases w : 2 ^ z - m ≤ s ∧ dfN s l 8 ≤ d
        · rw [if_pos w, if_pos (by omega)]
        · rw [if_neg w, if_neg (fun y => w ⟨by omega, y.2⟩)]
theorem liO_is {z l d : Nat} {g : Nat → Int32} (hz : z ≤ 8) (hl : l < 256) (hd : d ≤ 8) : ∀ m, m ≤ 2 ^ z → ∀ s, s < 2 ^ z → liO z (nI l) (nI d) g m s = if s < m ∧ dfN s l 8 ≤ d then mxV g s z else g s := by
  intro m
  have p := p256 hz
  induction m with
  | zero => intro _ s hs; rw [liO, if_neg (by omega)]
  | succ m ih =>
    intro hm s hs
    have ih := ih (by omega)
    have dl := df_le m l 8
    rw [liO, bc_df (show m < 256 by omega) hl]
    by_cases c : d < dfN m l 8
    · rw [if_pos (nI_lt c (by omega)), ih s hs]
      by_cases q : s < m ∧ dfN s l 8 ≤ d
      · rw [if_pos q, if_pos ⟨by omega, q.2⟩]
      · rw [if_neg q, if_neg (fun w => q ⟨by
          rcases Nat.lt_or_ge s m with y | y
          · exact y
          · have e : s = m := by omega
            rw [e] at w; omega, w.2⟩)]
    · rw [if_neg (nI_nlt (by omega) (by omega))]
      obtain ⟨a, b⟩ := liI_is (s := m) (g := liO z (nI l) (nI d) g m) (by omega) z hz
      by_cases q : s = m
      · subst q
        rw [a, if_pos ⟨by omega, by omega⟩]
        have z2 : ∀ j, j ≤ z → mxV (liO z (nI l) (nI d) g s) s j = mxV g s j := by
          intro j
          induction j with
          | zero => intro _; rw [mxV, mxV, ih s hs, if_neg (by omega)]
          | succ j ihj =>
            intro hj
            have pj := Nat.two_pow_pos j
            rw [mxV, mxV, ihj (by omega)]
            cases t : s.testBit j
            · have t2 : s + 2 ^ j < 2 ^ z := by
                obtain ⟨-, -, -, e⟩ := (bit_f (m := s) (k := j) (by omega) (by omega)).2 t
                rw [← e]
                exact Nat.or_lt_two_pow (by omega) (Nat.pow_lt_pow_right (by omega) (by omega))
              rw [ih (s + 2 ^ j) t2, if_neg (show ¬ (s + 2 ^ j < s ∧ dfN (s + 2 ^ j) l 8 ≤ d) by omega)]
            · rw [if_pos rfl, if_pos rfl]
        exact z2 z (Nat.le_refl _)
      · rw [b s q, ih s hs]
        by_cases w : s < m ∧ dfN s l 8 ≤ d
        · rw [if_pos w, if_pos ⟨by omega, w.2⟩]
        · rw [if_neg w, if_neg (fun y => w ⟨by omega, y.2⟩)]
/-! the reference's choice -/
section DU
variable {S : St}
theorem mv_N (hm : okM S) (L : Int32) : mvM S L (nM S) = L := by unfold mvM; rw [if_pos hm.1.symm]
theorem ok_N (hm : okM S) (d : Nat) (L : Int32) : okV S d L (nM S) = true := by unfold okV; rw [decide_eq_true hm.1.symm]; rfl
theorem ne_N (hm : okM S) {k : Nat} (hk : k < nM S) : ¬ nI k = gA S 59 0 := fun z => by
  have := hm.2
  rw [hm.1] at z
  have := (nI_eq (by omega) (by omega)).mp z
  omega
theorem ok_k (hm : okM S) {d s k : Nat} (hk : k < nM S) (hs : s < 256) : okV S d (nI s) k = (s.testBit k == decide (d % 2 = 0)) := by
  have := hm.2
  unfold okV
  rw [decide_eq_false (ne_N hm hk), Bool.false_or, hs_nat (by omega) (by omega)]
  by_cases q : d % 2 = 0
  · rw [if_pos q, decide_eq_true q]; cases s.testBit k <;> rfl
  · rw [if_neg q, decide_eq_false q]; cases s.testBit k <;> rfl
/-- the fold by one who wants it dark -/
theorem dv_mn (hm : okM S) {d s : Nat} (hd : d % 2 = 0) (hs : s < 256) {c : Int32 → Int32} {h : Nat → Nat} (hh : ∀ k, k < nM S → s.testBit k = true → c (nI (s - 2 ^ k)) = nI (h (s - 2 ^ k)) ∧ h (s - 2 ^ k) < 1000) (h0 : c (nI s) = nI (h s) ∧ h s < 1000) {f : Nat → Int32} (hf : f s = nI (h s)) (hf2 : ∀ k, k < nM S → s.testBit k = true → f (s - 2 ^ k) = nI (h (s - 2 ^ k))) : dvF S d (nI s) c (nM S + 1) = mnV f s (nM S) := by
  have h8 := hm.2
  have key : ∀ k, k ≤ nM S → (dvF S d (nI s) c k = -9 ∧ mnV f s k = nI (h s)) ∨ ∃ w, w < 1000 ∧ dvF S d (nI s) c k = nI w ∧ mnV f s k = nI (min w (h s)) := by
    intro k
    induction k with
    | zero => intro _; exact Or.inl ⟨rfl, hf⟩
    | succ k ih =>
      intro hk
      rw [dvF, mnV, ok_k hm (by omega) hs, decide_eq_true hd]
      cases t : s.testBit k
      · rw [if_neg (by decide), if_neg (by decide)]
        exact ih (by omega)
      · obtain ⟨a, b⟩ := hh k (by omega) t
        have e : mvM S (nI s) k = nI (s - 2 ^ k) := by
          unfold mvM
          rw [if_neg (ne_N hm (by omega))]
          exact ((bit_f hs (show k < 8 by omega)).1 t).2.1
        rw [if_pos (by decide), if_pos rfl, e, a, hf2 k (by omega) t]
        unfold btM
        rw [if_pos hd]
        generalize h (s - 2 ^ k) = u at b ⊢
        have h0' := h0.2
        rcases ih (by omega) with ⟨q1, q2⟩ | ⟨w, hw, q1, q2⟩
        · refine Or.inr ⟨u, b, ?_, ?_⟩
          · rw [q1, if_pos rfl]
          · rw [q2]
            exact (min_if (x := h s) (y := u) (by omega) (by omega)).trans (by rw [Nat.min_comm])
        · refine Or.inr ⟨min w u, by omega, ?_, ?_⟩
          · rw [q1, if_neg (fun z => nm9 (d := w) (by omega) z.symm)]
            by_cases y : w ≤ u
            · rw [if_pos (nI_le y (by omega)), Nat.min_eq_left y]
            · rw [if_neg (nI_ge (by omega) (by omega)), Nat.min_eq_right (by omega)]
          · rw [q2, min_if (by omega) (by omega)]
            congr 1
            omega
  rw [dvF, ok_N hm, if_pos rfl, mv_N hm, h0.1]
  have h0' := h0.2
  unfold btM
  rw [if_pos hd]
  rcases key (nM S) (Nat.le_refl _) with ⟨q1, q2⟩ | ⟨w, hw, q1, q2⟩
  · rw [q1, q2, if_pos rfl]
  · rw [q1, q2, if_neg (fun z => nm9 (d := w) (by omega) z.symm)]
    by_cases y : w ≤ h s
    · rw [if_pos (nI_le y (by omega)), Nat.min_eq_left y]
    · rw [if_neg (nI_ge (by omega) (by omega)), Nat.min_eq_right (by omega)]
theorem max_if {x y : Nat} (hx : x < 2 ^ 31) (hy : y < 2 ^ 31) : (if nI x < nI y then nI y else nI x) = nI (max x y) := by
  by_cases q : x < y
  · rw [if_pos (nI_lt q hy), Nat.max_eq_right (by omega)]
  · rw [if_neg (nI_nlt (by omega) hx), Nat.max_eq_left (by omega)]
theorem dv_mx (hm : okM S) {d s : Nat} (hd : ¬ d % 2 = 0) (hs : s < 256) {c : Int32 → Int32} {h : Nat → Nat} (hh : ∀ k, k < nM S → s.testBit k = false → c (nI (s + 2 ^ k)) = nI (h (s + 2 ^ k)) ∧ h (s + 2 ^ k) < 1000) (h0 : c (nI s) = nI (h s) ∧ h s < 1000) {f : Nat → Int32} (hf : f s = nI (h s)) (hf2 : ∀ k, k < nM S → s.testBit k = false → f (s + 2 ^ k) = nI (h (s + 2 ^ k))) : dvF S d (nI s) c (nM S + 1) = mxV f s (nM S) := by
  have h8 := hm.2
  have key : ∀ k, k ≤ nM S → (dvF S d (nI s) c k = -9 ∧ mxV f s k = nI (h s)) ∨ ∃ w, w < 1000 ∧ dvF S d (nI s) c k = nI w ∧ mxV f s k = nI (max w (h s)) := by
    intro k
    induction k with
    | zero => intro _; exact Or.inl ⟨rfl, hf⟩
    | succ k ih =>
      intro hk
      rw [dvF, mxV, ok_k hm (by omega) hs, decide_eq_false hd]
      cases t : s.testBit k
      · obtain ⟨a, b⟩ := hh k (by omega) t
        have e : mvM S (nI s) k = nI (s + 2 ^ k) := by
          unfold mvM
          rw [if_neg (ne_N hm (by omega))]
          exact ((bit_f hs (show k < 8 by omega)).2 t).2.1
        rw [if_pos (by decide), if_neg (by decide), e, a, hf2 k (by omega) t]
        unfold btM
        rw [if_neg hd]
        generalize h (s + 2 ^ k) = u at b ⊢
        have h0' := h0.2
        rcases ih (by omega) with ⟨q1, q2⟩ | ⟨w, hw, q1, q2⟩
        · refine Or.inr ⟨u, b, ?_, ?_⟩
          · rw [q1, if_pos rfl]
          · rw [q2]
            exact (max_if (x := h s) (y := u) (by omega) (by omega)).trans (by rw [Nat.max_comm])
        · refine Or.inr ⟨max w u, by omega, ?_, ?_⟩
          · rw [q1, if_neg (fun z => nm9 (d := w) (by omega) z.symm)]
            by_cases y : u ≤ w
            · rw [if_pos (nI_le y (by omega)), Nat.max_eq_left y]
            · rw [if_neg (nI_ge (by omega) (by omega)), Nat.max_eq_right (by omega)]
          · rw [q2, max_if (by omega) (by omega)]
            congr 1
            omega
      · rw [if_neg (by decide), if_pos rfl]
        exact ih (by omega)
  rw [dvF, ok_N hm, if_pos rfl, mv_N hm, h0.1]
  have h0' := h0.2
  unfold btM
  rw [if_neg hd]
  rcases key (nM S) (Nat.le_refl _) with ⟨q1, q2⟩ | ⟨w, hw, q1, q2⟩
  · rw [q1, q2, if_pos rfl]
  · rw [q1, q2, if_neg (fun z => nm9 (d := w) (by omega) z.symm)]
    by_cases y : h s ≤ w
    · rw [if_pos (nI_le y (by omega)), Nat.max_eq_left y]
    · rw [if_neg (nI_ge (by omega) (by omega)), Nat.max_eq_right (by omega)]
/-- a fold's value is one of the values -/
theorem mn_in {f : Nat → Int32} {s : Nat} (hf : ∃ w, w < 1000 ∧ f s = nI w) : ∀ j, (∀ k, k < j → s.testBit k = true → ∃ w, w < 1000 ∧ f (s - 2 ^ k) = nI w) → ∃ w, w < 1000 ∧ mnV f s j = nI w
  | 0, _ => hf
  | j + 1, h => by
    have ih := mn_in hf j (fun k hk => h k (by omega))
    rw [mnV]
    cases t : s.testBit j
    · rw [if_neg (by decide)]; exact ih
    · rw [if_pos rfl]
      split
      · exact h j (by omega) t
      · exact ih
theorem mx_in {f : Nat → Int32} {s : Nat} (hf : ∃ w, w < 1000 ∧ f s = nI w) : ∀ j, (∀ k, k < j → s.testBit k = false → ∃ w, w < 1000 ∧ f (s + 2 ^ k) = nI w) → ∃ w, w < 1000 ∧ mxV f s j = nI w
  | 0, _ => hf
  | j + 1, h => by
    have ih := mx_in hf j (fun k hk => h k (by omega))
    rw [mxV]
    cases t : s.testBit j
    · rw [if_neg (by decide)]
      split
      · exact h j (by omega) t
      · exact ih
    · rw [if_pos rfl]; exact ih
theorem dvM_w {T : St} (e : gA T 59 = gA S 59) {p : Int32} : ∀ r d L, dvM T p r d L = dvM S p r d L
  | 0, d, L => by rw [dvM, dvM, brR_w e, nM_w e, e]
  | r + 1, d, L => by
    rw [dvM, dvM, nM_w e]
    have f : dvM T p r (d + 1) = dvM S p r (d + 1) := funext fun L => dvM_w e r (d + 1) L
    rw [f]
    have z : ∀ k, dvF T d L (dvM S p r (d + 1)) k = dvF S d L (dvM S p r (d + 1)) k := by
      intro k
      induction k with
      | zero => rfl
      | succ k ih =>
        rw [dvF, dvF, ih]
        unfold okV mvM
        rw [e]
    exact z _
end DU
/-- backwards and in depth: the same values, at the sets that the turns ahead can lead to -/
theorem au_dv {S : St} (h : Rel S) {p t l : Nat} (hp : p < 10) (ht : t ≤ 4) (hl : l < 2 ^ nM S) {g : Nat → Int32} (hg : ∀ s, s < 256 → g s = brR S (nI p) (nI s) (gA S 59 1) (nM S)) : ∀ m, m ≤ t → ∀ s, s < 2 ^ nM S → dfN s l 8 ≤ t - m → (auR (nM S) t (nI l) g m s = dvM S (nI p) m (t - m) (nI s) ∧ ∃ w, w < 1000 ∧ auR (nM S) t (nI l) g m s = nI w)
  | 0, _, s, hs, _ => by
    have hB := h.1.1.1
    have hm := bE_okM hB
    have p8 := p256 hm.2
    obtain ⟨n, hn, en⟩ := lt_nt h
    have e := hg s (by omega)
    obtain ⟨v, hv, ev⟩ := br_bd (wr_of hB h.1.1.2.1) hp (show n < 100 by omega) (set := nI s) (nM S) (Nat.le_refl _)
    refine ⟨e, v, by have := hm.2; omega, ?_⟩
    show g s = nI v
    rw [e, en]; exact ev
  | m + 1, hmt, s, hs, hd => by
    have hm := bE_okM h.1.1.1
    have h8 := hm.2
    have p8 := p256 h8
    have ih := au_dv h hp ht hl hg m (by omega)
    have ed : t - m = t - (m + 1) + 1 := by omega
    rw [ed] at ih
    generalize hdd : t - (m + 1) = d at ih hd ⊢
    have l256 : l < 256 := by omega
    rw [auR, dvM, show t - 1 - m = d by omega]
    generalize hf : auR (nM S) t (nI l) g m = f at ih
    -- neighbours
    have nb1 : ∀ k, k < nM S → s.testBit k = true → s - 2 ^ k < 2 ^ nM S ∧ dfN (s - 2 ^ k) l 8 ≤ d + 1 := fun k hk hb => by
      obtain ⟨a, b⟩ := tb_sub hs hb
      have := df_1 (l := l) (s := s) (s' := s - 2 ^ k) (j := k) (fun i hi => by rw [b i, decide_eq_true hi, Bool.and_true]) 8
      rw [if_pos (show k < 8 by omega)] at this
      exact ⟨Nat.lt_of_le_of_lt (Nat.sub_le _ _) hs, by omega⟩
    have nb0 : ∀ k, k < nM S → s.testBit k = false → s + 2 ^ k < 2 ^ nM S ∧ dfN (s + 2 ^ k) l 8 ≤ d + 1 := fun k hk hb => by
      have b := tb_add (show s < 256 by omega) (show k < 8 by omega) hb
      have := df_1 (l := l) (s := s) (s' := s + 2 ^ k) (j := k) (fun i hi => by rw [b i, decide_eq_false hi, Bool.or_false]) 8
      rw [if_pos (show k < 8 by omega)] at this
      obtain ⟨-, -, -, e⟩ := (bit_f (m := s) (k := k) (by omega) (by omega)).2 hb
      exact ⟨by rw [← e]; exact Nat.or_lt_two_pow hs (Nat.pow_lt_pow_right (by omega) hk), by omega⟩
    have vl : ∀ x, ∃ w, x < 2 ^ nM S ∧ dfN x l 8 ≤ d + 1 → (f x = nI w ∧ w < 1000 ∧ dvM S (nI p) m (d + 1) (nI x) = nI w) := fun x => by
      by_cases q : x < 2 ^ nM S ∧ dfN x l 8 ≤ d + 1
      · obtain ⟨a, w, hw, e⟩ := ih x q.1 q.2
        exact ⟨w, fun _ => ⟨e, hw, by rw [← a]; exact e⟩⟩
      · exact ⟨0, fun z => absurd z q⟩
    obtain ⟨hn, hhn⟩ : ∃ hn : Nat → Nat, ∀ x, x < 2 ^ nM S ∧ dfN x l 8 ≤ d + 1 → (f x = nI (hn x) ∧ hn x < 1000 ∧ dvM S (nI p) m (d + 1) (nI x) = nI (hn x)) := ⟨fun x => (vl x).choose, fun x => (vl x).choose_spec⟩
    obtain ⟨s1, s2, s3⟩ := hhn s ⟨hs, by omega⟩
    by_cases c : d % 2 = 0
    · rw [if_pos ((odd_iff (by omega)).mpr c), laO_is h8 l256 (by omega) (2 ^ nM S) (Nat.le_refl _) s hs, if_pos ⟨by omega, hd⟩]
      refine ⟨(dv_mn hm c (by omega) (h := hn) (fun k hk hb => ?_) ⟨s3, s2⟩ s1 (fun k hk hb => (hhn _ (nb1 k hk hb)).1)).symm, ?_⟩
      · obtain ⟨a, b, e⟩ := hhn _ (nb1 k hk hb)
        exact ⟨e, b⟩
      · exact mn_in ⟨_, s2, s1⟩ _ (fun k hk hb => ⟨_, (hhn _ (nb1 k hk hb)).2.1, (hhn _ (nb1 k hk hb)).1⟩)
    · rw [if_neg (fun z => c ((odd_iff (by omega)).mp z)), liO_is h8 l256 (by omega) (2 ^ nM S) (Nat.le_refl _) s hs, if_pos ⟨hs, hd⟩]
      refine ⟨(dv_mx hm c (by omega) (h := hn) (fun k hk hb => ?_) ⟨s3, s2⟩ s1 (fun k hk hb => (hhn _ (nb0 k hk hb)).1)).symm, ?_⟩
      · obtain ⟨a, b, e⟩ := hhn _ (nb0 k hk hb)
        exact ⟨e, b⟩
      · exact mx_in ⟨_, s2, s1⟩ _ (fun k hk hb => ⟨_, (hhn _ (nb0 k hk hb)).2.1, (hhn _ (nb0 k hk hb)).1⟩)
theorem sb_br {S : St} (h : Rel S) {p : Int32} {s : Nat} (hs : s < 256) : sbR (glW S 30 p) s 8 = brR S p (nI s) (gA S 59 1) (nM S) := by
  have hB := h.1.1.1
  have h8 := hB.1.2
  have e8 : sbR (glW S 30 p) s 8 = sbR (glW S 30 p) s (szB S 30) := by
    have := sb_top h (p := p) (n := s) (8 - szB S 30) (by omega)
    rw [show szB S 30 + (8 - szB S 30) = 8 by omega] at this
    exact this
  rw [e8, bE_nM hB]
  have z : ∀ k, k ≤ szB S 30 → sbR (glW S 30 p) s k = brR S p (nI s) (gA S 59 1) k := by
    intro k
    induction k with
    | zero => intro _; rfl
    | succ k ih =>
      intro hk
      rw [sbR, brR, ih (by omega), gl_g h (by omega), hs_nat (by omega) (by omega)]
      split
      · rfl
      · exact (Int32.add_zero _).symm
  exact z _ (Nat.le_refl _)
theorem p_duel (E : En) {S : St} (h : Rel S) (p x : Int32) : PRi E i_X8_duel i_X9_duel S [.int p, .int x] := by
  have hB := h.1.1.1
  have hm := bE_okM hB
  by_cases c : placeF p = true ∧ ¬ x < 0 ∧ x ≤ 4
  · obtain ⟨c1, c2, c3⟩ := c
    have c9 : placeF p = true ∧ inF x.toInt64 0 4 = true := ⟨c1, in_04.mpr ⟨c2, c3⟩⟩
    by_cases g0 : gI S 30 6 = 0
    · exact pr_no h (c_X8_duel_st E S p x hB.1 c1 c2 c3 (fun z => z g0)) (c_X9_duel_no E S p x c9 ((no_0 h).trans g0))
    · obtain ⟨p, hp, rfl⟩ := idx_nat (m := 10) (by omega) c1
      obtain ⟨t, ht, rfl⟩ := nI_of2 (x := x) (M := 4) (n := 4) (by decide) c2 c3
      obtain ⟨l, hl, el⟩ := lt_li h
      have p8 := p256 hm.2
      have el7 : gI S 30 7 = nI l := (n_lit hB).symm.trans el
      obtain ⟨key, -⟩ := au_dv h hp ht hl (g := gA (scrF S (glW S 30 (nI p))) 7) (fun s hs => by rw [sums_is hs, sb_br h hs]) t (Nat.le_refl _) l hl (by rw [df_self]; omega)
      rw [Nat.sub_self] at key
      have ea : atF S 30 (nI p) t = dvM S (nI p) t 0 (nI l) := by
        unfold atF auF
        rw [el7, ← bE_nM hB, decide_eq_false (nI_pos (show l < 2 ^ 31 by omega)), decide_eq_false (show ¬ (256 : Int32) ≤ nI l from nI_ge (a := l) (b := 256) (by omega) (by omega)), nI_clamp (by omega)]
        rw [if_pos (show (!false && !false) = true from rfl)]
        exact key
      have c8 := c_X8_duel_ok E S (nI p) t hB.1 c1 ht g0
      generalize hT : sA (scrF S (glW S 30 (nI p))) 7 (auF S 30 (nI p) t) = T at c8
      have t59 : gA T 59 = gA S 59 := by rw [← hT, gA_ne (by omega)]; exact scr_59
      refine ⟨_, _, _, c8, c_X9_duel_ok E T (nI p) t (okM_w t59 hm) c9 ht (by rw [t59, no_0 h]; exact g0), fun S2 r hq => ?_⟩
      obtain ⟨q1, f, g, k, q2⟩ := hq
      refine ⟨?_, ?_⟩
      · rw [q1, dvM_w t59, t59, el, ea]
      · rw [q2, ← hT]
        unfold dlS
        exact RL_as h (sameW_sA (sameW_sA (sameW_sA (sameW_sA (sW_scr (sameW_rf S) _) (by omega)) (by omega)) (by omega)) (by omega)) ⟨rfl, rfl, rfl, rfl, rfl, rfl, rfl, rfl⟩ h.2.2.2.1
  · exact pr_no h (c_X8_duel_bad E S p x hB.1 c) (c_X9_duel_bad E S p x (fun z => c ⟨z.1, in_04.mp z.2⟩))
