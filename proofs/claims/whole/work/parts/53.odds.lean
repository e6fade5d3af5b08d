/-! ODDS, MID: the calls -/
theorem onN_top {n N : Nat} (hn : n < 2 ^ N) : ∀ j, onN n (N + j) = onN n N
  | 0 => rfl
  | j + 1 => by rw [← Nat.add_assoc, onN, onN_top hn j, tb_big hn (by omega)]; rfl
theorem onN_8 {n N : Nat} (hn : n < 2 ^ N) (hN : N ≤ 8) : onN n 8 = onN n N := by
  have := onN_top hn (8 - N)
  rw [show N + (8 - N) = 8 by omega] at this
  exact this
theorem pw_nat {a c : Nat} (hc : c ≤ 8) : pwG (lN a) (nI c) 8 = lN (a ^ c) := by
  rw [pwG_st (lN a) (nI c) (n := c) hc (Int32.le_refl _)]
  have z : ∀ k, k ≤ c → pwG (lN a) (nI c) k = lN (a ^ k) := by
    intro k
    induction k with
    | zero => intro _; rfl
    | succ k ih =>
      intro hk
      rw [pwG, if_pos (nI_lt (by omega) (by omega)), ih (by omega), lN_mul, Nat.pow_succ]
  exact z c (Nat.le_refl _)
section CH
variable {S : St} {g : Nat → Nat} {l p : Nat}
/-- the class's ways, a number -/
theorem wy_nat {lit : Int32} {w : Nat → Int32} {q M v : Nat} (el : lit = nI l) (hl : l < 256) (hq : q ≤ 12) (hM : M ≤ 256) (hw : ∀ n, n < 256 → ∃ s, s < 2 ^ 30 ∧ sbR w n 8 = nI s) : ∃ f : Nat → Nat, (∀ n, n < 256 → sbR w n 8 = nI (f n) ∧ f n < 2 ^ 30) ∧ ∀ m, m ≤ M → v < 2 ^ 30 → wyR lit (nI v) (nI q) w m = lN (sS (fun n => withF (nI n) (nI l)) (fun n => if f n ≤ v then q ^ onN (l - n) 8 * (12 - q) ^ onN n 8 else 0) m) := by
  have hw' : ∀ n, ∃ s, n < 256 → sbR w n 8 = nI s ∧ s < 2 ^ 30 := fun n => by
    by_cases h : n < 256
    · obtain ⟨s, hs, e⟩ := hw n h; exact ⟨s, fun _ => ⟨e, hs⟩⟩
    · exact ⟨0, fun z => absurd z h⟩
  obtain ⟨f, hf⟩ : ∃ f : Nat → Nat, ∀ n, n < 256 → sbR w n 8 = nI (f n) ∧ f n < 2 ^ 30 := ⟨fun n => (hw' n).choose, fun n => (hw' n).choose_spec⟩
  refine ⟨f, hf, fun m => ?_⟩
  induction m with
  | zero => intro _ _; rfl
  | succ m ih =>
    intro hm hv
    obtain ⟨e1, e2⟩ := hf m (by omega)
    rw [wyR, sS, ih (by omega) hv, el, e1]
    cases t : withF (nI m) (nI l)
    · rw [Bool.false_and, if_neg (by decide), if_neg (by decide)]
    · rw [Bool.true_and, if_pos rfl]
      by_cases c : f m ≤ v
      · have tb := (with_iff (show m < 256 by omega) hl).mp t
        obtain ⟨ml, -⟩ := sub_tb 8 l m hl (by omega) tb
        rw [if_pos (decide_eq_true (nI_le c (by omega))), if_pos c, pk_sub ml, bc_on (show l - m < 256 by omega), bc_on (show m < 256 by omega), onF_nat (show l - m < 256 by omega), onF_nat (show m < 256 by omega)]
        have o1 := onN_le (l - m) 8
        have o2 := onN_le m 8
        have e12 : (12 - nI q).toInt64 = lN (12 - q) := by rw [show (12 : Int32) = nI 12 from rfl, pk_sub hq, nI_l (by omega)]
        rw [nI_l (by omega), e12, pw_nat o1, pw_nat o2, lN_mul, lN_add]
      · rw [if_neg (fun z => c ((nI_leI (by omega) (by omega)).mp (of_decide_eq_true z))), if_neg c, Nat.add_zero]
theorem to_nat (el : gA S 59 2 = nI l) (hl : l < 256) : ∀ k, k ≤ 8 → toM S k = lN (dN l k)
  | 0, _ => rfl
  | k + 1, hk => by
    rw [toM, dN, to_nat el hl k (by omega), el, hs_nat (by omega) (by omega)]
    split
    · exact lN_mul _ 12
    · rw [Nat.mul_one, Int64.mul_one]
theorem wa_nat {q n : Nat} (hq : q ≤ 12) (el : gA S 59 2 = nI l) (hl : l < 256) (hn : n < 256) : ∀ k, k ≤ 8 → waM S (nI q) (nI n) k = lN (wN q (12 - q) l n k)
  | 0, _ => rfl
  | k + 1, hk => by
    rw [waM, wN, wa_nat hq el hl hn k (by omega), el, hs_nat (by omega) (by omega), hs_nat (by omega) (by omega)]
    have e12 : (12 - nI q).toInt64 = lN (12 - q) := by rw [show (12 : Int32) = nI 12 from rfl, pk_sub hq, nI_l (by omega)]
    rw [e12, nI_l (by omega), ← lN_mul]
    congr 1
    split
    · split <;> rfl
    · rfl
/-- how bright it is by the lights of l without n -/
theorem br_nat {pl night : Int32} (hg : ∀ k, k < nM S → gvM S k (gA S 59 (3 + k)) pl night = nI (g k)) {n : Nat} (hl : l < 256) (hn : n < 256) : ∀ k, k ≤ nM S → k ≤ 8 → brR S pl (nI l &&& (nI n ^^^ -1)) night k = nI (brN g l n k)
  | 0, _, _ => rfl
  | k + 1, hk, h8 => by
    rw [brR, brN, br_nat hg hl hn k (by omega) (by omega), hg k (by omega), hs_and (by omega), hs_xor (by omega), hs_m1 (by omega), hs_nat (by omega) (by omega), hs_nat (by omega) (by omega)]
    have e : (l.testBit k && (n.testBit k ^^ true)) = (l.testBit k && !n.testBit k) := by cases n.testBit k <;> rfl
    rw [e]
    split
    · exact nI_add _ _
    · exact Int32.add_zero _
theorem brN_le {n : Nat} (hg : ∀ k, g k ≤ 20) : ∀ k, brN g l n k ≤ 20 * k
  | 0 => Nat.le_refl _
  | k + 1 => by
    have := brN_le (n := n) hg k
    have := hg k
    rw [brN]
    split <;> omega
theorem sb_nat {w : Nat → Int32} (hg : ∀ k, k < 8 → w k = nI (g k)) {n : Nat} : ∀ k, k ≤ 8 → sbR w n k = nI (brN g n 0 k)
  | 0, _ => rfl
  | k + 1, hk => by
    rw [sbR, brN, sb_nat hg k (by omega), hg k (by omega), Nat.zero_testBit, Bool.not_false, Bool.and_true]
    split
    · exact nI_add _ _
    · rfl
theorem ch_nat {q v : Nat} (hq : q ≤ 12) (hv : v < 2 ^ 30) (el : gA S 59 2 = nI l) (hl : l < 256) (hN : nM S ≤ 8) (hg : ∀ k, k < nM S → gvM S k (gA S 59 (3 + k)) (nI p) (gA S 59 1) = nI (g k)) (hg2 : ∀ k, g k ≤ 20) : ∀ m, m ≤ 256 → chM S (nI p) (nI v) (nI q) m = lN (sS (fun n => withF (nI n) (nI l)) (fun n => if brN g l n (nM S) ≤ v then wN q (12 - q) l n (nM S) else 0) m)
  | 0, _ => rfl
  | m + 1, hm => by
    have e := br_nat hg hl (show m < 256 by omega) (nM S) (Nat.le_refl _) hN
    have b := brN_le (l := l) (n := m) hg2 (nM S)
    rw [chM, sS, ch_nat hq hv el hl hN hg hg2 m (by omega)]
    unfold chB
    rw [el, e, if_neg (show ¬ nI v = -9 from fun z => absurd (z ▸ nI_pos (n := v) (by omega)) (by decide)), wa_nat hq el hl (by omega) _ hN]
    have et : (nI m &&& (nI l ^^^ -1) = 0) ↔ withF (nI m) (nI l) = true := by unfold withF; rw [decide_eq_true_eq]
    by_cases t : withF (nI m) (nI l) = true
    · rw [if_pos (et.mpr t), if_pos t]
      by_cases c : brN g l m (nM S) ≤ v
      · rw [if_neg (nI_nlt c (by omega)), if_pos c, lN_add]
      · rw [if_pos (nI_lt (by omega) (by omega)), if_neg c, Nat.add_zero]
        exact Int64.add_zero _
    · rw [if_neg (fun z => t (et.mp z)), if_neg t]
theorem cm_nat {q : Nat} (hq : q ≤ 12) (el : gA S 59 2 = nI l) (hl : l < 256) (hN : nM S ≤ 8) (hg : ∀ k, k < nM S → gvM S k (gA S 59 (3 + k)) (nI p) (gA S 59 1) = nI (g k)) (hg2 : ∀ k, g k ≤ 20) : ∀ m, m ≤ 256 → chM S (nI p) (-9) (nI q) m = lN (sS (fun n => withF (nI n) (nI l)) (fun n => wN q (12 - q) l n (nM S) * brN g l n (nM S)) m)
  | 0, _ => rfl
  | m + 1, hm => by
    have e := br_nat hg hl (show m < 256 by omega) (nM S) (Nat.le_refl _) hN
    have b := brN_le (l := l) (n := m) hg2 (nM S)
    rw [chM, sS, cm_nat hq el hl hN hg hg2 m (by omega)]
    unfold chB
    rw [el, e, if_pos rfl, wa_nat hq el hl (by omega) _ hN, nI_l (by omega), lN_mul, lN_add]
    have et : (nI m &&& (nI l ^^^ -1) = 0) ↔ withF (nI m) (nI l) = true := by unfold withF; rw [decide_eq_true_eq]
    by_cases t : withF (nI m) (nI l) = true
    · rw [if_pos (et.mpr t), if_pos t]
    · rw [if_neg (fun z => t (et.mp z)), if_neg t]
end CH
theorem chM_w {S T : St} (e : gA T 59 = gA S 59) {p v q : Int32} : ∀ n, chM T p v q n = chM S p v q n
  | 0 => rfl
  | n + 1 => by
    have w : ∀ k s, waM T q s k = waM S q s k := fun k s => by
      induction k with
      | zero => rfl
      | succ k ih => rw [waM, waM, ih, e]
    rw [chM, chM, chM_w e n, e, w, nM_w e]
    unfold chB
    rw [e, brR_w e, nM_w e]
theorem toM_w {S T : St} (e : gA T 59 = gA S 59) : ∀ n, toM T n = toM S n
  | 0 => rfl
  | n + 1 => by rw [toM, toM, toM_w e n, e]
theorem Rel_tw {S T : St} (h : Rel S) (w : sameW S T) (g1 : gA T 4 = gA S 4) (g2 : gA T 64 = gA S 64) (g3 : gI T 0 7 = gI S 0 7) (g4 : gI T 58 5 = gI S 58 5) (g5 : gI T 0 8 = gI S 0 8) (g6 : gI T 58 7 = gI S 58 7) (u1 : gL T 0 9 = gL T 58 8) (u2 : gL T 0 10 = gL T 58 9) : Rel T :=
  ⟨RLw_same h.1 w, fun f hf => by rw [g1, g2]; exact h.2.1 f hf, by rw [g3, g4]; exact h.2.2.1, by rw [g5, g6]; exact h.2.2.2.1, u1, u2⟩
theorem lN_pos {n : Nat} (h : 0 < n) (h2 : n < 2 ^ 62) : 0 < lN n := by
  rw [Int64.lt_iff_toInt_lt, lN_toI h2, show (0 : Int64).toInt = 0 by decide]
  omega
theorem dN_bd (l : Nat) : ∀ k, 0 < dN l k ∧ dN l k ≤ 12 ^ k
  | 0 => ⟨by show 0 < 1; omega, Nat.le_refl _⟩
  | k + 1 => by
    obtain ⟨a, b⟩ := dN_bd l k
    rw [dN, Nat.pow_succ]
    split <;> omega
theorem p12 {k : Nat} (h : k ≤ 8) : 12 ^ k ≤ 429981696 := Nat.pow_le_pow_right (n := 12) (by omega) h
section CC
variable {S : St}
/-- each light's brightness, a number -/
theorem gl_nat (h : Rel S) {p : Nat} (hp : p < 10) : ∃ g : Nat → Nat, (∀ k, g k ≤ 20) ∧ (∀ k, k < nM S → gvM S k (gA S 59 (3 + k)) (nI p) (gA S 59 1) = nI (g k)) ∧ ∀ k, k < 8 → glW S 30 (nI p) k = nI (g k) := by
  have hB := h.1.1.1
  have hw := wr_of hB h.1.1.2.1
  obtain ⟨n, hn, en⟩ := lt_nt h
  have z : ∀ k, ∃ v, v ≤ 20 ∧ (k < nM S → gvM S k (gA S 59 (3 + k)) (nI p) (gA S 59 1) = nI v) ∧ (k < 8 → glW S 30 (nI p) k = nI v) := fun k => by
    by_cases q : k < nM S
    · obtain ⟨a, ha, ea⟩ := lt_p h q
      obtain ⟨v, hv, e⟩ := gv_bd hw q ha hp (show n < 100 by omega)
      refine ⟨v, by omega, fun _ => by rw [ea, en]; exact e, fun _ => ?_⟩
      rw [gl_g h (by rw [← bE_nM hB]; exact q), ea, en]; exact e
    · exact ⟨0, by omega, fun z => absurd z q, fun h8 => gl_0 h (by rw [← bE_nM hB]; omega) h8⟩
  exact ⟨fun k => (z k).choose, fun k => (z k).choose_spec.1, fun k => (z k).choose_spec.2.1, fun k => (z k).choose_spec.2.2⟩
end CC
theorem p_odds (E : En) {S : St} (h : Rel S) (p v q : Int32) : PRi E i_X8_odds i_X9_odds S [.int p, .int v, .int q] := by
  have hB := h.1.1.1
  have hm := bE_okM hB
  by_cases c : placeF p = true ∧ ¬ v < 0 ∧ ¬ 99 < v ∧ ¬ q < 0 ∧ q ≤ 12
  · obtain ⟨c1, c2, c3, c4, c5⟩ := c
    have c9 : placeF p = true ∧ inF v.toInt64 0 99 = true ∧ inF q.toInt64 0 12 = true := ⟨c1, in_099.mpr ⟨c2, Int32.not_lt.mp c3⟩, in_012.mpr ⟨c4, c5⟩⟩
    by_cases g0 : gI S 30 6 = 0
    · exact pr_no h (c_X8_odds_st E S p v q hB.1 c1 c2 c3 c4 c5 (fun z => z g0)) (c_X9_odds_no E S p v q c9 ((no_0 h).trans g0))
    · obtain ⟨p, hp, rfl⟩ := idx_nat (m := 10) (by omega) c1
      obtain ⟨v, hv, rfl⟩ := nI_of2 (x := v) (M := 99) (n := 99) (by decide) c2 (Int32.not_lt.mp c3)
      obtain ⟨q, hq, rfl⟩ := nI_of2 (x := q) (M := 12) (n := 12) (by decide) c4 c5
      obtain ⟨l, hl, el⟩ := lt_li h
      have h8 := hm.2
      have l256 : l < 256 := by have := p256 h8; omega
      obtain ⟨g, g20, gg, gw⟩ := gl_nat h hp
      have el7 : gI S 30 7 = nI l := (n_lit hB).symm.trans el
      obtain ⟨f, hf, ew⟩ := wy_nat (lit := gI S 30 7) (w := glW S 30 (nI p)) (q := q) (M := 256) (v := v) el7 l256 hq (Nat.le_refl _) (fun n hn => ⟨brN g n 0 8, by have := brN_le (l := n) (n := 0) g20 8; omega, sb_nat gw 8 (Nat.le_refl _)⟩)
      have hP : ∀ n, n < 256 → ((fun n => withF (nI n) (nI l)) n = true ↔ tbS l n) := fun n hn => with_iff hn l256
      have hM := p256 h8
      have hr : q + (12 - q) = 12 := by omega
      -- both sums are one
      have same : sS (fun n => withF (nI n) (nI l)) (fun n => if f n ≤ v then q ^ onN (l - n) 8 * (12 - q) ^ onN n 8 else 0) (2 ^ nM S) = sS (fun n => withF (nI n) (nI l)) (fun n => if brN g l n (nM S) ≤ v then wN q (12 - q) l n (nM S) else 0) (2 ^ nM S) := by
        rw [sS_q hP _ h8, sS_q hP _ h8, qS_rev (nM S) (fun n => if brN g l n (nM S) ≤ v then wN q (12 - q) l n (nM S) else 0), lw_self hl]
        refine qS_eq _ _ _ (fun n hn ht => ?_)
        obtain ⟨nl, nb⟩ := sub_tb (nM S) l n hl hn ht
        have ef : f n = brN g n 0 (nM S) := by
          obtain ⟨e1, e2⟩ := hf n (by omega)
          rw [sb_nat gw 8 (Nat.le_refl _)] at e1
          have b8 := brN_le (l := n) (n := 0) g20 8
          have e3 := (nI_eq (by omega) (by omega)).mp e1
          have top : ∀ j, brN g n 0 (nM S + j) = brN g n 0 (nM S) := by
            intro j
            induction j with
            | zero => rfl
            | succ j ih => rw [← Nat.add_assoc, brN, ih, tb_big hn (by omega)]; rfl
          have t8 := top (8 - nM S)
          rw [show nM S + (8 - nM S) = 8 by omega] at t8
          rw [← e3, t8]
        have eb : ∀ k, brN g l (l - n) k = brN g n 0 k := by
          intro k
          induction k with
          | zero => rfl
          | succ k ih =>
            rw [brN, brN, ih, nb k, Nat.zero_testBit]
            have := ht k
            cases a : n.testBit k
            · cases l.testBit k <;> rfl
            · rw [this a]; rfl
        have tl : tbS l (l - n) := fun k hk => by
          rw [nb k, Bool.and_eq_true] at hk
          exact hk.1
        have ep := wN_pow (q := q) (r := 12 - q) (l := l) (n := l - n) (m := n) (fun k => by
          rw [nb k]
          have := ht k
          cases a : n.testBit k
          · cases l.testBit k <;> rfl
          · rw [this a]; rfl) tl (nM S)
        show (if f n ≤ v then q ^ onN (l - n) 8 * (12 - q) ^ onN n 8 else 0) = (if brN g l (l - n) (nM S) ≤ v then wN q (12 - q) l (l - n) (nM S) else 0)
        rw [ef, eb, ep, onN_8 hn h8, onN_8 (show l - n < 2 ^ nM S by omega) h8]
      generalize hA : sS (fun n => withF (nI n) (nI l)) (fun n => if brN g l n (nM S) ≤ v then wN q (12 - q) l n (nM S) else 0) (2 ^ nM S) = A at same
      have eA8 : wyR (gI S 30 7) (nI v) (nI q) (glW S 30 (nI p)) (2 ^ szB S 30) = lN A := by
        rw [← bE_nM hB, ew (2 ^ nM S) hM (by omega), same]
      have eA9 : chM S (nI p) (nI v) (nI q) (2 ^ nM S) = lN A := by rw [ch_nat hq (by omega) el l256 h8 gg g20 _ hM, hA]
      have eD9 : toM S (nM S) = lN (dN l (nM S)) := to_nat el l256 _ h8
      have eD8 : pwG 12 (bcF (gI S 30 7)) 8 = lN (dN l (nM S)) := by
        rw [el7, bc_on l256, onF_nat l256, show (12 : Int64) = lN 12 from rfl, pw_nat (onN_le l 8), onN_8 hl h8, dN_pow]
      obtain ⟨d0, d1⟩ := dN_bd l (nM S)
      have d2 := p12 h8
      have A2 : A ≤ dN l (nM S) := by
        rw [← hA, sS_q hP _ h8, ← qw_is hr (nM S)]
        refine qS_le _ _ _ (fun n => ?_)
        show (if _ then _ else 0) ≤ _
        split
        · exact Nat.le_refl _
        · exact Nat.zero_le _
      have gp : 0 < Nat.gcd A (dN l (nM S)) := Nat.gcd_pos_of_pos_right A d0
      have gl : Nat.gcd A (dN l (nM S)) < 2 ^ 62 := by
        have := Nat.gcd_le_right A d0
        omega
      have c8 := c_X8_odds_ok E S (nI p) (nI v) (nI q) hB.1 (by rw [eA8, eD8, gdF_nat (by omega) (by omega)]; exact lN_pos gp gl) c1 c2 c3 c4 c5 g0
      rw [eA8, eD8] at c8
      generalize hT : lwS (scrF S (glW S 30 (nI p))) (lN A) (lN (dN l (nM S))) = T at c8
      have t59 : gA T 59 = gA S 59 := by rw [← hT]; exact scr_59 (w := glW S 30 (nI p))
      have eA : chM T (nI p) (nI v) (nI q) (2 ^ nM T) = lN A := by rw [nM_w t59, chM_w t59, eA9]
      have eD : toM T (nM T) = lN (dN l (nM S)) := by rw [nM_w t59, toM_w t59, eD9]
      have c9' := c_X9_odds_ok E T (nI p) (nI v) (nI q) (okM_w t59 hm) c9 (by rw [t59, no_0 h]; exact g0) (by rw [eA, eD]; exact gdE_ok (by omega) (by omega)) (by rw [eA, eD]; exact gdF_n0 (by omega) (by omega) d0)
      rw [eA, eD] at c9'
      refine pr_mk c8 c9' rfl ?_
      rw [← hT]
      exact Rel_tw h (sameW_sL (sameW_sL (sameW_sL (sameW_sL (sW_scr (sameW_rf S) _))))) rfl rfl rfl rfl rfl rfl rfl rfl
  · refine pr_no h (c_X8_odds_bad E S p v q hB.1 c) (c_X9_odds_bad E S p v q (fun z => c ?_))
    have a := in_099.mp z.2.1
    have b := in_012.mp z.2.2
    exact ⟨z.1, a.1, Int32.not_lt.mpr a.2, b.1, b.2⟩
theorem p_mid (E : En) {S : St} (h : Rel S) (p q : Int32) : PRi E i_X8_mid i_X9_mid S [.int p, .int q] := by
  have hB := h.1.1.1
  have hm := bE_okM hB
  by_cases c : placeF p = true ∧ ¬ q < 0 ∧ q ≤ 12
  · obtain ⟨c1, c4, c5⟩ := c
    have c9 : placeF p = true ∧ inF q.toInt64 0 12 = true := ⟨c1, in_012.mpr ⟨c4, c5⟩⟩
    by_cases g0 : gI S 30 6 = 0
    · exact pr_no h (c_X8_mid_st E S p q hB.1 c1 c4 c5 (fun z => z g0)) (c_X9_mid_no E S p q c9 ((no_0 h).trans g0))
    · obtain ⟨p, hp, rfl⟩ := idx_nat (m := 10) (by omega) c1
      obtain ⟨q, hq, rfl⟩ := nI_of2 (x := q) (M := 12) (n := 12) (by decide) c4 c5
      obtain ⟨l, hl, el⟩ := lt_li h
      have h8 := hm.2
      have l256 : l < 256 := by have := p256 h8; omega
      obtain ⟨g, g20, gg, gw⟩ := gl_nat h hp
      have hP : ∀ n, n < 256 → ((fun n => withF (nI n) (nI l)) n = true ↔ tbS l n) := fun n hn => with_iff hn l256
      have hM := p256 h8
      have hr : q + (12 - q) = 12 := by omega
      have ev := qe_is (g := g) (q := q) (r := 12 - q) (l := l) hr (nM S)
      rw [← sS_q hP _ h8] at ev
      generalize hA : sS (fun n => withF (nI n) (nI l)) (fun n => wN q (12 - q) l n (nM S) * brN g l n (nM S)) (2 ^ nM S) = A at ev
      have eA9 : chM S (nI p) (-9) (nI q) (2 ^ nM S) = lN A := by rw [cm_nat hq el l256 h8 gg g20 _ hM, hA]
      have eD9 : toM S (nM S) = lN (dN l (nM S)) := to_nat el l256 _ h8
      have eb : briF S 30 (nI p) (gI S 30 8) = nI (brN g l 0 (nM S)) := by
        rw [bri_br hB, ← n_night hB, el, ← br_nat gg l256 (show 0 < 256 by omega) (nM S) (Nat.le_refl _) h8]
        congr 1
        have z : ∀ l : Fin 256, nI l.1 = nI l.1 &&& (nI 0 ^^^ -1) := by decide +kernel
        exact z ⟨l, l256⟩
      obtain ⟨d0, d1⟩ := dN_bd l (nM S)
      have d2 := p12 h8
      have b2 := brN_le (l := l) (n := 0) g20 (nM S)
      generalize hb : brN g l 0 (nM S) = b at ev eb b2
      generalize hd : dN l (nM S) = d at ev eD9 d0 d1
      have e12 : (12 - nI q).toInt64 = lN (12 - q) := by rw [show (12 : Int32) = nI 12 from rfl, pk_sub hq, nI_l (by omega)]
      have eW : (briF S 30 (nI p) (gI S 30 8)).toInt64 * (12 - nI q).toInt64 = lN (b * (12 - q)) := by rw [eb, nI_l (by omega), e12, lN_mul]
      have W2 : b * (12 - q) ≤ 160 * 12 := Nat.mul_le_mul (by omega) (by omega)
      have A2 : A < 2 ^ 62 := by
        have : (12 - q) * d * b ≤ 12 * 429981696 * 160 := Nat.mul_le_mul (Nat.mul_le_mul (by omega) (by omega)) (by omega)
        omega
      have fr := frac (a := A) (b := d) (c := b * (12 - q)) (d := 12) d0 (by omega) (by rw [Nat.mul_comm A 12, ev, Nat.mul_assoc, Nat.mul_comm d b, ← Nat.mul_assoc, Nat.mul_comm (12 - q) b])
      have gp : 0 < Nat.gcd (b * (12 - q)) 12 := Nat.gcd_pos_of_pos_right _ (by omega)
      have gl : Nat.gcd (b * (12 - q)) 12 ≤ 12 := Nat.gcd_le_right _ (by omega)
      have gl9 : Nat.gcd A d ≤ d := Nat.gcd_le_right _ d0
      have g8 : gdF (lN (b * (12 - q))) 12 = lN (Nat.gcd (b * (12 - q)) 12) := gdF_nat (b := 12) (by omega) (by omega)
      have g9 : gdF (lN A) (lN d) = lN (Nat.gcd A d) := gdF_nat (by omega) (by omega)
      have c8 := c_X8_mid_ok E S (nI p) (nI q) hB.1 (by rw [eW, g8]; exact lN_pos gp (by omega)) c1 c4 c5 g0
      rw [eW] at c8
      generalize hT : lwS S (lN (b * (12 - q))) 12 = T at c8
      have t59 : gA T 59 = gA S 59 := by rw [← hT]; rfl
      have eA : chM T (nI p) (-9) (nI q) (2 ^ nM T) = lN A := by rw [nM_w t59, chM_w t59, eA9]
      have eD : toM T (nM T) = lN d := by rw [nM_w t59, toM_w t59, eD9]
      have c9' := c_X9_mid_ok E T (nI p) (nI q) (okM_w t59 hm) c9 (by rw [t59, no_0 h]; exact g0) (by rw [eA, eD]; exact gdE_ok (by omega) (by omega)) (by rw [eA, eD]; exact gdF_n0 (by omega) (by omega) d0)
      rw [eA, eD] at c9'
      refine pr_mk c8 c9' rfl ?_
      rw [← hT]
      refine Rel_tw h (sameW_sL (sameW_sL (sameW_sL (sameW_sL (sameW_rf S))))) rfl rfl rfl rfl rfl rfl ?_ ?_
      · show lN (b * (12 - q)) / gdF (lN (b * (12 - q))) 12 = lN A / gdF (lN A) (lN d)
        rw [g8, g9, div_nat (by omega) (by omega), div_nat (by omega) (by omega), fr.1]
      · show 12 / gdF (lN (b * (12 - q))) 12 = lN d / gdF (lN A) (lN d)
        rw [g8, g9, show (12 : Int64) = lN 12 from rfl, div_nat (by omega) (by omega), div_nat (by omega) (by omega), fr.2]
  · refine pr_no h (c_X8_mid_bad E S p q hB.1 c) (c_X9_mid_bad E S p q (fun z => c ?_))
    have b := in_012.mp z.2
    exact ⟨z.1, b.1, b.2⟩
