/-! THE READER of texts: fault, bank -/
theorem let_kind (c : Int32) : (letterF c = -9 ∧ kindM c = -1) ∨ ∃ j, j < 6 ∧ letterF c = nI j ∧ kindM c = nI j := by
  by_cases h0 : c = 108
  · subst h0; exact Or.inr ⟨0, by omega, by decide, by decide⟩
  by_cases h1 : c = 106
  · subst h1; exact Or.inr ⟨1, by omega, by decide, by decide⟩
  by_cases h2 : c = 100
  · subst h2; exact Or.inr ⟨2, by omega, by decide, by decide⟩
  by_cases h3 : c = 102
  · subst h3; exact Or.inr ⟨3, by omega, by decide, by decide⟩
  by_cases h4 : c = 111
  · subst h4; exact Or.inr ⟨4, by omega, by decide, by decide⟩
  by_cases h5 : c = 109
  · subst h5; exact Or.inr ⟨5, by omega, by decide, by decide⟩
  · left
    unfold letterF kindM
    rw [if_neg (fun z => h0 z.symm), if_neg (fun z => h1 z.symm), if_neg (fun z => h2 z.symm), if_neg (fun z => h3 z.symm), if_neg (fun z => h4 z.symm), if_neg (fun z => h5 z.symm), if_neg h0, if_neg h1, if_neg h2, if_neg h3, if_neg h4, if_neg h5]
    exact ⟨rfl, rfl⟩
theorem fig_5 (x : Int32) : (!decide (x < 0) && !decide ((6 : Int32) ≤ x)) = inF x.toInt64 0 (5 : Int32).toInt64 := by
  have z := in_b (x := x) (lo := 0) (hi := 5) (L := 0) (H := (5 : Int32).toInt64) (by decide) (by decide)
  have e : ¬ (6 : Int32) ≤ x ↔ x ≤ 5 := by
    rw [Int32.le_iff_toInt_le, Int32.le_iff_toInt_le, show (5 : Int32).toInt = 5 by decide, show (6 : Int32).toInt = 6 by decide]
    omega
  rw [← e] at z
  cases q : inF x.toInt64 0 (5 : Int32).toInt64
  · rw [q] at z
    rw [Bool.and_eq_false_iff]
    by_cases w : x < 0
    · left; simpa using w
    · right
      by_cases w2 : (6 : Int32) ≤ x
      · simpa using w2
      · exact absurd (z.mpr ⟨w, w2⟩) (by decide)
  · rw [q] at z
    obtain ⟨a, b⟩ := z.mp rfl
    rw [decide_eq_false a, decide_eq_false b]; rfl
theorem fig_9 (x : Int32) : (!decide (x < 0) && !decide ((10 : Int32) ≤ x)) = inF x.toInt64 0 (9 : Int32).toInt64 := by
  have z := in_b (x := x) (lo := 0) (hi := 9) (L := 0) (H := (9 : Int32).toInt64) (by decide) (by decide)
  have e : ¬ (10 : Int32) ≤ x ↔ x ≤ 9 := by
    rw [Int32.le_iff_toInt_le, Int32.le_iff_toInt_le, show (9 : Int32).toInt = 9 by decide, show (10 : Int32).toInt = 10 by decide]
    omega
  rw [← e] at z
  cases q : inF x.toInt64 0 (9 : Int32).toInt64
  · rw [q] at z
    rw [Bool.and_eq_false_iff]
    by_cases w : x < 0
    · left; simpa using w
    · right
      by_cases w2 : (10 : Int32) ≤ x
      · simpa using w2
      · exact absurd (z.mpr ⟨w, w2⟩) (by decide)
  · rw [q] at z
    obtain ⟨a, b⟩ := z.mp rfl
    rw [decide_eq_false a, decide_eq_false b]; rfl
theorem in_n1 {x H : Int64} (h : inF x 0 H = true) : ¬ x < 0 := by
  unfold inF at h
  simp only [Bool.and_eq_true, Bool.not_eq_true', decide_eq_false_iff_not] at h
  exact h.1
theorem tk_m1 (x h : Int32) : tkB x h (-1) = inF x.toInt64 0 h.toInt64 := by
  unfold tkB
  by_cases q : x = -1
  · subst q
    have : inF (-1 : Int32).toInt64 0 h.toInt64 = false := bF (fun z => in_n1 z (by decide))
    rw [this]; rfl
  · rw [decide_eq_false q, Bool.not_false, Bool.and_true]
section RD
variable {S : St} {kk a m : Nat}
/-- figure n of an item at p, in both -/
def hiF (n : Nat) : Int32 := if n < 2 then 5 else 9
def otF (S : St) (a p m n : Nat) : Int32 := if n = 1 then vG S a p m 1 else -1
theorem fig_is (hc : ∀ i, i < m → getF S kk (nI i) = hereG S a i m) {p n : Nat} (hn : n < 4) (hp : p + 1 + n < m) : isFigF S kk (nI p) (nI (p + 1 + n) - nI p) = tkB (vG S a p m (n + 1)) (hiF n) (otF S a p m n) := by
  have e1 : nI (p + 1 + n) - nI p = nI (n + 1) := by rw [pk_sub (by omega), show p + 1 + n - p = n + 1 by omega]
  have e2 : getF S kk (nI p + nI (n + 1)) - 48 = vG S a p m (n + 1) := by
    rw [nI_add, hc _ (by omega)]; rfl
  have e3 : getF S kk (nI p + 1) - 48 = vG S a p m 1 := by
    rw [nI_1, hc _ (by omega)]; rfl
  unfold isFigF
  rw [e1, e2, e3]
  have hn4 : n = 0 ∨ n = 1 ∨ n = 2 ∨ n = 3 := by omega
  rcases hn4 with rfl | rfl | rfl | rfl
  · show (!decide (vG S a p m 1 < 0) && !decide ((6 : Int32) ≤ vG S a p m 1) && !(false && decide (vG S a p m 1 = vG S a p m 1))) = tkB (vG S a p m 1) 5 (-1)
    rw [tk_m1, ← fig_5, Bool.false_and, Bool.not_false, Bool.and_true]
  · show (!decide (vG S a p m 2 < 0) && !decide ((6 : Int32) ≤ vG S a p m 2) && !(true && decide (vG S a p m 2 = vG S a p m 1))) = tkB (vG S a p m 2) 5 (vG S a p m 1)
    unfold tkB
    rw [← fig_5, Bool.true_and]
  · show (!decide (vG S a p m 3 < 0) && !decide ((10 : Int32) ≤ vG S a p m 3) && !(false && decide (vG S a p m 3 = vG S a p m 1))) = tkB (vG S a p m 3) 9 (-1)
    rw [tk_m1, ← fig_9, Bool.false_and, Bool.not_false, Bool.and_true]
  · show (!decide (vG S a p m 4 < 0) && !decide ((10 : Int32) ≤ vG S a p m 4) && !(false && decide (vG S a p m 4 = vG S a p m 1))) = tkB (vG S a p m 4) 9 (-1)
    rw [tk_m1, ← fig_9, Bool.false_and, Bool.not_false, Bool.and_true]
theorem it_st (hc : ∀ i, i < m → getF S kk (nI i) = hereG S a i m) (hm : gI S kk 1 = nI m) (hM : m ≤ 60) {p n f : Nat} (hn : n < 4) (hp : p + n < m) : itR S kk p (f + 1) n = if tkB (vG S a p m (n + 1)) (hiF n) (otF S a p m n) = true then itR S kk p f (n + 1) else nI (p + 1 + n) := by
  rw [itR, hm]
  by_cases q : p + 1 + n < m
  · rw [if_neg (nI_ge q (by omega)), fig_is hc hn q]
  · have e : m = p + 1 + n := by omega
    have t : ¬ tkB (vG S a p m (n + 1)) (hiF n) (otF S a p m n) = true := fun z => by
      have := tk_lt (S := S) (a := a) (p := p) (m := m) (k := n + 1) (high := hiF n) (by unfold hiF; split <;> simp) z
      omega
    rw [if_pos (nI_le (by omega) (by omega)), if_neg t, e]
theorem item_is (hc : ∀ i, i < m → getF S kk (nI i) = hereG S a i m) (hm : gI S kk 1 = nI m) (hM : m ≤ 60) {p r : Nat} (hp : p < m) (hl : ¬ letterF (getF S kk (nI p)) = -9) (hr : r < 8) : (tlB S a p m r = true → itemF S kk p = -9 ∧ p + 5 ≤ m) ∧ (tlB S a p m r = false → itemF S kk p = nI (tlQ S a p m r)) := by
  have k0 : decide (0 ≤ kindM (hereG S a p m)) = true := by
    rcases let_kind (hereG S a p m) with ⟨w, -⟩ | ⟨j, hj, -, w⟩
    · rw [hc p hp] at hl; exact absurd w hl
    · rw [w]; exact decide_eq_true (nI_pos' (by omega))
  have k8 : (!decide (nI r = 8)) = true := by
    rw [Bool.not_eq_true', decide_eq_false_iff_not]
    exact fun z => by have := (nI_eq (a := r) (b := 8) (by omega) (by omega)).mp z; omega
  unfold itemF tlB tlQ
  rw [if_neg hl, k0, k8, Bool.and_true, Bool.true_and, if_pos rfl]
  rw [it_st hc hm hM (by omega) (by omega)]
  show ((tkB (vG S a p m 1) 5 (-1) && tkB (vG S a p m 2) 5 (vG S a p m 1) && tkB (vG S a p m 3) 9 (-1) && tkB (vG S a p m 4) 9 (-1)) = true → (if tkB (vG S a p m 1) 5 (-1) = true then itR S kk p 3 1 else nI (p + 1)) = -9 ∧ _) ∧ (_ → (if tkB (vG S a p m 1) 5 (-1) = true then itR S kk p 3 1 else nI (p + 1)) = _)
  cases t1 : tkB (vG S a p m 1) 5 (-1)
  · exact ⟨fun z => by simp at z, fun _ => rfl⟩
  · have l1 := tk_lt (Or.inl rfl) t1
    rw [if_pos rfl, it_st hc hm hM (by omega) (by omega)]
    show ((true && tkB (vG S a p m 2) 5 (vG S a p m 1) && tkB (vG S a p m 3) 9 (-1) && tkB (vG S a p m 4) 9 (-1)) = true → (if tkB (vG S a p m 2) 5 (vG S a p m 1) = true then itR S kk p 2 2 else nI (p + 2)) = -9 ∧ _) ∧ (_ → (if tkB (vG S a p m 2) 5 (vG S a p m 1) = true then itR S kk p 2 2 else nI (p + 2)) = _)
    cases t2 : tkB (vG S a p m 2) 5 (vG S a p m 1)
    · exact ⟨fun z => by simp at z, fun _ => rfl⟩
    · have l2 := tk_lt (Or.inl rfl) t2
      rw [if_pos rfl, it_st hc hm hM (by omega) (by omega)]
      show ((true && true && tkB (vG S a p m 3) 9 (-1) && tkB (vG S a p m 4) 9 (-1)) = true → (if tkB (vG S a p m 3) 9 (-1) = true then itR S kk p 1 3 else nI (p + 3)) = -9 ∧ _) ∧ (_ → (if tkB (vG S a p m 3) 9 (-1) = true then itR S kk p 1 3 else nI (p + 3)) = _)
      cases t3 : tkB (vG S a p m 3) 9 (-1)
      · exact ⟨fun z => by simp at z, fun _ => rfl⟩
      · have l3 := tk_lt (Or.inr rfl) t3
        rw [if_pos rfl, it_st hc hm hM (by omega) (by omega)]
        show ((true && true && true && tkB (vG S a p m 4) 9 (-1)) = true → (if tkB (vG S a p m 4) 9 (-1) = true then itR S kk p 0 4 else nI (p + 4)) = -9 ∧ _) ∧ (_ → (if tkB (vG S a p m 4) 9 (-1) = true then itR S kk p 0 4 else nI (p + 4)) = _)
        cases t4 : tkB (vG S a p m 4) 9 (-1)
        · exact ⟨fun z => by simp at z, fun _ => rfl⟩
        · have l4 := tk_lt (Or.inr rfl) t4
          exact ⟨fun _ => ⟨rfl, by omega⟩, fun z => absurd z (by decide)⟩
theorem here_lt {p : Nat} (hp : p < m) : hereG S a p m = gA S 63 (a + p) := if_pos hp
theorem here_ge {p : Nat} (hp : m ≤ p) : hereG S a p m = -1000 := if_neg (by omega)
/-- no item where the text is at its end -/
theorem tl_end {p r : Nat} (hp : m ≤ p) : tlB S a p m r = false ∧ tlQ S a p m r = p := by
  have e : decide (0 ≤ kindM (hereG S a p m)) = false := by rw [here_ge hp]; decide
  unfold tlB tlQ
  rw [e]
  exact ⟨by simp only [Bool.false_and], rfl⟩
theorem tl_8 {p : Nat} : tlB S a p m 8 = false ∧ tlQ S a p m 8 = p := by
  have e : (!decide (nI 8 = 8)) = false := by decide
  unfold tlB tlQ
  rw [e, Bool.and_false]
  exact ⟨by simp only [Bool.false_and], rfl⟩
theorem tl_bad {p r : Nat} (hl : letterF (hereG S a p m) = -9) : tlB S a p m r = false ∧ tlQ S a p m r = p := by
  have e : decide (0 ≤ kindM (hereG S a p m)) = false := by
    rcases let_kind (hereG S a p m) with ⟨-, w⟩ | ⟨j, hj, w, -⟩
    · rw [w]; decide
    · rw [hl] at w; exact absurd w.symm (nI_nm (by omega))
  unfold tlB tlQ
  rw [e]
  exact ⟨by simp only [Bool.false_and], rfl⟩
theorem ff_is (hc : ∀ i, i < m → getF S kk (nI i) = hereG S a i m) (hm : gI S kk 1 = nI m) (hM : m ≤ 60) : ∀ f1 f2 i l rd, i ≤ m → m - i < f1 → m - i < f2 → l ≤ 8 → ffR S kk f1 i l = (fmR S a m f2 i l rd).1 := by
  intro f1
  induction f1 with
  | zero => intro f2 i l rd _ h; omega
  | succ f1 ih =>
    intro f2 i l rd hi h1 h2 hl
    obtain ⟨g, rfl⟩ : ∃ g, f2 = g + 1 := ⟨f2 - 1, by omega⟩
    rw [ffR, fmR, hm]
    by_cases q : i < m
    · rw [if_neg (nI_ge q (by omega)), hc i q]
      by_cases b : hereG S a i m = 32
      · rw [if_pos b, if_pos b]
        exact ih g (i + 1) l rd (by omega) (by omega) (by omega) hl
      · rw [if_neg b, if_neg b, if_pos (Or.inl q)]
        by_cases l8 : l < 8
        · rw [if_pos (show nI l < 8 from (nI_ltI (b := 8) (by omega) (by omega)).mpr l8)]
          by_cases w : letterF (getF S kk (nI i)) = -9
          · obtain ⟨t1, t2⟩ := tl_bad (S := S) (a := a) (p := i) (m := m) (r := l) (by rw [← hc i q]; exact w)
            have e : itemF S kk i = nI i := by unfold itemF; rw [if_pos w]
            rw [e, t1, t2, if_neg (nI_nm (by omega)), if_neg (by decide)]
          · obtain ⟨t1, t2⟩ := item_is hc hm hM q w l8
            cases t : tlB S a i m l
            · rw [t2 t, if_neg (nI_nm (by have := tlQ_le (S := S) (a := a) (p := i) (m := m) (r := l); omega)), if_neg (by decide)]
            · obtain ⟨t3, t4⟩ := t1 t
              rw [t3, if_pos rfl, if_pos rfl]
              exact ih g (i + 5) (l + 1) _ t4 (by omega) (by omega) (by omega)
        · have e8 : l = 8 := by omega
          subst e8
          obtain ⟨t1, t2⟩ := tl_8 (S := S) (a := a) (p := i) (m := m)
          rw [if_neg (show ¬ nI 8 < 8 by decide), t1, t2, if_neg (nI_nm (by omega)), if_neg (by decide)]
    · have e : i = m := by omega
      subst e
      rw [if_pos (nI_le (by omega) (by omega)), if_neg (show ¬ hereG S a i i = 32 by rw [here_ge (by omega)]; decide)]
      by_cases z : l = 0
      · subst z
        obtain ⟨t1, t2⟩ := tl_end (S := S) (a := a) (p := i) (m := i) (r := 0) (by omega)
        rw [if_pos (show nI 0 = 0 from rfl), if_pos (Or.inr rfl), t1, t2, if_neg (by decide)]
      · rw [if_neg (show ¬ nI l = 0 from fun w => z ((nI_eq (b := 0) (by omega) (by omega)).mp w)), if_neg (by omega)]
/-! the lights read -/
/-- so far l lights are read: into the class's bank, into the reference's row -/
def inv (T : St) (l : Nat) (rd : Nat → Int32) : Prop := gI T 30 6 = nI l ∧ gI T 30 7 = nI (2 ^ l - 1) ∧ gI T 30 8 = 0 ∧ gI T 30 9 = 0 ∧ ∀ j, j < l → (gA T 34 j = rd (5 * j) ∧ gA T 35 j = rd (5 * j + 1) ∧ gA T 36 j = rd (5 * j + 2) ∧ gA T 37 j = rd (5 * j + 3) ∧ gA T 38 j = rd (5 * j + 4)) ∧ (∃ x, x < 6 ∧ rd (5 * j) = nI x) ∧ (∃ x, x < 6 ∧ rd (5 * j + 1) = nI x) ∧ (∃ x, x < 6 ∧ rd (5 * j + 2) = nI x) ∧ (∃ x, x < 10 ∧ rd (5 * j + 3) = nI x) ∧ ∃ x, x < 10 ∧ rd (5 * j + 4) = nI x
def frB (S T : St) : Prop := (∀ k j, k ≠ 30 → gI T k j = gI S k j) ∧ (∀ k j, gL T k j = gL S k j) ∧ ∀ k, k < 34 ∨ 39 ≤ k → gA T k = gA S k
theorem tk_nat {v h o : Int32} {H : Nat} (hh : h.toInt = (H : Int)) (t : tkB v h o = true) : ∃ x, x ≤ H ∧ v = nI x := by
  unfold tkB at t
  rw [Bool.and_eq_true] at t
  rw [in_b (lo := 0) (hi := h) (by decide) (Int32.toInt_toInt64 _)] at t
  exact nI_of2 (M := h) hh t.1.1 t.1.2
theorem p2s {l : Nat} (hl : l < 8) : nI (2 ^ l - 1) ||| ((1 : Int32) <<< (nI l &&& 31)) = nI (2 ^ (l + 1) - 1) := by
  have z : ∀ l : Fin 8, nI (2 ^ l.1 - 1) ||| ((1 : Int32) <<< (nI l.1 &&& 31)) = nI (2 ^ (l.1 + 1) - 1) := by decide +kernel
  exact z ⟨l, hl⟩
theorem add_at {T : St} {l : Nat} {kk ow cr pl fi : Int32} (h6 : gI T 30 6 = nI l) (h7 : gI T 30 7 = nI (2 ^ l - 1)) (hl : l < 8) : addF T 30 kk ow cr pl fi = sI (sI (sA (sA (sA (sA (sA T 34 (upd (gA T 34) l kk)) 35 (upd (gA T 35) l ow)) 36 (upd (gA T 36) l cr)) 37 (upd (gA T 37) l pl)) 38 (upd (gA T 38) l fi)) 30 7 (nI (2 ^ (l + 1) - 1))) 30 6 (nI (l + 1)) := by
  have es : szB T 30 = l := by unfold szB; rw [h6, nI_clamp (by omega)]
  have e1 : (gI T 30 7 ||| ((1 : Int32) <<< ((gI T 30 6) &&& 31))) = nI (2 ^ (l + 1) - 1) := by rw [h6, h7, p2s hl]
  have e2 : gI T 30 6 + 1 = nI (l + 1) := by rw [h6, nI_1]
  rw [← e1, ← e2, ← es]
  rfl
theorem rd_is (hc : ∀ i, i < m → getF S kk (nI i) = hereG S a i m) (hm : gI S kk 1 = nI m) (hM : m ≤ 60) (hk : kd kk = 3) : ∀ f1 f2 i l rd T, i ≤ m → m - i < f1 → m - i < f2 → l ≤ 8 → frB S T → inv T l rd → (fmR S a m f2 i l rd).1 = -9 → frB S (rdR 30 kk f1 i T) ∧ inv (rdR 30 kk f1 i T) (fmR S a m f2 i l rd).2.1 (fmR S a m f2 i l rd).2.2 := by
  obtain ⟨hk10, hk20⟩ := kd_sng hk
  intro f1
  induction f1 with
  | zero => intro f2 i l rd T _ h; omega
  | succ f1 ih =>
    intro f2 i l rd T hi h1 h2 hl hf hv hno
    obtain ⟨g, rfl⟩ : ∃ g, f2 = g + 1 := ⟨f2 - 1, by omega⟩
    have eT : ∀ x, getF T kk x = getF S kk x := fun x => by
      unfold getF holdsF
      rw [hf.1 kk 1 (by omega), hf.2.2 _ (by omega)]
    rw [fmR] at hno ⊢
    rw [rdR, hf.1 kk 1 (by omega), hm, eT]
    by_cases q : i < m
    · rw [if_neg (nI_ge q (by omega)), hc i q]
      by_cases b : hereG S a i m = 32
      · rw [if_pos b] at hno ⊢
        rw [if_pos b]
        exact ih g (i + 1) l rd T (by omega) (by omega) (by omega) hl hf hv hno
      · rw [if_neg b, if_pos (Or.inl q)] at hno ⊢
        rw [if_neg b]
        cases t : tlB S a i m l
        · rw [t, if_neg (by decide)] at hno
          exact absurd hno (nI_nm (by have := tlQ_le (S := S) (a := a) (p := i) (m := m) (r := l); omega))
        · rw [t, if_pos rfl] at hno
          rw [if_pos rfl]
          have t' := t
          unfold tlB at t'
          simp only [Bool.and_eq_true, Bool.not_eq_true', decide_eq_true_eq, decide_eq_false_iff_not] at t'
          obtain ⟨⟨⟨⟨⟨u0, u8⟩, u1⟩, u2⟩, u3⟩, u4⟩ := t'
          have l8 : l < 8 := by
            rcases Nat.lt_or_ge l 8 with w | w
            · exact w
            · exact absurd (by rw [show l = 8 by omega]; rfl) u8
          have l4 := tk_lt (Or.inr rfl) u4
          obtain ⟨v6, v7, v8, v9, vj⟩ := hv
          obtain ⟨x1, hx1, e1⟩ := tk_nat (H := 5) (by decide) u1
          obtain ⟨x2, hx2, e2⟩ := tk_nat (H := 5) (by decide) u2
          obtain ⟨x3, hx3, e3⟩ := tk_nat (H := 9) (by decide) u3
          obtain ⟨x4, hx4, e4⟩ := tk_nat (H := 9) (by decide) u4
          have kx : ∃ x, x < 6 ∧ letterF (hereG S a i m) = nI x ∧ kindM (hereG S a i m) = nI x := by
            rcases let_kind (hereG S a i m) with ⟨-, w⟩ | w
            · rw [w] at u0; exact absurd u0 (by decide)
            · exact w
          obtain ⟨x0, hx0, e0, e0'⟩ := kx
          have gv : ∀ k, k ≤ 4 → getF S kk (nI (i + k)) - 48 = vG S a i m k := fun k h => by rw [hc _ (by omega)]; rfl
          have ea : addS T 30 kk i = addF T 30 (nI x0) (nI x1) (nI x2) (nI x3) (nI x4) := by
            unfold addS
            rw [if_pos (by rw [v6]; exact (nI_ltI (b := 8) (by omega) (by omega)).mpr l8), eT, eT, eT, eT, eT, hc i q, e0, nI_1, show (2 : Int32) = nI 2 from rfl, show (3 : Int32) = nI 3 from rfl, show (4 : Int32) = nI 4 from rfl, nI_add, nI_add, nI_add, gv 1 (by omega), gv 2 (by omega), gv 3 (by omega), gv 4 (by omega), e1, e2, e3, e4]
          rw [ea, add_at v6 v7 l8]
          have er : rd5 S a i m l rd = upd (upd (upd (upd (upd rd (5 * l) (nI x0)) (5 * l + 1) (nI x1)) (5 * l + 2) (nI x2)) (5 * l + 3) (nI x3)) (5 * l + 4) (nI x4) := by
            unfold rd5
            rw [e0', e1, e2, e3, e4]
          rw [er] at hno ⊢
          refine ih g (i + 5) (l + 1) _ _ (by omega) (by omega) (by omega) (by omega) ⟨fun k j h => ?_, hf.2.1, fun k h => ?_⟩ ⟨rfl, rfl, v8, v9, fun j hj => ?_⟩ hno
          · rw [gI_ne (by omega), gI_ne (by omega)]; exact hf.1 k j h
          · rw [gA_sI, gA_sI, gA_ne (by omega), gA_ne (by omega), gA_ne (by omega), gA_ne (by omega), gA_ne (by omega)]; exact hf.2.2 k h
          · by_cases z : j = l
            · subst z
              have r0 : upd (upd (upd (upd (upd rd (5 * j) (nI x0)) (5 * j + 1) (nI x1)) (5 * j + 2) (nI x2)) (5 * j + 3) (nI x3)) (5 * j + 4) (nI x4) (5 * j) = nI x0 := by rw [pk_un (by omega), pk_un (by omega), pk_un (by omega), pk_un (by omega), pk_us]
              have r1 : upd (upd (upd (upd (upd rd (5 * j) (nI x0)) (5 * j + 1) (nI x1)) (5 * j + 2) (nI x2)) (5 * j + 3) (nI x3)) (5 * j + 4) (nI x4) (5 * j + 1) = nI x1 := by rw [pk_un (by omega), pk_un (by omega), pk_un (by omega), pk_us]
              have r2 : upd (upd (upd (upd (upd rd (5 * j) (nI x0)) (5 * j + 1) (nI x1)) (5 * j + 2) (nI x2)) (5 * j + 3) (nI x3)) (5 * j + 4) (nI x4) (5 * j + 2) = nI x2 := by rw [pk_un (by omega), pk_un (by omega), pk_us]
              have r3 : upd (upd (upd (upd (upd rd (5 * j) (nI x0)) (5 * j + 1) (nI x1)) (5 * j + 2) (nI x2)) (5 * j + 3) (nI x3)) (5 * j + 4) (nI x4) (5 * j + 3) = nI x3 := by rw [pk_un (by omega), pk_us]
              have r4 : upd (upd (upd (upd (upd rd (5 * j) (nI x0)) (5 * j + 1) (nI x1)) (5 * j + 2) (nI x2)) (5 * j + 3) (nI x3)) (5 * j + 4) (nI x4) (5 * j + 4) = nI x4 := by rw [pk_us]
              rw [r0, r1, r2, r3, r4]
              refine ⟨⟨?_, ?_, ?_, ?_, ?_⟩, ⟨x0, hx0, rfl⟩, ⟨x1, by omega, rfl⟩, ⟨x2, by omega, rfl⟩, ⟨x3, by omega, rfl⟩, ⟨x4, by omega, rfl⟩⟩
              · show upd (gA T 34) j (nI x0) j = _; rw [pk_us]
              · show upd (gA T 35) j (nI x1) j = _; rw [pk_us]
              · show upd (gA T 36) j (nI x2) j = _; rw [pk_us]
              · show upd (gA T 37) j (nI x3) j = _; rw [pk_us]
              · show upd (gA T 38) j (nI x4) j = _; rw [pk_us]
            · have rr : ∀ c, c < 5 → upd (upd (upd (upd (upd rd (5 * l) (nI x0)) (5 * l + 1) (nI x1)) (5 * l + 2) (nI x2)) (5 * l + 3) (nI x3)) (5 * l + 4) (nI x4) (5 * j + c) = rd (5 * j + c) := fun c hc => by
                rw [pk_un (by omega), pk_un (by omega), pk_un (by omega), pk_un (by omega), pk_un (by omega)]
              have r0 : upd (upd (upd (upd (upd rd (5 * l) (nI x0)) (5 * l + 1) (nI x1)) (5 * l + 2) (nI x2)) (5 * l + 3) (nI x3)) (5 * l + 4) (nI x4) (5 * j) = rd (5 * j) := rr 0 (by omega)
              rw [r0, rr 1 (by omega), rr 2 (by omega), rr 3 (by omega), rr 4 (by omega)]
              obtain ⟨⟨w0, w1, w2, w3, w4⟩, w5⟩ := vj j (by omega)
              refine ⟨⟨?_, ?_, ?_, ?_, ?_⟩, w5⟩
              · show upd (gA T 34) l _ j = _; rw [pk_un z]; exact w0
              · show upd (gA T 35) l _ j = _; rw [pk_un z]; exact w1
              · show upd (gA T 36) l _ j = _; rw [pk_un z]; exact w2
              · show upd (gA T 37) l _ j = _; rw [pk_un z]; exact w3
              · show upd (gA T 38) l _ j = _; rw [pk_un z]; exact w4
    · have e : i = m := by omega
      subst e
      rw [if_neg (show ¬ hereG S a i i = 32 by rw [here_ge (by omega)]; decide)] at hno ⊢
      rw [if_pos (nI_le (by omega) (by omega))]
      by_cases z : l = 0
      · subst z
        obtain ⟨t1, t2⟩ := tl_end (S := S) (a := a) (p := i) (m := i) (r := 0) (by omega)
        rw [if_pos (Or.inr rfl), t1, t2, if_neg (by decide)] at hno
        exact absurd hno (nI_nm (by omega))
      · rw [if_neg (by omega)]
        exact ⟨hf, hv⟩
end RD
