/-! UNDO, KEEP, ON -/
/-- the class's state T comes from S by m deeds undone, of d -/
def uD (S T : St) (m d : Nat) : Prop := (∀ k j, ¬ (k = 30 ∧ 7 ≤ j ∧ j ≤ 9) → gI T k j = gI S k j) ∧ (∀ k j, gL T k j = gL S k j) ∧ (∀ k, k ≠ 37 → gA T k = gA S k) ∧ gI T 30 9 = nI (d - m) ∧ triB T 30 = ubk (gA S 39) (szB S 30) m d (triB S 30)
theorem tri_x {a b : Int32} {f : Nat → Int32} {t : Tri} (h1 : a = t.1) (h2 : b = t.2.1) (h3 : f = t.2.2) : (a, b, f) = t := by rw [h1, h2, h3]
theorem step_u {S : St} {d : Nat} (hz : okB S 30) (hd : gI S 30 9 = nI d) (h0 : 0 < d) (h40 : d ≤ 40) : uD S (stepF 30 S) 1 d := by
  have e : stepF 30 S = tbF (sI S 30 9 (nI (d - 1))) 30 (gA S 39 (d - 1)) := by
    unfold stepF
    rw [dn_of hd (by omega), hd, show (1 : Int32) = nI 1 from rfl, pk_sub (by omega)]
  rw [e]
  have hi : ∀ k, hasF (sI S 30 9 (nI (d - 1))) 30 k = idxF (szB S 30) k := fun k => has_idx (S := sI S 30 9 (nI (d - 1))) (b := 30) ⟨hz.1, hz.2⟩
  generalize hx : gA S 39 (d - 1) = x
  have key : triB (tbF (sI S 30 9 (nI (d - 1))) 30 x) 30 = tb1 (szB S 30) x (triB S 30) ∧ (∀ k j, ¬ (k = 30 ∧ 7 ≤ j ∧ j ≤ 9) → gI (tbF (sI S 30 9 (nI (d - 1))) 30 x) k j = gI S k j) ∧ (∀ k j, gL (tbF (sI S 30 9 (nI (d - 1))) 30 x) k j = gL S k j) ∧ (∀ k, k ≠ 37 → gA (tbF (sI S 30 9 (nI (d - 1))) 30 x) k = gA S k) ∧ gI (tbF (sI S 30 9 (nI (d - 1))) 30 x) 30 9 = nI (d - 1) := by
    unfold tbF tb1
    split
    · refine ⟨rfl, fun k j h => ?_, fun _ _ => rfl, fun _ _ => rfl, rfl⟩
      rw [gI_ne (by omega), gI_ne (by omega)]
    split
    · refine ⟨rfl, fun k j h => ?_, fun _ _ => rfl, fun _ _ => rfl, rfl⟩
      rw [gI_ne (by omega), gI_ne (by omega)]
    split
    · refine ⟨rfl, fun k j h => ?_, fun _ _ => rfl, fun _ _ => rfl, rfl⟩
      rw [gI_ne (by omega), gI_ne (by omega)]
    rw [hi]
    split
    · refine ⟨rfl, fun k j h => ?_, fun _ _ => rfl, fun k h => gA_ne h, rfl⟩
      rw [gI_sA, gI_ne (by omega)]
    · refine ⟨rfl, fun k j h => ?_, fun _ _ => rfl, fun _ _ => rfl, rfl⟩
      rw [gI_ne (by omega)]
  exact ⟨key.2.1, key.2.2.1, key.2.2.2.1, key.2.2.2.2, key.1.trans (by show _ = tb1 (szB S 30) (gA S 39 (d - 1)) (triB S 30); rw [hx])⟩
theorem undo_u {d : Nat} (h40 : d ≤ 40) : ∀ m S, okB S 30 → gI S 30 9 = nI d → m ≤ d → uD S (undoF 30 m S) m d := by
  intro m
  induction m generalizing d with
  | zero =>
    intro S _ hd _
    exact ⟨fun _ _ _ => rfl, fun _ _ => rfl, fun _ _ => rfl, hd, rfl⟩
  | succ m ih =>
    intro S hz hd hm
    obtain ⟨a1, a2, a3, a4, a5⟩ := step_u hz hd (by omega) h40
    have z2 : szB (stepF 30 S) 30 = szB S 30 := szB_of (a1 30 6 (by omega))
    obtain ⟨b1, b2, b3, b4, b5⟩ := ih (d := d - 1) (by omega) (stepF 30 S) (okB_of (a1 30 6 (by omega)) hz) a4 (by omega)
    refine ⟨fun k j h => (b1 k j h).trans (a1 k j h), fun k j => (b2 k j).trans (a2 k j), fun k h => (b3 k h).trans (a3 k h), ?_, ?_⟩
    · show gI (undoF 30 m (stepF 30 S)) 30 9 = _
      rw [b4, show d - 1 - m = d - (m + 1) by omega]
    · show triB (undoF 30 m (stepF 30 S)) 30 = _
      rw [b5, a5, a3 39 (by omega), z2]
      rfl
theorem udR_at {W : Nat → Int32} {b : Nat} (hb : 44 ≤ b) : ∀ n, n ≤ 8 → ∀ i, udR W b n i = if i = 1 then W b else if i = 2 then W (b + 1) else if 3 ≤ i ∧ i < 3 + n then W (b + 2 + (i - 3)) else W i
  | 0, _, i => by
    rw [udR, pk_un (f := W) (show b + 1 ≠ 1 by omega)]
    by_cases h1 : i = 2
    · rw [h1, pk_us, if_neg (by omega), if_pos rfl]
    · rw [pk_un h1]
      by_cases h2 : i = 1
      · rw [h2, pk_us, if_pos rfl]
      · rw [pk_un h2, if_neg h2, if_neg h1, if_neg (by omega)]
  | n + 1, hn, i => by
    have ih := udR_at (W := W) hb n (by omega)
    rw [udR]
    by_cases h1 : i = 3 + n
    · rw [h1, pk_us, ih, if_neg (by omega), if_neg (by omega), if_neg (by omega), if_neg (by omega), if_neg (by omega), if_pos (by omega), show b + 2 + n = b + 2 + (3 + n - 3) by omega]
    · rw [pk_un h1, ih]
      by_cases h2 : i = 1
      · rw [if_pos h2, if_pos h2]
      · rw [if_neg h2, if_neg h2]
        by_cases h3 : i = 2
        · rw [if_pos h3, if_pos h3]
        · rw [if_neg h3, if_neg h3]
          by_cases h4 : 3 ≤ i ∧ i < 3 + n
          · rw [if_pos h4, if_pos (by omega)]
          · rw [if_neg h4, if_neg (by omega)]
theorem udF_at {W : Nat → Int32} {u i : Nat} : udF W u i = if i = 43 then nI u else if i = 1 then W (44 + 10 * u) else if i = 2 then W (44 + 10 * u + 1) else if 3 ≤ i ∧ i < 3 + 8 then W (44 + 10 * u + 2 + (i - 3)) else W i := by
  unfold udF
  by_cases h : i = 43
  · rw [h, pk_us, if_pos rfl]
  · rw [pk_un h, if_neg h, udR_at (by omega) 8 (by omega)]
theorem undone {S T : St} {u d : Nat} (h : Rel S) (hd : gI S 30 9 = nI d) (h40 : d ≤ 40) (hu : u < d) (c : uD S T (d - u) d) : Rel (sA T 59 (udF (gA S 59) u)) := by
  obtain ⟨c1, c2, c3, c4, c5⟩ := c
  obtain ⟨⟨⟨⟨⟨z1, z2⟩, ⟨d1, d2⟩, n0, n1, n2, n43, nk⟩, ⟨-, -, r8, r7, rk⟩, hh⟩, hK, hR, hT⟩, hA⟩ := h
  have ed0 : dnB S 30 = d := dn_of hd (by omega)
  have eu : d - (d - u) = u := by omega
  rw [eu] at c4
  have e6 : gI T 30 6 = gI S 30 6 := c1 30 6 (by omega)
  have es : szB T 30 = szB S 30 := szB_of e6
  have ed : dnB T 30 = u := dn_of c4 (by omega)
  have aT : ∀ k, k ≠ 59 → gA (sA T 59 (udF (gA S 59) u)) k = gA T k := fun k hk => gA_ne hk
  have hz : okB (sA T 59 (udF (gA S 59) u)) 30 := ⟨by show gI T 30 6 = nI (szB T 30); rw [es, e6]; exact z1, by show szB T 30 ≤ 8; rw [es]; exact z2⟩
  have hdd : okD (sA T 59 (udF (gA S 59) u)) 30 := ⟨by show gI T 30 9 = nI (dnB T 30); rw [ed, c4], by show dnB T 30 ≤ 40; rw [ed]; omega⟩
  obtain ⟨h1, h2⟩ := hh u (by rw [ed0]; exact hu)
  rw [ed0] at h1
  have tT : triE (szB S 30) (triB T 30) (snap (gA S 59) 0 u) := by rw [c5]; exact h1
  have tO : triO (szB S 30) (triB T 30) := triO_eq (triE_sy tT) h2
  have w : ∀ i, gA (sA T 59 (udF (gA S 59) u)) 59 i = udF (gA S 59) u i := fun i => by rw [gA_same]
  refine ⟨⟨⟨⟨hz, hdd, ?_, ?_, ?_, ?_, fun k hk => ?_⟩, ⟨hz, hdd, tO.1, ?_, fun k hk => ?_⟩, fun v hv => ?_⟩, fun n hn => ?_, ?_, ?_⟩, ?_⟩
  · rw [w, udF_at, if_neg (by omega), if_neg (by omega), if_neg (by omega), if_neg (by omega)]
    exact n0.trans e6.symm
  · rw [w, udF_at, if_neg (by omega), if_pos (by omega)]
    exact tT.1.symm
  · rw [w, udF_at, if_neg (by omega), if_neg (by omega), if_pos (by omega)]
    exact tT.2.1.symm
  · rw [w, udF_at, if_pos (by omega)]
    exact c4.symm
  · have hk' : k < szB S 30 := by rw [← es]; exact hk
    have k8 : k < 8 := by omega
    obtain ⟨a, b, c, e, f⟩ := nk k hk'
    simp only [Nat.zero_add] at a b c e f ⊢
    have wo : ∀ i, 11 ≤ i → i < 43 → udF (gA S 59) u i = gA S 59 i := fun i q1 q2 => by rw [udF_at, if_neg (by omega), if_neg (by omega), if_neg (by omega), if_neg (by omega)]
    rw [w, w, w, w, w, wo (11 + k) (by omega) (by omega), wo (19 + k) (by omega) (by omega), wo (27 + k) (by omega) (by omega), wo (35 + k) (by omega) (by omega)]
    refine ⟨a.trans ?_, b.trans ?_, c.trans ?_, ?_, f.trans ?_⟩
    · rw [aT _ (by omega)]; exact congrFun (c3 34 (by omega)).symm k
    · rw [aT _ (by omega)]; exact congrFun (c3 35 (by omega)).symm k
    · rw [aT _ (by omega)]; exact congrFun (c3 36 (by omega)).symm k
    · rw [aT _ (by omega), udF_at, if_neg (by omega), if_neg (by omega), if_neg (by omega), if_pos (by omega)]
      have := tT.2.2 k hk'
      rw [tr3, sn3] at this
      rw [show 44 + 10 * u + 2 + (3 + k - 3) = 0 + 44 + 10 * u + 2 + k by omega]
      exact this.symm
    · rw [aT _ (by omega)]; exact congrFun (c3 38 (by omega)).symm k
  · show ∃ m, m < 2 ^ szB T 30 ∧ gI T 30 7 = nI m
    rw [es]; exact tO.2.1
  · have hk' : k < szB S 30 := by rw [← es]; exact hk
    obtain ⟨a, b, c, e, f⟩ := rk k hk'
    rw [aT _ (by omega), aT _ (by omega), aT _ (by omega), aT _ (by omega), aT _ (by omega)]
    refine ⟨?_, ?_, ?_, tO.2.2 k hk', ?_⟩
    · have := c3 34 (by omega); show ∃ m, m < 6 ∧ gA T 34 k = nI m; rw [this]; exact a
    · have := c3 35 (by omega); show ∃ m, m < 6 ∧ gA T 35 k = nI m; rw [this]; exact b
    · have := c3 36 (by omega); show ∃ m, m < 6 ∧ gA T 36 k = nI m; rw [this]; exact c
    · have := c3 38 (by omega); show ∃ m, m < 10 ∧ gA T 38 k = nI m; rw [this]; exact f
  · have hv' : v < u := by
      have : v < dnB T 30 := hv
      omega
    obtain ⟨g1, g2⟩ := hh v (by rw [ed0]; omega)
    have hs : triE (szB S 30) (snap (gA S 59) 0 v) (snap (gA (sA T 59 (udF (gA S 59) u)) 59) 0 v) := by
      refine ⟨?_, ?_, fun k hk => ?_⟩
      · rw [sn1, sn1, w, udF_at, if_neg (by omega), if_neg (by omega), if_neg (by omega), if_neg (by omega)]
      · rw [sn2, sn2, w, udF_at, if_neg (by omega), if_neg (by omega), if_neg (by omega), if_neg (by omega)]
      · rw [sn3, sn3, w, udF_at, if_neg (by omega), if_neg (by omega), if_neg (by omega), if_neg (by omega)]
    show triE (szB T 30) (ubk (gA (sA T 59 (udF (gA S 59) u)) 39) (szB T 30) (dnB T 30 - v) (dnB T 30) (triB T 30)) _ ∧ triO (szB T 30) _
    rw [es, ed, aT 39 (by omega), c3 39 (by omega), c5]
    refine ⟨?_, triO_eq hs g2⟩
    have e2 := ubk_add (D := gA S 39) (N := szB S 30) (d - u) (u - v) d (triB S 30)
    rw [eu, show d - u + (u - v) = d - v by omega] at e2
    rw [← e2]
    rw [ed0] at g1
    exact triE_tr g1 hs
  · refine BK_of (hK n hn) (fun j _ _ => c1 _ _ (by omega)) (fun j hj k _ => ?_) (fun k _ => ?_) (fun i _ => ?_)
    · rw [aT _ (by omega), c3 _ (by omega)]
    · rw [aT _ (by omega), c3 _ (by omega)]
    · rw [w, udF_at, if_neg (by omega), if_neg (by omega), if_neg (by omega), if_neg (by omega)]
  · exact rwE_of hR (fun n _ => c1 _ _ (by omega)) (fun n _ => by rw [aT _ (by omega), c3 _ (by omega)]) (fun n _ i _ => by rw [aT _ (by omega), c3 _ (by omega)]) (fun n _ i _ => by rw [aT _ (by omega), c3 _ (by omega)])
  · exact rwE_of hT (fun n _ => c1 _ _ (by omega)) (fun n _ => by rw [aT _ (by omega), c3 _ (by omega)]) (fun n _ i _ => by rw [aT _ (by omega), c3 _ (by omega)]) (fun n _ i _ => by rw [aT _ (by omega), c3 _ (by omega)])
  · refine RLt_same hA ⟨?_, ?_, c1 0 7 (by omega), c1 58 5 (by omega), c2 _ _, c2 _ _, c2 _ _, c2 _ _⟩ (c1 0 8 (by omega)) (c1 58 7 (by omega))
    · rw [aT 4 (by omega), c3 4 (by omega)]
    · rw [aT 64 (by omega), c3 64 (by omega)]
theorem p_undo (E : En) {S : St} (h : Rel S) (x : Int32) : PRi E i_X8_undo i_X9_undo S [.int x] := by
  have hB := h.1.1.1
  have hz := hB.1
  have hdd := hB.2.1
  obtain ⟨d, hd, e9, e43⟩ := dn_get h
  by_cases q : ¬ x < 0 ∧ x ≤ gI S 30 9
  · obtain ⟨q1, q2⟩ := q
    obtain ⟨u, hu, rfl⟩ := nI_of2 (x := x) (M := gI S 30 9) (n := d) (by rw [e9]; exact nI_toInt (by omega)) q1 q2
    rcases Nat.lt_or_ge u d with g | g
    · have c := undo_u hd (d - u) S hz e9 (by omega)
      have a59 : gA (undoF 30 (d - u) S) 59 = gA S 59 := c.2.2.1 59 (by omega)
      have c9 := c_X9_undo_ok E (undoF 30 (d - u) S) d u (by rw [a59]; exact e43) hd g
      rw [a59] at c9
      exact pr_mk (c_X8_undo_ok E S u (d - u) hz hdd (by rw [e9, show u + (d - u) = d by omega]) (by omega)) c9 (by rw [e9, pk_sub (by omega)]) (undone h e9 hd g c)
    · have e : u = d := by omega
      subst e
      exact pr_mk (c_X8_undo_ok E S u 0 hz hdd e9 (by omega)) (c_X9_undo_same E S u u e43 hd rfl) (by rw [e9, pk_sub (by omega), Nat.sub_self]; rfl) h
  · refine pr_no h (c_X8_undo_bad E S x q) (c_X9_undo_bad E S d x e43 hd (bF (fun z => q ?_)))
    obtain ⟨j, hj, rfl⟩ := idx_nat (by omega) z
    exact ⟨nI_pos (by omega), by rw [e9]; exact nI_le (by omega) (by omega)⟩
/-! keep, on -/
def prC (b c : Nat) : Prop := (c = 30 ∧ (b = 31 ∨ b = 32 ∨ b = 33)) ∨ (b = 30 ∧ (c = 31 ∨ c = 32 ∨ c = 33))
theorem bec_gI {S : St} {b c : Nat} (hp : prC b c) {j : Nat} (h1 : 6 ≤ j) (h2 : j ≤ 9) : gI (becF S b c) b j = gI S c j := by
  have hj : j = 6 ∨ j = 7 ∨ j = 8 ∨ j = 9 := by omega
  rcases hp with ⟨rfl, rfl | rfl | rfl⟩ | ⟨rfl, rfl | rfl | rfl⟩ <;> rcases hj with rfl | rfl | rfl | rfl <;> rfl
theorem bec_gI_ne {S : St} {b c k j : Nat} (hk : k ≠ b) : gI (becF S b c) k j = gI S k j := by
  unfold becF
  simp only [gI_sI, gI_sA, hk, false_and, if_false]
theorem bec_gL {S : St} {b c k j : Nat} : gL (becF S b c) k j = gL S k j := rfl
theorem bec_gA {S : St} {b c : Nat} (hp : prC b c) {j : Nat} (h2 : j ≤ 5) : gA (becF S b c) (34 + 6 * (b - 30) + j) = va_cpy (gA S (34 + 6 * (c - 30) + j)) (gA S (34 + 6 * (b - 30) + j)) 0 0 (if j = 5 then 40 else 8) := by
  have hj : j = 0 ∨ j = 1 ∨ j = 2 ∨ j = 3 ∨ j = 4 ∨ j = 5 := by omega
  rcases hp with ⟨rfl, rfl | rfl | rfl⟩ | ⟨rfl, rfl | rfl | rfl⟩ <;> rcases hj with rfl | rfl | rfl | rfl | rfl | rfl <;> rfl
theorem bec_gA_ne {S : St} {b c k : Nat} (hk : k < 34 + 6 * (b - 30) ∨ 34 + 6 * (b - 30) + 5 < k) : gA (becF S b c) k = gA S k := by
  unfold becF
  simp only [gA_sI]
  rw [gA_ne (by omega), gA_ne (by omega), gA_ne (by omega), gA_ne (by omega), gA_ne (by omega), gA_ne (by omega)]
/-- one bank becomes another one in both -/
theorem bec_rel {S : St} {b c o1 o2 : Nat} (h : Rel S) (hp : prC b c) (hc : BK S c o2) (hb : 30 ≤ b) (hb4 : b < 34) (ho : o1 = 444 * (b - 30)) (ho2 : o2 = 444 * (c - 30)) (hc4 : c < 34) : Rel (sA (becF S b c) 59 (movF (gA S 59) o2 o1 444)) := by
  have w : ∀ i, gA (sA (becF S b c) 59 (movF (gA S 59) o2 o1 444)) 59 i = movF (gA S 59) o2 o1 444 i := fun i => by rw [gA_same]
  have aT : ∀ k, k ≠ 59 → gA (sA (becF S b c) 59 (movF (gA S 59) o2 o1 444)) k = gA (becF S b c) k := fun k hk => gA_ne hk
  have aO : ∀ k, (k < 34 + 6 * (b - 30) ∨ 34 + 6 * (b - 30) + 5 < k) → k ≠ 59 → gA (sA (becF S b c) 59 (movF (gA S 59) o2 o1 444)) k = gA S k := fun k h1 h2 => by rw [aT k h2, bec_gA_ne h1]
  have new : BK (sA (becF S b c) 59 (movF (gA S 59) o2 o1 444)) b o1 := by
    refine BK_of hc (fun j h1 h2 => bec_gI hp h1 h2) (fun j hj k hk => ?_) (fun k hk => ?_) (fun i hi => ?_)
    · rw [aT _ (by omega), bec_gA hp (by omega), if_neg (by omega), pk_cpy_in (by omega) (by omega), Nat.zero_add, Nat.sub_zero]
    · rw [aT _ (by omega), bec_gA hp (by omega), if_pos rfl, pk_cpy_in (by omega) (by omega), Nat.zero_add, Nat.sub_zero]
    · rw [w]
      unfold movF
      rw [if_pos (by omega), show o1 + i - o1 = i by omega]
  have old : ∀ a o, 30 ≤ a → a < 34 → a ≠ b → o = 444 * (a - 30) → BK S a o → BK (sA (becF S b c) 59 (movF (gA S 59) o2 o1 444)) a o := by
    intro a o h1 h2 h3 h4 h5
    refine BK_of h5 (fun j _ _ => bec_gI_ne h3) (fun j hj k hk => ?_) (fun k hk => ?_) (fun i hi => ?_)
    · rw [aO _ (by omega) (by omega)]
    · rw [aO _ (by omega) (by omega)]
    · rw [w]
      unfold movF
      rw [if_neg (by omega)]
  refine ⟨⟨?_, fun n hn => ?_, ?_, ?_⟩, ?_⟩
  · by_cases q : b = 30
    · have e : o1 = 0 := by omega
      rw [← e]
      exact q ▸ new
    · exact old 30 0 (by omega) (by omega) (by omega) rfl h.1.1
  · by_cases q : b = 31 + n
    · have e : o1 = 444 + 444 * n := by omega
      rw [← e]
      exact q ▸ new
    · exact old (31 + n) _ (by omega) (by omega) (by omega) (by omega) (h.1.2.1 n hn)
  · exact rwE_of h.1.2.2.1 (fun n _ => bec_gI_ne (by omega)) (fun n _ => by rw [aO _ (by omega) (by omega)]) (fun n _ i _ => by rw [aO _ (by omega) (by omega)]) (fun n _ i _ => by rw [aO _ (by omega) (by omega)])
  · exact rwE_of h.1.2.2.2 (fun n _ => bec_gI_ne (by omega)) (fun n _ => by rw [aO _ (by omega) (by omega)]) (fun n _ i _ => by rw [aO _ (by omega) (by omega)]) (fun n _ i _ => by rw [aO _ (by omega) (by omega)])
  · refine RLt_same h.2 ⟨?_, ?_, bec_gI_ne (by omega), bec_gI_ne (by omega), rfl, rfl, rfl, rfl⟩ (bec_gI_ne (by omega)) (bec_gI_ne (by omega))
    · rw [aO _ (by omega) (by omega)]
    · rw [aO _ (by omega) (by omega)]
theorem pr_k {n : Nat} (hn : n < 3) : prC (31 + n) 30 := Or.inl ⟨rfl, by omega⟩
theorem pr_o {n : Nat} (hn : n < 3) : prC 30 (31 + n) := Or.inr ⟨rfl, by omega⟩
theorem p_keep (E : En) {S : St} (h : Rel S) (x : Int32) : PRi E i_X8_keep i_X9_keep S [.int x] := by
  by_cases q : idxF 3 x = true
  · obtain ⟨n, hn, rfl⟩ := idx_nat (by omega) q
    by_cases g : gI S 30 6 = 0
    · exact pr_no h (c_X8_keep_st E S n hn g) (c_X9_keep_no E S n hn ((no_0 h).trans g))
    · have a59 : gA (becF S (31 + n) 30) 59 = gA S 59 := bec_gA_ne (by omega)
      have c9 := c_X9_keep_ok E (becF S (31 + n) 30) n hn (by rw [a59, no_0 h]; exact g)
      rw [a59] at c9
      refine pr_mk (c_X8_keep_ok E S n hn g) c9 ?_ (bec_rel h (pr_k hn) h.1.1 (by omega) (by omega) (by omega) (by omega) (by omega))
      rw [bec_gI (pr_k hn) (by omega) (by omega)]
      exact n_done h.1.1.1
  · exact pr_no h (c_X8_keep_bad E S x (bF q)) (c_X9_keep_bad E S x (bF q))
theorem p_on (E : En) {S : St} (h : Rel S) (x : Int32) : PRi E i_X8_on i_X9_on S [.int x] := by
  by_cases q : idxF 3 x = true
  · obtain ⟨n, hn, rfl⟩ := idx_nat (by omega) q
    have e0 : gA S 59 (444 + 444 * n) = gI S (31 + n) 6 := (h.1.2.1 n hn).1.2.2.1
    have e43 : gA S 59 (444 + 444 * n + 43) = gI S (31 + n) 9 := (h.1.2.1 n hn).1.2.2.2.2.2.1
    by_cases g : gI S (31 + n) 6 = 0
    · exact pr_fnd h (c_X8_on_m E S n hn g) (c_X9_on_no E _ n hn (e0.trans g))
    · have a59 : gA (becF S 30 (31 + n)) 59 = gA S 59 := bec_gA_ne (by omega)
      have c9 := c_X9_on_ok E (becF S 30 (31 + n)) n hn (by rw [a59, e0]; exact g)
      rw [a59] at c9
      refine pr_mk (c_X8_on_ok E S n hn g) c9 ?_ (bec_rel h (pr_o hn) (h.1.2.1 n hn) (by omega) (by omega) (by omega) (by omega) (by omega))
      rw [bec_gI (pr_o hn) (by omega) (by omega)]
      exact e43
  · exact pr_no h (c_X8_on_bad E S x (bF q)) (c_X9_on_bad E S x (bF q))
