/-! THE WHOLE RELATION of the class's state and the reference's, in one state -/
/-- a bank's night, its lit set, its places -/
abbrev Tri : Type := Int32 × Int32 × (Nat → Int32)
/-- one deed undone -/
def tb1 (N : Nat) (deed : Int32) (t : Tri) : Tri := if deed - deed / 4 * 4 = 0 then (t.1 - 1, t.2.1, t.2.2) else if deed - deed / 4 * 4 = 1 then (t.1, t.2.1 ||| ((1 : Int32) <<< (tbK deed &&& 31)), t.2.2) else if deed - deed / 4 * 4 = 2 then (t.1, t.2.1 &&& (((1 : Int32) <<< (tbK deed &&& 31)) ^^^ (-1)), t.2.2) else if idxF N (tbK deed) then (t.1, t.2.1, upd t.2.2 (tbK deed).toNatClampNeg (deed / 4 / 8)) else t
/-- m deeds undone, of d -/
def ubk (D : Nat → Int32) (N : Nat) : Nat → Nat → Tri → Tri
  | 0, _, t => t
  | m + 1, d, t => ubk D N m (d - 1) (tb1 N (D (d - 1)) t)
/-- the same, as far as N lights go -/
def triE (N : Nat) (t u : Tri) : Prop := t.1 = u.1 ∧ t.2.1 = u.2.1 ∧ ∀ k, k < N → t.2.2 k = u.2.2 k
def triB (S : St) (b : Nat) : Tri := (gI S b 8, gI S b 7, gA S (34 + 6 * (b - 30) + 3))
/-- the snapshot that the reference keeps of before deed u -/
def snap (W : Nat → Int32) (o u : Nat) : Tri := (W (o + 44 + 10 * u), W (o + 44 + 10 * u + 1), fun k => W (o + 44 + 10 * u + 2 + k))
def triO (N : Nat) (t : Tri) : Prop := (∃ m, m ≤ 40 ∧ t.1 = nI m) ∧ (∃ m, m < 2 ^ N ∧ t.2.1 = nI m) ∧ ∀ k, k < N → ∃ m, m < 10 ∧ t.2.2 k = nI m
def hisE (S : St) (b o : Nat) : Prop := ∀ u, u < dnB S b → triE (szB S b) (ubk (gA S (34 + 6 * (b - 30) + 5)) (szB S b) (dnB S b - u) (dnB S b) (triB S b)) (snap (gA S 59) o u) ∧ triO (szB S b) (snap (gA S 59) o u)
def BK (S : St) (b o : Nat) : Prop := bkE S b o ∧ bkO S b ∧ hisE S b o
theorem triE_rf {N : Nat} {t : Tri} : triE N t t := ⟨rfl, rfl, fun _ _ => rfl⟩
theorem triE_tr {N : Nat} {t u v : Tri} (h : triE N t u) (g : triE N u v) : triE N t v := ⟨h.1.trans g.1, h.2.1.trans g.2.1, fun k hk => (h.2.2 k hk).trans (g.2.2 k hk)⟩
theorem triE_sy {N : Nat} {t u : Tri} (h : triE N t u) : triE N u t := ⟨h.1.symm, h.2.1.symm, fun k hk => (h.2.2 k hk).symm⟩
theorem triO_eq {N : Nat} {t u : Tri} (h : triE N t u) (o : triO N t) : triO N u := by
  obtain ⟨a, b, c⟩ := o
  exact ⟨h.1 ▸ a, h.2.1 ▸ b, fun k hk => h.2.2 k hk ▸ c k hk⟩
theorem tb1_eq {N : Nat} {deed : Int32} {t u : Tri} (h : triE N t u) : triE N (tb1 N deed t) (tb1 N deed u) := by
  obtain ⟨a, b, c⟩ := h
  unfold tb1
  split
  · exact ⟨by show t.1 - 1 = u.1 - 1; rw [a], b, c⟩
  split
  · exact ⟨a, by show t.2.1 ||| _ = u.2.1 ||| _; rw [b], c⟩
  split
  · exact ⟨a, by show t.2.1 &&& _ = u.2.1 &&& _; rw [b], c⟩
  split
  · refine ⟨a, b, fun k hk => ?_⟩
    show upd t.2.2 _ _ k = upd u.2.2 _ _ k
    by_cases q : k = (tbK deed).toNatClampNeg
    · rw [q, pk_us, pk_us]
    · rw [pk_un q, pk_un q, c k hk]
  · exact ⟨a, b, c⟩
theorem ubk_eq {D D' : Nat → Int32} {N : Nat} : ∀ (m d : Nat) (t u : Tri), m ≤ d → (∀ i, i < d → D i = D' i) → triE N t u → triE N (ubk D N m d t) (ubk D' N m d u)
  | 0, _, _, _, _, _, h => h
  | m + 1, d, t, u, hm, hD, h => by
    rw [ubk, ubk, hD (d - 1) (by omega)]
    exact ubk_eq m (d - 1) _ _ (by omega) (fun i hi => hD i (by omega)) (tb1_eq h)
theorem ubk_add {D : Nat → Int32} {N : Nat} : ∀ (a m d : Nat) (t : Tri), ubk D N (a + m) d t = ubk D N m (d - a) (ubk D N a d t)
  | 0, m, d, t => by rw [Nat.zero_add]; rfl
  | a + 1, m, d, t => by
    rw [show a + 1 + m = a + m + 1 by omega, ubk, ubk_add a m (d - 1), ubk, show d - 1 - a = d - (a + 1) by omega]
/-- what a bank's relation reads -/
theorem BK_of {S T : St} {b o b' o' : Nat} (h : BK S b o) (hi : ∀ j, 6 ≤ j → j ≤ 9 → gI T b' j = gI S b j) (ha : ∀ j, j ≤ 4 → ∀ k, k < 8 → gA T (34 + 6 * (b' - 30) + j) k = gA S (34 + 6 * (b - 30) + j) k) (hd : ∀ k, k < 40 → gA T (34 + 6 * (b' - 30) + 5) k = gA S (34 + 6 * (b - 30) + 5) k) (hw : ∀ i, i < 444 → gA T 59 (o' + i) = gA S 59 (o + i)) : BK T b' o' := by
  have e6 := hi 6 (by omega) (by omega)
  have e7 := hi 7 (by omega) (by omega)
  have e8 := hi 8 (by omega) (by omega)
  have e9 := hi 9 (by omega) (by omega)
  have es : szB T b' = szB S b := by unfold szB; rw [e6]
  have ed : dnB T b' = dnB S b := by unfold dnB; rw [e9]
  obtain ⟨⟨⟨z1, z2⟩, ⟨d1, d2⟩, n0, n1, n2, n43, nk⟩, ⟨-, -, r8, r7, rk⟩, hh⟩ := h
  have hz : okB T b' := ⟨by rw [es, e6]; exact z1, by rw [es]; exact z2⟩
  have hdd : okD T b' := ⟨by rw [ed, e9]; exact d1, by rw [ed]; exact d2⟩
  refine ⟨⟨hz, hdd, ?_, ?_, ?_, ?_, fun k hk => ?_⟩, ⟨hz, hdd, e8.symm ▸ r8, ?_, fun k hk => ?_⟩, fun u hu => ?_⟩
  · rw [e6, ← n0, ← Nat.add_zero o', hw 0 (by omega)]; rfl
  · rw [e8, ← n1, hw 1 (by omega)]
  · rw [e7, ← n2, hw 2 (by omega)]
  · rw [e9, ← n43, hw 43 (by omega)]
  · rw [es] at hk
    obtain ⟨a, b, c, d, e⟩ := nk k hk
    have a0 := ha 0 (by omega) k (by omega)
    rw [Nat.add_zero, Nat.add_zero] at a0
    rw [Nat.add_assoc, hw _ (by omega), ← Nat.add_assoc, a, a0, Nat.add_assoc o', hw _ (by omega), ← Nat.add_assoc, b, ha 1 (by omega) k (by omega), Nat.add_assoc o', hw _ (by omega), ← Nat.add_assoc, c, ha 2 (by omega) k (by omega), Nat.add_assoc o', hw _ (by omega), ← Nat.add_assoc, d, ha 3 (by omega) k (by omega), Nat.add_assoc o', hw _ (by omega), ← Nat.add_assoc, e, ha 4 (by omega) k (by omega)]
    exact ⟨rfl, rfl, rfl, rfl, rfl⟩
  · rw [es, e7]; exact r7
  · rw [es] at hk
    have a0 := ha 0 (by omega) k (by omega)
    rw [Nat.add_zero, Nat.add_zero] at a0
    rw [a0, ha 1 (by omega) k (by omega), ha 2 (by omega) k (by omega), ha 3 (by omega) k (by omega), ha 4 (by omega) k (by omega)]
    exact rk k hk
  · rw [ed] at hu
    rw [es, ed]
    obtain ⟨h1, h2⟩ := hh u hu
    have hs : triE (szB S b) (snap (gA S 59) o u) (snap (gA T 59) o' u) := by
      refine ⟨?_, ?_, fun k hk => ?_⟩
      · show gA S 59 (o + 44 + 10 * u) = gA T 59 (o' + 44 + 10 * u)
        rw [Nat.add_assoc o', hw _ (by omega), Nat.add_assoc]
      · show gA S 59 (o + 44 + 10 * u + 1) = gA T 59 (o' + 44 + 10 * u + 1)
        rw [show o' + 44 + 10 * u + 1 = o' + (44 + 10 * u + 1) by omega, hw _ (by omega), show o + 44 + 10 * u + 1 = o + (44 + 10 * u + 1) by omega]
      · show gA S 59 (o + 44 + 10 * u + 2 + k) = gA T 59 (o' + 44 + 10 * u + 2 + k)
        rw [show o' + 44 + 10 * u + 2 + k = o' + (44 + 10 * u + 2 + k) by omega, hw _ (by omega), show o + 44 + 10 * u + 2 + k = o + (44 + 10 * u + 2 + k) by omega]
    refine ⟨triE_tr (ubk_eq _ _ _ _ (by omega) (fun i hi => hd i (by omega)) ?_) (triE_tr h1 hs), triO_eq hs h2⟩
    exact ⟨e8, e7, fun k hk => ha 3 (by omega) k (by omega)⟩
/-- the world's relation: banks, kept banks, rows, texts -/
def RLw (S : St) : Prop := BK S 30 0 ∧ (∀ n, n < 3 → BK S (31 + n) (444 + 444 * n)) ∧ rwE S 10 60 61 6 40 ∧ rwE S 16 62 63 4 60
/-- what is told: findings, asked, upper, lower -/
def RLt (S : St) : Prop := (∀ f, f < 6 → gA S 4 f = gA S 64 f) ∧ gI S 0 7 = gI S 58 5 ∧ gI S 0 8 = gI S 58 7 ∧ gL S 0 9 = gL S 58 8 ∧ gL S 0 10 = gL S 58 9
def Rel (S : St) : Prop := RLw S ∧ RLt S
def sameW (S T : St) : Prop := (∀ k j, 10 ≤ k → k < 34 → gI T k j = gI S k j) ∧ ∀ k, 20 ≤ k → k < 64 → gA T k = gA S k
theorem sameW_rf (S : St) : sameW S S := ⟨fun _ _ _ _ => rfl, fun _ _ _ => rfl⟩
theorem sameW_tr {S T U : St} (h : sameW S T) (g : sameW T U) : sameW S U := ⟨fun k j a b => (g.1 k j a b).trans (h.1 k j a b), fun k a b => (g.2 k a b).trans (h.2 k a b)⟩
theorem sameW_sI {S T : St} (h : sameW S T) {k j : Nat} {v : Int32} (hk : k < 10 ∨ 34 ≤ k) : sameW S (sI T k j v) := ⟨fun a b c d => by rw [gI_ne (by omega)]; exact h.1 a b c d, h.2⟩
theorem sameW_sL {S T : St} (h : sameW S T) {k j : Nat} {v : Int64} : sameW S (sL T k j v) := h
theorem sameW_sA {S T : St} (h : sameW S T) {k : Nat} {f : Nat → Int32} (hk : k < 20 ∨ 64 ≤ k) : sameW S (sA T k f) := ⟨h.1, fun a b c => by rw [gA_ne (by omega)]; exact h.2 a b c⟩
theorem rwE_of {S T : St} {k sz dat N M : Nat} (h : rwE S k sz dat N M) (hi : ∀ n, n < N → gI T (k + n) 1 = gI S (k + n) 1) (hs : ∀ n, n < N → gA T sz n = gA S sz n) (ha : ∀ n, n < N → ∀ i, i < M → gA T (k + 10 + n) i = gA S (k + 10 + n) i) (hd : ∀ n, n < N → ∀ i, i < M → gA T dat (M * n + i) = gA S dat (M * n + i)) : rwE T k sz dat N M := by
  intro n hn
  rcases h n hn with ⟨a, b⟩ | ⟨m, hm, a, b, c⟩
  · exact Or.inl ⟨(hi n hn).trans a, (hs n hn).trans b⟩
  · exact Or.inr ⟨m, hm, (hi n hn).trans a, (hs n hn).trans b, fun i hi => by rw [ha n hn i (by omega), hd n hn i (by omega)]; exact c i hi⟩
theorem BK_same {S T : St} (g : sameW S T) {b o : Nat} (hb : 30 ≤ b) (hb2 : b < 34) (h : BK S b o) : BK T b o := BK_of h (fun j _ _ => g.1 b j (by omega) (by omega)) (fun j hj k _ => by rw [g.2 _ (by omega) (by omega)]) (fun k _ => by rw [g.2 _ (by omega) (by omega)]) (fun i _ => by rw [g.2 59 (by omega) (by omega)])
theorem rw1_same {S T : St} (g : sameW S T) (h : rwE S 10 60 61 6 40) : rwE T 10 60 61 6 40 := rwE_of h (fun n _ => g.1 _ _ (by omega) (by omega)) (fun n _ => by rw [g.2 60 (by omega) (by omega)]) (fun n _ i _ => by rw [g.2 (10 + 10 + n) (by omega) (by omega)]) (fun n _ i _ => by rw [g.2 61 (by omega) (by omega)])
theorem rw2_same {S T : St} (g : sameW S T) (h : rwE S 16 62 63 4 60) : rwE T 16 62 63 4 60 := rwE_of h (fun n _ => g.1 _ _ (by omega) (by omega)) (fun n _ => by rw [g.2 62 (by omega) (by omega)]) (fun n _ i _ => by rw [g.2 (16 + 10 + n) (by omega) (by omega)]) (fun n _ i _ => by rw [g.2 63 (by omega) (by omega)])
theorem RLw_same {S T : St} (h : RLw S) (g : sameW S T) : RLw T := ⟨BK_same g (by omega) (by omega) h.1, fun n hn => BK_same g (by omega) (by omega) (h.2.1 n hn), rw1_same g h.2.2.1, rw2_same g h.2.2.2⟩
/-- what is told is as it was, but asked -/
def sameT (S T : St) : Prop := gA T 4 = gA S 4 ∧ gA T 64 = gA S 64 ∧ gI T 0 7 = gI S 0 7 ∧ gI T 58 5 = gI S 58 5 ∧ gL T 0 9 = gL S 0 9 ∧ gL T 0 10 = gL S 0 10 ∧ gL T 58 8 = gL S 58 8 ∧ gL T 58 9 = gL S 58 9
theorem RLt_as {S T : St} (h : RLt S) (g : sameT S T) (ha : gI T 0 8 = gI T 58 7) : RLt T := by
  obtain ⟨a, b, c, d, e⟩ := h
  obtain ⟨g1, g2, g3, g4, g5, g6, g7, g8⟩ := g
  exact ⟨fun f hf => by rw [g1, g2]; exact a f hf, by rw [g3, g4]; exact b, ha, by rw [g5, g7]; exact d, by rw [g6, g8]; exact e⟩
/-- a row of the scratch alone changed, or what was asked -/
theorem RL_as {S T : St} (h : Rel S) (w : sameW S T) (g : sameT S T) (ha : gI T 0 8 = gI T 58 7) : Rel T := ⟨RLw_same h.1 w, RLt_as h.2 g ha⟩
theorem RL_asked {S : St} (h : Rel S) (v : Int32) : Rel (sI (sI S 0 8 v) 58 7 v) := RL_as h (sameW_sI (sameW_sI (sameW_rf S) (by omega)) (by omega)) ⟨rfl, rfl, rfl, rfl, rfl, rfl, rfl, rfl⟩ rfl
theorem RL_fnd {S : St} (h : Rel S) {f : Nat} : Rel (fndS (refS S f) f) := by
  refine ⟨RLw_same h.1 ?_, ?_⟩
  · unfold fndS refS
    exact sameW_sA (sameW_sI (sameW_sI (sameW_sA (sameW_rf S) (by omega)) (by omega)) (by omega)) (by omega)
  · obtain ⟨a, b, c, d, e⟩ := h.2
    refine ⟨fun i hi => ?_, rfl, c, d, e⟩
    show upd (gA S 4) f (gA S 4 f + 1) i = upd (gA S 64) f (gA S 64 f + 1) i
    by_cases q : i = f
    · subst q
      rw [pk_us, pk_us, a i hi]
    · rw [pk_un q, pk_un q, a i hi]
/-! ONE CALL of both -/
/-- both answer the same int, and the relation stands -/
def PRi (E : En) (I J : Ym) (S : St) (args : List Value) : Prop := ∃ (S1 : St) (v : Int32) (Post : St → Option Value → Prop), CTe E I S (.ref (eA E 0) :: args) S1 (some (.int v)) ∧ CT E J S1 (.ref (eA E 58) :: args) Post ∧ ∀ S2 r, Post S2 r → r = some (.int v) ∧ Rel S2
def PRl (E : En) (I J : Ym) (S : St) (args : List Value) : Prop := ∃ (S1 : St) (v : Int64) (Post : St → Option Value → Prop), CTe E I S (.ref (eA E 0) :: args) S1 (some (.long v)) ∧ CT E J S1 (.ref (eA E 58) :: args) Post ∧ ∀ S2 r, Post S2 r → r = some (.long v) ∧ Rel S2
section PR
variable {E : En} {I J : Ym} {S S1 S2 : St} {args : List Value} {v w : Int32}
theorem pr_mk (h1 : CTe E I S (.ref (eA E 0) :: args) S1 (some (.int v))) (h2 : CTe E J S1 (.ref (eA E 58) :: args) S2 (some (.int w))) (hv : w = v) (hr : Rel S2) : PRi E I J S args := ⟨S1, v, _, h1, h2, fun _ _ h => by obtain ⟨rfl, rfl⟩ := h; exact ⟨by rw [hv], hr⟩⟩
theorem pr_no (h : Rel S) (h1 : CTe E I S (.ref (eA E 0) :: args) S (some (.int v))) (h2 : CTe E J S (.ref (eA E 58) :: args) S (some (.int v))) : PRi E I J S args := pr_mk h1 h2 rfl h
theorem pr_eq (h : Rel S) (h1 : CTe E I S (.ref (eA E 0) :: args) S (some (.int v))) (h2 : CTe E J S (.ref (eA E 58) :: args) S (some (.int w))) (e : w = v) : PRi E I J S args := pr_mk h1 h2 e h
theorem pr_fnd {f : Nat} (h : Rel S) (h1 : CTe E I S (.ref (eA E 0) :: args) (refS S f) (some (.int v))) (h2 : CTe E J (refS S f) (.ref (eA E 58) :: args) (fndS (refS S f) f) (some (.int v))) : PRi E I J S args := pr_mk h1 h2 rfl (RL_fnd h)
theorem pr_as {x y : Int32} (h : Rel S) (h1 : CTe E I S (.ref (eA E 0) :: args) (sI S 0 8 x) (some (.int v))) (h2 : CTe E J (sI S 0 8 x) (.ref (eA E 58) :: args) (sI (sI S 0 8 x) 58 7 y) (some (.int w))) (e : w = v) (e2 : y = x) : PRi E I J S args := pr_mk h1 h2 e (by subst e2; exact RL_asked h y)
end PR
