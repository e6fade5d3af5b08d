/-! THE RELATION of the class and the reference: banks -/
/-- the class's bank b and the reference's bank at o say the same, within the document's ranges -/
def bkE (S : St) (b o : Nat) : Prop :=
  okB S b ∧ okD S b ∧ gA S 59 o = gI S b 6 ∧ gA S 59 (o + 1) = gI S b 8 ∧ gA S 59 (o + 2) = gI S b 7 ∧ gA S 59 (o + 43) = gI S b 9 ∧
  ∀ k, k < szB S b → gA S 59 (o + 11 + k) = gA S (34 + 6 * (b - 30)) k ∧ gA S 59 (o + 19 + k) = gA S (34 + 6 * (b - 30) + 1) k ∧ gA S 59 (o + 27 + k) = gA S (34 + 6 * (b - 30) + 2) k ∧ gA S 59 (o + 3 + k) = gA S (34 + 6 * (b - 30) + 3) k ∧ gA S 59 (o + 35 + k) = gA S (34 + 6 * (b - 30) + 4) k
/-- a bank within the document's ranges -/
def bkO (S : St) (b : Nat) : Prop :=
  okB S b ∧ okD S b ∧ (∃ m, m ≤ 40 ∧ gI S b 8 = nI m) ∧ (∃ m, m < 2 ^ szB S b ∧ gI S b 7 = nI m) ∧
  ∀ k, k < szB S b → (∃ m, m < 6 ∧ gA S (34 + 6 * (b - 30)) k = nI m) ∧ (∃ m, m < 6 ∧ gA S (34 + 6 * (b - 30) + 1) k = nI m) ∧ (∃ m, m < 6 ∧ gA S (34 + 6 * (b - 30) + 2) k = nI m) ∧ (∃ m, m < 10 ∧ gA S (34 + 6 * (b - 30) + 3) k = nI m) ∧ ∃ m, m < 10 ∧ gA S (34 + 6 * (b - 30) + 4) k = nI m
theorem has_lt {S : St} {b k : Nat} (hz : okB S b) (hk : k < szB S b) : hasF S b (nI k) = true := by
  have := hz.2
  unfold hasF
  rw [hz.1, Bool.and_eq_true, Bool.not_eq_true', Bool.not_eq_true', decide_eq_false_iff_not, decide_eq_false_iff_not]
  exact ⟨nI_pos (by omega), nI_ge hk (by omega)⟩
theorem has_idx {S : St} {b : Nat} {k : Int32} (hz : okB S b) : hasF S b k = idxF (szB S b) k := by
  unfold hasF idxF
  rw [← hz.1]
theorem fld_lt {S : St} {b j k : Nat} (hz : okB S b) (hk : k < szB S b) : fldF S b j (nI k) = gA S (34 + 6 * (b - 30) + j) k := by
  have := hz.2
  rw [fldF, if_pos (has_lt hz hk), nI_clamp (by omega)]
theorem bE_nM {S : St} (h : bkE S 30 0) : nM S = szB S 30 := by unfold nM szB; rw [h.2.2.1]
theorem bE_okM {S : St} (h : bkE S 30 0) : okM S := by
  refine ⟨?_, ?_⟩
  · rw [bE_nM h]; exact h.2.2.1.trans h.1.1
  · rw [bE_nM h]; exact h.1.2
theorem n_no {S : St} (h : bkE S 30 0) : gA S 59 0 = gI S 30 6 := h.2.2.1
theorem n_night {S : St} (h : bkE S 30 0) : gA S 59 1 = gI S 30 8 := h.2.2.2.1
theorem n_lit {S : St} (h : bkE S 30 0) : gA S 59 2 = gI S 30 7 := h.2.2.2.2.1
theorem n_done {S : St} (h : bkE S 30 0) : gA S 59 43 = gI S 30 9 := h.2.2.2.2.2.1
theorem n_f0 {S : St} (h : bkE S 30 0) {k : Nat} (hk : k < szB S 30) : fldF S 30 0 (nI k) = gA S 59 (11 + k) := by
  rw [fld_lt h.1 hk, ← Nat.zero_add 11]; exact (h.2.2.2.2.2.2 k hk).1.symm
theorem n_f1 {S : St} (h : bkE S 30 0) {k : Nat} (hk : k < szB S 30) : fldF S 30 1 (nI k) = gA S 59 (19 + k) := by
  rw [fld_lt h.1 hk, ← Nat.zero_add 19]; exact (h.2.2.2.2.2.2 k hk).2.1.symm
theorem n_f2 {S : St} (h : bkE S 30 0) {k : Nat} (hk : k < szB S 30) : fldF S 30 2 (nI k) = gA S 59 (27 + k) := by
  rw [fld_lt h.1 hk, ← Nat.zero_add 27]; exact (h.2.2.2.2.2.2 k hk).2.2.1.symm
theorem n_f3 {S : St} (h : bkE S 30 0) {k : Nat} (hk : k < szB S 30) : fldF S 30 3 (nI k) = gA S 59 (3 + k) := by
  rw [fld_lt h.1 hk, ← Nat.zero_add 3]; exact (h.2.2.2.2.2.2 k hk).2.2.2.1.symm
theorem n_f4 {S : St} (h : bkE S 30 0) {k : Nat} (hk : k < szB S 30) : fldF S 30 4 (nI k) = gA S 59 (35 + k) := by
  rw [fld_lt h.1 hk, ← Nat.zero_add 35]; exact (h.2.2.2.2.2.2 k hk).2.2.2.2.symm
theorem n_lt {S : St} (h : bkE S 30 0) {k : Nat} (hk : k < szB S 30) : litF S 30 (nI k) = hsF (gA S 59 2) (nI k) := by
  rw [litF, has_lt h.1 hk, Bool.true_and, n_lit h]; rfl
theorem n_glo {S : St} (h : bkE S 30 0) {k : Nat} {night : Int32} (hk : k < szB S 30) : gloF S 30 (nI k) night = glQ S k night := by
  rw [gloF, n_f0 h hk, n_f4 h hk]; rfl
theorem fad_gv {g a c : Int32} : fadF g a c = if 0 ≤ g - 2 * szM (a - c) then g - 2 * szM (a - c) else 0 := by
  have e : szM (a - c) = if 0 ≤ a - c then a - c else 0 - (a - c) := by
    unfold szM
    split
    · rfl
    · exact (Int32.zero_sub _).symm
  rw [e]
  unfold fadF
  generalize g - 2 * (if 0 ≤ a - c then a - c else 0 - (a - c)) = x
  by_cases q : 0 < x
  · rw [if_pos q, if_pos (Int32.le_of_lt q)]
  · rw [if_neg q]
    split
    · rename_i z
      exact Int32.le_antisymm z (Int32.not_lt.mp q)
    · rfl
theorem gla_gv {S : St} (h : bkE S 30 0) {k : Nat} {pl night : Int32} (hk : k < szB S 30) : glaF S 30 (nI k) pl night = gvM S k (gA S 59 (3 + k)) pl night := by
  rw [glaF, fad_gv, n_glo h hk, n_f3 h hk]; rfl
theorem bri_br {S : St} (h : bkE S 30 0) {pl night : Int32} : briF S 30 pl night = brR S pl (gA S 59 2) night (nM S) := by
  rw [bE_nM h, briF]
  have z : ∀ n, n ≤ szB S 30 → sumB (fun i => litF S 30 (nI i)) (fun i => glaF S 30 (nI i) pl night) n = brR S pl (gA S 59 2) night n := by
    intro n
    induction n with
    | zero => intro _; rfl
    | succ n ih =>
      intro hn
      rw [sumB, brR, ih (by omega), n_lt h (by omega), gla_gv h (by omega)]
      split
      · rfl
      · exact (Int32.add_zero _).symm
  exact z _ (Nat.le_refl _)
theorem bri_brM {S : St} (h : bkE S 30 0) {pl : Int32} : briF S 30 pl (gI S 30 8) = brM S pl := by rw [bri_br h, ← n_night h]; rfl
theorem alo_al {S : St} (h : bkE S 30 0) {a z m : Nat} (hm : a + m = z + 1) : aloF S 30 a z = alM S a m := by
  rw [aloF, show z + 1 - a = m by omega]
  clear hm
  induction m with
  | zero => rfl
  | succ m ih => rw [sumN, alM, ih, bri_brM h]
theorem ga_lg {S : St} (h : bkE S 30 0) : sumB (fun i => litF S 30 (nI i)) (fun i => gloF S 30 (nI i) (gI S 30 8)) (szB S 30) = gaR S (nM S) := by
  rw [bE_nM h]
  have z : ∀ n, n ≤ szB S 30 → sumB (fun i => litF S 30 (nI i)) (fun i => gloF S 30 (nI i) (gI S 30 8)) n = gaR S n := by
    intro n
    induction n with
    | zero => intro _; rfl
    | succ n ih =>
      intro hn
      rw [sumB, gaR, ih (by omega), n_lt h (by omega), n_glo h (by omega), n_night h]
      split
      · rfl
      · exact (Int32.add_zero _).symm
  exact z _ (Nat.le_refl _)
theorem bit01 (x k : Int32) : bI (hsF x k) = (x >>> (k &&& 31)) &&& 1 := by
  unfold hsF
  generalize x >>> (k &&& 31) = y
  have z : y &&& 1 = 0 ∨ y &&& 1 = 1 := by
    rw [← Int32.toBitVec_inj, ← Int32.toBitVec_inj]
    simp only [Int32.toBitVec_and]
    generalize y.toBitVec = w
    show w &&& 1#32 = 0#32 ∨ w &&& 1#32 = 1#32
    have e : (w &&& 1#32).toNat = w.toNat % 2 := by rw [BitVec.toNat_and]; exact Nat.and_one_is_mod _
    rcases Nat.mod_two_eq_zero_or_one w.toNat with q | q
    · exact Or.inl (BitVec.eq_of_toNat_eq (e.trans q))
    · exact Or.inr (BitVec.eq_of_toNat_eq (e.trans q))
  rcases z with z | z <;> rw [z] <;> decide
theorem part_lt {S : St} (h : bkE S 30 0) {k : Nat} {what : Int32} (hk : k < szB S 30) : partF S 30 (nI k) what = ltM S k what := by
  unfold partF ltM
  rw [n_f0 h hk, n_f1 h hk, n_f2 h hk, n_f3 h hk, n_f4 h hk, n_lt h hk, n_glo h hk, bit01, n_night h]
