/-! WHOSE A LIGHT IS: firsts, kinds, test, whose -/
theorem allB_eq {p q : Nat → Bool} : ∀ m, (∀ i, i < m → p i = q i) → allB p m = allB q m
  | 0, _ => rfl
  | m + 1, h => by rw [allB, allB, allB_eq m (fun i hi => h i (by omega)), h m (by omega)]
theorem or_0 (x : Int32) : x ||| 0 = x := Int32.or_zero
theorem bit_or {c : Bool} {x y : Int32} : x ||| (if c = true then y else 0) = if c then x ||| y else x := by
  cases c
  · exact or_0 x
  · rfl
section LK
variable {S : St} {n m : Nat}
/-- a row's places, in both -/
theorem get_is (hm : gI S (10 + n) 1 = nI m) (hM : m ≤ 40) (c : ∀ i, i < m → gA S (10 + n + 10) i = gA S 61 (40 * n + i)) {i : Nat} (hi : i < m) : getF S (10 + n) (nI i) = gA S 61 (40 * n + i) := by rw [getF_in hm hi (by omega)]; exact c i hi
theorem ag_is (hm : gI S (10 + n) 1 = nI m) (hM : m ≤ 40) (c : ∀ i, i < m → gA S (10 + n + 10) i = gA S 61 (40 * n + i)) : allB (prP S (10 + n)) m = allB (agP S n) m := by
  refine allB_eq m (fun i hi => ?_)
  unfold prP agP
  rw [get_is hm hM c hi]
  generalize gA S 61 (40 * n + i) = x
  have := in_099 (x := x)
  cases hq : inF x.toInt64 0 99
  · rw [hq] at this
    have t : ¬ (¬ x < 0 ∧ x ≤ 99) := fun z => absurd (this.mpr z) (by decide)
    by_cases a : x < 0
    · rw [decide_eq_true a]; rfl
    · rw [decide_eq_false (fun z => t ⟨a, z⟩), Bool.and_false]
  · rw [hq] at this
    obtain ⟨a, b⟩ := this.mp rfl
    rw [decide_eq_false a, decide_eq_true b]; rfl
theorem ft_is (hm : gI S (10 + n) 1 = nI m) (hM : m ≤ 40) (c : ∀ i, i < m → gA S (10 + n + 10) i = gA S 61 (40 * n + i)) {q : Nat} (hq : m = 2 * q) (kind first : Int32) : fitF S kind first (10 + n) m = ftM S kind first n q := by
  unfold fitF ftM
  rw [show m / 2 = q by omega]
  refine allB_eq q (fun i hi => ?_)
  unfold fitP ftP
  rw [nI_1, get_is hm hM c (by omega), get_is hm hM c (by omega)]
  rfl
theorem fi_is {p : Nat → Bool} {kd : Int32} (k q : Nat) (hk : gA S 59 (11 + k) = kd) (h : ∀ i, p i = ftM S kd (nI i) n q) : ∀ j, setB p j = fiM S k n q j
  | 0 => rfl
  | j + 1 => by rw [setB, fiM, hk, bit_or, fi_is k q hk h j, h j]
theorem ki_is {p : Nat → Bool} {kd : Int32} (k q : Nat) (hk : gA S 59 (35 + k) = kd) (h : ∀ i, p i = ftM S (nI i) kd n q) : ∀ j, setB p j = kiM S k n q j
  | 0 => rfl
  | j + 1 => by rw [setB, kiM, hk, bit_or, ki_is k q hk h j, h j]
end LK
theorem gpI_bd (kinds first night : Int32) (a : Nat) : ∀ n, ∃ v, v ≤ n ∧ gpI kinds first night a n = nI v
  | 0 => ⟨0, Nat.le_refl _, rfl⟩
  | n + 1 => by
    obtain ⟨v, hv, e⟩ := gpI_bd kinds first night a n
    rw [gpI, e]
    split
    · exact ⟨v + 1, by omega, nI_1 v⟩
    · exact ⟨v, by omega, Int32.add_zero _⟩
theorem gpO_bd (kinds first night : Int32) : ∀ n, ∃ v, v ≤ 6 ∧ gpO kinds first night n = nI v
  | 0 => ⟨0, by omega, rfl⟩
  | n + 1 => by
    rw [gpO]
    split
    · exact gpO_bd kinds first night n
    · exact gpI_bd kinds first night n 6
theorem gpI_1 {kinds first night : Int32} {a : Nat} (ha : bitF kinds a = true) : ∀ n, sumB (fun i => bitF kinds i && decide (glowF (nI i) first night = glowF (nI a) first night)) (fun _ => 1) n = gpI kinds first night a n
  | 0 => rfl
  | n + 1 => by
    rw [sumB, gpI, gpI_1 ha n, show hsF kinds (nI a) = true from ha, Bool.true_and]
    have e : (decide (glowF (nI n) first night = glowF (nI a) first night)) = (decide (glowF (nI a) first night = glowF (nI n) first night)) := by
      by_cases z : glowF (nI n) first night = glowF (nI a) first night
      · rw [decide_eq_true z, decide_eq_true z.symm]
      · rw [decide_eq_false z, decide_eq_false (fun w => z w.symm)]
    rw [e]
    show (if (hsF kinds (nI n) && decide (glowF (nI a) first night = glowF (nI n) first night)) = true then _ else _) = _
    split
    · rfl
    · exact (Int32.add_zero _).symm
theorem gpI_0 {kinds first night : Int32} {a : Nat} (ha : bitF kinds a = false) : ∀ n, gpI kinds first night a n = 0
  | 0 => rfl
  | n + 1 => by
    rw [gpI, gpI_0 ha n, show hsF kinds (nI a) = false from ha]
    rfl
theorem lp_gp (kinds first night : Int32) : ∀ n, lpR kinds first night n = gpO kinds first night n
  | 0 => rfl
  | n + 1 => by
    obtain ⟨v, hv, e⟩ := gpO_bd kinds first night n
    rw [lpR, gpO, lp_gp kinds first night n]
    by_cases q : bitF kinds n = true
    · rw [if_pos q]
      unfold hmF
      rw [gpI_1 q 6]
      by_cases z : gpO kinds first night n < gpI kinds first night n 6
      · rw [if_pos z, if_neg (Int32.not_le.mpr z)]
      · rw [if_neg z, if_pos (Int32.not_lt.mp z)]
    · rw [if_neg q, gpI_0 (bF q) 6, if_pos (by rw [e]; exact nI_pos' (by omega))]
theorem tn_te (kinds first : Int32) : ∀ n, tnR kinds first n = teM kinds first (n + 1)
  | 0 => by
    obtain ⟨v, hv, e⟩ := gpO_bd kinds first 0 6
    unfold teM
    rw [low_hd (by show gpO kinds first 0 6 < 1000000; rw [e]; exact (nI_ltI (b := 1000000) (by omega) (by omega)).mpr (by omega))]
    show ((0 : Int32), lpR kinds first 0 6) = _
    rw [lp_gp]
    rfl
  | n + 1 => by
    rw [tnR, tn_te kinds first n]
    unfold lpF teM
    rw [lp_gp]
    rfl
theorem tn_2 (kinds first : Int32) : ∀ n, lpF kinds first (tnR kinds first n).1 = (tnR kinds first n).2
  | 0 => rfl
  | n + 1 => by
    rw [tnR]
    split
    · rfl
    · exact tn_2 kinds first n
section LC
theorem p_firsts (E : En) {S : St} (h : Rel S) (k r : Int32) : PRi E i_X8_firsts i_X9_firsts S [.int k, .int r] := by
  have hz := h.1.1.1.1
  have hm := bE_okM h.1.1.1
  by_cases hr : idxF 6 r = true
  · obtain ⟨n, hn, rfl⟩ := idx_nat (by omega) hr
    by_cases q : hasF S 30 k = true
    · obtain ⟨j, rfl, hj, hj2⟩ := lt_get h q
      rcases rw_get h hn with ⟨a, b⟩ | ⟨m, hm2, a, b, c⟩
      · exact pr_fnd h (c_X8_firsts_m E S _ n hn q (mis_1 a)) (c_X9_firsts_m E _ j n hm hj2 hn b)
      · by_cases p : m % 2 = 0
        · by_cases g : allB (prP S (10 + n)) m = true
          · have hg : agM S n m = 0 := by unfold agM; rw [if_pos p, if_pos ((ag_is a hm2 c).symm.trans g)]
            refine pr_eq h (c_X8_firsts_ok E S _ n m hz hn q a hm2 p g) (c_X9_firsts_ok E S j n m (m / 2) hm hj2 hn b hm2 hg (by omega)) ?_
            exact (fi_is j (m / 2) (n_f0 h.1.1.1 hj).symm (fun i => ft_is a hm2 c (by omega) _ _) 10).symm
          · exact pr_fnd h (c_X8_firsts_u E S _ n m hn q a hm2 p (bF g)) (c_X9_firsts_s E _ j n m 3 hm hj2 hn b hm2 (by show agM S n m = nI 3; unfold agM; rw [if_pos p, if_neg (fun z => g ((ag_is a hm2 c).trans z))]; rfl) (by omega) (by omega))
        · exact pr_fnd h (c_X8_firsts_s E S _ n m hn q a hm2 p) (c_X9_firsts_s E _ j n m 5 hm hj2 hn b hm2 (by show agM S n m = nI 5; unfold agM; rw [if_neg p]; rfl) (by omega) (by omega))
    · exact pr_no h (c_X8_firsts_bad E S k n hn (bF q)) (c_X9_firsts_bad E S k _ hm (fun z => q ((lt_idx h).trans z.1)))
  · exact pr_no h (c_X8_firsts_bad0 E S k r (bF hr)) (c_X9_firsts_bad E S k r hm (fun z => hr z.2))
theorem p_kinds (E : En) {S : St} (h : Rel S) (k r : Int32) : PRi E i_X8_kinds i_X9_kinds S [.int k, .int r] := by
  have hz := h.1.1.1.1
  have hm := bE_okM h.1.1.1
  by_cases hr : idxF 6 r = true
  · obtain ⟨n, hn, rfl⟩ := idx_nat (by omega) hr
    by_cases q : hasF S 30 k = true
    · obtain ⟨j, rfl, hj, hj2⟩ := lt_get h q
      rcases rw_get h hn with ⟨a, b⟩ | ⟨m, hm2, a, b, c⟩
      · exact pr_fnd h (c_X8_kinds_m E S _ n hn q (mis_1 a)) (c_X9_kinds_m E _ j n hm hj2 hn b)
      · by_cases p : m % 2 = 0
        · by_cases g : allB (prP S (10 + n)) m = true
          · have hg : agM S n m = 0 := by unfold agM; rw [if_pos p, if_pos ((ag_is a hm2 c).symm.trans g)]
            refine pr_eq h (c_X8_kinds_ok E S _ n m hz hn q a hm2 p g) (c_X9_kinds_ok E S j n m (m / 2) hm hj2 hn b hm2 hg (by omega)) ?_
            exact (ki_is j (m / 2) (n_f4 h.1.1.1 hj).symm (fun i => ft_is a hm2 c (by omega) _ _) 6).symm
          · exact pr_fnd h (c_X8_kinds_u E S _ n m hn q a hm2 p (bF g)) (c_X9_kinds_s E _ j n m 3 hm hj2 hn b hm2 (by show agM S n m = nI 3; unfold agM; rw [if_pos p, if_neg (fun z => g ((ag_is a hm2 c).trans z))]; rfl) (by omega) (by omega))
        · exact pr_fnd h (c_X8_kinds_s E S _ n m hn q a hm2 p) (c_X9_kinds_s E _ j n m 5 hm hj2 hn b hm2 (by show agM S n m = nI 5; unfold agM; rw [if_neg p]; rfl) (by omega) (by omega))
    · exact pr_no h (c_X8_kinds_bad E S k n hn (bF q)) (c_X9_kinds_bad E S k _ hm (fun z => q ((lt_idx h).trans z.1)))
  · exact pr_no h (c_X8_kinds_bad0 E S k r (bF hr)) (c_X9_kinds_bad E S k r hm (fun z => hr z.2))
theorem p_test (E : En) {S : St} (h : Rel S) (k r : Int32) : PRi E i_X8_test i_X9_test S [.int k, .int r] := by
  have hz := h.1.1.1.1
  have hm := bE_okM h.1.1.1
  by_cases hr : idxF 6 r = true
  · obtain ⟨n, hn, rfl⟩ := idx_nat (by omega) hr
    by_cases q : hasF S 30 k = true
    · obtain ⟨j, rfl, hj, hj2⟩ := lt_get h q
      rcases rw_get h hn with ⟨a, b⟩ | ⟨m, hm2, a, b, c⟩
      · exact pr_fnd h (c_X8_test_m E S _ n hn q (mis_1 a)) (c_X9_test_m E _ j n hm hj2 hn b)
      · by_cases p : m % 2 = 0
        · by_cases g : allB (prP S (10 + n)) m = true
          · have hg : agM S n m = 0 := by unfold agM; rw [if_pos p, if_pos ((ag_is a hm2 c).symm.trans g)]
            have e : setB (fun i => fitF S (nI i) (fldF S 30 4 (nI j)) (10 + n) m) 6 = kiM S j n (m / 2) 6 := ki_is j (m / 2) (n_f4 h.1.1.1 hj).symm (fun i => ft_is a hm2 c (by omega) _ _) 6
            by_cases z : setB (fun i => fitF S (nI i) (fldF S 30 4 (nI j)) (10 + n) m) 6 = 0
            · exact pr_no h (c_X8_test_no E S _ n m hz hn q a hm2 p g z) (c_X9_test_no E S j n m (m / 2) hm hj2 hn b hm2 hg (by omega) (e.symm.trans z))
            · have c9 := fun v => c_X9_test_ok E (sI S 0 8 v) j n m (m / 2) hm hj2 hn b hm2 hg (by omega) (by show ¬ kiM S j n (m / 2) 6 = 0; rw [← e]; exact z)
              refine pr_as h (c_X8_test_ok E S _ n m hz hn q a hm2 p g z) (c9 _) ?_ ?_
              · rw [e, tn_te, n_f4 h.1.1.1 hj]; rfl
              · rw [tn_2, e, tn_te, n_f4 h.1.1.1 hj]; rfl
          · exact pr_fnd h (c_X8_test_u E S _ n m hn q a hm2 p (bF g)) (c_X9_test_s E _ j n m 3 hm hj2 hn b hm2 (by show agM S n m = nI 3; unfold agM; rw [if_pos p, if_neg (fun z => g ((ag_is a hm2 c).trans z))]; rfl) (by omega) (by omega))
        · exact pr_fnd h (c_X8_test_s E S _ n m hn q a hm2 p) (c_X9_test_s E _ j n m 5 hm hj2 hn b hm2 (by show agM S n m = nI 5; unfold agM; rw [if_neg p]; rfl) (by omega) (by omega))
    · exact pr_no h (c_X8_test_bad E S k n hn (bF q)) (c_X9_test_bad E S k _ hm (fun z => q ((lt_idx h).trans z.1)))
  · exact pr_no h (c_X8_test_bad0 E S k r (bF hr)) (c_X9_test_bad E S k r hm (fun z => hr z.2))
/-! whose -/
theorem woU_ne {S : St} {k i a : Nat} (ha : a ≠ 19 + k) : gA (woU S k i) 59 a = gA S 59 a := by unfold woU; rw [gA_same, pk_un ha]
theorem woU_nM {S : St} {k i : Nat} : nM (woU S k i) = nM S := by unfold nM; rw [woU_ne (by omega)]
theorem woU_db {S : St} {k i : Nat} (h8 : nM S ≤ 8) : dbM (woU S k i) = dbM S := by
  unfold dbM
  rw [woU_nM]
  have z : ∀ n, n ≤ 8 → dbR (woU S k i) n = dbR S n := by
    intro n
    induction n with
    | zero => intro _; rfl
    | succ n ih =>
      intro hn
      rw [dbR, dbR, ih (by omega), woU_ne (by omega)]
      unfold isFoM
      rw [woU_ne (by omega)]
  exact z _ h8
def d01 (a b : Int32) : Int32 := if a = b then 1 else 0
theorem d01_b (a b : Int32) : (if decide (a = b) = true then (1 : Int32) else 0) = d01 a b := by
  unfold d01
  by_cases h : a = b
  · rw [if_pos h, if_pos (decide_eq_true h)]
  · rw [if_neg h, decide_eq_false h]; rfl
theorem woU_ob {S : St} {k i : Nat} {x set : Int32} (hk8 : k < 8) (hk : hsF set (nI k) = true) : ∀ n, n ≤ 8 → obR (woU S k i) x set n = if k < n then obR S x set n + d01 (nI i) x - d01 (gA S 59 (19 + k)) x else obR S x set n
  | 0, _ => by rw [if_neg (by omega)]; rfl
  | n + 1, hn => by
    have ih := woU_ob (S := S) (i := i) (x := x) hk8 hk n (by omega)
    rw [obR, obR, ih, woU_ne (show 27 + n ≠ 19 + k by omega)]
    by_cases w : n = k
    · subst w
      rw [if_neg (show ¬ n < n by omega), if_pos (show n < n + 1 by omega), hk, Bool.true_and, Bool.true_and]
      have e : gA (woU S n i) 59 (19 + n) = nI i := by unfold woU; rw [gA_same, pk_us]
      rw [e]
      rw [Bool.true_and, d01_b, d01_b, d01_b]
      generalize d01 (gA S 59 (27 + n)) x = t
      generalize d01 (gA S 59 (19 + n)) x = u
      generalize d01 (nI i) x = v
      generalize obR S x set n = z
      grind
    · rw [woU_ne (show 19 + n ≠ 19 + k by omega)]
      generalize (if (hsF set (nI n) && decide (gA S 59 (27 + n) = x)) = true then (1 : Int32) else 0) = t
      generalize (if (hsF set (nI n) && decide (gA S 59 (19 + n) = x)) = true then (1 : Int32) else 0) = u
      by_cases z : k < n
      · rw [if_pos z, if_pos (by omega)]
        grind
      · rw [if_neg z, if_neg (by omega)]
theorem woU_ob0 {S : St} {k i : Nat} {x set : Int32} (hk8 : k < 8) (hk : hsF set (nI k) = false) : ∀ n, n ≤ 8 → obR (woU S k i) x set n = obR S x set n
  | 0, _ => rfl
  | n + 1, hn => by
    rw [obR, obR, woU_ob0 hk8 hk n (by omega), woU_ne (show 27 + n ≠ 19 + k by omega)]
    by_cases w : n = k
    · subst w
      rw [hk]
      rfl
    · rw [woU_ne (show 19 + n ≠ 19 + k by omega)]
theorem fow_is {S : St} (h : Rel S) {k i j : Nat} (hk : k < szB S 30) : fowB S 30 (nI k) (nI i) j = obM (woU S k i) (nI j) (dbM (woU S k i)) + 100 := by
  have hB := h.1.1.1
  have h8 : szB S 30 ≤ 8 := hB.1.2
  have hN := bE_nM hB
  have hm := bE_okM hB
  have hk2 : k < nM S := by rw [hN]; exact hk
  unfold fowB
  rw [bal_ob hB, n_f1 hB hk, ← db_hs hB (show k < 8 by omega), woU_db hm.2]
  unfold obM
  rw [woU_nM]
  cases q : hsF (dbM S) (nI k)
  · rw [woU_ob0 (by omega) q _ hm.2]
    generalize obR S (nI j) (dbM S) (nM S) = t
    rw [bI_f, Int32.sub_zero, Int32.add_zero, ite_self, ite_self]
  · rw [woU_ob (by omega) q _ hm.2, if_pos hk2]
    generalize obR S (nI j) (dbM S) (nM S) = t
    rw [bI_t]
    unfold d01
    by_cases a : nI j = nI i
    · rw [if_pos a, if_pos a.symm]
      by_cases b : nI j = gA S 59 (19 + k)
      · rw [if_pos b, if_pos b.symm]; grind
      · rw [if_neg b, if_neg (show ¬ gA S 59 (19 + k) = nI j from fun z => b z.symm)]; grind
    · rw [if_neg a, if_neg (show ¬ nI i = nI j from fun z => a z.symm)]
      by_cases b : nI j = gA S 59 (19 + k)
      · rw [if_pos b, if_pos b.symm]; grind
      · rw [if_neg b, if_neg (show ¬ gA S 59 (19 + k) = nI j from fun z => b z.symm)]; grind
theorem wv_is {S : St} {n : Nat} (a : gI S (10 + n) 1 = nI 6) (c : ∀ i, i < 6 → gA S (10 + n + 10) i = gA S 61 (40 * n + i)) : allB (tlP S (10 + n)) 6 = allB (wvP S n) 6 := by
  refine allB_eq 6 (fun i hi => ?_)
  unfold tlP wvP
  rw [get_is a (by omega) c hi]
  generalize gA S 61 (40 * n + i) = x
  have := in_0200 (x := x)
  rw [Bool.or_comm]
  congr 1
  cases hq : inF x.toInt64 0 200
  · rw [hq] at this
    have t : ¬ (¬ x < 0 ∧ x ≤ 200) := fun z => absurd (this.mpr z) (by decide)
    by_cases a : x < 0
    · rw [decide_eq_true a]; rfl
    · rw [decide_eq_false (fun z => t ⟨a, z⟩), Bool.and_false]
  · rw [hq] at this
    obtain ⟨a, b⟩ := this.mp rfl
    rw [decide_eq_false a, decide_eq_true b]; rfl
theorem wh_is {S : St} (h : Rel S) {k n : Nat} (hk : k < szB S 30) (a : gI S (10 + n) 1 = nI 6) (c : ∀ i, i < 6 → gA S (10 + n + 10) i = gA S 61 (40 * n + i)) : fowF S 30 (nI k) (10 + n) = whR S k n 6 := by
  have z : ∀ j, setB (fun i => !decide (nI i = fldF S 30 2 (nI k)) && allB (fowP S 30 (nI k) (nI i) (10 + n)) 6) j = whR S k n j := by
    intro j
    induction j with
    | zero => rfl
    | succ j ih =>
      rw [setB, whR, ih, bit_or]
      have e : (!decide (nI j = fldF S 30 2 (nI k)) && allB (fowP S 30 (nI k) (nI j) (10 + n)) 6) = whB S k n j 6 := by
        unfold whB
        rw [n_f2 h.1.1.1 hk]
        congr 1
        refine allB_eq 6 (fun i hi => ?_)
        unfold fowP whP
        rw [get_is a (by omega) c hi, fow_is h hk]
        congr 1
        by_cases q : gA S 61 (40 * n + i) = obM (woU S k j) (nI i) (dbM (woU S k j)) + 100
        · rw [decide_eq_true q, decide_eq_true q.symm]
        · rw [decide_eq_false q, decide_eq_false (fun w => q w.symm)]
      rw [e]
  exact z 6
theorem p_whose (E : En) {S : St} (h : Rel S) (k r : Int32) : PRi E i_X8_whose i_X9_whose S [.int k, .int r] := by
  have hz := h.1.1.1.1
  have hm := bE_okM h.1.1.1
  by_cases hr : idxF 6 r = true
  · obtain ⟨n, hn, rfl⟩ := idx_nat (by omega) hr
    by_cases q : hasF S 30 k = true
    · obtain ⟨j, rfl, hj, hj2⟩ := lt_get h q
      rcases rw_get h hn with ⟨a, b⟩ | ⟨m, hm2, a, b, c⟩
      · exact pr_fnd h (c_X8_whose_m E S _ n hn q (mis_1 a)) (c_X9_whose_m E _ j n hm hj2 hn b)
      · by_cases p : m = 6
        · subst p
          by_cases g : allB (tlP S (10 + n)) 6 = true
          · exact pr_eq h (c_X8_whose_ok E S _ n hz hn q a g) (c_X9_whose_ok E S j n hm hj2 hn b ((wv_is a c).symm.trans g)) (wh_is h hj a c).symm
          · exact pr_fnd h (c_X8_whose_u E S _ n hn q a (bF g)) (c_X9_whose_v E _ j n hm hj2 hn b ((wv_is a c).symm.trans (bF g)))
        · exact pr_fnd h (c_X8_whose_s E S _ n m hn q a hm2 p) (c_X9_whose_z E _ j n m hm hj2 hn b hm2 p)
    · exact pr_no h (c_X8_whose_bad E S k n hn (bF q)) (c_X9_whose_bad E S k _ hm (fun z => q ((lt_idx h).trans z.1)))
  · exact pr_no h (c_X8_whose_bad0 E S k r (bF hr)) (c_X9_whose_bad E S k r hm (fun z => hr z.2))
end LC
