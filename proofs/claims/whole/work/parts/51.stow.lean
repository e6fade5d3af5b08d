/-! STOW, ROAD: alike -/
/-- what all lights but k add in a place -/
def rsR (S : St) (k : Nat) (pl : Int32) : Nat → Int32
  | 0 => 0
  | n + 1 => rsR S k pl n + (if n ≠ k ∧ hsF (gA S 59 2) (nI n) = true then gvM S n (gA S 59 (3 + n)) pl (gA S 59 1) else 0)
/-- what light k adds there, if it stands at x -/
def tmK (S : St) (k x : Nat) (pl : Int32) : Int32 := if hsF (gA S 59 2) (nI k) = true then gvM S k (nI x) pl (gA S 59 1) else 0
theorem stU_ne {S : St} {k x i : Nat} (h : i ≠ 3 + k) : gA (stU S k x) 59 i = gA S 59 i := by unfold stU; rw [gA_same, pk_un h]
theorem stU_at {S : St} {k x : Nat} : gA (stU S k x) 59 (3 + k) = nI x := by unfold stU; rw [gA_same, pk_us]
theorem stU_gv {S : St} {k x j : Nat} {a p n : Int32} (hk : k < 8) : gvM (stU S k x) j a p n = gvM S j a p n := by unfold gvM glQ; rw [stU_ne (by omega), stU_ne (by omega)]
theorem stU_br {S : St} {k x : Nat} {pl : Int32} (hk : k < 8) : ∀ N, N ≤ 8 → brR (stU S k x) pl (gA S 59 2) (gA S 59 1) N = rsR S k pl N + (if k < N then tmK S k x pl else 0)
  | 0, _ => by rw [brR, rsR, if_neg (by omega)]; rfl
  | N + 1, hN => by
    rw [brR, rsR, stU_br hk N (by omega), stU_gv hk]
    by_cases q : N = k
    · subst q
      rw [if_neg (show ¬ N < N by omega), stU_at, if_neg (show ¬ (N ≠ N ∧ hsF (gA S 59 2) (nI N) = true) from fun z => z.1 rfl), if_pos (show N < N + 1 by omega), Int32.add_zero]
      rfl
    · rw [stU_ne (by omega)]
      have e : (if N ≠ k ∧ hsF (gA S 59 2) (nI N) = true then gvM S N (gA S 59 (3 + N)) pl (gA S 59 1) else 0) = (if hsF (gA S 59 2) (nI N) = true then gvM S N (gA S 59 (3 + N)) pl (gA S 59 1) else 0) := by
        by_cases w : hsF (gA S 59 2) (nI N) = true
        · rw [if_pos w, if_pos ⟨q, w⟩]
        · rw [if_neg w, if_neg (fun z => w z.2)]
      rw [e]
      have e2 : (if k < N + 1 then tmK S k x pl else 0) = (if k < N then tmK S k x pl else 0) := by
        by_cases w : k < N
        · rw [if_pos w, if_pos (by omega)]
        · rw [if_neg w, if_neg (by omega)]
      rw [e2]
      generalize (if hsF (gA S 59 2) (nI N) = true then gvM S N (gA S 59 (3 + N)) pl (gA S 59 1) else 0) = u
      generalize (if k < N then tmK S k x pl else 0) = v
      generalize rsR S k pl N = w
      grind
theorem stU_brM {S : St} {k x : Nat} {pl : Int32} (hz : okM S) (hk : k < nM S) : brM (stU S k x) pl = rsR S k pl (nM S) + tmK S k x pl := by
  have h8 := hz.2
  unfold brM
  rw [stU_ne (by omega), stU_ne (by omega), (nM_stU hz).2, stU_br (by omega) _ h8, if_pos hk]
theorem stU_al {S : St} {k x p : Nat} (hz : okM S) (hk : k < nM S) : ∀ m, alM (stU S k x) p m = sumN (fun i => rsR S k (nI (p + i)) (nM S)) m + sumN (fun i => tmK S k x (nI (p + i))) m
  | 0 => rfl
  | m + 1 => by
    rw [alM, sumN, sumN, stU_al hz hk m, stU_brM hz hk]
    generalize sumN (fun i => rsR S k (nI (p + i)) (nM S)) m = u
    generalize sumN (fun i => tmK S k x (nI (p + i))) m = v
    generalize rsR S k (nI (p + m)) (nM S) = w
    generalize tmK S k x (nI (p + m)) = y
    grind
theorem sumN_0 : ∀ m, sumN (fun _ => 0) m = 0
  | 0 => rfl
  | m + 1 => by rw [sumN, sumN_0 m]; rfl
theorem sumN_eq {f g : Nat → Int32} : ∀ m, (∀ i, i < m → f i = g i) → sumN f m = sumN g m
  | 0, _ => rfl
  | m + 1, h => by rw [sumN, sumN, sumN_eq m (fun i hi => h i (by omega)), h m (by omega)]
theorem sumN_bd {f : Nat → Int32} {B : Nat} : ∀ m, (∀ i, i < m → ∃ v, v ≤ B ∧ f i = nI v) → ∃ v, v ≤ B * m ∧ sumN f m = nI v
  | 0, _ => ⟨0, Nat.zero_le _, rfl⟩
  | m + 1, h => by
    obtain ⟨v, hv, e⟩ := sumN_bd m (fun i hi => h i (by omega))
    obtain ⟨u, hu, e2⟩ := h m (by omega)
    rw [sumN, e, e2]
    exact ⟨v + u, by rw [Nat.mul_succ]; omega, nI_add v u⟩
theorem sha_is {S : St} (h : Rel S) {k x a z : Nat} (hk : k < szB S 30) : shaF S 30 (nI k) (nI x) a z = sumN (fun i => tmK S k x (nI (a + i))) (z + 1 - a) := by
  have hB := h.1.1.1
  unfold shaF
  rw [n_lt hB hk]
  by_cases q : hsF (gA S 59 2) (nI k) = true
  · rw [if_pos q]
    refine sumN_eq _ (fun i _ => ?_)
    unfold tmK
    rw [if_pos q, fad_gv, n_glo hB hk, n_night hB]
    rfl
  · rw [if_neg q]
    have e : (fun i => tmK S k x (nI (a + i))) = (fun _ => 0) := by funext i; unfold tmK; rw [if_neg q]
    rw [e, sumN_0]
theorem p_stow (E : En) {S : St} (h : Rel S) (k x y : Int32) : PRi E i_X8_stow i_X9_stow S [.int k, .int x, .int y] := by
  have hB := h.1.1.1
  have hm := bE_okM hB
  by_cases q : hasF S 30 k = true ∧ strF x y = true
  · obtain ⟨q1, q2⟩ := q
    obtain ⟨j, rfl, hj, hj2⟩ := lt_get h q1
    obtain ⟨a, z, rfl, rfl, h1, h2⟩ := str_iff.mp q2
    obtain ⟨g1, g2⟩ := pl_in h1 h2
    have hw := wr_of hB h.1.1.2.1
    obtain ⟨n, hn, en⟩ := lt_nt h
    obtain ⟨x0, hx0, ex0⟩ := lt_p h hj2
    have h8 := hm.2
    have hM : a + (z + 1 - a) = z + 1 := by omega
    have eS : stU S j x0 = S := by unfold stU; rw [← ex0, upd_self, sA_self]
    have al : ∀ t, alM (stU S j t) a (z + 1 - a) = sumN (fun i => rsR S j (nI (a + i)) (nM S)) (z + 1 - a) + shaF S 30 (nI j) (nI t) a z := fun t => by rw [stU_al hm hj2, sha_is h hj]
    have tb : ∀ t, t < 10 → ∃ v, v ≤ 200 ∧ shaF S 30 (nI j) (nI t) a z = nI v := fun t ht => by
      rw [sha_is h hj]
      obtain ⟨v, hv, e⟩ := sumN_bd (f := fun i => tmK S j t (nI (a + i))) (B := 20) (z + 1 - a) (fun i hi => by
        unfold tmK
        by_cases w : hsF (gA S 59 2) (nI j) = true
        · rw [if_pos w, en]
          obtain ⟨v, hv, e⟩ := gv_bd hw hj2 ht (show a + i < 10 by omega) (show n < 100 by omega)
          exact ⟨v, by omega, e⟩
        · rw [if_neg w]; exact ⟨0, by omega, rfl⟩)
      exact ⟨v, by omega, e⟩
    have rb : ∃ v, v ≤ 1600 ∧ sumN (fun i => rsR S j (nI (a + i)) (nM S)) (z + 1 - a) = nI v := by
      have r1 : ∀ i, i < 10 → ∀ N, N ≤ nM S → ∃ v, v ≤ 20 * N ∧ rsR S j (nI i) N = nI v := by
        intro i hi N
        induction N with
        | zero => intro _; exact ⟨0, by omega, rfl⟩
        | succ N ih =>
          intro hN
          obtain ⟨v, hv, e⟩ := ih (by omega)
          rw [rsR, e]
          by_cases w : N ≠ j ∧ hsF (gA S 59 2) (nI N) = true
          · obtain ⟨b, hb, eb⟩ := lt_p h (show N < nM S by omega)
            obtain ⟨u, hu, e2⟩ := gv_bd hw (show N < nM S by omega) hb hi (show n < 100 by omega)
            rw [if_pos w, en, eb, e2]
            exact ⟨v + u, by omega, nI_add v u⟩
          · rw [if_neg w]
            exact ⟨v, by omega, Int32.add_zero _⟩
      obtain ⟨v, hv, e⟩ := sumN_bd (f := fun i => rsR S j (nI (a + i)) (nM S)) (B := 160) (z + 1 - a) (fun i hi => by
        obtain ⟨v, hv, e⟩ := r1 (a + i) (by omega) (nM S) (Nat.le_refl _)
        exact ⟨v, by omega, e⟩)
      exact ⟨v, by omega, e⟩
    obtain ⟨B, hB1, eB⟩ := rb
    rw [eB] at al
    have key : ∀ t, t ≤ 9 → ∃ u, u ≤ 200 ∧ (stwR S (nI j) a z t).2 = nI u ∧ lowR (fun n => alM (stU S j n) a (z + 1 - a)) nI (t + 1) = ((stwR S (nI j) a z t).1, nI B + nI u) := by
      intro t
      induction t with
      | zero =>
        intro _
        obtain ⟨u, hu, eu⟩ := tb 0 (by omega)
        refine ⟨u, hu, eu, ?_⟩
        rw [low_hd (by show alM (stU S j 0) a (z + 1 - a) < 1000000; rw [al, eu, nI_add]; exact (nI_ltI (b := 1000000) (by omega) (by omega)).mpr (by omega))]
        rw [al, eu]
        rfl
      | succ t ih =>
        intro ht
        obtain ⟨u, hu, eu, e⟩ := ih (by omega)
        obtain ⟨w, hw2, ew⟩ := tb (t + 1) (by omega)
        rw [lowR, e, stwR, eu, al, ew]
        by_cases c : w < u
        · rw [if_pos (show nI w < nI u from nI_lt c (by omega)), if_pos (show nI B + nI w < (_, nI B + nI u).2 from by show nI B + nI w < nI B + nI u; rw [nI_add, nI_add]; exact nI_lt (by omega) (by omega))]
          exact ⟨w, hw2, rfl, rfl⟩
        · rw [if_neg (show ¬ nI w < nI u from nI_nlt (by omega) (by omega)), if_neg (show ¬ nI B + nI w < (_, nI B + nI u).2 from by show ¬ nI B + nI w < nI B + nI u; rw [nI_add, nI_add]; exact nI_nlt (by omega) (by omega))]
          exact ⟨u, hu, eu, rfl⟩
    obtain ⟨u, hu, eu, e⟩ := key 9 (by omega)
    have eM : ∀ v, stM (sI S 0 8 v) j a (z + 1 - a) 10 = ((stwR S (nI j) a z 9).1, nI B + nI u) := fun v => by
      rw [← e]
      exact lowR_eq 10 (fun i _ => alM_w (S := stU S j i) (T := stU (sI S 0 8 v) j i) rfl (z + 1 - a))
    have ea : aloF S 30 a z - shaF S 30 (nI j) (fldF S 30 3 (nI j)) a z = nI B := by
      have := al x0
      rw [eS] at this
      rw [alo_al hB hM, this, n_f3 hB hj, ex0, Int32.add_sub_cancel]
    refine pr_as h (c_X8_stow_ok E S (nI j) a z hB.1 (by omega) h2 q1 q2) (c_X9_stow_ok E _ j a z (z + 1 - a) hm hj2 g1 g2 hM (by omega)) ?_ ?_
    · rw [eM]
    · rw [eM, ea, eu]
  · exact pr_no h (c_X8_stow_bad E S k x y hB.1 q) (c_X9_stow_bad E S k x y hm (fun z => q ⟨(lt_idx h).trans z.1, in_str z.2.1 z.2.2⟩))
/-! road -/
theorem hs_nat10 {x k : Nat} (hk : k < 10) (hx : x < 1024) : hsF (nI x) (nI k) = x.testBit k := by
  have s : ((nI k &&& 31).toBitVec.smod 32).toNat = k := by
    have z : ∀ k : Fin 10, ((nI k.1 &&& 31).toBitVec.smod 32).toNat = k.1 := by decide +kernel
    exact z ⟨k, hk⟩
  have hd : x / 2 ^ k ≤ x := Nat.div_le_self _ _
  unfold hsF
  rw [pk_shrN (by omega) _ k s, pk_andN (by omega) 1 (by decide), Nat.testBit_eq_decide_div_mod_eq]
  have m2 : x / 2 ^ k % 2 ^ 1 < 2 := Nat.mod_lt _ (by omega)
  rw [show (1 : Int32) = nI 1 from rfl]
  simp only [nI_eq (show x / 2 ^ k % 2 ^ 1 < 2 ^ 31 by omega) (show 1 < 2 ^ 31 by omega)]
/-- what a way costs -/
def cN (b : Nat → Nat) (x : Nat) : Nat → Nat
  | 0 => 0
  | n + 1 => cN b x n + (if x.testBit n = true then b n / 2 else b n) + (if 0 < n ∧ ¬ x.testBit n = x.testBit (n - 1) then 3 else 0)
theorem cN_bd {b : Nat → Nat} {x : Nat} (hb : ∀ i, i < 10 → b i ≤ 160) : ∀ n, n ≤ 10 → cN b x n ≤ 163 * n
  | 0, _ => Nat.zero_le _
  | n + 1, hn => by
    have := cN_bd hb (x := x) n (by omega)
    have := hb n (by omega)
    have : b n / 2 ≤ b n := Nat.div_le_self _ _
    rw [cN]
    split <;> split <;> omega
theorem wy_c {B : Nat → Int32} {b : Nat → Nat} {x : Nat} (hB : ∀ i, i < 10 → B i = nI (b i)) (hb : ∀ i, i < 10 → b i ≤ 160) (hx : x < 1024) : ∀ n, n ≤ 10 → wyM B (nI x) n = nI (cN b x n)
  | 0, _ => rfl
  | n + 1, hn => by
    have b1 := hb n (by omega)
    rw [wyM, cN, wy_c hB hb hx n (by omega), hB n (by omega), hs_nat10 (by omega) hx]
    have e1 : (if x.testBit n = true then nI (b n) / 2 else nI (b n)) = nI (if x.testBit n = true then b n / 2 else b n) := by
      split
      · exact pk_div (a := b n) (d := 2) (by omega) (by omega) (by omega)
      · rfl
    have e2 : (if 0 < n ∧ ¬ x.testBit n = hsF (nI x) (nI n - 1) then (3 : Int32) else 0) = nI (if 0 < n ∧ ¬ x.testBit n = x.testBit (n - 1) then 3 else 0) := by
      by_cases q : 0 < n
      · rw [show nI n - 1 = nI (n - 1) from by rw [show (1 : Int32) = nI 1 from rfl, pk_sub (by omega)], hs_nat10 (by omega) hx]
        split <;> rfl
      · rw [if_neg (fun z => q z.1), if_neg (fun z => q z.1)]; rfl
    rw [e1, e2, nI_add, nI_add]
/-- the least, the first such -/
theorem low_min {X : Nat → Int32} {c : Nat → Nat} (hc : ∀ i, c i < 1000000) : ∀ N, (∀ i, i < N + 1 → X i = nI (c i)) → ∃ t, t < N + 1 ∧ lowR X nI (N + 1) = (nI t, nI (c t)) ∧ (∀ i, i < N + 1 → c t ≤ c i) ∧ ∀ i, i < t → c t < c i
  | 0, h => by
    refine ⟨0, by omega, ?_, fun i hi => by rw [show i = 0 by omega]; exact Nat.le_refl _, fun i hi => absurd hi (by omega)⟩
    have := hc 0
    rw [low_hd (by rw [h 0 (by omega)]; exact (nI_ltI (b := 1000000) (by omega) (by omega)).mpr (hc 0)), h 0 (by omega)]
  | N + 1, h => by
    obtain ⟨t, ht, e, a1, a2⟩ := low_min hc N (fun i hi => h i (by omega))
    have c1 := hc t
    have c2 := hc (N + 1)
    rw [lowR, e, h (N + 1) (by omega)]
    by_cases q : c (N + 1) < c t
    · rw [if_pos (show nI (c (N + 1)) < (nI t, nI (c t)).2 from nI_lt q (by omega))]
      refine ⟨N + 1, by omega, rfl, fun i hi => ?_, fun i hi => ?_⟩
      · rcases Nat.lt_or_ge i (N + 1) with g | g
        · have := a1 i g; omega
        · rw [show i = N + 1 by omega]; exact Nat.le_refl _
      · have := a1 i hi; omega
    · rw [if_neg (show ¬ nI (c (N + 1)) < (nI t, nI (c t)).2 from nI_nlt (by omega) (by omega))]
      refine ⟨t, by omega, rfl, fun i hi => ?_, a2⟩
      rcases Nat.lt_or_ge i (N + 1) with g | g
      · exact a1 i g
      · rw [show i = N + 1 by omega]; omega
/-- the ways so far: least of those that end on the bank, on the road -/
def wlN (b : Nat → Nat) : Nat → Nat × Nat
  | 0 => (0, 0)
  | n + 1 => (min (wlN b n).1 ((wlN b n).2 + 3072) + b n * 1024, min (wlN b n).2 ((wlN b n).1 + 3072) + b n / 2 * 1024 + 2 ^ n)
theorem wl_bd {b : Nat → Nat} (hb : ∀ i, i < 10 → b i ≤ 160) : ∀ n, n ≤ 10 → (wlN b n).1 ≤ 200000 * n ∧ (wlN b n).2 ≤ 200000 * n
  | 0, _ => ⟨Nat.le_refl _, Nat.le_refl _⟩
  | n + 1, hn => by
    obtain ⟨h1, h2⟩ := wl_bd hb n (by omega)
    have := hb n (by omega)
    have : b n / 2 ≤ b n := Nat.div_le_self _ _
    have p : 2 ^ n ≤ 512 := Nat.pow_le_pow_right (n := 2) (by omega) (show n ≤ 9 by omega)
    rw [wlN]
    constructor
    · show min _ _ + _ ≤ _
      omega
    · show min _ _ + _ + _ ≤ _
      omega
theorem min_if {x y : Nat} (hx : x < 2 ^ 31) (hy : y < 2 ^ 31) : (if nI y < nI x then nI y else nI x) = nI (min x y) := by
  by_cases q : y < x
  · rw [if_pos (nI_lt q hx), Nat.min_eq_right (by omega)]
  · rw [if_neg (nI_nlt (by omega) hy), Nat.min_eq_left (by omega)]
theorem way_n {S : St} {b : Nat → Nat} (hB : ∀ i, i < 10 → briF S 30 (nI i) (gI S 30 8) = nI (b i)) (hb : ∀ i, i < 10 → b i ≤ 160) : ∀ n, n ≤ 10 → wayL S 30 n = (nI (wlN b n).1, nI (wlN b n).2)
  | 0, _ => rfl
  | n + 1, hn => by
    obtain ⟨h1, h2⟩ := wl_bd hb n (by omega)
    have b1 := hb n (by omega)
    rw [wayL, way_n hB hb n (by omega), hB n (by omega), shl1 (by omega), wlN]
    generalize (wlN b n).1 = u at h1 h2 ⊢
    generalize (wlN b n).2 = w at h2 ⊢
    show ((if nI w + nI 3072 < nI u then nI w + nI 3072 else nI u) + nI (b n) * nI 1024, (if nI u + nI 3072 < nI w then nI u + nI 3072 else nI w) + nI (b n) / nI 2 * nI 1024 + nI (2 ^ n)) = _
    rw [nI_add, nI_add, min_if (by omega) (by omega), min_if (by omega) (by omega), pk_div (by omega) (by omega) (by omega), pk_mul, pk_mul, nI_add, nI_add, nI_add]
theorem cN_low {b : Nat → Nat} {x y : Nat} : ∀ n, (∀ i, i < n → x.testBit i = y.testBit i) → cN b x n = cN b y n
  | 0, _ => rfl
  | n + 1, h => by
    rw [cN, cN, cN_low n (fun i hi => h i (by omega)), h n (by omega)]
    by_cases q : 0 < n
    · rw [h (n - 1) (by omega)]
    · rw [if_neg (show ¬ (0 < n ∧ ¬ y.testBit n = x.testBit (n - 1)) from fun z => q z.1), if_neg (show ¬ (0 < n ∧ ¬ y.testBit n = y.testBit (n - 1)) from fun z => q z.1)]
def pkN (b : Nat → Nat) (n x : Nat) : Nat := 1024 * cN b x n + x
theorem pk_st0 {b : Nat → Nat} {n x : Nat} (hx : x < 2 ^ (n + 1)) (h0 : 0 < n) (hb : x.testBit n = false) : pkN b (n + 1) x = pkN b n x + b n * 1024 + (if x.testBit (n - 1) = true then 3072 else 0) ∧ x < 2 ^ n := by
  refine ⟨?_, ?_⟩
  · unfold pkN
    rw [cN, hb, if_neg (by decide)]
    cases q : x.testBit (n - 1)
    · rw [if_neg (fun z => z.2 rfl), if_neg (by decide)]
      omega
    · rw [if_pos ⟨h0, by decide⟩, if_pos rfl]
      omega
  · rcases Nat.lt_or_ge x (2 ^ n) with q | q
    · exact q
    · exfalso
      have : x.testBit n = true := by
        have e : x = 2 ^ n + (x - 2 ^ n) := by omega
        rw [e, Nat.testBit_two_pow_add_eq, Nat.testBit_lt_two_pow (by rw [Nat.pow_succ] at hx; omega)]
        rfl
      rw [hb] at this
      exact absurd this (by decide)
theorem pk_st1 {b : Nat → Nat} {n y : Nat} (hy : y < 2 ^ n) (h0 : 0 < n) : pkN b (n + 1) (2 ^ n + y) = pkN b n y + b n / 2 * 1024 + 2 ^ n + (if y.testBit (n - 1) = true then 0 else 3072) ∧ (2 ^ n + y).testBit n = true := by
  have t : (2 ^ n + y).testBit n = true := by rw [Nat.testBit_two_pow_add_eq, Nat.testBit_lt_two_pow hy]; rfl
  have lo : ∀ i, i < n → (2 ^ n + y).testBit i = y.testBit i := fun i hi => Nat.testBit_two_pow_add_gt hi y
  refine ⟨?_, t⟩
  unfold pkN
  rw [cN, t, if_pos rfl, cN_low n lo, lo (n - 1) (by omega)]
  cases q : y.testBit (n - 1)
  · rw [if_pos ⟨h0, by decide⟩, if_neg (by decide)]
    omega
  · rw [if_neg (fun z => z.2 rfl), if_pos rfl]
    omega
theorem wl_is {b : Nat → Nat} : ∀ n, 0 < n → (∀ x, x < 2 ^ n → (x.testBit (n - 1) = false → (wlN b n).1 ≤ pkN b n x) ∧ (x.testBit (n - 1) = true → (wlN b n).2 ≤ pkN b n x)) ∧ (∃ x, x < 2 ^ n ∧ x.testBit (n - 1) = false ∧ (wlN b n).1 = pkN b n x) ∧ ∃ x, x < 2 ^ n ∧ x.testBit (n - 1) = true ∧ (wlN b n).2 = pkN b n x
  | 0, h => absurd h (by omega)
  | 1, _ => by
    have e1 : (wlN b 1).1 = b 0 * 1024 := by show min 0 (0 + 3072) + b 0 * 1024 = b 0 * 1024; omega
    have e2 : (wlN b 1).2 = b 0 / 2 * 1024 + 1 := by show min 0 (0 + 3072) + b 0 / 2 * 1024 + 2 ^ 0 = b 0 / 2 * 1024 + 1; omega
    have p0 : pkN b 1 0 = b 0 * 1024 := by show 1024 * (0 + b 0 + 0) + 0 = b 0 * 1024; omega
    have p1 : pkN b 1 1 = b 0 / 2 * 1024 + 1 := by show 1024 * (0 + b 0 / 2 + 0) + 1 = b 0 / 2 * 1024 + 1; omega
    refine ⟨fun x hx => ?_, ⟨0, by omega, rfl, e1.trans p0.symm⟩, 1, by omega, rfl, e2.trans p1.symm⟩
    have hx2 : x = 0 ∨ x = 1 := by omega
    rcases hx2 with rfl | rfl
    · exact ⟨fun _ => by rw [e1, p0]; exact Nat.le_refl _, fun z => absurd z (by decide)⟩
    · exact ⟨fun z => absurd z (by decide), fun _ => by rw [e2, p1]; exact Nat.le_refl _⟩
  | n + 2, _ => by
    obtain ⟨a, ⟨x0, hx0, bx0, ex0⟩, x1, hx1, bx1, ex1⟩ := wl_is (b := b) (n + 1) (by omega)
    have e1 : (wlN b (n + 2)).1 = min (wlN b (n + 1)).1 ((wlN b (n + 1)).2 + 3072) + b (n + 1) * 1024 := rfl
    have e2 : (wlN b (n + 2)).2 = min (wlN b (n + 1)).2 ((wlN b (n + 1)).1 + 3072) + b (n + 1) / 2 * 1024 + 2 ^ (n + 1) := rfl
    rw [Nat.add_sub_cancel] at a bx0 bx1
    have pw : 2 ^ (n + 2) = 2 ^ (n + 1) + 2 ^ (n + 1) := by rw [Nat.pow_succ]; omega
    rw [e1, e2, show n + 2 - 1 = n + 1 by omega]
    refine ⟨fun x hx => ⟨fun hb => ?_, fun hb => ?_⟩, ?_, ?_⟩
    · obtain ⟨p1, p2⟩ := pk_st0 (b := b) hx (by omega) hb
      obtain ⟨a1, a2⟩ := a x p2
      rw [p1, Nat.add_sub_cancel]
      cases q : x.testBit n
      · have := a1 q
        rw [if_neg (by decide)]
        omega
      · have := a2 q
        rw [if_pos rfl]
        omega
    · have g : 2 ^ (n + 1) ≤ x := by
        rcases Nat.lt_or_ge x (2 ^ (n + 1)) with w | w
        · rw [Nat.testBit_lt_two_pow w] at hb; exact absurd hb (by decide)
        · exact w
      obtain ⟨y, rfl⟩ : ∃ y, x = 2 ^ (n + 1) + y := ⟨x - 2 ^ (n + 1), by omega⟩
      obtain ⟨p1, -⟩ := pk_st1 (b := b) (n := n + 1) (y := y) (by omega) (by omega)
      obtain ⟨a1, a2⟩ := a y (by omega)
      rw [p1, Nat.add_sub_cancel]
      cases q : y.testBit n
      · have := a1 q
        rw [if_neg (by decide)]
        omega
      · have := a2 q
        rw [if_pos rfl]
        omega
    · rcases Nat.le_total (wlN b (n + 1)).1 ((wlN b (n + 1)).2 + 3072) with w | w
      · have t : x0.testBit (n + 1) = false := Nat.testBit_lt_two_pow hx0
        obtain ⟨p1, -⟩ := pk_st0 (b := b) (n := n + 1) (x := x0) (by omega) (by omega) t
        refine ⟨x0, by omega, t, ?_⟩
        rw [p1, Nat.add_sub_cancel, bx0, if_neg (by decide), Nat.min_eq_left w, ex0]
        omega
      · have t : x1.testBit (n + 1) = false := Nat.testBit_lt_two_pow hx1
        obtain ⟨p1, -⟩ := pk_st0 (b := b) (n := n + 1) (x := x1) (by omega) (by omega) t
        refine ⟨x1, by omega, t, ?_⟩
        rw [p1, Nat.add_sub_cancel, bx1, if_pos rfl, Nat.min_eq_right w, ex1]
        omega
    · rcases Nat.le_total (wlN b (n + 1)).2 ((wlN b (n + 1)).1 + 3072) with w | w
      · obtain ⟨p1, p2⟩ := pk_st1 (b := b) hx1 (by omega)
        refine ⟨2 ^ (n + 1) + x1, by omega, p2, ?_⟩
        rw [p1, Nat.add_sub_cancel, bx1, if_pos rfl, Nat.min_eq_left w, ex1]
        omega
      · obtain ⟨p1, p2⟩ := pk_st1 (b := b) hx0 (by omega)
        refine ⟨2 ^ (n + 1) + x0, by omega, p2, ?_⟩
        rw [p1, Nat.add_sub_cancel, bx0, if_neg (by decide), Nat.min_eq_right w, ex0]
        omega
theorem brF_at {S : St} : ∀ n i, i < n → brF S n i = brM S (nI i)
  | 0, i, h => absurd h (by omega)
  | n + 1, i, h => by
    rw [brF]
    by_cases q : i = n
    · rw [q, pk_us]
    · rw [pk_un q]; exact brF_at n i (by omega)
theorem e1024 : (1024 : Int32) = nI 1024 := rfl
theorem p_road (E : En) {S : St} (h : Rel S) : PRi E i_X8_road i_X9_road S [] := by
  have hB := h.1.1.1
  have hm := bE_okM hB
  by_cases g : gI S 30 6 = 0
  · exact pr_no h (c_X8_road_st E S hB.1 (fun z => z g)) (c_X9_road_no E S ((no_0 h).trans g))
  · have hw := wr_of hB h.1.1.2.1
    obtain ⟨n, hn, en⟩ := lt_nt h
    have hb : ∀ i, ∃ v, v ≤ 160 ∧ (i < 10 → brM S (nI i) = nI v) := fun i => by
      by_cases q : i < 10
      · obtain ⟨v, hv, e⟩ := brM_bd hw (show n < 100 by omega) en q
        exact ⟨v, hv, fun _ => e⟩
      · exact ⟨0, by omega, fun z => absurd z q⟩
    obtain ⟨b, hb⟩ : ∃ b : Nat → Nat, ∀ i, b i ≤ 160 ∧ (i < 10 → brM S (nI i) = nI (b i)) := ⟨fun i => (hb i).choose, fun i => (hb i).choose_spec⟩
    have w1 := way_n (S := S) (b := b) (fun i hi => (bri_brM hB).trans ((hb i).2 hi)) (fun i _ => (hb i).1) 10 (by omega)
    obtain ⟨d1, ⟨x0, hx0, bx0, ex0⟩, x1, hx1, bx1, ex1⟩ := wl_is (b := b) 10 (by omega)
    obtain ⟨v1, v2⟩ := wl_bd (b := b) (fun i _ => (hb i).1) 10 (by omega)
    have ew : wayF S = nI (min (wlN b 10).1 (wlN b 10).2) := by
      unfold wayF minF
      rw [w1]
      exact min_if (by omega) (by omega)
    obtain ⟨x, hx, exm⟩ : ∃ x, x < 1024 ∧ min (wlN b 10).1 (wlN b 10).2 = pkN b 10 x := by
      rcases Nat.le_total (wlN b 10).1 (wlN b 10).2 with q | q
      · exact ⟨x0, hx0, by rw [Nat.min_eq_left q]; exact ex0⟩
      · exact ⟨x1, hx1, by rw [Nat.min_eq_right q]; exact ex1⟩
    have low : ∀ y, y < 1024 → pkN b 10 x ≤ pkN b 10 y := fun y hy => by
      rw [← exm]
      obtain ⟨a1, a2⟩ := d1 y hy
      cases q : y.testBit 9
      · have := a1 q; omega
      · have := a2 q; omega
    obtain ⟨t, ht, et, t1, t2⟩ := low_min (X := fun n => wyM (brF S 10) (nI n) 10) (c := fun i => cN b i 10) (fun i => by have := cN_bd (b := b) (x := i) (fun i _ => (hb i).1) 10 (by omega); show cN b i 10 < 1000000; omega) 1023 (fun i hi => wy_c (fun j hj => (brF_at 10 j hj).trans ((hb j).2 hj)) (fun j _ => (hb j).1) (by omega) 10 (by omega))
    have ext : x = t := by
      have a1 := low t ht
      have a2 := t1 x hx
      unfold pkN at a1
      rcases Nat.lt_trichotomy x t with q | q | q
      · have := t2 x q
        omega
      · exact q
      · omega
    have eM : rdM (brF S 10) 1024 = (nI t, nI (cN b t 10)) := et
    have cb := cN_bd (b := b) (x := t) (fun i _ => (hb i).1) 10 (by omega)
    have ep : min (wlN b 10).1 (wlN b 10).2 = 1024 * cN b t 10 + t := by rw [exm, ext]; rfl
    have eB : ∀ v, brF (sI S 0 8 v) 10 = fun i => brF S 10 i := fun v => by
      have z : ∀ n, brF (sI S 0 8 v) n = brF S n := by
        intro n
        induction n with
        | zero => rfl
        | succ n ih => rw [brF, brF, ih, brM_w (S := S) (T := sI S 0 8 v) rfl]
      exact z 10
    refine pr_mk (c_X8_road_ok E S hB.1 g) (c_X9_road_ok E _ hm (by show ¬ gA S 59 0 = 0; rw [no_0 h]; exact g)) ?_ ?_
    · rw [eB, eM, ew, ep, e1024, pk_div (by omega) (by omega) (by omega), show (1024 * cN b t 10 + t) / 1024 = cN b t 10 by omega]
    · rw [eB, eM, ew, ep]
      have er : nI (1024 * cN b t 10 + t) - nI (1024 * cN b t 10 + t) / 1024 * 1024 = nI t := by
        rw [e1024, pk_rem (by omega) (by omega) (by omega), show (1024 * cN b t 10 + t) % 1024 = t by omega]
      rw [er]
      refine RL_as h (sameW_sI (sameW_sA (sameW_sI (sameW_rf S) (by omega)) (by omega)) (by omega)) ⟨rfl, rfl, rfl, rfl, rfl, rfl, rfl, rfl⟩ rfl
