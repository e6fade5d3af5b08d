/-! CHAIN: alike -/
theorem php : ∀ m n (p : Nat → Nat), (∀ i, i < n → p i < m) → (∀ i j, i < n → j < n → p i = p j → i = j) → n ≤ m
  | 0, n, p, h, _ => by
    rcases Nat.eq_zero_or_pos n with q | q
    · omega
    · exact absurd (h 0 q) (by omega)
  | m + 1, 0, _, _, _ => by omega
  | m + 1, n + 1, p, h, inj => by
    have z : n ≤ m := by
      refine php m n (fun i => if p i = m then p n else p i) (fun i hi => ?_) (fun i j hi hj e => ?_)
      · show (if p i = m then p n else p i) < m
        have a := h i (by omega)
        have b := h n (by omega)
        by_cases q : p i = m
        · rw [if_pos q]
          have : ¬ p n = m := fun w => by
            have := inj i n (by omega) (by omega) (q.trans w.symm)
            omega
          omega
        · rw [if_neg q]; omega
      · have e' : (if p i = m then p n else p i) = (if p j = m then p n else p j) := e
        by_cases q : p i = m
        · by_cases r : p j = m
          · exact inj i j (by omega) (by omega) (q.trans r.symm)
          · rw [if_pos q, if_neg r] at e'
            have := inj n j (by omega) (by omega) e'
            omega
        · by_cases r : p j = m
          · rw [if_neg q, if_pos r] at e'
            have := inj i n (by omega) (by omega) e'
            omega
          · rw [if_neg q, if_neg r] at e'
            exact inj i j (by omega) (by omega) e'
    omega
/-- light k is a debt from x -/
def edg (S : St) (k x : Nat) : Prop := k < nM S ∧ hsF (dbM S) (nI k) = true ∧ oN S k = x
/-- x owes somebody .. who owes b, by d lights -/
def wlk (S : St) (b : Nat) : Nat → Nat → Prop
  | 0, x => x = b
  | d + 1, x => ∃ k, edg S k x ∧ wlk S b d (tN S k)
/-- by d lights and by no fewer -/
def dst (S : St) (b d x : Nat) : Prop := wlk S b d x ∧ ∀ e, e < d → ¬ wlk S b e x
theorem dst_un {S : St} {b d e x : Nat} (h : dst S b d x) (g : dst S b e x) : d = e := by
  rcases Nat.lt_trichotomy d e with q | q | q
  · exact absurd h.1 (g.2 d q)
  · exact q
  · exact absurd g.1 (h.2 e q)
theorem dst_ex {S : St} {b x : Nat} : ∀ d, wlk S b d x → ∃ e, e ≤ d ∧ dst S b e x
  | 0, h => ⟨0, Nat.le_refl _, h, fun e he => absurd he (by omega)⟩
  | d + 1, h => by
    rcases Classical.em (∃ e, e ≤ d ∧ wlk S b e x) with ⟨e, he, w⟩ | q
    · rcases first_or (fun e => wlk S b e x) d with ⟨n, hn, a, c⟩ | z
      · exact ⟨n, by omega, a, c⟩
      · exact absurd w (z e he)
    · exact ⟨d + 1, Nat.le_refl _, h, fun e he w => q ⟨e, by omega, w⟩⟩
theorem dst_st {S : St} {b d x : Nat} (h : dst S b (d + 1) x) : ∃ k, edg S k x ∧ dst S b d (tN S k) := by
  obtain ⟨⟨k, hk, w⟩, m⟩ := h
  exact ⟨k, hk, w, fun e he z => m (e + 1) (by omega) ⟨k, hk, z⟩⟩
theorem oP_lt {S : St} (hP : okP S) {k : Nat} (hk : k < nM S) : oN S k < 6 ∧ tN S k < 6 := ⟨(hP k hk).1.2, (hP k hk).2.2⟩
theorem dst_5 {S : St} (hP : okP S) {b d x : Nat} (h : dst S b d x) (hx : x < 6) : d ≤ 5 := by
  have z : ∀ d x, x < 6 → dst S b d x → ∃ p : Nat → Nat, ∀ i, i ≤ d → p i < 6 ∧ dst S b i (p i) := by
    intro d
    induction d with
    | zero => intro x hx h; exact ⟨fun _ => x, fun i hi => ⟨hx, by rw [show i = 0 by omega]; exact h⟩⟩
    | succ d ih =>
      intro x hx h
      obtain ⟨k, hk, w⟩ := dst_st h
      obtain ⟨p, hp⟩ := ih (tN S k) (oP_lt hP hk.1).2 w
      refine ⟨fun i => if i = d + 1 then x else p i, fun i hi => ?_⟩
      by_cases q : i = d + 1
      · show (if i = d + 1 then x else p i) < 6 ∧ dst S b i (if i = d + 1 then x else p i)
        rw [if_pos q, q]; exact ⟨hx, h⟩
      · show (if i = d + 1 then x else p i) < 6 ∧ dst S b i (if i = d + 1 then x else p i)
        rw [if_neg q]; exact hp i (by omega)
  obtain ⟨p, hp⟩ := z d x hx h
  have := php 6 (d + 1) p (fun i hi => (hp i (by omega)).1) (fun i j hi hj e => by
    have a := (hp i (by omega)).2
    have c := (hp j (by omega)).2
    rw [e] at a
    exact dst_un a c)
  omega
/-! the class's rounds -/
def stC (S : St) (b r : Nat) (f : Nat → Int32) : Prop := ∀ x, x < 6 → (f x = -9 ∧ ∀ e, e ≤ r → ¬ wlk S b e x) ∨ ∃ d, d ≤ r ∧ f x = nI d ∧ dst S b d x
theorem nm9 {d : Nat} (h : d ≤ 1000) : ¬ (-9 : Int32) = nI d := fun z => nI_nm h z.symm
section CN
variable {S : St}
theorem own_e (h : Rel S) {k : Nat} (hk : k < nM S) : owF S 30 (nI k) = hsF (dbM S) (nI k) := (db_hs h.1.1.1 (by have := (bE_okM h.1.1.1).2; omega)).symm
theorem fo_e (h : Rel S) {k : Nat} (hk : k < nM S) : fldF S 30 1 (nI k) = nI (oN S k) := by
  rw [n_f1 h.1.1.1 (by rw [← bE_nM h.1.1.1]; exact hk)]; exact ((RL_okP h) k hk).1.1
theorem ft_e (h : Rel S) {k : Nat} (hk : k < nM S) : fldF S 30 2 (nI k) = nI (tN S k) := by
  rw [n_f2 h.1.1.1 (by rw [← bE_nM h.1.1.1]; exact hk)]; exact ((RL_okP h) k hk).2.1
theorem stp_n {f : Nat → Int32} {x : Nat} (hx : x < 6) : stpA f (nI x) = f x := by
  unfold stpA
  rw [if_pos (show persF (nI x) = true from idx_in (m := 6) hx (by omega)), nI_clamp (by omega)]
theorem st_in (h : Rel S) {b r : Nat} (hr : r < 5) {f : Nat → Int32} (hf : stC S b r f) : ∀ n, n ≤ nM S → ∀ x, x < 6 → (stpI S 30 (nI (r + 1)) f n x = f x ∧ (f x = -9 → ∀ k, k < n → edg S k x → ¬ dst S b r (tN S k))) ∨ (f x = -9 ∧ stpI S 30 (nI (r + 1)) f n x = nI (r + 1) ∧ wlk S b (r + 1) x)
  | 0, _, x, hx => Or.inl ⟨rfl, fun _ k hk => absurd hk (by omega)⟩
  | n + 1, hn, x, hx => by
    have ih := st_in h hr hf n (by omega)
    have hP := RL_okP h
    obtain ⟨o6, t6⟩ := oP_lt hP (show n < nM S by omega)
    rw [stpI, own_e h (by omega), fo_e h (by omega), ft_e h (by omega), nI_clamp (by omega), stp_n t6, show persF (nI (oN S n)) = true from idx_in (m := 6) o6 (by omega), Bool.and_true, show nI (r + 1) - 1 = nI r from nI_pred r]
    by_cases c : (hsF (dbM S) (nI n) && (decide (stpI S 30 (nI (r + 1)) f n (oN S n) = -9) && decide (stpI S 30 (nI (r + 1)) f n (tN S n) = nI r))) = true
    · rw [if_pos c]
      simp only [Bool.and_eq_true, decide_eq_true_eq] at c
      obtain ⟨c1, c2, c3⟩ := c
      have dt : dst S b r (tN S n) := by
        rcases ih (tN S n) t6 with ⟨a, -⟩ | ⟨-, a, -⟩
        · rw [a] at c3
          rcases hf (tN S n) t6 with ⟨q, -⟩ | ⟨d, hd, q, w⟩
          · rw [q] at c3; exact absurd c3 (nm9 (by omega))
          · rw [q] at c3
            have := (nI_eq (by omega) (by omega)).mp c3
            rw [← this]; exact w
        · rw [a] at c3
          have := (nI_eq (by omega) (by omega)).mp c3
          omega
      by_cases q : x = oN S n
      · subst q
        rw [pk_us]
        right
        have fx : f (oN S n) = -9 := by
          rcases ih (oN S n) o6 with ⟨a, -⟩ | ⟨a, -, -⟩
          · rw [← a]; exact c2
          · exact a
        exact ⟨fx, rfl, n, ⟨by omega, c1, rfl⟩, dt.1⟩
      · rw [pk_un q]
        rcases ih x hx with ⟨a, w⟩ | w
        · refine Or.inl ⟨a, fun z k hk he => ?_⟩
          rcases Nat.lt_or_ge k n with g | g
          · exact w z k g he
          · have e : k = n := by omega
            subst e
            exact absurd he.2.2.symm q
        · exact Or.inr w
    · rw [if_neg c]
      rcases ih x hx with ⟨a, w⟩ | w
      · refine Or.inl ⟨a, fun z k hk he => ?_⟩
        rcases Nat.lt_or_ge k n with g | g
        · exact w z k g he
        · have e : k = n := by omega
          subst e
          intro dd
          apply c
          simp only [Bool.and_eq_true, decide_eq_true_eq]
          refine ⟨he.2.1, ?_, ?_⟩
          · rw [he.2.2, a, z]
          · rcases ih (tN S k) t6 with ⟨a', -⟩ | ⟨a', -, -⟩
            · rw [a']
              rcases hf (tN S k) t6 with ⟨q, m⟩ | ⟨d, hd, q, w'⟩
              · exact absurd dd.1 (m r (Nat.le_refl _))
              · rw [q, dst_un w' dd]
            · rcases hf (tN S k) t6 with ⟨q, m⟩ | ⟨d, hd, q, w'⟩
              · exact absurd dd.1 (m r (Nat.le_refl _))
              · rw [a'] at q; exact absurd q (nm9 (by omega))
      · exact Or.inr w
theorem st_rd (h : Rel S) {b : Nat} {f : Nat → Int32} (hf : stC S b 0 f) : ∀ r, r ≤ 5 → stC S b r (stpO S 30 f r)
  | 0, _ => hf
  | r + 1, hr => by
    have ih := st_rd h hf r (by omega)
    intro x hx
    rw [stpO]
    have z := st_in h (show r < 5 by omega) ih (nM S) (Nat.le_refl _) x hx
    rw [bE_nM h.1.1.1] at z
    rcases z with ⟨a, w⟩ | ⟨a, c, w⟩
    · rw [a]
      rcases ih x hx with ⟨q, m⟩ | ⟨d, hd, q, w'⟩
      · refine Or.inl ⟨q, fun e he hw => ?_⟩
        rcases Nat.lt_or_ge e (r + 1) with g | g
        · exact m e (by omega) hw
        · have e1 : e = r + 1 := by omega
          subst e1
          obtain ⟨k, hk, hw'⟩ := hw
          obtain ⟨e', he', hd'⟩ := dst_ex r hw'
          rcases Nat.lt_or_ge e' r with g2 | g2
          · exact m (e' + 1) (by omega) ⟨k, hk, hd'.1⟩
          · have e2 : e' = r := by omega
            subst e2
            exact w q k (by rw [← bE_nM h.1.1.1]; exact hk.1) hk hd'
      · exact Or.inr ⟨d, by omega, q, w'⟩
    · right
      rcases ih x hx with ⟨q, m⟩ | ⟨d, hd, q, w'⟩
      · exact ⟨r + 1, Nat.le_refl _, c, w, fun e he => m e (by omega)⟩
      · rw [a] at q; exact absurd q (nm9 (by omega))
theorem st_0 {b : Nat} (hb : b < 6) (g : Nat → Int32) : stC S b 0 (stp0 g (nI b) 6) := by
  intro x hx
  unfold stp0
  rw [if_pos hx]
  by_cases q : x = b
  · subst q
    rw [if_pos rfl]
    exact Or.inr ⟨0, Nat.le_refl _, rfl, rfl, fun e he => absurd he (by omega)⟩
  · rw [if_neg (fun z => q ((nI_eq (by omega) (by omega)).mp z))]
    refine Or.inl ⟨rfl, fun e he w => ?_⟩
    rw [show e = 0 by omega] at w
    exact q w
/-- what the class's steps say at last -/
theorem st_5 (h : Rel S) {b x : Nat} (hb : b < 6) (hx : x < 6) (g : Nat → Int32) : (stpO S 30 (stp0 g (nI b) 6) 5 x = -9 ∧ ∀ e, ¬ wlk S b e x) ∨ ∃ d, d ≤ 5 ∧ stpO S 30 (stp0 g (nI b) 6) 5 x = nI d ∧ dst S b d x := by
  rcases st_rd h (st_0 hb g) 5 (by omega) x hx with ⟨q, m⟩ | w
  · refine Or.inl ⟨q, fun e hw => ?_⟩
    obtain ⟨e', -, hd⟩ := dst_ex e hw
    exact m e' (dst_5 (RL_okP h) hd hx) hd.1
  · exact Or.inr w
/-! the reference's turns -/
def awC (S : St) (b B i : Nat) (A : Nat → Int32) : Prop := ∀ x, x < 6 → (A x = 1000000 ∨ ∃ d, d ≤ B ∧ A x = nI d ∧ wlk S b d x) ∧ ∀ e, e ≤ i → wlk S b e x → ∃ d, d ≤ e ∧ A x = nI d
theorem far_n : (1000000 : Int32) = nI 1000000 := rfl
theorem aw_in (hP : okP S) {b B i : Nat} (hB : B < 1000) (hi : i < 1000) {A : Nat → Int32} (hA : awC S b B i A) : ∀ n, n ≤ nM S → n ≤ 8 → awC S b (B + n) i (awI S A n) ∧ ∀ k, k < n → ∀ x, edg S k x → ∀ e, e ≤ i → wlk S b e (tN S k) → ∃ d, d ≤ e + 1 ∧ awI S A n x = nI d
  | 0, _, _ => ⟨hA, fun k hk => absurd hk (by omega)⟩
  | n + 1, hn, h8 => by
    obtain ⟨ih, ih2⟩ := aw_in hP hB hi hA n (by omega) (by omega)
    obtain ⟨o6, t6⟩ := oP_lt hP (show n < nM S by omega)
    rw [awI]
    by_cases c : (hsF (dbM S) (nI n) && decide (awI S A n (tN S n) + 1 < awI S A n (oN S n))) = true
    · rw [if_pos c]
      simp only [Bool.and_eq_true, decide_eq_true_eq] at c
      obtain ⟨c1, c2⟩ := c
      have en : edg S n (oN S n) := ⟨by omega, c1, rfl⟩
      obtain ⟨dt, hdt, edt, wdt⟩ : ∃ d, d ≤ B + n ∧ awI S A n (tN S n) = nI d ∧ wlk S b d (tN S n) := by
        rcases (ih (tN S n) t6).1 with q | q
        · exfalso
          rw [q, far_n, nI_1] at c2
          rcases (ih (oN S n) o6).1 with w | ⟨d, hd, w, -⟩
          · rw [w, far_n] at c2
            exact nI_nlt (a := 1000001) (b := 1000000) (by omega) (by omega) c2
          · rw [w] at c2
            exact nI_nlt (a := 1000001) (b := d) (by omega) (by omega) c2
        · exact q
      rw [edt, nI_1] at c2 ⊢
      refine ⟨fun x hx => ?_, fun k hk x he e hei hw => ?_⟩
      · by_cases q : x = oN S n
        · subst q
          rw [pk_us]
          refine ⟨Or.inr ⟨dt + 1, by omega, rfl, n, en, wdt⟩, fun e he hw => ?_⟩
          obtain ⟨d, hd, ed⟩ := (ih (oN S n) o6).2 e he hw
          rw [ed] at c2
          refine ⟨dt + 1, ?_, rfl⟩
          rcases Nat.lt_or_ge (dt + 1) d with w | w
          · omega
          · rcases Nat.lt_or_ge d (2 ^ 31) with y | y
            · exact absurd c2 (nI_nlt w (by omega))
            · rcases (ih (oN S n) o6).1 with u | ⟨d', hd', u, -⟩
              · rw [ed] at u
                exfalso
                rw [u] at c2
                omega
              · exfalso
                omega
        · rw [pk_un q]
          obtain ⟨a1, a2⟩ := ih x hx
          refine ⟨?_, a2⟩
          rcases a1 with w | ⟨d, hd, w⟩
          · exact Or.inl w
          · exact Or.inr ⟨d, by omega, w⟩
      · by_cases q : x = oN S n
        · subst q
          rw [pk_us]
          rcases Nat.lt_or_ge k n with g | g
          · obtain ⟨d, hd, ed⟩ := ih2 k g _ he e hei hw
            rw [ed] at c2
            refine ⟨dt + 1, ?_, rfl⟩
            rcases Nat.lt_or_ge (dt + 1) d with w | w
            · omega
            · rcases Nat.lt_or_ge d (2 ^ 31) with y | y
              · exact absurd c2 (nI_nlt w (by omega))
              · omega
          · have e1 : k = n := by omega
            subst e1
            obtain ⟨d, hd, ed⟩ := (ih (tN S k) t6).2 e hei hw
            refine ⟨dt + 1, ?_, rfl⟩
            rw [edt] at ed
            rcases Nat.lt_or_ge d (2 ^ 31) with y | y
            · have := (nI_eq (by omega) y).mp ed
              omega
            · omega
        · rw [pk_un q]
          rcases Nat.lt_or_ge k n with g | g
          · exact ih2 k g x he e hei hw
          · have e1 : k = n := by omega
            subst e1
            exact absurd he.2.2.symm q
    · rw [if_neg c]
      refine ⟨fun x hx => ?_, fun k hk x he e hei hw => ?_⟩
      · obtain ⟨a1, a2⟩ := ih x hx
        refine ⟨?_, a2⟩
        rcases a1 with w | ⟨d, hd, w⟩
        · exact Or.inl w
        · exact Or.inr ⟨d, by omega, w⟩
      · rcases Nat.lt_or_ge k n with g | g
        · exact ih2 k g x he e hei hw
        · have e1 : k = n := by omega
          subst e1
          obtain ⟨d, hd, ed⟩ := (ih (tN S k) t6).2 e hei hw
          have c' : ¬ (awI S A k (tN S k) + 1 < awI S A k (oN S k)) := fun z => c (by rw [he.2.1, decide_eq_true z]; rfl)
          have ex : oN S k = x := he.2.2
          have x6 : x < 6 := by omega
          rw [ex] at c'
          have dsm : ∃ d', d' ≤ B + k ∧ d' ≤ e ∧ awI S A k (tN S k) = nI d' := by
            rcases (ih (tN S k) t6).1 with u | ⟨d', hd', u, -⟩
            · exfalso
              rw [ed, far_n] at u
              rcases Nat.lt_or_ge d (2 ^ 31) with y | y
              · have := (nI_eq y (by omega)).mp u
                omega
              · omega
            · refine ⟨d', hd', ?_, u⟩
              rw [ed] at u
              rcases Nat.lt_or_ge d (2 ^ 31) with y | y
              · have := (nI_eq y (by omega)).mp u
                omega
              · omega
          obtain ⟨d', hd', he', ed'⟩ := dsm
          rw [ed', nI_1] at c'
          rcases (ih x x6).1 with u | ⟨d2, hd2, u, -⟩
          · rw [u, far_n] at c'
            exact absurd (nI_lt (a := d' + 1) (b := 1000000) (by omega) (by omega)) c'
          · rw [u] at c'
            refine ⟨d2, ?_, u⟩
            rcases Nat.lt_or_ge (d' + 1) d2 with w | w
            · exact absurd (nI_lt w (by omega)) c'
            · omega
theorem aw0_at {A : Nat → Int32} {b : Nat} : ∀ n x, x < n → aw0 A b n x = if nI x = nI b then 0 else 1000000
  | 0, _, h => absurd h (by omega)
  | n + 1, x, h => by
    rw [aw0]
    by_cases q : x = n
    · rw [q, pk_us]
    · rw [pk_un q]; exact aw0_at n x (by omega)
theorem aw_tn (hP : okP S) (h8 : nM S ≤ 8) {b : Nat} (hb : b < 6) : ∀ i, i ≤ 6 → awC S b (8 * i) i (awO S b i)
  | 0, _ => by
    intro x hx
    rw [awO, aw0_at 6 x hx]
    by_cases q : x = b
    · subst q
      rw [if_pos rfl]
      exact ⟨Or.inr ⟨0, by omega, rfl, rfl⟩, fun e _ _ => ⟨0, by omega, rfl⟩⟩
    · rw [if_neg (fun z => q ((nI_eq (by omega) (by omega)).mp z))]
      refine ⟨Or.inl rfl, fun e he w => ?_⟩
      rw [show e = 0 by omega] at w
      exact absurd w q
  | i + 1, hi => by
    obtain ⟨a, c⟩ := aw_in hP (by omega) (by omega) (aw_tn hP h8 hb i (by omega)) (nM S) (Nat.le_refl _) h8
    intro x hx
    rw [awO]
    obtain ⟨a1, a2⟩ := a x hx
    refine ⟨?_, fun e he w => ?_⟩
    · rcases a1 with u | ⟨d, hd, u⟩
      · exact Or.inl u
      · exact Or.inr ⟨d, by omega, u⟩
    · rcases Nat.lt_or_ge e (i + 1) with g | g
      · exact a2 e (by omega) w
      · have e1 : e = i + 1 := by omega
        subst e1
        obtain ⟨k, hk, w'⟩ := w
        exact c k hk.1 x hk i (Nat.le_refl _) w'
/-- what the reference's row says at last -/
theorem aw_6 (hP : okP S) (h8 : nM S ≤ 8) {b x : Nat} (hb : b < 6) (hx : x < 6) : (awO S b 6 x = 1000000 ∧ ∀ e, ¬ wlk S b e x) ∨ ∃ d, d ≤ 5 ∧ awO S b 6 x = nI d ∧ dst S b d x := by
  obtain ⟨a1, a2⟩ := aw_tn hP h8 hb 6 (Nat.le_refl _) x hx
  rcases a1 with u | ⟨d, hd, u, w⟩
  · refine Or.inl ⟨u, fun e he => ?_⟩
    obtain ⟨e', _, hd'⟩ := dst_ex e he
    have e5 := dst_5 hP hd' hx
    obtain ⟨d, hd, ed⟩ := a2 e' (by omega) hd'.1
    rw [u, far_n] at ed
    have := (nI_eq (by omega) (by omega)).mp ed
    omega
  · obtain ⟨e', he', hd'⟩ := dst_ex d w
    have e5 := dst_5 hP hd' hx
    obtain ⟨d', hd2, ed⟩ := a2 e' (by omega) hd'.1
    rw [u] at ed
    have := (nI_eq (by omega) (by omega)).mp ed
    have e6 : d = e' := by omega
    exact Or.inr ⟨d, by omega, u, e6 ▸ hd'⟩
end CN
