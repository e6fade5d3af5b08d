/-! HOW BRIGHT a thing can be -/
theorem glow_bd {k f n : Nat} (hk : k < 6) (hf : f < 10) (hn : n < 100) : ∃ g, g < 21 ∧ glowF (nI k) (nI f) (nI n) = nI g := by
  have z : ∀ k : Fin 6, ∀ f : Fin 10, ∀ n : Fin 100, ¬ glowF (nI k.1) (nI f.1) (nI n.1) < 0 ∧ ¬ nI 21 ≤ glowF (nI k.1) (nI f.1) (nI n.1) := by decide +kernel
  obtain ⟨a, b⟩ := z ⟨k, hk⟩ ⟨f, hf⟩ ⟨n, hn⟩
  exact ix_of rfl (by omega) a b
theorem fade_bd {g a p : Nat} (hg : g < 21) (ha : a < 10) (hp : p < 10) : ∃ v, v < 21 ∧ (if 0 ≤ nI g - 2 * szM (nI a - nI p) then nI g - 2 * szM (nI a - nI p) else 0) = nI v := by
  have z : ∀ g : Fin 21, ∀ a : Fin 10, ∀ p : Fin 10, ¬ (if 0 ≤ nI g.1 - 2 * szM (nI a.1 - nI p.1) then nI g.1 - 2 * szM (nI a.1 - nI p.1) else 0) < 0 ∧ ¬ nI 21 ≤ (if 0 ≤ nI g.1 - 2 * szM (nI a.1 - nI p.1) then nI g.1 - 2 * szM (nI a.1 - nI p.1) else 0) := by decide +kernel
  obtain ⟨x, y⟩ := z ⟨g, hg⟩ ⟨a, ha⟩ ⟨p, hp⟩
  exact ix_of rfl (by omega) x y
/-- the reference's bank at 0 within the document's ranges -/
def wrO (S : St) : Prop := okM S ∧ ∀ k, k < nM S → (∃ m, m < 6 ∧ gA S 59 (11 + k) = nI m) ∧ (∃ m, m < 6 ∧ gA S 59 (19 + k) = nI m) ∧ (∃ m, m < 6 ∧ gA S 59 (27 + k) = nI m) ∧ (∃ m, m < 10 ∧ gA S 59 (3 + k) = nI m) ∧ ∃ m, m < 10 ∧ gA S 59 (35 + k) = nI m
theorem wr_of {S : St} (h : bkE S 30 0) (o : bkO S 30) : wrO S := by
  refine ⟨bE_okM h, fun k hk => ?_⟩
  rw [bE_nM h] at hk
  obtain ⟨a, b, c, d, e⟩ := o.2.2.2.2 k hk
  obtain ⟨a', b', c', d', e'⟩ := h.2.2.2.2.2.2 k hk
  rw [Nat.zero_add] at a' b' c' d' e'
  exact ⟨a'.symm ▸ a, b'.symm ▸ b, c'.symm ▸ c, d'.symm ▸ d, e'.symm ▸ e⟩
theorem glQ_bd {S : St} (h : wrO S) {k n : Nat} (hk : k < nM S) (hn : n < 100) : ∃ g, g < 21 ∧ glQ S k (nI n) = nI g := by
  obtain ⟨⟨a, ha, ea⟩, _, _, _, ⟨e, he, ee⟩⟩ := h.2 k hk
  unfold glQ
  rw [ea, ee]
  exact glow_bd ha he hn
theorem gv_bd {S : St} (h : wrO S) {k a p n : Nat} (hk : k < nM S) (ha : a < 10) (hp : p < 10) (hn : n < 100) : ∃ v, v < 21 ∧ gvM S k (nI a) (nI p) (nI n) = nI v := by
  obtain ⟨g, hg, eg⟩ := glQ_bd h hk hn
  unfold gvM
  rw [eg]
  exact fade_bd hg ha hp
theorem br_bd {S : St} (h : wrO S) {p n : Nat} {set : Int32} (hp : p < 10) (hn : n < 100) : ∀ m, m ≤ nM S → ∃ v, v ≤ 20 * m ∧ brR S (nI p) set (nI n) m = nI v
  | 0, _ => ⟨0, Nat.le_refl _, rfl⟩
  | m + 1, hm => by
    obtain ⟨v, hv, ev⟩ := br_bd h hp hn (set := set) m (by omega)
    obtain ⟨_, _, _, ⟨a, ha, ea⟩, _⟩ := h.2 m (by omega)
    obtain ⟨u, hu, eu⟩ := gv_bd h (k := m) (by omega) ha hp hn
    rw [brR, ev, ea, eu]
    by_cases q : hsF set (nI m) = true
    · rw [if_pos q]
      exact ⟨v + u, by omega, nI_add v u⟩
    · rw [if_neg q]
      exact ⟨v, by omega, Int32.add_zero _⟩
theorem brM_bd {S : St} (h : wrO S) {n : Nat} (hn : n < 100) (e : gA S 59 1 = nI n) {p : Nat} (hp : p < 10) : ∃ v, v ≤ 160 ∧ brM S (nI p) = nI v := by
  obtain ⟨v, hv, ev⟩ := br_bd h hp hn (set := gA S 59 2) (nM S) (Nat.le_refl _)
  have := h.1.2
  unfold brM
  rw [e, ev]
  exact ⟨v, by omega, rfl⟩
theorem al_bd {S : St} (h : wrO S) {n : Nat} (hn : n < 100) (e : gA S 59 1 = nI n) {p : Nat} : ∀ m, p + m ≤ 10 → ∃ v, v ≤ 160 * m ∧ alM S p m = nI v
  | 0, _ => ⟨0, Nat.le_refl _, rfl⟩
  | m + 1, hm => by
    obtain ⟨v, hv, ev⟩ := al_bd h hn e (p := p) m (by omega)
    obtain ⟨u, hu, eu⟩ := brM_bd h hn e (p := p + m) (by omega)
    rw [alM, ev, eu]
    exact ⟨v + u, by omega, nI_add v u⟩
theorem low_hd {x : Nat → Int32} {w : Nat → Int32} (h : x 0 < 1000000) : lowR x w 1 = (w 0, x 0) := by
  show (if x 0 < 1000000 then (w 0, x 0) else (0, 1000000)) = _
  rw [if_pos h]
/-- dark: the darkest run, the same answer -/
theorem dark_is {S : St} (h : bkE S 30 0) (o : bkO S 30) {w : Nat} (h1 : 1 ≤ w) (h2 : w ≤ 10) : drkR S w (10 - w) = dkM S w (10 - w + 1) := by
  obtain ⟨n, hn, en⟩ := o.2.2.1
  have hw := wr_of h o
  have e1 : gA S 59 1 = nI n := (n_night h).trans en
  obtain ⟨v, hv, ev⟩ := al_bd hw (n := n) (by omega) e1 (p := 0) w (by omega)
  have z : ∀ j, drkR S w j = lowR (fun n => alM S n w) nI (j + 1) := by
    intro j
    induction j with
    | zero =>
      rw [low_hd (by show alM S 0 w < 1000000; rw [ev]; exact (nI_ltI (b := 1000000) (by omega) (by omega)).mpr (by omega))]
      rw [drkR, alo_al h (a := 0) (z := w - 1) (m := w) (by omega)]
      rfl
    | succ j ih =>
      rw [drkR, ih, alo_al h (a := j + 1) (z := j + w) (m := w) (by omega)]
      rfl
  exact z _
