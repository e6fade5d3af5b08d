/-! THE FRESH STATE: behind the two constructors the world is the world of the reference, in another order -/
def S0 : St := (fun k j => if 10 ≤ k ∧ k ≤ 19 ∧ j = 1 then -1 else 0, fun k j => if k = 0 ∧ j = 10 then 1 else if k = 58 ∧ j = 9 then 1 else 0, fun k => if k = 60 then fillF (fun _ => 0) (-1) 6 else if k = 62 then fillF (fun _ => 0) (-1) 4 else fun _ => 0)
def perm (k : Nat) : Nat := [0, 1, 2, 10, 16, 11, 12, 13, 14, 15, 17, 19, 21, 23, 25, 27, 29, 31, 33, 35, 18, 20, 22, 24, 26, 28, 30, 32, 34, 36, 3, 37, 44, 51, 4, 5, 6, 7, 8, 9, 38, 39, 40, 41, 42, 43, 45, 46, 47, 48, 49, 50, 52, 53, 54, 55, 56, 57, 58, 59, 60, 61, 62, 63, 64, 65, 66, 67, 68, 69, 70, 71].getD k 0
def Ef (E : En) (a : Nat → Nat) : En := (E.1, E.2.1, fun k => a (perm k), E.2.2.2)
theorem S0_gI {k j : Nat} (h : k < 10 ∨ 20 ≤ k ∨ j ≠ 1) : gI S0 k j = 0 := if_neg (by omega)
theorem S0_gA {k : Nat} (h1 : k ≠ 60) (h2 : k ≠ 62) (i : Nat) : gA S0 k i = 0 := by
  show (if k = 60 then fillF (fun _ => 0) (-1) 6 else if k = 62 then fillF (fun _ => 0) (-1) 4 else fun _ => (0 : Int32)) i = 0
  rw [if_neg h1, if_neg h2]
theorem S0_rel : Rel S0 := by
  refine ⟨⟨BK_0 (fun j h1 h2 => S0_gI (by omega)) (fun i hi => S0_gA (by omega) (by omega) _), fun n hn => BK_0 (fun j h1 h2 => S0_gI (by omega)) (fun i hi => S0_gA (by omega) (by omega) _), fun n hn => Or.inl ⟨if_pos (by omega), ?_⟩, fun n hn => Or.inl ⟨if_pos (by omega), ?_⟩⟩, fun f hf => ?_, rfl, rfl, rfl, rfl⟩
  · show fillF (fun _ => 0) (-1) 6 n = -1
    exact if_pos hn
  · show fillF (fun _ => 0) (-1) 4 n = -1
    exact if_pos hn
  · rw [S0_gA (by omega) (by omega), S0_gA (by omega) (by omega)]
/-- the cells as the constructors leave them -/
def frP (E : En) (a : Nat → Nat) (c : Nat → va_E) : Prop := fxA E a c ∧ fxR E a c 6 ∧ fxT E a c 4 ∧ fxK E a c 3 ∧ c 58 = mdV a 59 ∧ mdZ E c 59
abbrev P6 (E : En) (a : Nat → Nat) (c : Nat → va_E) (k : Nat) : Prop := c (perm k) = cell (Ef E a) S0 k
theorem fr_q1 {E : En} {a : Nat → Nat} : (fun j : Nat => if j < 6 then some (a (17 + 2 * j)) else none) = (fun j => if j < ln 1 then some (eA (Ef E a) (if 1 = 1 then 10 + j else 16 + j)) else none) := by
  funext j
  match j with
  | 0 => rfl
  | 1 => rfl
  | 2 => rfl
  | 3 => rfl
  | 4 => rfl
  | 5 => rfl
  | j + 6 => exact (if_neg (by omega)).trans (if_neg (show ¬ j + 6 < 6 by omega)).symm
theorem fr_c1 {E : En} {a : Nat → Nat} {c : Nat → va_E} (h : frP E a c) : P6 E a c 1 := h.2.1.1.trans (congrArg (fun f => (.inl (eS E, 6, .inr (.inr (.inr (.inr f)))) : va_E)) fr_q1)
theorem fr_q2 {E : En} {a : Nat → Nat} : (fun j : Nat => if j < 4 then some (a (29 + 2 * j)) else none) = (fun j => if j < ln 2 then some (eA (Ef E a) (if 2 = 1 then 10 + j else 16 + j)) else none) := by
  funext j
  match j with
  | 0 => rfl
  | 1 => rfl
  | 2 => rfl
  | 3 => rfl
  | j + 4 => exact (if_neg (by omega)).trans (if_neg (show ¬ j + 4 < 4 by omega)).symm
theorem fr_c2 {E : En} {a : Nat → Nat} {c : Nat → va_E} (h : frP E a c) : P6 E a c 2 := h.2.2.1.1.trans (congrArg (fun f => (.inl (eS E, 4, .inr (.inr (.inr (.inr f)))) : va_E)) fr_q2)
theorem fr_q3 {E : En} {a : Nat → Nat} : (fun j : Nat => if j < 3 then some (a (37 + 7 * j)) else none) = (fun j => if j < 3 then some (eA (Ef E a) (31 + j)) else none) := by
  funext j
  match j with
  | 0 => rfl
  | 1 => rfl
  | 2 => rfl
  | j + 3 => exact (if_neg (by omega)).trans (if_neg (show ¬ j + 3 < 3 by omega)).symm
theorem fr_c3 {E : En} {a : Nat → Nat} {c : Nat → va_E} (h : frP E a c) : P6 E a c 3 := h.2.2.2.1.1.trans (congrArg (fun f => (.inl (eB E, 3, .inr (.inr (.inr (.inr f)))) : va_E)) fr_q3)
set_option maxRecDepth 100000 in
set_option maxHeartbeats 4000000 in
theorem fr_cells {E : En} {a : Nat → Nat} {c : Nat → va_E} (h : frP E a c) : ∀ k, k < 72 → P6 E a c k := by
  intro k hk
  match k, hk with
  | 0, _ => exact h.1.1
  | 1, _ => exact fr_c1 h
  | 2, _ => exact fr_c2 h
  | 3, _ => exact fr_c3 h
  | 4, _ => exact h.1.2.2.2.2
  | 5, _ => exact h.1.2.2.1.1
  | 6, _ => exact h.1.2.2.1.2.1
  | 7, _ => exact h.1.2.2.1.2.2
  | 8, _ => exact h.1.2.2.2.1.1
  | 9, _ => exact h.1.2.2.2.1.2
  | 10, _ => exact (h.2.1.2 0 (by omega)).1
  | 11, _ => exact (h.2.1.2 1 (by omega)).1
  | 12, _ => exact (h.2.1.2 2 (by omega)).1
  | 13, _ => exact (h.2.1.2 3 (by omega)).1
  | 14, _ => exact (h.2.1.2 4 (by omega)).1
  | 15, _ => exact (h.2.1.2 5 (by omega)).1
  | 16, _ => exact (h.2.2.1.2 0 (by omega)).1
  | 17, _ => exact (h.2.2.1.2 1 (by omega)).1
  | 18, _ => exact (h.2.2.1.2 2 (by omega)).1
  | 19, _ => exact (h.2.2.1.2 3 (by omega)).1
  | 20, _ => exact (h.2.1.2 0 (by omega)).2
  | 21, _ => exact (h.2.1.2 1 (by omega)).2
  | 22, _ => exact (h.2.1.2 2 (by omega)).2
  | 23, _ => exact (h.2.1.2 3 (by omega)).2
  | 24, _ => exact (h.2.1.2 4 (by omega)).2
  | 25, _ => exact (h.2.1.2 5 (by omega)).2
  | 26, _ => exact (h.2.2.1.2 0 (by omega)).2
  | 27, _ => exact (h.2.2.1.2 1 (by omega)).2
  | 28, _ => exact (h.2.2.1.2 2 (by omega)).2
  | 29, _ => exact (h.2.2.1.2 3 (by omega)).2
  | 30, _ => exact h.1.2.1.1
  | 31, _ => exact (h.2.2.2.1.2 0 (by omega)).1
  | 32, _ => exact (h.2.2.2.1.2 1 (by omega)).1
  | 33, _ => exact (h.2.2.2.1.2 2 (by omega)).1
  | 34, _ => exact h.1.2.1.2.1 0 (by omega)
  | 35, _ => exact h.1.2.1.2.1 1 (by omega)
  | 36, _ => exact h.1.2.1.2.1 2 (by omega)
  | 37, _ => exact h.1.2.1.2.1 3 (by omega)
  | 38, _ => exact h.1.2.1.2.1 4 (by omega)
  | 39, _ => exact h.1.2.1.2.2
  | 40, _ => exact (h.2.2.2.1.2 0 (by omega)).2.1 0 (by omega)
  | 41, _ => exact (h.2.2.2.1.2 0 (by omega)).2.1 1 (by omega)
  | 42, _ => exact (h.2.2.2.1.2 0 (by omega)).2.1 2 (by omega)
  | 43, _ => exact (h.2.2.2.1.2 0 (by omega)).2.1 3 (by omega)
  | 44, _ => exact (h.2.2.2.1.2 0 (by omega)).2.1 4 (by omega)
  | 45, _ => exact (h.2.2.2.1.2 0 (by omega)).2.2
  | 46, _ => exact (h.2.2.2.1.2 1 (by omega)).2.1 0 (by omega)
  | 47, _ => exact (h.2.2.2.1.2 1 (by omega)).2.1 1 (by omega)
  | 48, _ => exact (h.2.2.2.1.2 1 (by omega)).2.1 2 (by omega)
  | 49, _ => exact (h.2.2.2.1.2 1 (by omega)).2.1 3 (by omega)
  | 50, _ => exact (h.2.2.2.1.2 1 (by omega)).2.1 4 (by omega)
  | 51, _ => exact (h.2.2.2.1.2 1 (by omega)).2.2
  | 52, _ => exact (h.2.2.2.1.2 2 (by omega)).2.1 0 (by omega)
  | 53, _ => exact (h.2.2.2.1.2 2 (by omega)).2.1 1 (by omega)
  | 54, _ => exact (h.2.2.2.1.2 2 (by omega)).2.1 2 (by omega)
  | 55, _ => exact (h.2.2.2.1.2 2 (by omega)).2.1 3 (by omega)
  | 56, _ => exact (h.2.2.2.1.2 2 (by omega)).2.1 4 (by omega)
  | 57, _ => exact (h.2.2.2.1.2 2 (by omega)).2.2
  | 58, _ => exact h.2.2.2.2.1
  | 59, _ => exact h.2.2.2.2.2.1
  | 60, _ => exact h.2.2.2.2.2.2.1
  | 61, _ => exact h.2.2.2.2.2.2.2.1
  | 62, _ => exact h.2.2.2.2.2.2.2.2.1
  | 63, _ => exact h.2.2.2.2.2.2.2.2.2.1
  | 64, _ => exact h.2.2.2.2.2.2.2.2.2.2.1
  | 65, _ => exact h.2.2.2.2.2.2.2.2.2.2.2.1
  | 66, _ => exact h.2.2.2.2.2.2.2.2.2.2.2.2.1
  | 67, _ => exact h.2.2.2.2.2.2.2.2.2.2.2.2.2.1
  | 68, _ => exact h.2.2.2.2.2.2.2.2.2.2.2.2.2.2.1
  | 69, _ => exact h.2.2.2.2.2.2.2.2.2.2.2.2.2.2.2.1
  | 70, _ => exact h.2.2.2.2.2.2.2.2.2.2.2.2.2.2.2.2.1
  | 71, _ => exact h.2.2.2.2.2.2.2.2.2.2.2.2.2.2.2.2.2
  | k + 72, hk => exact absurd hk (by omega)
theorem perm_lt : ∀ k, k < 72 → perm k < 72 := by decide +kernel
theorem perm_inj : ∀ i, i < 72 → ∀ j, j < 72 → perm i = perm j → i = j := by decide +kernel
theorem fr_P {E : En} {a : Nat → Nat} {c : Nat → va_E} {H : Heap} (h : frP E a c) (hP : va_P (eD E) vwCl (wq a c 72) H) : va_P (eD (Ef E a)) vwCl (wd (Ef E a) S0) H := by
  intro k q hq
  by_cases hk : k < 72
  · rw [wd_get hk] at hq
    cases hq
    have e := hP (perm k) _ (wq_get (perm_lt k hk))
    rw [fr_cells h k hk] at e
    exact e
  · rw [List.getElem?_eq_none (by rw [wd_len]; omega)] at hq
    cases hq
theorem fr_A {E : En} {a : Nat → Nat} {c : Nat → va_E} {A : Nat → Prop} (hD : va_D A (wq a c 72)) : ∀ k, k < 72 → A (eA (Ef E a) k) := fun k hk => hD.2 (perm k) _ (wq_get (perm_lt k hk))
theorem fr_inj {E : En} {a : Nat → Nat} {c : Nat → va_E} {A : Nat → Prop} (hD : va_D A (wq a c 72)) : InjE (Ef E a) := fun i j hi hj e => perm_inj i hi j hj (hD.1 (perm i) (perm j) _ _ (wq_get (perm_lt i hi)) (wq_get (perm_lt j hj)) e)
