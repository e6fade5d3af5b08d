/-! THE MACHINE LAYER: a state St (numbers by cell and field, longs, rows), its world wd, contracts CT, the judgement G at a point of a method's walk, a rule an instruction. -/
abbrev St : Type := (Nat → Nat → Int32) × (Nat → Nat → Int64) × (Nat → Nat → Int32)
def gI (S : St) (k j : Nat) : Int32 := S.1 k j
def gL (S : St) (k j : Nat) : Int64 := S.2.1 k j
def gA (S : St) (k : Nat) : Nat → Int32 := S.2.2 k
def sI (S : St) (k j : Nat) (v : Int32) : St := (fun a b => if a = k ∧ b = j then v else S.1 a b, S.2.1, S.2.2)
def sL (S : St) (k j : Nat) (v : Int64) : St := (S.1, fun a b => if a = k ∧ b = j then v else S.2.1 a b, S.2.2)
def sA (S : St) (k : Nat) (f : Nat → Int32) : St := (S.1, S.2.1, fun a => if a = k then f else S.2.2 a)
theorem gI_sI (S : St) (k j : Nat) (v : Int32) (a b : Nat) : gI (sI S k j v) a b = if a = k ∧ b = j then v else gI S a b := rfl
theorem gI_sL (S : St) (k j : Nat) (v : Int64) (a b : Nat) : gI (sL S k j v) a b = gI S a b := rfl
theorem gI_sA (S : St) (k : Nat) (f : Nat → Int32) (a b : Nat) : gI (sA S k f) a b = gI S a b := rfl
theorem gL_sI (S : St) (k j : Nat) (v : Int32) (a b : Nat) : gL (sI S k j v) a b = gL S a b := rfl
theorem gL_sL (S : St) (k j : Nat) (v : Int64) (a b : Nat) : gL (sL S k j v) a b = if a = k ∧ b = j then v else gL S a b := rfl
theorem gL_sA (S : St) (k : Nat) (f : Nat → Int32) (a b : Nat) : gL (sA S k f) a b = gL S a b := rfl
theorem gA_sI (S : St) (k j : Nat) (v : Int32) (a : Nat) : gA (sI S k j v) a = gA S a := rfl
theorem gA_sL (S : St) (k j : Nat) (v : Int64) (a : Nat) : gA (sL S k j v) a = gA S a := rfl
theorem gA_sA (S : St) (k : Nat) (f : Nat → Int32) (a : Nat) : gA (sA S k f) a = if a = k then f else gA S a := rfl
theorem gA_same (S : St) (k : Nat) (f : Nat → Int32) : gA (sA S k f) k = f := by rw [gA_sA, if_pos rfl]
theorem gI_same (S : St) (k j : Nat) (v : Int32) : gI (sI S k j v) k j = v := by rw [gI_sI, if_pos ⟨rfl, rfl⟩]
theorem gL_same (S : St) (k j : Nat) (v : Int64) : gL (sL S k j v) k j = v := by rw [gL_sL, if_pos ⟨rfl, rfl⟩]
theorem gA_ne {S : St} {k : Nat} {f : Nat → Int32} {a : Nat} (h : a ≠ k) : gA (sA S k f) a = gA S a := by rw [gA_sA, if_neg h]
theorem gI_ne {S : St} {k j : Nat} {v : Int32} {a b : Nat} (h : ¬ (a = k ∧ b = j)) : gI (sI S k j v) a b = gI S a b := by rw [gI_sI, if_neg h]
theorem st_ext {S T : St} (h1 : ∀ a b, gI S a b = gI T a b) (h2 : ∀ a b, gL S a b = gL T a b) (h3 : ∀ a i, gA S a i = gA T a i) : S = T := by
  obtain ⟨a, b, c⟩ := S
  obtain ⟨a2, b2, c2⟩ := T
  have e1 : a = a2 := funext fun x => funext fun y => h1 x y
  have e2 : b = b2 := funext fun x => funext fun y => h2 x y
  have e3 : c = c2 := funext fun x => funext fun y => h3 x y
  rw [e1, e2, e3]
theorem sA_sA (S : St) (k : Nat) (f g : Nat → Int32) : sA (sA S k f) k g = sA S k g := by
  refine st_ext (fun _ _ => rfl) (fun _ _ => rfl) (fun a i => ?_)
  rw [gA_sA, gA_sA, gA_sA]
  by_cases h : a = k <;> simp [h]
theorem sI_sI (S : St) (k j : Nat) (v u : Int32) : sI (sI S k j v) k j u = sI S k j u := by
  refine st_ext (fun a b => ?_) (fun _ _ => rfl) (fun _ _ => rfl)
  rw [gI_sI, gI_sI, gI_sI]
  by_cases h : a = k ∧ b = j <;> simp [h]
theorem sA_self (S : St) (k : Nat) : sA S k (gA S k) = S := by
  refine st_ext (fun _ _ => rfl) (fun _ _ => rfl) (fun a i => ?_)
  rw [gA_sA]
  by_cases h : a = k <;> simp [h]
theorem sI_self (S : St) (k j : Nat) : sI S k j (gI S k j) = S := by
  refine st_ext (fun a b => ?_) (fun _ _ => rfl) (fun _ _ => rfl)
  rw [gI_sI]
  by_cases h : a = k ∧ b = j
  · rw [if_pos h, h.1, h.2]
  · rw [if_neg h]
/-- the launch, the tables' numbers, the addresses of the cells 0 .. 71, the classes of rows of ints, of Banks, of Strips, the letters' address -/
abbrev En : Type := Launch × va_G × (Nat → Nat) × Nat × Nat × Nat × Nat
abbrev eN (E : En) : Launch := E.1
abbrev eD (E : En) : va_G := E.2.1
abbrev eA (E : En) (k : Nat) : Nat := E.2.2.1 k
abbrev eI (E : En) : ClassId := E.2.2.2.1
abbrev eB (E : En) : ClassId := E.2.2.2.2.1
abbrev eS (E : En) : ClassId := E.2.2.2.2.2.1
abbrev eT (E : En) : Nat := E.2.2.2.2.2.2
/-- which kind a cell is: 0 Bank, 1 Chains, 2 Sets, 3 Strip, 4 GlowDebts, 5 the reference, 6 ints, 7 Banks, 8 Strips -/
def kd (k : Nat) : Nat := [4, 8, 8, 7, 6, 2, 6, 6, 1, 6, 3, 3, 3, 3, 3, 3, 3, 3, 3, 3, 6, 6, 6, 6, 6, 6, 6, 6, 6, 6, 0, 0, 0, 0, 6, 6, 6, 6, 6, 6, 6, 6, 6, 6, 6, 6, 6, 6, 6, 6, 6, 6, 6, 6, 6, 6, 6, 6, 5, 6, 6, 6, 6, 6, 6, 6, 6, 6, 6, 6, 6, 6].getD k 99
def ln (k : Nat) : Nat := [0, 6, 4, 3, 6, 0, 8, 256, 0, 6, 0, 0, 0, 0, 0, 0, 0, 0, 0, 0, 40, 40, 40, 40, 40, 40, 60, 60, 60, 60, 0, 0, 0, 0, 8, 8, 8, 8, 8, 40, 8, 8, 8, 8, 8, 40, 8, 8, 8, 8, 8, 40, 8, 8, 8, 8, 8, 40, 0, 1776, 6, 240, 4, 240, 6, 40, 40, 10, 6, 5, 5, 5].getD k 0
def cell (E : En) (S : St) (k : Nat) : va_E := match kd k with
  | 0 => .inr (0, [.ref (eA E (34 + 6 * (k - 30))), .ref (eA E (34 + 6 * (k - 30) + 1)), .ref (eA E (34 + 6 * (k - 30) + 2)), .ref (eA E (34 + 6 * (k - 30) + 3)), .ref (eA E (34 + 6 * (k - 30) + 4)), .ref (eA E (34 + 6 * (k - 30) + 5)), .int (gI S k 6), .int (gI S k 7), .int (gI S k 8), .int (gI S k 9)])
  | 1 => .inr (1, [.ref (eA E 9)])
  | 2 => .inr (2, [.ref (eA E 6), .ref (eA E 7)])
  | 3 => .inr (3, [.ref (eA E (k + 10)), .int (gI S k 1)])
  | 4 => .inr (4, [.ref (eA E 1), .ref (eA E 2), .ref (eA E 30), .ref (eA E 3), .ref (eA E 5), .ref (eA E 8), .ref (eA E 4), .int (gI S k 7), .int (gI S k 8), .long (gL S k 9), .long (gL S k 10)])
  | 5 => .inr (5, [.ref (eA E 59), .ref (eA E 60), .ref (eA E 61), .ref (eA E 62), .ref (eA E 63), .int (gI S k 5), .ref (eA E 64), .int (gI S k 7), .long (gL S k 8), .long (gL S k 9), .ref (eA E 65), .int (gI S k 11), .int (gI S k 12), .int (gI S k 13), .int (gI S k 14), .int (gI S k 15), .ref (eA E 66), .ref (eA E 67), .ref (eA E 68), .ref (eA E 69), .ref (eA E 70), .ref (eA E 71), .long (gL S k 22)])
  | 6 => .inl (eI E, ln k, .inl (gA S k))
  | 7 => .inl (eB E, 3, .inr (.inr (.inr (.inr (fun j => if j < 3 then some (eA E (31 + j)) else none)))))
  | 8 => .inl (eS E, ln k, .inr (.inr (.inr (.inr (fun j => if j < ln k then some (eA E (if k = 1 then 10 + j else 16 + j)) else none)))))
  | _ => .inr (99, [])
def wd (E : En) (S : St) : va_W := (List.range 72).map (fun k => (eA E k, cell E S k))
abbrev tysE (E : En) : List (ClassId × FieldType) := [(eI E, .int), (eB E, .object "GlowDebts$Bank"), (eS E, .object "GlowDebts$Strip")]
def AD (E : En) : Nat → Prop := fun q => ∃ k : Nat, k < 72 ∧ q = eA E k
def InjE (E : En) : Prop := ∀ i j : Nat, i < 72 → j < 72 → eA E i = eA E j → i = j
def letV (j : Nat) : Value := .int ([108, 106, 100, 102, 111, 109].getD j 0)
def Kn (E : En) (A : Nat → Prop) (U : State) : Prop := va_K (eD E) vwCl (tysE E) U ∧ va_Nw (.methodLinkNest RX1 29 yX8_isPerson "GlowDebts") U ∧ (va_Z "GlowDebts$Kinds" "LETTERS" "[I" (.ref (eT E)) A U U.heap ∧ va_T .int (eT E) 6 letV A U U.heap) ∧ InjE E
theorem wd_get {E : En} {S : St} {k : Nat} (h : k < 72) : (wd E S)[k]? = some (eA E k, cell E S k) := by simp [wd, h]
theorem wd_len (E : En) (S : St) : (wd E S).length = 72 := by simp [wd]
theorem wd_set {E : En} {S S' : St} {k : Nat} (h : k < 72) (hc : ∀ j, j < 72 → j ≠ k → cell E S' j = cell E S j) : (wd E S).set k (eA E k, cell E S' k) = wd E S' := by
  refine List.ext_getElem? fun i => ?_
  by_cases hi : i < 72
  · rw [wd_get hi]
    by_cases hk : i = k
    · subst hk
      rw [List.getElem?_set_self (by rw [wd_len]; exact h)]
    · rw [List.getElem?_set_ne (fun z => hk z.symm), wd_get hi, hc i hi hk]
  · rw [List.getElem?_eq_none (by rw [List.length_set, wd_len]; omega), List.getElem?_eq_none (by rw [wd_len]; omega)]
theorem wd_D {E : En} {S : St} {A : Nat → Prop} (hi : InjE E) (hA : ∀ k, k < 72 → A (eA E k)) : va_D A (wd E S) := by
  have key : ∀ (k : Nat) (q : Nat × va_E), (wd E S)[k]? = some q → k < 72 ∧ q.1 = eA E k := by
    intro k q hq
    have hk : k < 72 := by
      have := (List.getElem?_eq_some_iff.mp hq).1
      rwa [wd_len] at this
    rw [wd_get hk] at hq
    cases hq
    exact ⟨hk, rfl⟩
  refine ⟨fun i j p q hp hq e => ?_, fun k q hq => ?_⟩
  · obtain ⟨h1, h2⟩ := key i p hp
    obtain ⟨h3, h4⟩ := key j q hq
    exact hi i j h1 h3 (by rw [← h2, ← h4]; exact e)
  · obtain ⟨h1, h2⟩ := key k q hq
    rw [h2]
    exact hA k h1
abbrev rmD (d : Nat) : Room := { frames := d, cells := 0, slots := 0, locals := 37 * d }
abbrev wsD (I : Ym) : List Cond := .code I.1 I.2.1 I.2.2.1 I.2.2.2.1 :: TT
def Qg (E : En) (Post : St → Option Value → Prop) : Array Value → State → Outcome → State → Prop := fun _ st oc t => (∃ (S' : St) (r : Option Value), oc = .returned r ∧ Post S' r ∧ va_P (eD E) vwCl (wd E S') t.heap) ∧ va_F (AD E) st t
/-- THE CONTRACT of a method: from the world of S, with these arguments, it returns, with Post of the new state and the answer -/
def CT (E : En) (I : Ym) (S : St) (args : List Value) (Post : St → Option Value → Prop) : Prop :=
  Met (eN E) I.1 (wsD I) (rmD I.2.2.2.2) (va_Pc args (fun U => va_P (eD E) vwCl (wd E S) U.heap ∧ Kn E (AD E) U)) (Qg E Post) 0 0 (AD E)
/-- the same, told exactly -/
abbrev CTe (E : En) (I : Ym) (S : St) (args : List Value) (S1 : St) (r : Option Value) : Prop := CT E I S args (fun S' r' => S' = S1 ∧ r' = r)
/-- where a walk stands: all of the machine that stays over it -/
abbrev Xt : Type := (Program × Env × Room × State) × (MethodId × Array Value × List Frame × Method × Code) × (Nat × Nat) × (Nat → Prop) × (State → Prop)
abbrev xp (X : Xt) : Program := X.1.1
abbrev xe (X : Xt) : Env := X.1.2.1
abbrev xR (X : Xt) : Room := X.1.2.2.1
abbrev xs (X : Xt) : State := X.1.2.2.2
abbrev xm (X : Xt) : MethodId := X.2.1.1
abbrev xa (X : Xt) : Array Value := X.2.1.2.1
abbrev xb (X : Xt) : List Frame := X.2.1.2.2.1
abbrev xM (X : Xt) : Method := X.2.1.2.2.2.1
abbrev xc (X : Xt) : Code := X.2.1.2.2.2.2
abbrev xk (X : Xt) : Nat := X.2.2.1.1
abbrev xn (X : Xt) : Nat := X.2.2.1.2
abbrev xA (X : Xt) : Nat → Prop := X.2.2.2.1
abbrev xQ (X : Xt) : State → Prop := X.2.2.2.2
def CX (E : En) (X : Xt) (I : Ym) : Prop := (xp X).tables.exec = Jvm.exec ∧ (xc X).code = I.2.1 ∧ (xc X).maxLocals = I.2.2.1 ∧ (xs X).vm.findClass I.1.cls = some (xm X).cls ∧ (∀ w ∈ TT, w.before (xa X) (xs X) = true) ∧ Kn E (xA X) (xs X) ∧ (∀ k, k < 72 → xA X (eA E k)) ∧ (xM X).locks = false ∧ (I.2.2.2.2 ≤ (xR X).frames ∧ 37 * I.2.2.2.2 ≤ (xR X).locals) ∧ xk X ≤ (xR X).cells ∧ xn X ≤ (xR X).slots
abbrev Wx (E : En) (X : Xt) (H : Heap) (locs : List Loc) (g : JFrame) : Prop := W (xp X) (eN E) (xe X) (xR X) (xs X) (xm X) (xa X) (xb X) (xM X) (xc X) H locs (xk X) (xn X) (xQ X) g
/-- THE JUDGEMENT: at pc, with the state S, these locals, this stack, the walk comes to its end -/
def G (E : En) (X : Xt) (I : Ym) (S : St) (pc : Nat) (L : List (Nat × Value)) (st : List Value) : Prop :=
  CX E X I → ∀ (H : Heap) (locs : List Loc) (ls : Array Slot), va_P (eD E) vwCl (wd E S) H → va_S (xA X) (xs X).heap H locs → lv_has ls I.2.2.1 L → Wx E X H locs (F0 (xm X) pc ls st)
section GR
variable {E : En} {X : Xt} {I : Ym} {S : St} {pc : Nat} {L : List (Nat × Value)} {st : List Value}
theorem g_iconst {n : Int} {v : Int32} (hd : decode I.2.1 pc = .ok (.iconst n, 1)) (hv : Int32.ofInt n = v) (k : G E X I S (pc + 1) L (.int v :: st)) : G E X I S pc L (st) := fun C H locs ls hP hS hl => lv_iconst C.1 C.2.1 hd hv (k C H locs ls hP hS hl)
theorem g_bipush {n : Int} {v : Int32} (hd : decode I.2.1 pc = .ok (.bipush n, 2)) (hv : (Int8.ofInt n).toInt32 = v) (k : G E X I S (pc + 2) L (.int v :: st)) : G E X I S pc L (st) := fun C H locs ls hP hS hl => lv_bipush C.1 C.2.1 hd hv (k C H locs ls hP hS hl)
theorem g_sipush {n : Int} {v : Int32} (hd : decode I.2.1 pc = .ok (.sipush n, 3)) (hv : (Int16.ofInt n).toInt32 = v) (k : G E X I S (pc + 3) L (.int v :: st)) : G E X I S pc L (st) := fun C H locs ls hP hS hl => lv_sipush C.1 C.2.1 hd hv (k C H locs ls hP hS hl)
theorem g_lconst {n : Fin 2} {v : Int64} (hd : decode I.2.1 pc = .ok (.lconst n, 1)) (hv : Int64.ofNat (n : Nat) = v) (k : G E X I S (pc + 1) L (.long v :: st)) : G E X I S pc L (st) := fun C H locs ls hP hS hl => lv_lconst C.1 C.2.1 hd hv (k C H locs ls hP hS hl)
theorem g_iload_n {k : Fin 4} {i : Nat} {x : Int32} (hd : decode I.2.1 pc = .ok (.iload_n k, 1)) (j : Nat) (hi : (k : Nat) = i) (hj : L[j]? = some (i, .int x)) (k : G E X I S (pc + 1) L (.int x :: st)) : G E X I S pc L (st) := fun C H locs ls hP hS hl => lv_iload_n C.1 C.2.1 hd hi (lv_at hl j hj) (k C H locs ls hP hS hl)
theorem g_iload {i : Nat} {x : Int32} (hd : decode I.2.1 pc = .ok (.iload i, 2)) (j : Nat) (hj : L[j]? = some (i, .int x)) (k : G E X I S (pc + 2) L (.int x :: st)) : G E X I S pc L (st) := fun C H locs ls hP hS hl => lv_iload C.1 C.2.1 hd (lv_at hl j hj) (k C H locs ls hP hS hl)
theorem g_lload_n {k : Fin 4} {i : Nat} {x : Int64} (hd : decode I.2.1 pc = .ok (.lload_n k, 1)) (j : Nat) (hi : (k : Nat) = i) (hj : L[j]? = some (i, .long x)) (k : G E X I S (pc + 1) L (.long x :: st)) : G E X I S pc L (st) := fun C H locs ls hP hS hl => lv_lload_n C.1 C.2.1 hd hi (lv_at hl j hj) (k C H locs ls hP hS hl)
theorem g_lload {i : Nat} {x : Int64} (hd : decode I.2.1 pc = .ok (.lload i, 2)) (j : Nat) (hj : L[j]? = some (i, .long x)) (k : G E X I S (pc + 2) L (.long x :: st)) : G E X I S pc L (st) := fun C H locs ls hP hS hl => lv_lload C.1 C.2.1 hd (lv_at hl j hj) (k C H locs ls hP hS hl)
theorem g_aload_n {k : Fin 4} {i : Nat} {x : Nat} (hd : decode I.2.1 pc = .ok (.aload_n k, 1)) (j : Nat) (hi : (k : Nat) = i) (hj : L[j]? = some (i, .ref x)) (k : G E X I S (pc + 1) L (.ref x :: st)) : G E X I S pc L (st) := fun C H locs ls hP hS hl => lv_aload_n C.1 C.2.1 hd hi (lv_at hl j hj) (k C H locs ls hP hS hl)
theorem g_aload {i : Nat} {x : Nat} (hd : decode I.2.1 pc = .ok (.aload i, 2)) (j : Nat) (hj : L[j]? = some (i, .ref x)) (k : G E X I S (pc + 2) L (.ref x :: st)) : G E X I S pc L (st) := fun C H locs ls hP hS hl => lv_aload C.1 C.2.1 hd (lv_at hl j hj) (k C H locs ls hP hS hl)
theorem g_aload_nN {k : Fin 4} {i : Nat} (hd : decode I.2.1 pc = .ok (.aload_n k, 1)) (j : Nat) (hi : (k : Nat) = i) (hj : L[j]? = some (i, .null)) (k : G E X I S (pc + 1) L (.null :: st)) : G E X I S pc L (st) := fun C H locs ls hP hS hl => lv_aload_nN C.1 C.2.1 hd hi (lv_at hl j hj) (k C H locs ls hP hS hl)
theorem g_aloadN {i : Nat} (hd : decode I.2.1 pc = .ok (.aload i, 2)) (j : Nat) (hj : L[j]? = some (i, .null)) (k : G E X I S (pc + 2) L (.null :: st)) : G E X I S pc L (st) := fun C H locs ls hP hS hl => lv_aloadN C.1 C.2.1 hd (lv_at hl j hj) (k C H locs ls hP hS hl)
theorem g_istore_n {k : Fin 4} {i : Nat} {x : Int32} {L' : List (Nat × Value)} (hd : decode I.2.1 pc = .ok (.istore_n k, 1)) (hi : (k : Nat) = i) (hn : i + 1 ≤ I.2.2.1) (hl2 : (i, Value.int x) :: L.filter (fun q => !(q.1 == i) && !(q.1 + 1 == i && q.2.category == 2)) = L') (k : G E X I S (pc + 1) L' st) : G E X I S pc L (Value.int x :: st) := fun C H locs ls hP hS hl => lv_istore_n C.1 C.2.1 hd hi hl hn hl2 (fun ls2 hl3 => k C H locs ls2 hP hS hl3)
theorem g_istore {i : Nat} {x : Int32} {L' : List (Nat × Value)} (hd : decode I.2.1 pc = .ok (.istore i, 2)) (hn : i + 1 ≤ I.2.2.1) (hl2 : (i, Value.int x) :: L.filter (fun q => !(q.1 == i) && !(q.1 + 1 == i && q.2.category == 2)) = L') (k : G E X I S (pc + 2) L' st) : G E X I S pc L (Value.int x :: st) := fun C H locs ls hP hS hl => lv_istore C.1 C.2.1 hd hl hn hl2 (fun ls2 hl3 => k C H locs ls2 hP hS hl3)
theorem g_lstore_n {k : Fin 4} {i : Nat} {x : Int64} {L' : List (Nat × Value)} (hd : decode I.2.1 pc = .ok (.lstore_n k, 1)) (hi : (k : Nat) = i) (hn : i + 2 ≤ I.2.2.1) (hl2 : (i, Value.long x) :: L.filter (fun q => !(q.1 == i) && (!(q.1 == i + 1) && !(q.1 + 1 == i && q.2.category == 2))) = L') (k : G E X I S (pc + 1) L' st) : G E X I S pc L (Value.long x :: st) := fun C H locs ls hP hS hl => lv_lstore_n C.1 C.2.1 hd hi hl hn hl2 (fun ls2 hl3 => k C H locs ls2 hP hS hl3)
theorem g_lstore {i : Nat} {x : Int64} {L' : List (Nat × Value)} (hd : decode I.2.1 pc = .ok (.lstore i, 2)) (hn : i + 2 ≤ I.2.2.1) (hl2 : (i, Value.long x) :: L.filter (fun q => !(q.1 == i) && (!(q.1 == i + 1) && !(q.1 + 1 == i && q.2.category == 2))) = L') (k : G E X I S (pc + 2) L' st) : G E X I S pc L (Value.long x :: st) := fun C H locs ls hP hS hl => lv_lstore C.1 C.2.1 hd hl hn hl2 (fun ls2 hl3 => k C H locs ls2 hP hS hl3)
theorem g_astore_n {k : Fin 4} {i : Nat} {x : Nat} {L' : List (Nat × Value)} (hd : decode I.2.1 pc = .ok (.astore_n k, 1)) (hi : (k : Nat) = i) (hn : i + 1 ≤ I.2.2.1) (hl2 : (i, Value.ref x) :: L.filter (fun q => !(q.1 == i) && !(q.1 + 1 == i && q.2.category == 2)) = L') (k : G E X I S (pc + 1) L' st) : G E X I S pc L (Value.ref x :: st) := fun C H locs ls hP hS hl => lv_astore_n C.1 C.2.1 hd hi hl hn hl2 (fun ls2 hl3 => k C H locs ls2 hP hS hl3)
theorem g_astore {i : Nat} {x : Nat} {L' : List (Nat × Value)} (hd : decode I.2.1 pc = .ok (.astore i, 2)) (hn : i + 1 ≤ I.2.2.1) (hl2 : (i, Value.ref x) :: L.filter (fun q => !(q.1 == i) && !(q.1 + 1 == i && q.2.category == 2)) = L') (k : G E X I S (pc + 2) L' st) : G E X I S pc L (Value.ref x :: st) := fun C H locs ls hP hS hl => lv_astore C.1 C.2.1 hd hl hn hl2 (fun ls2 hl3 => k C H locs ls2 hP hS hl3)
theorem g_astore_nN {k : Fin 4} {i : Nat} {L' : List (Nat × Value)} (hd : decode I.2.1 pc = .ok (.astore_n k, 1)) (hi : (k : Nat) = i) (hn : i + 1 ≤ I.2.2.1) (hl2 : (i, Value.null) :: L.filter (fun q => !(q.1 == i) && !(q.1 + 1 == i && q.2.category == 2)) = L') (k : G E X I S (pc + 1) L' st) : G E X I S pc L (Value.null :: st) := fun C H locs ls hP hS hl => lv_astore_nN C.1 C.2.1 hd hi hl hn hl2 (fun ls2 hl3 => k C H locs ls2 hP hS hl3)
theorem g_astoreN {i : Nat} {L' : List (Nat × Value)} (hd : decode I.2.1 pc = .ok (.astore i, 2)) (hn : i + 1 ≤ I.2.2.1) (hl2 : (i, Value.null) :: L.filter (fun q => !(q.1 == i) && !(q.1 + 1 == i && q.2.category == 2)) = L') (k : G E X I S (pc + 2) L' st) : G E X I S pc L (Value.null :: st) := fun C H locs ls hP hS hl => lv_astoreN C.1 C.2.1 hd hl hn hl2 (fun ls2 hl3 => k C H locs ls2 hP hS hl3)
theorem g_iinc {i k : Nat} {n : Int} {x v : Int32} {L' : List (Nat × Value)} (hd : decode I.2.1 pc = .ok (.iinc i n, 3)) (hk : L[k]? = some (i, .int x)) (hv : x + Int32.ofInt n = v) (hn : i + 1 ≤ I.2.2.1) (hl2 : (i, Value.int v) :: L.filter (fun q => !(q.1 == i) && !(q.1 + 1 == i && q.2.category == 2)) = L') (kk : G E X I S (pc + 3) L' st) : G E X I S pc L st := fun C H locs ls hP hS hl => lv_iinc C.1 C.2.1 hd hl hk hv hn hl2 (fun ls2 hl3 => kk C H locs ls2 hP hS hl3)
theorem g_iadd {x y : Int32} (hd : decode I.2.1 pc = .ok (.iadd, 1)) (k : G E X I S (pc + 1) L (.int (x + y) :: st)) : G E X I S pc L (.int y :: .int x :: st) := fun C H locs ls hP hS hl => lv_iadd C.1 C.2.1 hd (k C H locs ls hP hS hl)
theorem g_isub {x y : Int32} (hd : decode I.2.1 pc = .ok (.isub, 1)) (k : G E X I S (pc + 1) L (.int (x - y) :: st)) : G E X I S pc L (.int y :: .int x :: st) := fun C H locs ls hP hS hl => lv_isub C.1 C.2.1 hd (k C H locs ls hP hS hl)
theorem g_imul {x y : Int32} (hd : decode I.2.1 pc = .ok (.imul, 1)) (k : G E X I S (pc + 1) L (.int (x * y) :: st)) : G E X I S pc L (.int y :: .int x :: st) := fun C H locs ls hP hS hl => lv_imul C.1 C.2.1 hd (k C H locs ls hP hS hl)
theorem g_iand {x y : Int32} (hd : decode I.2.1 pc = .ok (.iand, 1)) (k : G E X I S (pc + 1) L (.int (x &&& y) :: st)) : G E X I S pc L (.int y :: .int x :: st) := fun C H locs ls hP hS hl => lv_iand C.1 C.2.1 hd (k C H locs ls hP hS hl)
theorem g_ior {x y : Int32} (hd : decode I.2.1 pc = .ok (.ior, 1)) (k : G E X I S (pc + 1) L (.int (x ||| y) :: st)) : G E X I S pc L (.int y :: .int x :: st) := fun C H locs ls hP hS hl => lv_ior C.1 C.2.1 hd (k C H locs ls hP hS hl)
theorem g_ixor {x y : Int32} (hd : decode I.2.1 pc = .ok (.ixor, 1)) (k : G E X I S (pc + 1) L (.int (x ^^^ y) :: st)) : G E X I S pc L (.int y :: .int x :: st) := fun C H locs ls hP hS hl => lv_ixor C.1 C.2.1 hd (k C H locs ls hP hS hl)
theorem g_ishl {x y : Int32} (hd : decode I.2.1 pc = .ok (.ishl, 1)) (k : G E X I S (pc + 1) L (.int (x <<< (y &&& 31)) :: st)) : G E X I S pc L (.int y :: .int x :: st) := fun C H locs ls hP hS hl => lv_ishl C.1 C.2.1 hd (k C H locs ls hP hS hl)
theorem g_ishr {x y : Int32} (hd : decode I.2.1 pc = .ok (.ishr, 1)) (k : G E X I S (pc + 1) L (.int (x >>> (y &&& 31)) :: st)) : G E X I S pc L (.int y :: .int x :: st) := fun C H locs ls hP hS hl => lv_ishr C.1 C.2.1 hd (k C H locs ls hP hS hl)
theorem g_idiv {x y : Int32} (hd : decode I.2.1 pc = .ok (.idiv, 1)) (hne : ¬ y = 0) (k : G E X I S (pc + 1) L (.int (x / y) :: st)) : G E X I S pc L (.int y :: .int x :: st) := fun C H locs ls hP hS hl => lv_idiv C.1 C.2.1 hd hne (k C H locs ls hP hS hl)
theorem g_irem {x y : Int32} (hd : decode I.2.1 pc = .ok (.irem, 1)) (hne : ¬ y = 0) (k : G E X I S (pc + 1) L (.int (x - x / y * y) :: st)) : G E X I S pc L (.int y :: .int x :: st) := fun C H locs ls hP hS hl => lv_irem C.1 C.2.1 hd hne (k C H locs ls hP hS hl)
theorem g_ineg {x : Int32} (hd : decode I.2.1 pc = .ok (.ineg, 1)) (k : G E X I S (pc + 1) L (.int (-x) :: st)) : G E X I S pc L (.int x :: st) := fun C H locs ls hP hS hl => lv_ineg C.1 C.2.1 hd (k C H locs ls hP hS hl)
theorem g_ladd {x y : Int64} (hd : decode I.2.1 pc = .ok (.ladd, 1)) (k : G E X I S (pc + 1) L (.long (x + y) :: st)) : G E X I S pc L (.long y :: .long x :: st) := fun C H locs ls hP hS hl => lv_ladd C.1 C.2.1 hd (k C H locs ls hP hS hl)
theorem g_lsub {x y : Int64} (hd : decode I.2.1 pc = .ok (.lsub, 1)) (k : G E X I S (pc + 1) L (.long (x - y) :: st)) : G E X I S pc L (.long y :: .long x :: st) := fun C H locs ls hP hS hl => lv_lsub C.1 C.2.1 hd (k C H locs ls hP hS hl)
theorem g_lmul {x y : Int64} (hd : decode I.2.1 pc = .ok (.lmul, 1)) (k : G E X I S (pc + 1) L (.long (x * y) :: st)) : G E X I S pc L (.long y :: .long x :: st) := fun C H locs ls hP hS hl => lv_lmul C.1 C.2.1 hd (k C H locs ls hP hS hl)
theorem g_ldiv {x y : Int64} (hd : decode I.2.1 pc = .ok (.ldiv, 1)) (hne : ¬ y = 0) (k : G E X I S (pc + 1) L (.long (x / y) :: st)) : G E X I S pc L (.long y :: .long x :: st) := fun C H locs ls hP hS hl => lv_ldiv C.1 C.2.1 hd hne (k C H locs ls hP hS hl)
theorem g_lrem {x y : Int64} (hd : decode I.2.1 pc = .ok (.lrem, 1)) (hne : ¬ y = 0) (k : G E X I S (pc + 1) L (.long (x - x / y * y) :: st)) : G E X I S pc L (.long y :: .long x :: st) := fun C H locs ls hP hS hl => lv_lrem C.1 C.2.1 hd hne (k C H locs ls hP hS hl)
theorem g_lcmp {x y : Int64} (hd : decode I.2.1 pc = .ok (.lcmp, 1)) (k : G E X I S (pc + 1) L (.int (lg_cmp x y) :: st)) : G E X I S pc L (.long y :: .long x :: st) := fun C H locs ls hP hS hl => W.lcmp C.1 C.2.1 hd (k C H locs ls hP hS hl)
theorem g_i2l {x : Int32} (hd : decode I.2.1 pc = .ok (.i2l, 1)) (k : G E X I S (pc + 1) L (.long x.toInt64 :: st)) : G E X I S pc L (.int x :: st) := fun C H locs ls hP hS hl => lv_i2l C.1 C.2.1 hd rfl (k C H locs ls hP hS hl)
theorem g_l2i {x : Int64} (hd : decode I.2.1 pc = .ok (.l2i, 1)) (k : G E X I S (pc + 1) L (.int x.toInt32 :: st)) : G E X I S pc L (.long x :: st) := fun C H locs ls hP hS hl => lv_l2i C.1 C.2.1 hd rfl (k C H locs ls hP hS hl)
theorem g_i2b {x : Int32} (hd : decode I.2.1 pc = .ok (.i2b, 1)) (k : G E X I S (pc + 1) L (.int x.toInt8.toInt32 :: st)) : G E X I S pc L (.int x :: st) := fun C H locs ls hP hS hl => lv_i2b C.1 C.2.1 hd rfl (k C H locs ls hP hS hl)
theorem g_iushr {x y : Int32} (hd : decode I.2.1 pc = .ok (.iushr, 1)) (k : G E X I S (pc + 1) L (.int ((x.toUInt32 >>> (y.toUInt32 &&& Int32.toUInt32 31)).toInt32) :: st)) : G E X I S pc L (.int y :: .int x :: st) := fun C H locs ls hP hS hl => lv_iushr C.1 C.2.1 hd rfl (k C H locs ls hP hS hl)
theorem g_dup {va : Value} (hd : decode I.2.1 pc = .ok (.dup, 1)) (h1 : va.category = 1) (k : G E X I S (pc + 1) L (va :: va :: st)) : G E X I S pc L (va :: st) := fun C H locs ls hP hS hl => lv_dup C.1 C.2.1 hd h1 (k C H locs ls hP hS hl)
theorem g_pop {va : Value} (hd : decode I.2.1 pc = .ok (.pop, 1)) (h1 : va.category = 1) (k : G E X I S (pc + 1) L (st)) : G E X I S pc L (va :: st) := fun C H locs ls hP hS hl => lv_pop C.1 C.2.1 hd h1 (k C H locs ls hP hS hl)
theorem g_dup2 {va vb : Value} (hd : decode I.2.1 pc = .ok (.dup2, 1)) (h1 : va.category = 1) (h2 : vb.category = 1) (k : G E X I S (pc + 1) L (va :: vb :: va :: vb :: st)) : G E X I S pc L (va :: vb :: st) := fun C H locs ls hP hS hl => lv_dup2_11 C.1 C.2.1 hd h1 h2 (k C H locs ls hP hS hl)
theorem g_null  (hd : decode I.2.1 pc = .ok (.aconst_null, 1)) (k : G E X I S (pc + 1) L (.null :: st)) : G E X I S pc L (st) := fun C H locs ls hP hS hl => lv_null C.1 C.2.1 hd (k C H locs ls hP hS hl)
theorem g_goto {off : Int} {tgt : Nat} (hd : decode I.2.1 pc = .ok (.goto off, 3)) (ht : (pc : Int) + off = (tgt : Int)) (k : G E X I S tgt L st) : G E X I S pc L st := fun C H locs ls hP hS hl => lv_goto C.1 C.2.1 hd ht (k C H locs ls hP hS hl)
theorem g_if_eq {x : Int32} {off : Int} {tgt : Nat} (hd : decode I.2.1 pc = .ok (.ifCond .eq off, 3)) (ht : (pc : Int) + off = (tgt : Int)) (kt : x = 0 → G E X I S tgt L st) (kf : ¬ x = 0 → G E X I S (pc + 3) L st) : G E X I S pc L (.int x :: st) := fun C H locs ls hP hS hl => lv_if_eq C.1 C.2.1 hd ht (fun q => kt q C H locs ls hP hS hl) (fun q => kf q C H locs ls hP hS hl)
theorem g_icmp_eq {x y : Int32} {off : Int} {tgt : Nat} (hd : decode I.2.1 pc = .ok (.if_icmp .eq off, 3)) (ht : (pc : Int) + off = (tgt : Int)) (kt : x = y → G E X I S tgt L st) (kf : ¬ x = y → G E X I S (pc + 3) L st) : G E X I S pc L (.int y :: .int x :: st) := fun C H locs ls hP hS hl => lv_icmp_eq C.1 C.2.1 hd ht (fun q => kt q C H locs ls hP hS hl) (fun q => kf q C H locs ls hP hS hl)
theorem g_if_ne {x : Int32} {off : Int} {tgt : Nat} (hd : decode I.2.1 pc = .ok (.ifCond .ne off, 3)) (ht : (pc : Int) + off = (tgt : Int)) (kt : ¬ x = 0 → G E X I S tgt L st) (kf : x = 0 → G E X I S (pc + 3) L st) : G E X I S pc L (.int x :: st) := fun C H locs ls hP hS hl => lv_if_ne C.1 C.2.1 hd ht (fun q => kt q C H locs ls hP hS hl) (fun q => kf q C H locs ls hP hS hl)
theorem g_icmp_ne {x y : Int32} {off : Int} {tgt : Nat} (hd : decode I.2.1 pc = .ok (.if_icmp .ne off, 3)) (ht : (pc : Int) + off = (tgt : Int)) (kt : ¬ x = y → G E X I S tgt L st) (kf : x = y → G E X I S (pc + 3) L st) : G E X I S pc L (.int y :: .int x :: st) := fun C H locs ls hP hS hl => lv_icmp_ne C.1 C.2.1 hd ht (fun q => kt q C H locs ls hP hS hl) (fun q => kf q C H locs ls hP hS hl)
theorem g_if_lt {x : Int32} {off : Int} {tgt : Nat} (hd : decode I.2.1 pc = .ok (.ifCond .lt off, 3)) (ht : (pc : Int) + off = (tgt : Int)) (kt : x < 0 → G E X I S tgt L st) (kf : ¬ x < 0 → G E X I S (pc + 3) L st) : G E X I S pc L (.int x :: st) := fun C H locs ls hP hS hl => lv_if_lt C.1 C.2.1 hd ht (fun q => kt q C H locs ls hP hS hl) (fun q => kf q C H locs ls hP hS hl)
theorem g_icmp_lt {x y : Int32} {off : Int} {tgt : Nat} (hd : decode I.2.1 pc = .ok (.if_icmp .lt off, 3)) (ht : (pc : Int) + off = (tgt : Int)) (kt : x < y → G E X I S tgt L st) (kf : ¬ x < y → G E X I S (pc + 3) L st) : G E X I S pc L (.int y :: .int x :: st) := fun C H locs ls hP hS hl => lv_icmp_lt C.1 C.2.1 hd ht (fun q => kt q C H locs ls hP hS hl) (fun q => kf q C H locs ls hP hS hl)
theorem g_if_ge {x : Int32} {off : Int} {tgt : Nat} (hd : decode I.2.1 pc = .ok (.ifCond .ge off, 3)) (ht : (pc : Int) + off = (tgt : Int)) (kt : 0 ≤ x → G E X I S tgt L st) (kf : ¬ 0 ≤ x → G E X I S (pc + 3) L st) : G E X I S pc L (.int x :: st) := fun C H locs ls hP hS hl => lv_if_ge C.1 C.2.1 hd ht (fun q => kt q C H locs ls hP hS hl) (fun q => kf q C H locs ls hP hS hl)
theorem g_icmp_ge {x y : Int32} {off : Int} {tgt : Nat} (hd : decode I.2.1 pc = .ok (.if_icmp .ge off, 3)) (ht : (pc : Int) + off = (tgt : Int)) (kt : y ≤ x → G E X I S tgt L st) (kf : ¬ y ≤ x → G E X I S (pc + 3) L st) : G E X I S pc L (.int y :: .int x :: st) := fun C H locs ls hP hS hl => lv_icmp_ge C.1 C.2.1 hd ht (fun q => kt q C H locs ls hP hS hl) (fun q => kf q C H locs ls hP hS hl)
theorem g_if_gt {x : Int32} {off : Int} {tgt : Nat} (hd : decode I.2.1 pc = .ok (.ifCond .gt off, 3)) (ht : (pc : Int) + off = (tgt : Int)) (kt : 0 < x → G E X I S tgt L st) (kf : ¬ 0 < x → G E X I S (pc + 3) L st) : G E X I S pc L (.int x :: st) := fun C H locs ls hP hS hl => lv_if_gt C.1 C.2.1 hd ht (fun q => kt q C H locs ls hP hS hl) (fun q => kf q C H locs ls hP hS hl)
theorem g_icmp_gt {x y : Int32} {off : Int} {tgt : Nat} (hd : decode I.2.1 pc = .ok (.if_icmp .gt off, 3)) (ht : (pc : Int) + off = (tgt : Int)) (kt : y < x → G E X I S tgt L st) (kf : ¬ y < x → G E X I S (pc + 3) L st) : G E X I S pc L (.int y :: .int x :: st) := fun C H locs ls hP hS hl => lv_icmp_gt C.1 C.2.1 hd ht (fun q => kt q C H locs ls hP hS hl) (fun q => kf q C H locs ls hP hS hl)
theorem g_if_le {x : Int32} {off : Int} {tgt : Nat} (hd : decode I.2.1 pc = .ok (.ifCond .le off, 3)) (ht : (pc : Int) + off = (tgt : Int)) (kt : x ≤ 0 → G E X I S tgt L st) (kf : ¬ x ≤ 0 → G E X I S (pc + 3) L st) : G E X I S pc L (.int x :: st) := fun C H locs ls hP hS hl => lv_if_le C.1 C.2.1 hd ht (fun q => kt q C H locs ls hP hS hl) (fun q => kf q C H locs ls hP hS hl)
theorem g_icmp_le {x y : Int32} {off : Int} {tgt : Nat} (hd : decode I.2.1 pc = .ok (.if_icmp .le off, 3)) (ht : (pc : Int) + off = (tgt : Int)) (kt : x ≤ y → G E X I S tgt L st) (kf : ¬ x ≤ y → G E X I S (pc + 3) L st) : G E X I S pc L (.int y :: .int x :: st) := fun C H locs ls hP hS hl => lv_icmp_le C.1 C.2.1 hd ht (fun q => kt q C H locs ls hP hS hl) (fun q => kf q C H locs ls hP hS hl)
theorem g_ifnull {x : Nat} {off : Int} (hd : decode I.2.1 pc = .ok (.ifnull off, 3)) (k : G E X I S (pc + 3) L st) : G E X I S pc L (.ref x :: st) := fun C H locs ls hP hS hl => lv_ifnull C.1 C.2.1 hd (k C H locs ls hP hS hl)
theorem g_ifnullN {off : Int} {tgt : Nat} (hd : decode I.2.1 pc = .ok (.ifnull off, 3)) (ht : (pc : Int) + off = (tgt : Int)) (k : G E X I S tgt L st) : G E X I S pc L (.null :: st) := fun C H locs ls hP hS hl => lv_ifnullN C.1 C.2.1 hd ht (k C H locs ls hP hS hl)
theorem g_ifnonnull {x : Nat} {off : Int} {tgt : Nat} (hd : decode I.2.1 pc = .ok (.ifnonnull off, 3)) (ht : (pc : Int) + off = (tgt : Int)) (k : G E X I S tgt L st) : G E X I S pc L (.ref x :: st) := fun C H locs ls hP hS hl => lv_ifnonnull C.1 C.2.1 hd ht (k C H locs ls hP hS hl)
theorem g_ifnonnullN {off : Int} (hd : decode I.2.1 pc = .ok (.ifnonnull off, 3)) (k : G E X I S (pc + 3) L st) : G E X I S pc L (.null :: st) := fun C H locs ls hP hS hl => lv_ifnonnullN C.1 C.2.1 hd (k C H locs ls hP hS hl)
theorem g_ldc {index : Nat} {v : Int32} (hw : Cond.constant I.1.cls index v ∈ TT) (hd : decode I.2.1 pc = .ok (.ldc index, 2)) (k : G E X I S (pc + 2) L (.int v :: st)) : G E X I S pc L st := fun C H locs ls hP hS hl => lv_ldc C.1 C.2.1 C.2.2.2.1 (C.2.2.2.2.1 _ hw) hd (k C H locs ls hP hS hl)
theorem g_ldcw {index : Nat} {v : Int32} (hw : Cond.constant I.1.cls index v ∈ TT) (hd : decode I.2.1 pc = .ok (.ldc_w index, 3)) (k : G E X I S (pc + 3) L (.int v :: st)) : G E X I S pc L st := fun C H locs ls hP hS hl => lv_ldcw C.1 C.2.1 C.2.2.2.1 (C.2.2.2.2.1 _ hw) hd (k C H locs ls hP hS hl)
theorem g_ldc2 {index : Nat} {v : Int64} (hw : Cond.constantLong I.1.cls index v ∈ TT) (hd : decode I.2.1 pc = .ok (.ldc2_w index, 3)) (k : G E X I S (pc + 3) L (.long v :: st)) : G E X I S pc L st := fun C H locs ls hP hS hl => lv_ldc2 C.1 C.2.1 C.2.2.2.1 (C.2.2.2.2.1 _ hw) hd (k C H locs ls hP hS hl)
theorem g_tsOut {dflt lo hi : Int} {offs : Array Int} {len : Nat} {x : Int32} {tgt : Nat} (hd : decode I.2.1 pc = .ok (.tableswitch dflt lo hi offs, len)) (h : x.toInt < lo ∨ hi < x.toInt) (ht : (pc : Int) + dflt = (tgt : Int)) (k : G E X I S tgt L st) : G E X I S pc L (.int x :: st) := fun C H locs ls hP hS hl => lv_tableOut C.1 C.2.1 hd h ht (k C H locs ls hP hS hl)
theorem g_tsIn {dflt lo hi : Int} {offs : Array Int} {len : Nat} {x : Int32} {off : Int} {tgt : Nat} (hd : decode I.2.1 pc = .ok (.tableswitch dflt lo hi offs, len)) (h1 : ¬ x.toInt < lo) (h2 : ¬ hi < x.toInt) (ho : offs[(x.toInt - lo).toNat]? = some off) (ht : (pc : Int) + off = (tgt : Int)) (k : G E X I S tgt L st) : G E X I S pc L (.int x :: st) := fun C H locs ls hP hS hl => lv_tableIn C.1 C.2.1 hd h1 h2 ho ht (k C H locs ls hP hS hl)
theorem g_lookup {dflt : Int} {ps : Array (Int × Int)} {len : Nat} {x : Int32} {off : Int} {tgt : Nat} (hd : decode I.2.1 pc = .ok (.lookupswitch dflt ps, len)) (hp : (ps.toList.zip (ps.toList.drop 1)).all (fun (a, next) => a.1 < next.1) = true) (ho : Op.lookupswitch.offset ps.toList dflt x.toInt = off) (ht : (pc : Int) + off = (tgt : Int)) (k : G E X I S tgt L st) : G E X I S pc L (.int x :: st) := fun C H locs ls hP hS hl => lv_lookup C.1 C.2.1 hd hp ho ht (k C H locs ls hP hS hl)
/-- fewer locals, in any order -/
theorem g_sub {L' : List (Nat × Value)} (ks : List Nat) (hk : lv_pick L ks = L') (k : G E X I S pc L' st) : G E X I S pc L st := fun C H locs ls hP hS hl => k C H locs ls hP hS (lv_sub hl ks hk)
/-- the same point, told otherwise -/
theorem g_eq {S' : St} {L' : List (Nat × Value)} {st' : List Value} (h1 : S = S') (h2 : L = L') (h3 : st = st') (k : G E X I S' pc L' st') : G E X I S pc L st := by subst h1; subst h2; subst h3; exact k
theorem Kn_call {A : Nat → Prop} {s U : State} {H : Heap} {locs : List Loc} (h : Kn E A s) (hA : ∀ q, AD E q → A q) (hS : va_S A s.heap H locs) (hU : U.heap = H) (hW : s.WarmedH U.vm) : Kn E (AD E) U := by
  obtain ⟨h1, h2, ⟨h3, h4⟩, h5⟩ := h
  refine ⟨va_K.moved hW.alike h1, va_Nw.warmM hW h2, ⟨?_, ?_⟩, h5⟩
  · rw [hU]
    exact ((h3.kept hS.2.1).moved hW.alike).narrow hA
  · rw [hU]
    exact ((h4.kept hS.2.1).moved hW.alike).narrow hA
theorem Kn_blind {A : Nat → Prop} {U : State} (a : Array Value) (g : JFrame) (mk : MethodId) (h : Kn E A U) : Kn E A (U.calling g mk a) := by
  obtain ⟨h1, h2, ⟨h3, h4⟩, h5⟩ := h
  exact ⟨va_K.moved (u := U) (U := U.calling g mk a) (Vm.Alike.refl U.vm) h1, va_Nw.same rfl rfl h2, ⟨h3.moved (u := U) (U := U.calling g mk a) (Vm.Alike.refl U.vm), h4.moved (u := U) (U := U.calling g mk a) (Vm.Alike.refl U.vm)⟩, h5⟩
/-- what comes of a run of a callee -/
theorem g_runB {p : Program} {e : Env} {R : Room} {s : State} {m : MethodId} {args a : Array Value} {below : List Frame} {meth : Method} {c : Code} {H : Heap} {locs : List Loc} {cells slots : Nat} {Q : State → Prop} {ls : Array Slot} {rest st0 : List Value} {A : Nat → Prop} {Post : St → Option Value → Prop}
    (hr : va_Run p (eN E) e R s m args below meth c H locs cells slots 0 0 (F0 m pc ls st0) rest (Qg E Post a) (AD E)) (hS : va_S A s.heap H locs) (hA : ∀ q, AD E q → A q)
    (kk : ∀ (S' : St) (r : Option Value) (H1 : Heap) (locs1 : List Loc), Post S' r → va_P (eD E) vwCl (wd E S') H1 → va_S A s.heap H1 locs1 → W p (eN E) e R s m args below meth c H1 locs1 cells slots Q (F0 m (pc + 3) ls (r.toList ++ rest))) : W p (eN E) e R s m args below meth c H locs cells slots Q (F0 m pc ls st0) := by
  intro T hT Y
  obtain ⟨v, st₀, t, T', Lc, h0, Y', hL, e1, e2, ⟨⟨S', r, hv, hp, hb⟩, hz, hk⟩, go⟩ := hr T hT Y
  cases hv
  rw [h0] at hz hk
  obtain ⟨t2, a1, b1⟩ := kk S' v T'.heap (locs ++ Lc) hp (by rw [e1]; exact hb)
    ⟨Nat.le_trans hS.1 (by rw [e1]; exact hz), fun q h1 h2 => by rw [e1, hk q (Nat.lt_of_lt_of_le h1 hS.1) (fun z => h2 (hA q z))]; exact hS.2.1 q h1 h2, fun q hq => by
      rcases List.mem_append.mp hq with h | h
      · exact hS.2.2 q h
      · exact hA _ (hL q h)⟩ T' rfl Y'
  exact ⟨t2, go t2 a1, b1⟩
theorem AD_A {A : Nat → Prop} (h : ∀ k, k < 72 → A (eA E k)) : ∀ q, AD E q → A q := by
  rintro q ⟨k, hk, rfl⟩
  exact h k hk
/-- a cell is an object of that class -/
def rcv (E : En) (S : St) (C : String) (k : Nat) : Prop := k < 72 ∧ ∃ (ci : Nat) (fs : List Value) (q : vw_C), cell E S k = .inr (ci, fs) ∧ vwCl[ci]? = some q ∧ q.1 = C
theorem g_invR {J : Ym} {n idx : Nat} {k : Nat} {As L2 : List Value} {Post : St → Option Value → Prop} (hJ : JV J n) (hm : Cond.methodLink I.1.cls idx J.1 ∈ TT) (hd : decode I.2.1 pc = .ok (.invokevirtual idx, 3)) (hk : rcv E S J.1.cls k) (hn : As.length = n) (hc : CT E J S (.ref (eA E k) :: As) Post)
    (hdep : J.2.2.2.2 + 1 ≤ I.2.2.2.2) (hnl : J.2.2.1 ≤ 18) (hst : st = As.reverse ++ .ref (eA E k) :: L2) (hrest : (L2.map fun v => v.category).sum ≤ 8)
    (kk : ∀ (S' : St) (r : Option Value), Post S' r → G E X I S' (pc + 3) L (r.toList ++ L2)) : G E X I S pc L st := by
  intro C H locs ls hP hS hl
  obtain ⟨hx, hb, hml, hown, hts, hK, hA, hlk, ⟨hf, hlo⟩, hcc, hss⟩ := id C
  obtain ⟨hJ1, hJ2⟩ := hJ
  obtain ⟨hk1, ci, fs, q, hk2, hk3, hk4⟩ := hk
  have hAD := AD_A hA
  have hpg : ∀ w ∈ wsD J, w ∈ TT ∧ ((w.onTables && w.keeps) = true ∨ ∃ ty, w = .arrayClass ty) := by
    intro w hw
    rcases List.mem_cons.mp hw with rfl | hw
    · exact hJ2 _ (by simp)
    · exact TT_ok w hw
  have cb : CallB (xR X) (xs X) (xa X) I.1.cls idx J.1 J.2.1 J.2.2.1 J.2.2.2.1 (wsD J) (rmD J.2.2.2.2) 0 0 n := callB_of n hts hpg rfl rfl rfl (hts _ (hJ2 _ (by simp)).1) (hts _ hm) hJ1 ⟨by show J.2.2.2.2 + 1 ≤ _; omega, by show 8 + (J.2.2.1 + 11) + 37 * J.2.2.2.2 ≤ _; omega⟩
  have hrun := va_runV (C := J.1.cls) (y := J.1) (l := eN E) (e := xe X) (below := xb X) (meth := xM X) (locs := locs) (cells := xk X) (slots := xn X) (rest := L2) (g := F0 (xm X) pc ls st) (nL := I.2.2.1) (H := H) (Ts := TT) ⟨hx, hb, hml, hown, hts⟩ hc ⟨cb, hts _ (hJ2 _ (by simp)).1, hts _ (hJ2 _ (by simp)).1⟩
    ⟨fun a U g mk z => ⟨z.1, z.2.1, Kn_blind a g mk z.2.2⟩, hk4 ▸ va_recv hK.1 hP hk3 ((wd_get hk1).trans (by rw [hk2])), fun U hU hW => ⟨rfl, by rw [hU]; exact hP, Kn_call hK hAD hS hU hW⟩⟩
    rfl hn hl.1 hst (lv_room hrest) hd ⟨by omega, by omega⟩
  exact g_runB hrun hS hAD (fun S' r H1 locs1 hp hP1 hS1 => kk S' r hp C H1 locs1 ls hP1 hS1 hl)
theorem g_invSR {J : Ym} {n idx : Nat} {As L2 : List Value} {Post : St → Option Value → Prop} (hJ : JS J n) (hm : Cond.methodLink I.1.cls idx J.1 ∈ TT) (hd : decode I.2.1 pc = .ok (.invokestatic idx, 3)) (hn : As.length = n) (hc : CT E J S As Post)
    (hdep : J.2.2.2.2 + 1 ≤ I.2.2.2.2) (hnl : J.2.2.1 ≤ 18) (hst : st = As.reverse ++ L2) (hrest : (L2.map fun v => v.category).sum ≤ 8)
    (kk : ∀ (S' : St) (r : Option Value), Post S' r → G E X I S' (pc + 3) L (r.toList ++ L2)) : G E X I S pc L st := by
  intro C H locs ls hP hS hl
  obtain ⟨hx, hb, hml, hown, hts, hK, hA, hlk, ⟨hf, hlo⟩, hcc, hss⟩ := id C
  obtain ⟨hJ1, hJ2⟩ := hJ
  have hAD := AD_A hA
  have hpg : ∀ w ∈ wsD J, w ∈ TT ∧ ((w.onTables && w.keeps) = true ∨ ∃ ty, w = .arrayClass ty) := by
    intro w hw
    rcases List.mem_cons.mp hw with rfl | hw
    · exact hJ2 _ (by simp)
    · exact TT_ok w hw
  have cb : CallB (xR X) (xs X) (xa X) I.1.cls idx J.1 J.2.1 J.2.2.1 J.2.2.2.1 (wsD J) (rmD J.2.2.2.2) 0 0 n := callB_of n hts hpg rfl rfl rfl (hts _ (hJ2 _ (by simp)).1) (hts _ hm) hJ1 ⟨by show J.2.2.2.2 + 1 ≤ _; omega, by show 8 + (J.2.2.1 + 11) + 37 * J.2.2.2.2 ≤ _; omega⟩
  have hrun := va_runS (y := J.1) (l := eN E) (e := xe X) (below := xb X) (meth := xM X) (locs := locs) (cells := xk X) (slots := xn X) (rest := L2) (g := F0 (xm X) pc ls st) (nL := I.2.2.1) (H := H) (Ts := TT) ⟨hx, hb, hml, hown, hts⟩ hc ⟨cb, hts _ (hJ2 _ (by simp)).1⟩
    ⟨fun a U g mk z => ⟨z.1, z.2.1, Kn_blind a g mk z.2.2⟩, fun U hU hW => ⟨rfl, by rw [hU]; exact hP, Kn_call hK hAD hS hU hW⟩⟩
    rfl hn hl.1 hst (lv_room hrest) hd ⟨by omega, by omega⟩
  exact g_runB hrun hS hAD (fun S' r H1 locs1 hp hP1 hS1 => kk S' r hp C H1 locs1 ls hP1 hS1 hl)
end GR
