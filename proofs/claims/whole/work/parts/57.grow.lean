/-! A GROWING WORLD: the layer of the constructors -/
def wq (a : Nat → Nat) (c : Nat → va_E) (n : Nat) : va_W := (List.range n).map (fun k => (a k, c k))
def ua (a : Nat → Nat) (n q : Nat) : Nat → Nat := fun i => if i = n then q else a i
def uc (c : Nat → va_E) (n : Nat) (e : va_E) : Nat → va_E := fun i => if i = n then e else c i
theorem wq_get {a : Nat → Nat} {c : Nat → va_E} {n k : Nat} (h : k < n) : (wq a c n)[k]? = some (a k, c k) := by simp [wq, h]
theorem wq_len {a : Nat → Nat} {c : Nat → va_E} {n : Nat} : (wq a c n).length = n := by simp [wq]
theorem wq_set {a : Nat → Nat} {c : Nat → va_E} {n k : Nat} {e : va_E} (h : k < n) : (wq a c n).set k (a k, e) = wq a (uc c k e) n := by
  refine List.ext_getElem? fun i => ?_
  by_cases hi : i < n
  · rw [wq_get hi]
    by_cases hk : i = k
    · subst hk
      rw [List.getElem?_set_self (by rw [wq_len]; exact h)]
      unfold uc
      rw [if_pos rfl]
    · rw [List.getElem?_set_ne (fun z => hk z.symm), wq_get hi]
      unfold uc
      rw [if_neg hk]
  · rw [List.getElem?_eq_none (by rw [List.length_set, wq_len]; omega), List.getElem?_eq_none (by rw [wq_len]; omega)]
theorem wq_app {a : Nat → Nat} {c : Nat → va_E} {n q : Nat} {e : va_E} : wq a c n ++ [(q, e)] = wq (ua a n q) (uc c n e) (n + 1) := by
  refine List.ext_getElem? fun i => ?_
  by_cases hi : i < n
  · rw [List.getElem?_append_left (by rw [wq_len]; exact hi), wq_get hi, wq_get (show i < n + 1 by omega)]
    unfold ua uc
    rw [if_neg (by omega), if_neg (by omega)]
  · by_cases hn : i = n
    · subst hn
      rw [List.getElem?_append_right (by rw [wq_len]; omega), wq_len, Nat.sub_self, wq_get (show i < i + 1 by omega)]
      unfold ua uc
      rw [if_pos rfl, if_pos rfl]
      rfl
    · rw [List.getElem?_eq_none (by rw [List.length_append, wq_len]; show n + 1 ≤ i; omega), List.getElem?_eq_none (by rw [wq_len]; omega)]
theorem uc_s {c : Nat → va_E} {n : Nat} {e : va_E} : uc c n e n = e := if_pos rfl
theorem uc_n {c : Nat → va_E} {n i : Nat} {e : va_E} (h : i ≠ n) : uc c n e i = c i := if_neg h
theorem ua_s {a : Nat → Nat} {n q : Nat} : ua a n q n = q := if_pos rfl
theorem ua_n {a : Nat → Nat} {n q i : Nat} (h : i ≠ n) : ua a n q i = a i := if_neg h
/-- what is known of the tables, with the three nest mates' links -/
def KN (E : En) (U : State) : Prop := va_K (eD E) vwCl (tysE E) U ∧ (va_AO "GlowDebts$Strip" U ∧ va_AO "GlowDebts$Bank" U) ∧ va_Nw (.methodLinkNest RX8 20 yX0_init "GlowDebts") U ∧ va_Nw (.methodLinkNest RX8 31 yX4_init "GlowDebts") U ∧ va_Nw (.methodLinkNest RX8 38 yX1_init "GlowDebts") U
theorem KN_call {E : En} {s U : State} (h : KN E s) (hW : s.WarmedH U.vm) : KN E U := ⟨va_K.moved hW.alike h.1, ⟨va_AO.moved hW.alike h.2.1.1, va_AO.moved hW.alike h.2.1.2⟩, va_Nw.warmM hW h.2.2.1, va_Nw.warmM hW h.2.2.2.1, va_Nw.warmM hW h.2.2.2.2⟩
theorem KN_blind {E : En} {U : State} (a : Array Value) (g : JFrame) (mk : MethodId) (h : KN E U) : KN E (U.calling g mk a) := ⟨va_K.moved (u := U) (U := U.calling g mk a) (Vm.Alike.refl U.vm) h.1, ⟨va_AO.moved (u := U) (U := U.calling g mk a) (Vm.Alike.refl U.vm) h.2.1.1, va_AO.moved (u := U) (U := U.calling g mk a) (Vm.Alike.refl U.vm) h.2.1.2⟩, va_Nw.same rfl rfl h.2.2.1, va_Nw.same rfl rfl h.2.2.2.1, va_Nw.same rfl rfl h.2.2.2.2⟩
abbrev rmN (d mc ms : Nat) : Room := { frames := d, cells := mc, slots := ms, locals := 37 * d }
abbrev Qn (E : En) (A : Nat → Prop) (Post : (Nat → Nat) → (Nat → va_E) → Nat → Prop) : Array Value → State → Outcome → State → Prop := va_Qv (fun u : (Nat → Nat) × (Nat → va_E) × Nat => Post u.1 u.2.1 u.2.2) (fun u t => va_P (eD E) vwCl (wq u.1 u.2.1 u.2.2) t.heap ∧ va_D A (wq u.1 u.2.1 u.2.2)) A
/-- A CONSTRUCTOR'S CONTRACT: from the world of n cells it returns, with Post of the world behind it -/
def NT (E : En) (I : Ym) (mc ms : Nat) (a : Nat → Nat) (c : Nat → va_E) (n sz : Nat) (args : List Value) (Post : (Nat → Nat) → (Nat → va_E) → Nat → Prop) : Prop :=
  Met (eN E) I.1 (wsD I) (rmN I.2.2.2.2 mc ms) (va_Pc args (fun U => U.heap.size = sz ∧ va_P (eD E) vwCl (wq a c n) U.heap ∧ KN E U ∧ va_D (fun _ => True) (wq a c n))) (Qn E (va_A (wq a c n) sz) Post) mc ms (va_A (wq a c n) sz)
def CN (E : En) (X : Xt) (I : Ym) : Prop := (xp X).tables.exec = Jvm.exec ∧ (xc X).code = I.2.1 ∧ (xc X).maxLocals = I.2.2.1 ∧ (xs X).vm.findClass I.1.cls = some (xm X).cls ∧ (∀ w ∈ TT, w.before (xa X) (xs X) = true) ∧ KN E (xs X) ∧ (∀ q, (xs X).heap.size ≤ q → xA X q) ∧ (xM X).locks = false ∧ (I.2.2.2.2 ≤ (xR X).frames ∧ 37 * I.2.2.2.2 ≤ (xR X).locals) ∧ (I.1.name = "<init>" → (xM X).name = "<init>")
def NG (E : En) (X : Xt) (I : Ym) (a : Nat → Nat) (c : Nat → va_E) (n kc ks : Nat) (pc : Nat) (L : List (Nat × Value)) (st : List Value) : Prop :=
  CN E X I → ∀ (H : Heap) (locs : List Loc) (ls : Array Slot), va_P (eD E) vwCl (wq a c n) H → va_D (xA X) (wq a c n) → va_S (xA X) (xs X).heap H locs → lv_has ls I.2.2.1 L → W (xp X) (eN E) (xe X) (xR X) (xs X) (xm X) (xa X) (xb X) (xM X) (xc X) H locs kc ks (xQ X) (F0 (xm X) pc ls st)
def NX (E : En) (X : Xt) (I : Ym) (mc ms : Nat) (Post : (Nat → Nat) → (Nat → va_E) → Nat → Prop) : Prop := xQ X = MQ (xb X) (Qn E (xA X) Post) (xa X) (xs X) mc ms (xA X) ∧ (xM X).sig.returnType = I.2.2.2.1 ∧ mc ≤ (xR X).cells ∧ ms ≤ (xR X).slots
theorem nt_of {E : En} {I : Ym} {mc ms : Nat} {a : Nat → Nat} {c : Nat → va_E} {n sz : Nat} {args : List Value} {Post : (Nat → Nat) → (Nat → va_E) → Nat → Prop} (L : List (Nat × Value)) (hy : plainName I.1.cls = true) (hlen : (lg_sl args).length ≤ I.2.2.1) (hL : lv_args 0 args = L) (hg : ∀ X, NX E X I mc ms Post → NG E X I a c n 0 0 0 L []) : NT E I mc ms a c n sz args Post := by
  refine Met.ofW (cc := I.2.1) (maxL := I.2.2.1) (ret := I.2.2.2.1) hy rfl ?_
  intro p e s m as below meth cd s₁ B hml hv
  obtain ⟨rfl, hsz, hP, hK, hD0⟩ := hv
  have hown : s.vm.findClass I.1.cls = some m.cls := findClass_of_methodNamed B.named
  have hts := atoms_spec (ws := wsD I) B.pre
  have hin := (name_of_methodNamed B.named B.method).1
  have hl := lv_entry args (n := I.2.2.1) hlen
  rw [lg_entry_eq]
  generalize (lg_sl args ++ List.replicate (I.2.2.1 - (lg_sl args).length) Slot.unset).toArray = ls at hl ⊢
  rw [hL] at hl
  subst hsz
  have hD := hD0.self (sz := s.heap.size)
  exact hg ((p, e, rmN I.2.2.2.2 mc ms, s), (m, args.toArray, below, meth, cd), (0, 0), va_A (wq a c n) s.heap.size, MQ below (Qn E (va_A (wq a c n) s.heap.size) Post) args.toArray s mc ms (va_A (wq a c n) s.heap.size)) ⟨rfl, B.returns, Nat.le_refl _, Nat.le_refl _⟩
    ⟨B.exec, B.bytes, hml, hown, fun w hw => hts w (List.mem_cons_of_mem _ hw), hK, fun q h => Or.inr h, B.notSynchronized, ⟨Nat.le_refl _, Nat.le_refl _⟩, fun z => hin.trans z⟩ s.heap [] ls hP hD va_S.rf hl
section NR
variable {E : En} {X : Xt} {I : Ym} {a : Nat → Nat} {c : Nat → va_E} {n kc ks : Nat} {pc : Nat} {L : List (Nat × Value)} {st : List Value}
theorem n_iconst {m : Int} {v : Int32} (hd : decode I.2.1 pc = .ok (.iconst m, 1)) (hv : Int32.ofInt m = v) (k : NG E X I a c n kc ks (pc + 1) L (.int v :: st)) : NG E X I a c n kc ks pc L st := fun C H locs ls hP hD hS hl => lv_iconst C.1 C.2.1 hd hv (k C H locs ls hP hD hS hl)
theorem n_bipush {m : Int} {v : Int32} (hd : decode I.2.1 pc = .ok (.bipush m, 2)) (hv : (Int8.ofInt m).toInt32 = v) (k : NG E X I a c n kc ks (pc + 2) L (.int v :: st)) : NG E X I a c n kc ks pc L st := fun C H locs ls hP hD hS hl => lv_bipush C.1 C.2.1 hd hv (k C H locs ls hP hD hS hl)
theorem n_sipush {m : Int} {v : Int32} (hd : decode I.2.1 pc = .ok (.sipush m, 3)) (hv : (Int16.ofInt m).toInt32 = v) (k : NG E X I a c n kc ks (pc + 3) L (.int v :: st)) : NG E X I a c n kc ks pc L st := fun C H locs ls hP hD hS hl => lv_sipush C.1 C.2.1 hd hv (k C H locs ls hP hD hS hl)
theorem n_lconst {m : Fin 2} {v : Int64} (hd : decode I.2.1 pc = .ok (.lconst m, 1)) (hv : Int64.ofNat (m : Nat) = v) (k : NG E X I a c n kc ks (pc + 1) L (.long v :: st)) : NG E X I a c n kc ks pc L st := fun C H locs ls hP hD hS hl => lv_lconst C.1 C.2.1 hd hv (k C H locs ls hP hD hS hl)
theorem n_iload {k : Fin 4} {i : Nat} {x : Int32} (hd : decode I.2.1 pc = .ok (.iload_n k, 1)) (j : Nat) (hi : (k : Nat) = i) (hj : L[j]? = some (i, .int x)) (kk : NG E X I a c n kc ks (pc + 1) L (.int x :: st)) : NG E X I a c n kc ks pc L st := fun C H locs ls hP hD hS hl => lv_iload_n C.1 C.2.1 hd hi (lv_at hl j hj) (kk C H locs ls hP hD hS hl)
theorem n_aload {k : Fin 4} {i : Nat} {x : Nat} (hd : decode I.2.1 pc = .ok (.aload_n k, 1)) (j : Nat) (hi : (k : Nat) = i) (hj : L[j]? = some (i, .ref x)) (kk : NG E X I a c n kc ks (pc + 1) L (.ref x :: st)) : NG E X I a c n kc ks pc L st := fun C H locs ls hP hD hS hl => lv_aload_n C.1 C.2.1 hd hi (lv_at hl j hj) (kk C H locs ls hP hD hS hl)
theorem n_istore {k : Fin 4} {i : Nat} {x : Int32} {L' : List (Nat × Value)} (hd : decode I.2.1 pc = .ok (.istore_n k, 1)) (hi : (k : Nat) = i) (hn : i + 1 ≤ I.2.2.1) (hl2 : (i, Value.int x) :: L.filter (fun q => !(q.1 == i) && !(q.1 + 1 == i && q.2.category == 2)) = L') (kk : NG E X I a c n kc ks (pc + 1) L' st) : NG E X I a c n kc ks pc L (Value.int x :: st) := fun C H locs ls hP hD hS hl => lv_istore_n C.1 C.2.1 hd hi hl hn hl2 (fun ls2 hl3 => kk C H locs ls2 hP hD hS hl3)
theorem n_astore {k : Fin 4} {i : Nat} {x : Nat} {L' : List (Nat × Value)} (hd : decode I.2.1 pc = .ok (.astore_n k, 1)) (hi : (k : Nat) = i) (hn : i + 1 ≤ I.2.2.1) (hl2 : (i, Value.ref x) :: L.filter (fun q => !(q.1 == i) && !(q.1 + 1 == i && q.2.category == 2)) = L') (kk : NG E X I a c n kc ks (pc + 1) L' st) : NG E X I a c n kc ks pc L (Value.ref x :: st) := fun C H locs ls hP hD hS hl => lv_astore_n C.1 C.2.1 hd hi hl hn hl2 (fun ls2 hl3 => kk C H locs ls2 hP hD hS hl3)
theorem n_iinc {i k : Nat} {m : Int} {x v : Int32} {L' : List (Nat × Value)} (hd : decode I.2.1 pc = .ok (.iinc i m, 3)) (hk : L[k]? = some (i, .int x)) (hv : x + Int32.ofInt m = v) (hn : i + 1 ≤ I.2.2.1) (hl2 : (i, Value.int v) :: L.filter (fun q => !(q.1 == i) && !(q.1 + 1 == i && q.2.category == 2)) = L') (kk : NG E X I a c n kc ks (pc + 3) L' st) : NG E X I a c n kc ks pc L st := fun C H locs ls hP hD hS hl => lv_iinc C.1 C.2.1 hd hl hk hv hn hl2 (fun ls2 hl3 => kk C H locs ls2 hP hD hS hl3)
theorem n_dup {va : Value} (hd : decode I.2.1 pc = .ok (.dup, 1)) (h1 : va.category = 1) (k : NG E X I a c n kc ks (pc + 1) L (va :: va :: st)) : NG E X I a c n kc ks pc L (va :: st) := fun C H locs ls hP hD hS hl => lv_dup C.1 C.2.1 hd h1 (k C H locs ls hP hD hS hl)
theorem n_goto {off : Int} {tgt : Nat} (hd : decode I.2.1 pc = .ok (.goto off, 3)) (ht : (pc : Int) + off = (tgt : Int)) (k : NG E X I a c n kc ks tgt L st) : NG E X I a c n kc ks pc L st := fun C H locs ls hP hD hS hl => lv_goto C.1 C.2.1 hd ht (k C H locs ls hP hD hS hl)
theorem n_icmp_ge {x y : Int32} {off : Int} {tgt : Nat} (hd : decode I.2.1 pc = .ok (.if_icmp .ge off, 3)) (ht : (pc : Int) + off = (tgt : Int)) (kt : y ≤ x → NG E X I a c n kc ks tgt L st) (kf : ¬ y ≤ x → NG E X I a c n kc ks (pc + 3) L st) : NG E X I a c n kc ks pc L (.int y :: .int x :: st) := fun C H locs ls hP hD hS hl => lv_icmp_ge C.1 C.2.1 hd ht (fun q => kt q C H locs ls hP hD hS hl) (fun q => kf q C H locs ls hP hD hS hl)
/-- more room than is used -/
theorem n_widen {kc' ks' : Nat} (h1 : kc ≤ kc') (h2 : ks ≤ ks') (k : NG E X I a c n kc' ks' pc L st) : NG E X I a c n kc ks pc L st := fun C H locs ls hP hD hS hl => W.widen h1 h2 (k C H locs ls hP hD hS hl)
theorem n_eq {a' : Nat → Nat} {c' : Nat → va_E} (h1 : ∀ k, k < n → a k = a' k) (h2 : ∀ k, k < n → c k = c' k) (k : NG E X I a' c' n kc ks pc L st) : NG E X I a c n kc ks pc L st := by
  have e : wq a c n = wq a' c' n := by
    unfold wq
    refine List.map_congr_left (fun k hk => ?_)
    rw [List.mem_range] at hk
    rw [h1 k hk, h2 k hk]
  intro C H locs ls hP hD hS hl
  rw [e] at hP hD
  exact k C H locs ls hP hD hS hl
theorem n_obj {idx : Nat} {x : Nat} (hm : Cond.methodLink I.1.cls idx objectInit ∈ TT) (hd : decode I.2.1 pc = .ok (.invokespecial idx, 3)) (h1 : 1 ≤ I.2.2.2.2) (h2 : (st.map fun v => v.category).sum + 12 ≤ 37) (k : NG E X I a c n kc ks (pc + 3) L st) : NG E X I a c n kc ks pc L (.ref x :: st) := fun C H locs ls hP hD hS hl =>
  W.objInit C.1 C.2.1 C.2.2.2.1 (C.2.2.2.2.1 _ hm) (C.2.2.2.2.1 _ (TT_t0 (List.mem_of_getElem? (i := 20) (by decide +kernel)) (by decide +kernel))) (C.2.2.2.2.1 _ (TT_t0 (List.mem_of_getElem? (i := 21) (by decide +kernel)) (by decide +kernel))) rfl (hl.1.trans C.2.2.1.symm) rfl hd (by have := C.2.2.2.2.2.2.2.2.1.1; omega) (by have := C.2.2.2.2.2.2.2.2.1.2; show 2 * 0 + _ + 12 ≤ _; omega) (k C H locs ls hP hD hS hl)
theorem n_new {idx ci N : Nat} {C0 : String} {T : u_T} {fs : List Value} (ty : Nat → FieldType) (hty : ∀ k, k < N → parseFieldDescriptor (T k).2.2.1 = some (ty k)) (hin : ∀ w ∈ u_ws C0 T N, w ∈ TT) (hcl : Cond.classLink I.1.cls idx C0 ∈ TT) (hinst : Cond.instantiable C0 N ∈ TT) (hini : Cond.initialized C0 ∈ TT) (hc : vwCl[ci]? = some (C0, T, N)) (hfs : ∀ j, j < N → defaultValue (ty j) = vp_V fs j) (hcells : kc + 1 ≤ (xR X).cells) (hslots : ks + N ≤ (xR X).slots) (hd : decode I.2.1 pc = .ok (.new idx, 3))
    (kk : ∀ q, NG E X I (ua a n q) (uc c n (.inr (ci, fs))) (n + 1) (kc + 1) (ks + N) (pc + 3) L (.ref q :: st)) : NG E X I a c n kc ks pc L st := fun C H locs ls hP hD hS hl =>
  va_new C.1 C.2.1 C.2.2.2.2.1 hin ty hty C.2.2.2.1 (C.2.2.2.2.1 _ hcl) (C.2.2.2.2.1 _ hinst) (C.2.2.2.2.1 _ hini) C.2.2.2.2.2.1.1 hP hD hS C.2.2.2.2.2.2.1 hc hfs hcells hslots hd (fun q H1 hP1 hD1 hS1 => by
    rw [wq_app] at hP1 hD1
    exact kk q C H1 locs ls hP1 hD1 hS1 hl)
theorem n_newa {m : Int32} {N' : Nat} (hn : m = nI N') (hb : N' < 2 ^ 20) (hcells : kc + 1 ≤ (xR X).cells) (hslots : ks + N' ≤ (xR X).slots) (hd : decode I.2.1 pc = .ok (.newarray .int, 2)) (harr : Cond.arrayClass .int ∈ TT)
    (kk : ∀ q, NG E X I (ua a n q) (uc c n (.inl (eI E, N', .inl (fun _ => 0)))) (n + 1) (kc + 1) (ks + N') (pc + 2) L (.ref q :: st)) : NG E X I a c n kc ks pc L (.int m :: st) := by
  subst hn
  intro C H locs ls hP hD hS hl
  refine va_newa (atype := .int) C.1 C.2.1 (C.2.2.2.2.1 _ harr) (ty := .int) rfl C.2.2.2.2.2.1.1 hP hD hS C.2.2.2.2.2.2.1 (a0 := (N', .inl (fun _ => 0))) (fun _ => rfl) (nI_pos (by omega)) (nI_clamp (by omega)) (by show N' * 4 ≤ _; omega) hcells hslots hd (fun q cA H1 hK1 hP1 hD1 hS1 => ?_)
  have e : cA = eI E := by
    have h1 := va_nm_int (hK1.2 3 (cA, .int) rfl).2
    have h2 := va_nm_int (C.2.2.2.2.2.1.1.2 0 (eI E, .int) rfl).2
    exact Option.some.inj (h1.symm.trans h2)
  subst e
  rw [wq_app] at hP1 hD1
  exact kk q C H1 locs ls hP1 hD1 hS1 hl
theorem n_newqS {m : Int32} {N' idx : Nat} (hn : m = nI N') (hb : N' < 2 ^ 20) (hcl : Cond.classLink I.1.cls idx "GlowDebts$Strip" ∈ TT) (hcells : kc + 1 ≤ (xR X).cells) (hslots : ks + N' ≤ (xR X).slots) (hd : decode I.2.1 pc = .ok (.anewarray idx, 3))
    (kk : ∀ q, NG E X I (ua a n q) (uc c n (.inl (eS E, N', .inr (.inr (.inr (.inr (fun _ => none))))))) (n + 1) (kc + 1) (ks + N') (pc + 3) L (.ref q :: st)) : NG E X I a c n kc ks pc L (.int m :: st) := by
  subst hn
  intro C H locs ls hP hD hS hl
  refine va_newq (C := "GlowDebts$Strip") C.1 C.2.1 C.2.2.2.1 (C.2.2.2.2.1 _ hcl) C.2.2.2.2.2.1.2.1.1 C.2.2.2.2.2.1.1 hP hD hS C.2.2.2.2.2.2.1 (nI_pos (by omega)) (nI_clamp (by omega)) (by omega) hcells hslots hd (fun q cA H1 hK1 hP1 hD1 hS1 => ?_)
  have e : cA = eS E := by
    have h1 := va_nmO (nm := "[" ++ (FieldType.object "GlowDebts$Strip").toString) (hK1.2 3 (cA, .object "GlowDebts$Strip") rfl).2 rfl
    have h2 := va_nmO (nm := "[" ++ (FieldType.object "GlowDebts$Strip").toString) (C.2.2.2.2.2.1.1.2 2 (eS E, .object "GlowDebts$Strip") rfl).2 rfl
    exact Option.some.inj (h1.symm.trans h2)
  subst e
  rw [wq_app] at hP1 hD1
  exact kk q C H1 locs ls hP1 hD1 hS1 hl
theorem n_newqB {m : Int32} {N' idx : Nat} (hn : m = nI N') (hb : N' < 2 ^ 20) (hcl : Cond.classLink I.1.cls idx "GlowDebts$Bank" ∈ TT) (hcells : kc + 1 ≤ (xR X).cells) (hslots : ks + N' ≤ (xR X).slots) (hd : decode I.2.1 pc = .ok (.anewarray idx, 3))
    (kk : ∀ q, NG E X I (ua a n q) (uc c n (.inl (eB E, N', .inr (.inr (.inr (.inr (fun _ => none))))))) (n + 1) (kc + 1) (ks + N') (pc + 3) L (.ref q :: st)) : NG E X I a c n kc ks pc L (.int m :: st) := by
  subst hn
  intro C H locs ls hP hD hS hl
  refine va_newq (C := "GlowDebts$Bank") C.1 C.2.1 C.2.2.2.1 (C.2.2.2.2.1 _ hcl) C.2.2.2.2.2.1.2.1.2 C.2.2.2.2.2.1.1 hP hD hS C.2.2.2.2.2.2.1 (nI_pos (by omega)) (nI_clamp (by omega)) (by omega) hcells hslots hd (fun q cA H1 hK1 hP1 hD1 hS1 => ?_)
  have e : cA = eB E := by
    have h1 := va_nmO (nm := "[" ++ (FieldType.object "GlowDebts$Bank").toString) (hK1.2 3 (cA, .object "GlowDebts$Bank") rfl).2 rfl
    have h2 := va_nmO (nm := "[" ++ (FieldType.object "GlowDebts$Bank").toString) (C.2.2.2.2.2.1.1.2 1 (eB E, .object "GlowDebts$Bank") rfl).2 rfl
    exact Option.some.inj (h1.symm.trans h2)
  subst e
  rw [wq_app] at hP1 hD1
  exact kk q C H1 locs ls hP1 hD1 hS1 hl
theorem n_put {idx ci N k j : Nat} {C0 : String} {T : u_T} {fs : List Value} {v : Value} {ty : FieldType} {x : Nat} (ty0 : Nat → FieldType) (hty : ∀ k, k < N → parseFieldDescriptor (T k).2.2.1 = some (ty0 k)) (hnm : ∀ a, a < N → ∀ b, b < N → a ≠ b → (T a).2.1 ≠ (T b).2.1) (hin : ∀ w ∈ u_ws C0 T N, w ∈ TT) (hk : k < n) (hx : a k = x) (hck : c k = .inr (ci, fs)) (hcl : vwCl[ci]? = some (C0, T, N)) (hj : j < N) (hw : Cond.fieldLink I.1.cls idx (T j).1 (T j).2.1 (T j).2.2.1 ∈ TT) (hfin : (T j).2.2.2 = false) (htd : parseFieldDescriptor (T j).2.2.1 = some ty) (hn : narrow ty v = v) (hfit : fits ty v = true) (hl2 : j < fs.length) (hd : decode I.2.1 pc = .ok (.putfield idx, 3)) (kk : NG E X I a (uc c k (.inr (ci, fs.set j v))) n kc ks (pc + 3) L st) : NG E X I a c n kc ks pc L (v :: .ref x :: st) := by
  subst hx
  exact fun C H locs ls hP hD hS hl => va_put C.1 C.2.1 C.2.2.2.2.1 hin ty0 hty hnm C.2.2.2.1 C.2.2.2.2.2.1.1 hP hD hS k ((wq_get hk).trans (by rw [hck])) hcl j hj (C.2.2.2.2.1 _ hw) (fun _ h => h) hfin htd hn hfit hl2 hd (fun H1 locs1 hP1 hD1 hS1 => by
    rw [wq_set hk] at hP1 hD1
    exact kk C H1 locs1 ls hP1 hD1 hS1 hl)
theorem n_putF {idx ci N k j : Nat} {C0 : String} {T : u_T} {fs : List Value} {v : Value} {ty : FieldType} {x : Nat} (hi : I.1.name = "<init>") (ty0 : Nat → FieldType) (hty : ∀ k, k < N → parseFieldDescriptor (T k).2.2.1 = some (ty0 k)) (hnm : ∀ a, a < N → ∀ b, b < N → a ≠ b → (T a).2.1 ≠ (T b).2.1) (hin : ∀ w ∈ u_ws C0 T N, w ∈ TT) (hk : k < n) (hx : a k = x) (hck : c k = .inr (ci, fs)) (hcl : vwCl[ci]? = some (C0, T, N)) (hj : j < N) (hw : Cond.fieldLink I.1.cls idx (T j).1 (T j).2.1 (T j).2.2.1 ∈ TT) (hfin : (T j).2.2.2 = true) (hdecl : (T j).1 = I.1.cls) (htd : parseFieldDescriptor (T j).2.2.1 = some ty) (hn : narrow ty v = v) (hfit : fits ty v = true) (hl2 : j < fs.length) (hd : decode I.2.1 pc = .ok (.putfield idx, 3)) (kk : NG E X I a (uc c k (.inr (ci, fs.set j v))) n kc ks (pc + 3) L st) : NG E X I a c n kc ks pc L (v :: .ref x :: st) := by
  subst hx
  exact fun C H locs ls hP hD hS hl => va_putF C.1 C.2.1 C.2.2.2.2.1 hin ty0 hty hnm C.2.2.2.1 C.2.2.2.2.2.1.1 hP hD hS k ((wq_get hk).trans (by rw [hck])) hcl j hj (C.2.2.2.2.1 _ hw) (fun _ h => h) hfin (C.2.2.2.2.2.2.2.2.2 hi) hdecl htd hn hfit hl2 hd (fun H1 locs1 hP1 hD1 hS1 => by
    rw [wq_set hk] at hP1 hD1
    exact kk C H1 locs1 ls hP1 hD1 hS1 hl)
theorem n_get {idx ci N k j : Nat} {C0 : String} {T : u_T} {fs : List Value} {v : Value} {x : Nat} (hin : ∀ w ∈ u_ws C0 T N, w ∈ TT) (hk : k < n) (hx : a k = x) (hck : c k = .inr (ci, fs)) (hcl : vwCl[ci]? = some (C0, T, N)) (hj : j < N) (hw : Cond.fieldLink I.1.cls idx (T j).1 (T j).2.1 (T j).2.2.1 ∈ TT) (hv : fs[j]? = some v) (hd : decode I.2.1 pc = .ok (.getfield idx, 3)) (kk : NG E X I a c n kc ks (pc + 3) L (v :: st)) : NG E X I a c n kc ks pc L (.ref x :: st) := by
  subst hx
  exact fun C H locs ls hP hD hS hl => va_get C.1 C.2.1 C.2.2.2.2.1 hin C.2.2.2.1 C.2.2.2.2.2.1.1 hP k ((wq_get hk).trans (by rw [hck])) hcl j hj (C.2.2.2.2.1 _ hw) (fun _ h => h) hv hd (kk C H locs ls hP hD hS hl)
theorem n_alenS {k N' x : Nat} {f : Nat → Option Nat} {v : Int32} (hk : k < n) (hx : a k = x) (hck : c k = .inl (eS E, N', .inr (.inr (.inr (.inr f))))) (hv : Int32.ofNat N' = v) (hd : decode I.2.1 pc = .ok (.arraylength, 1)) (kk : NG E X I a c n kc ks (pc + 1) L (.int v :: st)) : NG E X I a c n kc ks pc L (.ref x :: st) := by
  subst hx
  exact fun C H locs ls hP hD hS hl => va_alen C.1 C.2.1 C.2.2.2.2.2.1.1 hP k 2 ((wq_get hk).trans (by rw [hck])) rfl hv hd (kk C H locs ls hP hD hS hl)
theorem n_alenB {k N' x : Nat} {f : Nat → Option Nat} {v : Int32} (hk : k < n) (hx : a k = x) (hck : c k = .inl (eB E, N', .inr (.inr (.inr (.inr f))))) (hv : Int32.ofNat N' = v) (hd : decode I.2.1 pc = .ok (.arraylength, 1)) (kk : NG E X I a c n kc ks (pc + 1) L (.int v :: st)) : NG E X I a c n kc ks pc L (.ref x :: st) := by
  subst hx
  exact fun C H locs ls hP hD hS hl => va_alen C.1 C.2.1 C.2.2.2.2.2.1.1 hP k 1 ((wq_get hk).trans (by rw [hck])) rfl hv hd (kk C H locs ls hP hD hS hl)
theorem n_aastS {k N' x i q qk : Nat} {f : Nat → Option Nat} {vs : List Value} {m : Int32} (hk : k < n) (hx : a k = x) (hck : c k = .inl (eS E, N', .inr (.inr (.inr (.inr f))))) (hm : m = nI i) (hi : i < N') (hN : N' < 2 ^ 20) (hqk : qk < n) (hq : a qk = q) (hcq : c qk = .inr (3, vs)) (hd : decode I.2.1 pc = .ok (.aastore, 1)) (kk : NG E X I a (uc c k (.inl (eS E, N', .inr (.inr (.inr (.inr (va_up f i (some q)))))))) n kc ks (pc + 1) L st) : NG E X I a c n kc ks pc L (.ref q :: .int m :: .ref x :: st) := by
  subst hx; subst hq; subst hm
  exact fun C H locs ls hP hD hS hl => va_astq C.1 C.2.1 C.2.2.2.2.2.1.1 hP hD hS k 2 qk 3 ((wq_get hk).trans (by rw [hck])) rfl ((wq_get hqk).trans (by rw [hcq])) rfl (vp_in_nI hi (by omega)) hd (fun H1 locs1 hP1 hD1 hS1 => by
    rw [nI_clamp (by omega), wq_set hk] at hP1 hD1
    exact kk C H1 locs1 ls hP1 hD1 hS1 hl)
theorem n_aastB {k N' x i q qk : Nat} {f : Nat → Option Nat} {vs : List Value} {m : Int32} (hk : k < n) (hx : a k = x) (hck : c k = .inl (eB E, N', .inr (.inr (.inr (.inr f))))) (hm : m = nI i) (hi : i < N') (hN : N' < 2 ^ 20) (hqk : qk < n) (hq : a qk = q) (hcq : c qk = .inr (0, vs)) (hd : decode I.2.1 pc = .ok (.aastore, 1)) (kk : NG E X I a (uc c k (.inl (eB E, N', .inr (.inr (.inr (.inr (va_up f i (some q)))))))) n kc ks (pc + 1) L st) : NG E X I a c n kc ks pc L (.ref q :: .int m :: .ref x :: st) := by
  subst hx; subst hq; subst hm
  exact fun C H locs ls hP hD hS hl => va_astq C.1 C.2.1 C.2.2.2.2.2.1.1 hP hD hS k 1 qk 0 ((wq_get hk).trans (by rw [hck])) rfl ((wq_get hqk).trans (by rw [hcq])) rfl (vp_in_nI hi (by omega)) hd (fun H1 locs1 hP1 hD1 hS1 => by
    rw [nI_clamp (by omega), wq_set hk] at hP1 hD1
    exact kk C H1 locs1 ls hP1 hD1 hS1 hl)
theorem n_iast {k N' x i : Nat} {f : Nat → Int32} {m y : Int32} (hk : k < n) (hx : a k = x) (hck : c k = .inl (eI E, N', .inl f)) (hm : m = nI i) (hi : i < N') (hN : N' < 2 ^ 20) (hd : decode I.2.1 pc = .ok (.iastore, 1)) (kk : NG E X I a (uc c k (.inl (eI E, N', .inl (upd f i y)))) n kc ks (pc + 1) L st) : NG E X I a c n kc ks pc L (.int y :: .int m :: .ref x :: st) := by
  subst hx; subst hm
  exact fun C H locs ls hP hD hS hl => va_iast C.1 C.2.1 C.2.2.2.2.2.1.1 hP hD hS k 0 ((wq_get hk).trans (by rw [hck])) rfl (vp_in_nI hi (by omega)) hd (fun H1 locs1 hP1 hD1 hS1 => by
    rw [nI_clamp (by omega), wq_set hk] at hP1 hD1
    exact kk C H1 locs1 ls hP1 hD1 hS1 hl)
/-- behind a constructor's call: its world, with more in it -/
theorem n_behind {p : Program} {e : Env} {R : Room} {s : State} {m : MethodId} {args av : Array Value} {below : List Frame} {meth : Method} {cd : Code} {H : Heap} {locs : List Loc} {mc ms : Nat} {Q : State → Prop} {ls : Array Slot} {rest st0 : List Value} {A : Nat → Prop} {Post : (Nat → Nat) → (Nat → va_E) → Nat → Prop}
    (hr : va_Run p (eN E) e R s m args below meth cd H locs kc ks mc ms (F0 m pc ls st0) rest (Qn E (va_A (wq a c n) H.size) Post av) (va_A (wq a c n) H.size)) (hD : va_D A (wq a c n)) (hS : va_S A s.heap H locs) (hA : ∀ q, s.heap.size ≤ q → A q)
    (kk : ∀ (a' : Nat → Nat) (c' : Nat → va_E) (n' : Nat) (H1 : Heap) (locs1 : List Loc), Post a' c' n' → va_P (eD E) vwCl (wq a' c' n') H1 → va_D A (wq a' c' n') → va_S A s.heap H1 locs1 → W p (eN E) e R s m args below meth cd H1 locs1 (kc + mc) (ks + ms) Q (F0 m (pc + 3) ls rest)) : W p (eN E) e R s m args below meth cd H locs kc ks Q (F0 m pc ls st0) := by
  have hF : ∀ q, va_A (wq a c n) H.size q → A q := by
    intro q h
    rcases h with ⟨k, e, h⟩ | h
    · exact hD.2 k _ h
    · exact hA q (Nat.le_trans hS.1 h)
  refine va_callv hr hS (fun q _ h => hF q h) hF (fun u t H1 locs1 ht _ hp hB _ _ hS1 => ?_)
  obtain ⟨hP1, hD1⟩ := hB
  rw [ht] at hP1
  exact kk u.1 u.2.1 u.2.2 H1 locs1 hp hP1 (hD1.weaken (fun _ _ _ h => hF _ h)) hS1
end NR
