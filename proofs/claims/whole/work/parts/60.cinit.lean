/-! THE CLASS'S CONSTRUCTOR -/
abbrev i_X8_init : Ym := (yX8_init, cX8_init, 2, none, 2)
abbrev qA (cl N : Nat) (f : Nat → Option Nat) : va_E := .inl (cl, N, .inr (.inr (.inr (.inr f))))
section CI
variable {E : En} {X : Xt} {I : Ym} {a : Nat → Nat} {c : Nat → va_E} {n kc ks : Nat} {pc : Nat} {L : List (Nat × Value)} {st : List Value}
/-- a constructor's call -/
theorem n_initI {y : MethodName} {cc : ByteArray} {ml d idx mc ms na x : Nat} {As L2 : List Value} {Post : (Nat → Nat) → (Nat → va_E) → Nat → Prop} (hy : y.name = "<init>") (hJ : y.cls ≠ "java/lang/invoke/MethodHandle" ∧ y.cls ≠ "java/lang/invoke/VarHandle" ∧ (parseMethodDescriptor y.desc).map (fun d => d.parameters.length) = some na) (hcode : Cond.code y cc ml none ∈ TT) (hini : Cond.initialized y.cls ∈ TT) (hins : Cond.instanceMethod y ∈ TT) (hm : Cond.methodLink I.1.cls idx y ∈ TT) (hd : decode I.2.1 pc = .ok (.invokespecial idx, 3)) (hn : As.length = na) (hc : ∀ sz, NT E (y, cc, ml, none, d) mc ms a c n sz (.ref x :: As) Post) (hdep : d + 1 ≤ I.2.2.2.2) (hml : ml ≤ 18) (hcells : kc + mc ≤ (xR X).cells) (hslots : ks + ms ≤ (xR X).slots) (hst : st = As.reverse ++ .ref x :: L2) (hrest : (L2.map fun v => v.category).sum ≤ 8)
    (kk : ∀ a' c' n', Post a' c' n' → NG E X I a' c' n' (kc + mc) (ks + ms) (pc + 3) L L2) : NG E X I a c n kc ks pc L st := by
  intro C H locs ls hP hD hS hl
  have hw : GoodIn TT (wsD (y, cc, ml, none, d)) := TT_2 hcode TT_ok
  have hF := C.2.2.2.2.2.2.2.2.1.1
  have hLo := C.2.2.2.2.2.2.2.2.1.2
  have hrun := va_runI (As := As) (rest := L2) (own := I.1.cls) (Ts := TT) (l := eN E) (e := xe X) (below := xb X) (meth := xM X) (locs := locs) (cells := kc) (slots := ks) (g := F0 (xm X) pc ls st) (nL := I.2.2.1) (H := H) ⟨C.1, C.2.1, C.2.2.1, C.2.2.2.1, C.2.2.2.2.1⟩ (hc H.size) (cwI na C.2.2.2.2.1 hw rfl rfl rfl (C.2.2.2.2.1 _ hini) (C.2.2.2.2.1 _ hm) (C.2.2.2.2.1 _ hins) hy hJ ⟨by show d + 1 ≤ _; omega, by show 8 + (ml + 11) + 37 * d ≤ _; omega⟩) ⟨fun a U g mk q => by obtain ⟨q0, q1, qP, qK, qD⟩ := q; exact ⟨q0, q1, qP, KN_blind a g mk qK, qD⟩, fun U hU hW => ⟨rfl, by rw [hU], by rw [hU]; exact hP, KN_call C.2.2.2.2.2.1 hW, hD.weaken (fun _ _ _ _ => trivial)⟩⟩ rfl hn hl.1 hst (lv_room hrest) hd ⟨hcells, hslots⟩
  exact n_behind hrun hD hS C.2.2.2.2.2.2.1 (fun a' c' n' H1 locs1 hp hP1 hD1 hS1 => kk a' c' n' hp C H1 locs1 ls hP1 hD1 hS1 hl)
/-- a nest mate's constructor's call -/
theorem n_initN {y : MethodName} {cc : ByteArray} {ml d idx mc ms x : Nat} {L2 : List Value} {Post : (Nat → Nat) → (Nat → va_E) → Nat → Prop} (hy : y.name = "<init>") (hJ : y.cls ≠ "java/lang/invoke/MethodHandle" ∧ y.cls ≠ "java/lang/invoke/VarHandle" ∧ (parseMethodDescriptor y.desc).map (fun d => d.parameters.length) = some 0) (hcode : Cond.code y cc ml none ∈ TT) (hini : Cond.initialized y.cls ∈ TT) (hins : Cond.instanceMethod y ∈ TT) (hm : ∀ U, KN E U → va_Nw (.methodLinkNest I.1.cls idx y "GlowDebts") U) (hd : decode I.2.1 pc = .ok (.invokespecial idx, 3)) (hc : ∀ sz, NT E (y, cc, ml, none, d) mc ms a c n sz [.ref x] Post) (hdep : d + 1 ≤ I.2.2.2.2) (hml : ml ≤ 18) (hcells : kc + mc ≤ (xR X).cells) (hslots : ks + ms ≤ (xR X).slots) (hst : st = .ref x :: L2) (hrest : (L2.map fun v => v.category).sum ≤ 8)
    (kk : ∀ a' c' n', Post a' c' n' → NG E X I a' c' n' (kc + mc) (ks + ms) (pc + 3) L L2) : NG E X I a c n kc ks pc L st := by
  intro C H locs ls hP hD hS hl
  have hw : GoodIn TT (wsD (y, cc, ml, none, d)) := TT_2 hcode TT_ok
  have hF := C.2.2.2.2.2.2.2.2.1.1
  have hLo := C.2.2.2.2.2.2.2.2.1.2
  have cb := va_cnB (R := xR X) (s := xs X) (args := xa X) (own := I.1.cls) (host := "GlowDebts") (index := idx) (y := y) (bytes := cc) (maxL := ml) (ret := none) (Ts := TT) (ws := wsD (y, cc, ml, none, d)) (rm := rmN d mc ms) (mc := mc) (ms := ms) 0 C.2.2.2.2.1 hw rfl rfl rfl (hm _ C.2.2.2.2.2.1) (C.2.2.2.2.1 _ hini) hJ ⟨by show d + 1 ≤ _; omega, by show 8 + (ml + 11) + 37 * d ≤ _; omega⟩
  have hrun := va_runIN (As := []) (rest := L2) (own := I.1.cls) (host := "GlowDebts") (Ts := TT) (l := eN E) (e := xe X) (below := xb X) (meth := xM X) (locs := locs) (cells := kc) (slots := ks) (g := F0 (xm X) pc ls st) (nL := I.2.2.1) (H := H) ⟨C.1, C.2.1, C.2.2.1, C.2.2.2.1, C.2.2.2.2.1⟩ (hc H.size) ⟨cb, hy, C.2.2.2.2.1 _ hins⟩ ⟨fun a U g mk q => by obtain ⟨q0, q1, qP, qK, qD⟩ := q; exact ⟨q0, q1, qP, KN_blind a g mk qK, qD⟩, fun U hU hW => ⟨rfl, by rw [hU], by rw [hU]; exact hP, KN_call C.2.2.2.2.2.1 hW, hD.weaken (fun _ _ _ _ => trivial)⟩⟩ rfl rfl hl.1 hst (lv_room hrest) hd ⟨hcells, hslots⟩
  exact n_behind hrun hD hS C.2.2.2.2.2.2.1 (fun a' c' n' H1 locs1 hp hP1 hD1 hS1 => kk a' c' n' hp C H1 locs1 ls hP1 hD1 hS1 hl)
/-- a new row of Strips, of Banks, put into a final field -/
theorem n_qSF {idx idx2 ci N k j N' : Nat} {C0 : String} {T : u_T} {fs : List Value} {m : Int32} {x : Nat} {ty : FieldType} (hi : I.1.name = "<init>") (ty0 : Nat → FieldType) (hty : ∀ k, k < N → parseFieldDescriptor (T k).2.2.1 = some (ty0 k)) (hnm : ∀ a, a < N → ∀ b, b < N → a ≠ b → (T a).2.1 ≠ (T b).2.1) (hin : ∀ w ∈ u_ws C0 T N, w ∈ TT) (hk : k < n) (hx : a k = x) (hck : c k = .inr (ci, fs)) (hcl : vwCl[ci]? = some (C0, T, N)) (hj : j < N) (hcl2 : Cond.classLink I.1.cls idx2 "GlowDebts$Strip" ∈ TT) (hw : Cond.fieldLink I.1.cls idx (T j).1 (T j).2.1 (T j).2.2.1 ∈ TT) (hfin : (T j).2.2.2 = true) (hdecl : (T j).1 = I.1.cls) (htd : parseFieldDescriptor (T j).2.2.1 = some ty) (hna : ∀ q, narrow ty (.ref q) = .ref q) (hfi : ∀ q, fits ty (.ref q) = true) (hl2 : j < fs.length) (hn : m = nI N') (hb : N' < 2 ^ 20) (hcells : kc + 1 ≤ (xR X).cells) (hslots : ks + N' ≤ (xR X).slots) (hd1 : decode I.2.1 pc = .ok (.anewarray idx2, 3)) (hd2 : decode I.2.1 (pc + 3) = .ok (.putfield idx, 3))
    (kk : ∀ (a' : Nat → Nat) (c' : Nat → va_E), (∀ i, i < n → a' i = a i) → (∀ i, i < n → i ≠ k → c' i = c i) → c' k = .inr (ci, fs.set j (.ref (a' n))) → c' n = qA (eS E) N' (fun _ => none) → NG E X I a' c' (n + 1) (kc + 1) (ks + N') (pc + 6) L st) : NG E X I a c n kc ks pc L (.int m :: .ref x :: st) := by
  refine n_newqS hn hb hcl2 hcells hslots hd1 (fun q => ?_)
  have nk : k ≠ n := by omega
  refine n_putF (k := k) (j := j) (fs := fs) (ty := ty) hi ty0 hty hnm hin (by omega) ((ua_n nk).trans hx) ((uc_n nk).trans hck) hcl hj hw hfin hdecl htd (hna q) (hfi q) hl2 hd2 ?_
  refine kk _ _ (fun i hi => ua_n (by omega)) (fun i hi hne => ?_) ?_ ?_
  · rw [uc_n hne, uc_n (by omega)]
  · rw [uc_s, ua_s]
  · rw [uc_n nk.symm, uc_s]
theorem n_qBF {idx idx2 ci N k j N' : Nat} {C0 : String} {T : u_T} {fs : List Value} {m : Int32} {x : Nat} {ty : FieldType} (hi : I.1.name = "<init>") (ty0 : Nat → FieldType) (hty : ∀ k, k < N → parseFieldDescriptor (T k).2.2.1 = some (ty0 k)) (hnm : ∀ a, a < N → ∀ b, b < N → a ≠ b → (T a).2.1 ≠ (T b).2.1) (hin : ∀ w ∈ u_ws C0 T N, w ∈ TT) (hk : k < n) (hx : a k = x) (hck : c k = .inr (ci, fs)) (hcl : vwCl[ci]? = some (C0, T, N)) (hj : j < N) (hcl2 : Cond.classLink I.1.cls idx2 "GlowDebts$Bank" ∈ TT) (hw : Cond.fieldLink I.1.cls idx (T j).1 (T j).2.1 (T j).2.2.1 ∈ TT) (hfin : (T j).2.2.2 = true) (hdecl : (T j).1 = I.1.cls) (htd : parseFieldDescriptor (T j).2.2.1 = some ty) (hna : ∀ q, narrow ty (.ref q) = .ref q) (hfi : ∀ q, fits ty (.ref q) = true) (hl2 : j < fs.length) (hn : m = nI N') (hb : N' < 2 ^ 20) (hcells : kc + 1 ≤ (xR X).cells) (hslots : ks + N' ≤ (xR X).slots) (hd1 : decode I.2.1 pc = .ok (.anewarray idx2, 3)) (hd2 : decode I.2.1 (pc + 3) = .ok (.putfield idx, 3))
    (kk : ∀ (a' : Nat → Nat) (c' : Nat → va_E), (∀ i, i < n → a' i = a i) → (∀ i, i < n → i ≠ k → c' i = c i) → c' k = .inr (ci, fs.set j (.ref (a' n))) → c' n = qA (eB E) N' (fun _ => none) → NG E X I a' c' (n + 1) (kc + 1) (ks + N') (pc + 6) L st) : NG E X I a c n kc ks pc L (.int m :: .ref x :: st) := by
  refine n_newqB hn hb hcl2 hcells hslots hd1 (fun q => ?_)
  have nk : k ≠ n := by omega
  refine n_putF (k := k) (j := j) (fs := fs) (ty := ty) hi ty0 hty hnm hin (by omega) ((ua_n nk).trans hx) ((uc_n nk).trans hck) hcl hj hw hfin hdecl htd (hna q) (hfi q) hl2 hd2 ?_
  refine kk _ _ (fun i hi => ua_n (by omega)) (fun i hi hne => ?_) ?_ ?_
  · rw [uc_n hne, uc_n (by omega)]
  · rw [uc_s, ua_s]
  · rw [uc_n nk.symm, uc_s]
/-- a new object of a nest mate, made, put into a final field: new, dup, <init>, putfield -/
theorem n_objF {y : MethodName} {cc : ByteArray} {ml d idxN idxI idxP mc ms x ci2 N2 k j : Nat} {C2 : String} {T2 : u_T} {f2 : List Value} {fs : List Value} {ty : FieldType} {Post : Nat → (Nat → Nat) → (Nat → va_E) → (Nat → Nat) → (Nat → va_E) → Nat → Prop}
    (hi : I.1.name = "<init>") (hI : I.1.cls = RX8)
    (ty2 : Nat → FieldType) (hty2 : ∀ k, k < N2 → parseFieldDescriptor (T2 k).2.2.1 = some (ty2 k)) (hin2 : ∀ w ∈ u_ws C2 T2 N2, w ∈ TT) (hcl2 : Cond.classLink I.1.cls idxN C2 ∈ TT) (hinst : Cond.instantiable C2 N2 ∈ TT) (hini2 : Cond.initialized C2 ∈ TT) (hc2 : vwCl[ci2]? = some (C2, T2, N2)) (hfs2 : ∀ j, j < N2 → defaultValue (ty2 j) = vp_V f2 j)
    (hy : y.name = "<init>") (hJ : y.cls ≠ "java/lang/invoke/MethodHandle" ∧ y.cls ≠ "java/lang/invoke/VarHandle" ∧ (parseMethodDescriptor y.desc).map (fun d => d.parameters.length) = some 0) (hcode : Cond.code y cc ml none ∈ TT) (hini : Cond.initialized y.cls ∈ TT) (hins : Cond.instanceMethod y ∈ TT) (hm : ∀ U, KN E U → va_Nw (.methodLinkNest I.1.cls idxI y "GlowDebts") U)
    (hc : ∀ a c n sz k x, k < n → a k = x → c k = .inr (ci2, f2) → NT E (y, cc, ml, none, d) mc ms a c n sz [.ref x] (fun a' c' n' => n' = n + mc ∧ oldN a c n k a' c' ∧ Post n a c a' c' k)) (hdep : d + 1 ≤ I.2.2.2.2) (hml : ml ≤ 18)
    (hk : k < n) (hx : a k = x) (hck : c k = .inr (4, fs)) (hj : j < 11) (hw : Cond.fieldLink I.1.cls idxP (TX8 j).1 (TX8 j).2.1 (TX8 j).2.2.1 ∈ TT) (hfin : (TX8 j).2.2.2 = true) (hdecl : (TX8 j).1 = I.1.cls) (htd : parseFieldDescriptor (TX8 j).2.2.1 = some ty) (hna : ∀ q, narrow ty (.ref q) = .ref q) (hfi : ∀ q, fits ty (.ref q) = true) (hl2 : j < fs.length)
    (hcells : kc + 1 + mc ≤ (xR X).cells) (hslots : ks + N2 + ms ≤ (xR X).slots) (hL : (st.map fun v => v.category).sum + 2 ≤ 8)
    (hd1 : decode I.2.1 pc = .ok (.new idxN, 3)) (hd2 : decode I.2.1 (pc + 3) = .ok (.dup, 1)) (hd3 : decode I.2.1 (pc + 4) = .ok (.invokespecial idxI, 3)) (hd4 : decode I.2.1 (pc + 7) = .ok (.putfield idxP, 3))
    (kk : ∀ (a0 : Nat → Nat) (c0 : Nat → va_E) (a' : Nat → Nat) (c' c1 : Nat → va_E), (∀ i, i < n → a' i = a i) → (∀ i, i < n → i ≠ k → c' i = c i) → (∀ i, n ≤ i → c' i = c1 i) → c' k = .inr (4, fs.set j (.ref (a' n))) → Post (n + 1) a0 c0 a' c1 n → NG E X I a' c' (n + 1 + mc) (kc + 1 + mc) (ks + N2 + ms) (pc + 10) L st) : NG E X I a c n kc ks pc L (.ref x :: st) := by
  refine n_new ty2 hty2 hin2 hcl2 hinst hini2 hc2 hfs2 (by omega) (by omega) hd1 (fun q => ?_)
  refine n_dup hd2 rfl ?_
  refine n_initN (x := q) (L2 := .ref q :: .ref x :: st) hy hJ hcode hini hins hm hd3 (fun sz => hc _ _ _ sz n q (by omega) ua_s uc_s) hdep hml hcells hslots rfl (by show 1 + (1 + (st.map fun v => v.category).sum) ≤ 8; omega) (fun a1 c1 n1 hp => ?_)
  obtain ⟨rfl, ⟨o1, o2⟩, hp⟩ := hp
  have e0 : a1 k = x := by rw [o1 k (by omega), ua_n (by omega)]; exact hx
  have e1 : c1 k = .inr (4, fs) := by rw [o2 k (by omega) (by omega), uc_n (by omega)]; exact hck
  have en : a1 n = q := by rw [o1 n (by omega), ua_s]
  refine n_putF (k := k) (j := j) (fs := fs) (ty := ty) hi tyX8 tyX8_ok nmX8 ix_X8 (by omega) e0 e1 rfl hj hw hfin hdecl htd (hna q) (hfi q) hl2 hd4 ?_
  refine kk (ua a n q) (uc c n (.inr (ci2, f2))) a1 _ c1 (fun i hi => ?_) (fun i hi hne => ?_) (fun i hi => uc_n (by omega)) ?_ hp
  · rw [o1 i (by omega), ua_n (by omega)]
  · rw [uc_n hne, o2 i (by omega) (by omega), uc_n (by omega)]
  · rw [uc_s, en]
end CI
