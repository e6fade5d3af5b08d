/-! THE CLAIM OUT OF ONE WALK OF THE LAW'S BODY. Your part is whole_start (and what it stands on); all else here is the same for every law, but numbers. -/
def R_law : String := "GlowDebtsLaw"
def lw_P (b : Addr) (xs : List Int32) (args : Array Value) (s : State) : Prop := args = #[.ref b] ∧ s.IntsAt b xs ∧ xs.length ≤ 384 ∧ (Jvm.Cond.and given_1 narrow_1).before args s = true
def lw_Q (_ : Array Value) (s : State) (o : Outcome) (t : State) : Prop := o = .returned (some (.int 1)) ∧ Framed s o t [] 600000 7302250
def lw_Z (below : List Frame) (a : Array Value) (s : State) : State → Prop := fun t => ∃ o, t.status = .running ∧ Ended t below o ∧ lw_Q a s o t
/-- the law's own end, with 1 on the stack, nothing written that was there before, its room as the claim has it -/
theorem lw_ret {p : Program} {l : Launch} {e : Env} {s : State} {m : MethodId} {below : List Frame} {meth : Method} {c : Code} {b : Nat} (hx : p.tables.exec = Jvm.exec) (hb : c.code = code) (hr : meth.sig.returnType = ret) (hlocks : meth.locks = false) {pc : Nat} {H : Heap} {ls : Array Slot} (hdg : decode code pc = .ok (.ireturn, 1)) : W p l e room_1 s m #[Value.ref b] below meth c H [] 600000 7302250 (lw_Z below #[Value.ref b] s) (F0 m pc ls [.int 1]) := by
  intro T hT X
  obtain ⟨fs, hret, hrun, hended, hW, hframe⟩ := X.leave (v := some (.int 1)) (hlocks := hlocks) (fun h => by rw [hr] at h; cases h)
  have hmeth' : T.vm.method? m = some meth := X.method'
  refine ⟨T.setFrames fs, ?_, .returned (some (.int 1)), hrun, hended, rfl, ⟨_, rfl⟩, hW, hframe⟩
  jvm_step X.here [X.here.top, hx, hb, hdg, hmeth', hr, ret, narrow_b1]
  (try refine ⟨rfl, ?_⟩); (try refine ⟨rfl, ?_⟩)
  first | (intro acts; rw [hret _ acts rfl rfl rfl]) | rw [hret _ _ rfl rfl rfl]
  exact Steps.refl _
/-- what holds at the law's entry: the machine, the code, the tables' words (any of lw_tbl by 'hts w (by decide +kernel)'), the script of L ints xs at the cell b, what the Statement gives of the start (any of its parts by flat_of_before) -/
def lw_At (p : Program) (s : State) (m : MethodId) (meth : Method) (c : Code) (b L : Nat) (xs : Nat → Int32) : Prop :=
  p.tables.exec = Jvm.exec ∧ c.code = code ∧ meth.sig.returnType = ret ∧ c.maxLocals = 4 ∧ s.vm.findClass R_law = some m.cls ∧ (∀ w ∈ lw_tbl, w.before #[Value.ref b] s = true) ∧ va_X b L xs s s.heap ∧ b < s.heap.size ∧ meth.locks = false ∧ (Jvm.Cond.and given_1 narrow_1).before #[Value.ref b] s = true
/-- the world turns from the constructors' order to the walk's -/
theorem law_turn {E : En} {X : Xt} {a : Nat → Nat} {c : Nat → va_E} {pc : Nat} {L : List (Nat × Value)} {st : List Value} (hfr : frP E a c) (hZ : va_Z "GlowDebts$Kinds" "LETTERS" "[I" (.ref (eT E)) (xA X) (xs X) (xs X).heap ∧ va_T .int (eT E) 6 letV (xA X) (xs X) (xs X).heap) (hN : va_Nw (.methodLinkNest RX1 29 yX8_isPerson "GlowDebts") (xs X)) (h1 : 72 ≤ (xR X).cells) (h2 : 3569 ≤ (xR X).slots) (hg : G (Ef E a) (X.1, X.2.1, (72, 3569), X.2.2.2) i_law S0 pc L st) : NG E X i_law a c 72 72 3569 pc L st := by
  intro C H locs ls hP hD hS hl
  exact hg ⟨C.1, C.2.1, C.2.2.1, C.2.2.2.1, C.2.2.2.2.1, ⟨C.2.2.2.2.2.1.1, hN, hZ, fr_inj hD⟩, fr_A hD, C.2.2.2.2.2.2.2.1, C.2.2.2.2.2.2.2.2.1, h1, h2⟩ H locs ls (fr_P hfr hP) hS hl
theorem fxK_keep3 {E : En} {a a' : Nat → Nat} {c c' : Nat → va_E} (h : fxK E a c 3) (ha : ∀ i, i < 58 → a' i = a i) (hc : ∀ i, i < 58 → c' i = c i) : fxK E a' c' 3 := by
  obtain ⟨h1, h2⟩ := h
  refine ⟨?_, fun j hj => ?_⟩
  · rw [hc 10 (by omega), h1]
    congr 1
    funext j
    by_cases q : j < 3
    · rw [if_pos q, if_pos q, ha _ (by omega)]
    · rw [if_neg q, if_neg q]
  · obtain ⟨g1, g2, g3⟩ := h2 j hj
    refine ⟨?_, fun i hi => ?_, ?_⟩
    · rw [hc _ (by omega), g1]
      exact (bkV_eq (fun i hi => ha _ (by omega))).symm
    · rw [hc _ (by omega)]; exact g2 i hi
    · rw [hc _ (by omega)]; exact g3
set_option maxRecDepth 100000 in
set_option maxHeartbeats 16000000 in
/-- the two objects are made -/
theorem law_make {E : En} {X : Xt} {b : Nat} (h1 : 72 ≤ (xR X).cells) (h2 : 3569 ≤ (xR X).slots) (kk : ∀ a c, frP E a c → NG E X i_law a c 72 72 3569 18 [(3, .int (nI 0)), (2, .ref (a 58)), (1, .ref (a 0)), (0, .ref b)] []) : NG E X i_law (fun _ => 0) (fun _ => .inr (99, [])) 0 0 0 0 [(0, .ref b)] [] := by
  refine n_new (pc := 0) (fs := [.null, .null, .null, .null, .null, .null, .null, .int 0, .int 0, .long 0, .long 0]) tyX8 tyX8_ok ix_X8 cl_8 st_8 in_X8 (ci := 4) rfl (fun j hj => by rcases (show j = 0 ∨ j = 1 ∨ j = 2 ∨ j = 3 ∨ j = 4 ∨ j = 5 ∨ j = 6 ∨ j = 7 ∨ j = 8 ∨ j = 9 ∨ j = 10 by omega) with rfl | rfl | rfl | rfl | rfl | rfl | rfl | rfl | rfl | rfl | rfl <;> rfl) (by omega) (by omega) dL_law_0 (fun q0 => ?_)
  refine n_dup (pc := 3) dL_law_3 rfl ?_
  refine n_initI (pc := 4) (y := yX8_init) (cc := cX8_init) (ml := 2) (d := 2) (mc := 57) (ms := 1152) (idx := 9) (na := 0) (As := []) (x := q0) (L2 := [.ref q0]) (by decide +kernel) ⟨by decide +kernel, by decide +kernel, by decide +kernel⟩ co_8 in_X8 im_8 mw_L_9 dL_law_4 rfl (fun sz => c_X8_init E (ua (fun _ => 0) 0 q0) (uc (fun _ => .inr (99, [])) 0 (.inr (4, [.null, .null, .null, .null, .null, .null, .null, .int 0, .int 0, .long 0, .long 0]))) sz q0 ua_s uc_s) (by decide) (by decide) (by omega) (by omega) rfl (Nat.le_of_ble_eq_true rfl) (fun a c n hq => ?_)
  obtain ⟨rfl, ha0, hA, hR, hT, hK⟩ := hq
  refine n_astore (pc := 7) (L' := [(1, .ref q0), (0, .ref b)]) dL_law_7 rfl (by decide) rfl ?_
  refine n_new (pc := 8) (fs := [.null, .null, .null, .null, .null, .int 0, .null, .int 0, .long 0, .long 0, .null, .int 0, .int 0, .int 0, .int 0, .int 0, .null, .null, .null, .null, .null, .null, .long 0]) tyX9 tyX9_ok ix_X9 cl_9 st_9 in_X9 (ci := 5) rfl (fun j hj => by rcases (show j = 0 ∨ j = 1 ∨ j = 2 ∨ j = 3 ∨ j = 4 ∨ j = 5 ∨ j = 6 ∨ j = 7 ∨ j = 8 ∨ j = 9 ∨ j = 10 ∨ j = 11 ∨ j = 12 ∨ j = 13 ∨ j = 14 ∨ j = 15 ∨ j = 16 ∨ j = 17 ∨ j = 18 ∨ j = 19 ∨ j = 20 ∨ j = 21 ∨ j = 22 by omega) with rfl | rfl | rfl | rfl | rfl | rfl | rfl | rfl | rfl | rfl | rfl | rfl | rfl | rfl | rfl | rfl | rfl | rfl | rfl | rfl | rfl | rfl | rfl <;> rfl) (by omega) (by omega) dL_law_8 (fun q1 => ?_)
  refine n_dup (pc := 11) dL_law_11 rfl ?_
  refine n_initI (pc := 12) (y := yX9_init) (cc := cX9_init) (ml := 2) (d := 1) (mc := 13) (ms := 2383) (idx := 12) (na := 0) (As := []) (x := q1) (L2 := [.ref q1]) (by decide +kernel) ⟨by decide +kernel, by decide +kernel, by decide +kernel⟩ co_9 in_X9 im_9 mw_L_12 dL_law_12 rfl (fun sz => c_X9_init E (ua a 58 q1) (uc c 58 (.inr (5, [.null, .null, .null, .null, .null, .int 0, .null, .int 0, .long 0, .long 0, .null, .int 0, .int 0, .int 0, .int 0, .int 0, .null, .null, .null, .null, .null, .null, .long 0]))) 59 sz 58 q1 (by omega) ua_s uc_s) (by decide) (by decide) (by omega) (by omega) rfl (Nat.le_of_ble_eq_true rfl) (fun a2 c2 n hq => ?_)
  obtain ⟨rfl, ⟨hoa, hoc⟩, hmd, hmz⟩ := hq
  have ea : ∀ i, i < 58 → a2 i = a i := fun i hi => by rw [hoa i (by omega), ua_n (by omega)]
  have ec : ∀ i, i < 58 → c2 i = c i := fun i hi => by rw [hoc i (by omega) (by omega), uc_n (by omega)]
  have e58 : a2 58 = q1 := by rw [hoa 58 (by omega), ua_s]
  have e0 : a2 0 = q0 := by rw [ea 0 (by omega), ha0]
  have hfr : frP E a2 c2 := ⟨fxA_keep hA (fun i hi => ea i (by omega)) (fun i hi _ _ _ => ec i (by omega)), fxR_keep hR (fun i _ hi => ea i (by omega)) (ec 1 (by omega)) (fun i _ hi => ec i (by omega)), fxT_keep hT (fun i _ hi => ea i (by omega)) (ec 2 (by omega)) (fun i _ hi => ec i (by omega)), fxK_keep3 hK ea ec, hmd, hmz⟩
  have hkk := kk a2 c2 hfr
  rw [e58, e0] at hkk
  refine n_astore (pc := 15) (L' := [(2, .ref q1), (1, .ref q0), (0, .ref b)]) dL_law_15 rfl (by decide) rfl ?_
  refine n_iconst (pc := 16) (v := nI 0) dL_law_16 (by decide) ?_
  refine n_istore (pc := 17) (L' := [(3, .int (nI 0)), (2, .ref q1), (1, .ref q0), (0, .ref b)]) dL_law_17 rfl (by decide) rfl ?_
  exact hkk
set_option maxRecDepth 100000 in
set_option maxHeartbeats 4000000 in
/-- THE LAW, from its entry: for every script of at most 384 ints it comes to its end with true -/
theorem whole_start {p : Program} {e : Env} {s : State} {m : MethodId} {below : List Frame} {meth : Method} {c : Code} (l : Launch) (hflags : l.flags = flags0) {b L : Nat} {xs : Nat → Int32} (hL : L ≤ 384) (C0 : lw_At p s m meth c b L xs) : W p l e room_1 s m #[Value.ref b] below meth c s.heap [] 0 0 (lw_Z below #[Value.ref b] s) (entryFrame m ([Value.ref b] : List Value).toArray 4) := by
  obtain ⟨hx, hb, hr, hml, hown, hts, hX, hbl, hlocks, hgv⟩ := id C0
  obtain ⟨D, cI, cB, cS, hK⟩ := law_K hts
  obtain ⟨t, hZ, hT⟩ := law_T (A := fun q : Nat => s.heap.size ≤ q) hts hgv (fun a ha => Nat.not_le.mpr ha)
  have hl := lv_entry ([.ref b]) (n := 4) (Nat.le_of_ble_eq_true rfl)
  rw [lg_entry_eq]
  generalize (lg_sl ([.ref b]) ++ List.replicate (4 - (lg_sl ([.ref b])).length) Slot.unset).toArray = ls at hl ⊢
  have hl : lv_has ls 4 [(0, .ref b)] := hl
  have hKN : KN (l, D, (fun _ => 0), cI, cB, cS, t) s := ⟨hK, ⟨hts _ tb_S, hts _ tb_B⟩, va_Nw.of rfl (hts _ tb_26), va_Nw.of rfl (hts _ tb_65), va_Nw.of rfl (hts _ tb_78)⟩
  refine law_make (E := (l, D, (fun _ => 0), cI, cB, cS, t)) (X := ((p, e, room_1, s), (m, #[Value.ref b], below, meth, c), (0, 0), (fun q : Nat => s.heap.size ≤ q), lw_Z below #[Value.ref b] s)) (b := b) (Nat.le_of_ble_eq_true rfl) (Nat.le_of_ble_eq_true rfl) (fun a d hfr => ?_)
    ⟨hx, hb, hml, hown, TT_hts hts, hKN, fun q h => h, hlocks, ⟨Nat.le_of_ble_eq_true rfl, Nat.le_of_ble_eq_true rfl⟩, fun z => absurd z (by decide)⟩ s.heap [] ls (fun k q h => by simp [wq] at h) ⟨fun i j p q h => by simp [wq] at h, fun k q h => by simp [wq] at h⟩ va_S.rf hl
  refine law_turn hfr ⟨hZ, hT⟩ (va_Nw.of rfl (hts _ tb_is)) (Nat.le_of_ble_eq_true rfl) (Nat.le_of_ble_eq_true rfl) ?_
  refine law_loop (b := b) (n := L) (f := xs) ⟨hX, hbl, Nat.not_le.mpr hbl⟩ hL (fun S i => ?_) L 0 S0 (by omega) (by omega) S0_rel
  refine g_iconst (pc := 1556) (v := 1) dL_law_1556 (by decide) ?_
  intro C H locs ls hP hS hl
  refine W.widen (k := 600000) (n := 7302250) (Nat.le_of_ble_eq_true rfl) (Nat.le_of_ble_eq_true rfl) ?_
  exact va_forget hS.2.2 (lw_ret hx hb hr hlocks dL_law_1557)
set_option maxHeartbeats 4000000 in
theorem lw_walk (l : Launch) (hflags : l.flags = flags0) (b : Addr) (xs : List Int32) : MetFree l x (headSpec (Jvm.Cond.code x code maxLocals ret :: tables_1) room_1) (lw_P b xs) (fun _ _ _ _ _ => True) lw_Q := by
  refine MetFree.of_bodyS (code := code) (maxLocals := maxLocals) (ret := ret) (by decide) ?_ ?_
  · intro args s m h hn
    obtain ⟨meth, c, h1, h2, h3, h4, h5, h6, -, -⟩ := Cond.code_spec hn (atoms_spec (ws := Jvm.Cond.code x code maxLocals ret :: tables_1) h _ List.mem_cons_self)
    exact ⟨meth, c, h1, h2, h3, h4, h5, h6⟩
  · intro p e s m args below meth c s₁ B hml0 hP _
    obtain ⟨rfl, hx, hbd, hgv⟩ := hP
    obtain ⟨scr, harrAt, hlist, hof, hsmall⟩ := hx
    obtain ⟨hcb, hkn, -, -⟩ := State.arrayAt?_spec harrAt
    have hown : s.vm.findClass R_law = some m.cls := findClass_of_methodNamed B.named
    have hts0 : ∀ c ∈ (Jvm.Cond.code x code maxLocals ret :: tables_1), c.before #[Value.ref b] s = true := atoms_spec (ws := Jvm.Cond.code x code maxLocals ret :: tables_1) B.pre
    have hts : ∀ w ∈ lw_tbl, w.before #[Value.ref b] s = true := k2_hts_sels lw_privs (fun w hw => hts0 w (List.mem_cons_of_mem _ hw)) lw_privs_ok
    have hml : c.maxLocals = 4 := B.maxLocals_eq (hts0 _ List.mem_cons_self)
    have X₀ : Stand p l e room_1 s m #[Value.ref b] below meth c s₁ [] 0 0 := Stand.of_body B
    have hh0 : s₁.heap = s.heap := by rw [B.state]; rfl
    have hsz : scr.slots.size = xs.length := by rw [← Array.length_toList, hlist, List.length_map]
    have hval : ∀ j : Nat, j < xs.length → scr.slots[j]? = some (.int (xs.getD j 0)) := fun j hj => by
      rw [← Array.getElem?_toList, hlist]
      simp [hj]
    have hbl : b < s.heap.size := (Array.getElem?_eq_some_iff.mp hcb).1
    have hX : va_X b xs.length (fun j => xs.getD j 0) s s.heap := ⟨scr, hcb, hof, hkn, hsz, hval⟩
    have K : W p l e room_1 s m #[Value.ref b] below meth c s₁.heap [] 0 0 (lw_Z below #[Value.ref b] s) (entryFrame m ([Value.ref b] : List Value).toArray 4) := by
      rw [hh0]
      exact whole_start l hflags hbd ⟨B.exec, B.bytes, B.returns, hml, hown, hts, hX, hbl, B.notSynchronized, hgv⟩
    obtain ⟨t, a1, o, b1, b2, b3⟩ := K s₁ rfl X₀
    exact ⟨t, o, a1, b1, b2, b3⟩
theorem lw_pre_spec {args : Array Value} {s : State} (h : (Jvm.Cond.and given_1 narrow_1).before args s = true) (hr : rest_1_c.before args s = true) : ∃ (b : Addr) (xs : List Int32), lw_P b xs args s := by
  have hs := flat_of_before _ h
  have hq := flat_of_before _ hr
  have hc : (Cond.count 1).before args s = true := hs _ (by decide +kernel)
  have harr : (Cond.arrayOf (.arg 0) .int).before args s = true := hs _ (by decide +kernel)
  have hle : (Cond.le (.length (.arg 0)) (.int 384)).before args s = true := hs _ (by decide +kernel)
  have hlen : (Cond.isInt (.length (.arg 0))).before args s = true := hq _ (by decide +kernel)
  have hall : (Cond.all (.arg 0) (.isInt (.elem (.arg 0) (.index 0)))).before args s = true := hq _ (by decide +kernel)
  obtain ⟨b, xs, hb, hx⟩ := State.ints_of_pre rfl harr hlen hall
  have hsm : xs.length < 2 ^ 31 := hx.choose_spec.2.2.2
  have hev : (Term.length (.arg 0)).eval args s none [] s = some (.int xs.length.toInt32) := hx.length_eval hb
  have hv := Cond.le_ints hev (show (Term.int 384).eval args s none [] s = some (.int 384) from rfl)
  have hd : xs.length.toInt32 ≤ 384 := by
    simpa [Cond.before, Cond.holds, hv] using hle
  have hN : xs.length ≤ 384 := (Int32.ofNat_le_ofNat hsm (by decide)).mp (show Int32.ofNat xs.length ≤ Int32.ofNat 384 from hd)
  exact ⟨b, xs, Cond.one_arg hc (show args[0]? = some (.ref b) from hb), hx, hN, h⟩
theorem lw_comes (l : Launch) (hflags : l.flags = flags0) : Comes l x (Jvm.Cond.code x code maxLocals ret :: tables_1) room_1 (fun tb e args s => Calls_1 tb e args s ∧ rest_1 tb e args s ∧ Pre_1 tb e args s)
    (fun _ _ args s o t => lw_Q args s o t) := by
  intro p e ha hc hk s m args below hf hfit hheap happ hpre
  obtain ⟨b, xs, hP⟩ := lw_pre_spec hpre.2.2 hpre.2.1
  obtain ⟨k, o, h1, h2, h3, hQ⟩ := lw_walk l hflags b xs p e ha hc hk s m args below hf ((Spec.applies_iff_loose hf).mp happ).1 hP trivial
  exact ⟨k, o, h1, h2, h3, hQ⟩
theorem lw_frame {s t : State} {o : Outcome} {args : Array Value} (h : Framed s o t [] 600000 7302250) :
    Framed s o t (fieldLocs frame_1_writes args s ++ arrayLocs frame_1_arrays args s ++ staticLocs frame_1_statics s) 600000 7302250 := h
theorem lw_limb (L : Cond) (hL : ∀ (args : Array Value) (s t : State), L.after args s (.returned (some (.int 1))) t = true) :
    ArmFor flags0 classFile x code maxLocals ret World_1 tables_1 room_1 Calls_1 rest_1 Pre_1
      (fun tb e a s o t => postC L tb e a s o t ∧ Framed s o t (fieldLocs frame_1_writes a s ++ arrayLocs frame_1_arrays a s ++ staticLocs frame_1_statics s) 600000 7302250) := by
  intro l hflags _ _ p e ha hc hk s m args below hf hfit hheap happ hpre
  obtain ⟨k, o, h1, h2, h3, rfl, hF⟩ := lw_comes l hflags p e ha hc hk s m args below hf hfit hheap happ hpre
  exact ⟨k, _, h1, h2, h3, hL args s _, lw_frame hF⟩
theorem i_vc : Claimed_1_1 ∧ Claimed_1_2 := ⟨lw_limb limb_1_1 (fun args s t => by simp [limb_1_1, Cond.after, Cond.holds, Cond.value]), lw_limb limb_1_2 (fun args s t => Cond.after_iff.mpr (by
  first | (rw [show limb_1_2 = Cond.eq .result (.int 1) from rfl, Cond.eq_ints (x := 1) (y := 1) rfl rfl]; simp; done) | (simp [limb_1_2, Cond.value, Term.eval]; done)))⟩
