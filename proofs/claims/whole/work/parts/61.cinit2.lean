/-! THE CLASS'S CONSTRUCTOR, walked -/
def gdV (a : Nat → Nat) : va_E := .inr (4, [.ref (a 1), .ref (a 2), .ref (a 3), .ref (a 10), .ref (a 11), .ref (a 14), .ref (a 16), .int 0, .int 0, .long 0, .long 1])
def spV (a : Nat → Nat) (i : Nat) : va_E := .inr (3, [.ref (a (i + 1)), .int (-1)])
def fxA (E : En) (a : Nat → Nat) (c : Nat → va_E) : Prop := c 0 = gdV a ∧ (c 3 = bkV a 4 ∧ (∀ j, j < 5 → c (4 + j) = zI E 8) ∧ c 9 = zI E 40) ∧ (c 11 = .inr (2, [.ref (a 12), .ref (a 13)]) ∧ c 12 = zI E 8 ∧ c 13 = zI E 256) ∧ (c 14 = .inr (1, [.ref (a 15)]) ∧ c 15 = zI E 6) ∧ c 16 = zI E 6
def fxR (E : En) (a : Nat → Nat) (c : Nat → va_E) (r : Nat) : Prop := c 1 = qA (eS E) 6 (fun j => if j < r then some (a (17 + 2 * j)) else none) ∧ ∀ j, j < r → c (17 + 2 * j) = spV a (17 + 2 * j) ∧ c (18 + 2 * j) = zI E 40
def fxT (E : En) (a : Nat → Nat) (c : Nat → va_E) (r : Nat) : Prop := c 2 = qA (eS E) 4 (fun j => if j < r then some (a (29 + 2 * j)) else none) ∧ ∀ j, j < r → c (29 + 2 * j) = spV a (29 + 2 * j) ∧ c (30 + 2 * j) = zI E 60
def fxK (E : En) (a : Nat → Nat) (c : Nat → va_E) (r : Nat) : Prop := c 10 = qA (eB E) 3 (fun j => if j < r then some (a (37 + 7 * j)) else none) ∧ ∀ j, j < r → c (37 + 7 * j) = bkV a (38 + 7 * j) ∧ (∀ i, i < 5 → c (38 + 7 * j + i) = zI E 8) ∧ c (43 + 7 * j) = zI E 40
theorem bkV_eq {a a' : Nat → Nat} {n : Nat} (h : ∀ i, i < 6 → a' (n + i) = a (n + i)) : bkV a' n = bkV a n := by
  unfold bkV
  rw [h 1 (by omega), h 2 (by omega), h 3 (by omega), h 4 (by omega), h 5 (by omega), show a' n = a n from h 0 (by omega)]
theorem fxA_keep {E : En} {a a' : Nat → Nat} {c c' : Nat → va_E} (h : fxA E a c) (ha : ∀ i, i < 17 → a' i = a i) (hc : ∀ i, i < 17 → i ≠ 1 → i ≠ 2 → i ≠ 10 → c' i = c i) : fxA E a' c' := by
  obtain ⟨h0, ⟨h3, h4, h9⟩, ⟨h11, h12, h13⟩, ⟨h14, h15⟩, h16⟩ := h
  refine ⟨?_, ⟨?_, fun j hj => (hc _ (by omega) (by omega) (by omega) (by omega)).trans (h4 j hj), (hc 9 (by omega) (by omega) (by omega) (by omega)).trans h9⟩, ⟨?_, (hc 12 (by omega) (by omega) (by omega) (by omega)).trans h12, (hc 13 (by omega) (by omega) (by omega) (by omega)).trans h13⟩, ⟨?_, (hc 15 (by omega) (by omega) (by omega) (by omega)).trans h15⟩, (hc 16 (by omega) (by omega) (by omega) (by omega)).trans h16⟩
  · rw [hc 0 (by omega) (by omega) (by omega) (by omega), h0]
    unfold gdV
    rw [ha 1 (by omega), ha 2 (by omega), ha 3 (by omega), ha 10 (by omega), ha 11 (by omega), ha 14 (by omega), ha 16 (by omega)]
  · rw [hc 3 (by omega) (by omega) (by omega) (by omega), h3]
    exact (bkV_eq (fun i hi => ha _ (by omega))).symm
  · rw [hc 11 (by omega) (by omega) (by omega) (by omega), h11, ha 12 (by omega), ha 13 (by omega)]
  · rw [hc 14 (by omega) (by omega) (by omega) (by omega), h14, ha 15 (by omega)]
theorem fxR_keep {E : En} {a a' : Nat → Nat} {c c' : Nat → va_E} {r : Nat} (h : fxR E a c r) (ha : ∀ i, 17 ≤ i → i < 17 + 2 * r → a' i = a i) (h1 : c' 1 = c 1) (hc : ∀ i, 17 ≤ i → i < 17 + 2 * r → c' i = c i) : fxR E a' c' r := by
  refine ⟨?_, fun j hj => ?_⟩
  · rw [h1, h.1]
    congr 2
    funext j
    by_cases q : j < r
    · rw [if_pos q, if_pos q, ha _ (by omega) (by omega)]
    · rw [if_neg q, if_neg q]
  · obtain ⟨x, y⟩ := h.2 j hj
    rw [hc _ (by omega) (by omega), hc _ (by omega) (by omega), x, y]
    unfold spV
    rw [ha (17 + 2 * j + 1) (by omega) (by omega)]
    exact ⟨rfl, rfl⟩
theorem fxR_step {E : En} {a a' : Nat → Nat} {c c' : Nat → va_E} {r : Nat} (h : fxR E a c r) (ha : ∀ i, i < 17 + 2 * r → a' i = a i) (hc : ∀ i, i < 17 + 2 * r → i ≠ 1 → c' i = c i) (h1 : c' 1 = qA (eS E) 6 (va_up (fun j => if j < r then some (a (17 + 2 * j)) else none) r (some (a' (17 + 2 * r))))) (hs : c' (17 + 2 * r) = spV a' (17 + 2 * r)) (hz : c' (18 + 2 * r) = zI E 40) : fxR E a' c' (r + 1) := by
  refine ⟨?_, fun j hj => ?_⟩
  · rw [h1]
    congr 2
    funext j
    unfold va_up
    by_cases q : j = r
    · rw [if_pos q, if_pos (by omega), q]
    · rw [if_neg q]
      show (if j < r then some (a (17 + 2 * j)) else none) = _
      by_cases w : j < r
      · rw [if_pos w, if_pos (by omega), ha _ (by omega)]
      · rw [if_neg w, if_neg (by omega)]
  · by_cases q : j = r
    · rw [q]; exact ⟨hs, hz⟩
    · obtain ⟨x, y⟩ := h.2 j (by omega)
      rw [hc _ (by omega) (by omega), hc _ (by omega) (by omega), x, y]
      unfold spV
      rw [ha (17 + 2 * j + 1) (by omega)]
      exact ⟨rfl, rfl⟩
theorem fxT_keep {E : En} {a a' : Nat → Nat} {c c' : Nat → va_E} {r : Nat} (h : fxT E a c r) (ha : ∀ i, 29 ≤ i → i < 29 + 2 * r → a' i = a i) (h1 : c' 2 = c 2) (hc : ∀ i, 29 ≤ i → i < 29 + 2 * r → c' i = c i) : fxT E a' c' r := by
  refine ⟨?_, fun j hj => ?_⟩
  · rw [h1, h.1]
    congr 2
    funext j
    by_cases q : j < r
    · rw [if_pos q, if_pos q, ha _ (by omega) (by omega)]
    · rw [if_neg q, if_neg q]
  · obtain ⟨x, y⟩ := h.2 j hj
    rw [hc _ (by omega) (by omega), hc _ (by omega) (by omega), x, y]
    unfold spV
    rw [ha (29 + 2 * j + 1) (by omega) (by omega)]
    exact ⟨rfl, rfl⟩
theorem fxT_step {E : En} {a a' : Nat → Nat} {c c' : Nat → va_E} {r : Nat} (h : fxT E a c r) (ha : ∀ i, i < 29 + 2 * r → a' i = a i) (hc : ∀ i, i < 29 + 2 * r → i ≠ 2 → c' i = c i) (h1 : c' 2 = qA (eS E) 4 (va_up (fun j => if j < r then some (a (29 + 2 * j)) else none) r (some (a' (29 + 2 * r))))) (hs : c' (29 + 2 * r) = spV a' (29 + 2 * r)) (hz : c' (30 + 2 * r) = zI E 60) : fxT E a' c' (r + 1) := by
  refine ⟨?_, fun j hj => ?_⟩
  · rw [h1]
    congr 2
    funext j
    unfold va_up
    by_cases q : j = r
    · rw [if_pos q, if_pos (by omega), q]
    · rw [if_neg q]
      show (if j < r then some (a (29 + 2 * j)) else none) = _
      by_cases w : j < r
      · rw [if_pos w, if_pos (by omega), ha _ (by omega)]
      · rw [if_neg w, if_neg (by omega)]
  · by_cases q : j = r
    · rw [q]; exact ⟨hs, hz⟩
    · obtain ⟨x, y⟩ := h.2 j (by omega)
      rw [hc _ (by omega) (by omega), hc _ (by omega) (by omega), x, y]
      unfold spV
      rw [ha (29 + 2 * j + 1) (by omega)]
      exact ⟨rfl, rfl⟩
theorem fxK_keep {E : En} {a a' : Nat → Nat} {c c' : Nat → va_E} (h : fxK E a c 0) (h1 : c' 10 = c 10) : fxK E a' c' 0 := by
  refine ⟨?_, fun j hj => absurd hj (by omega)⟩
  rw [h1, h.1]
  congr 2
theorem fxK_step {E : En} {a a' : Nat → Nat} {c c' : Nat → va_E} {r : Nat} (h : fxK E a c r) (ha : ∀ i, i < 37 + 7 * r → a' i = a i) (hc : ∀ i, i < 37 + 7 * r → i ≠ 10 → c' i = c i) (h1 : c' 10 = qA (eB E) 3 (va_up (fun j => if j < r then some (a (37 + 7 * j)) else none) r (some (a' (37 + 7 * r))))) (hs : c' (37 + 7 * r) = bkV a' (38 + 7 * r)) (hz : ∀ i, i < 5 → c' (38 + 7 * r + i) = zI E 8) (hy : c' (43 + 7 * r) = zI E 40) : fxK E a' c' (r + 1) := by
  refine ⟨?_, fun j hj => ?_⟩
  · rw [h1]
    congr 2
    funext j
    unfold va_up
    by_cases q : j = r
    · rw [if_pos q, if_pos (by omega), q]
    · rw [if_neg q]
      show (if j < r then some (a (37 + 7 * j)) else none) = _
      by_cases w : j < r
      · rw [if_pos w, if_pos (by omega), ha _ (by omega)]
      · rw [if_neg w, if_neg (by omega)]
  · by_cases q : j = r
    · rw [q]; exact ⟨hs, hz, hy⟩
    · obtain ⟨x, y, z⟩ := h.2 j (by omega)
      refine ⟨?_, fun i hi => (hc _ (by omega) (by omega)).trans (y i hi), (hc _ (by omega) (by omega)).trans z⟩
      rw [hc _ (by omega) (by omega), x]
      exact (bkV_eq (fun i hi => ha _ (by omega))).symm
theorem cl_S : Cond.classLink RX8 9 "GlowDebts$Strip" ∈ TT := TT_t0 (List.mem_of_getElem? (i := 22) (by decide +kernel)) (by decide +kernel)
theorem cl_B : Cond.classLink RX8 18 "GlowDebts$Bank" ∈ TT := TT_t0 (List.mem_of_getElem? (i := 24) (by decide +kernel)) (by decide +kernel)
theorem cl_T : Cond.classLink RX8 29 "GlowDebts$Sets" ∈ TT := TT_t0 (List.mem_of_getElem? (i := 63) (by decide +kernel)) (by decide +kernel)
theorem cl_C : Cond.classLink RX8 36 "GlowDebts$Chains" ∈ TT := TT_t0 (List.mem_of_getElem? (i := 76) (by decide +kernel)) (by decide +kernel)
theorem st_B : Cond.instantiable "GlowDebts$Bank" 10 ∈ TT := TT_t0 (List.mem_of_getElem? (i := 25) (by decide +kernel)) (by decide +kernel)
theorem st_T : Cond.instantiable "GlowDebts$Sets" 2 ∈ TT := TT_t0 (List.mem_of_getElem? (i := 64) (by decide +kernel)) (by decide +kernel)
theorem st_C : Cond.instantiable "GlowDebts$Chains" 1 ∈ TT := TT_t0 (List.mem_of_getElem? (i := 77) (by decide +kernel)) (by decide +kernel)
theorem st_S : Cond.instantiable "GlowDebts$Strip" 2 ∈ TT := TT_t0 (List.mem_of_getElem? (i := 86) (by decide +kernel)) (by decide +kernel)
theorem co_B : Cond.code yX0_init cX0_init 1 none ∈ TT := TT_t0 (List.mem_of_getElem? (i := 28) (by decide +kernel)) (by decide +kernel)
theorem co_T : Cond.code yX4_init cX4_init 1 none ∈ TT := TT_t0 (List.mem_of_getElem? (i := 67) (by decide +kernel)) (by decide +kernel)
theorem co_C : Cond.code yX1_init cX1_init 1 none ∈ TT := TT_t0 (List.mem_of_getElem? (i := 80) (by decide +kernel)) (by decide +kernel)
theorem co_S : Cond.code yX5_init cX5_init 2 none ∈ TT := TT_t0 (List.mem_of_getElem? (i := 89) (by decide +kernel)) (by decide +kernel)
theorem im_B : Cond.instanceMethod yX0_init ∈ TT := TT_t0 (List.mem_of_getElem? (i := 27) (by decide +kernel)) (by decide +kernel)
theorem im_T : Cond.instanceMethod yX4_init ∈ TT := TT_t0 (List.mem_of_getElem? (i := 66) (by decide +kernel)) (by decide +kernel)
theorem im_C : Cond.instanceMethod yX1_init ∈ TT := TT_t0 (List.mem_of_getElem? (i := 79) (by decide +kernel)) (by decide +kernel)
theorem im_S : Cond.instanceMethod yX5_init ∈ TT := TT_t0 (List.mem_of_getElem? (i := 88) (by decide +kernel)) (by decide +kernel)
set_option maxRecDepth 100000 in
set_option maxHeartbeats 8000000 in
theorem x8_rows {E : En} {X : Xt} {x kc ks : Nat} (hcl : kc + 12 ≤ (xR X).cells) (hsl : ks + 252 ≤ (xR X).slots) (kk : ∀ a c, a 0 = x → fxA E a c → fxR E a c 6 → fxT E a c 0 → fxK E a c 0 → NG E X i_X8_init a c (17 + 2 * 6) (kc + 2 * 6) (ks + 42 * 6) 122 [(1, .int (nI 6)), (0, .ref x)] []) : ∀ r, r ≤ 6 → ∀ a c, a 0 = x → fxA E a c → fxR E a c r → fxT E a c 0 → fxK E a c 0 → NG E X i_X8_init a c (17 + 2 * r) (kc + 2 * r) (ks + 42 * r) 92 [(1, .int (nI r)), (0, .ref x)] [] := by
  refine dn_ind 6 (fun r hr ih => ?_)
  intro a c hx hA hF hT hK
  refine n_iload (pc := 92) dX8_init_92 0 rfl rfl ?_
  refine n_aload (pc := 93) dX8_init_93 1 rfl rfl ?_
  refine n_get (pc := 94) (ci := 4) (k := 0) (j := 0) ix_X8 (by omega) hx hA.1 rfl (by omega) fw_X8_11 rfl dX8_init_94 ?_
  refine n_alenS (pc := 97) (k := 1) (N' := 6) (v := nI 6) (by omega) rfl hF.1 rfl dX8_init_97 ?_
  refine n_icmp_ge (pc := 98) (tgt := 122) dX8_init_98 (by decide) (fun q => ?_) (fun q => ?_)
  · have e : r = 6 := by have := (nI_leI (by omega) (by omega)).mp q; omega
    subst e
    exact kk a c hx hA hF hT hK
  · have lt : r < 6 := by
      rcases Nat.lt_or_ge r 6 with w | w
      · exact w
      · exact absurd (nI_le w (by omega)) q
    refine n_aload (pc := 101) dX8_init_101 1 rfl rfl ?_
    refine n_get (pc := 102) (ci := 4) (k := 0) (j := 0) ix_X8 (by omega) hx hA.1 rfl (by omega) fw_X8_11 rfl dX8_init_102 ?_
    refine n_iload (pc := 105) dX8_init_105 0 rfl rfl ?_
    refine n_new (pc := 106) (fs := [.null, .int 0]) tyX5 tyX5_ok ix_X5 cl_S st_S in_X5 (ci := 3) rfl (fun j hj => by rcases (show j = 0 ∨ j = 1 by omega) with rfl | rfl <;> rfl) (by omega) (by omega) dX8_init_106 (fun q => ?_)
    refine n_dup (pc := 109) dX8_init_109 rfl ?_
    refine n_bipush (pc := 110) (v := nI 40) dX8_init_110 (by decide) ?_
    refine n_initI (pc := 112) (x := q) (As := [.int (nI 40)]) (L2 := [.ref q, .int (nI r), .ref (a 1)]) (na := 1) (y := yX5_init) (cc := cX5_init) (ml := 2) (d := 1) rfl ⟨by decide +kernel, by decide +kernel, by decide +kernel⟩ co_S in_X5 im_S mw_X8_61 dX8_init_112 rfl (fun sz => c_X5_init E _ _ _ sz (17 + 2 * r) q 40 (by omega) ua_s uc_s (by omega)) (Nat.le_refl _) (by omega) (by omega) (by omega) rfl (Nat.le_of_ble_eq_true rfl) (fun a1 c1 n1 hp => ?_)
    obtain ⟨rfl, ⟨o1, o2⟩, p1, p2⟩ := hp
    have ea : ∀ i, i < 17 + 2 * r → a1 i = a i := fun i hi => by rw [o1 i (by omega), ua_n (by omega)]
    have en : a1 (17 + 2 * r) = q := by rw [o1 _ (by omega), ua_s]
    have ec : ∀ i, i < 17 + 2 * r → c1 i = c i := fun i hi => by rw [o2 i (by omega) (by omega), uc_n (by omega)]
    refine n_aastS (pc := 115) (k := 1) (i := r) (qk := 17 + 2 * r) (by omega) (ea 1 (by omega)) ((ec 1 (by omega)).trans hF.1) rfl lt (by omega) (by omega) en p1 dX8_init_115 ?_
    generalize hc2 : uc c1 1 (.inl (eS E, 6, .inr (.inr (.inr (.inr (va_up (fun j => if j < r then some (a (17 + 2 * j)) else none) r (some q))))))) = c2
    have d1 : c2 1 = qA (eS E) 6 (va_up (fun j => if j < r then some (a (17 + 2 * j)) else none) r (some (a1 (17 + 2 * r)))) := by rw [← hc2, uc_s, en]
    have d2 : ∀ i, i ≠ 1 → c2 i = c1 i := fun i hi => by rw [← hc2, uc_n hi]
    have e2 : ∀ i, i < 17 + 2 * r → i ≠ 1 → c2 i = c i := fun i h1 h2 => (d2 i h2).trans (ec i h1)
    refine n_iinc (pc := 116) (x := nI r) (v := nI (r + 1)) (L' := [(1, .int (nI (r + 1))), (0, .ref x)]) dX8_init_116 (k := 0) rfl (by rw [show Int32.ofInt 1 = 1 from rfl]; exact nI_1 r) (by decide) rfl ?_
    refine n_goto (pc := 119) (tgt := 92) dX8_init_119 (by decide) ?_
    have z := ih lt a1 c2 ((ea 0 (by omega)).trans hx) (fxA_keep hA (fun i hi => ea i (by omega)) (fun i h1 h2 h3 h4 => e2 i (by omega) (by omega))) (fxR_step hF ea e2 d1 (by rw [d2 _ (by omega), p1]; rfl) (by rw [d2 _ (by omega), show 18 + 2 * r = 17 + 2 * r + 1 by omega]; exact p2)) (fxT_keep hT (fun i h1 h2 => absurd h2 (by omega)) (e2 2 (by omega) (by omega)) (fun i h1 h2 => absurd h2 (by omega))) (fxK_keep hK (e2 10 (by omega) (by omega)))
    rw [show 17 + 2 * (r + 1) = 17 + 2 * r + 1 + 1 by omega, show kc + 2 * (r + 1) = kc + 2 * r + 1 + 1 by omega, show ks + 42 * (r + 1) = ks + 42 * r + 2 + 40 by omega] at z
    exact z
set_option maxRecDepth 100000 in
set_option maxHeartbeats 8000000 in
theorem x8_texts {E : En} {X : Xt} {x kc ks : Nat} (hcl : kc + 8 ≤ (xR X).cells) (hsl : ks + 248 ≤ (xR X).slots) (kk : ∀ a c, a 0 = x → fxA E a c → fxT E a c 4 → fxR E a c 6 → fxK E a c 0 → NG E X i_X8_init a c (29 + 2 * 4) (kc + 2 * 4) (ks + 62 * 4) 154 [(1, .int (nI 4)), (0, .ref x)] []) : ∀ r, r ≤ 4 → ∀ a c, a 0 = x → fxA E a c → fxT E a c r → fxR E a c 6 → fxK E a c 0 → NG E X i_X8_init a c (29 + 2 * r) (kc + 2 * r) (ks + 62 * r) 124 [(1, .int (nI r)), (0, .ref x)] [] := by
  refine dn_ind 4 (fun r hr ih => ?_)
  intro a c hx hA hF hT hK
  refine n_iload (pc := 124) dX8_init_124 0 rfl rfl ?_
  refine n_aload (pc := 125) dX8_init_125 1 rfl rfl ?_
  refine n_get (pc := 126) (ci := 4) (k := 0) (j := 1) ix_X8 (by omega) hx hA.1 rfl (by omega) fw_X8_15 rfl dX8_init_126 ?_
  refine n_alenS (pc := 129) (k := 2) (N' := 4) (v := nI 4) (by omega) rfl hF.1 rfl dX8_init_129 ?_
  refine n_icmp_ge (pc := 130) (tgt := 154) dX8_init_130 (by decide) (fun q => ?_) (fun q => ?_)
  · have e : r = 4 := by have := (nI_leI (by omega) (by omega)).mp q; omega
    subst e
    exact kk a c hx hA hF hT hK
  · have lt : r < 4 := by
      rcases Nat.lt_or_ge r 4 with w | w
      · exact w
      · exact absurd (nI_le w (by omega)) q
    refine n_aload (pc := 133) dX8_init_133 1 rfl rfl ?_
    refine n_get (pc := 134) (ci := 4) (k := 0) (j := 1) ix_X8 (by omega) hx hA.1 rfl (by omega) fw_X8_15 rfl dX8_init_134 ?_
    refine n_iload (pc := 137) dX8_init_137 0 rfl rfl ?_
    refine n_new (pc := 138) (fs := [.null, .int 0]) tyX5 tyX5_ok ix_X5 cl_S st_S in_X5 (ci := 3) rfl (fun j hj => by rcases (show j = 0 ∨ j = 1 by omega) with rfl | rfl <;> rfl) (by omega) (by omega) dX8_init_138 (fun q => ?_)
    refine n_dup (pc := 141) dX8_init_141 rfl ?_
    refine n_bipush (pc := 142) (v := nI 60) dX8_init_142 (by decide) ?_
    refine n_initI (pc := 144) (x := q) (As := [.int (nI 60)]) (L2 := [.ref q, .int (nI r), .ref (a 2)]) (na := 1) (y := yX5_init) (cc := cX5_init) (ml := 2) (d := 1) rfl ⟨by decide +kernel, by decide +kernel, by decide +kernel⟩ co_S in_X5 im_S mw_X8_61 dX8_init_144 rfl (fun sz => c_X5_init E _ _ _ sz (29 + 2 * r) q 60 (by omega) ua_s uc_s (by omega)) (Nat.le_refl _) (by omega) (by omega) (by omega) rfl (Nat.le_of_ble_eq_true rfl) (fun a1 c1 n1 hp => ?_)
    obtain ⟨rfl, ⟨o1, o2⟩, p1, p2⟩ := hp
    have ea : ∀ i, i < 29 + 2 * r → a1 i = a i := fun i hi => by rw [o1 i (by omega), ua_n (by omega)]
    have en : a1 (29 + 2 * r) = q := by rw [o1 _ (by omega), ua_s]
    have ec : ∀ i, i < 29 + 2 * r → c1 i = c i := fun i hi => by rw [o2 i (by omega) (by omega), uc_n (by omega)]
    refine n_aastS (pc := 147) (k := 2) (i := r) (qk := 29 + 2 * r) (by omega) (ea 2 (by omega)) ((ec 2 (by omega)).trans hF.1) rfl lt (by omega) (by omega) en p1 dX8_init_147 ?_
    generalize hc2 : uc c1 2 (.inl (eS E, 4, .inr (.inr (.inr (.inr (va_up (fun j => if j < r then some (a (29 + 2 * j)) else none) r (some q))))))) = c2
    have d1 : c2 2 = qA (eS E) 4 (va_up (fun j => if j < r then some (a (29 + 2 * j)) else none) r (some (a1 (29 + 2 * r)))) := by rw [← hc2, uc_s, en]
    have d2 : ∀ i, i ≠ 2 → c2 i = c1 i := fun i hi => by rw [← hc2, uc_n hi]
    have e2 : ∀ i, i < 29 + 2 * r → i ≠ 2 → c2 i = c i := fun i h1 h2 => (d2 i h2).trans (ec i h1)
    refine n_iinc (pc := 148) (x := nI r) (v := nI (r + 1)) (L' := [(1, .int (nI (r + 1))), (0, .ref x)]) dX8_init_148 (k := 0) rfl (by rw [show Int32.ofInt 1 = 1 from rfl]; exact nI_1 r) (by decide) rfl ?_
    refine n_goto (pc := 151) (tgt := 124) dX8_init_151 (by decide) ?_
    have z := ih lt a1 c2 ((ea 0 (by omega)).trans hx) (fxA_keep hA (fun i hi => ea i (by omega)) (fun i h1 h2 h3 h4 => e2 i (by omega) (by omega))) (fxT_step hF ea e2 d1 (by rw [d2 _ (by omega), p1]; rfl) (by rw [d2 _ (by omega), show 30 + 2 * r = 29 + 2 * r + 1 by omega]; exact p2)) (fxR_keep hT (fun i h1 h2 => ea i (by omega)) (e2 1 (by omega) (by omega)) (fun i h1 h2 => e2 i (by omega) (by omega))) (fxK_keep hK (e2 10 (by omega) (by omega)))
    rw [show 29 + 2 * (r + 1) = 29 + 2 * r + 1 + 1 by omega, show kc + 2 * (r + 1) = kc + 2 * r + 1 + 1 by omega, show ks + 62 * (r + 1) = ks + 62 * r + 2 + 60 by omega] at z
    exact z
set_option maxRecDepth 100000 in
set_option maxHeartbeats 8000000 in
theorem x8_keeps {E : En} {X : Xt} {x kc ks : Nat} (hcl : kc + 21 ≤ (xR X).cells) (hsl : ks + 270 ≤ (xR X).slots) (kk : ∀ a c, a 0 = x → fxA E a c → fxR E a c 6 → fxT E a c 4 → fxK E a c 3 → NG E X i_X8_init a c (37 + 7 * 3) (kc + 7 * 3) (ks + 90 * 3) 184 [(1, .int (nI 3)), (0, .ref x)] []) : ∀ r, r ≤ 3 → ∀ a c, a 0 = x → fxA E a c → fxR E a c 6 → fxT E a c 4 → fxK E a c r → NG E X i_X8_init a c (37 + 7 * r) (kc + 7 * r) (ks + 90 * r) 156 [(1, .int (nI r)), (0, .ref x)] [] := by
  refine dn_ind 3 (fun r hr ih => ?_)
  intro a c hx hA hR hT hK
  refine n_iload (pc := 156) dX8_init_156 0 rfl rfl ?_
  refine n_aload (pc := 157) dX8_init_157 1 rfl rfl ?_
  refine n_get (pc := 158) (ci := 4) (k := 0) (j := 3) ix_X8 (by omega) hx hA.1 rfl (by omega) fw_X8_25 rfl dX8_init_158 ?_
  refine n_alenB (pc := 161) (k := 10) (N' := 3) (v := nI 3) (by omega) rfl hK.1 rfl dX8_init_161 ?_
  refine n_icmp_ge (pc := 162) (tgt := 184) dX8_init_162 (by decide) (fun q => ?_) (fun q => ?_)
  · have e : r = 3 := by have := (nI_leI (by omega) (by omega)).mp q; omega
    subst e
    exact kk a c hx hA hR hT hK
  · have lt : r < 3 := by
      rcases Nat.lt_or_ge r 3 with w | w
      · exact w
      · exact absurd (nI_le w (by omega)) q
    refine n_aload (pc := 165) dX8_init_165 1 rfl rfl ?_
    refine n_get (pc := 166) (ci := 4) (k := 0) (j := 3) ix_X8 (by omega) hx hA.1 rfl (by omega) fw_X8_25 rfl dX8_init_166 ?_
    refine n_iload (pc := 169) dX8_init_169 0 rfl rfl ?_
    refine n_new (pc := 170) (fs := [.null, .null, .null, .null, .null, .null, .int 0, .int 0, .int 0, .int 0]) tyX0 tyX0_ok ix_X0 cl_B st_B in_X0 (ci := 0) rfl (fun j hj => by rcases (show j = 0 ∨ j = 1 ∨ j = 2 ∨ j = 3 ∨ j = 4 ∨ j = 5 ∨ j = 6 ∨ j = 7 ∨ j = 8 ∨ j = 9 by omega) with rfl | rfl | rfl | rfl | rfl | rfl | rfl | rfl | rfl | rfl <;> rfl) (by omega) (by omega) dX8_init_170 (fun q => ?_)
    refine n_dup (pc := 173) dX8_init_173 rfl ?_
    refine n_initN (pc := 174) (x := q) (L2 := [.ref q, .int (nI r), .ref (a 10)]) (y := yX0_init) (cc := cX0_init) (ml := 1) (d := 1) rfl ⟨by decide +kernel, by decide +kernel, by decide +kernel⟩ co_B in_X0 im_B (fun U h => h.2.2.1) dX8_init_174 (fun sz => c_X0_init E _ _ _ sz (37 + 7 * r) q (by omega) ua_s uc_s) (Nat.le_refl _) (by omega) (by omega) (by omega) rfl (Nat.le_of_ble_eq_true rfl) (fun a1 c1 n1 hp => ?_)
    obtain ⟨rfl, ⟨o1, o2⟩, p1, p2, p3⟩ := hp
    have ea : ∀ i, i < 37 + 7 * r → a1 i = a i := fun i hi => by rw [o1 i (by omega), ua_n (by omega)]
    have en : a1 (37 + 7 * r) = q := by rw [o1 _ (by omega), ua_s]
    have ec : ∀ i, i < 37 + 7 * r → c1 i = c i := fun i hi => by rw [o2 i (by omega) (by omega), uc_n (by omega)]
    refine n_aastB (pc := 177) (k := 10) (i := r) (qk := 37 + 7 * r) (by omega) (ea 10 (by omega)) ((ec 10 (by omega)).trans hK.1) rfl lt (by omega) (by omega) en p1 dX8_init_177 ?_
    generalize hc2 : uc c1 10 (.inl (eB E, 3, .inr (.inr (.inr (.inr (va_up (fun j => if j < r then some (a (37 + 7 * j)) else none) r (some q))))))) = c2
    have d1 : c2 10 = qA (eB E) 3 (va_up (fun j => if j < r then some (a (37 + 7 * j)) else none) r (some (a1 (37 + 7 * r)))) := by rw [← hc2, uc_s, en]
    have d2 : ∀ i, i ≠ 10 → c2 i = c1 i := fun i hi => by rw [← hc2, uc_n hi]
    have e2 : ∀ i, i < 37 + 7 * r → i ≠ 10 → c2 i = c i := fun i h1 h2 => (d2 i h2).trans (ec i h1)
    refine n_iinc (pc := 178) (x := nI r) (v := nI (r + 1)) (L' := [(1, .int (nI (r + 1))), (0, .ref x)]) dX8_init_178 (k := 0) rfl (by rw [show Int32.ofInt 1 = 1 from rfl]; exact nI_1 r) (by decide) rfl ?_
    refine n_goto (pc := 181) (tgt := 156) dX8_init_181 (by decide) ?_
    have z := ih lt a1 c2 ((ea 0 (by omega)).trans hx) (fxA_keep hA (fun i hi => ea i (by omega)) (fun i h1 h2 h3 h4 => e2 i (by omega) (by omega))) (fxR_keep hR (fun i h1 h2 => ea i (by omega)) (e2 1 (by omega) (by omega)) (fun i h1 h2 => e2 i (by omega) (by omega))) (fxT_keep hT (fun i h1 h2 => ea i (by omega)) (e2 2 (by omega) (by omega)) (fun i h1 h2 => e2 i (by omega) (by omega))) (fxK_step hK ea e2 d1 (by rw [d2 _ (by omega), p1, show 38 + 7 * r = 37 + 7 * r + 1 by omega]) (fun i hi => by rw [d2 _ (by omega), show 38 + 7 * r + i = 37 + 7 * r + 1 + i by omega]; exact p2 i hi) (by rw [d2 _ (by omega), show 43 + 7 * r = 37 + 7 * r + 1 + 5 by omega]; exact p3))
    rw [show 37 + 7 * (r + 1) = 37 + 7 * r + 1 + 6 by omega, show kc + 7 * (r + 1) = kc + 7 * r + 1 + 6 by omega, show ks + 90 * (r + 1) = ks + 90 * r + 10 + 80 by omega] at z
    exact z
