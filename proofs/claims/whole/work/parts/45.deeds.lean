/-! DEEDS: one deed keeps the relation -/
theorem mdR_at {W : Nat → Int32} {b : Nat} (hb : 44 ≤ b) : ∀ n, n ≤ 8 → ∀ i, mdR W b n i = if i = b then W 1 else if i = b + 1 then W 2 else if b + 2 ≤ i ∧ i < b + 2 + n then W (3 + (i - (b + 2))) else W i
  | 0, _, i => by
    rw [mdR, pk_un (f := W) (show 2 ≠ b by omega)]
    by_cases h1 : i = b + 1
    · rw [h1, pk_us, if_neg (by omega), if_pos rfl]
    · rw [pk_un h1]
      by_cases h2 : i = b
      · rw [h2, pk_us, if_pos rfl]
      · rw [pk_un h2, if_neg h2, if_neg h1, if_neg (by omega)]
  | n + 1, hn, i => by
    have ih := mdR_at (W := W) hb n (by omega)
    rw [mdR]
    by_cases h1 : i = b + 2 + n
    · rw [h1, pk_us, ih, if_neg (by omega), if_neg (by omega), if_neg (by omega), if_neg (by omega), if_neg (by omega), if_pos (by omega), show b + 2 + n - (b + 2) = n by omega]
    · rw [pk_un h1, ih]
      by_cases h2 : i = b
      · rw [if_pos h2, if_pos h2]
      · rw [if_neg h2, if_neg h2]
        by_cases h3 : i = b + 1
        · rw [if_pos h3, if_pos h3]
        · rw [if_neg h3, if_neg h3]
          by_cases h4 : b + 2 ≤ i ∧ i < b + 2 + n
          · rw [if_pos h4, if_pos (by omega)]
          · rw [if_neg h4, if_neg (by omega)]
theorem mdF_43' {W : Nat → Int32} {d : Nat} : mdF W d 43 = W 43 + 1 := by rw [mdF, pk_us, mdR_lo (by omega) (by omega)]
theorem mdF_hi {W : Nat → Int32} {d i : Nat} (hi : 44 ≤ i) : mdF W d i = if i = 44 + 10 * d then W 1 else if i = 44 + 10 * d + 1 then W 2 else if 44 + 10 * d + 2 ≤ i ∧ i < 44 + 10 * d + 2 + 8 then W (3 + (i - (44 + 10 * d + 2))) else W i := by
  rw [mdF, pk_un (by omega), mdR_at (by omega) 8 (by omega)]
theorem sn1 (W : Nat → Int32) (o u : Nat) : (snap W o u).1 = W (o + 44 + 10 * u) := rfl
theorem sn2 (W : Nat → Int32) (o u : Nat) : (snap W o u).2.1 = W (o + 44 + 10 * u + 1) := rfl
theorem sn3 (W : Nat → Int32) (o u k : Nat) : (snap W o u).2.2 k = W (o + 44 + 10 * u + 2 + k) := rfl
theorem tr1 (S : St) : (triB S 30).1 = gI S 30 8 := rfl
theorem tr2 (S : St) : (triB S 30).2.1 = gI S 30 7 := rfl
theorem tr3 (S : St) (k : Nat) : (triB S 30).2.2 k = gA S 37 k := rfl
theorem triE_mk {N : Nat} {x y : Int32} {f : Nat → Int32} {U : St} (h1 : x = gI U 30 8) (h2 : y = gI U 30 7) (h3 : ∀ k, k < N → f k = gA U 37 k) : triE N (x, y, f) (triB U 30) := ⟨h1, h2, h3⟩
theorem triO_mk {N : Nat} {V : St} (h1 : ∃ m, m ≤ 40 ∧ gI V 30 8 = nI m) (h2 : ∃ m, m < 2 ^ N ∧ gI V 30 7 = nI m) (h3 : ∀ k, k < N → ∃ m, m < 10 ∧ gA V 37 k = nI m) : triO N (triB V 30) := ⟨h1, h2, h3⟩
/-- the class's state V comes from U by deed number d, written as x; p is the place in the reference's row, v what stands there then -/
def cD (U V : St) (d : Nat) (x : Int32) (p : Nat) (v : Int32) : Prop := (∀ k j, ¬ (k = 30 ∧ 7 ≤ j ∧ j ≤ 9) → gI V k j = gI U k j) ∧ (∀ k j, gL V k j = gL U k j) ∧ (∀ k, k ≠ 37 → k ≠ 39 → gA V k = gA U k) ∧ gI V 30 9 = nI (d + 1) ∧ gA V 39 = upd (gA U 39) d x ∧ gI V 30 8 = (if p = 1 then v else gI U 30 8) ∧ gI V 30 7 = (if p = 2 then v else gI U 30 7) ∧ ∀ k, k < 8 → gA V 37 k = if p = 3 + k then v else gA U 37 k
theorem dn_of {S : St} {b d : Nat} (h : gI S b 9 = nI d) (hd : d < 2 ^ 31) : dnB S b = d := by unfold dnB; rw [h, nI_clamp hd]
theorem deed {U V : St} {W : Nat → Int32} {d p : Nat} {x v : Int32} (h : Rel (sA U 59 W)) (hd : gI U 30 9 = nI d) (h40 : d < 40) (c : cD U V d x p v) (ht : triE (szB U 30) (tb1 (szB U 30) x (triB V 30)) (triB U 30)) (ho : triO (szB U 30) (triB V 30)) (hp : 1 ≤ p) (hp2 : p < 11) : Rel (sA V 59 (upd (mdF W d) p v)) := by
  obtain ⟨c1, c2, c3, c4, c5, c6, c7, c8⟩ := c
  obtain ⟨⟨⟨⟨⟨z1, z2⟩, ⟨d1, d2⟩, n0, n1, n2, n43, nk⟩, ⟨-, -, r8, r7, rk⟩, hh⟩, hK, hR, hT⟩, hA⟩ := h
  rw [gA_same] at n0 n1 n2 n43
  have e6 : gI V 30 6 = gI U 30 6 := c1 30 6 (by omega)
  have es : szB V 30 = szB U 30 := by unfold szB; rw [e6]
  have ed : dnB V 30 = d + 1 := dn_of c4 (by omega)
  have ed0 : dnB U 30 = d := dn_of hd (by omega)
  have w43 : W 43 = nI d := n43.trans hd
  have hz : okB (sA V 59 (upd (mdF W d) p v)) 30 := ⟨by show gI V 30 6 = nI (szB V 30); rw [es, e6]; exact z1, by show szB V 30 ≤ 8; rw [es]; exact z2⟩
  have hdd : okD (sA V 59 (upd (mdF W d) p v)) 30 := ⟨by show gI V 30 9 = nI (dnB V 30); rw [ed, c4], by show dnB V 30 ≤ 40; rw [ed]; omega⟩
  have aV : ∀ k, k ≠ 59 → gA (sA V 59 (upd (mdF W d) p v)) k = gA V k := fun k hk => gA_ne hk
  have aU : ∀ k, k ≠ 59 → gA (sA U 59 W) k = gA U k := fun k hk => gA_ne hk
  have w59 : ∀ i, i ≠ p → i < 43 → gA (sA V 59 (upd (mdF W d) p v)) 59 i = W i := fun i h1 h2 => by rw [gA_same, pk_un h1, mdF_lo h2]
  have w59h : ∀ i, 44 ≤ i → gA (sA V 59 (upd (mdF W d) p v)) 59 i = mdF W d i := fun i h1 => by rw [gA_same, pk_un (by omega)]
  have hz2 : szB U 30 ≤ 8 := z2
  refine ⟨⟨⟨⟨hz, hdd, ?_, ?_, ?_, ?_, fun k hk => ?_⟩, ⟨hz, hdd, ?_, ?_, fun k hk => ?_⟩, fun u hu => ?_⟩, fun n hn => ?_, ?_, ?_⟩, ?_⟩
  · rw [w59 0 (by omega) (by omega), n0]; exact e6.symm
  · show gA (sA V 59 (upd (mdF W d) p v)) 59 1 = gI V 30 8
    rw [c6]
    by_cases q : p = 1
    · rw [if_pos q, gA_same, ← q, pk_us]
    · rw [if_neg q, w59 1 (by omega) (by omega), n1]; rfl
  · show gA (sA V 59 (upd (mdF W d) p v)) 59 2 = gI V 30 7
    rw [c7]
    by_cases q : p = 2
    · rw [if_pos q, gA_same, ← q, pk_us]
    · rw [if_neg q, w59 2 (by omega) (by omega), n2]; rfl
  · show gA (sA V 59 (upd (mdF W d) p v)) 59 43 = gI V 30 9
    rw [c4, gA_same, pk_un (by omega), mdF_43', w43, nI_1]
  · have hk' : k < szB U 30 := by rw [← es]; exact hk
    obtain ⟨a, b, c, e, f⟩ := nk k hk'
    simp only [Nat.zero_add] at a b c e f ⊢
    rw [gA_same] at a b c e f
    rw [w59 (11 + k) (by omega) (by omega), w59 (19 + k) (by omega) (by omega), w59 (27 + k) (by omega) (by omega), w59 (35 + k) (by omega) (by omega)]
    show W (11 + k) = gA _ 34 k ∧ W (19 + k) = gA _ 35 k ∧ W (27 + k) = gA _ 36 k ∧ gA _ 59 (3 + k) = gA _ 37 k ∧ W (35 + k) = gA _ 38 k
    rw [aV 34 (by omega), aV 35 (by omega), aV 36 (by omega), aV 37 (by omega), aV 38 (by omega), c3 34 (by omega) (by omega), c3 35 (by omega) (by omega), c3 36 (by omega) (by omega), c3 38 (by omega) (by omega), c8 k (by omega)]
    refine ⟨a, b, c, ?_, f⟩
    by_cases q : p = 3 + k
    · rw [if_pos q, gA_same, ← q, pk_us]
    · rw [if_neg q, w59 (3 + k) (by omega) (by omega)]; exact e
  · exact ho.1
  · show ∃ m, m < 2 ^ szB V 30 ∧ gI V 30 7 = nI m
    rw [es]; exact ho.2.1
  · have hk' : k < szB U 30 := by rw [← es]; exact hk
    obtain ⟨a, b, c, e, f⟩ := rk k hk'
    rw [aU 34 (by omega)] at a
    rw [aU 35 (by omega)] at b
    rw [aU 36 (by omega)] at c
    rw [aU 38 (by omega)] at f
    show (∃ m, m < 6 ∧ gA _ 34 k = nI m) ∧ (∃ m, m < 6 ∧ gA _ 35 k = nI m) ∧ (∃ m, m < 6 ∧ gA _ 36 k = nI m) ∧ (∃ m, m < 10 ∧ gA _ 37 k = nI m) ∧ ∃ m, m < 10 ∧ gA _ 38 k = nI m
    rw [aV 34 (by omega), aV 35 (by omega), aV 36 (by omega), aV 37 (by omega), aV 38 (by omega), c3 34 (by omega) (by omega), c3 35 (by omega) (by omega), c3 36 (by omega) (by omega), c3 38 (by omega) (by omega)]
    exact ⟨a, b, c, ho.2.2 k hk', f⟩
  · show triE (szB V 30) (ubk (gA (sA V 59 (upd (mdF W d) p v)) 39) (szB V 30) (dnB V 30 - u) (dnB V 30) (triB V 30)) _ ∧ triO (szB V 30) _
    have hu' : u < d + 1 := by rw [← ed]; exact hu
    rw [es, ed, aV 39 (by omega), c5]
    by_cases q : u = d
    · subst q
      have hs : triE (szB U 30) (triB U 30) (snap (gA (sA V 59 (upd (mdF W u) p v)) 59) 0 u) := by
        refine ⟨?_, ?_, fun k hk => ?_⟩
        · rw [tr1, sn1, w59h _ (by omega), mdF_hi (by omega), if_pos (by omega), n1]; rfl
        · rw [tr2, sn2, w59h _ (by omega), mdF_hi (by omega), if_neg (by omega), if_pos (by omega), n2]; rfl
        · rw [tr3, sn3, w59h _ (by omega), mdF_hi (by omega), if_neg (by omega), if_neg (by omega), if_pos (by omega), show 3 + (0 + 44 + 10 * u + 2 + k - (44 + 10 * u + 2)) = 3 + k by omega]
          have := (nk k hk).2.2.2.1
          rw [gA_same, Nat.zero_add] at this
          exact this.symm
      refine ⟨?_, triO_eq hs ⟨r8, r7, fun k hk => (rk k hk).2.2.2.1⟩⟩
      rw [show u + 1 - u = 0 + 1 by omega, ubk, ubk, Nat.add_sub_cancel, pk_us]
      exact triE_tr ht hs
    · obtain ⟨h1, h2⟩ := hh u (by show u < dnB U 30; rw [ed0]; omega)
      have hs : triE (szB U 30) (snap (gA (sA U 59 W) 59) 0 u) (snap (gA (sA V 59 (upd (mdF W d) p v)) 59) 0 u) := by
        refine ⟨?_, ?_, fun k hk => ?_⟩
        · rw [sn1, sn1, w59h _ (by omega), mdF_hi (by omega), if_neg (by omega), if_neg (by omega), if_neg (by omega), gA_same]
        · rw [sn2, sn2, w59h _ (by omega), mdF_hi (by omega), if_neg (by omega), if_neg (by omega), if_neg (by omega), gA_same]
        · rw [sn3, sn3, w59h _ (by omega), mdF_hi (by omega), if_neg (by omega), if_neg (by omega), if_neg (by omega), gA_same]
      refine ⟨?_, triO_eq hs h2⟩
      refine triE_tr ?_ (triE_tr h1 hs)
      show triE (szB U 30) _ (ubk (gA (sA U 59 W) 39) (szB U 30) (dnB U 30 - u) (dnB U 30) (triB U 30))
      rw [ed0, aU 39 (by omega), show d + 1 - u = (d - u) + 1 by omega, ubk, Nat.add_sub_cancel, pk_us]
      exact ubk_eq _ _ _ _ (by omega) (fun i hi => pk_un (by omega)) ht
  · refine BK_of (hK n hn) (fun j _ _ => c1 _ _ (by omega)) (fun j hj k _ => ?_) (fun k _ => ?_) (fun i _ => ?_)
    · rw [aV _ (by omega), aU _ (by omega), c3 _ (by omega) (by omega)]
    · rw [aV _ (by omega), aU _ (by omega), c3 _ (by omega) (by omega)]
    · rw [w59h _ (by omega), mdF_hi (by omega), if_neg (by omega), if_neg (by omega), if_neg (by omega), gA_same]
  · exact rwE_of hR (fun n _ => c1 _ _ (by omega)) (fun n _ => by rw [aV _ (by omega), aU _ (by omega), c3 _ (by omega) (by omega)]) (fun n _ i _ => by rw [aV _ (by omega), aU _ (by omega), c3 _ (by omega) (by omega)]) (fun n _ i _ => by rw [aV _ (by omega), aU _ (by omega), c3 _ (by omega) (by omega)])
  · exact rwE_of hT (fun n _ => c1 _ _ (by omega)) (fun n _ => by rw [aV _ (by omega), aU _ (by omega), c3 _ (by omega) (by omega)]) (fun n _ i _ => by rw [aV _ (by omega), aU _ (by omega), c3 _ (by omega) (by omega)]) (fun n _ i _ => by rw [aV _ (by omega), aU _ (by omega), c3 _ (by omega) (by omega)])
  · refine RLt_same hA ⟨?_, ?_, c1 0 7 (by omega), c1 58 5 (by omega), c2 _ _, c2 _ _, c2 _ _, c2 _ _⟩ (c1 0 8 (by omega)) (c1 58 7 (by omega))
    · rw [aV 4 (by omega), aU 4 (by omega), c3 4 (by omega) (by omega)]
    · rw [aV 64 (by omega), aU 64 (by omega), c3 64 (by omega) (by omega)]
/-! the four kinds of deeds -/
theorem bit_f {m k : Nat} (hm : m < 256) (hk : k < 8) : (m.testBit k = true → nI m &&& (((1 : Int32) <<< (nI k &&& 31)) ^^^ (-1)) = nI (m - 2 ^ k) ∧ nI m ^^^ ((1 : Int32) <<< (nI k &&& 31)) = nI (m - 2 ^ k) ∧ nI (m - 2 ^ k) ||| ((1 : Int32) <<< (nI k &&& 31)) = nI m) ∧ (m.testBit k = false → nI m ||| ((1 : Int32) <<< (nI k &&& 31)) = nI (m + 2 ^ k) ∧ nI m ^^^ ((1 : Int32) <<< (nI k &&& 31)) = nI (m + 2 ^ k) ∧ nI (m + 2 ^ k) &&& (((1 : Int32) <<< (nI k &&& 31)) ^^^ (-1)) = nI m ∧ m ||| 2 ^ k = m + 2 ^ k) := by
  have z : ∀ m : Fin 256, ∀ k : Fin 8, (m.1.testBit k.1 = true → nI m.1 &&& (((1 : Int32) <<< (nI k.1 &&& 31)) ^^^ (-1)) = nI (m.1 - 2 ^ k.1) ∧ nI m.1 ^^^ ((1 : Int32) <<< (nI k.1 &&& 31)) = nI (m.1 - 2 ^ k.1) ∧ nI (m.1 - 2 ^ k.1) ||| ((1 : Int32) <<< (nI k.1 &&& 31)) = nI m.1) ∧ (m.1.testBit k.1 = false → nI m.1 ||| ((1 : Int32) <<< (nI k.1 &&& 31)) = nI (m.1 + 2 ^ k.1) ∧ nI m.1 ^^^ ((1 : Int32) <<< (nI k.1 &&& 31)) = nI (m.1 + 2 ^ k.1) ∧ nI (m.1 + 2 ^ k.1) &&& (((1 : Int32) <<< (nI k.1 &&& 31)) ^^^ (-1)) = nI m.1 ∧ m.1 ||| 2 ^ k.1 = m.1 + 2 ^ k.1) := by decide +kernel
  exact z ⟨m, hm⟩ ⟨k, hk⟩
theorem dd_1 {k : Nat} (hk : k < 8) : (1 + 4 * (nI k + 8 * 0)) - (1 + 4 * (nI k + 8 * 0)) / 4 * 4 = 1 ∧ tbK (1 + 4 * (nI k + 8 * 0)) = nI k := by
  have z : ∀ k : Fin 8, (1 + 4 * (nI k.1 + 8 * 0)) - (1 + 4 * (nI k.1 + 8 * 0)) / 4 * 4 = 1 ∧ tbK (1 + 4 * (nI k.1 + 8 * 0)) = nI k.1 := by decide +kernel
  exact z ⟨k, hk⟩
theorem dd_2 {k : Nat} (hk : k < 8) : (2 + 4 * (nI k + 8 * 0)) - (2 + 4 * (nI k + 8 * 0)) / 4 * 4 = 2 ∧ tbK (2 + 4 * (nI k + 8 * 0)) = nI k := by
  have z : ∀ k : Fin 8, (2 + 4 * (nI k.1 + 8 * 0)) - (2 + 4 * (nI k.1 + 8 * 0)) / 4 * 4 = 2 ∧ tbK (2 + 4 * (nI k.1 + 8 * 0)) = nI k.1 := by decide +kernel
  exact z ⟨k, hk⟩
theorem dd_3 {k q : Nat} (hk : k < 8) (hq : q < 10) : (3 + 4 * (nI k + 8 * nI q)) - (3 + 4 * (nI k + 8 * nI q)) / 4 * 4 = 3 ∧ tbK (3 + 4 * (nI k + 8 * nI q)) = nI k ∧ (3 + 4 * (nI k + 8 * nI q)) / 4 / 8 = nI q := by
  have z : ∀ k : Fin 8, ∀ q : Fin 10, (3 + 4 * (nI k.1 + 8 * nI q.1)) - (3 + 4 * (nI k.1 + 8 * nI q.1)) / 4 * 4 = 3 ∧ tbK (3 + 4 * (nI k.1 + 8 * nI q.1)) = nI k.1 ∧ (3 + 4 * (nI k.1 + 8 * nI q.1)) / 4 / 8 = nI q.1 := by decide +kernel
  exact z ⟨k, hk⟩ ⟨q, hq⟩
/-- a deed written -/
theorem wri_is {U : St} {d : Nat} {w k z : Int32} (hd : gI U 30 9 = nI d) (h40 : d < 40) : wriF U 30 w k z = sI (sA U 39 (upd (gA U 39) d (w + 4 * (k + 8 * z)))) 30 9 (nI (d + 1)) := by
  unfold wriF
  rw [if_pos (by rw [hd]; exact (nI_ltI (b := 40) (by omega) (by omega)).mpr h40), dn_of hd (by omega), hd, nI_1]
section DK
variable {U : St} {W : Nat → Int32} {d k m q : Nat}
theorem cD_pass (hd : gI U 30 9 = nI d) (h40 : d < 40) : cD U (passF U 30) d (0 + 4 * (0 + 8 * 0)) 1 (gI U 30 8 + 1) := by
  unfold passF
  rw [wri_is hd h40]
  refine ⟨fun k j h => ?_, fun _ _ => rfl, fun k h1 h2 => gA_ne h2, rfl, rfl, rfl, rfl, fun k hk => ?_⟩
  · rw [gI_ne (by omega), gI_ne (by omega)]; rfl
  · rw [if_neg (by omega)]; rfl
theorem cD_lit {x w v : Int32} (hd : gI U 30 9 = nI d) (h40 : d < 40) : cD U (sI (wriF U 30 w x 0) 30 7 v) d (w + 4 * (x + 8 * 0)) 2 v := by
  rw [wri_is hd h40]
  refine ⟨fun k j h => ?_, fun _ _ => rfl, fun k h1 h2 => gA_ne h2, rfl, rfl, rfl, rfl, fun k hk => ?_⟩
  · rw [gI_ne (by omega), gI_ne (by omega)]; rfl
  · rw [if_neg (by omega)]; rfl
theorem cD_car {x y v : Int32} (hd : gI U 30 9 = nI d) (h40 : d < 40) : cD U (sA (wriF U 30 3 x y) 37 (upd (gA (wriF U 30 3 x y) 37) k v)) d (3 + 4 * (x + 8 * y)) (3 + k) v := by
  rw [wri_is hd h40]
  refine ⟨fun a j h => ?_, fun _ _ => rfl, fun a h1 h2 => ?_, rfl, rfl, ?_, ?_, fun a ha => ?_⟩
  · rw [gI_sA, gI_ne (by omega)]; rfl
  · rw [gA_ne h1]; exact gA_ne h2
  · rw [if_neg (by omega)]; rfl
  · rw [if_neg (by omega)]; rfl
  · rw [gA_same]
    by_cases e : a = k
    · rw [e, pk_us, if_pos rfl]
    · rw [pk_un e, if_neg (by omega)]; rfl
end DK
/-- the state's bank in numbers -/
theorem Rel_bk {U : St} {W : Nat → Int32} (h : Rel (sA U 59 W)) : okB U 30 ∧ okD U 30 ∧ (∃ m, m ≤ 40 ∧ gI U 30 8 = nI m) ∧ (∃ m, m < 2 ^ szB U 30 ∧ gI U 30 7 = nI m) ∧ ∀ k, k < szB U 30 → ∃ m, m < 10 ∧ gA U 37 k = nI m :=
  ⟨h.1.1.1.1, h.1.1.1.2.1, h.1.1.2.1.2.2.1, h.1.1.2.1.2.2.2.1, fun k hk => (h.1.1.2.1.2.2.2.2 k hk).2.2.2.1⟩
theorem deed_pass {U : St} {W : Nat → Int32} {d : Nat} (h : Rel (sA U 59 W)) (hd : gI U 30 9 = nI d) (h40 : d < 40) (hn : gI U 30 8 < 40) : Rel (sA (passF U 30) 59 (upd (mdF W d) 1 (gI U 30 8 + 1))) := by
  obtain ⟨hz, hdd, ⟨a, ha, ea⟩, hl, hp⟩ := Rel_bk h
  have c := cD_pass hd h40
  refine deed h hd h40 c ?_ ?_ (by omega) (by omega)
  · unfold tb1
    rw [if_pos (by decide)]
    refine triE_mk ?_ c.2.2.2.2.2.2.1 (fun k hk => ?_)
    · rw [tr1, c.2.2.2.2.2.1, if_pos rfl, Int32.add_sub_cancel]
    · rw [tr3, c.2.2.2.2.2.2.2 k (by have := hz.2; omega), if_neg (by omega)]
  · refine triO_mk ⟨a + 1, ?_, ?_⟩ ?_ (fun k hk => ?_)
    · rw [ea] at hn
      have := (nI_ltI (b := 40) (by omega) (by omega)).mp hn
      omega
    · rw [c.2.2.2.2.2.1, if_pos rfl, ea, nI_1]
    · rw [c.2.2.2.2.2.2.1, if_neg (by omega)]; exact hl
    · rw [c.2.2.2.2.2.2.2 k (by have := hz.2; omega), if_neg (by omega)]; exact hp k hk
theorem lit_tb {U : St} {k : Nat} (hz : okB U 30) (hk : k < szB U 30) {m : Nat} (hm : m < 2 ^ szB U 30) (e : gI U 30 7 = nI m) : litF U 30 (nI k) = m.testBit k := by
  have h8 := hz.2
  have := p256 h8
  unfold litF
  rw [has_lt hz hk, Bool.true_and, e]
  exact hs_nat (by omega) (by omega)
theorem deed_put {U : St} {W : Nat → Int32} {d k : Nat} (h : Rel (sA U 59 W)) (hd : gI U 30 9 = nI d) (h40 : d < 40) (hk : k < szB U 30) (hl : litF U 30 (nI k) = true) : Rel (sA (putF U 30 (nI k)) 59 (upd (mdF W d) 2 (gI U 30 7 ^^^ ((1 : Int32) <<< (nI k &&& 31))))) := by
  obtain ⟨hz, hdd, hn, ⟨m, hm, em⟩, hp⟩ := Rel_bk h
  have h8 := hz.2
  have m8 := p256 h8
  have tb : m.testBit k = true := by rw [← lit_tb hz hk hm em]; exact hl
  obtain ⟨b1, b2, b3⟩ := (bit_f (m := m) (k := k) (by omega) (by omega)).1 tb
  have e : putF U 30 (nI k) = sI (wriF U 30 1 (nI k) 0) 30 7 (nI (m - 2 ^ k)) := by
    unfold putF
    rw [if_pos (has_lt hz hk)]
    have : gI (wriF U 30 1 (nI k) 0) 30 7 = nI m := by rw [gI_wri _ _ _ _ _ _ _ (by omega)]; exact em
    rw [this, b1]
  rw [e, em, b2]
  have c := cD_lit (x := nI k) (w := 1) (v := nI (m - 2 ^ k)) hd h40
  refine deed h hd h40 c ?_ ?_ (by omega) (by omega)
  · unfold tb1
    obtain ⟨t1, t2⟩ := dd_1 (show k < 8 by omega)
    rw [if_neg (by rw [t1]; decide), if_pos t1, t2]
    refine triE_mk c.2.2.2.2.2.1 ?_ (fun i hi => ?_)
    · rw [tr2, gI_same, b3, em]
    · rw [tr3, c.2.2.2.2.2.2.2 i (by omega), if_neg (by omega)]
  · refine triO_mk ?_ ⟨m - 2 ^ k, Nat.lt_of_le_of_lt (Nat.sub_le m (2 ^ k)) hm, rfl⟩ (fun i hi => ?_)
    · rw [c.2.2.2.2.2.1, if_neg (by omega)]; exact hn
    · rw [c.2.2.2.2.2.2.2 i (by omega), if_neg (by omega)]; exact hp i hi
theorem deed_lig {U : St} {W : Nat → Int32} {d k : Nat} (h : Rel (sA U 59 W)) (hd : gI U 30 9 = nI d) (h40 : d < 40) (hk : k < szB U 30) (hl : litF U 30 (nI k) = false) : Rel (sA (ligF U 30 (nI k)) 59 (upd (mdF W d) 2 (gI U 30 7 ^^^ ((1 : Int32) <<< (nI k &&& 31))))) := by
  obtain ⟨hz, hdd, hn, ⟨m, hm, em⟩, hp⟩ := Rel_bk h
  have h8 := hz.2
  have m8 := p256 h8
  have tb : m.testBit k = false := by rw [← lit_tb hz hk hm em]; exact hl
  obtain ⟨b1, b2, b3, b4⟩ := (bit_f (m := m) (k := k) (by omega) (by omega)).2 tb
  have lt : m + 2 ^ k < 2 ^ szB U 30 := by rw [← b4]; exact Nat.or_lt_two_pow hm (Nat.pow_lt_pow_right (by omega) hk)
  have e : ligF U 30 (nI k) = sI (wriF U 30 2 (nI k) 0) 30 7 (nI (m + 2 ^ k)) := by
    unfold ligF
    rw [if_pos (has_lt hz hk)]
    have : gI (wriF U 30 2 (nI k) 0) 30 7 = nI m := by rw [gI_wri _ _ _ _ _ _ _ (by omega)]; exact em
    rw [this, b1]
  rw [e, em, b2]
  have c := cD_lit (x := nI k) (w := 2) (v := nI (m + 2 ^ k)) hd h40
  refine deed h hd h40 c ?_ ?_ (by omega) (by omega)
  · unfold tb1
    obtain ⟨t1, t2⟩ := dd_2 (show k < 8 by omega)
    rw [if_neg (by rw [t1]; decide), if_neg (by rw [t1]; decide), if_pos t1, t2]
    refine triE_mk c.2.2.2.2.2.1 ?_ (fun i hi => ?_)
    · rw [tr2, gI_same, b3, em]
    · rw [tr3, c.2.2.2.2.2.2.2 i (by omega), if_neg (by omega)]
  · refine triO_mk ?_ ⟨m + 2 ^ k, lt, rfl⟩ (fun i hi => ?_)
    · rw [c.2.2.2.2.2.1, if_neg (by omega)]; exact hn
    · rw [c.2.2.2.2.2.2.2 i (by omega), if_neg (by omega)]; exact hp i hi
theorem deed_car {U : St} {W : Nat → Int32} {d k p : Nat} (h : Rel (sA U 59 W)) (hd : gI U 30 9 = nI d) (h40 : d < 40) (hk : k < szB U 30) (hp10 : p < 10) : Rel (sA (carF U 30 (nI k) (nI p)) 59 (upd (mdF W d) (3 + k) (nI p))) := by
  obtain ⟨hz, hdd, hn, hl, hp⟩ := Rel_bk h
  have h8 := hz.2
  obtain ⟨q, hq, eq⟩ := hp k hk
  have e : carF U 30 (nI k) (nI p) = sA (wriF U 30 3 (nI k) (nI q)) 37 (upd (gA (wriF U 30 3 (nI k) (nI q)) 37) k (nI p)) := by
    unfold carF
    rw [if_pos (has_lt hz hk), nI_clamp (by omega)]
    show sA (wriF U 30 3 (nI k) (gA U 37 k)) 37 (upd (gA (wriF U 30 3 (nI k) (gA U 37 k)) 37) k (nI p)) = _
    rw [eq]
  rw [e]
  have c := cD_car (k := k) (x := nI k) (y := nI q) (v := nI p) hd h40
  refine deed h hd h40 c ?_ ?_ (by omega) (by omega)
  · unfold tb1
    obtain ⟨t1, t2, t3⟩ := dd_3 (show k < 8 by omega) hq
    rw [if_neg (by rw [t1]; decide), if_neg (by rw [t1]; decide), if_neg (by rw [t1]; decide), t2, t3, if_pos (idx_in hk (by omega)), nI_clamp (by omega)]
    refine triE_mk ?_ ?_ (fun i hi => ?_)
    · rw [tr1, c.2.2.2.2.2.1, if_neg (by omega)]
    · rw [tr2, c.2.2.2.2.2.2.1, if_neg (by omega)]
    · by_cases z : i = k
      · rw [z, pk_us, eq]
      · rw [pk_un z, tr3]
        have := c.2.2.2.2.2.2.2 i (by omega)
        rw [if_neg (by omega)] at this
        exact this
  · refine triO_mk ?_ ?_ (fun i hi => ?_)
    · rw [c.2.2.2.2.2.1, if_neg (by omega)]; exact hn
    · rw [c.2.2.2.2.2.2.1, if_neg (by omega)]; exact hl
    · rw [c.2.2.2.2.2.2.2 i (by omega)]
      split
      · exact ⟨p, hp10, rfl⟩
      · exact hp i hi
