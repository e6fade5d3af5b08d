/-! THE REFERENCE: duel -/
def dlS (S : St) (f g h : Nat → Int32) : St := sA (sA (sA S 69 f) 70 g) 71 h
theorem dl_69 {S : St} {f g h x : Nat → Int32} : sA (dlS S f g h) 69 x = dlS S x g h := by
  refine st_ext (fun _ _ => rfl) (fun _ _ => rfl) (fun k i => ?_)
  by_cases a : k = 69
  · subst a; rfl
  · simp only [dlS, gA_sA, if_neg a]
theorem dl_70 {S : St} {f g h x : Nat → Int32} : sA (dlS S f g h) 70 x = dlS S f x h := by
  refine st_ext (fun _ _ => rfl) (fun _ _ => rfl) (fun k i => ?_)
  by_cases a : k = 70
  · subst a; rfl
  · simp only [dlS, gA_sA, if_neg a]
theorem dl_71 {S : St} {f g h x : Nat → Int32} : sA (dlS S f g h) 71 x = dlS S f g x := sA_sA _ _ _ _
theorem dl_self (S : St) : S = dlS S (gA S 69) (gA S 70) (gA S 71) := by
  refine st_ext (fun _ _ => rfl) (fun _ _ => rfl) (fun k i => ?_)
  by_cases a : k = 69
  · subst a; rfl
  · by_cases b : k = 70
    · subst b; rfl
    · by_cases c : k = 71
      · subst c; rfl
      · simp only [dlS, gA_sA, if_neg a, if_neg b, if_neg c]
def btM (d : Nat) (acc v : Int32) : Int32 := if acc = -9 then v else if d % 2 = 0 then (if acc ≤ v then acc else v) else (if v ≤ acc then acc else v)
def mvM (S : St) (L : Int32) (k : Nat) : Int32 := if nI k = gA S 59 0 then L else L ^^^ ((1 : Int32) <<< (nI k &&& 31))
def okV (S : St) (d : Nat) (L : Int32) (k : Nat) : Bool := decide (nI k = gA S 59 0) || decide (bI (hsF L (nI k)) = if d % 2 = 0 then 1 else 0)
def dvF (S : St) (d : Nat) (L : Int32) (child : Int32 → Int32) : Nat → Int32 | 0 => -9 | k + 1 => if okV S d L k = true then btM d (dvF S d L child k) (child (mvM S L k)) else dvF S d L child k
def dvM (S : St) (p : Int32) : Nat → Nat → Int32 → Int32
  | 0, _, L => brR S p L (gA S 59 1) (nM S)
  | r + 1, d, L => dvF S d L (dvM S p r (d + 1)) (nM S + 1)
def ndh (d : Nat) (h : Nat → Int32) : Nat → Int32 := if d = 0 then h else upd h (d - 1) (btM (d - 1) (h (d - 1)) (h d))
theorem be_bt {S : St} {f g h : Nat → Int32} {d : Nat} (hd : 0 < d) : beF (dlS S f g h) (d - 1) = btM (d - 1) (h (d - 1)) (h d) := by
  have e : d - 1 + 1 = d := by omega
  unfold beF btM
  rw [e]
  rfl
theorem nI_dm {d : Nat} (h : 0 < d) : nI d + (-1) = nI (d - 1) := by
  obtain ⟨e, rfl⟩ : ∃ e, d = e + 1 := ⟨d - 1, by omega⟩
  rw [← nI_1, Nat.add_sub_cancel, Int32.add_assoc]
  exact Int32.add_zero _
theorem nI_0m {d : Nat} (h : d < 100) (c : nI d + (-1) < 0) : d = 0 := by
  rcases Nat.eq_zero_or_pos d with q | q
  · exact q
  · rw [nI_dm q] at c
    exact absurd c (nI_pos (by omega))
theorem nI_0p {d : Nat} (c : ¬ nI d + (-1) < 0) : 0 < d := by
  rcases Nat.eq_zero_or_pos d with q | q
  · subst q; exact absurd (by decide) c
  · exact q
set_option maxRecDepth 100000 in
set_option maxHeartbeats 4000000 in
theorem c_X9_duel_bad (E : En) (S : St) (p x : Int32) (h : ¬ (placeF p = true ∧ inF x.toInt64 0 4 = true)) : CTe E i_X9_duel S [.ref (eA E 58), .int p, .int x] S (some (.int (-1))) := by
  refine ct_of [(0, .ref (eA E 58)), (1, .int p), (2, .int x)] (by decide +kernel) (Nat.le_of_ble_eq_true rfl) rfl (fun X hM => ?_)
  refine g_iload_n (pc := 0) dX9_duel_0 1 rfl rfl ?_
  refine g_invS (pc := 1) j_X9_isPlace mw_X9_156 dX9_duel_1 (by rfl) (c_X9_isPlace E S p ) (Nat.le_of_ble_eq_true rfl) (Nat.le_of_ble_eq_true rfl) (by rfl) (Nat.le_of_ble_eq_true rfl) ?_
  refine g_b_eq (pc := 4) (tgt := 19) dX9_duel_4 (by decide) (fun c_4 => ?_) (fun c_4 => ?_)
  · refine g_iconst (pc := 19) (v := -1) dX9_duel_19 (by decide) ?_
    exact g_iret (pc := 20) hM rfl rfl ⟨rfl, rfl⟩ dX9_duel_20
  · refine g_iload_n (pc := 7) dX9_duel_7 2 rfl rfl ?_
    refine g_i2l (pc := 8) dX9_duel_8 ?_
    refine g_lconst (pc := 9) (v := 0) dX9_duel_9 (by decide) ?_
    refine g_ldc2 (pc := 10) kw_X9_217 dX9_duel_10 ?_
    refine g_invS (pc := 13) j_X9_in mw_X9_62 dX9_duel_13 (by rfl) (c_X9_in E S x.toInt64 0 4 ) (Nat.le_of_ble_eq_true rfl) (Nat.le_of_ble_eq_true rfl) (by rfl) (Nat.le_of_ble_eq_true rfl) ?_
    refine g_b_ne (pc := 16) (tgt := 21) dX9_duel_16 (by decide) (fun c_16 => ?_) (fun c_16 => ?_)
    · exact absurd ⟨c_4, c_16⟩ h
    · refine g_iconst (pc := 19) (v := -1) dX9_duel_19 (by decide) ?_
      exact g_iret (pc := 20) hM rfl rfl ⟨rfl, rfl⟩ dX9_duel_20
set_option maxRecDepth 100000 in
set_option maxHeartbeats 4000000 in
theorem c_X9_duel_no (E : En) (S : St) (p x : Int32) (hr : (placeF p = true ∧ inF x.toInt64 0 4 = true)) (h : gA S 59 0 = 0) : CTe E i_X9_duel S [.ref (eA E 58), .int p, .int x] S (some (.int (-4))) := by
  refine ct_of [(0, .ref (eA E 58)), (1, .int p), (2, .int x)] (by decide +kernel) (Nat.le_of_ble_eq_true rfl) rfl (fun X hM => ?_)
  refine g_iload_n (pc := 0) dX9_duel_0 1 rfl rfl ?_
  refine g_invS (pc := 1) j_X9_isPlace mw_X9_156 dX9_duel_1 (by rfl) (c_X9_isPlace E S p ) (Nat.le_of_ble_eq_true rfl) (Nat.le_of_ble_eq_true rfl) (by rfl) (Nat.le_of_ble_eq_true rfl) ?_
  refine g_b_eq (pc := 4) (tgt := 19) dX9_duel_4 (by decide) (fun c_4 => ?_) (fun c_4 => ?_)
  · exact absurd (hr.1.symm.trans c_4) (by decide)
  · refine g_iload_n (pc := 7) dX9_duel_7 2 rfl rfl ?_
    refine g_i2l (pc := 8) dX9_duel_8 ?_
    refine g_lconst (pc := 9) (v := 0) dX9_duel_9 (by decide) ?_
    refine g_ldc2 (pc := 10) kw_X9_217 dX9_duel_10 ?_
    refine g_invS (pc := 13) j_X9_in mw_X9_62 dX9_duel_13 (by rfl) (c_X9_in E S x.toInt64 0 4 ) (Nat.le_of_ble_eq_true rfl) (Nat.le_of_ble_eq_true rfl) (by rfl) (Nat.le_of_ble_eq_true rfl) ?_
    refine g_b_ne (pc := 16) (tgt := 21) dX9_duel_16 (by decide) (fun c_16 => ?_) (fun c_16 => ?_)
    · refine g_aload_n (pc := 21) dX9_duel_21 0 rfl rfl ?_
      refine gf_X9_7 (pc := 22) rfl dX9_duel_22 ?_
      refine g_iconst (pc := 25) (v := 0) dX9_duel_25 (by decide) ?_
      refine g_iald (pc := 26) 0 rfl rfl (by decide) (by decide) dX9_duel_26 ?_
      refine g_if_ne (pc := 27) (tgt := 33) dX9_duel_27 (by decide) (fun c_27 => ?_) (fun c_27 => ?_)
      · exact absurd h c_27
      · refine g_bipush (pc := 30) (v := -4) dX9_duel_30 (by decide) ?_
        exact g_iret (pc := 32) hM rfl rfl ⟨rfl, rfl⟩ dX9_duel_32
    · exact absurd (hr.2.symm.trans c_16) (by decide)
set_option maxRecDepth 100000 in
set_option maxHeartbeats 4000000 in
theorem c_X9_duel_ok (E : En) (S : St) (p : Int32) (t : Nat) (hz : okM S)(hr : (placeF p = true ∧ inF (nI t).toInt64 0 4 = true)) (ht4 : t ≤ 4) (h0 : ¬ gA S 59 0 = 0) : CT E i_X9_duel (S) [.ref (eA E 58), .int p, .int (nI t)] (fun S' r' => r' = some (.int (dvM S p t 0 (gA S 59 2))) ∧ ∃ f g h : Nat → Int32, S' = dlS S f g h) := by
  have hz8 := hz.2
  refine ct_of [(0, .ref (eA E 58)), (1, .int p), (2, .int (nI t))] (by decide +kernel) (Nat.le_of_ble_eq_true rfl) rfl (fun X hM => ?_)
  refine g_iload_n (pc := 0) dX9_duel_0 1 rfl rfl ?_
  refine g_invS (pc := 1) j_X9_isPlace mw_X9_156 dX9_duel_1 (by rfl) (c_X9_isPlace E S p ) (Nat.le_of_ble_eq_true rfl) (Nat.le_of_ble_eq_true rfl) (by rfl) (Nat.le_of_ble_eq_true rfl) ?_
  refine g_b_eq (pc := 4) (tgt := 19) dX9_duel_4 (by decide) (fun c_4 => ?_) (fun c_4 => ?_)
  · exact absurd (hr.1.symm.trans c_4) (by decide)
  · refine g_iload_n (pc := 7) dX9_duel_7 2 rfl rfl ?_
    refine g_i2l (pc := 8) dX9_duel_8 ?_
    refine g_lconst (pc := 9) (v := 0) dX9_duel_9 (by decide) ?_
    refine g_ldc2 (pc := 10) kw_X9_217 dX9_duel_10 ?_
    refine g_invS (pc := 13) j_X9_in mw_X9_62 dX9_duel_13 (by rfl) (c_X9_in E S ((nI t).toInt64) 0 4 ) (Nat.le_of_ble_eq_true rfl) (Nat.le_of_ble_eq_true rfl) (by rfl) (Nat.le_of_ble_eq_true rfl) ?_
    refine g_b_ne (pc := 16) (tgt := 21) dX9_duel_16 (by decide) (fun c_16 => ?_) (fun c_16 => ?_)
    · refine g_aload_n (pc := 21) dX9_duel_21 0 rfl rfl ?_
      refine gf_X9_7 (pc := 22) rfl dX9_duel_22 ?_
      refine g_iconst (pc := 25) (v := 0) dX9_duel_25 (by decide) ?_
      refine g_iald (pc := 26) 0 rfl rfl (by decide) (by decide) dX9_duel_26 ?_
      rw [show gA S 59 0 = (gA S 59) 0 from congrFun (rfl) 0]
      refine g_if_ne (pc := 27) (tgt := 33) dX9_duel_27 (by decide) (fun c_27 => ?_) (fun c_27 => ?_)
      · refine g_iconst (pc := 33) (v := 0) dX9_duel_33 (by decide) ?_
        refine g_istore_n (pc := 34) (L' := [(3, .int 0), (0, .ref (eA E 58)), (1, .int p), (2, .int (nI t))]) dX9_duel_34 rfl (Nat.le_of_ble_eq_true rfl) rfl ?_
        rw [dl_self S]
        obtain ⟨f9, e9⟩ : ∃ f, f = gA S 69 := ⟨_, rfl⟩
        obtain ⟨g9, e10⟩ : ∃ f, f = gA S 70 := ⟨_, rfl⟩
        obtain ⟨h9, e11⟩ : ∃ f, f = gA S 71 := ⟨_, rfl⟩
        rw [← e9, ← e10, ← e11]
        refine g_aload_n (pc := 35) dX9_duel_35 1 rfl rfl ?_
        refine gf_X9_44 (pc := 36) rfl dX9_duel_36 ?_
        refine g_iconst (pc := 39) (v := 0) dX9_duel_39 (by decide) ?_
        refine g_aload_n (pc := 40) dX9_duel_40 1 rfl rfl ?_
        refine gf_X9_7 (pc := 41) rfl dX9_duel_41 ?_
        refine g_iconst (pc := 44) (v := 2) dX9_duel_44 (by decide) ?_
        refine g_iald (pc := 45) 2 rfl rfl (by decide) (by decide) dX9_duel_45 ?_
        rw [show gA (dlS S f9 g9 h9) 59 2 = (gA S 59) 2 from congrFun (rfl) 2]
        refine g_iast (pc := 46) 0 rfl rfl (by decide) (by decide) dX9_duel_46 ?_
        rw [dl_69, show gA (dlS S f9 g9 h9) 69 = f9 from rfl]
        refine g_aload_n (pc := 47) dX9_duel_47 1 rfl rfl ?_
        refine gf_X9_47 (pc := 48) rfl dX9_duel_48 ?_
        refine g_iconst (pc := 51) (v := 0) dX9_duel_51 (by decide) ?_
        refine g_iconst (pc := 52) (v := 0) dX9_duel_52 (by decide) ?_
        refine g_iast (pc := 53) 0 rfl rfl (by decide) (by decide) dX9_duel_53 ?_
        rw [dl_70, show gA (dlS S (upd f9 0 ((gA S 59) 2)) g9 h9) 70 = g9 from rfl]
        refine g_aload_n (pc := 54) dX9_duel_54 1 rfl rfl ?_
        refine gf_X9_50 (pc := 55) rfl dX9_duel_55 ?_
        refine g_iconst (pc := 58) (v := 0) dX9_duel_58 (by decide) ?_
        refine g_bipush (pc := 59) (v := -9) dX9_duel_59 (by decide) ?_
        refine g_iast (pc := 61) 0 rfl rfl (by decide) (by decide) dX9_duel_61 ?_
        rw [dl_71, show gA (dlS S (upd f9 0 ((gA S 59) 2)) (upd g9 0 0) h9) 71 = h9 from rfl]
        have H : ∀ (r d : Nat) (L : Int32) (f0 g0 h0 : Nat → Int32), d + r = t → f0 d = L → (¬ r = 0 → g0 d = 0 ∧ h0 d = -9) → (∀ f2 g2 h2 : Nat → Int32, (∀ i, i ≤ d → f2 i = f0 i) → (∀ i, i < d → g2 i = g0 i) → (∀ i, i < d → h2 i = h0 i) → h2 d = dvM S p r d L → G E X i_X9_duel (dlS S f2 g2 (ndh d h2)) 62 [(0, .ref (eA E 58)), (1, .int p), (2, .int (nI t)), (3, .int (nI d + (-1)))] []) → G E X i_X9_duel (dlS S f0 g0 h0) 62 [(0, .ref (eA E 58)), (1, .int p), (2, .int (nI t)), (3, .int (nI d))] [] := by
          intro r
          induction r with
          | zero =>
            intro d L f0 g0 h0 hdr hf hgh K
            refine g_iload_n (pc := 62) dX9_duel_62 3 rfl rfl ?_
            refine g_if_lt (pc := 63) (tgt := 262) dX9_duel_63 (by decide) (fun c_63 => ?_) (fun c_63 => ?_)
            · have k_63 := Int32.not_le.mpr c_63
              exact absurd c_63 (nI_pos (by omega))
            · have k_63 := Int32.not_lt.mp c_63
              refine g_iload_n (pc := 66) dX9_duel_66 3 rfl rfl ?_
              refine g_iload_n (pc := 67) dX9_duel_67 2 rfl rfl ?_
              refine g_icmp_ne (pc := 68) (tgt := 109) dX9_duel_68 (by decide) (fun c_68 => ?_) (fun c_68 => ?_)
              · exact absurd (by rw [show d = t by omega]) c_68
              · refine g_aload_n (pc := 71) dX9_duel_71 0 rfl rfl ?_
                refine gf_X9_50 (pc := 72) rfl dX9_duel_72 ?_
                refine g_iload_n (pc := 75) dX9_duel_75 3 rfl rfl ?_
                refine g_aload_n (pc := 76) dX9_duel_76 0 rfl rfl ?_
                refine g_iload_n (pc := 77) dX9_duel_77 1 rfl rfl ?_
                refine g_aload_n (pc := 78) dX9_duel_78 0 rfl rfl ?_
                refine gf_X9_44 (pc := 79) rfl dX9_duel_79 ?_
                refine g_iload_n (pc := 82) dX9_duel_82 3 rfl rfl ?_
                refine g_iald (pc := 83) d rfl rfl (show d < 5 by omega) (by decide) dX9_duel_83 ?_
                rw [show gA (dlS S f0 g0 h0) 69 d = f0 d from congrFun (rfl) d]
                refine g_aload_n (pc := 84) dX9_duel_84 0 rfl rfl ?_
                refine gf_X9_7 (pc := 85) rfl dX9_duel_85 ?_
                refine g_iconst (pc := 88) (v := 1) dX9_duel_88 (by decide) ?_
                refine g_iald (pc := 89) 1 rfl rfl (by decide) (by decide) dX9_duel_89 ?_
                rw [show gA (dlS S f0 g0 h0) 59 1 = (gA S 59) 1 from congrFun (rfl) 1]
                refine g_invV (pc := 90) j_X9_brightBy mw_X9_172 dX9_duel_90 (rcv_X9) (by rfl) (c_X9_brightBy E (dlS S f0 g0 h0) p (f0 d) ((gA S 59) 1) (okM_w rfl hz)) (Nat.le_of_ble_eq_true rfl) (Nat.le_of_ble_eq_true rfl) (by rfl) (Nat.le_of_ble_eq_true rfl) ?_
                rw [show brR (dlS S f0 g0 h0) p (f0 d) ((gA S 59) 1) (nM (dlS S f0 g0 h0)) = brR S p (f0 d) (gA S 59 1) (nM S) from by rw [brR_w (S := S) (T := (dlS S f0 g0 h0)) rfl, nM_w (S := S) (T := (dlS S f0 g0 h0)) rfl]]
                refine g_iast (pc := 93) d rfl rfl (show d < 5 by omega) (by decide) dX9_duel_93 ?_
                rw [dl_71, show gA (dlS S f0 g0 h0) 71 = h0 from rfl]
                refine g_iinc (pc := 94) (L' := [(3, .int (nI d + (-1))), (0, .ref (eA E 58)), (1, .int p), (2, .int (nI t))]) dX9_duel_94 (k := 3) rfl (v := nI d + (-1)) rfl (Nat.le_of_ble_eq_true rfl) rfl ?_
                refine g_iload_n (pc := 97) dX9_duel_97 0 rfl rfl ?_
                refine g_if_lt (pc := 98) (tgt := 62) dX9_duel_98 (by decide) (fun c_98 => ?_) (fun c_98 => ?_)
                · have k_98 := Int32.not_le.mpr c_98
                  refine g_sub (L' := [(0, .ref (eA E 58)), (1, .int p), (2, .int (nI t)), (3, .int (nI d + (-1)))]) [1, 2, 3, 0] rfl ?_
                  exact g_eq (by rw [ndh, if_pos (nI_0m (by omega) c_98)]) rfl rfl (K f0 g0 (upd h0 d (brR S p (f0 d) (gA S 59 1) (nM S))) (fun _ _ => rfl) (fun _ _ => rfl) (fun i hi => pk_un (by omega)) (by rw [pk_us, hf]; rfl))
                · have k_98 := Int32.not_lt.mp c_98
                  have hd1 := nI_0p c_98
                  refine g_aload_n (pc := 101) dX9_duel_101 1 rfl rfl ?_
                  refine g_iload_n (pc := 102) dX9_duel_102 0 rfl rfl ?_
                  rw [nI_dm hd1]
                  refine g_invN (pc := 103) j_X9_betters mw_X9_219 dX9_duel_103 (rcv_X9) (by rfl) (c_X9_betters E (dlS S f0 g0 (upd h0 d (brR S p (f0 d) (gA S 59 1) (nM S)))) (d - 1) (by omega)) (Nat.le_of_ble_eq_true rfl) (Nat.le_of_ble_eq_true rfl) (by rfl) (Nat.le_of_ble_eq_true rfl) ?_
                  rw [be_bt hd1, dl_71, show gA (dlS S f0 g0 (upd h0 d (brR S p (f0 d) (gA S 59 1) (nM S)))) 71 = (upd h0 d (brR S p (f0 d) (gA S 59 1) (nM S))) from rfl]
                  refine g_goto (pc := 106) (tgt := 62) dX9_duel_106 (by decide) ?_
                  refine g_sub (L' := [(0, .ref (eA E 58)), (1, .int p), (2, .int (nI t)), (3, .int (nI (d - 1)))]) [1, 2, 3, 0] rfl ?_
                  exact g_eq (by rw [ndh, if_neg (by omega)]) (by rw [nI_dm hd1]) rfl (K f0 g0 (upd h0 d (brR S p (f0 d) (gA S 59 1) (nM S))) (fun _ _ => rfl) (fun _ _ => rfl) (fun i hi => pk_un (by omega)) (by rw [pk_us, hf]; rfl))
          | succ r ihr =>
            intro d L f0 g0 h0 hdr hf hgh K
            have Hk : ∀ k, k ≤ nM S + 1 → ∀ f g h : Nat → Int32, (∀ i, i ≤ d → f i = f0 i) → (∀ i, i < d → g i = g0 i) → g d = nI k → (∀ i, i < d → h i = h0 i) → h d = dvF S d L (dvM S p r (d + 1)) k → G E X i_X9_duel (dlS S f g h) 62 [(0, .ref (eA E 58)), (1, .int p), (2, .int (nI t)), (3, .int (nI d))] [] := by
              refine dn_ind (nM S + 1) (fun k hkn ihk => ?_)
              intro f g h hf1 hg1 hgk hh1 hhk
              have hLd : f d = L := (hf1 d (Nat.le_refl _)).trans hf
              refine g_iload_n (pc := 62) dX9_duel_62 3 rfl rfl ?_
              refine g_if_lt (pc := 63) (tgt := 262) dX9_duel_63 (by decide) (fun c_63 => ?_) (fun c_63 => ?_)
              · have k_63 := Int32.not_le.mpr c_63
                exact absurd c_63 (nI_pos (by omega))
              · have k_63 := Int32.not_lt.mp c_63
                refine g_iload_n (pc := 66) dX9_duel_66 3 rfl rfl ?_
                refine g_iload_n (pc := 67) dX9_duel_67 2 rfl rfl ?_
                refine g_icmp_ne (pc := 68) (tgt := 109) dX9_duel_68 (by decide) (fun c_68 => ?_) (fun c_68 => ?_)
                · refine g_aload_n (pc := 109) dX9_duel_109 0 rfl rfl ?_
                  refine gf_X9_47 (pc := 110) rfl dX9_duel_110 ?_
                  refine g_iload_n (pc := 113) dX9_duel_113 3 rfl rfl ?_
                  refine g_iald (pc := 114) d rfl rfl (show d < 5 by omega) (by decide) dX9_duel_114 ?_
                  rw [show gA (dlS S f g h) 70 d = g d from congrFun (rfl) d]
                  refine g_aload_n (pc := 115) dX9_duel_115 0 rfl rfl ?_
                  refine gf_X9_7 (pc := 116) rfl dX9_duel_116 ?_
                  refine g_iconst (pc := 119) (v := 0) dX9_duel_119 (by decide) ?_
                  refine g_iald (pc := 120) 0 rfl rfl (by decide) (by decide) dX9_duel_120 ?_
                  rw [show gA (dlS S f g h) 59 0 = (gA S 59) 0 from congrFun (rfl) 0]
                  refine g_icmp_le (pc := 121) (tgt := 139) dX9_duel_121 (by decide) (fun c_121 => ?_) (fun c_121 => ?_)
                  · have k_121 := Int32.not_lt.mpr c_121
                    have hkN : k ≤ nM S := by rw [hgk, hz.1] at c_121; exact (nI_leI (by omega) (by omega)).mp c_121
                    refine g_aload_n (pc := 139) dX9_duel_139 0 rfl rfl ?_
                    refine gf_X9_47 (pc := 140) rfl dX9_duel_140 ?_
                    refine g_iload_n (pc := 143) dX9_duel_143 3 rfl rfl ?_
                    refine g_iald (pc := 144) d rfl rfl (show d < 5 by omega) (by decide) dX9_duel_144 ?_
                    rw [show gA (dlS S f g h) 70 d = g d from congrFun (rfl) d]
                    rw [hgk]
                    refine g_istore (pc := 145) (L' := [(4, .int (nI k)), (0, .ref (eA E 58)), (1, .int p), (2, .int (nI t)), (3, .int (nI d))]) dX9_duel_145 (Nat.le_of_ble_eq_true rfl) rfl ?_
                    refine g_aload_n (pc := 147) dX9_duel_147 1 rfl rfl ?_
                    refine gf_X9_47 (pc := 148) rfl dX9_duel_148 ?_
                    refine g_iload_n (pc := 151) dX9_duel_151 4 rfl rfl ?_
                    refine g_dup2 (pc := 152) dX9_duel_152 rfl rfl ?_
                    refine g_iald (pc := 153) d rfl rfl (show d < 5 by omega) (by decide) dX9_duel_153 ?_
                    rw [show gA (dlS S f g h) 70 d = g d from congrFun (rfl) d]
                    refine g_iconst (pc := 154) (v := 1) dX9_duel_154 (by decide) ?_
                    refine g_iadd (pc := 155) dX9_duel_155 ?_
                    refine g_iast (pc := 156) d rfl rfl (show d < 5 by omega) (by decide) dX9_duel_156 ?_
                    rw [dl_70, show gA (dlS S f g h) 70 = g from rfl]
                    refine g_iload_n (pc := 157) dX9_duel_157 4 rfl rfl ?_
                    refine g_iconst (pc := 158) (v := 2) dX9_duel_158 (by decide) ?_
                    refine g_irem (pc := 159) dX9_duel_159 (by decide) ?_
                    rw [rem2 (by omega)]
                    refine g_if_ne (pc := 160) (tgt := 167) dX9_duel_160 (by decide) (fun c_160 => ?_) (fun c_160 => ?_)
                    · have hpar : ¬ d % 2 = 0 := fun q => c_160 ((nI_eq (a := d % 2) (b := 0) (by omega) (by omega)).mpr q)
                      refine g_iconst (pc := 167) (v := 0) dX9_duel_167 (by decide) ?_
                      refine g_istore (pc := 168) (L' := [(5, .int 0), (4, .int (nI k)), (0, .ref (eA E 58)), (1, .int p), (2, .int (nI t)), (3, .int (nI d))]) dX9_duel_168 (Nat.le_of_ble_eq_true rfl) rfl ?_
                      refine g_iload (pc := 170) dX9_duel_170 1 rfl ?_
                      refine g_aload_n (pc := 172) dX9_duel_172 2 rfl rfl ?_
                      refine gf_X9_7 (pc := 173) rfl dX9_duel_173 ?_
                      refine g_iconst (pc := 176) (v := 0) dX9_duel_176 (by decide) ?_
                      refine g_iald (pc := 177) 0 rfl rfl (by decide) (by decide) dX9_duel_177 ?_
                      rw [show gA (dlS S f (upd g d (g d + 1)) h) 59 0 = (gA S 59) 0 from congrFun (rfl) 0]
                      refine g_icmp_eq (pc := 178) (tgt := 197) dX9_duel_178 (by decide) (fun c_178 => ?_) (fun c_178 => ?_)
                      · refine g_aload_n (pc := 197) dX9_duel_197 2 rfl rfl ?_
                        refine gf_X9_44 (pc := 198) rfl dX9_duel_198 ?_
                        refine g_iload_n (pc := 201) dX9_duel_201 5 rfl rfl ?_
                        refine g_iconst (pc := 202) (v := 1) dX9_duel_202 (by decide) ?_
                        refine g_iadd (pc := 203) dX9_duel_203 ?_
                        refine g_iload (pc := 204) dX9_duel_204 1 rfl ?_
                        refine g_aload_n (pc := 206) dX9_duel_206 2 rfl rfl ?_
                        refine gf_X9_7 (pc := 207) rfl dX9_duel_207 ?_
                        refine g_iconst (pc := 210) (v := 0) dX9_duel_210 (by decide) ?_
                        refine g_iald (pc := 211) 0 rfl rfl (by decide) (by decide) dX9_duel_211 ?_
                        rw [show gA (dlS S f (upd g d (g d + 1)) h) 59 0 = (gA S 59) 0 from congrFun (rfl) 0]
                        refine g_icmp_ne (pc := 212) (tgt := 224) dX9_duel_212 (by decide) (fun c_212 => ?_) (fun c_212 => ?_)
                        · exact absurd c_178 c_212
                        · refine g_aload_n (pc := 215) dX9_duel_215 2 rfl rfl ?_
                          refine gf_X9_44 (pc := 216) rfl dX9_duel_216 ?_
                          refine g_iload_n (pc := 219) dX9_duel_219 5 rfl rfl ?_
                          refine g_iald (pc := 220) d rfl rfl (show d < 5 by omega) (by decide) dX9_duel_220 ?_
                          rw [show gA (dlS S f (upd g d (g d + 1)) h) 69 d = f d from congrFun (rfl) d]
                          refine g_goto (pc := 221) (tgt := 235) dX9_duel_221 (by decide) ?_
                          refine g_iast (pc := 235) (d + 1) (nI_aE rfl rfl) rfl (show d + 1 < 5 by omega) (by decide) dX9_duel_235 ?_
                          rw [dl_69, show gA (dlS S f (upd g d (g d + 1)) h) 69 = f from rfl]
                          refine g_iinc (pc := 236) (L' := [(3, .int (nI d + 1)), (5, .int 0), (4, .int (nI k)), (0, .ref (eA E 58)), (1, .int p), (2, .int (nI t))]) dX9_duel_236 (k := 5) rfl (v := nI d + 1) rfl (Nat.le_of_ble_eq_true rfl) rfl ?_
                          refine g_iload_n (pc := 239) dX9_duel_239 0 rfl rfl ?_
                          refine g_iload_n (pc := 240) dX9_duel_240 5 rfl rfl ?_
                          refine g_icmp_ge (pc := 241) (tgt := 259) dX9_duel_241 (by decide) (fun c_241 => ?_) (fun c_241 => ?_)
                          · have k_241 := Int32.not_lt.mpr c_241
                            refine g_goto (pc := 259) (tgt := 62) dX9_duel_259 (by decide) ?_
                            refine g_sub (L' := [(0, .ref (eA E 58)), (1, .int p), (2, .int (nI t)), (3, .int (nI d + 1))]) [3, 4, 5, 0] rfl ?_
                            refine g_eq rfl (by rw [nI_1]) rfl (ihr (d + 1) ((upd f (d + 1) (f d)) (d + 1)) (upd f (d + 1) (f d)) (upd g d (g d + 1)) h (by omega) rfl (fun q => absurd (show r = 0 by have := (nI_leI (a := t) (b := d + 1) (by omega) (by omega)).mp (by rw [← nI_1]; exact c_241); omega) q) (fun f2 g2 h2 a1 a2 a3 a4 => ?_))
                            have hok : okV S d L k = true := by rw [okV, decide_eq_true c_178, Bool.true_or]
                            have hmv : (upd f (d + 1) (f d)) (d + 1) = mvM S L k := by rw [pk_us, mvM, if_pos c_178, hLd]
                            have hnd : ndh (d + 1) h2 = upd h2 d (btM d (h2 d) (h2 (d + 1))) := rfl
                            exact g_eq rfl (by rw [nI_dm (by omega), Nat.add_sub_cancel]) rfl (ihk (by omega) f2 g2 (ndh (d + 1) h2) (fun i hi => (a1 i (by omega)).trans ((pk_un (by omega)).trans (hf1 i hi))) (fun i hi => (a2 i (by omega)).trans ((pk_un (by omega)).trans (hg1 i hi))) (by rw [a2 d (by omega), pk_us, hgk, nI_1]) (fun i hi => by rw [hnd, pk_un (by omega)]; exact (a3 i (by omega)).trans ((rfl).trans (hh1 i hi))) (by rw [hnd, pk_us, dvF, if_pos hok, ← hhk, a4, hmv, show h2 d = h d from (a3 d (by omega)).trans (rfl)]))
                          · have k_241 := Int32.not_le.mp c_241
                            refine g_aload_n (pc := 244) dX9_duel_244 3 rfl rfl ?_
                            refine gf_X9_47 (pc := 245) rfl dX9_duel_245 ?_
                            refine g_iload_n (pc := 248) dX9_duel_248 0 rfl rfl ?_
                            refine g_iconst (pc := 249) (v := 0) dX9_duel_249 (by decide) ?_
                            refine g_iast (pc := 250) (d + 1) (nI_aE rfl rfl) rfl (show d + 1 < 5 by omega) (by decide) dX9_duel_250 ?_
                            rw [dl_70, show gA (dlS S (upd f (d + 1) (f d)) (upd g d (g d + 1)) h) 70 = (upd g d (g d + 1)) from rfl]
                            refine g_aload_n (pc := 251) dX9_duel_251 3 rfl rfl ?_
                            refine gf_X9_50 (pc := 252) rfl dX9_duel_252 ?_
                            refine g_iload_n (pc := 255) dX9_duel_255 0 rfl rfl ?_
                            refine g_bipush (pc := 256) (v := -9) dX9_duel_256 (by decide) ?_
                            refine g_iast (pc := 258) (d + 1) (nI_aE rfl rfl) rfl (show d + 1 < 5 by omega) (by decide) dX9_duel_258 ?_
                            rw [dl_71, show gA (dlS S (upd f (d + 1) (f d)) (upd (upd g d (g d + 1)) (d + 1) 0) h) 71 = h from rfl]
                            refine g_goto (pc := 259) (tgt := 62) dX9_duel_259 (by decide) ?_
                            refine g_sub (L' := [(0, .ref (eA E 58)), (1, .int p), (2, .int (nI t)), (3, .int (nI d + 1))]) [3, 4, 5, 0] rfl ?_
                            refine g_eq rfl (by rw [nI_1]) rfl (ihr (d + 1) ((upd f (d + 1) (f d)) (d + 1)) (upd f (d + 1) (f d)) (upd (upd g d (g d + 1)) (d + 1) 0) (upd h (d + 1) (-9)) (by omega) rfl (fun _ => ⟨pk_us, pk_us⟩) (fun f2 g2 h2 a1 a2 a3 a4 => ?_))
                            have hok : okV S d L k = true := by rw [okV, decide_eq_true c_178, Bool.true_or]
                            have hmv : (upd f (d + 1) (f d)) (d + 1) = mvM S L k := by rw [pk_us, mvM, if_pos c_178, hLd]
                            have hnd : ndh (d + 1) h2 = upd h2 d (btM d (h2 d) (h2 (d + 1))) := rfl
                            exact g_eq rfl (by rw [nI_dm (by omega), Nat.add_sub_cancel]) rfl (ihk (by omega) f2 g2 (ndh (d + 1) h2) (fun i hi => (a1 i (by omega)).trans ((pk_un (by omega)).trans (hf1 i hi))) (fun i hi => (a2 i (by omega)).trans (((pk_un (by omega)).trans (pk_un (by omega))).trans (hg1 i hi))) (by rw [a2 d (by omega), pk_un (by omega), pk_us, hgk, nI_1]) (fun i hi => by rw [hnd, pk_un (by omega)]; exact (a3 i (by omega)).trans ((pk_un (by omega)).trans (hh1 i hi))) (by rw [hnd, pk_us, dvF, if_pos hok, ← hhk, a4, hmv, show h2 d = h d from (a3 d (by omega)).trans (pk_un (by omega))]))
                      · refine g_aload_n (pc := 181) dX9_duel_181 2 rfl rfl ?_
                        refine gf_X9_44 (pc := 182) rfl dX9_duel_182 ?_
                        refine g_iload_n (pc := 185) dX9_duel_185 5 rfl rfl ?_
                        refine g_iald (pc := 186) d rfl rfl (show d < 5 by omega) (by decide) dX9_duel_186 ?_
                        rw [show gA (dlS S f (upd g d (g d + 1)) h) 69 d = f d from congrFun (rfl) d]
                        refine g_iload (pc := 187) dX9_duel_187 1 rfl ?_
                        refine g_invS (pc := 189) j_X9_has mw_X9_143 dX9_duel_189 (by rfl) (c_X9_has E (dlS S f (upd g d (g d + 1)) h) (f d) (nI k) ) (Nat.le_of_ble_eq_true rfl) (Nat.le_of_ble_eq_true rfl) (by rfl) (Nat.le_of_ble_eq_true rfl) ?_
                        refine g_iload (pc := 192) dX9_duel_192 0 rfl ?_
                        refine g_icmp_ne (pc := 194) (tgt := 259) dX9_duel_194 (by decide) (fun c_194 => ?_) (fun c_194 => ?_)
                        · refine g_goto (pc := 259) (tgt := 62) dX9_duel_259 (by decide) ?_
                          refine g_sub (L' := [(0, .ref (eA E 58)), (1, .int p), (2, .int (nI t)), (3, .int (nI d))]) [2, 3, 4, 5] rfl ?_
                          exact g_eq rfl rfl rfl (ihk (by omega) f (upd g d (g d + 1)) h hf1 (fun i hi => (pk_un (by omega)).trans (hg1 i hi)) (by rw [pk_us, hgk, nI_1]) hh1 (by rw [dvF, if_neg (by rw [okV, decide_eq_false c_178, Bool.false_or, ← hLd]; simp [hpar, c_194])]; exact hhk))
                        · refine g_aload_n (pc := 197) dX9_duel_197 2 rfl rfl ?_
                          refine gf_X9_44 (pc := 198) rfl dX9_duel_198 ?_
                          refine g_iload_n (pc := 201) dX9_duel_201 5 rfl rfl ?_
                          refine g_iconst (pc := 202) (v := 1) dX9_duel_202 (by decide) ?_
                          refine g_iadd (pc := 203) dX9_duel_203 ?_
                          refine g_iload (pc := 204) dX9_duel_204 1 rfl ?_
                          refine g_aload_n (pc := 206) dX9_duel_206 2 rfl rfl ?_
                          refine gf_X9_7 (pc := 207) rfl dX9_duel_207 ?_
                          refine g_iconst (pc := 210) (v := 0) dX9_duel_210 (by decide) ?_
                          refine g_iald (pc := 211) 0 rfl rfl (by decide) (by decide) dX9_duel_211 ?_
                          rw [show gA (dlS S f (upd g d (g d + 1)) h) 59 0 = (gA S 59) 0 from congrFun (rfl) 0]
                          refine g_icmp_ne (pc := 212) (tgt := 224) dX9_duel_212 (by decide) (fun c_212 => ?_) (fun c_212 => ?_)
                          · refine g_aload_n (pc := 224) dX9_duel_224 2 rfl rfl ?_
                            refine gf_X9_44 (pc := 225) rfl dX9_duel_225 ?_
                            refine g_iload_n (pc := 228) dX9_duel_228 5 rfl rfl ?_
                            refine g_iald (pc := 229) d rfl rfl (show d < 5 by omega) (by decide) dX9_duel_229 ?_
                            rw [show gA (dlS S f (upd g d (g d + 1)) h) 69 d = f d from congrFun (rfl) d]
                            refine g_iconst (pc := 230) (v := 1) dX9_duel_230 (by decide) ?_
                            refine g_iload (pc := 231) dX9_duel_231 1 rfl ?_
                            refine g_ishl (pc := 233) dX9_duel_233 ?_
                            refine g_ixor (pc := 234) dX9_duel_234 ?_
                            refine g_iast (pc := 235) (d + 1) (nI_aE rfl rfl) rfl (show d + 1 < 5 by omega) (by decide) dX9_duel_235 ?_
                            rw [dl_69, show gA (dlS S f (upd g d (g d + 1)) h) 69 = f from rfl]
                            refine g_iinc (pc := 236) (L' := [(3, .int (nI d + 1)), (5, .int 0), (4, .int (nI k)), (0, .ref (eA E 58)), (1, .int p), (2, .int (nI t))]) dX9_duel_236 (k := 5) rfl (v := nI d + 1) rfl (Nat.le_of_ble_eq_true rfl) rfl ?_
                            refine g_iload_n (pc := 239) dX9_duel_239 0 rfl rfl ?_
                            refine g_iload_n (pc := 240) dX9_duel_240 5 rfl rfl ?_
                            refine g_icmp_ge (pc := 241) (tgt := 259) dX9_duel_241 (by decide) (fun c_241 => ?_) (fun c_241 => ?_)
                            · have k_241 := Int32.not_lt.mpr c_241
                              refine g_goto (pc := 259) (tgt := 62) dX9_duel_259 (by decide) ?_
                              refine g_sub (L' := [(0, .ref (eA E 58)), (1, .int p), (2, .int (nI t)), (3, .int (nI d + 1))]) [3, 4, 5, 0] rfl ?_
                              refine g_eq rfl (by rw [nI_1]) rfl (ihr (d + 1) ((upd f (d + 1) (f d ^^^ ((1 : Int32) <<< ((nI k) &&& 31)))) (d + 1)) (upd f (d + 1) (f d ^^^ ((1 : Int32) <<< ((nI k) &&& 31)))) (upd g d (g d + 1)) h (by omega) rfl (fun q => absurd (show r = 0 by have := (nI_leI (a := t) (b := d + 1) (by omega) (by omega)).mp (by rw [← nI_1]; exact c_241); omega) q) (fun f2 g2 h2 a1 a2 a3 a4 => ?_))
                              have hok : okV S d L k = true := by rw [okV, decide_eq_false c_178, Bool.false_or, ← hLd]; simp [hpar, c_194]
                              have hmv : (upd f (d + 1) (f d ^^^ ((1 : Int32) <<< ((nI k) &&& 31)))) (d + 1) = mvM S L k := by rw [pk_us, mvM, if_neg c_178, hLd]
                              have hnd : ndh (d + 1) h2 = upd h2 d (btM d (h2 d) (h2 (d + 1))) := rfl
                              exact g_eq rfl (by rw [nI_dm (by omega), Nat.add_sub_cancel]) rfl (ihk (by omega) f2 g2 (ndh (d + 1) h2) (fun i hi => (a1 i (by omega)).trans ((pk_un (by omega)).trans (hf1 i hi))) (fun i hi => (a2 i (by omega)).trans ((pk_un (by omega)).trans (hg1 i hi))) (by rw [a2 d (by omega), pk_us, hgk, nI_1]) (fun i hi => by rw [hnd, pk_un (by omega)]; exact (a3 i (by omega)).trans ((rfl).trans (hh1 i hi))) (by rw [hnd, pk_us, dvF, if_pos hok, ← hhk, a4, hmv, show h2 d = h d from (a3 d (by omega)).trans (rfl)]))
                            · have k_241 := Int32.not_le.mp c_241
                              refine g_aload_n (pc := 244) dX9_duel_244 3 rfl rfl ?_
                              refine gf_X9_47 (pc := 245) rfl dX9_duel_245 ?_
                              refine g_iload_n (pc := 248) dX9_duel_248 0 rfl rfl ?_
                              refine g_iconst (pc := 249) (v := 0) dX9_duel_249 (by decide) ?_
                              refine g_iast (pc := 250) (d + 1) (nI_aE rfl rfl) rfl (show d + 1 < 5 by omega) (by decide) dX9_duel_250 ?_
                              rw [dl_70, show gA (dlS S (upd f (d + 1) (f d ^^^ ((1 : Int32) <<< ((nI k) &&& 31)))) (upd g d (g d + 1)) h) 70 = (upd g d (g d + 1)) from rfl]
                              refine g_aload_n (pc := 251) dX9_duel_251 3 rfl rfl ?_
                              refine gf_X9_50 (pc := 252) rfl dX9_duel_252 ?_
                              refine g_iload_n (pc := 255) dX9_duel_255 0 rfl rfl ?_
                              refine g_bipush (pc := 256) (v := -9) dX9_duel_256 (by decide) ?_
                              refine g_iast (pc := 258) (d + 1) (nI_aE rfl rfl) rfl (show d + 1 < 5 by omega) (by decide) dX9_duel_258 ?_
                              rw [dl_71, show gA (dlS S (upd f (d + 1) (f d ^^^ ((1 : Int32) <<< ((nI k) &&& 31)))) (upd (upd g d (g d + 1)) (d + 1) 0) h) 71 = h from rfl]
                              refine g_goto (pc := 259) (tgt := 62) dX9_duel_259 (by decide) ?_
                              refine g_sub (L' := [(0, .ref (eA E 58)), (1, .int p), (2, .int (nI t)), (3, .int (nI d + 1))]) [3, 4, 5, 0] rfl ?_
                              refine g_eq rfl (by rw [nI_1]) rfl (ihr (d + 1) ((upd f (d + 1) (f d ^^^ ((1 : Int32) <<< ((nI k) &&& 31)))) (d + 1)) (upd f (d + 1) (f d ^^^ ((1 : Int32) <<< ((nI k) &&& 31)))) (upd (upd g d (g d + 1)) (d + 1) 0) (upd h (d + 1) (-9)) (by omega) rfl (fun _ => ⟨pk_us, pk_us⟩) (fun f2 g2 h2 a1 a2 a3 a4 => ?_))
                              have hok : okV S d L k = true := by rw [okV, decide_eq_false c_178, Bool.false_or, ← hLd]; simp [hpar, c_194]
                              have hmv : (upd f (d + 1) (f d ^^^ ((1 : Int32) <<< ((nI k) &&& 31)))) (d + 1) = mvM S L k := by rw [pk_us, mvM, if_neg c_178, hLd]
                              have hnd : ndh (d + 1) h2 = upd h2 d (btM d (h2 d) (h2 (d + 1))) := rfl
                              exact g_eq rfl (by rw [nI_dm (by omega), Nat.add_sub_cancel]) rfl (ihk (by omega) f2 g2 (ndh (d + 1) h2) (fun i hi => (a1 i (by omega)).trans ((pk_un (by omega)).trans (hf1 i hi))) (fun i hi => (a2 i (by omega)).trans (((pk_un (by omega)).trans (pk_un (by omega))).trans (hg1 i hi))) (by rw [a2 d (by omega), pk_un (by omega), pk_us, hgk, nI_1]) (fun i hi => by rw [hnd, pk_un (by omega)]; exact (a3 i (by omega)).trans ((pk_un (by omega)).trans (hh1 i hi))) (by rw [hnd, pk_us, dvF, if_pos hok, ← hhk, a4, hmv, show h2 d = h d from (a3 d (by omega)).trans (pk_un (by omega))]))
                          · exact absurd c_212 c_178
                    · have hpar : d % 2 = 0 := (nI_eq (a := d % 2) (b := 0) (by omega) (by omega)).mp c_160
                      refine g_iconst (pc := 163) (v := 1) dX9_duel_163 (by decide) ?_
                      refine g_goto (pc := 164) (tgt := 168) dX9_duel_164 (by decide) ?_
                      refine g_istore (pc := 168) (L' := [(5, .int 1), (4, .int (nI k)), (0, .ref (eA E 58)), (1, .int p), (2, .int (nI t)), (3, .int (nI d))]) dX9_duel_168 (Nat.le_of_ble_eq_true rfl) rfl ?_
                      refine g_iload (pc := 170) dX9_duel_170 1 rfl ?_
                      refine g_aload_n (pc := 172) dX9_duel_172 2 rfl rfl ?_
                      refine gf_X9_7 (pc := 173) rfl dX9_duel_173 ?_
                      refine g_iconst (pc := 176) (v := 0) dX9_duel_176 (by decide) ?_
                      refine g_iald (pc := 177) 0 rfl rfl (by decide) (by decide) dX9_duel_177 ?_
                      rw [show gA (dlS S f (upd g d (g d + 1)) h) 59 0 = (gA S 59) 0 from congrFun (rfl) 0]
                      refine g_icmp_eq (pc := 178) (tgt := 197) dX9_duel_178 (by decide) (fun c_178 => ?_) (fun c_178 => ?_)
                      · refine g_aload_n (pc := 197) dX9_duel_197 2 rfl rfl ?_
                        refine gf_X9_44 (pc := 198) rfl dX9_duel_198 ?_
                        refine g_iload_n (pc := 201) dX9_duel_201 5 rfl rfl ?_
                        refine g_iconst (pc := 202) (v := 1) dX9_duel_202 (by decide) ?_
                        refine g_iadd (pc := 203) dX9_duel_203 ?_
                        refine g_iload (pc := 204) dX9_duel_204 1 rfl ?_
                        refine g_aload_n (pc := 206) dX9_duel_206 2 rfl rfl ?_
                        refine gf_X9_7 (pc := 207) rfl dX9_duel_207 ?_
                        refine g_iconst (pc := 210) (v := 0) dX9_duel_210 (by decide) ?_
                        refine g_iald (pc := 211) 0 rfl rfl (by decide) (by decide) dX9_duel_211 ?_
                        rw [show gA (dlS S f (upd g d (g d + 1)) h) 59 0 = (gA S 59) 0 from congrFun (rfl) 0]
                        refine g_icmp_ne (pc := 212) (tgt := 224) dX9_duel_212 (by decide) (fun c_212 => ?_) (fun c_212 => ?_)
                        · exact absurd c_178 c_212
                        · refine g_aload_n (pc := 215) dX9_duel_215 2 rfl rfl ?_
                          refine gf_X9_44 (pc := 216) rfl dX9_duel_216 ?_
                          refine g_iload_n (pc := 219) dX9_duel_219 5 rfl rfl ?_
                          refine g_iald (pc := 220) d rfl rfl (show d < 5 by omega) (by decide) dX9_duel_220 ?_
                          rw [show gA (dlS S f (upd g d (g d + 1)) h) 69 d = f d from congrFun (rfl) d]
                          refine g_goto (pc := 221) (tgt := 235) dX9_duel_221 (by decide) ?_
                          refine g_iast (pc := 235) (d + 1) (nI_aE rfl rfl) rfl (show d + 1 < 5 by omega) (by decide) dX9_duel_235 ?_
                          rw [dl_69, show gA (dlS S f (upd g d (g d + 1)) h) 69 = f from rfl]
                          refine g_iinc (pc := 236) (L' := [(3, .int (nI d + 1)), (5, .int 1), (4, .int (nI k)), (0, .ref (eA E 58)), (1, .int p), (2, .int (nI t))]) dX9_duel_236 (k := 5) rfl (v := nI d + 1) rfl (Nat.le_of_ble_eq_true rfl) rfl ?_
                          refine g_iload_n (pc := 239) dX9_duel_239 0 rfl rfl ?_
                          refine g_iload_n (pc := 240) dX9_duel_240 5 rfl rfl ?_
                          refine g_icmp_ge (pc := 241) (tgt := 259) dX9_duel_241 (by decide) (fun c_241 => ?_) (fun c_241 => ?_)
                          · have k_241 := Int32.not_lt.mpr c_241
                            refine g_goto (pc := 259) (tgt := 62) dX9_duel_259 (by decide) ?_
                            refine g_sub (L' := [(0, .ref (eA E 58)), (1, .int p), (2, .int (nI t)), (3, .int (nI d + 1))]) [3, 4, 5, 0] rfl ?_
                            refine g_eq rfl (by rw [nI_1]) rfl (ihr (d + 1) ((upd f (d + 1) (f d)) (d + 1)) (upd f (d + 1) (f d)) (upd g d (g d + 1)) h (by omega) rfl (fun q => absurd (show r = 0 by have := (nI_leI (a := t) (b := d + 1) (by omega) (by omega)).mp (by rw [← nI_1]; exact c_241); omega) q) (fun f2 g2 h2 a1 a2 a3 a4 => ?_))
                            have hok : okV S d L k = true := by rw [okV, decide_eq_true c_178, Bool.true_or]
                            have hmv : (upd f (d + 1) (f d)) (d + 1) = mvM S L k := by rw [pk_us, mvM, if_pos c_178, hLd]
                            have hnd : ndh (d + 1) h2 = upd h2 d (btM d (h2 d) (h2 (d + 1))) := rfl
                            exact g_eq rfl (by rw [nI_dm (by omega), Nat.add_sub_cancel]) rfl (ihk (by omega) f2 g2 (ndh (d + 1) h2) (fun i hi => (a1 i (by omega)).trans ((pk_un (by omega)).trans (hf1 i hi))) (fun i hi => (a2 i (by omega)).trans ((pk_un (by omega)).trans (hg1 i hi))) (by rw [a2 d (by omega), pk_us, hgk, nI_1]) (fun i hi => by rw [hnd, pk_un (by omega)]; exact (a3 i (by omega)).trans ((rfl).trans (hh1 i hi))) (by rw [hnd, pk_us, dvF, if_pos hok, ← hhk, a4, hmv, show h2 d = h d from (a3 d (by omega)).trans (rfl)]))
                          · have k_241 := Int32.not_le.mp c_241
                            refine g_aload_n (pc := 244) dX9_duel_244 3 rfl rfl ?_
                            refine gf_X9_47 (pc := 245) rfl dX9_duel_245 ?_
                            refine g_iload_n (pc := 248) dX9_duel_248 0 rfl rfl ?_
                            refine g_iconst (pc := 249) (v := 0) dX9_duel_249 (by decide) ?_
                            refine g_iast (pc := 250) (d + 1) (nI_aE rfl rfl) rfl (show d + 1 < 5 by omega) (by decide) dX9_duel_250 ?_
                            rw [dl_70, show gA (dlS S (upd f (d + 1) (f d)) (upd g d (g d + 1)) h) 70 = (upd g d (g d + 1)) from rfl]
                            refine g_aload_n (pc := 251) dX9_duel_251 3 rfl rfl ?_
                            refine gf_X9_50 (pc := 252) rfl dX9_duel_252 ?_
                            refine g_iload_n (pc := 255) dX9_duel_255 0 rfl rfl ?_
                            refine g_bipush (pc := 256) (v := -9) dX9_duel_256 (by decide) ?_
                            refine g_iast (pc := 258) (d + 1) (nI_aE rfl rfl) rfl (show d + 1 < 5 by omega) (by decide) dX9_duel_258 ?_
                            rw [dl_71, show gA (dlS S (upd f (d + 1) (f d)) (upd (upd g d (g d + 1)) (d + 1) 0) h) 71 = h from rfl]
                            refine g_goto (pc := 259) (tgt := 62) dX9_duel_259 (by decide) ?_
                            refine g_sub (L' := [(0, .ref (eA E 58)), (1, .int p), (2, .int (nI t)), (3, .int (nI d + 1))]) [3, 4, 5, 0] rfl ?_
                            refine g_eq rfl (by rw [nI_1]) rfl (ihr (d + 1) ((upd f (d + 1) (f d)) (d + 1)) (upd f (d + 1) (f d)) (upd (upd g d (g d + 1)) (d + 1) 0) (upd h (d + 1) (-9)) (by omega) rfl (fun _ => ⟨pk_us, pk_us⟩) (fun f2 g2 h2 a1 a2 a3 a4 => ?_))
                            have hok : okV S d L k = true := by rw [okV, decide_eq_true c_178, Bool.true_or]
                            have hmv : (upd f (d + 1) (f d)) (d + 1) = mvM S L k := by rw [pk_us, mvM, if_pos c_178, hLd]
                            have hnd : ndh (d + 1) h2 = upd h2 d (btM d (h2 d) (h2 (d + 1))) := rfl
                            exact g_eq rfl (by rw [nI_dm (by omega), Nat.add_sub_cancel]) rfl (ihk (by omega) f2 g2 (ndh (d + 1) h2) (fun i hi => (a1 i (by omega)).trans ((pk_un (by omega)).trans (hf1 i hi))) (fun i hi => (a2 i (by omega)).trans (((pk_un (by omega)).trans (pk_un (by omega))).trans (hg1 i hi))) (by rw [a2 d (by omega), pk_un (by omega), pk_us, hgk, nI_1]) (fun i hi => by rw [hnd, pk_un (by omega)]; exact (a3 i (by omega)).trans ((pk_un (by omega)).trans (hh1 i hi))) (by rw [hnd, pk_us, dvF, if_pos hok, ← hhk, a4, hmv, show h2 d = h d from (a3 d (by omega)).trans (pk_un (by omega))]))
                      · refine g_aload_n (pc := 181) dX9_duel_181 2 rfl rfl ?_
                        refine gf_X9_44 (pc := 182) rfl dX9_duel_182 ?_
                        refine g_iload_n (pc := 185) dX9_duel_185 5 rfl rfl ?_
                        refine g_iald (pc := 186) d rfl rfl (show d < 5 by omega) (by decide) dX9_duel_186 ?_
                        rw [show gA (dlS S f (upd g d (g d + 1)) h) 69 d = f d from congrFun (rfl) d]
                        refine g_iload (pc := 187) dX9_duel_187 1 rfl ?_
                        refine g_invS (pc := 189) j_X9_has mw_X9_143 dX9_duel_189 (by rfl) (c_X9_has E (dlS S f (upd g d (g d + 1)) h) (f d) (nI k) ) (Nat.le_of_ble_eq_true rfl) (Nat.le_of_ble_eq_true rfl) (by rfl) (Nat.le_of_ble_eq_true rfl) ?_
                        refine g_iload (pc := 192) dX9_duel_192 0 rfl ?_
                        refine g_icmp_ne (pc := 194) (tgt := 259) dX9_duel_194 (by decide) (fun c_194 => ?_) (fun c_194 => ?_)
                        · refine g_goto (pc := 259) (tgt := 62) dX9_duel_259 (by decide) ?_
                          refine g_sub (L' := [(0, .ref (eA E 58)), (1, .int p), (2, .int (nI t)), (3, .int (nI d))]) [2, 3, 4, 5] rfl ?_
                          exact g_eq rfl rfl rfl (ihk (by omega) f (upd g d (g d + 1)) h hf1 (fun i hi => (pk_un (by omega)).trans (hg1 i hi)) (by rw [pk_us, hgk, nI_1]) hh1 (by rw [dvF, if_neg (by rw [okV, decide_eq_false c_178, Bool.false_or, ← hLd]; simp [hpar, c_194])]; exact hhk))
                        · refine g_aload_n (pc := 197) dX9_duel_197 2 rfl rfl ?_
                          refine gf_X9_44 (pc := 198) rfl dX9_duel_198 ?_
                          refine g_iload_n (pc := 201) dX9_duel_201 5 rfl rfl ?_
                          refine g_iconst (pc := 202) (v := 1) dX9_duel_202 (by decide) ?_
                          refine g_iadd (pc := 203) dX9_duel_203 ?_
                          refine g_iload (pc := 204) dX9_duel_204 1 rfl ?_
                          refine g_aload_n (pc := 206) dX9_duel_206 2 rfl rfl ?_
                          refine gf_X9_7 (pc := 207) rfl dX9_duel_207 ?_
                          refine g_iconst (pc := 210) (v := 0) dX9_duel_210 (by decide) ?_
                          refine g_iald (pc := 211) 0 rfl rfl (by decide) (by decide) dX9_duel_211 ?_
                          rw [show gA (dlS S f (upd g d (g d + 1)) h) 59 0 = (gA S 59) 0 from congrFun (rfl) 0]
                          refine g_icmp_ne (pc := 212) (tgt := 224) dX9_duel_212 (by decide) (fun c_212 => ?_) (fun c_212 => ?_)
                          · refine g_aload_n (pc := 224) dX9_duel_224 2 rfl rfl ?_
                            refine gf_X9_44 (pc := 225) rfl dX9_duel_225 ?_
                            refine g_iload_n (pc := 228) dX9_duel_228 5 rfl rfl ?_
                            refine g_iald (pc := 229) d rfl rfl (show d < 5 by omega) (by decide) dX9_duel_229 ?_
                            rw [show gA (dlS S f (upd g d (g d + 1)) h) 69 d = f d from congrFun (rfl) d]
                            refine g_iconst (pc := 230) (v := 1) dX9_duel_230 (by decide) ?_
                            refine g_iload (pc := 231) dX9_duel_231 1 rfl ?_
                            refine g_ishl (pc := 233) dX9_duel_233 ?_
                            refine g_ixor (pc := 234) dX9_duel_234 ?_
                            refine g_iast (pc := 235) (d + 1) (nI_aE rfl rfl) rfl (show d + 1 < 5 by omega) (by decide) dX9_duel_235 ?_
                            rw [dl_69, show gA (dlS S f (upd g d (g d + 1)) h) 69 = f from rfl]
                            refine g_iinc (pc := 236) (L' := [(3, .int (nI d + 1)), (5, .int 1), (4, .int (nI k)), (0, .ref (eA E 58)), (1, .int p), (2, .int (nI t))]) dX9_duel_236 (k := 5) rfl (v := nI d + 1) rfl (Nat.le_of_ble_eq_true rfl) rfl ?_
                            refine g_iload_n (pc := 239) dX9_duel_239 0 rfl rfl ?_
                            refine g_iload_n (pc := 240) dX9_duel_240 5 rfl rfl ?_
                            refine g_icmp_ge (pc := 241) (tgt := 259) dX9_duel_241 (by decide) (fun c_241 => ?_) (fun c_241 => ?_)
                            · have k_241 := Int32.not_lt.mpr c_241
                              refine g_goto (pc := 259) (tgt := 62) dX9_duel_259 (by decide) ?_
                              refine g_sub (L' := [(0, .ref (eA E 58)), (1, .int p), (2, .int (nI t)), (3, .int (nI d + 1))]) [3, 4, 5, 0] rfl ?_
                              refine g_eq rfl (by rw [nI_1]) rfl (ihr (d + 1) ((upd f (d + 1) (f d ^^^ ((1 : Int32) <<< ((nI k) &&& 31)))) (d + 1)) (upd f (d + 1) (f d ^^^ ((1 : Int32) <<< ((nI k) &&& 31)))) (upd g d (g d + 1)) h (by omega) rfl (fun q => absurd (show r = 0 by have := (nI_leI (a := t) (b := d + 1) (by omega) (by omega)).mp (by rw [← nI_1]; exact c_241); omega) q) (fun f2 g2 h2 a1 a2 a3 a4 => ?_))
                              have hok : okV S d L k = true := by rw [okV, decide_eq_false c_178, Bool.false_or, ← hLd]; simp [hpar, c_194]
                              have hmv : (upd f (d + 1) (f d ^^^ ((1 : Int32) <<< ((nI k) &&& 31)))) (d + 1) = mvM S L k := by rw [pk_us, mvM, if_neg c_178, hLd]
                              have hnd : ndh (d + 1) h2 = upd h2 d (btM d (h2 d) (h2 (d + 1))) := rfl
                              exact g_eq rfl (by rw [nI_dm (by omega), Nat.add_sub_cancel]) rfl (ihk (by omega) f2 g2 (ndh (d + 1) h2) (fun i hi => (a1 i (by omega)).trans ((pk_un (by omega)).trans (hf1 i hi))) (fun i hi => (a2 i (by omega)).trans ((pk_un (by omega)).trans (hg1 i hi))) (by rw [a2 d (by omega), pk_us, hgk, nI_1]) (fun i hi => by rw [hnd, pk_un (by omega)]; exact (a3 i (by omega)).trans ((rfl).trans (hh1 i hi))) (by rw [hnd, pk_us, dvF, if_pos hok, ← hhk, a4, hmv, show h2 d = h d from (a3 d (by omega)).trans (rfl)]))
                            · have k_241 := Int32.not_le.mp c_241
                              refine g_aload_n (pc := 244) dX9_duel_244 3 rfl rfl ?_
                              refine gf_X9_47 (pc := 245) rfl dX9_duel_245 ?_
                              refine g_iload_n (pc := 248) dX9_duel_248 0 rfl rfl ?_
                              refine g_iconst (pc := 249) (v := 0) dX9_duel_249 (by decide) ?_
                              refine g_iast (pc := 250) (d + 1) (nI_aE rfl rfl) rfl (show d + 1 < 5 by omega) (by decide) dX9_duel_250 ?_
                              rw [dl_70, show gA (dlS S (upd f (d + 1) (f d ^^^ ((1 : Int32) <<< ((nI k) &&& 31)))) (upd g d (g d + 1)) h) 70 = (upd g d (g d + 1)) from rfl]
                              refine g_aload_n (pc := 251) dX9_duel_251 3 rfl rfl ?_
                              refine gf_X9_50 (pc := 252) rfl dX9_duel_252 ?_
                              refine g_iload_n (pc := 255) dX9_duel_255 0 rfl rfl ?_
                              refine g_bipush (pc := 256) (v := -9) dX9_duel_256 (by decide) ?_
                              refine g_iast (pc := 258) (d + 1) (nI_aE rfl rfl) rfl (show d + 1 < 5 by omega) (by decide) dX9_duel_258 ?_
                              rw [dl_71, show gA (dlS S (upd f (d + 1) (f d ^^^ ((1 : Int32) <<< ((nI k) &&& 31)))) (upd (upd g d (g d + 1)) (d + 1) 0) h) 71 = h from rfl]
                              refine g_goto (pc := 259) (tgt := 62) dX9_duel_259 (by decide) ?_
                              refine g_sub (L' := [(0, .ref (eA E 58)), (1, .int p), (2, .int (nI t)), (3, .int (nI d + 1))]) [3, 4, 5, 0] rfl ?_
                              refine g_eq rfl (by rw [nI_1]) rfl (ihr (d + 1) ((upd f (d + 1) (f d ^^^ ((1 : Int32) <<< ((nI k) &&& 31)))) (d + 1)) (upd f (d + 1) (f d ^^^ ((1 : Int32) <<< ((nI k) &&& 31)))) (upd (upd g d (g d + 1)) (d + 1) 0) (upd h (d + 1) (-9)) (by omega) rfl (fun _ => ⟨pk_us, pk_us⟩) (fun f2 g2 h2 a1 a2 a3 a4 => ?_))
                              have hok : okV S d L k = true := by rw [okV, decide_eq_false c_178, Bool.false_or, ← hLd]; simp [hpar, c_194]
                              have hmv : (upd f (d + 1) (f d ^^^ ((1 : Int32) <<< ((nI k) &&& 31)))) (d + 1) = mvM S L k := by rw [pk_us, mvM, if_neg c_178, hLd]
                              have hnd : ndh (d + 1) h2 = upd h2 d (btM d (h2 d) (h2 (d + 1))) := rfl
                              exact g_eq rfl (by rw [nI_dm (by omega), Nat.add_sub_cancel]) rfl (ihk (by omega) f2 g2 (ndh (d + 1) h2) (fun i hi => (a1 i (by omega)).trans ((pk_un (by omega)).trans (hf1 i hi))) (fun i hi => (a2 i (by omega)).trans (((pk_un (by omega)).trans (pk_un (by omega))).trans (hg1 i hi))) (by rw [a2 d (by omega), pk_un (by omega), pk_us, hgk, nI_1]) (fun i hi => by rw [hnd, pk_un (by omega)]; exact (a3 i (by omega)).trans ((pk_un (by omega)).trans (hh1 i hi))) (by rw [hnd, pk_us, dvF, if_pos hok, ← hhk, a4, hmv, show h2 d = h d from (a3 d (by omega)).trans (pk_un (by omega))]))
                          · exact absurd c_212 c_178
                  · have k_121 := Int32.not_le.mp c_121
                    have hkN : k = nM S + 1 := by rw [hgk, hz.1] at c_121; have := mt (nI_leI (a := k) (b := nM S) (by omega) (by omega)).mpr c_121; omega
                    refine g_iinc (pc := 124) (L' := [(3, .int (nI d + (-1))), (0, .ref (eA E 58)), (1, .int p), (2, .int (nI t))]) dX9_duel_124 (k := 3) rfl (v := nI d + (-1)) rfl (Nat.le_of_ble_eq_true rfl) rfl ?_
                    refine g_iload_n (pc := 127) dX9_duel_127 0 rfl rfl ?_
                    refine g_if_lt (pc := 128) (tgt := 62) dX9_duel_128 (by decide) (fun c_128 => ?_) (fun c_128 => ?_)
                    · have k_128 := Int32.not_le.mpr c_128
                      refine g_sub (L' := [(0, .ref (eA E 58)), (1, .int p), (2, .int (nI t)), (3, .int (nI d + (-1)))]) [1, 2, 3, 0] rfl ?_
                      exact g_eq (by rw [ndh, if_pos (nI_0m (by omega) c_128)]) rfl rfl (K f g h hf1 hg1 hh1 (by rw [hhk, hkN]; rfl))
                    · have k_128 := Int32.not_lt.mp c_128
                      have hd1 := nI_0p c_128
                      refine g_aload_n (pc := 131) dX9_duel_131 1 rfl rfl ?_
                      refine g_iload_n (pc := 132) dX9_duel_132 0 rfl rfl ?_
                      rw [nI_dm hd1]
                      refine g_invN (pc := 133) j_X9_betters mw_X9_219 dX9_duel_133 (rcv_X9) (by rfl) (c_X9_betters E (dlS S f g h) (d - 1) (by omega)) (Nat.le_of_ble_eq_true rfl) (Nat.le_of_ble_eq_true rfl) (by rfl) (Nat.le_of_ble_eq_true rfl) ?_
                      rw [be_bt hd1, dl_71, show gA (dlS S f g h) 71 = h from rfl]
                      refine g_goto (pc := 136) (tgt := 62) dX9_duel_136 (by decide) ?_
                      refine g_sub (L' := [(0, .ref (eA E 58)), (1, .int p), (2, .int (nI t)), (3, .int (nI (d - 1)))]) [1, 2, 3, 0] rfl ?_
                      exact g_eq (by rw [ndh, if_neg (by omega)]) (by rw [nI_dm hd1]) rfl (K f g h hf1 hg1 hh1 (by rw [hhk, hkN]; rfl))
                · exact absurd ((nI_eq (by omega) (by omega)).mp c_68) (by omega)
            exact Hk 0 (Nat.zero_le _) f0 g0 h0 (fun _ _ => rfl) (fun _ _ => rfl) (hgh (by omega)).1 (fun _ _ => rfl) (hgh (by omega)).2
        refine g_sub (L' := [(0, .ref (eA E 58)), (1, .int p), (2, .int (nI t)), (3, .int 0)]) [1, 2, 3, 0] rfl ?_
        refine g_eq rfl rfl rfl (H t 0 (gA S 59 2) (upd f9 0 ((gA S 59) 2)) (upd g9 0 0) (upd h9 0 (-9)) (by omega) pk_us (fun _ => ⟨pk_us, pk_us⟩) (fun f2 g2 h2 a1 a2 a3 a4 => ?_))
        rw [show ndh 0 h2 = h2 from rfl]
        refine g_iload_n (pc := 62) dX9_duel_62 3 rfl rfl ?_
        refine g_if_lt (pc := 63) (tgt := 262) dX9_duel_63 (by decide) (fun c_63 => ?_) (fun c_63 => ?_)
        · have k_63 := Int32.not_le.mpr c_63
          refine g_aload_n (pc := 262) dX9_duel_262 0 rfl rfl ?_
          refine gf_X9_50 (pc := 263) rfl dX9_duel_263 ?_
          refine g_iconst (pc := 266) (v := 0) dX9_duel_266 (by decide) ?_
          refine g_iald (pc := 267) 0 rfl rfl (by decide) (by decide) dX9_duel_267 ?_
          rw [show gA (dlS S f2 g2 h2) 71 0 = h2 0 from congrFun (rfl) 0]
          exact g_iret (pc := 268) hM rfl rfl (by rw [a4]; exact ⟨rfl, f2, g2, h2, rfl⟩) dX9_duel_268
        · have k_63 := Int32.not_lt.mp c_63
          exact absurd (show (nI 0 + (-1) : Int32) < 0 by decide) c_63
      · exact absurd c_27 h0
    · exact absurd (hr.2.symm.trans c_16) (by decide)
