/-! THE REFERENCE: chances -/
def gdE : Nat → Int64 → Int64 → Bool
  | 0, _, b => decide (b = 0)
  | n + 1, a, b => decide (b = 0) || gdE n b (a - a / b * b)
def twS (S : St) (a b : Int64) : St := sL (sL S 58 8 (a / gdF a b)) 58 9 (b / gdF a b)
def toM (S : St) : Nat → Int64 | 0 => 1 | n + 1 => toM S n * (if hsF (gA S 59 2) (nI n) = true then 12 else 1)
def waM (S : St) (q sub : Int32) : Nat → Int64 | 0 => 1 | n + 1 => waM S q sub n * (if hsF (gA S 59 2) (nI n) = true then (if hsF sub (nI n) = true then q.toInt64 else (12 - q).toInt64) else 1)
def chB (S : St) (p : Int32) (n : Nat) : Int32 := brR S p (gA S 59 2 &&& (nI n ^^^ -1)) (gA S 59 1) (nM S)
def chM (S : St) (p v q : Int32) : Nat → Int64 | 0 => 0 | n + 1 => if nI n &&& (gA S 59 2 ^^^ -1) = 0 then chM S p v q n + (if v = -9 then waM S q (nI n) (nM S) * (chB S p n).toInt64 else if v < chB S p n then 0 else waM S q (nI n) (nM S)) else chM S p v q n
def beF (S : St) (i : Nat) : Int32 := if gA S 71 i = -9 then gA S 71 (i + 1) else if i % 2 = 0 then (if gA S 71 i ≤ gA S 71 (i + 1) then gA S 71 i else gA S 71 (i + 1)) else (if gA S 71 (i + 1) ≤ gA S 71 i then gA S 71 i else gA S 71 (i + 1))

set_option maxRecDepth 100000 in
set_option maxHeartbeats 4000000 in
theorem c_X9_tellsPart (E : En) (S : St) (a b : Int64) (he : gdE 200 a b = true) (h : ¬ gdF a b = 0) : CTe E i_X9_tellsPart S [.ref (eA E 58), .long a, .long b] (twS S a b) (some (.int 1)) := by
  refine ct_of [(0, .ref (eA E 58)), (1, .long a), (3, .long b)] (by decide +kernel) (Nat.le_of_ble_eq_true rfl) rfl (fun X hM => ?_)
  refine g_lload_n (pc := 0) dX9_tellsPart_0 1 rfl rfl ?_
  refine g_lstore (pc := 1) (L' := [(5, .long a), (0, .ref (eA E 58)), (1, .long a), (3, .long b)]) dX9_tellsPart_1 (Nat.le_of_ble_eq_true rfl) rfl ?_
  refine g_lload_n (pc := 3) dX9_tellsPart_3 3 rfl rfl ?_
  refine g_lstore (pc := 4) (L' := [(7, .long b), (5, .long a), (0, .ref (eA E 58)), (1, .long a), (3, .long b)]) dX9_tellsPart_4 (Nat.le_of_ble_eq_true rfl) rfl ?_
  have H_6 : ∀ (f : Nat) (x : Int64) (y : Int64), gdE f x y = true → gdR f x y = gdR 200 a b → G E X i_X9_tellsPart S 6 [(0, .ref (eA E 58)), (1, .long a), (3, .long b), (5, .long x), (7, .long y)] [] := by
    intro f
    induction f with
    | zero =>
      intro x y h1 hu
      refine g_lload (pc := 6) dX9_tellsPart_6 4 rfl ?_
      refine g_lconst (pc := 8) (v := 0) dX9_tellsPart_8 (by decide) ?_
      refine g_lcmp (pc := 9) dX9_tellsPart_9 ?_
      refine g_lc_eq (pc := 10) (tgt := 31) dX9_tellsPart_10 (by decide) (fun c_10 => ?_) (fun c_10 => ?_)
      · have hx : x = gdF a b := hu
        rw [hx]
        refine g_aload_n (pc := 31) dX9_tellsPart_31 0 rfl rfl ?_
        refine g_lload_n (pc := 32) dX9_tellsPart_32 1 rfl rfl ?_
        refine g_lload (pc := 33) dX9_tellsPart_33 3 rfl ?_
        refine g_ldiv (pc := 35) dX9_tellsPart_35 h ?_
        refine pf_X9_223 (pc := 36) rfl dX9_tellsPart_36 ?_
        refine g_aload_n (pc := 39) dX9_tellsPart_39 0 rfl rfl ?_
        refine g_lload_n (pc := 40) dX9_tellsPart_40 2 rfl rfl ?_
        refine g_lload (pc := 41) dX9_tellsPart_41 3 rfl ?_
        refine g_ldiv (pc := 43) dX9_tellsPart_43 h ?_
        refine pf_X9_28 (pc := 44) rfl dX9_tellsPart_44 ?_
        refine g_iconst (pc := 47) (v := 1) dX9_tellsPart_47 (by decide) ?_
        exact g_iret (pc := 48) hM rfl rfl ⟨rfl, rfl⟩ dX9_tellsPart_48
      · exact absurd (of_decide_eq_true h1) c_10
    | succ f ih_6 =>
      intro x y h1 hu
      refine g_lload (pc := 6) dX9_tellsPart_6 4 rfl ?_
      refine g_lconst (pc := 8) (v := 0) dX9_tellsPart_8 (by decide) ?_
      refine g_lcmp (pc := 9) dX9_tellsPart_9 ?_
      refine g_lc_eq (pc := 10) (tgt := 31) dX9_tellsPart_10 (by decide) (fun c_10 => ?_) (fun c_10 => ?_)
      · have hx : x = gdF a b := (by rw [gdF, ← hu, gdR, if_pos c_10])
        rw [hx]
        refine g_aload_n (pc := 31) dX9_tellsPart_31 0 rfl rfl ?_
        refine g_lload_n (pc := 32) dX9_tellsPart_32 1 rfl rfl ?_
        refine g_lload (pc := 33) dX9_tellsPart_33 3 rfl ?_
        refine g_ldiv (pc := 35) dX9_tellsPart_35 h ?_
        refine pf_X9_223 (pc := 36) rfl dX9_tellsPart_36 ?_
        refine g_aload_n (pc := 39) dX9_tellsPart_39 0 rfl rfl ?_
        refine g_lload_n (pc := 40) dX9_tellsPart_40 2 rfl rfl ?_
        refine g_lload (pc := 41) dX9_tellsPart_41 3 rfl ?_
        refine g_ldiv (pc := 43) dX9_tellsPart_43 h ?_
        refine pf_X9_28 (pc := 44) rfl dX9_tellsPart_44 ?_
        refine g_iconst (pc := 47) (v := 1) dX9_tellsPart_47 (by decide) ?_
        exact g_iret (pc := 48) hM rfl rfl ⟨rfl, rfl⟩ dX9_tellsPart_48
      · refine g_lload (pc := 13) dX9_tellsPart_13 3 rfl ?_
        refine g_lload (pc := 15) dX9_tellsPart_15 4 rfl ?_
        refine g_lrem (pc := 17) dX9_tellsPart_17 c_10 ?_
        refine g_lstore (pc := 18) (L' := [(9, .long (x - x / y * y)), (0, .ref (eA E 58)), (1, .long a), (3, .long b), (5, .long x), (7, .long y)]) dX9_tellsPart_18 (Nat.le_of_ble_eq_true rfl) rfl ?_
        refine g_lload (pc := 20) dX9_tellsPart_20 5 rfl ?_
        refine g_lstore (pc := 22) (L' := [(5, .long y), (9, .long (x - x / y * y)), (0, .ref (eA E 58)), (1, .long a), (3, .long b), (7, .long y)]) dX9_tellsPart_22 (Nat.le_of_ble_eq_true rfl) rfl ?_
        refine g_lload (pc := 24) dX9_tellsPart_24 1 rfl ?_
        refine g_lstore (pc := 26) (L' := [(7, .long (x - x / y * y)), (5, .long y), (9, .long (x - x / y * y)), (0, .ref (eA E 58)), (1, .long a), (3, .long b)]) dX9_tellsPart_26 (Nat.le_of_ble_eq_true rfl) rfl ?_
        refine g_goto (pc := 28) (tgt := 6) dX9_tellsPart_28 (by decide) ?_
        refine g_sub (L' := [(0, .ref (eA E 58)), (1, .long a), (3, .long b), (5, .long y), (7, .long (x - x / y * y))]) [3, 4, 5, 1, 0] rfl ?_
        exact g_eq rfl rfl rfl (ih_6 y (x - x / y * y) (by rw [gdE, Bool.or_eq_true] at h1; rcases h1 with q | q; exact absurd (of_decide_eq_true q) c_10; exact q) (by rw [← hu, gdR, if_neg c_10]))
  refine g_sub (L' := [(0, .ref (eA E 58)), (1, .long a), (3, .long b), (5, .long a), (7, .long b)]) [2, 3, 4, 1, 0] rfl ?_
  exact g_eq rfl rfl rfl (H_6 200 a b he rfl)
set_option maxRecDepth 100000 in
set_option maxHeartbeats 4000000 in
theorem c_X9_chances (E : En) (S : St) (p v q : Int32) (hz : okM S)(he : gdE 200 (chM S p v q (2 ^ nM S)) (toM S (nM S)) = true) (h : ¬ gdF (chM S p v q (2 ^ nM S)) (toM S (nM S)) = 0) : CTe E i_X9_chances S [.ref (eA E 58), .int p, .int v, .int q] (twS S (chM S p v q (2 ^ nM S)) (toM S (nM S))) (some (.int 1)) := by
  have hz8 := hz.2
  have hp2 := p2_le hz.2
  have hpp := p2_pos (N := nM S)
  refine ct_of [(0, .ref (eA E 58)), (1, .int p), (2, .int v), (3, .int q)] (by decide +kernel) (Nat.le_of_ble_eq_true rfl) rfl (fun X hM => ?_)
  refine g_lconst (pc := 0) (v := 0) dX9_chances_0 (by decide) ?_
  refine g_lstore (pc := 1) (L' := [(4, .long 0), (0, .ref (eA E 58)), (1, .int p), (2, .int v), (3, .int q)]) dX9_chances_1 (Nat.le_of_ble_eq_true rfl) rfl ?_
  refine g_lconst (pc := 3) (v := 1) dX9_chances_3 (by decide) ?_
  refine g_lstore (pc := 4) (L' := [(6, .long 1), (4, .long 0), (0, .ref (eA E 58)), (1, .int p), (2, .int v), (3, .int q)]) dX9_chances_4 (Nat.le_of_ble_eq_true rfl) rfl ?_
  refine g_iconst (pc := 6) (v := 0) dX9_chances_6 (by decide) ?_
  refine g_istore (pc := 7) (L' := [(8, .int 0), (6, .long 1), (4, .long 0), (0, .ref (eA E 58)), (1, .int p), (2, .int v), (3, .int q)]) dX9_chances_7 (Nat.le_of_ble_eq_true rfl) rfl ?_
  have H_9 : ∀ n : Nat, n ≤ (nM S) → G E X i_X9_chances S 9 [(0, .ref (eA E 58)), (1, .int p), (2, .int v), (3, .int q), (4, .long 0), (6, .long (toM S n)), (8, .int (nI n))] [] := by
    refine dn_ind (nM S) (fun n hn_9 ih_9 => ?_)
    refine g_iload (pc := 9) dX9_chances_9 6 rfl ?_
    refine g_aload_n (pc := 11) dX9_chances_11 0 rfl rfl ?_
    refine gf_X9_7 (pc := 12) rfl dX9_chances_12 ?_
    refine g_iconst (pc := 15) (v := 0) dX9_chances_15 (by decide) ?_
    refine g_iald (pc := 16) 0 rfl rfl (by decide) (by decide) dX9_chances_16 ?_
    refine g_icmp_ge (pc := 17) (tgt := 52) dX9_chances_17 (by decide) (fun c_17 => ?_) (fun c_17 => ?_)
    · have k_17 := Int32.not_lt.mpr c_17
      have he_9 : n = (nM S) := Nat.le_antisymm hn_9 (by exact nle_of (N := nM S) rfl hz.1 (by omega) (by omega) c_17)
      rw [he_9]
      refine g_iconst (pc := 52) (v := 0) dX9_chances_52 (by decide) ?_
      refine g_istore (pc := 53) (L' := [(8, .int 0), (0, .ref (eA E 58)), (1, .int p), (2, .int v), (3, .int q), (4, .long 0), (6, .long (toM S (nM S)))]) dX9_chances_53 (Nat.le_of_ble_eq_true rfl) rfl ?_
      have H_55 : ∀ n : Nat, n ≤ (2 ^ nM S) → G E X i_X9_chances S 55 [(0, .ref (eA E 58)), (1, .int p), (2, .int v), (3, .int q), (4, .long (chM S p v q n)), (6, .long (toM S (nM S))), (8, .int (nI n))] [] := by
        refine dn_ind (2 ^ nM S) (fun n hn_55 ih_55 => ?_)
        refine g_iload (pc := 55) dX9_chances_55 6 rfl ?_
        refine g_iconst (pc := 57) (v := 1) dX9_chances_57 (by decide) ?_
        refine g_aload_n (pc := 58) dX9_chances_58 0 rfl rfl ?_
        refine gf_X9_7 (pc := 59) rfl dX9_chances_59 ?_
        refine g_iconst (pc := 62) (v := 0) dX9_chances_62 (by decide) ?_
        refine g_iald (pc := 63) 0 rfl rfl (by decide) (by decide) dX9_chances_63 ?_
        refine g_ishl (pc := 64) dX9_chances_64 ?_
        refine g_icmp_ge (pc := 65) (tgt := 210) dX9_chances_65 (by decide) (fun c_65 => ?_) (fun c_65 => ?_)
        · have k_65 := Int32.not_lt.mpr c_65
          have he_55 : n = (2 ^ nM S) := Nat.le_antisymm hn_55 (by exact nle_of (N := 2 ^ nM S) rfl (sh1 hz.1 hz.2) (by omega) (by omega) c_65)
          rw [he_55]
          refine g_aload_n (pc := 210) dX9_chances_210 0 rfl rfl ?_
          refine g_lload (pc := 211) dX9_chances_211 4 rfl ?_
          refine g_lload (pc := 213) dX9_chances_213 5 rfl ?_
          refine g_invV (pc := 215) j_X9_tellsPart mw_X9_228 dX9_chances_215 (rcv_X9) (by rfl) (c_X9_tellsPart E S (chM S p v q (2 ^ nM S)) (toM S (nM S)) he h) (Nat.le_of_ble_eq_true rfl) (Nat.le_of_ble_eq_true rfl) (by rfl) (Nat.le_of_ble_eq_true rfl) ?_
          exact g_iret (pc := 218) hM rfl rfl ⟨rfl, rfl⟩ dX9_chances_218
        · have k_65 := Int32.not_le.mp c_65
          have hlt_55 : n < (2 ^ nM S) := by exact nlt_of (N := 2 ^ nM S) rfl (sh1 hz.1 hz.2) (by omega) (by omega) c_65
          refine g_iload (pc := 68) dX9_chances_68 6 rfl ?_
          refine g_aload_n (pc := 70) dX9_chances_70 0 rfl rfl ?_
          refine gf_X9_7 (pc := 71) rfl dX9_chances_71 ?_
          refine g_iconst (pc := 74) (v := 2) dX9_chances_74 (by decide) ?_
          refine g_iald (pc := 75) 2 rfl rfl (by decide) (by decide) dX9_chances_75 ?_
          refine g_iconst (pc := 76) (v := -1) dX9_chances_76 (by decide) ?_
          refine g_ixor (pc := 77) dX9_chances_77 ?_
          refine g_iand (pc := 78) dX9_chances_78 ?_
          refine g_if_ne (pc := 79) (tgt := 204) dX9_chances_79 (by decide) (fun c_79 => ?_) (fun c_79 => ?_)
          · refine g_iinc (pc := 204) (L' := [(8, .int (nI n + 1)), (0, .ref (eA E 58)), (1, .int p), (2, .int v), (3, .int q), (4, .long (chM S p v q n)), (6, .long (toM S (nM S)))]) dX9_chances_204 (k := 6) rfl (v := nI n + 1) rfl (Nat.le_of_ble_eq_true rfl) rfl ?_
            refine g_goto (pc := 207) (tgt := 55) dX9_chances_207 (by decide) ?_
            refine g_sub (L' := [(0, .ref (eA E 58)), (1, .int p), (2, .int v), (3, .int q), (4, .long (chM S p v q n)), (6, .long (toM S (nM S))), (8, .int (nI n + 1))]) [1, 2, 3, 4, 5, 6, 0] rfl ?_
            exact g_eq rfl (by rw [nI_1, chM, if_neg c_79]) rfl (ih_55 hlt_55)
          · refine g_lconst (pc := 82) (v := 1) dX9_chances_82 (by decide) ?_
            refine g_lstore (pc := 83) (L' := [(9, .long 1), (0, .ref (eA E 58)), (1, .int p), (2, .int v), (3, .int q), (4, .long (chM S p v q n)), (6, .long (toM S (nM S))), (8, .int (nI n))]) dX9_chances_83 (Nat.le_of_ble_eq_true rfl) rfl ?_
            refine g_iconst (pc := 85) (v := 0) dX9_chances_85 (by decide) ?_
            refine g_istore (pc := 86) (L' := [(11, .int 0), (9, .long 1), (0, .ref (eA E 58)), (1, .int p), (2, .int v), (3, .int q), (4, .long (chM S p v q n)), (6, .long (toM S (nM S))), (8, .int (nI n))]) dX9_chances_86 (Nat.le_of_ble_eq_true rfl) rfl ?_
            have H_88 : ∀ j : Nat, j ≤ (nM S) → G E X i_X9_chances S 88 [(0, .ref (eA E 58)), (1, .int p), (2, .int v), (3, .int q), (4, .long (chM S p v q n)), (6, .long (toM S (nM S))), (8, .int (nI n)), (9, .long (waM S q (nI n) j)), (11, .int (nI j))] [] := by
              refine dn_ind (nM S) (fun j hn_88 ih_88 => ?_)
              refine g_iload (pc := 88) dX9_chances_88 8 rfl ?_
              refine g_aload_n (pc := 90) dX9_chances_90 0 rfl rfl ?_
              refine gf_X9_7 (pc := 91) rfl dX9_chances_91 ?_
              refine g_iconst (pc := 94) (v := 0) dX9_chances_94 (by decide) ?_
              refine g_iald (pc := 95) 0 rfl rfl (by decide) (by decide) dX9_chances_95 ?_
              refine g_icmp_ge (pc := 96) (tgt := 148) dX9_chances_96 (by decide) (fun c_96 => ?_) (fun c_96 => ?_)
              · have k_96 := Int32.not_lt.mpr c_96
                have he_88 : j = (nM S) := Nat.le_antisymm hn_88 (by exact nle_of (N := nM S) rfl hz.1 (by omega) (by omega) c_96)
                rw [he_88]
                refine g_aload_n (pc := 148) dX9_chances_148 0 rfl rfl ?_
                refine g_iload_n (pc := 149) dX9_chances_149 1 rfl rfl ?_
                refine g_aload_n (pc := 150) dX9_chances_150 0 rfl rfl ?_
                refine gf_X9_7 (pc := 151) rfl dX9_chances_151 ?_
                refine g_iconst (pc := 154) (v := 2) dX9_chances_154 (by decide) ?_
                refine g_iald (pc := 155) 2 rfl rfl (by decide) (by decide) dX9_chances_155 ?_
                refine g_iload (pc := 156) dX9_chances_156 6 rfl ?_
                refine g_iconst (pc := 158) (v := -1) dX9_chances_158 (by decide) ?_
                refine g_ixor (pc := 159) dX9_chances_159 ?_
                refine g_iand (pc := 160) dX9_chances_160 ?_
                refine g_aload_n (pc := 161) dX9_chances_161 0 rfl rfl ?_
                refine gf_X9_7 (pc := 162) rfl dX9_chances_162 ?_
                refine g_iconst (pc := 165) (v := 1) dX9_chances_165 (by decide) ?_
                refine g_iald (pc := 166) 1 rfl rfl (by decide) (by decide) dX9_chances_166 ?_
                refine g_invV (pc := 167) j_X9_brightBy mw_X9_172 dX9_chances_167 (rcv_X9) (by rfl) (c_X9_brightBy E S p (gA S 59 2 &&& (nI n ^^^ -1)) (gA S 59 1) (by first | assumption | omega | rfl)) (Nat.le_of_ble_eq_true rfl) (Nat.le_of_ble_eq_true rfl) (by rfl) (Nat.le_of_ble_eq_true rfl) ?_
                refine g_istore (pc := 170) (L' := [(11, .int (brR S p (gA S 59 2 &&& (nI n ^^^ -1)) (gA S 59 1) (nM S))), (0, .ref (eA E 58)), (1, .int p), (2, .int v), (3, .int q), (4, .long (chM S p v q n)), (6, .long (toM S (nM S))), (8, .int (nI n)), (9, .long (waM S q (nI n) (nM S)))]) dX9_chances_170 (Nat.le_of_ble_eq_true rfl) rfl ?_
                refine g_lload (pc := 172) dX9_chances_172 5 rfl ?_
                refine g_iload_n (pc := 174) dX9_chances_174 3 rfl rfl ?_
                refine g_bipush (pc := 175) (v := -9) dX9_chances_175 (by decide) ?_
                refine g_icmp_ne (pc := 177) (tgt := 189) dX9_chances_177 (by decide) (fun c_177 => ?_) (fun c_177 => ?_)
                · refine g_iload (pc := 189) dX9_chances_189 0 rfl ?_
                  refine g_iload_n (pc := 191) dX9_chances_191 3 rfl rfl ?_
                  refine g_icmp_gt (pc := 192) (tgt := 200) dX9_chances_192 (by decide) (fun c_192 => ?_) (fun c_192 => ?_)
                  · have k_192 := Int32.not_le.mpr c_192
                    refine g_lconst (pc := 200) (v := 0) dX9_chances_200 (by decide) ?_
                    refine g_ladd (pc := 201) dX9_chances_201 ?_
                    refine g_lstore (pc := 202) (L' := [(4, .long (chM S p v q n + 0)), (11, .int (brR S p (gA S 59 2 &&& (nI n ^^^ -1)) (gA S 59 1) (nM S))), (0, .ref (eA E 58)), (1, .int p), (2, .int v), (3, .int q), (6, .long (toM S (nM S))), (8, .int (nI n)), (9, .long (waM S q (nI n) (nM S)))]) dX9_chances_202 (Nat.le_of_ble_eq_true rfl) rfl ?_
                    refine g_iinc (pc := 204) (L' := [(8, .int (nI n + 1)), (4, .long (chM S p v q n + 0)), (11, .int (brR S p (gA S 59 2 &&& (nI n ^^^ -1)) (gA S 59 1) (nM S))), (0, .ref (eA E 58)), (1, .int p), (2, .int v), (3, .int q), (6, .long (toM S (nM S))), (9, .long (waM S q (nI n) (nM S)))]) dX9_chances_204 (k := 7) rfl (v := nI n + 1) rfl (Nat.le_of_ble_eq_true rfl) rfl ?_
                    refine g_goto (pc := 207) (tgt := 55) dX9_chances_207 (by decide) ?_
                    refine g_sub (L' := [(0, .ref (eA E 58)), (1, .int p), (2, .int v), (3, .int q), (4, .long (chM S p v q n + 0)), (6, .long (toM S (nM S))), (8, .int (nI n + 1))]) [3, 4, 5, 6, 1, 7, 0] rfl ?_
                    exact g_eq rfl (by rw [nI_1, chM, if_pos c_79, if_neg c_177, chB, if_pos c_192]) rfl (ih_55 hlt_55)
                  · have k_192 := Int32.not_lt.mp c_192
                    refine g_lload (pc := 195) dX9_chances_195 8 rfl ?_
                    refine g_goto (pc := 197) (tgt := 201) dX9_chances_197 (by decide) ?_
                    refine g_ladd (pc := 201) dX9_chances_201 ?_
                    refine g_lstore (pc := 202) (L' := [(4, .long (chM S p v q n + waM S q (nI n) (nM S))), (11, .int (brR S p (gA S 59 2 &&& (nI n ^^^ -1)) (gA S 59 1) (nM S))), (0, .ref (eA E 58)), (1, .int p), (2, .int v), (3, .int q), (6, .long (toM S (nM S))), (8, .int (nI n)), (9, .long (waM S q (nI n) (nM S)))]) dX9_chances_202 (Nat.le_of_ble_eq_true rfl) rfl ?_
                    refine g_iinc (pc := 204) (L' := [(8, .int (nI n + 1)), (4, .long (chM S p v q n + waM S q (nI n) (nM S))), (11, .int (brR S p (gA S 59 2 &&& (nI n ^^^ -1)) (gA S 59 1) (nM S))), (0, .ref (eA E 58)), (1, .int p), (2, .int v), (3, .int q), (6, .long (toM S (nM S))), (9, .long (waM S q (nI n) (nM S)))]) dX9_chances_204 (k := 7) rfl (v := nI n + 1) rfl (Nat.le_of_ble_eq_true rfl) rfl ?_
                    refine g_goto (pc := 207) (tgt := 55) dX9_chances_207 (by decide) ?_
                    refine g_sub (L' := [(0, .ref (eA E 58)), (1, .int p), (2, .int v), (3, .int q), (4, .long (chM S p v q n + waM S q (nI n) (nM S))), (6, .long (toM S (nM S))), (8, .int (nI n + 1))]) [3, 4, 5, 6, 1, 7, 0] rfl ?_
                    exact g_eq rfl (by rw [nI_1, chM, if_pos c_79, if_neg c_177, chB, if_neg c_192]) rfl (ih_55 hlt_55)
                · refine g_lload (pc := 180) dX9_chances_180 8 rfl ?_
                  refine g_iload (pc := 182) dX9_chances_182 0 rfl ?_
                  refine g_i2l (pc := 184) dX9_chances_184 ?_
                  refine g_lmul (pc := 185) dX9_chances_185 ?_
                  refine g_goto (pc := 186) (tgt := 201) dX9_chances_186 (by decide) ?_
                  refine g_ladd (pc := 201) dX9_chances_201 ?_
                  refine g_lstore (pc := 202) (L' := [(4, .long (chM S p v q n + (waM S q (nI n) (nM S) * (brR S p (gA S 59 2 &&& (nI n ^^^ -1)) (gA S 59 1) (nM S)).toInt64))), (11, .int (brR S p (gA S 59 2 &&& (nI n ^^^ -1)) (gA S 59 1) (nM S))), (0, .ref (eA E 58)), (1, .int p), (2, .int v), (3, .int q), (6, .long (toM S (nM S))), (8, .int (nI n)), (9, .long (waM S q (nI n) (nM S)))]) dX9_chances_202 (Nat.le_of_ble_eq_true rfl) rfl ?_
                  refine g_iinc (pc := 204) (L' := [(8, .int (nI n + 1)), (4, .long (chM S p v q n + (waM S q (nI n) (nM S) * (brR S p (gA S 59 2 &&& (nI n ^^^ -1)) (gA S 59 1) (nM S)).toInt64))), (11, .int (brR S p (gA S 59 2 &&& (nI n ^^^ -1)) (gA S 59 1) (nM S))), (0, .ref (eA E 58)), (1, .int p), (2, .int v), (3, .int q), (6, .long (toM S (nM S))), (9, .long (waM S q (nI n) (nM S)))]) dX9_chances_204 (k := 7) rfl (v := nI n + 1) rfl (Nat.le_of_ble_eq_true rfl) rfl ?_
                  refine g_goto (pc := 207) (tgt := 55) dX9_chances_207 (by decide) ?_
                  refine g_sub (L' := [(0, .ref (eA E 58)), (1, .int p), (2, .int v), (3, .int q), (4, .long (chM S p v q n + (waM S q (nI n) (nM S) * (brR S p (gA S 59 2 &&& (nI n ^^^ -1)) (gA S 59 1) (nM S)).toInt64))), (6, .long (toM S (nM S))), (8, .int (nI n + 1))]) [3, 4, 5, 6, 1, 7, 0] rfl ?_
                  exact g_eq rfl (by rw [nI_1, chM, if_pos c_79, if_pos c_177]; rfl) rfl (ih_55 hlt_55)
              · have k_96 := Int32.not_le.mp c_96
                have hlt_88 : j < (nM S) := by exact nlt_of (N := nM S) rfl hz.1 (by omega) (by omega) c_96
                refine g_lload (pc := 99) dX9_chances_99 7 rfl ?_
                refine g_aload_n (pc := 101) dX9_chances_101 0 rfl rfl ?_
                refine gf_X9_7 (pc := 102) rfl dX9_chances_102 ?_
                refine g_iconst (pc := 105) (v := 2) dX9_chances_105 (by decide) ?_
                refine g_iald (pc := 106) 2 rfl rfl (by decide) (by decide) dX9_chances_106 ?_
                refine g_iload (pc := 107) dX9_chances_107 8 rfl ?_
                refine g_invS (pc := 109) j_X9_has mw_X9_143 dX9_chances_109 (by rfl) (c_X9_has E S (gA S 59 2) (nI j) ) (Nat.le_of_ble_eq_true rfl) (Nat.le_of_ble_eq_true rfl) (by rfl) (Nat.le_of_ble_eq_true rfl) ?_
                refine g_b_ne (pc := 112) (tgt := 119) dX9_chances_112 (by decide) (fun c_112 => ?_) (fun c_112 => ?_)
                · refine g_iload (pc := 119) dX9_chances_119 6 rfl ?_
                  refine g_iload (pc := 121) dX9_chances_121 8 rfl ?_
                  refine g_invS (pc := 123) j_X9_has mw_X9_143 dX9_chances_123 (by rfl) (c_X9_has E S (nI n) (nI j) ) (Nat.le_of_ble_eq_true rfl) (Nat.le_of_ble_eq_true rfl) (by rfl) (Nat.le_of_ble_eq_true rfl) ?_
                  refine g_b_eq (pc := 126) (tgt := 134) dX9_chances_126 (by decide) (fun c_126 => ?_) (fun c_126 => ?_)
                  · refine g_bipush (pc := 134) (v := 12) dX9_chances_134 (by decide) ?_
                    refine g_iload_n (pc := 136) dX9_chances_136 3 rfl rfl ?_
                    refine g_isub (pc := 137) dX9_chances_137 ?_
                    refine g_i2l (pc := 138) dX9_chances_138 ?_
                    refine g_lmul (pc := 139) dX9_chances_139 ?_
                    refine g_lstore (pc := 140) (L' := [(9, .long (waM S q (nI n) j * (12 - q).toInt64)), (0, .ref (eA E 58)), (1, .int p), (2, .int v), (3, .int q), (4, .long (chM S p v q n)), (6, .long (toM S (nM S))), (8, .int (nI n)), (11, .int (nI j))]) dX9_chances_140 (Nat.le_of_ble_eq_true rfl) rfl ?_
                    refine g_iinc (pc := 142) (L' := [(11, .int (nI j + 1)), (9, .long (waM S q (nI n) j * (12 - q).toInt64)), (0, .ref (eA E 58)), (1, .int p), (2, .int v), (3, .int q), (4, .long (chM S p v q n)), (6, .long (toM S (nM S))), (8, .int (nI n))]) dX9_chances_142 (k := 8) rfl (v := nI j + 1) rfl (Nat.le_of_ble_eq_true rfl) rfl ?_
                    refine g_goto (pc := 145) (tgt := 88) dX9_chances_145 (by decide) ?_
                    refine g_sub (L' := [(0, .ref (eA E 58)), (1, .int p), (2, .int v), (3, .int q), (4, .long (chM S p v q n)), (6, .long (toM S (nM S))), (8, .int (nI n)), (9, .long (waM S q (nI n) j * (12 - q).toInt64)), (11, .int (nI j + 1))]) [2, 3, 4, 5, 6, 7, 8, 1, 0] rfl ?_
                    exact g_eq rfl (by rw [nI_1, waM]; simp only [c_112, c_126, if_true, if_false, Bool.false_eq_true, Bool.not_true, Bool.not_false, Bool.and_true, Bool.true_and, Bool.and_false, Bool.false_and, Bool.or_true, Bool.true_or, Bool.or_false, Bool.false_or, decide_true, decide_false, Bool.and_self]) rfl (ih_88 hlt_88)
                  · refine g_iload_n (pc := 129) dX9_chances_129 3 rfl rfl ?_
                    refine g_i2l (pc := 130) dX9_chances_130 ?_
                    refine g_goto (pc := 131) (tgt := 139) dX9_chances_131 (by decide) ?_
                    refine g_lmul (pc := 139) dX9_chances_139 ?_
                    refine g_lstore (pc := 140) (L' := [(9, .long (waM S q (nI n) j * q.toInt64)), (0, .ref (eA E 58)), (1, .int p), (2, .int v), (3, .int q), (4, .long (chM S p v q n)), (6, .long (toM S (nM S))), (8, .int (nI n)), (11, .int (nI j))]) dX9_chances_140 (Nat.le_of_ble_eq_true rfl) rfl ?_
                    refine g_iinc (pc := 142) (L' := [(11, .int (nI j + 1)), (9, .long (waM S q (nI n) j * q.toInt64)), (0, .ref (eA E 58)), (1, .int p), (2, .int v), (3, .int q), (4, .long (chM S p v q n)), (6, .long (toM S (nM S))), (8, .int (nI n))]) dX9_chances_142 (k := 8) rfl (v := nI j + 1) rfl (Nat.le_of_ble_eq_true rfl) rfl ?_
                    refine g_goto (pc := 145) (tgt := 88) dX9_chances_145 (by decide) ?_
                    refine g_sub (L' := [(0, .ref (eA E 58)), (1, .int p), (2, .int v), (3, .int q), (4, .long (chM S p v q n)), (6, .long (toM S (nM S))), (8, .int (nI n)), (9, .long (waM S q (nI n) j * q.toInt64)), (11, .int (nI j + 1))]) [2, 3, 4, 5, 6, 7, 8, 1, 0] rfl ?_
                    exact g_eq rfl (by rw [nI_1, waM]; simp only [c_112, c_126, if_true, if_false, Bool.false_eq_true, Bool.not_true, Bool.not_false, Bool.and_true, Bool.true_and, Bool.and_false, Bool.false_and, Bool.or_true, Bool.true_or, Bool.or_false, Bool.false_or, decide_true, decide_false, Bool.and_self]) rfl (ih_88 hlt_88)
                · refine g_lconst (pc := 115) (v := 1) dX9_chances_115 (by decide) ?_
                  refine g_goto (pc := 116) (tgt := 139) dX9_chances_116 (by decide) ?_
                  refine g_lmul (pc := 139) dX9_chances_139 ?_
                  refine g_lstore (pc := 140) (L' := [(9, .long (waM S q (nI n) j * 1)), (0, .ref (eA E 58)), (1, .int p), (2, .int v), (3, .int q), (4, .long (chM S p v q n)), (6, .long (toM S (nM S))), (8, .int (nI n)), (11, .int (nI j))]) dX9_chances_140 (Nat.le_of_ble_eq_true rfl) rfl ?_
                  refine g_iinc (pc := 142) (L' := [(11, .int (nI j + 1)), (9, .long (waM S q (nI n) j * 1)), (0, .ref (eA E 58)), (1, .int p), (2, .int v), (3, .int q), (4, .long (chM S p v q n)), (6, .long (toM S (nM S))), (8, .int (nI n))]) dX9_chances_142 (k := 8) rfl (v := nI j + 1) rfl (Nat.le_of_ble_eq_true rfl) rfl ?_
                  refine g_goto (pc := 145) (tgt := 88) dX9_chances_145 (by decide) ?_
                  refine g_sub (L' := [(0, .ref (eA E 58)), (1, .int p), (2, .int v), (3, .int q), (4, .long (chM S p v q n)), (6, .long (toM S (nM S))), (8, .int (nI n)), (9, .long (waM S q (nI n) j * 1)), (11, .int (nI j + 1))]) [2, 3, 4, 5, 6, 7, 8, 1, 0] rfl ?_
                  exact g_eq rfl (by rw [nI_1, waM]; simp only [c_112, if_true, if_false, Bool.false_eq_true, Bool.not_true, Bool.not_false, Bool.and_true, Bool.true_and, Bool.and_false, Bool.false_and, Bool.or_true, Bool.true_or, Bool.or_false, Bool.false_or, decide_true, decide_false, Bool.and_self]) rfl (ih_88 hlt_88)
            refine g_sub (L' := [(0, .ref (eA E 58)), (1, .int p), (2, .int v), (3, .int q), (4, .long (chM S p v q n)), (6, .long (toM S (nM S))), (8, .int (nI n)), (9, .long 1), (11, .int 0)]) [2, 3, 4, 5, 6, 7, 8, 1, 0] rfl ?_
            exact g_eq rfl rfl rfl (H_88 0 (Nat.zero_le _))
      refine g_sub (L' := [(0, .ref (eA E 58)), (1, .int p), (2, .int v), (3, .int q), (4, .long 0), (6, .long (toM S (nM S))), (8, .int 0)]) [1, 2, 3, 4, 5, 6, 0] rfl ?_
      exact g_eq rfl rfl rfl (H_55 0 (Nat.zero_le _))
    · have k_17 := Int32.not_le.mp c_17
      have hlt_9 : n < (nM S) := by exact nlt_of (N := nM S) rfl hz.1 (by omega) (by omega) c_17
      refine g_lload (pc := 20) dX9_chances_20 5 rfl ?_
      refine g_aload_n (pc := 22) dX9_chances_22 0 rfl rfl ?_
      refine gf_X9_7 (pc := 23) rfl dX9_chances_23 ?_
      refine g_iconst (pc := 26) (v := 2) dX9_chances_26 (by decide) ?_
      refine g_iald (pc := 27) 2 rfl rfl (by decide) (by decide) dX9_chances_27 ?_
      refine g_iload (pc := 28) dX9_chances_28 6 rfl ?_
      refine g_invS (pc := 30) j_X9_has mw_X9_143 dX9_chances_30 (by rfl) (c_X9_has E S (gA S 59 2) (nI n) ) (Nat.le_of_ble_eq_true rfl) (Nat.le_of_ble_eq_true rfl) (by rfl) (Nat.le_of_ble_eq_true rfl) ?_
      refine g_b_eq (pc := 33) (tgt := 42) dX9_chances_33 (by decide) (fun c_33 => ?_) (fun c_33 => ?_)
      · refine g_lconst (pc := 42) (v := 1) dX9_chances_42 (by decide) ?_
        refine g_lmul (pc := 43) dX9_chances_43 ?_
        refine g_lstore (pc := 44) (L' := [(6, .long (toM S n * 1)), (0, .ref (eA E 58)), (1, .int p), (2, .int v), (3, .int q), (4, .long 0), (8, .int (nI n))]) dX9_chances_44 (Nat.le_of_ble_eq_true rfl) rfl ?_
        refine g_iinc (pc := 46) (L' := [(8, .int (nI n + 1)), (6, .long (toM S n * 1)), (0, .ref (eA E 58)), (1, .int p), (2, .int v), (3, .int q), (4, .long 0)]) dX9_chances_46 (k := 6) rfl (v := nI n + 1) rfl (Nat.le_of_ble_eq_true rfl) rfl ?_
        refine g_goto (pc := 49) (tgt := 9) dX9_chances_49 (by decide) ?_
        refine g_sub (L' := [(0, .ref (eA E 58)), (1, .int p), (2, .int v), (3, .int q), (4, .long 0), (6, .long (toM S n * 1)), (8, .int (nI n + 1))]) [2, 3, 4, 5, 6, 1, 0] rfl ?_
        exact g_eq rfl (by rw [nI_1, toM]; simp only [c_33, if_true, if_false, Bool.false_eq_true, Bool.not_true, Bool.not_false, Bool.and_true, Bool.true_and, Bool.and_false, Bool.false_and, Bool.or_true, Bool.true_or, Bool.or_false, Bool.false_or, decide_true, decide_false, Bool.and_self]) rfl (ih_9 hlt_9)
      · refine g_ldc2 (pc := 36) kw_X9_226 dX9_chances_36 ?_
        refine g_goto (pc := 39) (tgt := 43) dX9_chances_39 (by decide) ?_
        refine g_lmul (pc := 43) dX9_chances_43 ?_
        refine g_lstore (pc := 44) (L' := [(6, .long (toM S n * 12)), (0, .ref (eA E 58)), (1, .int p), (2, .int v), (3, .int q), (4, .long 0), (8, .int (nI n))]) dX9_chances_44 (Nat.le_of_ble_eq_true rfl) rfl ?_
        refine g_iinc (pc := 46) (L' := [(8, .int (nI n + 1)), (6, .long (toM S n * 12)), (0, .ref (eA E 58)), (1, .int p), (2, .int v), (3, .int q), (4, .long 0)]) dX9_chances_46 (k := 6) rfl (v := nI n + 1) rfl (Nat.le_of_ble_eq_true rfl) rfl ?_
        refine g_goto (pc := 49) (tgt := 9) dX9_chances_49 (by decide) ?_
        refine g_sub (L' := [(0, .ref (eA E 58)), (1, .int p), (2, .int v), (3, .int q), (4, .long 0), (6, .long (toM S n * 12)), (8, .int (nI n + 1))]) [2, 3, 4, 5, 6, 1, 0] rfl ?_
        exact g_eq rfl (by rw [nI_1, toM]; simp only [c_33, if_true, if_false, Bool.false_eq_true, Bool.not_true, Bool.not_false, Bool.and_true, Bool.true_and, Bool.and_false, Bool.false_and, Bool.or_true, Bool.true_or, Bool.or_false, Bool.false_or, decide_true, decide_false, Bool.and_self]) rfl (ih_9 hlt_9)
  refine g_sub (L' := [(0, .ref (eA E 58)), (1, .int p), (2, .int v), (3, .int q), (4, .long 0), (6, .long 1), (8, .int 0)]) [3, 4, 5, 6, 2, 1, 0] rfl ?_
  exact g_eq rfl rfl rfl (H_9 0 (Nat.zero_le _))
set_option maxRecDepth 100000 in
set_option maxHeartbeats 4000000 in
theorem c_X9_odds_bad (E : En) (S : St) (p v q : Int32) (h : ¬ (placeF p = true ∧ inF v.toInt64 0 99 = true ∧ inF q.toInt64 0 12 = true)) : CTe E i_X9_odds S [.ref (eA E 58), .int p, .int v, .int q] S (some (.int (-1))) := by
  refine ct_of [(0, .ref (eA E 58)), (1, .int p), (2, .int v), (3, .int q)] (by decide +kernel) (Nat.le_of_ble_eq_true rfl) rfl (fun X hM => ?_)
  refine g_iload_n (pc := 0) dX9_odds_0 1 rfl rfl ?_
  refine g_invS (pc := 1) j_X9_isPlace mw_X9_156 dX9_odds_1 (by rfl) (c_X9_isPlace E S p ) (Nat.le_of_ble_eq_true rfl) (Nat.le_of_ble_eq_true rfl) (by rfl) (Nat.le_of_ble_eq_true rfl) ?_
  refine g_b_eq (pc := 4) (tgt := 31) dX9_odds_4 (by decide) (fun c_4 => ?_) (fun c_4 => ?_)
  · refine g_iconst (pc := 31) (v := -1) dX9_odds_31 (by decide) ?_
    exact g_iret (pc := 32) hM rfl rfl ⟨rfl, rfl⟩ dX9_odds_32
  · refine g_iload_n (pc := 7) dX9_odds_7 2 rfl rfl ?_
    refine g_i2l (pc := 8) dX9_odds_8 ?_
    refine g_lconst (pc := 9) (v := 0) dX9_odds_9 (by decide) ?_
    refine g_ldc2 (pc := 10) kw_X9_141 dX9_odds_10 ?_
    refine g_invS (pc := 13) j_X9_in mw_X9_62 dX9_odds_13 (by rfl) (c_X9_in E S v.toInt64 0 99 ) (Nat.le_of_ble_eq_true rfl) (Nat.le_of_ble_eq_true rfl) (by rfl) (Nat.le_of_ble_eq_true rfl) ?_
    refine g_b_eq (pc := 16) (tgt := 31) dX9_odds_16 (by decide) (fun c_16 => ?_) (fun c_16 => ?_)
    · refine g_iconst (pc := 31) (v := -1) dX9_odds_31 (by decide) ?_
      exact g_iret (pc := 32) hM rfl rfl ⟨rfl, rfl⟩ dX9_odds_32
    · refine g_iload_n (pc := 19) dX9_odds_19 3 rfl rfl ?_
      refine g_i2l (pc := 20) dX9_odds_20 ?_
      refine g_lconst (pc := 21) (v := 0) dX9_odds_21 (by decide) ?_
      refine g_ldc2 (pc := 22) kw_X9_226 dX9_odds_22 ?_
      refine g_invS (pc := 25) j_X9_in mw_X9_62 dX9_odds_25 (by rfl) (c_X9_in E S q.toInt64 0 12 ) (Nat.le_of_ble_eq_true rfl) (Nat.le_of_ble_eq_true rfl) (by rfl) (Nat.le_of_ble_eq_true rfl) ?_
      refine g_b_ne (pc := 28) (tgt := 33) dX9_odds_28 (by decide) (fun c_28 => ?_) (fun c_28 => ?_)
      · exact absurd ⟨c_4, c_16, c_28⟩ h
      · refine g_iconst (pc := 31) (v := -1) dX9_odds_31 (by decide) ?_
        exact g_iret (pc := 32) hM rfl rfl ⟨rfl, rfl⟩ dX9_odds_32
set_option maxRecDepth 100000 in
set_option maxHeartbeats 4000000 in
theorem c_X9_odds_no (E : En) (S : St) (p v q : Int32) (hr : (placeF p = true ∧ inF v.toInt64 0 99 = true ∧ inF q.toInt64 0 12 = true)) (h : gA S 59 0 = 0) : CTe E i_X9_odds S [.ref (eA E 58), .int p, .int v, .int q] S (some (.int (-4))) := by
  refine ct_of [(0, .ref (eA E 58)), (1, .int p), (2, .int v), (3, .int q)] (by decide +kernel) (Nat.le_of_ble_eq_true rfl) rfl (fun X hM => ?_)
  refine g_iload_n (pc := 0) dX9_odds_0 1 rfl rfl ?_
  refine g_invS (pc := 1) j_X9_isPlace mw_X9_156 dX9_odds_1 (by rfl) (c_X9_isPlace E S p ) (Nat.le_of_ble_eq_true rfl) (Nat.le_of_ble_eq_true rfl) (by rfl) (Nat.le_of_ble_eq_true rfl) ?_
  refine g_b_eq (pc := 4) (tgt := 31) dX9_odds_4 (by decide) (fun c_4 => ?_) (fun c_4 => ?_)
  · exact absurd (hr.1.symm.trans c_4) (by decide)
  · refine g_iload_n (pc := 7) dX9_odds_7 2 rfl rfl ?_
    refine g_i2l (pc := 8) dX9_odds_8 ?_
    refine g_lconst (pc := 9) (v := 0) dX9_odds_9 (by decide) ?_
    refine g_ldc2 (pc := 10) kw_X9_141 dX9_odds_10 ?_
    refine g_invS (pc := 13) j_X9_in mw_X9_62 dX9_odds_13 (by rfl) (c_X9_in E S v.toInt64 0 99 ) (Nat.le_of_ble_eq_true rfl) (Nat.le_of_ble_eq_true rfl) (by rfl) (Nat.le_of_ble_eq_true rfl) ?_
    refine g_b_eq (pc := 16) (tgt := 31) dX9_odds_16 (by decide) (fun c_16 => ?_) (fun c_16 => ?_)
    · exact absurd (hr.2.1.symm.trans c_16) (by decide)
    · refine g_iload_n (pc := 19) dX9_odds_19 3 rfl rfl ?_
      refine g_i2l (pc := 20) dX9_odds_20 ?_
      refine g_lconst (pc := 21) (v := 0) dX9_odds_21 (by decide) ?_
      refine g_ldc2 (pc := 22) kw_X9_226 dX9_odds_22 ?_
      refine g_invS (pc := 25) j_X9_in mw_X9_62 dX9_odds_25 (by rfl) (c_X9_in E S q.toInt64 0 12 ) (Nat.le_of_ble_eq_true rfl) (Nat.le_of_ble_eq_true rfl) (by rfl) (Nat.le_of_ble_eq_true rfl) ?_
      refine g_b_ne (pc := 28) (tgt := 33) dX9_odds_28 (by decide) (fun c_28 => ?_) (fun c_28 => ?_)
      · refine g_aload_n (pc := 33) dX9_odds_33 0 rfl rfl ?_
        refine gf_X9_7 (pc := 34) rfl dX9_odds_34 ?_
        refine g_iconst (pc := 37) (v := 0) dX9_odds_37 (by decide) ?_
        refine g_iald (pc := 38) 0 rfl rfl (by decide) (by decide) dX9_odds_38 ?_
        refine g_if_ne (pc := 39) (tgt := 47) dX9_odds_39 (by decide) (fun c_39 => ?_) (fun c_39 => ?_)
        · exact absurd h c_39
        · refine g_bipush (pc := 42) (v := -4) dX9_odds_42 (by decide) ?_
          refine g_goto (pc := 44) (tgt := 54) dX9_odds_44 (by decide) ?_
          exact g_iret (pc := 54) hM rfl rfl ⟨rfl, rfl⟩ dX9_odds_54
      · exact absurd (hr.2.2.symm.trans c_28) (by decide)
set_option maxRecDepth 100000 in
set_option maxHeartbeats 4000000 in
theorem c_X9_odds_ok (E : En) (S : St) (p v q : Int32) (hz : okM S)(hr : (placeF p = true ∧ inF v.toInt64 0 99 = true ∧ inF q.toInt64 0 12 = true)) (h0 : ¬ gA S 59 0 = 0) (he : gdE 200 (chM S p v q (2 ^ nM S)) (toM S (nM S)) = true) (h : ¬ gdF (chM S p v q (2 ^ nM S)) (toM S (nM S)) = 0) : CTe E i_X9_odds S [.ref (eA E 58), .int p, .int v, .int q] (twS S (chM S p v q (2 ^ nM S)) (toM S (nM S))) (some (.int 1)) := by
  refine ct_of [(0, .ref (eA E 58)), (1, .int p), (2, .int v), (3, .int q)] (by decide +kernel) (Nat.le_of_ble_eq_true rfl) rfl (fun X hM => ?_)
  refine g_iload_n (pc := 0) dX9_odds_0 1 rfl rfl ?_
  refine g_invS (pc := 1) j_X9_isPlace mw_X9_156 dX9_odds_1 (by rfl) (c_X9_isPlace E S p ) (Nat.le_of_ble_eq_true rfl) (Nat.le_of_ble_eq_true rfl) (by rfl) (Nat.le_of_ble_eq_true rfl) ?_
  refine g_b_eq (pc := 4) (tgt := 31) dX9_odds_4 (by decide) (fun c_4 => ?_) (fun c_4 => ?_)
  · exact absurd (hr.1.symm.trans c_4) (by decide)
  · refine g_iload_n (pc := 7) dX9_odds_7 2 rfl rfl ?_
    refine g_i2l (pc := 8) dX9_odds_8 ?_
    refine g_lconst (pc := 9) (v := 0) dX9_odds_9 (by decide) ?_
    refine g_ldc2 (pc := 10) kw_X9_141 dX9_odds_10 ?_
    refine g_invS (pc := 13) j_X9_in mw_X9_62 dX9_odds_13 (by rfl) (c_X9_in E S v.toInt64 0 99 ) (Nat.le_of_ble_eq_true rfl) (Nat.le_of_ble_eq_true rfl) (by rfl) (Nat.le_of_ble_eq_true rfl) ?_
    refine g_b_eq (pc := 16) (tgt := 31) dX9_odds_16 (by decide) (fun c_16 => ?_) (fun c_16 => ?_)
    · exact absurd (hr.2.1.symm.trans c_16) (by decide)
    · refine g_iload_n (pc := 19) dX9_odds_19 3 rfl rfl ?_
      refine g_i2l (pc := 20) dX9_odds_20 ?_
      refine g_lconst (pc := 21) (v := 0) dX9_odds_21 (by decide) ?_
      refine g_ldc2 (pc := 22) kw_X9_226 dX9_odds_22 ?_
      refine g_invS (pc := 25) j_X9_in mw_X9_62 dX9_odds_25 (by rfl) (c_X9_in E S q.toInt64 0 12 ) (Nat.le_of_ble_eq_true rfl) (Nat.le_of_ble_eq_true rfl) (by rfl) (Nat.le_of_ble_eq_true rfl) ?_
      refine g_b_ne (pc := 28) (tgt := 33) dX9_odds_28 (by decide) (fun c_28 => ?_) (fun c_28 => ?_)
      · refine g_aload_n (pc := 33) dX9_odds_33 0 rfl rfl ?_
        refine gf_X9_7 (pc := 34) rfl dX9_odds_34 ?_
        refine g_iconst (pc := 37) (v := 0) dX9_odds_37 (by decide) ?_
        refine g_iald (pc := 38) 0 rfl rfl (by decide) (by decide) dX9_odds_38 ?_
        refine g_if_ne (pc := 39) (tgt := 47) dX9_odds_39 (by decide) (fun c_39 => ?_) (fun c_39 => ?_)
        · refine g_aload_n (pc := 47) dX9_odds_47 0 rfl rfl ?_
          refine g_iload_n (pc := 48) dX9_odds_48 1 rfl rfl ?_
          refine g_iload_n (pc := 49) dX9_odds_49 2 rfl rfl ?_
          refine g_iload_n (pc := 50) dX9_odds_50 3 rfl rfl ?_
          refine g_invV (pc := 51) j_X9_chances mw_X9_232 dX9_odds_51 (rcv_X9) (by rfl) (c_X9_chances E S p v q (by first | assumption | omega | rfl) (by first | assumption | omega | rfl) (by first | assumption | omega | rfl)) (Nat.le_of_ble_eq_true rfl) (Nat.le_of_ble_eq_true rfl) (by rfl) (Nat.le_of_ble_eq_true rfl) ?_
          exact g_iret (pc := 54) hM rfl rfl ⟨rfl, rfl⟩ dX9_odds_54
        · exact absurd c_39 h0
      · exact absurd (hr.2.2.symm.trans c_28) (by decide)
set_option maxRecDepth 100000 in
set_option maxHeartbeats 4000000 in
theorem c_X9_mid_bad (E : En) (S : St) (p q : Int32) (h : ¬ (placeF p = true ∧ inF q.toInt64 0 12 = true)) : CTe E i_X9_mid S [.ref (eA E 58), .int p, .int q] S (some (.int (-1))) := by
  refine ct_of [(0, .ref (eA E 58)), (1, .int p), (2, .int q)] (by decide +kernel) (Nat.le_of_ble_eq_true rfl) rfl (fun X hM => ?_)
  refine g_iload_n (pc := 0) dX9_mid_0 1 rfl rfl ?_
  refine g_invS (pc := 1) j_X9_isPlace mw_X9_156 dX9_mid_1 (by rfl) (c_X9_isPlace E S p ) (Nat.le_of_ble_eq_true rfl) (Nat.le_of_ble_eq_true rfl) (by rfl) (Nat.le_of_ble_eq_true rfl) ?_
  refine g_b_eq (pc := 4) (tgt := 19) dX9_mid_4 (by decide) (fun c_4 => ?_) (fun c_4 => ?_)
  · refine g_iconst (pc := 19) (v := -1) dX9_mid_19 (by decide) ?_
    exact g_iret (pc := 20) hM rfl rfl ⟨rfl, rfl⟩ dX9_mid_20
  · refine g_iload_n (pc := 7) dX9_mid_7 2 rfl rfl ?_
    refine g_i2l (pc := 8) dX9_mid_8 ?_
    refine g_lconst (pc := 9) (v := 0) dX9_mid_9 (by decide) ?_
    refine g_ldc2 (pc := 10) kw_X9_226 dX9_mid_10 ?_
    refine g_invS (pc := 13) j_X9_in mw_X9_62 dX9_mid_13 (by rfl) (c_X9_in E S q.toInt64 0 12 ) (Nat.le_of_ble_eq_true rfl) (Nat.le_of_ble_eq_true rfl) (by rfl) (Nat.le_of_ble_eq_true rfl) ?_
    refine g_b_ne (pc := 16) (tgt := 21) dX9_mid_16 (by decide) (fun c_16 => ?_) (fun c_16 => ?_)
    · exact absurd ⟨c_4, c_16⟩ h
    · refine g_iconst (pc := 19) (v := -1) dX9_mid_19 (by decide) ?_
      exact g_iret (pc := 20) hM rfl rfl ⟨rfl, rfl⟩ dX9_mid_20
set_option maxRecDepth 100000 in
set_option maxHeartbeats 4000000 in
theorem c_X9_mid_no (E : En) (S : St) (p q : Int32) (hr : (placeF p = true ∧ inF q.toInt64 0 12 = true)) (h : gA S 59 0 = 0) : CTe E i_X9_mid S [.ref (eA E 58), .int p, .int q] S (some (.int (-4))) := by
  refine ct_of [(0, .ref (eA E 58)), (1, .int p), (2, .int q)] (by decide +kernel) (Nat.le_of_ble_eq_true rfl) rfl (fun X hM => ?_)
  refine g_iload_n (pc := 0) dX9_mid_0 1 rfl rfl ?_
  refine g_invS (pc := 1) j_X9_isPlace mw_X9_156 dX9_mid_1 (by rfl) (c_X9_isPlace E S p ) (Nat.le_of_ble_eq_true rfl) (Nat.le_of_ble_eq_true rfl) (by rfl) (Nat.le_of_ble_eq_true rfl) ?_
  refine g_b_eq (pc := 4) (tgt := 19) dX9_mid_4 (by decide) (fun c_4 => ?_) (fun c_4 => ?_)
  · exact absurd (hr.1.symm.trans c_4) (by decide)
  · refine g_iload_n (pc := 7) dX9_mid_7 2 rfl rfl ?_
    refine g_i2l (pc := 8) dX9_mid_8 ?_
    refine g_lconst (pc := 9) (v := 0) dX9_mid_9 (by decide) ?_
    refine g_ldc2 (pc := 10) kw_X9_226 dX9_mid_10 ?_
    refine g_invS (pc := 13) j_X9_in mw_X9_62 dX9_mid_13 (by rfl) (c_X9_in E S q.toInt64 0 12 ) (Nat.le_of_ble_eq_true rfl) (Nat.le_of_ble_eq_true rfl) (by rfl) (Nat.le_of_ble_eq_true rfl) ?_
    refine g_b_ne (pc := 16) (tgt := 21) dX9_mid_16 (by decide) (fun c_16 => ?_) (fun c_16 => ?_)
    · refine g_aload_n (pc := 21) dX9_mid_21 0 rfl rfl ?_
      refine gf_X9_7 (pc := 22) rfl dX9_mid_22 ?_
      refine g_iconst (pc := 25) (v := 0) dX9_mid_25 (by decide) ?_
      refine g_iald (pc := 26) 0 rfl rfl (by decide) (by decide) dX9_mid_26 ?_
      refine g_if_ne (pc := 27) (tgt := 35) dX9_mid_27 (by decide) (fun c_27 => ?_) (fun c_27 => ?_)
      · exact absurd h c_27
      · refine g_bipush (pc := 30) (v := -4) dX9_mid_30 (by decide) ?_
        refine g_goto (pc := 32) (tgt := 43) dX9_mid_32 (by decide) ?_
        exact g_iret (pc := 43) hM rfl rfl ⟨rfl, rfl⟩ dX9_mid_43
    · exact absurd (hr.2.symm.trans c_16) (by decide)
set_option maxRecDepth 100000 in
set_option maxHeartbeats 4000000 in
theorem c_X9_mid_ok (E : En) (S : St) (p q : Int32) (hz : okM S)(hr : (placeF p = true ∧ inF q.toInt64 0 12 = true)) (h0 : ¬ gA S 59 0 = 0) (he : gdE 200 (chM S p (-9) q (2 ^ nM S)) (toM S (nM S)) = true) (h : ¬ gdF (chM S p (-9) q (2 ^ nM S)) (toM S (nM S)) = 0) : CTe E i_X9_mid S [.ref (eA E 58), .int p, .int q] (twS S (chM S p (-9) q (2 ^ nM S)) (toM S (nM S))) (some (.int 1)) := by
  refine ct_of [(0, .ref (eA E 58)), (1, .int p), (2, .int q)] (by decide +kernel) (Nat.le_of_ble_eq_true rfl) rfl (fun X hM => ?_)
  refine g_iload_n (pc := 0) dX9_mid_0 1 rfl rfl ?_
  refine g_invS (pc := 1) j_X9_isPlace mw_X9_156 dX9_mid_1 (by rfl) (c_X9_isPlace E S p ) (Nat.le_of_ble_eq_true rfl) (Nat.le_of_ble_eq_true rfl) (by rfl) (Nat.le_of_ble_eq_true rfl) ?_
  refine g_b_eq (pc := 4) (tgt := 19) dX9_mid_4 (by decide) (fun c_4 => ?_) (fun c_4 => ?_)
  · exact absurd (hr.1.symm.trans c_4) (by decide)
  · refine g_iload_n (pc := 7) dX9_mid_7 2 rfl rfl ?_
    refine g_i2l (pc := 8) dX9_mid_8 ?_
    refine g_lconst (pc := 9) (v := 0) dX9_mid_9 (by decide) ?_
    refine g_ldc2 (pc := 10) kw_X9_226 dX9_mid_10 ?_
    refine g_invS (pc := 13) j_X9_in mw_X9_62 dX9_mid_13 (by rfl) (c_X9_in E S q.toInt64 0 12 ) (Nat.le_of_ble_eq_true rfl) (Nat.le_of_ble_eq_true rfl) (by rfl) (Nat.le_of_ble_eq_true rfl) ?_
    refine g_b_ne (pc := 16) (tgt := 21) dX9_mid_16 (by decide) (fun c_16 => ?_) (fun c_16 => ?_)
    · refine g_aload_n (pc := 21) dX9_mid_21 0 rfl rfl ?_
      refine gf_X9_7 (pc := 22) rfl dX9_mid_22 ?_
      refine g_iconst (pc := 25) (v := 0) dX9_mid_25 (by decide) ?_
      refine g_iald (pc := 26) 0 rfl rfl (by decide) (by decide) dX9_mid_26 ?_
      refine g_if_ne (pc := 27) (tgt := 35) dX9_mid_27 (by decide) (fun c_27 => ?_) (fun c_27 => ?_)
      · refine g_aload_n (pc := 35) dX9_mid_35 0 rfl rfl ?_
        refine g_iload_n (pc := 36) dX9_mid_36 1 rfl rfl ?_
        refine g_bipush (pc := 37) (v := -9) dX9_mid_37 (by decide) ?_
        refine g_iload_n (pc := 39) dX9_mid_39 2 rfl rfl ?_
        refine g_invV (pc := 40) j_X9_chances mw_X9_232 dX9_mid_40 (rcv_X9) (by rfl) (c_X9_chances E S p (-9) q (by first | assumption | omega | rfl) (by first | assumption | omega | rfl) (by first | assumption | omega | rfl)) (Nat.le_of_ble_eq_true rfl) (Nat.le_of_ble_eq_true rfl) (by rfl) (Nat.le_of_ble_eq_true rfl) ?_
        exact g_iret (pc := 43) hM rfl rfl ⟨rfl, rfl⟩ dX9_mid_43
      · exact absurd c_27 h0
    · exact absurd (hr.2.symm.trans c_16) (by decide)
set_option maxRecDepth 100000 in
set_option maxHeartbeats 4000000 in
theorem c_X9_betters (E : En) (S : St) (i : Nat) (hi : i < 4) : CTe E i_X9_betters S [.ref (eA E 58), .int (nI i)] (sA S 71 (upd (gA S 71) i (beF S i))) none := by
  refine ct_of [(0, .ref (eA E 58)), (1, .int (nI i))] (by decide +kernel) (Nat.le_of_ble_eq_true rfl) rfl (fun X hM => ?_)
  refine g_aload_n (pc := 0) dX9_betters_0 0 rfl rfl ?_
  refine gf_X9_50 (pc := 1) rfl dX9_betters_1 ?_
  refine g_iload_n (pc := 4) dX9_betters_4 1 rfl rfl ?_
  refine g_iconst (pc := 5) (v := 1) dX9_betters_5 (by decide) ?_
  refine g_iadd (pc := 6) dX9_betters_6 ?_
  refine g_iald (pc := 7) (i + 1) (nI_aE rfl rfl) rfl (show i + 1 < 5 by omega) (by decide) dX9_betters_7 ?_
  refine g_istore_n (pc := 8) (L' := [(2, .int (gA S 71 (i + 1))), (0, .ref (eA E 58)), (1, .int (nI i))]) dX9_betters_8 rfl (Nat.le_of_ble_eq_true rfl) rfl ?_
  refine g_iload_n (pc := 9) dX9_betters_9 2 rfl rfl ?_
  refine g_iconst (pc := 10) (v := 2) dX9_betters_10 (by decide) ?_
  refine g_irem (pc := 11) dX9_betters_11 (by decide) ?_
  rw [rem2 (by omega)]
  refine g_if_ne (pc := 12) (tgt := 19) dX9_betters_12 (by decide) (fun c_12 => ?_) (fun c_12 => ?_)
  · refine g_iconst (pc := 19) (v := 0) dX9_betters_19 (by decide) ?_
    refine g_istore_n (pc := 20) (L' := [(3, .int 0), (2, .int (gA S 71 (i + 1))), (0, .ref (eA E 58)), (1, .int (nI i))]) dX9_betters_20 rfl (Nat.le_of_ble_eq_true rfl) rfl ?_
    refine g_aload_n (pc := 21) dX9_betters_21 2 rfl rfl ?_
    refine gf_X9_50 (pc := 22) rfl dX9_betters_22 ?_
    refine g_iload_n (pc := 25) dX9_betters_25 3 rfl rfl ?_
    refine g_aload_n (pc := 26) dX9_betters_26 2 rfl rfl ?_
    refine gf_X9_50 (pc := 27) rfl dX9_betters_27 ?_
    refine g_iload_n (pc := 30) dX9_betters_30 3 rfl rfl ?_
    refine g_iald (pc := 31) i rfl rfl (show i < 5 by omega) (by decide) dX9_betters_31 ?_
    refine g_bipush (pc := 32) (v := -9) dX9_betters_32 (by decide) ?_
    refine g_icmp_eq (pc := 34) (tgt := 64) dX9_betters_34 (by decide) (fun c_34 => ?_) (fun c_34 => ?_)
    · refine g_iload_n (pc := 64) dX9_betters_64 1 rfl rfl ?_
      refine g_goto (pc := 65) (tgt := 74) dX9_betters_65 (by decide) ?_
      refine g_iast (pc := 74) i rfl rfl (show i < 5 by omega) (by decide) dX9_betters_74 ?_
      exact g_vret (pc := 75) hM rfl ⟨by rw [show beF S i = _ from rfl, beF, if_pos c_34], rfl⟩ dX9_betters_75
    · refine g_iload_n (pc := 37) dX9_betters_37 0 rfl rfl ?_
      refine g_if_eq (pc := 38) (tgt := 54) dX9_betters_38 (by decide) (fun c_38 => ?_) (fun c_38 => ?_)
      · refine g_iload_n (pc := 54) dX9_betters_54 1 rfl rfl ?_
        refine g_aload_n (pc := 55) dX9_betters_55 2 rfl rfl ?_
        refine gf_X9_50 (pc := 56) rfl dX9_betters_56 ?_
        refine g_iload_n (pc := 59) dX9_betters_59 3 rfl rfl ?_
        refine g_iald (pc := 60) i rfl rfl (show i < 5 by omega) (by decide) dX9_betters_60 ?_
        refine g_icmp_le (pc := 61) (tgt := 68) dX9_betters_61 (by decide) (fun c_61 => ?_) (fun c_61 => ?_)
        · have k_61 := Int32.not_lt.mpr c_61
          refine g_aload_n (pc := 68) dX9_betters_68 2 rfl rfl ?_
          refine gf_X9_50 (pc := 69) rfl dX9_betters_69 ?_
          refine g_iload_n (pc := 72) dX9_betters_72 3 rfl rfl ?_
          refine g_iald (pc := 73) i rfl rfl (show i < 5 by omega) (by decide) dX9_betters_73 ?_
          refine g_iast (pc := 74) i rfl rfl (show i < 5 by omega) (by decide) dX9_betters_74 ?_
          exact g_vret (pc := 75) hM rfl ⟨by rw [show beF S i = _ from rfl, beF, if_neg c_34, if_neg (fun q => c_12 ((nI_eq (b := 0) (by omega) (by omega)).mpr q)), if_pos c_61], rfl⟩ dX9_betters_75
        · have k_61 := Int32.not_le.mp c_61
          refine g_iload_n (pc := 64) dX9_betters_64 1 rfl rfl ?_
          refine g_goto (pc := 65) (tgt := 74) dX9_betters_65 (by decide) ?_
          refine g_iast (pc := 74) i rfl rfl (show i < 5 by omega) (by decide) dX9_betters_74 ?_
          exact g_vret (pc := 75) hM rfl ⟨by rw [show beF S i = _ from rfl, beF, if_neg c_34, if_neg (fun q => c_12 ((nI_eq (b := 0) (by omega) (by omega)).mpr q)), if_neg c_61], rfl⟩ dX9_betters_75
      · exact absurd c_38 (by decide)
  · refine g_iconst (pc := 15) (v := 1) dX9_betters_15 (by decide) ?_
    refine g_goto (pc := 16) (tgt := 20) dX9_betters_16 (by decide) ?_
    refine g_istore_n (pc := 20) (L' := [(3, .int 1), (2, .int (gA S 71 (i + 1))), (0, .ref (eA E 58)), (1, .int (nI i))]) dX9_betters_20 rfl (Nat.le_of_ble_eq_true rfl) rfl ?_
    refine g_aload_n (pc := 21) dX9_betters_21 2 rfl rfl ?_
    refine gf_X9_50 (pc := 22) rfl dX9_betters_22 ?_
    refine g_iload_n (pc := 25) dX9_betters_25 3 rfl rfl ?_
    refine g_aload_n (pc := 26) dX9_betters_26 2 rfl rfl ?_
    refine gf_X9_50 (pc := 27) rfl dX9_betters_27 ?_
    refine g_iload_n (pc := 30) dX9_betters_30 3 rfl rfl ?_
    refine g_iald (pc := 31) i rfl rfl (show i < 5 by omega) (by decide) dX9_betters_31 ?_
    refine g_bipush (pc := 32) (v := -9) dX9_betters_32 (by decide) ?_
    refine g_icmp_eq (pc := 34) (tgt := 64) dX9_betters_34 (by decide) (fun c_34 => ?_) (fun c_34 => ?_)
    · refine g_iload_n (pc := 64) dX9_betters_64 1 rfl rfl ?_
      refine g_goto (pc := 65) (tgt := 74) dX9_betters_65 (by decide) ?_
      refine g_iast (pc := 74) i rfl rfl (show i < 5 by omega) (by decide) dX9_betters_74 ?_
      exact g_vret (pc := 75) hM rfl ⟨by rw [show beF S i = _ from rfl, beF, if_pos c_34], rfl⟩ dX9_betters_75
    · refine g_iload_n (pc := 37) dX9_betters_37 0 rfl rfl ?_
      refine g_if_eq (pc := 38) (tgt := 54) dX9_betters_38 (by decide) (fun c_38 => ?_) (fun c_38 => ?_)
      · exact absurd c_38 (by decide)
      · refine g_iload_n (pc := 41) dX9_betters_41 1 rfl rfl ?_
        refine g_aload_n (pc := 42) dX9_betters_42 2 rfl rfl ?_
        refine gf_X9_50 (pc := 43) rfl dX9_betters_43 ?_
        refine g_iload_n (pc := 46) dX9_betters_46 3 rfl rfl ?_
        refine g_iald (pc := 47) i rfl rfl (show i < 5 by omega) (by decide) dX9_betters_47 ?_
        refine g_icmp_ge (pc := 48) (tgt := 68) dX9_betters_48 (by decide) (fun c_48 => ?_) (fun c_48 => ?_)
        · have k_48 := Int32.not_lt.mpr c_48
          refine g_aload_n (pc := 68) dX9_betters_68 2 rfl rfl ?_
          refine gf_X9_50 (pc := 69) rfl dX9_betters_69 ?_
          refine g_iload_n (pc := 72) dX9_betters_72 3 rfl rfl ?_
          refine g_iald (pc := 73) i rfl rfl (show i < 5 by omega) (by decide) dX9_betters_73 ?_
          refine g_iast (pc := 74) i rfl rfl (show i < 5 by omega) (by decide) dX9_betters_74 ?_
          exact g_vret (pc := 75) hM rfl ⟨by rw [show beF S i = _ from rfl, beF, if_neg c_34, if_pos ((nI_eq (b := 0) (by omega) (by omega)).mp c_12), if_pos c_48], rfl⟩ dX9_betters_75
        · have k_48 := Int32.not_le.mp c_48
          refine g_goto (pc := 51) (tgt := 64) dX9_betters_51 (by decide) ?_
          refine g_iload_n (pc := 64) dX9_betters_64 1 rfl rfl ?_
          refine g_goto (pc := 65) (tgt := 74) dX9_betters_65 (by decide) ?_
          refine g_iast (pc := 74) i rfl rfl (show i < 5 by omega) (by decide) dX9_betters_74 ?_
          exact g_vret (pc := 75) hM rfl ⟨by rw [show beF S i = _ from rfl, beF, if_neg c_34, if_pos ((nI_eq (b := 0) (by omega) (by omega)).mp c_12), if_neg c_48], rfl⟩ dX9_betters_75
