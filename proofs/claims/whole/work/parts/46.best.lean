/-! scratch: what may change without a trace -/
abbrev Ls : List Nat := [26, 27, 28, 30, 31, 32, 33, 34, 35, 37, 39, 40, 56, 57, 58, 60, 61, 62, 63]
abbrev Fs : List (Nat × Nat) := [(25, 4), (25, 5), (25, 6), (25, 7), (29, 8), (29, 9), (29, 10), (29, 11), (29, 12), (29, 13), (29, 14), (29, 15), (29, 16), (38, 4), (41, 1), (43, 14), (43, 19), (43, 20), (43, 21), (43, 24), (43, 25), (43, 26), (43, 29), (43, 30), (43, 31), (43, 32), (43, 33), (43, 38), (43, 39), (43, 40), (43, 41)]
theorem HH_sc {N V K : Nat} {S S' : sS} (f : fr Ls Fs S S') (H : HH N V K S) : HH N V K S' := HH_ag (fr_ag f (by decide)) H
theorem bst_sc {N V K : Nat} {S S' : sS} (f : fr Ls Fs S S') : bst N V K S' = bst N V K S := bst_ag (fr_ag f (by decide))
theorem tw_sc {S S' : sS} (f : fr Ls Fs S S') : tw S' = tw S := tw_ag (fr_ag f (by decide))
theorem two_sc {S S1 S2 : sS} {o : sR} {f : sS → sR} {a : Int32} {N V K : Nat} (R : Rel S) (H : HH N V K S) (ho : o = some (some (.int a), S1)) (hf : f S1 = some (some (.int a), S2)) (fs : fr Ls Fs S S2) (C : RC N V K S2) (M : RM N V K S2) : Two o f := by
  obtain ⟨N', V', K', H', B, E, I, A, _, _⟩ := R
  have eN : N' = N := nI_inj (by have := H'.1.2.1; omega) (by have := H.1.2.1; omega) (H'.1.1.symm.trans H.1.1)
  subst eN
  refine ⟨a, S1, S2, ho, hf, N', V, K, HH_sc fs H, RB_ag (fr_ag fs (by decide)) B, ?_, RI_ag (fr_ag fs (by decide)) I, RA_ag (fr_ag fs (by decide)) A, C, M⟩
  rw [fr_cell fs 44 (by decide) (by decide), fr_cell fs 42 (by decide) (by decide)]; exact E
/-- the class's side, all sifted -/
def CF (N V K : Nat) (S0 S : sS) : Prop := fr Ls Fs S0 S ∧ HH N V K S ∧ FJ N V S ∧ BOK N V K S ∧ RC N V K S ∧ bst N V K S = bst N V K S0
theorem lack_c {S : sS} (R : Rel S) (X : sX) : ∃ N V K S1, HH N V K S ∧ RM N V K S ∧ Cal X 138 [.ref 0] S = some (some (.int (bI (decide ((bst N V K S).2.length = 0)))), S1) ∧ CF N V K S S1 ∧ RM N V K S1 := by
  obtain ⟨N, V, K, H, B, E, I, A, C, M⟩ := R
  obtain ⟨S1, e, f, F, g, C1⟩ := lacks_ok H C X
  have f' : fr Ls Fs S S1 := fr_mono f (by decide) (by decide)
  exact ⟨N, V, K, S1, H, M, e, ⟨f', HH_sc f' H, F, g, C1, bst_sc f'⟩, RM_ag (fr_ag f (by decide)) M⟩
/-- the other's side, all found: from any state with the same house -/
theorem find_m {N V K : Nat} {S0 S : sS} (f : fr Ls Fs S0 S) (H : HH N V K S) (M : RM N V K S) (X : sX) : ∃ T, Cal X 187 [.ref 43] S = some (none, T) ∧ fr [56, 57, 58] [(43, 14), (43, 19), (43, 20), (43, 21), (43, 24), (43, 25), (43, 26)] S T ∧ fr Ls Fs S0 T ∧ QOK N V K T ∧ RM N V K T := by
  obtain ⟨T, e, f', g1, g2⟩ := finds_ok H M X
  exact ⟨T, e, f', fr_trans f (fr_mono f' (by decide) (by decide)), g2, Or.inr ⟨g1, g2⟩⟩
theorem first_m {N V K : Nat} {S0 S : sS} (f : fr Ls Fs S0 S) (H : HH N V K S) (M : RM N V K S) (X : sX) : ∃ T, Cal X 190 [.ref 43] S = some (some (.int (bI (decide (0 < (bst N V K S).2.length)))), T) ∧ fr [56, 57, 58] [(43, 14), (43, 19), (43, 20), (43, 21), (43, 24), (43, 25), (43, 26)] S T ∧ fr Ls Fs S0 T ∧ QOK N V K T ∧ RM N V K T ∧ (0 < (bst N V K S).2.length → RH N ((bst N V K S).2.getD 0 []) T) := by
  obtain ⟨T, e, f', g1, g2, g3⟩ := first_ok H M X
  exact ⟨T, e, f', fr_trans f (fr_mono f' (by decide) (by decide)), g2, Or.inr ⟨g1, g2⟩, g3⟩
theorem RC_x {N V K : Nat} {S S' : sS} (f : fr [35, 37, 39, 40, 56, 57, 58, 60, 61, 62, 63] [(25, 5), (25, 6), (25, 7), (29, 8), (38, 4), (41, 1), (43, 14), (43, 19), (43, 20), (43, 21), (43, 24), (43, 25), (43, 26), (43, 29), (43, 30), (43, 31), (43, 32), (43, 33), (43, 38), (43, 39), (43, 40), (43, 41)] S S') (C : RC N V K S) : RC N V K S' := RC_ag (fr_ag f (by decide)) C
theorem RM_x {N V K : Nat} {S S' : sS} (f : fr [35, 37, 39, 40, 56, 60, 61, 62, 63] [(25, 5), (25, 6), (25, 7), (29, 8), (38, 4), (41, 1), (43, 19), (43, 20), (43, 21), (43, 29), (43, 30), (43, 31), (43, 32), (43, 33), (43, 38), (43, 39), (43, 40), (43, 41)] S S') (C : RM N V K S) : RM N V K S' := RM_ag (fr_ag f (by decide)) C
theorem bestAt_ok {N V K : Nat} {S : sS} (hN : N ≤ 7) (hV : V ≤ 24) (h : BOK N V K S) {i : Nat} (hi : i < (bst N V K S).2.length) (X : sX) : Cal X 66 [.ref 29, .int (nI i)] S = some (some (.int (nI (pk ((bst N V K S).2.getD i [])))), S) := by
  have hb := (bst_b (N := N) (V := V) (K := K) (S := S) hN hV).1
  rw [C_X5_bestAt, if_neg (nI_pos (by omega)), h.1, if_neg (nI_ge hi (by omega)), ix_nI (by omega) (by decide), h.2.2 i hi]
theorem c_best {S : sS} (R : Rel S) (X : sX) (p1 : Int32) : Two (Cal X 116 [.ref 0, .int p1] S) (fun S => Cal X 196 [.ref 43, .int p1] S) := by
  by_cases r : p1 = 0 ∨ p1 = 1
  case neg =>
    have h0 : ¬ p1 = 0 := fun q => r (Or.inl q)
    have h1 : ¬ p1 = 1 := fun q => r (Or.inr q)
    rw [C_X8_best, if_neg h0, if_neg h1, rf_2, cI_ok]
    refine two_rf R ?_
    show Cal X 196 _ (rfu S 2) = _
    rw [C_X9_best, mI_n, cI_ok, if_pos rfl, no_2, cI_ok]
    rcases pk_ix p1 (n := 2) (by decide) with q | q | ⟨j, hj, rfl⟩
    · exact Or.inl q
    · exact Or.inr (lt_nI_le (n := 1) q (by decide))
    · exfalso
      rcases (show j = 0 ∨ j = 1 by omega) with rfl | rfl
      · exact h0 rfl
      · exact h1 rfl
  obtain ⟨N, V, K, S1, H, M, e, ⟨f1, H1, F, g, C1, eb⟩, M1⟩ := lack_c R X
  have hN := H.1.2.1
  have hV := H.1.2.2.2.1
  have hb := (bst_b (N := N) (V := V) (K := K) (S := S) hN hV).1
  have ec : Cal X 116 [.ref 0, .int p1] S = cI (Cal X 138 [.ref 0] S) fun r2 S1 => if r2 = 0 then (if p1 = 0 then (cI (Cal X 65 [.ref 29] S1) fun r4 S3 => some (some (.int r4), S3)) else cI (Cal X 64 [.ref 29] S1) fun r6 S5 => some (some (.int r6), S5)) else some (some (.int (-9)), S1) := by
    rw [C_X8_best]
    rcases r with h | h
    · rw [if_pos h]
    · rw [if_neg (by rw [h]; decide), if_pos h]
  have hin : Cal X 150 [.int p1, .int 0, .int 1] S1 = some (some (.int 1), S1) := by
    rcases r with h | h <;> rw [h] <;> exact mI_y (by decide) (by decide) X S1
  obtain ⟨T, e2, f2, fA, Q, MT⟩ := find_m f1 H1 M1 X
  have CT : RC N V K T := RC_x (fr_mono f2 (by decide) (by decide)) C1
  obtain ⟨q1, q2, -, -, -⟩ := Q
  rw [bst_sc fA] at q1 q2
  obtain ⟨g1, g2, -⟩ := g
  rw [eb] at g1 g2
  by_cases hl : (bst N V K S).2.length = 0
  · refine two_sc (a := -9) (S1 := S1) R H ?_ ?_ fA CT MT
    · rw [ec, e, cI_ok, hl, if_neg (by decide)]
    · show Cal X 196 _ S1 = _
      rw [C_X9_best, hin, cI_ok, if_neg (by decide), e2, cV_ok, q1, hl, if_pos nI_0]
  · have hpos : 0 < (bst N V K S).2.length := by omega
    have hne : (bst N V K S).2 ≠ [] := List.length_pos_iff.mp hpos
    rcases r with h | h
    · refine two_sc (a := nI (bst N V K S).1) (S1 := S1) R H ?_ ?_ fA CT MT
      · rw [ec, e, cI_ok, decide_eq_false hl, if_pos (show bI false = 0 from rfl), if_pos h, C_X5_leastWrong, cI_ok, g2]
      · show Cal X 196 _ S1 = _
        rw [C_X9_best, hin, cI_ok, if_neg (by decide), e2, cV_ok, q1, if_neg (nI_ne0 hpos (by omega)), if_pos h, q2 hne]
    · have h0 : ¬ p1 = 0 := by rw [h]; decide
      refine two_sc (a := nI (bst N V K S).2.length) (S1 := S1) R H ?_ ?_ fA CT MT
      · rw [ec, e, cI_ok, decide_eq_false hl, if_pos (show bI false = 0 from rfl), if_neg h0, C_X5_bestOnes, cI_ok, g1]
      · show Cal X 196 _ S1 = _
        rw [C_X9_best, hin, cI_ok, if_neg (by decide), e2, cV_ok, q1, if_neg (nI_ne0 hpos (by omega)), if_neg h0]
theorem in_range {x : Int32} {n : Nat} (hn : n < 2 ^ 31) (X : sX) (S : sS) : (∃ j, j < n ∧ x = nI j ∧ Cal X 150 [.int x, .int 0, .int (nI n - 1)] S = some (some (.int 1), S)) ∨ ((x < 0 ∨ nI n ≤ x) ∧ Cal X 150 [.int x, .int 0, .int (nI n - 1)] S = some (some (.int 0), S)) := by
  rcases pk_ix2 x hn with q | ⟨j, hj, rfl⟩
  · right
    refine ⟨q, mI_n ?_ X S⟩
    rcases q with q | q
    · exact Or.inl q
    · right
      refine Int32.lt_of_lt_of_le ?_ q
      cases n with
      | zero => decide
      | succ n => rw [nI_pred]; exact nI_lt (by omega) hn
  · left
    refine ⟨j, hj, rfl, mI_y (nI_pos (by omega)) ?_ X S⟩
    rw [l1, pk_sub (by omega)]
    exact nI_nlt (by omega) (by omega)
theorem c_row {S : sS} (R : Rel S) (X : sX) (p1 p2 : Int32) : Two (Cal X 117 [.ref 0, .int p1, .int p2] S) (fun S => Cal X 197 [.ref 43, .int p1, .int p2] S) := by
  obtain ⟨N, V, K, S1, H, M, e, ⟨f1, H1, F, g, C1, eb⟩, M1⟩ := lack_c R X
  have hN := H.1.2.1
  have hV := H.1.2.2.2.1
  have hb := (bst_b (N := N) (V := V) (K := K) (S := S) hN hV).1
  obtain ⟨T, e2, f2, fA, Q, MT⟩ := find_m f1 H1 M1 X
  have CT : RC N V K T := RC_x (fr_mono f2 (by decide) (by decide)) C1
  obtain ⟨q1, q2, q3, -, -⟩ := Q
  rw [bst_sc fA] at q1 q2 q3
  obtain ⟨g1, -, -⟩ := id g
  rw [eb] at g1
  have t11 : T 43 11 = nI N := (HH_sc fA H).2.2.2.1
  rcases in_range (x := p1) (n := (bst N V K S).2.length) (by omega) X T with ⟨i, hi, rfl, ei⟩ | ⟨hq, ei⟩
  · have hl : ¬ (bst N V K S).2.length = 0 := by omega
    rcases in_range (x := p2) (n := N) (by omega) X T with ⟨j, hj, rfl, ej⟩ | ⟨hq2, ej⟩
    · have hr := bst_get (N := N) (V := V) (K := K) (S := S) hN hV hi
      refine two_sc (a := nI (((bst N V K S).2.getD i []).getD j 0)) (S1 := S1) R H ?_ ?_ fA CT MT
      · rw [C_X8_row, e, cI_ok, decide_eq_false hl, if_pos (show bI false = 0 from rfl), if_neg (nI_pos (by omega)), C_X5_bestOnes, cI_ok, g1, if_neg (nI_ge hi (by omega)), if_neg (nI_pos (by omega)), C_X1_members, cI_ok, H1.1.1, if_pos (nI_lt hj (by omega)), bestAt_ok hN hV g (by rw [eb]; exact hi), cI_ok, eb, at_ok (row_lt8 hr hN) (by rw [hr.1]; exact hN) (by omega), cI_ok]
      · show Cal X 197 _ S1 = _
        rw [C_X9_row, e2, cV_ok, q1, ei, cI_ok, if_neg (by decide), t11, ej, cI_ok, if_neg (by decide), l7, pk_mul, nI_add, ix_nI (by omega) (by decide), q3 i hi j hj]
    · refine two_sc (a := -9) (S1 := S1) R H ?_ ?_ fA CT MT
      · rw [C_X8_row, e, cI_ok, decide_eq_false hl, if_pos (show bI false = 0 from rfl), if_neg (nI_pos (by omega)), C_X5_bestOnes, cI_ok, g1, if_neg (nI_ge hi (by omega))]
        by_cases c : p2 < 0
        · rw [if_pos c]
        · rw [if_neg c, C_X1_members, cI_ok, H1.1.1, if_neg (Int32.not_lt.mpr (hq2.resolve_left c))]
      · show Cal X 197 _ S1 = _
        rw [C_X9_row, e2, cV_ok, q1, ei, cI_ok, if_neg (by decide), t11, ej, cI_ok, if_pos rfl]
  · refine two_sc (a := -9) (S1 := S1) R H ?_ ?_ fA CT MT
    · rw [C_X8_row, e, cI_ok]
      by_cases hl : (bst N V K S).2.length = 0
      · rw [hl, if_neg (by decide)]
      · rw [decide_eq_false hl, if_pos (show bI false = 0 from rfl)]
        by_cases c : p1 < 0
        · rw [if_pos c]
        · rw [if_neg c, C_X5_bestOnes, cI_ok, g1, if_pos (hq.resolve_left c)]
    · show Cal X 197 _ S1 = _
      rw [C_X9_row, e2, cV_ok, q1, ei, cI_ok, if_pos rfl]
/-! odd votes -/
theorem oddOf_ok {N V K c : Nat} {S T : sS} {r : List Nat} (H : HH N V K S) (hr : RowOK N r) (f : fr Ls Fs S T) (hR : RH N r T) (hc : c ≤ 3) (X : sX) : ∃ T', Cal X 210 [.ref 43, .int (nI c)] T = some (some (.int (nI (mkW S V r c))), T') ∧ fr [] [(43, 19), (43, 20), (43, 21)] T T' := by
  obtain ⟨HDT, k1, k2, m1, m2, m3, k3, k4, k5⟩ := HH_sc f H
  have hN := HDT.2.1
  have hV := HDT.2.2.2.1
  have et8 : T 8 = S 8 := fr_cell f 8 (by decide) (by decide)
  have et9 : T 9 = S 9 := fr_cell f 9 (by decide) (by decide)
  rw [C_X9_oddOf]
  obtain ⟨T', f', e⟩ := loop_P (F := fun k U => Run X 210 4 [some (.ref 43), some (.int (nI c)), some (.int (nI (mkW S k r c))), some (.int (nI k))] [] U) (P := fun _ U => fr [] [(43, 19), (43, 20), (43, 21)] T U) V (by
    intro k hk U f
    obtain ⟨y, n, -, -, hy, hn, hd, e8, e9, e8', e9'⟩ := vote_y HDT hk
    obtain ⟨g1, g2, -⟩ := k4 k hk
    have u56 : RH N r U := fun j hj => by rw [fr_cell f 56 (by decide) (by decide)]; exact hR j hj
    obtain ⟨U', e, f', -⟩ := wrongOf_ok hr hN hy hn hd X U (by rw [fr_fld f 43 11 (by decide) (by decide)]; exact m1) u56
    refine ⟨U', fr_trans f f', ?_⟩
    have ec : ctw (nv (S 8 k)) (nv (S 9 k)) r = ctw y n r := by rw [← et8, ← et9, e8', e9']
    have ew : mkW S (k + 1) r c = mkW S k r c ||| (bif decide (c ≤ ctw (nv (S 8 k)) (nv (S 9 k)) r) then 2 ^ k else 0) := rfl
    have h3 := ctw_le y n r
    show Run X 210 4 _ [] U = Run X 210 4 _ [] U'
    rw [L_X9_oddOf_4, fr_fld f 43 12 (by decide) (by decide), m2, if_neg (nI_ge hk (by omega)), ix_nI (by omega) (by decide), ix_nI (by omega) (by decide), fr_cell f 49 (by decide) (by decide), fr_cell f 50 (by decide) (by decide), g1, g2, e8, e9, e, cI_ok, nI_1, ew, ec]
    by_cases q : c ≤ ctw y n r
    · rw [if_neg (nI_nlt q (by omega)), l1, oShl_1 (by omega), or_nI, decide_eq_true q]
      rfl
    · rw [if_pos (nI_lt (by omega) (by omega)), or0, decide_eq_false q]
      show Run X 210 4 _ [] U' = _
      rw [show (bif false then 2 ^ k else 0) = 0 from rfl, Nat.or_zero]) 0 (Nat.zero_le _) T fr_rfl
  refine ⟨T', Eq.trans e ?_, f'⟩
  show Run X 210 4 _ [] T' = _
  rw [L_X9_oddOf_4, fr_fld f' 43 12 (by decide) (by decide), m2, if_pos (nI_le (Nat.le_refl _) (by omega))]
theorem oddOnes_ok {N V K c : Nat} {S0 S : sS} (hF : CF N V K S0 S) (hl : 0 < (bst N V K S0).2.length) (hc1 : 1 ≤ c) (hc : c ≤ 3) (X : sX) : ∃ S', Cal X 142 [.ref 0, .int (nI c)] S = some (some (.int (nI (mkW S0 V ((bst N V K S0).2.getD 0 []) c))), S') ∧ fr [] [(25, 5), (25, 6), (25, 7)] S S' := by
  obtain ⟨f, H, F, g, C, eb⟩ := hF
  have hN := H.1.2.1
  have hV := H.1.2.2.2.1
  have hr : RowOK N ((bst N V K S0).2.getD 0 []) := by rw [← eb]; exact bst_get (N := N) (V := V) (K := K) (S := S) hN hV (by rw [eb]; exact hl)
  have ba := bestAt_ok hN hV g (i := 0) (by rw [eb]; exact hl) X
  rw [eb] at ba
  have ew : mkW S = mkW S0 := mkW_ag (fr_ag f (by decide))
  rw [C_X8_oddOnes, l0, ba, cI_ok, walk_ok H.1 F.2.1 hr, cV_ok, ew]
  refine ⟨set3 S (nI (mkW S0 V ((bst N V K S0).2.getD 0 []) 1)) (nI (mkW S0 V ((bst N V K S0).2.getD 0 []) 2)) (nI (mkW S0 V ((bst N V K S0).2.getD 0 []) 3)), ?_, fr_set3 S _ _ _⟩
  rw [C_X7_votesWrongBy]
  rcases (show c = 1 ∨ c = 2 ∨ c = 3 by omega) with rfl | rfl | rfl
  · rw [if_pos (show nI 1 = 1 from rfl), cI_ok, set3_5]
  · rw [if_neg (by decide), if_pos (show nI 2 = 2 from rfl), cI_ok, set3_6]
  · rw [if_neg (by decide), if_neg (by decide), if_pos (show nI 3 = 3 from rfl), cI_ok, set3_7]
theorem c_odd {S : sS} (R : Rel S) (X : sX) (p1 : Int32) : Two (Cal X 125 [.ref 0, .int p1] S) (fun S => Cal X 211 [.ref 43, .int p1] S) := by
  rw [C_X8_odd]
  by_cases a1 : 1 ≤ p1
  case neg =>
    rw [if_neg a1, rf_4, cI_ok]
    refine two_rf R ?_
    show Cal X 211 _ (rfu S 4) = _
    rw [C_X9_odd, mO_lo (Int32.not_le.mp a1), cI_ok, if_neg (by decide), no_4, cI_ok]
  rw [if_pos a1]
  by_cases a2 : p1 ≤ 3
  case neg =>
    rw [if_neg a2, rf_6, cI_ok]
    refine two_rf R ?_
    show Cal X 211 _ (rfu S 6) = _
    rw [C_X9_odd, mO_hi a1 (Int32.not_le.mp a2), cI_ok, if_neg (by decide), no_6, cI_ok]
  rw [if_pos a2]
  obtain ⟨c, hc, rfl⟩ : ∃ c, (1 ≤ c ∧ c ≤ 3) ∧ p1 = nI c := by
    rcases pk_ix p1 (n := 4) (by decide) with q | q | ⟨j, hj, rfl⟩
    · exact absurd (Int32.lt_of_lt_of_le q (by decide)) (Int32.not_lt.mpr a1)
    · exact absurd (lt_nI_le (n := 3) q (by decide)) (Int32.not_lt.mpr a2)
    · refine ⟨j, ⟨?_, by omega⟩, rfl⟩
      rcases Nat.eq_zero_or_pos j with rfl | q
      · exact absurd a1 (by decide)
      · exact q
  obtain ⟨N, V, K, S1, H, M, e, CFx, M1⟩ := lack_c R X
  obtain ⟨f1, H1, F, g, C1, eb⟩ := id CFx
  have hN := H.1.2.1
  have hV := H.1.2.2.2.1
  by_cases hl : (bst N V K S).2.length = 0
  · obtain ⟨T, e2, f2, fA, Q, MT, hR⟩ := first_m f1 H1 M1 X
    rw [eb, hl] at e2
    refine two_sc (a := -9) (S1 := S1) R H ?_ ?_ fA (RC_x (fr_mono f2 (by decide) (by decide)) C1) MT
    · rw [e, cI_ok, hl, if_neg (by decide)]
    · show Cal X 211 _ S1 = _
      rw [C_X9_odd, mO_ok a1 a2, cI_ok, if_pos rfl, e2, cI_ok, if_pos (by decide)]
  · have hpos : 0 < (bst N V K S).2.length := by omega
    obtain ⟨S2, e3, f3⟩ := oddOnes_ok CFx hpos hc.1 hc.2 X
    have f2 : fr Ls Fs S S2 := fr_trans f1 (fr_mono f3 (by decide) (by decide))
    obtain ⟨T, e4, f4, fA, Q, MT, hR⟩ := first_m f2 (HH_sc f2 H) (RM_x (fr_mono f3 (by decide) (by decide)) M1) X
    rw [bst_sc f2] at e4 hR
    have hr : RowOK N ((bst N V K S).2.getD 0 []) := bst_get (N := N) (V := V) (K := K) (S := S) hN hV hpos
    obtain ⟨T', e5, f5⟩ := oddOf_ok H hr fA (hR hpos) hc.2 X
    refine two_sc (S1 := S2) (S2 := T') R H ?_ ?_ (fr_trans fA (fr_mono f5 (by decide) (by decide))) (RC_x (fr_trans (fr_mono f3 (by decide) (by decide)) (fr_trans (fr_mono f4 (by decide) (by decide)) (fr_mono f5 (by decide) (by decide)))) C1) (RM_x (fr_mono f5 (by decide) (by decide)) MT) (a := nI (mkW S V ((bst N V K S).2.getD 0 []) c))
    · rw [e, cI_ok, decide_eq_false hl, if_pos (show bI false = 0 from rfl), e3, cI_ok]
    · show Cal X 211 _ S2 = _
      rw [C_X9_odd, mO_ok a1 a2, cI_ok, if_pos rfl, e4, cI_ok, decide_eq_true hpos, if_neg (by decide), e5, cI_ok]
