theorem key_dec {F M Y P K : Nat} (hF : F ≤ 72) (hM : M < 7) (hY : Y < 100) (hP : P < 7) (e : K = 100000 * F + 99999 - (10000 * M + 100 * Y + P)) : K / 100000 = F ∧ (99999 - K % 100000) / 10000 = M ∧ (99999 - K % 100000) / 100 % 100 = Y ∧ (99999 - K % 100000) % 100 = P := by
  have h1 : K = 100000 * F + (99999 - (10000 * M + 100 * Y + P)) := by omega
  have h2 : K / 100000 = F := by omega
  have h3 : K % 100000 = 99999 - (10000 * M + 100 * Y + P) := by omega
  have h4 : 99999 - K % 100000 = 10000 * M + 100 * Y + P := by omega
  rw [h4]
  exact ⟨h2, by omega, by omega, by omega⟩
theorem key_c {K : Nat} {S : sS} (hK : K < 10000000) (h : S 38 4 = nI K) (X : sX) : Cal X 55 [.ref 38] S = some (some (.int (nI (K / 100000))), S) ∧ Cal X 56 [.ref 38] S = some (some (.int (nI ((99999 - K % 100000) / 10000))), S) ∧ Cal X 57 [.ref 38] S = some (some (.int (nI ((99999 - K % 100000) / 100 % 100))), S) ∧ Cal X 58 [.ref 38] S = some (some (.int (nI ((99999 - K % 100000) % 100))), S) := by
  have hc : Cal X 59 [.ref 38] S = some (some (.int (nI (99999 - K % 100000))), S) := by
    rw [C_X4_code, dv_ok (by decide), h, show (100000 : Int32) = nI 100000 from rfl, oRem_nI (by omega) (by decide) (by decide), show (99999 : Int32) = nI 99999 from rfl, pk_sub (by omega)]
  refine ⟨?_, ?_, ?_, ?_⟩
  · rw [C_X4_fall, dv_ok (by decide), h, show (100000 : Int32) = nI 100000 from rfl, pk_div (by omega) (by decide) (by decide)]
  · rw [C_X4_whose, hc, cI_ok, dv_ok (by decide), show (10000 : Int32) = nI 10000 from rfl, pk_div (by omega) (by decide) (by decide)]
  · rw [C_X4_since, hc, cI_ok, dv_ok (by decide), dv_ok (by decide), l100, pk_div (by omega) (by decide) (by decide), oRem_nI (by omega) (by decide) (by decide)]
  · rw [C_X4_whither, hc, cI_ok, dv_ok (by decide), l100, oRem_nI (by omega) (by decide) (by decide)]
theorem c_move {S : sS} (R : Rel S) (X : sX) (p1 : Int32) : Two (Cal X 127 [.ref 0, .int p1] S) (fun S => Cal X 216 [.ref 43, .int p1] S) := by
  rw [C_X8_move]
  by_cases a1 : p1 < 0
  · rw [if_pos a1, rf_2, cI_ok]
    refine two_rf R ?_
    show Cal X 216 _ (rfu S 2) = _
    rw [C_X9_move, mI_n (Or.inl a1), cI_ok, if_pos rfl, no_2, cI_ok]
  rw [if_neg a1]
  by_cases a2 : p1 ≤ 3
  case neg =>
    rw [if_neg a2, rf_2, cI_ok]
    refine two_rf R ?_
    show Cal X 216 _ (rfu S 2) = _
    rw [C_X9_move, mI_n (Or.inr (Int32.not_le.mp a2)), cI_ok, if_pos rfl, no_2, cI_ok]
  rw [if_pos a2]
  obtain ⟨c, hc, rfl⟩ : ∃ c, c ≤ 3 ∧ p1 = nI c := by
    rcases pk_ix p1 (n := 4) (by decide) with q | q | ⟨j, hj, rfl⟩
    · exact absurd q a1
    · exact absurd (lt_nI_le (n := 3) q (by decide)) (Int32.not_lt.mpr a2)
    · exact ⟨j, by omega, rfl⟩
  have mi := fun U => mI_y (x := nI c) (a := 0) (b := 3) a1 (Int32.not_lt.mpr a2) X U
  obtain ⟨N, V, K, S1, H, M, e, CFx, M1⟩ := lack_c R X
  obtain ⟨f1, H1, F, g, C1, eb⟩ := id CFx
  have hN := H.1.2.1
  have hV := H.1.2.2.2.1
  by_cases hl : (bst N V K S).2.length = 0
  · obtain ⟨T, e2, f2, fA, Q, MT, hR⟩ := first_m f1 H1 M1 X
    rw [eb, hl] at e2
    refine two_sc (a := -9) (S1 := S1) R H ?_ ?_ fA (RC_x (fr_mono f2 (by decide) (by decide)) C1) MT
    · rw [e, cI_ok, hl, if_neg (by decide)]
    · show Cal X 216 _ S1 = _
      rw [C_X9_move, mi, cI_ok, if_neg (by decide), C_X9_findMove, e2, cI_ok, if_pos (by decide), cI_ok, if_pos rfl]
  have hpos : 0 < (bst N V K S).2.length := by omega
  have hr : RowOK N ((bst N V K S).2.getD 0 []) := bst_get (N := N) (V := V) (K := K) (S := S) hN hV hpos
  have hb := bestAt_ok (i := 0) hN hV g (by rw [eb]; exact hpos) X
  rw [eb] at hb
  have hb' : Cal X 66 [.ref 29, .int 0] S1 = some (some (.int (nI (pk ((bst N V K S).2.getD 0 [])))), S1) := hb
  obtain ⟨S2, Kk, a1', a2', a3', a4', a5'⟩ := find_c (S0 := S) H1.1 F.2.1 (fr_cell f1 8 (by decide) (by decide)) (fr_cell f1 9 (by decide) (by decide)) (fun v hv => by
    obtain ⟨q1, q2, yy, q3, q4, q5⟩ := H.2.2.2.2.2.2.2.1 v hv
    rw [fr_cell f1 7 (by decide) (by decide), q4, nv_nI (by omega)]
    exact ⟨rfl, q3⟩) hr X
  have f2 : fr Ls Fs S S2 := fr_trans f1 (fr_mono a2' (by decide) (by decide))
  obtain ⟨T, e4, f4, fA, Q, MT, hR⟩ := first_m f2 (HH_sc f2 H) (RM_x (fr_mono a2' (by decide) (by decide)) M1) X
  rw [bst_sc f2] at e4 hR
  have eT : bst N V K T = bst N V K S := bst_sc fA
  obtain ⟨q1, q2, q3, -, -⟩ := id Q
  rw [eT] at q3
  obtain ⟨T', K', b1, b2, b3, b4⟩ := findMove_ok H fA hr (fun j hj => by
    have := q3 0 hpos j hj
    rw [show 7 * 0 + j = j by omega] at this
    exact this) (hR hpos) X
  obtain rfl := Mx_eq b4 a5'
  have fm : Cal X 214 [.ref 43] S2 = some (some (.int (bI (decide (100000 ≤ K')))), T') := by
    rw [C_X9_findMove, e4, cI_ok, decide_eq_true hpos, if_neg (by decide), b1]
  have cl : Cal X 138 [.ref 0] S = some (some (.int 0), S1) := by
    rw [e, decide_eq_false hl]
    rfl
  have fB : fr Ls Fs S T' := fr_trans fA (fr_mono b2 (by decide) (by decide))
  have C2 : RC N V K T' := RC_x (fr_trans (fr_mono a2' (by decide) (by decide)) (fr_trans (fr_mono f4 (by decide) (by decide)) (fr_mono b2 (by decide) (by decide)))) C1
  have M2 : RM N V K T' := RM_x (fr_mono b2 (by decide) (by decide)) MT
  rw [cl, cI_ok, if_pos rfl, hb', cI_ok, a1', cI_ok]
  by_cases hk : 100000 ≤ K'
  case neg =>
    refine two_sc (a := -9) (S1 := S2) R H ?_ ?_ fB C2 M2
    · rw [decide_eq_false hk, if_pos (show bI false = 0 by decide)]
    · show Cal X 216 _ S2 = _
      rw [C_X9_move, mi, cI_ok, if_neg (by decide), fm, cI_ok, decide_eq_false hk, if_pos (show bI false = 0 by decide)]
  obtain ⟨Ff, h1, h2, h3⟩ := id b3
  rcases h3 with ⟨w1, w2⟩ | ⟨w1, Mm, Y, P, t1, t2, t3, w2, w3, w4, w5, w6⟩
  · omega
  obtain ⟨d1, d2, d3, d4⟩ := key_dec h2 w3 w4 w5 w6
  obtain ⟨c1, c2, c3, c4⟩ := key_c a4' a3' X
  rw [d1] at c1
  rw [d2] at c2
  rw [d3] at c3
  rw [d4] at c4
  have pre : ∀ (z : Int32), (if nI c = 0 then (some (some (.int (nI Ff)), T') : sR) else if nI c = 1 then some (some (.int (nI Mm)), T') else if nI c = 2 then some (some (.int (nI Y)), T') else some (some (.int (nI P)), T')) = some (some (.int z), T') → Cal X 216 [.ref 43, .int (nI c)] S2 = some (some (.int z), T') := by
    intro z hz
    rw [C_X9_move, mi, cI_ok, if_neg (by decide), fm, cI_ok, decide_eq_true hk, if_neg (by decide), h1, t1, t2, t3]
    exact hz
  rw [decide_eq_true hk, if_neg (show ¬ bI true = 0 by decide)]
  rcases (show c = 0 ∨ c = 1 ∨ c = 2 ∨ c = 3 by omega) with rfl | rfl | rfl | rfl
  · refine two_sc (a := nI Ff) (S1 := S2) R H ?_ (pre _ rfl) fB C2 M2
    rw [if_pos (by decide), c1, cI_ok]
  · refine two_sc (a := nI Mm) (S1 := S2) R H ?_ (pre _ rfl) fB C2 M2
    rw [if_neg (by decide), if_pos (by decide), c2, cI_ok]
  · refine two_sc (a := nI Y) (S1 := S2) R H ?_ (pre _ rfl) fB C2 M2
    rw [if_neg (by decide), if_neg (by decide), if_pos (by decide), c3, cI_ok]
  · refine two_sc (a := nI P) (S1 := S2) R H ?_ (pre _ rfl) fB C2 M2
    rw [if_neg (by decide), if_neg (by decide), if_neg (by decide), c4, cI_ok]
