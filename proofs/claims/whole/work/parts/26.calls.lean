theorem mO_lo {x a b : Int32} (h : x < a) (X : sX) (S : sS) : Cal X 151 [.int x, .int a, .int b] S = some (some (.int (-4)), S) := by
  rw [C_X9_out, if_neg (Int32.not_le.mpr h)]
theorem mO_hi {x a b : Int32} (h : a ≤ x) (h2 : b < x) (X : sX) (S : sS) : Cal X 151 [.int x, .int a, .int b] S = some (some (.int (-6)), S) := by
  rw [C_X9_out, if_pos h, if_neg (Int32.not_le.mpr h2)]
theorem mO_ok {x a b : Int32} (h : a ≤ x) (h2 : x ≤ b) (X : sX) (S : sS) : Cal X 151 [.int x, .int a, .int b] S = some (some (.int 0), S) := by
  rw [C_X9_out, if_pos h, if_pos h2]
/-- the house after a change of its members' words alone -/
theorem HHm {N V K : Nat} {S T : sS} (H : HH N V K S) (f : ag [7, 8, 9, 10, 11, 48, 49, 50, 51, 52] fH S T) (hm : ∀ m, m < N → T 45 m = T 2 m ∧ T 46 m = T 3 m ∧ T 47 m = T 4 m ∧ ∃ x y, x < 5 ∧ y < 5 ∧ T 5 m = nI x ∧ T 53 m = nI x ∧ T 6 m = nI y ∧ T 54 m = nI y) : HH N V K T := by
  obtain ⟨a, k1, k2, m1, m2, m3, _, k4, k5⟩ := H
  refine ⟨HD_ag (ag_mono f (by decide) (by decide)) a, ?_, k2, ?_, ?_, ?_, hm, ?_, ?_⟩
  · rw [f.2 (1, 2) (by decide)]; exact k1
  · rw [f.2 (43, 11) (by decide)]; exact m1
  · rw [f.2 (43, 12) (by decide)]; exact m2
  · rw [f.2 (43, 13) (by decide)]; exact m3
  · rw [f.1 7 (by decide), f.1 8 (by decide), f.1 9 (by decide), f.1 48 (by decide), f.1 49 (by decide), f.1 50 (by decide)]; exact k4
  · rw [f.1 10 (by decide), f.1 11 (by decide), f.1 51 (by decide), f.1 52 (by decide)]; exact k5
/-- after a change of what is held alone -/
theorem HHk {N V K K' : Nat} {S T : sS} (H : HH N V K S) (f : ag [2, 3, 4, 5, 6, 7, 8, 9, 45, 46, 47, 48, 49, 50, 53, 54] [(1, 0), (1, 1), (43, 11), (43, 12)] S T) (k1 : T 1 2 = nI K') (k2 : K' ≤ 10) (m3 : T 43 13 = nI K') (k5 : ∀ k, k < K' → hd N (T 51 k) (T 52 k) (T 10 k) (T 11 k)) : HH N V K' T := by
  obtain ⟨a, _, _, m1, m2, _, k3, k4, _⟩ := H
  refine ⟨HD_ag (ag_mono f (by decide) (by decide)) a, k1, k2, ?_, ?_, m3, ?_, ?_, k5⟩
  · rw [f.2 (43, 11) (by decide)]; exact m1
  · rw [f.2 (43, 12) (by decide)]; exact m2
  · rw [f.1 2 (by decide), f.1 3 (by decide), f.1 4 (by decide), f.1 5 (by decide), f.1 6 (by decide), f.1 45 (by decide), f.1 46 (by decide), f.1 47 (by decide), f.1 53 (by decide), f.1 54 (by decide)]; exact k3
  · rw [f.1 7 (by decide), f.1 8 (by decide), f.1 9 (by decide), f.1 48 (by decide), f.1 49 (by decide), f.1 50 (by decide)]; exact k4
theorem c_party {S : sS} (R : Rel S) (X : sX) (p1 p2 : Int32) : Two (Cal X 105 [.ref 0, .int p1, .int p2] S) (fun S => Cal X 157 [.ref 43, .int p1, .int p2] S) := by
  obtain ⟨N, V, K, H, B, E, I, A, C, M⟩ := id R
  obtain ⟨HD0, k1, k2, m1, m2, m3, k3, k4, k5⟩ := id H
  have hN := HD0.2.1
  rcases pk_ix2 p1 (n := N) (by omega) with q | ⟨m, hm, rfl⟩
  · rw [C_X8_party, isM_n HD0 q, cI_ok, if_pos rfl, rf_1, cI_ok]
    refine two_rf R ?_
    show Cal X 157 _ (rfu S 1) = _
    rw [C_X9_party, mM_n (S := rfu S 1) m1 q, cI_ok, if_pos rfl, no_1, cI_ok]
  · rw [C_X8_party, isM_y HD0 hm, cI_ok, if_neg (by decide)]
    rcases pk_ix p2 (n := 4) (by decide) with q | q | ⟨p, hp, rfl⟩
    · rw [if_neg (Int32.not_le.mpr q), rf_4, cI_ok]
      refine two_rf R ?_
      show Cal X 157 _ (rfu S 4) = _
      rw [C_X9_party, mM_y (S := rfu S 4) m1 (by omega) hm, cI_ok, if_neg (by decide), mO_lo q, cI_ok, if_neg (by decide), no_4, cI_ok]
    · have q0 : (0 : Int32) ≤ p2 := Int32.le_trans (by decide) q
      rw [if_pos q0, l4, if_neg (Int32.not_lt.mpr q), rf_6, cI_ok]
      refine two_rf R ?_
      show Cal X 157 _ (rfu S 6) = _
      rw [C_X9_party, mM_y (S := rfu S 6) m1 (by omega) hm, cI_ok, if_neg (by decide), mO_hi (b := 3) q0 (lt_nI_le q (by decide)), cI_ok, if_neg (by decide), no_6, cI_ok]
    · rw [if_pos (nI_pos' (by omega)), l4, if_pos (nI_lt hp (by decide)), C_X1_changeParty, isM_y HD0 hm, cI_ok, if_neg (by decide), ix_nI (by omega) (by decide), ix_nI (by omega) (by decide), cI_ok]
      have g := k3 m hm
      refine ⟨S 4 m, _, up2 (up2 S 4 m (nI p)) 47 m (nI p), rfl, ?_, ?_⟩
      · show Cal X 157 _ (up2 S 4 m (nI p)) = _
        rw [C_X9_party, mM_y (S := up2 S 4 m (nI p)) m1 (by omega) hm, cI_ok, if_neg (by decide), mO_ok (b := 3) (nI_pos' (by omega)) (nI_le (show p ≤ 3 by omega) (by decide)), cI_ok, if_pos rfl, ix_nI (by omega) (by decide), ix_nI (by omega) (by decide), show up2 S 4 m (nI p) 47 m = S 4 m from g.2.2.1]
      · obtain ⟨T, hT⟩ : ∃ T, T = up2 (up2 S 4 m (nI p)) 47 m (nI p) := ⟨_, rfl⟩
        rw [← hT]
        have f : fr [4, 47] [] S T := by rw [hT]; exact fr_upL (fr_upL fr_rfl (by decide)) (by decide)
        refine ⟨N, V, K, HHm H (fr_ag f (by decide)) ?_, RB_ag (fr_ag f (by decide)) B, ?_, RI_ag (fr_ag f (by decide)) I, RA_ag (fr_ag f (by decide)) A, RC_ag (fr_ag f (by decide)) C, RM_ag (fr_ag f (by decide)) M⟩
        · intro i hi
          rw [fr_cell f 2 (by decide) (by decide), fr_cell f 3 (by decide) (by decide), fr_cell f 5 (by decide) (by decide), fr_cell f 6 (by decide) (by decide), fr_cell f 45 (by decide) (by decide), fr_cell f 46 (by decide) (by decide), fr_cell f 53 (by decide) (by decide), fr_cell f 54 (by decide) (by decide)]
          obtain ⟨g1, g2, g3, g4⟩ := k3 i hi
          refine ⟨g1, g2, ?_, g4⟩
          rw [hT]
          simp only [up2_ap]
          by_cases hj : i = m <;> simp [hj, g3]
        · rw [fr_cell f 44 (by decide) (by decide), fr_cell f 42 (by decide) (by decide)]; exact E
theorem RM_new {N V K : Nat} {T : sS} (h : T 43 14 = 1) : RM N V K T := Or.inl h
theorem c_free {S : sS} (R : Rel S) (X : sX) : Two (Cal X 110 [.ref 0] S) (fun S => Cal X 166 [.ref 43] S) := by
  obtain ⟨N, V, K, H, B, E, I, A, C, M⟩ := id R
  obtain ⟨HD0, k1, k2, m1, m2, m3, k3, k4, k5⟩ := id H
  rw [C_X8_free, C_X1_dropHeld, cI_ok, C_X5_forgetBest, cV_ok, k1]
  refine ⟨nI K, _, up2 (up2 (up2 (up2 S 1 2 0) 29 12 0) 43 13 0) 43 14 1, rfl, ?_, ?_⟩
  · show Cal X 166 _ (up2 (up2 S 1 2 0) 29 12 0) = _
    rw [C_X9_free, show (up2 (up2 S 1 2 0) 29 12 0) 43 13 = nI K from m3]
  · obtain ⟨T, hT⟩ : ∃ T, T = up2 (up2 (up2 (up2 S 1 2 0) 29 12 0) 43 13 0) 43 14 1 := ⟨_, rfl⟩
    rw [← hT]
    have f : fr [] [(1, 2), (29, 12), (43, 13), (43, 14)] S T := by rw [hT]; exact fr_upF (fr_upF (fr_upF (fr_upF fr_rfl (by decide)) (by decide)) (by decide)) (by decide)
    refine ⟨N, V, 0, HHk H (fr_ag f (by decide)) (by rw [hT]; rfl) (by omega) (by rw [hT]; rfl) (fun k hk => absurd hk (Nat.not_lt_zero k)), RB_ag (fr_ag f (by decide)) B, ?_, RI_ag (fr_ag f (by decide)) I, RA_ag (fr_ag f (by decide)) A, RC_fb C (by rw [hT]; rfl) (fr_ag f (by decide)), RM_new (by rw [hT]; rfl)⟩
    rw [fr_cell f 44 (by decide) (by decide), fr_cell f 42 (by decide) (by decide)]; exact E
theorem c_place {S : sS} (R : Rel S) (X : sX) (p1 p2 p3 : Int32) : Two (Cal X 121 [.ref 0, .int p1, .int p2, .int p3] S) (fun S => Cal X 203 [.ref 43, .int p1, .int p2, .int p3] S) := by
  obtain ⟨N, V, K, H, B, E, I, A, C, M⟩ := id R
  obtain ⟨HD0, k1, k2, m1, m2, m3, k3, k4, k5⟩ := id H
  have hN := HD0.2.1
  rcases pk_ix2 p1 (n := N) (by omega) with q | ⟨m, hm, rfl⟩
  · rw [C_X8_place, isM_n HD0 q, cI_ok, if_pos rfl, rf_1, cI_ok]
    refine two_rf R ?_
    show Cal X 203 _ (rfu S 1) = _
    rw [C_X9_place, mM_n (S := rfu S 1) m1 q, cI_ok, if_pos rfl, no_1, cI_ok]
  · rw [C_X8_place, isM_y HD0 hm, cI_ok, if_neg (by decide)]
    by_cases a1 : p2 < 0
    · rw [if_pos a1, rf_4, cI_ok]
      refine two_rf R ?_
      show Cal X 203 _ (rfu S 4) = _
      rw [C_X9_place, mM_y (S := rfu S 4) m1 (by omega) hm, cI_ok, if_neg (by decide), if_pos a1, if_neg (by decide), no_4, cI_ok]
    · rw [if_neg a1]
      by_cases a2 : 0 ≤ p3
      · rw [if_pos a2]
        by_cases a3 : 5 ≤ p2
        · rw [if_pos a3, rf_6, cI_ok]
          refine two_rf R ?_
          show Cal X 203 _ (rfu S 6) = _
          rw [C_X9_place, mM_y (S := rfu S 6) m1 (by omega) hm, cI_ok, if_neg (by decide), if_neg a1, if_pos a2, if_pos a3, if_neg (by decide), no_6, cI_ok]
        · rw [if_neg a3]
          by_cases a4 : p3 < 5
          · rw [if_pos a4, xOf_ok HD0 hm, cI_ok, yOf_ok HD0 hm, cI_ok, C_X1_bring, isM_y HD0 hm, cI_ok, if_neg (by decide), ix_nI (by omega) (by decide), ix_nI (by omega) (by decide), cV_ok]
            obtain ⟨x, hx, rfl⟩ : ∃ j : Nat, j < 5 ∧ p2 = nI j := by
              rcases pk_ix p2 (n := 5) (by decide) with q | q | q
              · exact absurd q a1
              · exact absurd q a3
              · exact q
            obtain ⟨y, hy, rfl⟩ : ∃ j : Nat, j < 5 ∧ p3 = nI j := by
              rcases pk_ix p3 (n := 5) (by decide) with q | q | q
              · exact absurd a2 (Int32.not_le.mpr q)
              · exact absurd a4 (Int32.not_lt.mpr q)
              · exact q
            obtain ⟨-, -, -, x0, y0, hx0, hy0, g1, g2, g3, g4⟩ := k3 m hm
            refine ⟨5 * S 5 m + S 6 m, _, up2 (up2 (up2 (up2 S 5 m (nI x)) 6 m (nI y)) 53 m (nI x)) 54 m (nI y), rfl, ?_, ?_⟩
            · show Cal X 203 _ (up2 (up2 S 5 m (nI x)) 6 m (nI y)) = _
              rw [C_X9_place, mM_y (S := up2 (up2 S 5 m (nI x)) 6 m (nI y)) m1 (by omega) hm, cI_ok, if_neg (by decide), if_neg a1, if_pos a2, if_neg a3, if_pos a4, if_pos rfl, ix_nI (by omega) (by decide), ix_nI (by omega) (by decide), ix_nI (by omega) (by decide), ix_nI (by omega) (by decide), show up2 (up2 S 5 m (nI x)) 6 m (nI y) 53 m = nI x0 from g2, show up2 (up2 S 5 m (nI x)) 6 m (nI y) 54 m = nI y0 from g4, g1, g3]
            · obtain ⟨T, hT⟩ : ∃ T, T = up2 (up2 (up2 (up2 S 5 m (nI x)) 6 m (nI y)) 53 m (nI x)) 54 m (nI y) := ⟨_, rfl⟩
              rw [← hT]
              have f : fr [5, 6, 53, 54] [] S T := by rw [hT]; exact fr_upL (fr_upL (fr_upL (fr_upL fr_rfl (by decide)) (by decide)) (by decide)) (by decide)
              refine ⟨N, V, K, HHm H (fr_ag f (by decide)) ?_, RB_ag (fr_ag f (by decide)) B, ?_, RI_ag (fr_ag f (by decide)) I, RA_ag (fr_ag f (by decide)) A, RC_ag (fr_ag f (by decide)) C, RM_ag (fr_ag f (by decide)) M⟩
              · intro i hi
                rw [fr_cell f 2 (by decide) (by decide), fr_cell f 3 (by decide) (by decide), fr_cell f 4 (by decide) (by decide), fr_cell f 45 (by decide) (by decide), fr_cell f 46 (by decide) (by decide), fr_cell f 47 (by decide) (by decide)]
                obtain ⟨e1, e2, e3, x1, y1, hx1, hy1, e4, e5, e6, e7⟩ := k3 i hi
                refine ⟨e1, e2, e3, ?_⟩
                by_cases hj : i = m
                · subst hj
                  exact ⟨x, y, hx, hy, by rw [hT]; simp [up2_ap], by rw [hT]; simp [up2_ap], by rw [hT]; simp [up2_ap], by rw [hT]; simp [up2_ap]⟩
                · exact ⟨x1, y1, hx1, hy1, by rw [hT]; simp [up2_ap, hj, e4], by rw [hT]; simp [up2_ap, hj, e5], by rw [hT]; simp [up2_ap, hj, e6], by rw [hT]; simp [up2_ap, hj, e7]⟩
              · rw [fr_cell f 44 (by decide) (by decide), fr_cell f 42 (by decide) (by decide)]; exact E
          · rw [if_neg a4, rf_6, cI_ok]
            refine two_rf R ?_
            show Cal X 203 _ (rfu S 6) = _
            rw [C_X9_place, mM_y (S := rfu S 6) m1 (by omega) hm, cI_ok, if_neg (by decide), if_neg a1, if_pos a2, if_neg a3, if_neg a4, if_neg (by decide), no_6, cI_ok]
      · rw [if_neg a2, rf_4, cI_ok]
        refine two_rf R ?_
        show Cal X 203 _ (rfu S 4) = _
        rw [C_X9_place, mM_y (S := rfu S 4) m1 (by omega) hm, cI_ok, if_neg (by decide), if_neg a1, if_neg a2, if_neg (by decide), no_4, cI_ok]
