/-- the house stands on what lies within its bounds -/
theorem HH_pt {N V K : Nat} {S T : sS} (H : HH N V K S) (q : ∀ p ∈ fH, T p.1 p.2 = S p.1 p.2) (q7 : ∀ c ∈ [2, 3, 4, 5, 6, 45, 46, 47, 53, 54], ∀ j, j < 7 → T c j = S c j) (q24 : ∀ c ∈ [7, 8, 9, 48, 49, 50], ∀ j, j < 24 → T c j = S c j) (q10 : ∀ c ∈ [10, 11, 51, 52], ∀ j, j < 10 → T c j = S c j) : HH N V K T := by
  obtain ⟨⟨h1, h2, h3, h4, h5⟩, k1, k2, m1, m2, m3, k3, k4, k5⟩ := H
  refine ⟨⟨?_, h2, ?_, h4, ?_⟩, ?_, k2, ?_, ?_, ?_, ?_, ?_, ?_⟩
  · rw [q (1, 0) (by decide)]; exact h1
  · rw [q (1, 1) (by decide)]; exact h3
  · intro v hv
    rw [q24 8 (by decide) v (by omega), q24 9 (by decide) v (by omega)]
    exact h5 v hv
  · rw [q (1, 2) (by decide)]; exact k1
  · rw [q (43, 11) (by decide)]; exact m1
  · rw [q (43, 12) (by decide)]; exact m2
  · rw [q (43, 13) (by decide)]; exact m3
  · intro m hm
    have h : m < 7 := by omega
    rw [q7 2 (by decide) m h, q7 3 (by decide) m h, q7 4 (by decide) m h, q7 5 (by decide) m h, q7 6 (by decide) m h, q7 45 (by decide) m h, q7 46 (by decide) m h, q7 47 (by decide) m h, q7 53 (by decide) m h, q7 54 (by decide) m h]
    exact k3 m hm
  · intro v hv
    have h : v < 24 := by omega
    rw [q24 7 (by decide) v h, q24 8 (by decide) v h, q24 9 (by decide) v h, q24 48 (by decide) v h, q24 49 (by decide) v h, q24 50 (by decide) v h]
    exact k4 v hv
  · intro k hk
    have h : k < 10 := by omega
    rw [q10 10 (by decide) k h, q10 11 (by decide) k h, q10 51 (by decide) k h, q10 52 (by decide) k h]
    exact k5 k hk
def imC (S : sS) : sS := up2 (upA (upA (upA (upA (upA (upA (upA (upA (upA (upA (up2 (up2 (up2 S 12 0 (S 1 0)) 12 1 (S 1 1)) 12 2 (S 1 2)) 13 (fun j => if j < 7 then (S 2 j) else (S 13 j))) 14 (fun j => if j < 7 then (S 3 j) else (S 14 j))) 15 (fun j => if j < 7 then (S 4 j) else (S 15 j))) 16 (fun j => if j < 7 then (S 5 j) else (S 16 j))) 17 (fun j => if j < 7 then (S 6 j) else (S 17 j))) 18 (fun j => if j < 24 then (S 7 j) else (S 18 j))) 19 (fun j => if j < 24 then (S 8 j) else (S 19 j))) 20 (fun j => if j < 24 then (S 9 j) else (S 20 j))) 21 (fun j => if j < 10 then (S 10 j) else (S 21 j))) 22 (fun j => if j < 10 then (S 11 j) else (S 22 j))) 0 2 1
theorem fr_imC (S : sS) : fr [12, 13, 14, 15, 16, 17, 18, 19, 20, 21, 22] [(0, 2)] S (imC S) := by
  unfold imC
  exact fr_upF (fr_upA (fr_upA (fr_upA (fr_upA (fr_upA (fr_upA (fr_upA (fr_upA (fr_upA (fr_upA (fr_upL (fr_upL (fr_upL fr_rfl (by decide)) (by decide)) (by decide)) (by decide)) (by decide)) (by decide)) (by decide)) (by decide)) (by decide)) (by decide)) (by decide)) (by decide)) (by decide)) (by decide)
theorem c_image {S : sS} (R : Rel S) (X : sX) : Two (Cal X 132 [.ref 0] S) (fun S => Cal X 227 [.ref 43] S) := by
  obtain ⟨N, V, K, H, B, E, I, A, C, M⟩ := id R
  obtain ⟨HD0, k1, k2, m1, m2, m3, k3, k4, k5⟩ := id H
  rw [C_X8_image, C_X1_copyFrom_12_1, cV_ok, C_X1_votes, cI_ok]
  obtain ⟨T, e, f, t1, t2, t3, t4, t5, t6, t7, t8, t9, t10, t11, t12, t13⟩ := pa_i X (up2 (up2 (imC S) 43 44 1) 43 43 1) rfl
  have f2 : fr [12, 13, 14, 15, 16, 17, 18, 19, 20, 21, 22, 64] [(0, 2), (43, 43), (43, 44), (43, 45)] S T := fr_trans (fr_upF (fr_upF (fr_mono (fr_imC S) (by decide) (by decide)) (by decide)) (by decide)) (fr_mono f (by decide) (by decide))
  have g : ∀ c, c ∈ [12, 13, 14, 15, 16, 17, 18, 19, 20, 21, 22] → T c = imC S c := by
    intro c hc
    rw [fr_cell f c (by revert c; decide) (by revert c; decide), up2_ne _ _ _ (by revert c; decide), up2_ne _ _ _ (by revert c; decide)]
  refine ⟨imC S 1 1, imC S, T, rfl, ?_, ?_⟩
  · show Cal X 227 _ (imC S) = _
    rw [C_X9_image, e, cV_ok]
    have : T 43 12 = S 43 12 := fr_fld f2 43 12 (by decide) (by decide)
    rw [this, m2, show imC S 1 1 = nI V from HD0.2.2.1]
  · refine ⟨N, V, K, HH_ag (fr_ag f2 (by decide)) H, RB_ag (fr_ag f2 (by decide)) B, ?_, ⟨?_, Or.inr ⟨?_, N, V, K, HH_pt H ?_ ?_ ?_ ?_⟩⟩, RA_ag (fr_ag f2 (by decide)) A, RC_ag (fr_ag f2 (by decide)) C, RM_ag (fr_ag f2 (by decide)) M⟩
    · rw [fr_cell f2 44 (by decide) (by decide), fr_cell f2 42 (by decide) (by decide)]; exact E
    · rw [fr_fld f 43 43 (by decide) (by decide), fr_fld f 0 2 (by decide) (by decide)]
      rfl
    · rw [fr_fld f 0 2 (by decide) (by decide)]
      rfl
    · intro p hp
      simp only [fH, List.mem_cons, List.not_mem_nil, or_false] at hp
      rcases hp with rfl | rfl | rfl | rfl | rfl | rfl
      · show T 12 0 = _
        rw [g 12 (by decide)]; rfl
      · show T 12 1 = _
        rw [g 12 (by decide)]; rfl
      · show T 12 2 = _
        rw [g 12 (by decide)]; rfl
      · exact t11
      · exact t12
      · exact t13
    · intro c hc j hj
      simp only [List.mem_cons, List.not_mem_nil, or_false] at hc
      rcases hc with rfl | rfl | rfl | rfl | rfl | rfl | rfl | rfl | rfl | rfl
      · show T 13 j = _
        rw [g 13 (by decide)]; exact if_pos hj
      · show T 14 j = _
        rw [g 14 (by decide)]; exact if_pos hj
      · show T 15 j = _
        rw [g 15 (by decide)]; exact if_pos hj
      · show T 16 j = _
        rw [g 16 (by decide)]; exact if_pos hj
      · show T 17 j = _
        rw [g 17 (by decide)]; exact if_pos hj
      · have := t1 j hj
        rw [Nat.zero_add] at this
        exact this
      · exact t2 j hj
      · exact t3 j hj
      · exact t9 j hj
      · exact t10 j hj
    · intro c hc j hj
      simp only [List.mem_cons, List.not_mem_nil, or_false] at hc
      rcases hc with rfl | rfl | rfl | rfl | rfl | rfl
      · show T 18 j = _
        rw [g 18 (by decide)]; exact if_pos hj
      · show T 19 j = _
        rw [g 19 (by decide)]; exact if_pos hj
      · show T 20 j = _
        rw [g 20 (by decide)]; exact if_pos hj
      · exact t4 j hj
      · exact t5 j hj
      · exact t6 j hj
    · intro c hc j hj
      simp only [List.mem_cons, List.not_mem_nil, or_false] at hc
      rcases hc with rfl | rfl | rfl | rfl
      · show T 21 j = _
        rw [g 21 (by decide)]; exact if_pos hj
      · show T 22 j = _
        rw [g 22 (by decide)]; exact if_pos hj
      · exact t7 j hj
      · exact t8 j hj
def reC (S : sS) : sS := vcS (up2 (up2 (upA (upA (upA (upA (upA (upA (upA (upA (upA (upA (up2 (up2 (up2 S 1 0 (S 12 0)) 1 1 (S 12 1)) 1 2 (S 12 2)) 2 (fun j => if j < 7 then (S 13 j) else (S 2 j))) 3 (fun j => if j < 7 then (S 14 j) else (S 3 j))) 4 (fun j => if j < 7 then (S 15 j) else (S 4 j))) 5 (fun j => if j < 7 then (S 16 j) else (S 5 j))) 6 (fun j => if j < 7 then (S 17 j) else (S 6 j))) 7 (fun j => if j < 24 then (S 18 j) else (S 7 j))) 8 (fun j => if j < 24 then (S 19 j) else (S 8 j))) 9 (fun j => if j < 24 then (S 20 j) else (S 9 j))) 10 (fun j => if j < 10 then (S 21 j) else (S 10 j))) 11 (fun j => if j < 10 then (S 22 j) else (S 11 j))) 0 9 0) 0 10 0)
theorem fr_reC (S : sS) : fr [1, 2, 3, 4, 5, 6, 7, 8, 9, 10, 11] [(0, 9), (0, 10), (25, 4), (29, 11), (29, 12), (29, 13)] S (reC S) := by
  unfold reC vcS
  exact fr_upF (fr_upF (fr_upF (fr_upF (fr_upF (fr_upF (fr_upA (fr_upA (fr_upA (fr_upA (fr_upA (fr_upA (fr_upA (fr_upA (fr_upA (fr_upA (fr_upL (fr_upL (fr_upL fr_rfl (by decide)) (by decide)) (by decide)) (by decide)) (by decide)) (by decide)) (by decide)) (by decide)) (by decide)) (by decide)) (by decide)) (by decide)) (by decide)) (by decide)) (by decide)) (by decide)) (by decide)) (by decide)) (by decide)
theorem c_restore {S : sS} (R : Rel S) (X : sX) : Two (Cal X 133 [.ref 0] S) (fun S => Cal X 228 [.ref 43] S) := by
  obtain ⟨N0, V0, K0, H0, B, E, ⟨I1, I2⟩, A, C, M⟩ := id R
  rw [C_X8_restore]
  rcases I2 with h0 | ⟨h0, N, V, K, H⟩
  · rw [if_pos h0, rf_3, cI_ok]
    refine two_rf R ?_
    show Cal X 228 _ (rfu S 3) = _
    rw [C_X9_restore, show rfu S 3 43 43 = 0 from I1.trans h0, if_pos rfl, no_3, cI_ok]
  · have hne : ¬ S 0 2 = 0 := by rw [h0]; decide
    rw [if_neg hne, C_X1_copyFrom_1_12, cV_ok, C_X8_emptyHand, cV_ok, vch_ok, cV_ok, C_X1_votes, cI_ok]
    obtain ⟨T, e, f, t1, t2, t3, t4, t5, t6, t7, t8, t9, t10, t11, t12, t13⟩ := pa_r X (up2 (reC S) 43 44 0) rfl
    obtain ⟨U, hU⟩ : ∃ U, U = up2 (up2 T 43 28 0) 43 14 1 := ⟨_, rfl⟩
    have f2 : fr [1, 2, 3, 4, 5, 6, 7, 8, 9, 10, 11, 45, 46, 47, 48, 49, 50, 51, 52, 53, 54] [(0, 9), (0, 10), (25, 4), (29, 11), (29, 12), (29, 13), (43, 45), (43, 11), (43, 12), (43, 13), (43, 44), (43, 28), (43, 14)] S U := by
      rw [hU]
      exact fr_upF (fr_upF (fr_trans (fr_upF (fr_mono (fr_reC S) (by decide) (by decide)) (by decide)) (fr_mono f (by decide) (by decide))) (by decide)) (by decide)
    have g : ∀ c, c ∈ [1, 2, 3, 4, 5, 6, 7, 8, 9, 10, 11, 25, 29] → U c = reC S c := by
      intro c hc
      rw [hU, up2_ne _ _ _ (by revert c; decide), up2_ne _ _ _ (by revert c; decide), fr_cell f c (by revert c; decide) (by revert c; decide), up2_ne _ _ _ (by revert c; decide)]
    have g2 : ∀ c, c ∈ [45, 46, 47, 48, 49, 50, 51, 52, 53, 54] → U c = T c := by
      intro c hc
      rw [hU, up2_ne _ _ _ (by revert c; decide), up2_ne _ _ _ (by revert c; decide)]
    refine ⟨reC S 1 1, reC S, U, rfl, ?_, ?_⟩
    · show Cal X 228 _ (reC S) = _
      have hne2 : ¬ reC S 43 43 = 0 := by
        rw [show reC S 43 43 = S 43 43 from rfl, I1]; exact hne
      rw [C_X9_restore, if_neg hne2, e, cV_ok, t12, hU]
      have q1 : up2 (reC S) 43 44 0 64 128 = nI V := H.2.2.2.2.1
      have q2 : reC S 1 1 = nI V := H.1.2.2.1
      rw [q1, q2]
    · refine ⟨N, V, K, HH_pt H ?_ ?_ ?_ ?_, RB_ag (fr_ag f2 (by decide)) B, ?_, RI_ag (fr_ag f2 (by decide)) ⟨I1, Or.inr ⟨h0, N, V, K, H⟩⟩, ⟨[], List.nodup_nil, fun a ha => absurd ha List.not_mem_nil, ?_, ?_, ?_, fun j hj => absurd hj (Nat.not_lt_zero j)⟩, RC_vc C ?_ ?_ ?_ ?_ (fr_ag f2 (by decide)), RM_new ?_⟩
      · intro p hp
        simp only [fH, List.mem_cons, List.not_mem_nil, or_false] at hp
        rcases hp with rfl | rfl | rfl | rfl | rfl | rfl
        · show U 1 0 = _
          rw [g 1 (by decide)]; rfl
        · show U 1 1 = _
          rw [g 1 (by decide)]; rfl
        · show U 1 2 = _
          rw [g 1 (by decide)]; rfl
        · rw [hU]; exact t11
        · rw [hU]; exact t12
        · rw [hU]; exact t13
      · intro c hc j hj
        simp only [List.mem_cons, List.not_mem_nil, or_false] at hc
        rcases hc with rfl | rfl | rfl | rfl | rfl | rfl | rfl | rfl | rfl | rfl
        · rw [g 2 (by decide)]; exact if_pos hj
        · rw [g 3 (by decide)]; exact if_pos hj
        · rw [g 4 (by decide)]; exact if_pos hj
        · rw [g 5 (by decide)]; exact if_pos hj
        · rw [g 6 (by decide)]; exact if_pos hj
        · rw [g2 45 (by decide), t1 j hj, Nat.zero_add]; rfl
        · rw [g2 46 (by decide), t2 j hj]; rfl
        · rw [g2 47 (by decide), t3 j hj]; rfl
        · rw [g2 53 (by decide), t9 j hj]; rfl
        · rw [g2 54 (by decide), t10 j hj]; rfl
      · intro c hc j hj
        simp only [List.mem_cons, List.not_mem_nil, or_false] at hc
        rcases hc with rfl | rfl | rfl | rfl | rfl | rfl
        · rw [g 7 (by decide)]; exact if_pos hj
        · rw [g 8 (by decide)]; exact if_pos hj
        · rw [g 9 (by decide)]; exact if_pos hj
        · rw [g2 48 (by decide), t4 j hj]; rfl
        · rw [g2 49 (by decide), t5 j hj]; rfl
        · rw [g2 50 (by decide), t6 j hj]; rfl
      · intro c hc j hj
        simp only [List.mem_cons, List.not_mem_nil, or_false] at hc
        rcases hc with rfl | rfl | rfl | rfl
        · rw [g 10 (by decide)]; exact if_pos hj
        · rw [g 11 (by decide)]; exact if_pos hj
        · rw [g2 51 (by decide), t7 j hj]; rfl
        · rw [g2 52 (by decide), t8 j hj]; rfl
      · rw [fr_cell f2 44 (by decide) (by decide), fr_cell f2 42 (by decide) (by decide)]; exact E
      · rw [hU]
        show T 0 9 = 0
        rw [fr_fld f 0 9 (by decide) (by decide)]
        rfl
      · rw [hU]
        show T 0 10 = 0
        rw [fr_fld f 0 10 (by decide) (by decide)]
        rfl
      · rw [hU]; rfl
      · rw [g 25 (by decide)]; rfl
      · rw [g 29 (by decide)]; rfl
      · rw [g 29 (by decide)]; rfl
      · rw [g 29 (by decide)]; rfl
      · rw [hU]; rfl
/-! count -/
def wds (S : sS) : Nat → Nat := sm (fun v => pc 7 (nv (S 8 v) ||| nv (S 9 v)))
theorem words_c {N V : Nat} {S : sS} (H : HD N V S) (X : sX) : Cal X 40 [.ref 1] S = some (some (.int (nI (wds S V))), S) := by
  have hV := H.2.2.2.1
  rw [C_X1_words]
  have key := loop_eq (F := fun k => Run X 40 4 [some (.ref 1), some (.int (nI (wds S k))), some (.int (nI k))] [] S) V 0 (by
    intro k _ hk
    obtain ⟨y, n, hy, hn, -, -, hyn, e8, e9, e8', e9'⟩ := vote_y H hk
    have e : wds S (k + 1) = wds S k + pc 7 (nv (S 8 k) ||| nv (S 9 k)) := rfl
    show Run X 40 4 _ [] S = Run X 40 4 _ [] S
    rw [L_X1_words_4, H.2.2.1, if_neg (nI_ge hk (by omega)), ix_nI (by omega) (by decide), ix_nI (by omega) (by decide), e8, e9, or_nI, bitc (or_lt7 hy hn), cI_ok, nI_add, nI_1, e, e8', e9']) (Nat.zero_le _)
  refine Eq.trans key ?_
  rw [L_X1_words_4, H.2.2.1, if_pos (nI_le (Nat.le_refl _) (by omega))]
theorem c_count {S : sS} (R : Rel S) (X : sX) (p1 : Int32) : Two (Cal X 134 [.ref 0, .int p1] S) (fun S => Cal X 229 [.ref 43, .int p1] S) := by
  obtain ⟨N, V, K, H, B, E, I, A, C, M⟩ := id R
  obtain ⟨HD0, k1, k2, m1, m2, m3, k3, k4, k5⟩ := id H
  have hV := HD0.2.2.2.1
  have hc := C_X8_count X p1 S
  have hm := C_X9_count X p1 S
  by_cases r : p1 < 11 ∨ 16 < p1
  · rw [mI_n r, cI_ok, if_pos rfl] at hm
    by_cases b0 : p1 = 0
    · rw [hc, if_pos b0, C_X1_members, cI_ok]
      refine two_pure R ?_
      show Cal X 229 _ S = _
      rw [hm, if_pos b0, m1, HD0.1]
    by_cases b1 : p1 = 1
    · rw [hc, if_neg b0, if_pos b1, C_X1_votes, cI_ok]
      refine two_pure R ?_
      show Cal X 229 _ S = _
      rw [hm, if_neg b0, if_pos b1, m2, HD0.2.2.1]
    by_cases b2 : p1 = 2
    · rw [hc, if_neg b0, if_neg b1, if_pos b2, C_X1_held, cI_ok]
      refine two_pure R ?_
      show Cal X 229 _ S = _
      rw [hm, if_neg b0, if_neg b1, if_pos b2, m3, k1]
    by_cases b3 : p1 = 3
    · rw [hc, if_neg b0, if_neg b1, if_neg b2, if_pos b3]
      refine two_pure R ?_
      show Cal X 229 _ S = _
      obtain ⟨h, _, _, _, a4, a5, _⟩ := A
      rw [hm, if_neg b0, if_neg b1, if_neg b2, if_pos b3, a4, a5]
    by_cases b4 : p1 = 4
    · rw [hc, if_neg b0, if_neg b1, if_neg b2, if_neg b3, if_pos b4, C_X0_size, cI_ok]
      refine two_pure R ?_
      show Cal X 229 _ S = _
      obtain ⟨L, _, a4, a5, _⟩ := B
      rw [hm, if_neg b0, if_neg b1, if_neg b2, if_neg b3, if_pos b4, a4, a5]
    by_cases b5 : p1 = 5
    · rw [hc, if_neg b0, if_neg b1, if_neg b2, if_neg b3, if_neg b4, if_pos b5, words_c HD0, cI_ok]
      refine two_pure R ?_
      show Cal X 229 _ S = _
      rw [hm, if_neg b0, if_neg b1, if_neg b2, if_neg b3, if_neg b4, if_pos b5]
      have key := loop_eq (F := fun k => Run X 229 91 [some (.ref 43), none, some (.int (nI (wds S k))), some (.int (nI k))] [] S) V 0 (by
        intro k _ hk
        obtain ⟨y, n, hy, hn, -, -, hyn, e8, e9, e8', e9'⟩ := vote_y HD0 hk
        obtain ⟨g1, g2, -⟩ := k4 k hk
        have e : wds S (k + 1) = wds S k + pc 7 (nv (S 8 k) ||| nv (S 9 k)) := rfl
        show Run X 229 91 _ [] S = Run X 229 91 _ [] S
        rw [L_X9_count_91, m2, if_neg (nI_ge hk (by omega)), ix_nI (by omega) (by decide), ix_nI (by omega) (by decide), g1, g2, e8, e9, or_nI, mbits (or_lt7 hy hn), cI_ok, nI_add, nI_1, e, e8', e9']) (Nat.zero_le _)
      refine Eq.trans key ?_
      rw [L_X9_count_91, m2, if_pos (nI_le (Nat.le_refl _) (by omega))]
    · have hc2 : Cal X 134 [.ref 0, .int p1] S = some (some (.int (-9)), S) := by
        rw [hc, if_neg b0, if_neg b1, if_neg b2, if_neg b3, if_neg b4, if_neg b5]
        by_cases q : p1 < 11
        · rw [if_pos q]
        · rw [if_neg q, if_pos (r.resolve_left q)]
      rw [hc2]
      refine two_pure R ?_
      show Cal X 229 _ S = _
      rw [hm, if_neg b0, if_neg b1, if_neg b2, if_neg b3, if_neg b4, if_neg b5]
  · have r1 : ¬ p1 < 11 := fun q => r (Or.inl q)
    have r2 : ¬ 16 < p1 := fun q => r (Or.inr q)
    rw [mI_y r1 r2, cI_ok, if_neg (by decide)] at hm
    obtain ⟨j, hj, rfl⟩ : ∃ j : Nat, j < 17 ∧ p1 = nI j := by
      rcases pk_ix p1 (n := 17) (by decide) with q | q | q
      · exact absurd (Int32.lt_of_lt_of_le q (by decide)) r1
      · exact absurd (lt_nI_le (n := 16) q (by decide)) r2
      · exact q
    have hj2 : 11 ≤ j := by
      rcases Nat.lt_or_ge j 11 with q | q
      · exact absurd (nI_lt (b := 11) q (by decide)) r1
      · exact q
    have hn : ∀ (c : Int32) (k : Nat), c = nI k → k < 11 → ¬ nI j = c := by
      intro c k hc hk
      rw [hc, nI_eq (by omega) (by omega)]
      omega
    have e10 : nI j - 10 = nI (j - 10) := by rw [l10, pk_sub (by omega)]
    rw [hc, if_neg (hn 0 0 rfl (by decide)), if_neg (hn 1 1 rfl (by decide)), if_neg (hn 2 2 rfl (by decide)), if_neg (hn 3 3 rfl (by decide)), if_neg (hn 4 4 rfl (by decide)), if_neg (hn 5 5 rfl (by decide)), if_neg r1, if_neg r2, e10, ix_nI (by omega) (by decide)]
    refine two_pure R ?_
    show Cal X 229 _ S = _
    rw [hm, e10, ix_nI (by omega) (by decide), E]
