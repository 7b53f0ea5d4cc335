def haC (S : sS) (K a : Nat) (p2 : Int32) : sS := up2 (up2 (up2 S 10 K (minI (nI a) p2)) 11 K (maxI (nI a) p2)) 1 2 (nI (K + 1))
def haM (S : sS) (K a : Nat) (p2 : Int32) : sS := up2 (up2 (up2 (up2 S 51 K (nI a)) 52 K p2) 43 13 (nI (K + 1))) 43 14 1
theorem haC_ok {K : Nat} {S : sS} (k1 : S 1 2 = nI K) (hK : K < 10) (a : Nat) (p2 : Int32) (X : sX) : Cal X 32 [.ref 1, .int (nI a), .int p2] S = some (some (.int (nI (K + 1))), haC S K a p2) := by
  rw [C_X1_addHeld, C_X1_hasRoomForHeld, k1, l10, if_neg (nI_ge hK (by decide)), cI_ok, if_neg (by decide), k1]
  rw [ix_nI hK (by decide), ix_nI hK (by decide), nI_1]
  rfl
theorem haM_ok {K : Nat} {S : sS} (m3 : S 43 13 = nI K) (hK : K < 10) (a : Nat) (p2 : Int32) (X : sX) : Cal X 164 [.ref 43, .int (nI a), .int p2] S = some (none, haM S K a p2) := by
  rw [C_X9_holds, m3]
  rw [ix_nI hK (by decide), ix_nI hK (by decide), nI_1]
  rfl
theorem hd_new {N a : Nat} {p2 : Int32} (hN : N ≤ 7) (ha : a < N) (hb : p2 = -1 ∨ ∃ b, b < N ∧ b ≠ a ∧ p2 = nI b) : hd N (nI a) p2 (minI (nI a) p2) (maxI (nI a) p2) := by
  refine ⟨a, ha, rfl, ?_⟩
  rcases hb with rfl | ⟨b, hb1, hb2, rfl⟩
  · exact Or.inl ⟨rfl, minI_m1 (by omega), maxI_m1 (by omega)⟩
  · exact Or.inr ⟨b, hb1, hb2, rfl, minI_nI (by omega) (by omega), maxI_nI (by omega) (by omega)⟩
theorem ha_HH {N V K a : Nat} {p2 : Int32} {S T : sS} (H : HH N V K S) (hK : K < 10) (ha : a < N) (hb : p2 = -1 ∨ ∃ b, b < N ∧ b ≠ a ∧ p2 = nI b) (f : ag [2, 3, 4, 5, 6, 7, 8, 9, 45, 46, 47, 48, 49, 50, 53, 54] [(1, 0), (1, 1), (43, 11), (43, 12)] S T) (k1 : T 1 2 = nI (K + 1)) (m3 : T 43 13 = nI (K + 1)) (e1 : T 10 = upd (S 10) K (minI (nI a) p2)) (e2 : T 11 = upd (S 11) K (maxI (nI a) p2)) (e3 : T 51 = upd (S 51) K (nI a)) (e4 : T 52 = upd (S 52) K p2) : HH N V (K + 1) T := by
  refine HHk H f k1 (by omega) m3 ?_
  intro k hk
  rw [e1, e2, e3, e4]
  by_cases hq : k = K
  · subst hq
    rw [upd_at, upd_at, upd_at, upd_at]
    exact hd_new H.1.2.1 ha hb
  · rw [upd_ne _ _ hq, upd_ne _ _ hq, upd_ne _ _ hq, upd_ne _ _ hq]
    exact H.2.2.2.2.2.2.2.2 k (by omega)
theorem ha_rel {S : sS} {N V K a : Nat} {p2 : Int32} (H : HH N V K S) (B : RB S) (E : S 44 = S 42) (I : RI S) (A : RA N S) (C : RC N V K S) (hK : K < 10) (ha : a < N) (hb : p2 = -1 ∨ ∃ b, b < N ∧ b ≠ a ∧ p2 = nI b) : Rel (haM (up2 (haC S K a p2) 29 12 0) K a p2) := by
  obtain ⟨T, hT⟩ : ∃ T, T = haM (up2 (haC S K a p2) 29 12 0) K a p2 := ⟨_, rfl⟩
  rw [← hT]
  have f : fr [10, 11, 51, 52] [(1, 2), (29, 12), (43, 13), (43, 14)] S T := by
    rw [hT]
    unfold haM haC
    exact fr_upF (fr_upF (fr_upL (fr_upL (fr_upF (fr_upF (fr_upL (fr_upL fr_rfl (by decide)) (by decide)) (by decide)) (by decide)) (by decide)) (by decide)) (by decide)) (by decide)
  refine ⟨N, V, K + 1, ha_HH H hK ha hb (fr_ag f (by decide)) (by rw [hT]; rfl) (by rw [hT]; rfl) (by rw [hT]; rfl) (by rw [hT]; rfl) (by rw [hT]; rfl) (by rw [hT]; rfl), RB_ag (fr_ag f (by decide)) B, ?_, RI_ag (fr_ag f (by decide)) I, RA_ag (fr_ag f (by decide)) A, RC_fb C (by rw [hT]; rfl) (fr_ag f (by decide)), RM_new (by rw [hT]; rfl)⟩
  rw [fr_cell f 44 (by decide) (by decide), fr_cell f 42 (by decide) (by decide)]; exact E
theorem hs_rf {S : sS} {p1 p2 : Int32} {k j : Nat} : hs (rfu S j) p1 p2 k = hs S p1 p2 k := rfl
theorem hold_fin {S : sS} (R : Rel S) {N V K : Nat} (H : HH N V K S) (B : RB S) (E : S 44 = S 42) (I : RI S) (A : RA N S) (C : RC N V K S) {a : Nat} {p2 : Int32} (ha : a < N) (hb : p2 = -1 ∨ ∃ b, b < N ∧ b ≠ a ∧ p2 = nI b) (X : sX) {f : sS → sR} (hf : ∀ T, T 43 11 = nI N → f T = cI (Cal X 163 [.ref 43, .int (nI a), .int p2] T) fun r6 S5 => if r6 = 0 then (if (S5 43 13) = 10 then (cI (Cal X 149 [.ref 43, .int (-6)] S5) fun r8 S7 => some (some (.int r8), S7)) else cV (Cal X 164 [.ref 43, .int (nI a), .int p2] S5) fun S9 => some (some (.int (S9 43 13)), S9)) else cI (Cal X 149 [.ref 43, .int (-3)] S5) fun r11 S10 => some (some (.int r11), S10)) : Two (cI (Cal X 31 [.ref 1, .int (nI a), .int p2] S) fun r8 S7 => if r8 = 0 then (cI (Cal X 24 [.ref 1] S7) fun r10 S9 => if r10 = 0 then (cI (Cal X 135 [.ref 0, .int (-6)] S9) fun r12 S11 => some (some (.int r12), S11)) else cI (Cal X 32 [.ref 1, .int (nI a), .int p2] S9) fun r14 S13 => cV (Cal X 63 [.ref 29] S13) fun S15 => some (some (.int r14), S15)) else cI (Cal X 135 [.ref 0, .int (-3)] S7) fun r17 S16 => some (some (.int r17), S16)) f := by
  obtain ⟨HD0, k1, k2, m1, m2, m3, k3, k4, k5⟩ := id H
  by_cases hx : ∃ k, k < K ∧ hs S (nI a) p2 k
  · rw [(isHeld_c H ha hb X).1 hx, cI_ok, if_neg (by decide), rf_3, cI_ok]
    refine two_rf R ?_
    rw [hf (rfu S 3) m1, (isHeld_m (S := rfu S 3) m3 k2 (nI a) p2 X).1 hx, cI_ok, if_neg (by decide), no_3, cI_ok]
  · have hx' : ∀ k, k < K → ¬ hs S (nI a) p2 k := fun k hk q => hx ⟨k, hk, q⟩
    rw [(isHeld_c H ha hb X).2 hx', cI_ok, if_pos rfl, C_X1_hasRoomForHeld, k1, l10]
    by_cases hK : K = 10
    · subst hK
      rw [if_pos (nI_le (by decide) (by decide)), cI_ok, if_pos rfl, rf_6, cI_ok]
      refine two_rf R ?_
      rw [hf (rfu S 6) m1, (isHeld_m (S := rfu S 6) m3 k2 (nI a) p2 X).2 hx', cI_ok, if_pos rfl, show rfu S 6 43 13 = 10 from m3, if_pos rfl, no_6, cI_ok]
    · have hK' : K < 10 := by omega
      rw [if_neg (nI_ge hK' (by decide)), cI_ok, if_neg (by decide), haC_ok k1 hK', cI_ok, C_X5_forgetBest, cV_ok]
      refine ⟨nI (K + 1), _, haM (up2 (haC S K a p2) 29 12 0) K a p2, rfl, ?_, ha_rel H B E I A C hK' ha hb⟩
      have e : up2 (haC S K a p2) 29 12 0 43 13 = nI K := m3
      have e0 : up2 (haC S K a p2) 29 12 0 43 11 = nI N := m1
      have hne : ¬ nI K = 10 := by rw [l10, nI_eq (by omega) (by decide)]; exact hK
      rw [hf _ e0, (isHeld_m (S := up2 (haC S K a p2) 29 12 0) e k2 (nI a) p2 X).2 hx', cI_ok, if_pos rfl, e, if_neg hne, haM_ok e hK', cV_ok]
      rfl
theorem c_hold {S : sS} (R : Rel S) (X : sX) (p1 p2 : Int32) : Two (Cal X 109 [.ref 0, .int p1, .int p2] S) (fun S => Cal X 165 [.ref 43, .int p1, .int p2] S) := by
  obtain ⟨N, V, K, H, B, E, I, A, C, M⟩ := id R
  obtain ⟨HD0, k1, k2, m1, m2, m3, k3, k4, k5⟩ := id H
  have hN := HD0.2.1
  have go : ∀ k, rfu S k 43 11 = nI N := fun k => m1
  rcases pk_ix2 p1 (n := N) (by omega) with q | ⟨a, ha, rfl⟩
  · rw [C_X8_hold, isM_n HD0 q, cI_ok, if_pos rfl, rf_1, cI_ok]
    refine two_rf R ?_
    show Cal X 165 _ (rfu S 1) = _
    rw [C_X9_hold, mM_n (S := rfu S 1) m1 q, cI_ok, if_pos rfl, no_1, cI_ok]
  · rw [C_X8_hold, isM_y HD0 ha, cI_ok, if_neg (by decide)]
    by_cases hm : p2 = -1
    · subst hm
      rw [if_neg (nI_nem1 (by omega)), if_pos rfl]
      refine hold_fin R H B E I A C ha (Or.inl rfl) X ?_
      intro T hT
      show Cal X 165 _ T = _
      rw [C_X9_hold, mM_y hT (by omega) ha, cI_ok, if_neg (by decide), if_pos rfl]
    · by_cases hab : nI a = p2
      · subst hab
        rw [if_pos rfl, rf_1, cI_ok]
        refine two_rf R ?_
        show Cal X 165 _ (rfu S 1) = _
        rw [C_X9_hold, mM_y (go 1) (by omega) ha, cI_ok, if_neg (by decide), if_neg hm, mM_y (go 1) (by omega) ha, cI_ok, if_neg (by decide), if_pos rfl, no_1, cI_ok]
      · rw [if_neg hab, if_neg hm]
        rcases pk_ix2 p2 (n := N) (by omega) with q | ⟨b, hb, rfl⟩
        · rw [isM_n HD0 q, cI_ok, if_pos rfl, rf_1, cI_ok]
          refine two_rf R ?_
          show Cal X 165 _ (rfu S 1) = _
          rw [C_X9_hold, mM_y (go 1) (by omega) ha, cI_ok, if_neg (by decide), if_neg hm, mM_n (go 1) q, cI_ok, if_pos rfl, no_1, cI_ok]
        · have hba : b ≠ a := fun e => hab (by rw [e])
          rw [isM_y HD0 hb, cI_ok, if_neg (by decide)]
          refine hold_fin R H B E I A C ha (Or.inr ⟨b, hb, hba, rfl⟩) X ?_
          intro T hT
          show Cal X 165 _ T = _
          rw [C_X9_hold, mM_y hT (by omega) ha, cI_ok, if_neg (by decide), if_neg hm, mM_y hT (by omega) hb, cI_ok, if_neg (by decide), if_neg hab]
theorem those_ok {N V : Nat} {S : sS} (H : HD N V S) (p1 : Int32) (X : sX) : Cal X 26 [.ref 1, .int p1] S = some (some (.int (nI (mk (fun m => decide (¬ p1 < S 2 m ∧ ¬ S 3 m < p1)) N))), S) := by
  have hN := H.2.1
  rw [C_X1_thoseOfYear]
  have key := loop_eq (F := fun k => Run X 26 4 [some (.ref 1), some (.int p1), some (.int (nI (mk (fun m => decide (¬ p1 < S 2 m ∧ ¬ S 3 m < p1)) k))), some (.int (nI k))] [] S) N 0 (by
    intro k _ hk
    show Run X 26 4 _ [] S = Run X 26 4 _ [] S
    rw [L_X1_thoseOfYear_4, H.1, if_neg (nI_ge hk (by omega))]
    simp only [ix_nI (show k < 7 by omega) (show 7 < 2 ^ 31 by decide)]
    rw [nI_1]
    have e : ∀ b, decide (¬ p1 < S 2 k ∧ ¬ S 3 k < p1) = b → mk (fun m => decide (¬ p1 < S 2 m ∧ ¬ S 3 m < p1)) (k + 1) = mk (fun m => decide (¬ p1 < S 2 m ∧ ¬ S 3 m < p1)) k ||| (bif b then 2 ^ k else 0) := fun b hb => by rw [← hb]; rfl
    by_cases q1 : p1 < S 2 k
    · rw [if_pos q1, e false (decide_eq_false (fun q => q.1 q1))]
      simp
    · rw [if_neg q1]
      by_cases q2 : S 3 k < p1
      · rw [if_pos q2, e false (decide_eq_false (fun q => q.2 q2))]
        simp
      · rw [if_neg q2, e true (decide_eq_true ⟨q1, q2⟩), l1, oShl_1 (by omega), or_nI]
        rfl) (Nat.zero_le _)
  refine Eq.trans key ?_
  rw [L_X1_thoseOfYear_4, H.1, if_pos (nI_le (Nat.le_refl _) (by omega))]
theorem isOf_ok {N V K : Nat} {S : sS} (k3 : ∀ m, m < N → S 45 m = S 2 m ∧ S 46 m = S 3 m) (hN : N ≤ 7) {m : Nat} (hm : m < N) (p1 : Int32) (X : sX) : Cal X 159 [.ref 43, .int (nI m), .int p1] S = some (some (.int (bif decide (¬ p1 < S 2 m ∧ ¬ S 3 m < p1) then 1 else 0)), S) := by
  rw [C_X9_isOf, ix_nI (by omega) (by decide), (k3 m hm).1]
  by_cases q1 : p1 < S 2 m
  · rw [if_pos q1, decide_eq_false (fun q => q.1 q1)]
    rfl
  · rw [if_neg q1, ix_nI (by omega) (by decide), (k3 m hm).2]
    by_cases q2 : S 3 m < p1
    · rw [if_pos q2, decide_eq_false (fun q => q.2 q2)]
      rfl
    · rw [if_neg q2, decide_eq_true ⟨q1, q2⟩]
      rfl
