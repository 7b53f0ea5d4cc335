/-! a book is read -/
theorem TX_fr {L : Nat} {S S' : sS} (h : TX L S) (f : fr [2, 3, 4, 5, 6, 7, 8, 9, 10, 11] [(1, 0), (1, 1), (1, 2)] S S') : TX L S' := by
  obtain ⟨a, b, c⟩ := h
  refine ⟨a, ?_, ?_⟩
  · rw [fr_fld f 23 2 (by decide) (by decide)]; exact b
  · rw [fr_cell f 24 (by decide) (by decide)]; exact c
theorem TM_fr {L : Nat} {S S' T T' : sS} (h : TM L S T) (f : fr [2, 3, 4, 5, 6, 7, 8, 9, 10, 11] [(1, 0), (1, 1), (1, 2)] S S') (g : fr [45, 46, 47, 48, 49, 50, 51, 52, 53, 54] [(43, 11), (43, 12), (43, 13), (43, 14)] T T') : TM L S' T' := by
  obtain ⟨a, b⟩ := h
  unfold TM
  rw [fr_fld g 43 16 (by decide) (by decide), fr_cell g 55 (by decide) (by decide), fr_cell f 24 (by decide) (by decide)]
  exact ⟨a, b⟩
theorem read_loop {L : Nat} (X : sX) : ∀ d, ∀ (S T : sS) (N V K k i : Nat) (came : Int32), TX L S → TM L S T → HH N V K (mixS S T) → RM N V K (mixS S T) → L ≤ k + d → i ≤ k → k < 2 ^ 20 → ∃ a S1 T1 p f q, Run X 3 15 [some (.ref 23), some (.int came), some (.int (nI i))] [] (st S (nI k) (-9)) = some (some (.int a), up2 (st S1 p f) 23 2 0) ∧ Run X 178 9 [some (.ref 43), some (.int came), some (.int 1)] [] (ma T (nI k)) = some (some (.int a), up2 (ma T1 q) 43 16 0) ∧ BJ N S T S1 T1 := by
  intro d
  induction d with
  | zero =>
    intro S T N V K k i came h hT H M hd hi hk
    refine ⟨came, S, T, nI k, -9, nI k, ?_, ?_, N, V, K, Nat.le_refl _, H, M, fr_rfl, fr_rfl⟩
    · rw [L_X0_readAll_15, st_4, if_pos rfl, st_2, st_3, h.2.1]
      by_cases q : 90 ≤ nI i
      · rw [if_pos q]
      · rw [if_neg q, if_pos (nI_le (by omega) (by omega))]
    · rw [L_X9_read_9, if_neg (by decide), ma_16, ma_17, hT.1, if_pos (nI_le (by omega) (by omega)), if_neg (by decide)]
  | succ d ih =>
    intro S T N V K k i came h hT H M hd hi hk
    have hL := h.1
    by_cases hkL : k < L
    case neg =>
      refine ⟨came, S, T, nI k, -9, nI k, ?_, ?_, N, V, K, Nat.le_refl _, H, M, fr_rfl, fr_rfl⟩
      · rw [L_X0_readAll_15, st_4, if_pos rfl, st_2, st_3, h.2.1]
        by_cases q : 90 ≤ nI i
        · rw [if_pos q]
        · rw [if_neg q, if_pos (nI_le (by omega) (by omega))]
      · rw [L_X9_read_9, if_neg (by decide), ma_16, ma_17, hT.1, if_pos (nI_le (by omega) (by omega)), if_neg (by decide)]
    have st1 : Run X 3 15 [some (.ref 23), some (.int came), some (.int (nI i))] [] (st S (nI k) (-9)) = cV (Cal X 4 [.ref 23] (st S (nI k) (-9))) fun S1 => if (S1 23 4) = (-9) then (Run X 3 15 [some (.ref 23), some (.int (came + 1)), some (.int (nI (i + 1)))] [] S1) else Run X 3 15 [some (.ref 23), some (.int came), some (.int (nI (i + 1)))] [] S1 := by
      rw [L_X0_readAll_15, l90, if_neg (nI_ge (by omega) (by decide)), st_2, st_3, h.2.1, if_neg (nI_ge hkL (by omega)), st_4, if_pos rfl, nI_1]
    have st2 : Run X 178 9 [some (.ref 43), some (.int came), some (.int 1)] [] (ma T (nI k)) = cI (Cal X 177 [.ref 43] (ma T (nI k))) fun r2 S1 => if r2 = 0 then (Run X 178 9 [some (.ref 43), some (.int (came + 0)), some (.int r2)] [] S1) else Run X 178 9 [some (.ref 43), some (.int (came + 1)), some (.int r2)] [] S1 := by
      rw [L_X9_read_9, if_neg (by decide), ma_16, ma_17, hT.1, if_neg (nI_ge hkL (by omega))]
    rcases stmS h hT H M k (by omega) X with ⟨p', q, h1, e1, e2⟩ | ⟨S', T', k', h1, h2, e1, e2, N', V', K', hNN, H', M', f1, f2⟩
    · have hf : nI q ≠ -9 := nI_nem9 (by omega)
      refine ⟨-20 - nI q, S, T, p', nI q, nI q, ?_, ?_, N, V, K, Nat.le_refl _, H, M, fr_rfl, fr_rfl⟩
      · rw [st1, e1, cV_ok, st_4, if_neg hf, L_X0_readAll_15, st_4, if_neg hf, if_neg hf]
        by_cases q1 : 90 ≤ nI (i + 1)
        · rw [if_pos q1]
        · rw [if_neg q1]
          by_cases q2 : st S p' (nI q) 23 2 ≤ st S p' (nI q) 23 3
          · rw [if_pos q2]
          · rw [if_neg q2]
      · rw [st2, e2, cI_ok, if_pos rfl, L_X9_read_9, if_pos rfl, if_pos rfl, ma_17]
    · obtain ⟨a, S1, T1, p, f, q, g1, g2, N2, V2, K2, hN2, H2, M2, f3, f4⟩ := ih S' T' N' V' K' k' (i + 1) (came + 1) (TX_fr h f1) (TM_fr hT f1 f2) H' M' (by omega) (by omega) h2
      refine ⟨a, S1, T1, p, f, q, ?_, ?_, N2, V2, K2, by omega, H2, M2, fr_trans f1 f3, fr_trans f2 f4⟩
      · rw [st1, e1, cV_ok, st_4, if_pos rfl]
        exact g1
      · rw [st2, e2, cI_ok, if_neg (by decide)]
        exact g2
theorem mix_eq {S W : sS} (h : ∀ c, 43 ≤ c → W c = S c) : mixS S W = S := by
  funext c
  unfold mixS
  cases hb : Nat.blt c 43 with
  | true => rfl
  | false =>
    refine h c ?_
    rcases Nat.lt_or_ge c 43 with q | q
    · have := Nat.blt_eq.mpr q
      rw [hb] at this
      cases this
    · exact q
theorem c_read {S : sS} (R : Rel S) (X : sX) : Two (Cal X 103 [.ref 0] S) (fun S => Cal X 178 [.ref 43] S) := by
  obtain ⟨N, V, K, H, ⟨L, l1, l2, l3, l4⟩, E, I, A, C, M⟩ := id R
  have hX : TX L S := ⟨l1, l2, fun j hj => by
    obtain ⟨t, ht, e, _⟩ := l4 j hj
    exact ⟨t, ht, e⟩⟩
  have hT : ∀ W : sS, W 43 = S 43 → W 55 = S 55 → TM L S W := fun W w1 w2 => ⟨by rw [w1]; exact l3, fun j hj => by
    obtain ⟨t, _, e, e'⟩ := l4 j hj
    rw [w2, e, e']⟩
  have mSS : mixS S S = S := mix_eq (fun _ _ => rfl)
  obtain ⟨a, S1, T1, p, f, q, e1, -, N1, V1, K1, -, -, -, f1, -⟩ := read_loop X L S S N V K 0 0 0 hX (hT S rfl rfl) (by rw [mSS]; exact H) (by rw [mSS]; exact M) (by omega) (Nat.le_refl _) (by decide)
  obtain ⟨U, hU⟩ : ∃ U, U = up2 (st S1 p f) 23 2 0 := ⟨_, rfl⟩
  rw [← hU] at e1
  have fW : fr [2, 3, 4, 5, 6, 7, 8, 9, 10, 11] [(1, 0), (1, 1), (1, 2), (23, 2), (23, 3), (23, 4), (25, 4), (29, 11), (29, 12), (29, 13)] S (vcS U) := by
    rw [hU]
    unfold vcS st
    exact fr_upF (fr_upF (fr_upF (fr_upF (fr_upF (fr_upF (fr_upF (fr_mono f1 (by decide) (by decide)) (by decide)) (by decide)) (by decide)) (by decide)) (by decide)) (by decide)) (by decide)
  have hW : ∀ c, 43 ≤ c → vcS U c = S c := fun c hc => fr_cell fW c (fun hm => by simp only [List.mem_cons, List.not_mem_nil, or_false] at hm; omega) (fun p hp => by
    simp only [List.mem_cons, List.not_mem_nil, or_false] at hp
    rcases hp with rfl | rfl | rfl | rfl | rfl | rfl | rfl | rfl | rfl | rfl <;> (intro hq; simp only at hq; omega))
  have mSW : mixS S (vcS U) = S := mix_eq hW
  obtain ⟨a', S1', T1', p', f', q', g1, g2, N', V', K', hNN, H', M', f2, f3⟩ := read_loop X L S (vcS U) N V K 0 0 0 hX (hT (vcS U) (hW 43 (by decide)) (hW 55 (by decide))) (by rw [mSW]; exact H) (by rw [mSW]; exact M) (by omega) (Nat.le_refl _) (by decide)
  have inj := e1.symm.trans g1
  have ha : a = a' := by
    have := congrArg (fun o => match o with | some (some (.int z), _) => z | _ => 0) inj
    exact this
  have hU' : U = up2 (st S1' p' f') 23 2 0 := by
    have := congrArg (fun o => match o with | some (_, z) => z | _ => U) inj
    exact this
  subst ha
  have ec : Cal X 103 [.ref 0] S = some (some (.int a), vcS U) := by
    rw [C_X8_read, C_X0_readAll]
    have e1' : Run X 3 15 [some (.ref 23), some (.int 0), some (.int 0)] [] (up2 (up2 S 23 3 0) 23 4 (-9)) = some (some (.int a), U) := e1
    rw [e1', cI_ok, vch_ok, cV_ok]
    rfl
  obtain ⟨Z, hZ⟩ : ∃ Z, Z = up2 (ma T1' q') 43 16 0 := ⟨_, rfl⟩
  rw [← hZ] at g2
  refine ⟨a, vcS U, Z, ec, ?_, ?_⟩
  · show Cal X 178 _ (vcS U) = _
    rw [C_X9_read]
    exact g2
  have fZ : fr [45, 46, 47, 48, 49, 50, 51, 52, 53, 54] [(43, 11), (43, 12), (43, 13), (43, 14), (43, 16), (43, 17)] (vcS U) Z := by
    rw [hZ]
    unfold ma
    exact fr_upF (fr_upF (fr_mono f3 (by decide) (by decide)) (by decide)) (by decide)
  have fA : fr [2, 3, 4, 5, 6, 7, 8, 9, 10, 11, 45, 46, 47, 48, 49, 50, 51, 52, 53, 54] [(1, 0), (1, 1), (1, 2), (23, 2), (23, 3), (23, 4), (25, 4), (29, 11), (29, 12), (29, 13), (43, 11), (43, 12), (43, 13), (43, 14), (43, 16), (43, 17)] S Z := fr_trans (fr_mono fW (by decide) (by decide)) (fr_mono fZ (by decide) (by decide))
  have z1 : ∀ c, c ∈ [1, 2, 3, 4, 5, 6, 7, 8, 9, 10, 11] → Z c = S1' c := by
    intro c hc
    rw [fr_cell fZ c (by revert c; decide) (by revert c; decide)]
    unfold vcS
    rw [up2_ne _ _ _ (by revert c; decide), up2_ne _ _ _ (by revert c; decide), up2_ne _ _ _ (by revert c; decide), up2_ne _ _ _ (by revert c; decide), hU']
    unfold st
    rw [up2_ne _ _ _ (by revert c; decide), up2_ne _ _ _ (by revert c; decide), up2_ne _ _ _ (by revert c; decide)]
  have z2 : ∀ c, c ∈ [45, 46, 47, 48, 49, 50, 51, 52, 53, 54, 57, 58] → Z c = T1' c := by
    intro c hc
    rw [hZ]
    unfold ma
    rw [up2_ne _ _ _ (by revert c; decide), up2_ne _ _ _ (by revert c; decide)]
  have zm : ag cH fH (mixS S1' T1') Z := by
    constructor
    · intro c hc
      simp only [cH, List.mem_cons, List.not_mem_nil, or_false] at hc
      rcases hc with rfl | rfl | rfl | rfl | rfl | rfl | rfl | rfl | rfl | rfl | rfl | rfl | rfl | rfl | rfl | rfl | rfl | rfl | rfl | rfl
      · exact z1 2 (by decide)
      · exact z1 3 (by decide)
      · exact z1 4 (by decide)
      · exact z1 5 (by decide)
      · exact z1 6 (by decide)
      · exact z1 7 (by decide)
      · exact z1 8 (by decide)
      · exact z1 9 (by decide)
      · exact z1 10 (by decide)
      · exact z1 11 (by decide)
      · exact z2 45 (by decide)
      · exact z2 46 (by decide)
      · exact z2 47 (by decide)
      · exact z2 48 (by decide)
      · exact z2 49 (by decide)
      · exact z2 50 (by decide)
      · exact z2 51 (by decide)
      · exact z2 52 (by decide)
      · exact z2 53 (by decide)
      · exact z2 54 (by decide)
    · intro pp hp
      simp only [fH, List.mem_cons, List.not_mem_nil, or_false] at hp
      rcases hp with rfl | rfl | rfl | rfl | rfl | rfl
      · show Z 1 0 = S1' 1 0
        rw [z1 1 (by decide)]
      · show Z 1 1 = S1' 1 1
        rw [z1 1 (by decide)]
      · show Z 1 2 = S1' 1 2
        rw [z1 1 (by decide)]
      · rw [hZ]; rfl
      · rw [hZ]; rfl
      · rw [hZ]; rfl
  refine ⟨N', V', K', HH_ag zm H', ⟨0, by omega, ?_, ?_, fun j hj => absurd hj (Nat.not_lt_zero j)⟩, ?_, RI_ag (fr_ag fA (by decide)) I, RA_mono (RA_ag (fr_ag fA (by decide)) A) hNN, RC_vc C ?_ ?_ ?_ ?_ (fr_ag fA (by decide)), RM_ag ?_ M'⟩
  · rw [fr_fld fZ 23 2 (by decide) (by decide), hU]
    rfl
  · rw [hZ]; rfl
  · rw [fr_cell fA 44 (by decide) (by decide), fr_cell fA 42 (by decide) (by decide)]; exact E
  · rw [fr_fld fZ 25 4 (by decide) (by decide)]; rfl
  · rw [fr_fld fZ 29 11 (by decide) (by decide)]; rfl
  · rw [fr_fld fZ 29 12 (by decide) (by decide)]; rfl
  · rw [fr_fld fZ 29 13 (by decide) (by decide)]; rfl
  · constructor
    · intro c hc
      simp only [List.mem_cons, List.not_mem_nil, or_false] at hc
      rcases hc with rfl | rfl | rfl | rfl | rfl | rfl
      · exact z1 8 (by decide)
      · exact z1 9 (by decide)
      · exact z2 51 (by decide)
      · exact z2 52 (by decide)
      · exact z2 57 (by decide)
      · exact z2 58 (by decide)
    · intro pp hp
      simp only [List.mem_cons, List.not_mem_nil, or_false] at hp
      rcases hp with rfl | rfl | rfl | rfl
      · rw [hZ]; rfl
      · rw [hZ]; rfl
      · rw [hZ]; rfl
      · rw [hZ]; rfl
