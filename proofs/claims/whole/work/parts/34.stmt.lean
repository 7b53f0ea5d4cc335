/-! statements of a book -/
theorem letter_1 (X : sX) (S : sS) (k : Nat) (f : Int32) : Cal X 11 [.ref 23, .int 1] (st S (nI k) f) = some (none, st S (nI (k + 1)) f) := by
  rw [C_X0_letter, if_neg (by decide), st_p, st_3, nI_1]
theorem letter_0 (X : sX) (S : sS) (k : Nat) : Cal X 11 [.ref 23, .int 0] (st S (nI k) (-9)) = some (none, st S (nI (k + 1)) (nI k)) := by
  rw [C_X0_letter, if_pos rfl, st_3, fail_ok, fl_y, cV_ok, st_p, st_3, nI_1]
def BJ (N : Nat) (S T S' T' : sS) : Prop := ∃ N' V' K', N ≤ N' ∧ HH N' V' K' (mixS S' T') ∧ RM N' V' K' (mixS S' T') ∧ fr [2, 3, 4, 5, 6, 7, 8, 9, 10, 11] [(1, 0), (1, 1), (1, 2)] S S' ∧ fr [45, 46, 47, 48, 49, 50, 51, 52, 53, 54] [(43, 11), (43, 12), (43, 13), (43, 14)] T T'
def Outc (N k : Nat) (S T : sS) (o m : sR) : Prop := (∃ p' q, q < 2 ^ 20 ∧ o = some (none, st S p' (nI q)) ∧ m = some (some (.int 0), ma T (nI q))) ∨ (∃ S' T' k', k < k' ∧ k' < 2 ^ 20 ∧ o = some (none, st S' (nI k') (-9)) ∧ m = some (some (.int 1), ma T' (nI k')) ∧ BJ N S T S' T')
/-! a member -/
noncomputable def mT4 (X : sX) (a b : Int32) (S7 : sS) : sR := cV (Cal X 12 [.ref 23, .int 59] S7) fun S9 => if (S9 23 4) = (-9) then (cI (Cal X 27 [.ref 1, .int a, .int b] S9) fun _ S10 => some (none, S10)) else some (none, S9)
noncomputable def mT3 (X : sX) (a q : Int32) (S6 : sS) : sR := cI (Cal X 15 [.ref 23] S6) fun r8 S7 => if a ≤ r8 then mT4 X a r8 S7 else cV (Cal X 9 [.ref 23, .int q] S7) fun S12 => mT4 X a r8 S12
theorem mem_eq (X : sX) (S : sS) : Cal X 5 [.ref 23] S = cI (Cal X 22 [.ref 1] S) fun r2 S1 => cV (Cal X 11 [.ref 23, .int r2] S1) fun S3 => cI (Cal X 15 [.ref 23] S3) fun r5 S4 => cV (Cal X 12 [.ref 23, .int 45] S4) fun S6 => mT3 X r5 (S6 23 3) S6 := C_X0_memberStatement X S
theorem mT4_f {L : Nat} {S : sS} (h : TX L S) {p f : Int32} (hf : f ≠ -9) (X : sX) (a b : Int32) : ∃ p', mT4 X a b (st S p f) = some (none, st S p' f) := by
  obtain ⟨p', e⟩ := expect_f h (c := 59) hf X (p := p)
  unfold mT4
  rw [e, cV_ok, st_4, if_neg hf]
  exact ⟨_, rfl⟩
theorem mT3_f {L : Nat} {S : sS} (h : TX L S) {p f : Int32} (hf : f ≠ -9) (X : sX) (a q : Int32) : ∃ p', mT3 X a q (st S p f) = some (none, st S p' f) := by
  obtain ⟨r, p', e⟩ := num_f h hf X (p := p)
  unfold mT3
  rw [e, cI_ok]
  by_cases c : a ≤ r
  · rw [if_pos c]; exact mT4_f h hf X a r
  · rw [if_neg c, fail_ok, fl_n hf, cV_ok]; exact mT4_f h hf X a r
theorem joC_st (S : sS) (p f : Int32) (N : Nat) (a b : Int32) : joC (st S p f) N a b = st (joC S N a b) p f := by
  unfold joC
  rw [st_up2 _ _ _ _ _ (by decide), st_up2 _ _ _ _ _ (by decide), st_up2 _ _ _ _ _ (by decide), st_up2 _ _ _ _ _ (by decide), st_up2 _ _ _ _ _ (by decide), st_up2 _ _ _ _ _ (by decide)]
theorem joM_ma (T : sS) (p : Int32) (N : Nat) (a b : Int32) : joM (ma T p) N a b = ma (joM T N a b) p := by
  unfold joM
  rw [ma_up2 _ _ _ _ (by decide), ma_up2 _ _ _ _ (by decide), ma_up2 _ _ _ _ (by decide), ma_up2 _ _ _ _ (by decide), ma_up2 _ _ _ _ (by decide), ma_up43 _ _ _ (by decide), ma_up43 _ _ _ (by decide)]
theorem fr_joC (S : sS) (N : Nat) (a b : Int32) : fr [2, 3, 4, 5, 6, 7, 8, 9, 10, 11] [(1, 0), (1, 1), (1, 2)] S (joC S N a b) := by
  unfold joC
  exact fr_upF (fr_upL (fr_upL (fr_upL (fr_upL (fr_upL fr_rfl (by decide)) (by decide)) (by decide)) (by decide)) (by decide)) (by decide)
theorem fr_joM (T : sS) (N : Nat) (a b : Int32) : fr [45, 46, 47, 48, 49, 50, 51, 52, 53, 54] [(43, 11), (43, 12), (43, 13), (43, 14)] T (joM T N a b) := by
  unfold joM
  exact fr_upF (fr_upF (fr_upL (fr_upL (fr_upL (fr_upL (fr_upL fr_rfl (by decide)) (by decide)) (by decide)) (by decide)) (by decide)) (by decide)) (by decide)
theorem jo_BJ {N V K : Nat} {S T : sS} (H : HH N V K (mixS S T)) (hN : N < 7) (a b : Int32) : BJ N S T (joC S N a b) (joM T N a b) := by
  refine ⟨N + 1, V, K, by omega, ?_, RM_new rfl, fr_joC S N a b, fr_joM T N a b⟩
  refine jo_HH H hN (p1 := a) (p2 := b) (mix_fr ?_ ?_) rfl rfl rfl rfl rfl rfl rfl rfl rfl rfl rfl rfl
  · unfold joC
    exact fr_upF (fr_upL (fr_upL (fr_upL (fr_upL (fr_upL fr_rfl (by decide)) (by decide)) (by decide)) (by decide)) (by decide)) (by decide)
  · unfold joM
    exact fr_upF (fr_upF (fr_upL (fr_upL (fr_upL (fr_upL (fr_upL fr_rfl (by decide)) (by decide)) (by decide)) (by decide)) (by decide)) (by decide)) (by decide)
theorem memS_f {L N V : Nat} {S : sS} (h : TX L S) (H : HD N V S) (hN : N = 7) (k : Nat) (hk : k < 2 ^ 19) (X : sX) : ∃ p', Cal X 5 [.ref 23] (st S (nI k) (-9)) = some (none, st S p' (nI k)) := by
  have hf : nI k ≠ -9 := nI_nem9 (by omega)
  subst hN
  obtain ⟨r, p1, e1⟩ := num_f h hf X (p := nI (k + 1))
  obtain ⟨p2, e2⟩ := expect_f h (c := 45) hf X (p := p1)
  rw [mem_eq, C_X1_hasRoomForMember, show st S (nI k) (-9) 1 0 = nI 7 from H.1, if_pos (show (7 : Int32) ≤ nI 7 by decide), cI_ok, letter_0, cV_ok, e1, cI_ok, e2, cV_ok]
  exact mT3_f h hf X _ _
theorem memS {L N V K : Nat} {S T : sS} (h : TX L S) (hT : TM L S T) (H : HH N V K (mixS S T)) (hN : N < 7) (k : Nat) (hk : k < 2 ^ 19) (X : sX) : Outc N k S T (Cal X 5 [.ref 23] (st S (nI k) (-9))) (Cal X 173 [.ref 43] (ma T (nI (k + 1)))) := by
  have HD0 : HD N V S := H.1
  have m1 : T 43 11 = nI N := H.2.2.2.1
  have hL := h.1
  rw [mem_eq, C_X1_hasRoomForMember, show st S (nI k) (-9) 1 0 = nI N from HD0.1, l7, if_neg (nI_ge hN (by decide)), cI_ok, letter_1, cV_ok, C_X9_readsMember]
  rcases NU_ex L S (k + 1) with ⟨a, k2, ha⟩ | hno
  case inr =>
    obtain ⟨r, e⟩ := num_n h (show k + 1 < 2 ^ 31 by omega) hno X
    have hf : nI (k + 1) ≠ -9 := nI_nem9 (by omega)
    obtain ⟨p2, e2⟩ := expect_f h (c := 45) hf X (p := nI (k + 1))
    rw [e, cI_ok, e2, cV_ok, mnum_n h hT (by omega) hno, cI_ok, if_pos (by decide)]
    obtain ⟨p3, e3⟩ := mT3_f h hf X r (st S p2 (nI (k + 1)) 23 3) (p := p2)
    exact Or.inl ⟨p3, k + 1, by omega, e3, rfl⟩
  obtain ⟨b1, b2, b3⟩ := NU_b ha
  rw [num_y h (by omega) ha, cI_ok, mnum_y h hT (by omega) ha, cI_ok, if_neg (nI_pos (by omega))]
  by_cases c1 : tx L S k2 = 45
  case neg =>
    have hf : nI k2 ≠ -9 := nI_nem9 (by omega)
    rw [expect_n h (by omega) c1, cV_ok, takes_n hL hT (by omega) c1, cI_ok, if_pos rfl]
    obtain ⟨p3, e3⟩ := mT3_f h hf X (nI a) (st S (nI (k2 + 1)) (nI k2) 23 3) (p := nI (k2 + 1))
    exact Or.inl ⟨p3, k2, by omega, e3, rfl⟩
  rw [expect_y h (by omega) c1, cV_ok, takes_y hL hT (by omega) c1, cI_ok, if_neg (by decide), st_3]
  unfold mT3
  rcases NU_ex L S (k2 + 1) with ⟨b, k4, hb⟩ | hno
  case inr =>
    obtain ⟨r, e⟩ := num_n h (show k2 + 1 < 2 ^ 31 by omega) hno X
    have hf : nI (k2 + 1) ≠ -9 := nI_nem9 (by omega)
    rw [e, cI_ok, mnum_n h hT (by omega) hno, cI_ok, if_neg (show ¬ (0 : Int32) ≤ -1 by decide), fail_ok, fl_n hf, cV_ok]
    obtain ⟨p3, e3⟩ := mT4_f h hf X (nI a) r (p := nI (k2 + 1))
    rw [e3]
    refine Or.inl ⟨p3, k2 + 1, by omega, ?_, rfl⟩
    by_cases c : nI a ≤ r
    · rw [if_pos c]
    · rw [if_neg c]
  obtain ⟨d1, d2, d3⟩ := NU_b hb
  rw [num_y h (by omega) hb, cI_ok, mnum_y h hT (by omega) hb, cI_ok, if_pos (nI_pos' (by omega))]
  by_cases c2 : a ≤ b
  case neg =>
    have hf : nI (k2 + 1) ≠ -9 := nI_nem9 (by omega)
    have hn : ¬ nI a ≤ nI b := nI_ge (by omega) (by omega)
    rw [if_neg hn, if_neg hn, fail_ok, fl_y, cV_ok, ma_p, ma_17]
    obtain ⟨p3, e3⟩ := mT4_f h hf X (nI a) (nI b) (p := nI k4)
    exact Or.inl ⟨p3, k2 + 1, by omega, e3, rfl⟩
  have hy : nI a ≤ nI b := nI_le c2 (by omega)
  rw [if_pos hy, if_pos hy]
  unfold mT4
  by_cases c3 : tx L S k4 = 59
  case neg =>
    rw [expect_n h (by omega) c3, cV_ok, st_4, if_neg (nI_nem9 (by omega)), takes_n hL hT (by omega) c3, cI_ok, if_pos rfl]
    exact Or.inl ⟨_, k4, by omega, rfl, rfl⟩
  rw [expect_y h (by omega) c3, cV_ok, st_4, if_pos rfl, takes_y hL hT (by omega) c3, cI_ok, if_neg (by decide), joC_ok (S := st S (nI (k4 + 1)) (-9)) HD0 hN, cI_ok, joM_ok (S := ma T (nI (k4 + 1))) m1 hN, cI_ok, joC_st, joM_ma]
  exact Or.inr ⟨_, _, k4 + 1, by omega, by omega, rfl, rfl, jo_BJ H hN _ _⟩
/-! a party -/
noncomputable def pT2 (X : sX) (a b : Int32) (S6 : sS) : sR := cV (Cal X 12 [.ref 23, .int 59] S6) fun S8 => if (S8 23 4) = (-9) then (cI (Cal X 28 [.ref 1, .int a, .int b] S8) fun _ S9 => some (none, S9)) else some (none, S8)
noncomputable def pT1 (X : sX) (a : Int32) (S4 : sS) : sR := cI (Cal X 14 [.ref 23, .int 4] S4) fun r7 S6 => pT2 X a r7 S6
theorem par_eq (X : sX) (S : sS) : Cal X 8 [.ref 23] S = cV (Cal X 11 [.ref 23, .int 1] S) fun S1 => cI (Cal X 17 [.ref 1] S1) fun r3 S2 => cI (Cal X 14 [.ref 23, .int r3] S2) fun r5 S4 => pT1 X r5 S4 := C_X0_partyStatement X S
theorem pT2_f {L : Nat} {S : sS} (h : TX L S) {p f : Int32} (hf : f ≠ -9) (X : sX) (a b : Int32) : ∃ p', pT2 X a b (st S p f) = some (none, st S p' f) := by
  obtain ⟨p', e⟩ := expect_f h (c := 59) hf X (p := p)
  unfold pT2
  rw [e, cV_ok, st_4, if_neg hf]
  exact ⟨_, rfl⟩
theorem pT1_f {L : Nat} {S : sS} (h : TX L S) {p f : Int32} (hf : f ≠ -9) (X : sX) (a : Int32) : ∃ p', pT1 X a (st S p f) = some (none, st S p' f) := by
  obtain ⟨r, p', e⟩ := digit_f h (b := 4) hf X (p := p)
  unfold pT1
  rw [e, cI_ok]
  exact pT2_f h hf X a r
theorem isD_ex (L : Nat) (S : sS) (k B : Nat) : (∃ d, d < B ∧ tx L S k = nI (48 + d)) ∨ ∀ d, d < B → tx L S k ≠ nI (48 + d) := by
  by_cases h : ∃ d, d < B ∧ tx L S k = nI (48 + d)
  · exact Or.inl h
  · exact Or.inr fun d q1 q2 => h ⟨d, q1, q2⟩
theorem parS {L N V K : Nat} {S T : sS} (h : TX L S) (hT : TM L S T) (H : HH N V K (mixS S T)) (M : RM N V K (mixS S T)) (k : Nat) (hk : k < 2 ^ 19) (X : sX) : Outc N k S T (Cal X 8 [.ref 23] (st S (nI k) (-9))) (Cal X 176 [.ref 43] (ma T (nI (k + 1)))) := by
  have HD0 : HD N V S := H.1
  have hN := HD0.2.1
  have m1 : T 43 11 = nI N := H.2.2.2.1
  have hL := h.1
  rw [par_eq, letter_1, cV_ok, C_X1_members, cI_ok, show st S (nI (k + 1)) (-9) 1 0 = nI N from HD0.1, C_X9_readsParty, show ma T (nI (k + 1)) 43 11 = nI N from m1]
  rcases isD_ex L S (k + 1) N with ⟨a, ha, ea⟩ | hno
  case inr =>
    have hf : nI (k + 1) ≠ -9 := nI_nem9 (by omega)
    rw [digit_n h (by omega) hno, cI_ok, mdig_n hL h hT (by omega) (by omega) hno, cI_ok, if_neg (show ¬ (0 : Int32) ≤ -1 by decide)]
    obtain ⟨p3, e3⟩ := pT1_f h hf X 0 (p := nI (k + 1))
    exact Or.inl ⟨p3, k + 1, by omega, e3, rfl⟩
  rw [digit_y h (by omega) (by omega) ha ea, cI_ok, mdig_y hL hT (by omega) (by omega) ha ea, cI_ok, if_pos (nI_pos' (by omega))]
  unfold pT1
  rw [l4]
  rcases isD_ex L S (k + 1 + 1) 4 with ⟨b, hb, eb⟩ | hno
  case inr =>
    have hf : nI (k + 1 + 1) ≠ -9 := nI_nem9 (by omega)
    rw [digit_n h (by omega) hno, cI_ok, mdig_n hL h hT (by omega) (by decide) hno, cI_ok, if_pos (by decide)]
    obtain ⟨p3, e3⟩ := pT2_f h hf X (nI a) 0 (p := nI (k + 1 + 1))
    exact Or.inl ⟨p3, k + 1 + 1, by omega, e3, rfl⟩
  rw [digit_y h (by omega) (by decide) hb eb, cI_ok, mdig_y hL hT (by omega) (by decide) hb eb, cI_ok, if_neg (nI_pos (by omega))]
  unfold pT2
  by_cases c3 : tx L S (k + 1 + 1 + 1) = 59
  case neg =>
    rw [expect_n h (by omega) c3, cV_ok, st_4, if_neg (nI_nem9 (by omega)), takes_n hL hT (by omega) c3, cI_ok, if_pos rfl]
    exact Or.inl ⟨_, k + 1 + 1 + 1, by omega, rfl, rfl⟩
  rw [expect_y h (by omega) c3, cV_ok, st_4, if_pos rfl, takes_y hL hT (by omega) c3, cI_ok, if_neg (by decide), C_X1_changeParty, isM_y (S := st S (nI (k + 1 + 1 + 1 + 1)) (-9)) HD0 ha, cI_ok, if_neg (by decide), ix_nI (by omega) (by decide), ix_nI (by omega) (by decide), cI_ok, ix_nI (by omega) (by decide), st_up2 _ _ _ _ _ (by decide), ma_up2 _ _ _ _ (by decide)]
  refine Or.inr ⟨up2 S 4 a (nI b), up2 T 47 a (nI b), k + 1 + 1 + 1 + 1, by omega, by omega, rfl, rfl, N, V, K, Nat.le_refl _, ?_, ?_, fr_upL fr_rfl (by decide), fr_upL fr_rfl (by decide)⟩
  · have f : fr [4, 47] [] (mixS S T) (mixS (up2 S 4 a (nI b)) (up2 T 47 a (nI b))) := mix_fr (fr_upL fr_rfl (by decide)) (fr_upL fr_rfl (by decide))
    refine HHm H (fr_ag f (by decide)) ?_
    intro i hi
    rw [fr_cell f 2 (by decide) (by decide), fr_cell f 3 (by decide) (by decide), fr_cell f 5 (by decide) (by decide), fr_cell f 6 (by decide) (by decide), fr_cell f 45 (by decide) (by decide), fr_cell f 46 (by decide) (by decide), fr_cell f 53 (by decide) (by decide), fr_cell f 54 (by decide) (by decide)]
    obtain ⟨g1, g2, g3, g4⟩ := H.2.2.2.2.2.2.1 i hi
    refine ⟨g1, g2, ?_, g4⟩
    show up2 T 47 a (nI b) 47 i = up2 S 4 a (nI b) 4 i
    have g3' : T 47 i = S 4 i := g3
    simp only [up2_ap]
    by_cases hj : i = a <;> simp [hj, g3']
  · have f : fr [4, 47] [] (mixS S T) (mixS (up2 S 4 a (nI b)) (up2 T 47 a (nI b))) := mix_fr (fr_upL fr_rfl (by decide)) (fr_upL fr_rfl (by decide))
    exact RM_ag (fr_ag f (by decide)) M
/-! what is held -/
theorem isHeld_g {K : Nat} {S : sS} (k1 : S 1 2 = nI K) (k2 : K ≤ 10) {a p2 : Int32} {P : Nat → Prop} (hP : ∀ k, k < K → ((S 10 k = minI a p2 ∧ S 11 k = maxI a p2) ↔ P k)) (X : sX) : ((∃ k, k < K ∧ P k) → Cal X 31 [.ref 1, .int a, .int p2] S = some (some (.int 1), S)) ∧ ((∀ k, k < K → ¬ P k) → Cal X 31 [.ref 1, .int a, .int p2] S = some (some (.int 0), S)) := by
  rw [C_X1_isHeld]
  refine loop_ex (F := fun k => Run X 31 2 [some (.ref 1), some (.int a), some (.int p2), some (.int (nI k))] [] S) K ?_ ?_ ?_
  · intro k hk hp
    obtain ⟨q1, q2⟩ := (hP k hk).mpr hp
    show Run X 31 2 _ [] S = _
    rw [L_X1_isHeld_2, k1, if_neg (nI_ge hk (by omega)), ix_nI (by omega) (by decide), if_pos q1, ix_nI (by omega) (by decide), if_pos q2]
  · intro k hk hp
    have hq := fun q => hp ((hP k hk).mp q)
    show Run X 31 2 _ [] S = Run X 31 2 _ [] S
    rw [L_X1_isHeld_2, k1, if_neg (nI_ge hk (by omega)), ix_nI (by omega) (by decide), nI_1]
    by_cases q1 : S 10 k = minI a p2
    · rw [if_pos q1, ix_nI (by omega) (by decide), if_neg (fun q2 => hq ⟨q1, q2⟩)]
    · rw [if_neg q1]
  · show Run X 31 2 _ [] S = _
    rw [L_X1_isHeld_2, k1, if_pos (nI_le (Nat.le_refl _) (by omega))]
noncomputable def hT2 (X : sX) (a b : Int32) (S10 : sS) : sR := cV (Cal X 12 [.ref 23, .int 59] S10) fun S13 => if (S13 23 4) = (-9) then (cI (Cal X 31 [.ref 1, .int a, .int b] S13) fun r15 S14 => if r15 = 0 then (cI (Cal X 32 [.ref 1, .int a, .int b] S14) fun _ S16 => some (none, S16)) else some (none, S14)) else some (none, S13)
noncomputable def hT1 (X : sX) (a q : Int32) (S6 : sS) : sR := cI (Cal X 17 [.ref 1] S6) fun r9 S8 => cI (Cal X 14 [.ref 23, .int r9] S8) fun r11 S10 => if a = r11 then (cV (Cal X 9 [.ref 23, .int q] S10) fun S12 => hT2 X a r11 S12) else hT2 X a r11 S10
theorem hel_eq (X : sX) (e : Int32) (S : sS) : Cal X 7 [.ref 23, .int e] S = cI (Cal X 24 [.ref 1] S) fun r2 S1 => cV (Cal X 11 [.ref 23, .int r2] S1) fun S3 => cI (Cal X 17 [.ref 1] S3) fun r5 S4 => cI (Cal X 14 [.ref 23, .int r5] S4) fun r7 S6 => if e = 0 then hT1 X r7 (S6 23 3) S6 else hT2 X r7 (-1) S6 := C_X0_heldStatement X e S
theorem hT2_f {L : Nat} {S : sS} (h : TX L S) {p f : Int32} (hf : f ≠ -9) (X : sX) (a b : Int32) : ∃ p', hT2 X a b (st S p f) = some (none, st S p' f) := by
  obtain ⟨p', e⟩ := expect_f h (c := 59) hf X (p := p)
  unfold hT2
  rw [e, cV_ok, st_4, if_neg hf]
  exact ⟨_, rfl⟩
theorem hT1_f {L : Nat} {S : sS} (h : TX L S) {p f : Int32} (hf : f ≠ -9) (X : sX) (a q : Int32) : ∃ p', hT1 X a q (st S p f) = some (none, st S p' f) := by
  obtain ⟨r, p', e⟩ := digit_f h (b := st S p f 1 0) hf X (p := p)
  unfold hT1
  rw [C_X1_members, cI_ok, e, cI_ok]
  by_cases c : a = r
  · rw [if_pos c, fail_ok, fl_n hf, cV_ok]
    exact hT2_f h hf X a r
  · rw [if_neg c]
    exact hT2_f h hf X a r
theorem helS_f {L K : Nat} {S : sS} (h : TX L S) (k1 : S 1 2 = nI K) (hK : K = 10) (k : Nat) (hk : k < 2 ^ 19) (e : Int32) (X : sX) : ∃ p', Cal X 7 [.ref 23, .int e] (st S (nI k) (-9)) = some (none, st S p' (nI k)) := by
  have hf : nI k ≠ -9 := nI_nem9 (by omega)
  subst hK
  obtain ⟨r, p1, e1⟩ := digit_f h (b := st S (nI (k + 1)) (nI k) 1 0) hf X (p := nI (k + 1))
  rw [hel_eq, C_X1_hasRoomForHeld, show st S (nI k) (-9) 1 2 = nI 10 from k1, if_pos (show (10 : Int32) ≤ nI 10 by decide), cI_ok, letter_0, cV_ok, C_X1_members, cI_ok, e1, cI_ok]
  by_cases c : e = 0
  · rw [if_pos c]; exact hT1_f h hf X _ _
  · rw [if_neg c]; exact hT2_f h hf X _ _
theorem haC_st (S : sS) (p f : Int32) (K a : Nat) (b : Int32) : haC (st S p f) K a b = st (haC S K a b) p f := by
  unfold haC
  rw [st_up2 _ _ _ _ _ (by decide), st_up2 _ _ _ _ _ (by decide), st_up2 _ _ _ _ _ (by decide)]
theorem haM_ma (T : sS) (p : Int32) (K a : Nat) (b : Int32) : haM (ma T p) K a b = ma (haM T K a b) p := by
  unfold haM
  rw [ma_up2 _ _ _ _ (by decide), ma_up2 _ _ _ _ (by decide), ma_up43 _ _ _ (by decide), ma_up43 _ _ _ (by decide)]
theorem ha_BJ {N V K a : Nat} {p2 : Int32} {S T : sS} (H : HH N V K (mixS S T)) (hK : K < 10) (ha : a < N) (hb : p2 = -1 ∨ ∃ b, b < N ∧ b ≠ a ∧ p2 = nI b) : BJ N S T (haC S K a p2) (haM T K a p2) := by
  have f1 : fr [10, 11] [(1, 2)] S (haC S K a p2) := by
    unfold haC
    exact fr_upF (fr_upL (fr_upL fr_rfl (by decide)) (by decide)) (by decide)
  have f2 : fr [51, 52] [(43, 13), (43, 14)] T (haM T K a p2) := by
    unfold haM
    exact fr_upF (fr_upF (fr_upL (fr_upL fr_rfl (by decide)) (by decide)) (by decide)) (by decide)
  have f : fr [10, 11, 51, 52] [(1, 2), (43, 13), (43, 14)] (mixS S T) (mixS (haC S K a p2) (haM T K a p2)) := mix_fr (fr_mono f1 (by decide) (by decide)) (fr_mono f2 (by decide) (by decide))
  exact ⟨N, V, K + 1, Nat.le_refl _, ha_HH H hK ha hb (fr_ag f (by decide)) rfl rfl rfl rfl rfl rfl, RM_new rfl, fr_mono f1 (by decide) (by decide), fr_mono f2 (by decide) (by decide)⟩
/-- the end of it: the sign behind, and whether it is held so -/
theorem helE {L N V K : Nat} {S T : sS} (h : TX L S) (hT : TM L S T) (H : HH N V K (mixS S T)) (M : RM N V K (mixS S T)) (hK : K < 10) {a : Nat} {p2 : Int32} (ha : a < N) (hb : p2 = -1 ∨ ∃ b, b < N ∧ b ≠ a ∧ p2 = nI b) (k0 k : Nat) (hk : k < 2 ^ 19) (hk0 : k0 ≤ k) (X : sX) : Outc N k0 S T (hT2 X (nI a) p2 (st S (nI k) (-9))) (cI (Cal X 170 [.ref 43, .int 59] (ma T (nI k))) fun r4 S3 => if r4 = 0 then (some (some (.int 0), S3)) else cI (Cal X 163 [.ref 43, .int (nI a), .int p2] S3) fun r6 S5 => if r6 = 0 then (cV (Cal X 164 [.ref 43, .int (nI a), .int p2] S5) fun S7 => some (some (.int 1), S7)) else some (some (.int 1), S5)) := by
  have hL := h.1
  have HD0 : HD N V S := H.1
  have hN := HD0.2.1
  have k1 : S 1 2 = nI K := H.2.1
  have m3 : T 43 13 = nI K := H.2.2.2.2.2.1
  unfold hT2
  by_cases c3 : tx L S k = 59
  case neg =>
    rw [expect_n h (by omega) c3, cV_ok, st_4, if_neg (nI_nem9 (by omega)), takes_n hL hT (by omega) c3, cI_ok, if_pos rfl]
    exact Or.inl ⟨_, k, by omega, rfl, rfl⟩
  rw [expect_y h (by omega) c3, cV_ok, st_4, if_pos rfl, takes_y hL hT (by omega) c3, cI_ok, if_neg (by decide)]
  have hc := isHeld_g (S := st S (nI (k + 1)) (-9)) k1 (by omega) (a := nI a) (p2 := p2) (P := fun j => hs T (nI a) p2 j) (fun j hj => hs_iff (S := mixS S T) hN (H.2.2.2.2.2.2.2.2 j hj) ha hb) X
  have hm := isHeld_m (S := ma T (nI (k + 1))) m3 (by omega) (nI a) p2 X
  by_cases hx : ∃ j, j < K ∧ hs T (nI a) p2 j
  · rw [hc.1 hx, cI_ok, if_neg (by decide), hm.1 hx, cI_ok, if_neg (by decide)]
    exact Or.inr ⟨S, T, k + 1, by omega, by omega, rfl, rfl, N, V, K, Nat.le_refl _, H, M, fr_rfl, fr_rfl⟩
  · have hx' : ∀ j, j < K → ¬ hs T (nI a) p2 j := fun j hj q => hx ⟨j, hj, q⟩
    rw [hc.2 hx', cI_ok, if_pos rfl, hm.2 hx', cI_ok, if_pos rfl, haC_ok (S := st S (nI (k + 1)) (-9)) k1 hK, cI_ok, haM_ok (S := ma T (nI (k + 1))) m3 hK, cV_ok, haC_st, haM_ma]
    exact Or.inr ⟨_, _, k + 1, by omega, by omega, rfl, rfl, ha_BJ H hK ha hb⟩
theorem helS {L N V K : Nat} {S T : sS} (h : TX L S) (hT : TM L S T) (H : HH N V K (mixS S T)) (M : RM N V K (mixS S T)) (hK : K < 10) (k : Nat) (hk : k < 2 ^ 18) (e : Bool) (X : sX) : Outc N k S T (Cal X 7 [.ref 23, .int (bI e)] (st S (nI k) (-9))) (Cal X 175 [.ref 43, .int (bI (!e))] (ma T (nI (k + 1)))) := by
  have HD0 : HD N V S := H.1
  have hN := HD0.2.1
  have hL := h.1
  have k1 : S 1 2 = nI K := H.2.1
  have m1 : T 43 11 = nI N := H.2.2.2.1
  rw [hel_eq, C_X1_hasRoomForHeld, show st S (nI k) (-9) 1 2 = nI K from k1, l10, if_neg (nI_ge hK (by decide)), cI_ok, letter_1, cV_ok, C_X1_members, cI_ok, show st S (nI (k + 1)) (-9) 1 0 = nI N from HD0.1, C_X9_readsHeld, show ma T (nI (k + 1)) 43 11 = nI N from m1]
  rcases isD_ex L S (k + 1) N with ⟨a, ha, ea⟩ | hno
  case inr =>
    have hf : nI (k + 1) ≠ -9 := nI_nem9 (by omega)
    rw [digit_n h (by omega) hno, cI_ok, mdig_n hL h hT (by omega) (by omega) hno, cI_ok, if_neg (show ¬ (0 : Int32) ≤ -1 by decide)]
    cases e with
    | false =>
      rw [if_pos (show bI false = 0 from rfl)]
      obtain ⟨p3, e3⟩ := hT1_f h hf X 0 (st S (nI (k + 1)) (nI (k + 1)) 23 3) (p := nI (k + 1))
      exact Or.inl ⟨p3, k + 1, by omega, e3, rfl⟩
    | true =>
      rw [if_neg (show ¬ bI true = 0 by decide)]
      obtain ⟨p3, e3⟩ := hT2_f h hf X 0 (-1) (p := nI (k + 1))
      exact Or.inl ⟨p3, k + 1, by omega, e3, rfl⟩
  rw [digit_y h (by omega) (by omega) ha ea, cI_ok, mdig_y hL hT (by omega) (by omega) ha ea, cI_ok, if_pos (nI_pos' (by omega))]
  cases e with
  | true =>
    rw [if_neg (show ¬ bI true = 0 by decide), if_pos (show bI (!true) = 0 from rfl)]
    exact helE h hT H M hK ha (Or.inl rfl) k (k + 1 + 1) (by omega) (by omega) X
  | false =>
    rw [if_pos (show bI false = 0 from rfl), if_neg (show ¬ bI (!false) = 0 by decide), sign_ok hL hT (by omega), cI_ok, st_3]
    unfold hT1
    rw [C_X1_members, cI_ok, show st S (nI (k + 1 + 1)) (-9) 1 0 = nI N from HD0.1, show ma T (nI (k + 1 + 1)) 43 11 = nI N from m1]
    rw [l48, nI_add]
    by_cases c : tx L S (k + 1 + 1) = nI (48 + a)
    · have hf : nI (k + 1 + 1) ≠ -9 := nI_nem9 (by omega)
      rw [if_pos c, digit_y h (by omega) (by omega) ha c, cI_ok, if_pos rfl, fail_ok, fl_y, cV_ok]
      obtain ⟨p3, e3⟩ := hT2_f h hf X (nI a) (nI a) (p := nI (k + 1 + 1 + 1))
      exact Or.inl ⟨p3, k + 1 + 1, by omega, e3, rfl⟩
    · rw [if_neg c]
      rcases isD_ex L S (k + 1 + 1) N with ⟨b, hb, eb⟩ | hno
      · have hba : b ≠ a := fun q => c (by rw [← q]; exact eb)
        rw [digit_y h (by omega) (by omega) hb eb, cI_ok, mdig_y hL hT (by omega) (by omega) hb eb, cI_ok, if_pos (nI_pos' (by omega)), if_neg (by rw [nI_eq (by omega) (by omega)]; exact Ne.symm hba)]
        exact helE h hT H M hK ha (Or.inr ⟨b, hb, hba, rfl⟩) k (k + 1 + 1 + 1) (by omega) (by omega) X
      · have hf : nI (k + 1 + 1) ≠ -9 := nI_nem9 (by omega)
        rw [digit_n h (by omega) hno, cI_ok, mdig_n hL h hT (by omega) (by omega) hno, cI_ok, if_neg (show ¬ (0 : Int32) ≤ -1 by decide), fail_ok, fl_n hf, cV_ok]
        obtain ⟨p3, e3⟩ := hT2_f h hf X (nI a) 0 (p := nI (k + 1 + 1))
        rw [e3]
        refine Or.inl ⟨p3, k + 1 + 1, by omega, ?_, rfl⟩
        by_cases c2 : nI a = 0
        · rw [if_pos c2]
        · rw [if_neg c2]
