/-! a vote in a book -/
theorem word_f {L : Nat} {S : sS} (h : TX L S) {p f b : Int32} (hf : f ≠ -9) (X : sX) : ∃ r, Cal X 13 [.ref 23, .int b] (st S p f) = some (some (.int r), st S (p + 1) f) := by
  obtain ⟨r, e⟩ := next_a h p f X
  refine ⟨r, ?_⟩
  rw [C_X0_word, e, cI_ok, fail_ok, fl_n hf, cV_ok, st_p, st_3]
  repeat' split
  all_goals rfl
def gW (w : Int32) (b : Bool) : Prop := w = 97 ∨ ((w = 121 ∨ w = 110) ∧ b = true)
theorem word_y {L : Nat} {S : sS} (h : TX L S) {k : Nat} (hk : k < 2 ^ 31) {b : Bool} (hw : gW (tx L S k) b) (X : sX) : Cal X 13 [.ref 23, .int (bI b)] (st S (nI k) (-9)) = some (some (.int (tx L S k)), st S (nI (k + 1)) (-9)) := by
  rw [C_X0_word, next_ok h hk, cI_ok, st_p, st_3, nI_1]
  rcases hw with e | ⟨e | e, rfl⟩
  · rw [e, if_neg (by decide), if_neg (by decide), if_pos rfl]
  · rw [e, if_pos rfl, if_neg (by decide), if_neg (by decide), if_neg (by decide)]
  · rw [e, if_neg (by decide), if_pos rfl, if_neg (by decide), if_neg (by decide), if_neg (by decide)]
theorem word_n {L : Nat} {S : sS} (h : TX L S) {k : Nat} (hk : k < 2 ^ 31) {b : Bool} (hw : ¬ gW (tx L S k) b) (X : sX) : Cal X 13 [.ref 23, .int (bI b)] (st S (nI k) (-9)) = some (some (.int (tx L S k)), st S (nI (k + 1)) (nI k)) := by
  rw [C_X0_word, next_ok h hk, cI_ok, st_3, fail_ok, fl_y, cV_ok]
  simp only [st_p, st_3, nI_1]
  have h97 : ¬ tx L S k = 97 := fun q => hw (Or.inl q)
  by_cases h121 : tx L S k = 121
  · have hb : b = false := by
      cases b with
      | false => rfl
      | true => exact absurd (Or.inr ⟨Or.inl h121, rfl⟩) hw
    rw [if_pos h121, if_neg h97, if_neg (by decide), hb, if_pos (show bI false = 0 from rfl)]
  · rw [if_neg h121]
    by_cases h110 : tx L S k = 110
    · have hb : b = false := by
        cases b with
        | false => rfl
        | true => exact absurd (Or.inr ⟨Or.inr h110, rfl⟩) hw
      rw [if_pos h110, if_neg h97, if_neg (by decide), hb, if_pos (show bI false = 0 from rfl)]
    · rw [if_neg h110, if_neg h97, if_pos True.intro]
theorem has_any (X : sX) (a b : Int32) (T : sS) : ∃ r, Cal X 148 [.int a, .int b] T = some (some (.int r), T) := by
  rw [C_X8_has]
  by_cases c : oUshr a b &&& 1 = 0
  · rw [if_pos c]; exact ⟨_, rfl⟩
  · rw [if_neg c]; exact ⟨_, rfl⟩
theorem vL_f {L N V : Nat} {S : sS} (h : TX L S) (H : HD N V S) {f : Int32} (hf : f ≠ -9) (X : sX) (yr ms : Int32) : ∀ d i, i + d = N → ∀ p y n, ∃ p', Run X 6 39 [some (.ref 23), some (.int yr), some (.int ms), some (.int y), some (.int n), some (.int (nI i)), none] [] (st S p f) = some (none, st S p' f) := by
  have hN := H.2.1
  intro d
  induction d with
  | zero =>
    intro i hi p y n
    obtain ⟨p', e⟩ := expect_f h (c := 59) hf X (p := p)
    rw [L_X0_voteStatement_39, C_X1_members, cI_ok, show st S p f 1 0 = nI N from H.1, if_pos (nI_le (by omega) (by omega)), e, cV_ok, st_4, if_neg hf]
    exact ⟨_, rfl⟩
  | succ d ih =>
    intro i hi p y n
    obtain ⟨r, e⟩ := has_any X ms (nI i) (st S p f)
    obtain ⟨r2, e2⟩ := word_f h (b := r) hf X (p := p)
    rw [L_X0_voteStatement_39, C_X1_members, cI_ok, show st S p f 1 0 = nI N from H.1, if_neg (nI_ge (by omega) (by omega)), e, cI_ok, e2, cI_ok, nI_1]
    by_cases c1 : r2 = 121
    · rw [if_pos c1]
      by_cases c2 : r2 = 110
      · rw [if_pos c2]; exact ih (i + 1) (by omega) _ _ _
      · rw [if_neg c2]; exact ih (i + 1) (by omega) _ _ _
    · rw [if_neg c1]
      by_cases c2 : r2 = 110
      · rw [if_pos c2]; exact ih (i + 1) (by omega) _ _ _
      · rw [if_neg c2]; exact ih (i + 1) (by omega) _ _ _
noncomputable def vT1 (X : sX) (yr : Int32) (S6 : sS) : sR := cI (Cal X 26 [.ref 1, .int yr] S6) fun r8 S7 => Run X 6 39 [some (.ref 23), some (.int yr), some (.int r8), some (.int 0), some (.int 0), some (.int 0), none] [] S7
theorem vot_eq (X : sX) (S : sS) : Cal X 6 [.ref 23] S = cI (Cal X 23 [.ref 1] S) fun r2 S1 => cV (Cal X 11 [.ref 23, .int r2] S1) fun S3 => cI (Cal X 15 [.ref 23] S3) fun r5 S4 => cV (Cal X 12 [.ref 23, .int 58] S4) fun S6 => vT1 X r5 S6 := C_X0_voteStatement X S
theorem vT1_f {L N V : Nat} {S : sS} (h : TX L S) (H : HD N V S) {p f : Int32} (hf : f ≠ -9) (X : sX) (yr : Int32) : ∃ p', vT1 X yr (st S p f) = some (none, st S p' f) := by
  unfold vT1
  rw [those_ok (S := st S p f) H, cI_ok]
  exact vL_f h H hf X yr _ N 0 (by omega) p 0 0
theorem votS_f {L N V : Nat} {S : sS} (h : TX L S) (H : HD N V S) (hV : V = 24) (k : Nat) (hk : k < 2 ^ 19) (X : sX) : ∃ p', Cal X 6 [.ref 23] (st S (nI k) (-9)) = some (none, st S p' (nI k)) := by
  have hf : nI k ≠ -9 := nI_nem9 (by omega)
  subst hV
  obtain ⟨r, p1, e1⟩ := num_f h hf X (p := nI (k + 1))
  obtain ⟨p2, e2⟩ := expect_f h (c := 58) hf X (p := p1)
  rw [vot_eq, C_X1_hasRoomForVote, show st S (nI k) (-9) 1 1 = nI 24 from H.2.2.1, if_pos (show (24 : Int32) ≤ nI 24 by decide), cI_ok, letter_0, cV_ok, e1, cI_ok, e2, cV_ok]
  exact vT1_f h H hf X _
theorem vaC_st (S : sS) (p f : Int32) (V : Nat) (a b c : Int32) : vaC (st S p f) V a b c = st (vaC S V a b c) p f := by
  unfold vaC
  rw [st_up2 _ _ _ _ _ (by decide), st_up2 _ _ _ _ _ (by decide), st_up2 _ _ _ _ _ (by decide), st_up2 _ _ _ _ _ (by decide)]
theorem vaM_ma (T : sS) (p : Int32) (V : Nat) (a b c : Int32) : vaM (ma T p) V a b c = ma (vaM T V a b c) p := by
  unfold vaM
  rw [ma_up2 _ _ _ _ (by decide), ma_up2 _ _ _ _ (by decide), ma_up2 _ _ _ _ (by decide), ma_up43 _ _ _ (by decide), ma_up43 _ _ _ (by decide)]
theorem va_BJ {N V K yr y n : Nat} {S T : sS} (H : HH N V K (mixS S T)) (hV : V < 24) (hyr : yr < 100) (hy : y < 2 ^ N) (hn : n < 2 ^ N) (hd : y &&& n = 0) : BJ N S T (vaC S V (nI yr) (nI y) (nI n)) (vaM T V (nI yr) (nI y) (nI n)) := by
  have f1 : fr [7, 8, 9] [(1, 1)] S (vaC S V (nI yr) (nI y) (nI n)) := by
    unfold vaC
    exact fr_upF (fr_upL (fr_upL (fr_upL fr_rfl (by decide)) (by decide)) (by decide)) (by decide)
  have f2 : fr [48, 49, 50] [(43, 12), (43, 14)] T (vaM T V (nI yr) (nI y) (nI n)) := by
    unfold vaM
    exact fr_upF (fr_upF (fr_upL (fr_upL (fr_upL fr_rfl (by decide)) (by decide)) (by decide)) (by decide)) (by decide)
  have f : fr [7, 8, 9, 48, 49, 50] [(1, 1), (43, 12), (43, 14)] (mixS S T) (mixS (vaC S V (nI yr) (nI y) (nI n)) (vaM T V (nI yr) (nI y) (nI n))) := mix_fr (fr_mono f1 (by decide) (by decide)) (fr_mono f2 (by decide) (by decide))
  exact ⟨N, V + 1, K, Nat.le_refl _, va_HH H hV hyr hy hn hd (fr_ag f (by decide)) rfl rfl rfl rfl rfl rfl rfl rfl, RM_new rfl, fr_mono f1 (by decide) (by decide), fr_mono f2 (by decide) (by decide)⟩
theorem mk_s (P : Nat → Bool) (i : Nat) : mk P (i + 1) = mk P i ||| (bif P i then 2 ^ i else 0) := rfl
theorem or0 (a : Nat) : nI a ||| 0 = nI a := by rw [l0, or_nI, Nat.or_zero]
theorem votS {L N V K : Nat} {S T : sS} (h : TX L S) (hT : TM L S T) (H : HH N V K (mixS S T)) (hV : V < 24) (k : Nat) (hk : k < 2 ^ 18) (X : sX) : Outc N k S T (Cal X 6 [.ref 23] (st S (nI k) (-9))) (Cal X 174 [.ref 43] (ma T (nI (k + 1)))) := by
  have HD0 : HD N V S := H.1
  have hN := HD0.2.1
  have m1 : T 43 11 = nI N := H.2.2.2.1
  have m2 : T 43 12 = nI V := H.2.2.2.2.1
  have hL := h.1
  rw [vot_eq, C_X1_hasRoomForVote, show st S (nI k) (-9) 1 1 = nI V from HD0.2.2.1, l24, if_neg (nI_ge hV (by decide)), cI_ok, letter_1, cV_ok, C_X9_readsVote]
  rcases NU_ex L S (k + 1) with ⟨yr, k2, ha⟩ | hno
  case inr =>
    obtain ⟨r, e⟩ := num_n h (show k + 1 < 2 ^ 31 by omega) hno X
    have hf : nI (k + 1) ≠ -9 := nI_nem9 (by omega)
    obtain ⟨p2, e2⟩ := expect_f h (c := 58) hf X (p := nI (k + 1))
    rw [e, cI_ok, e2, cV_ok, mnum_n h hT (by omega) hno, cI_ok, if_pos (by decide)]
    obtain ⟨p3, e3⟩ := vT1_f h HD0 hf X r (p := p2)
    exact Or.inl ⟨p3, k + 1, by omega, e3, rfl⟩
  obtain ⟨b1, b2, b3⟩ := NU_b ha
  rw [num_y h (by omega) ha, cI_ok, mnum_y h hT (by omega) ha, cI_ok, if_neg (nI_pos (by omega))]
  by_cases c1 : tx L S k2 = 58
  case neg =>
    have hf : nI k2 ≠ -9 := nI_nem9 (by omega)
    rw [expect_n h (by omega) c1, cV_ok, takes_n hL hT (by omega) c1, cI_ok, if_pos rfl]
    obtain ⟨p3, e3⟩ := vT1_f h HD0 hf X (nI yr) (p := nI (k2 + 1))
    exact Or.inl ⟨p3, k2, by omega, e3, rfl⟩
  rw [expect_y h (by omega) c1, cV_ok, takes_y hL hT (by omega) c1, cI_ok, if_neg (by decide)]
  unfold vT1
  rw [those_ok (S := st S (nI (k2 + 1)) (-9)) HD0, cI_ok]
  obtain ⟨P, hP⟩ : ∃ P : Nat → Bool, P = fun m => decide (¬ nI yr < S 2 m ∧ ¬ S 3 m < nI yr) := ⟨_, rfl⟩
  have eP : (fun m => decide (¬ nI yr < st S (nI (k2 + 1)) (-9) 2 m ∧ ¬ st S (nI (k2 + 1)) (-9) 3 m < nI yr)) = P := hP.symm
  rw [eP]
  obtain ⟨k3, hk3⟩ : ∃ k3, k3 = k2 + 1 := ⟨_, rfl⟩
  rw [← hk3]
  have hk3b : k < k3 ∧ k3 < 2 ^ 19 := by omega
  have isof : ∀ (T' : sS) (i : Nat), (∀ m, T' 45 m = T 45 m ∧ T' 46 m = T 46 m) → i < N → Cal X 159 [.ref 43, .int (nI i), .int (nI yr)] T' = some (some (.int (bI (P i))), T') := by
    intro T' i hT' hi
    obtain ⟨q1, q2, -⟩ := H.2.2.2.2.2.2.1 i hi
    have q1' : T' 45 i = S 2 i := (hT' i).1.trans q1
    have q2' : T' 46 i = S 3 i := (hT' i).2.trans q2
    have hPi : P i = decide (¬ nI yr < S 2 i ∧ ¬ S 3 i < nI yr) := by rw [hP]
    rw [C_X9_isOf, ix_nI (by omega) (by decide), q1', hPi]
    by_cases d1 : nI yr < S 2 i
    · rw [if_pos d1, decide_eq_false (fun q => q.1 d1)]
      rfl
    · rw [if_neg d1, ix_nI (by omega) (by decide), q2']
      by_cases d2 : S 3 i < nI yr
      · rw [if_pos d2, decide_eq_false (fun q => q.2 d2)]
        rfl
      · rw [if_neg d2, decide_eq_true ⟨d1, d2⟩]
        rfl
  have hmP := mk_lt P N
  have h128 := pow_le128 hN
  have hasP : ∀ (i : Nat) (T' : sS), i < N → Cal X 148 [.int (nI (mk P N)), .int (nI i)] T' = some (some (.int (bI (P i))), T') := by
    intro i T' hi
    rw [has_ok (by omega) (by omega), mk_bit, decide_eq_true hi, Bool.true_and]
  obtain ⟨Y, hY⟩ : ∃ Y : Nat → Bool, Y = fun i => decide (tx L S (k3 + i) = 121) := ⟨_, rfl⟩
  obtain ⟨Q, hQ⟩ : ∃ Q : Nat → Bool, Q = fun i => decide (tx L S (k3 + i) = 110) := ⟨_, rfl⟩
  have hYi : ∀ i, Y i = decide (tx L S (k3 + i) = 121) := fun i => by rw [hY]
  have hQi : ∀ i, Q i = decide (tx L S (k3 + i) = 110) := fun i => by rw [hQ]
  have cstep : ∀ i, i < N → gW (tx L S (k3 + i)) (P i) → Run X 6 39 [some (.ref 23), some (.int (nI yr)), some (.int (nI (mk P N))), some (.int (nI (mk Y i))), some (.int (nI (mk Q i))), some (.int (nI i)), none] [] (st S (nI (k3 + i)) (-9)) = Run X 6 39 [some (.ref 23), some (.int (nI yr)), some (.int (nI (mk P N))), some (.int (nI (mk Y (i + 1)))), some (.int (nI (mk Q (i + 1)))), some (.int (nI (i + 1))), none] [] (st S (nI (k3 + i + 1)) (-9)) := by
    intro i hi hg
    rw [L_X0_voteStatement_39, C_X1_members, cI_ok, show st S (nI (k3 + i)) (-9) 1 0 = nI N from HD0.1, if_neg (nI_ge hi (by omega)), hasP i _ hi, cI_ok, word_y h (by omega) hg, cI_ok, nI_1, l1, oShl_1 (by omega), or_nI, or_nI, mk_s, mk_s, hYi i, hQi i]
    rcases hg with e | ⟨e | e, _⟩
    · rw [e, if_neg (by decide), if_neg (by decide)]
      simp
    · rw [e, if_pos rfl, if_neg (by decide)]
      simp
    · rw [e, if_neg (by decide), if_pos rfl]
      simp
  have mstep : ∀ i, i < N → gW (tx L S (k3 + i)) (P i) → Run X 174 27 [some (.ref 43), some (.int (nI yr)), some (.int (nI (mk Y i))), some (.int (nI (mk Q i))), some (.int (nI i)), none] [] (ma T (nI (k3 + i))) = Run X 174 27 [some (.ref 43), some (.int (nI yr)), some (.int (nI (mk Y (i + 1)))), some (.int (nI (mk Q (i + 1)))), some (.int (nI (i + 1))), none] [] (ma T (nI (k3 + i + 1))) := by
    intro i hi hg
    rw [L_X9_readsVote_27, show ma T (nI (k3 + i)) 43 11 = nI N from m1, if_neg (nI_ge hi (by omega)), sign_ok hL hT (by omega), cI_ok, isof (ma T (nI (k3 + i))) i (fun m => ⟨rfl, rfl⟩) hi, cI_ok]
    simp only [L_X9_readsVote_91, L_X9_readsVote_109]
    rw [ma_p, ma_17, nI_1, nI_1, l1, oShl_1 (by omega), or0, or_nI, or0, or_nI, mk_s, mk_s, hYi i, hQi i]
    rcases hg with e | ⟨e | e, e2⟩
    · rw [e, if_pos rfl, if_neg (by decide), if_neg (by decide)]
      simp
    · rw [e, e2, if_neg (by decide), if_pos rfl, if_neg (by decide), if_pos rfl, if_neg (by decide)]
      simp
    · rw [e, e2, if_neg (by decide), if_neg (by decide), if_pos rfl, if_neg (by decide), if_neg (by decide), if_pos rfl]
      simp
  have crun : ∀ i, i ≤ N → (∀ j, j < i → gW (tx L S (k3 + j)) (P j)) → Run X 6 39 [some (.ref 23), some (.int (nI yr)), some (.int (nI (mk P N))), some (.int 0), some (.int 0), some (.int 0), none] [] (st S (nI k3) (-9)) = Run X 6 39 [some (.ref 23), some (.int (nI yr)), some (.int (nI (mk P N))), some (.int (nI (mk Y i))), some (.int (nI (mk Q i))), some (.int (nI i)), none] [] (st S (nI (k3 + i)) (-9)) := by
    intro i hi hg
    exact loop_eq (F := fun i => Run X 6 39 [some (.ref 23), some (.int (nI yr)), some (.int (nI (mk P N))), some (.int (nI (mk Y i))), some (.int (nI (mk Q i))), some (.int (nI i)), none] [] (st S (nI (k3 + i)) (-9))) i 0 (fun j _ hj => cstep j (by omega) (hg j hj)) (Nat.zero_le _)
  have mrun : ∀ i, i ≤ N → (∀ j, j < i → gW (tx L S (k3 + j)) (P j)) → Run X 174 27 [some (.ref 43), some (.int (nI yr)), some (.int 0), some (.int 0), some (.int 0), none] [] (ma T (nI k3)) = Run X 174 27 [some (.ref 43), some (.int (nI yr)), some (.int (nI (mk Y i))), some (.int (nI (mk Q i))), some (.int (nI i)), none] [] (ma T (nI (k3 + i))) := by
    intro i hi hg
    exact loop_eq (F := fun i => Run X 174 27 [some (.ref 43), some (.int (nI yr)), some (.int (nI (mk Y i))), some (.int (nI (mk Q i))), some (.int (nI i)), none] [] (ma T (nI (k3 + i)))) i 0 (fun j _ hj => mstep j (by omega) (hg j hj)) (Nat.zero_le _)
  by_cases hall : ∀ i, i < N → gW (tx L S (k3 + i)) (P i)
  case neg =>
    obtain ⟨i, hi, hmin⟩ := pk_least (fun i => i < N ∧ ¬ gW (tx L S (k3 + i)) (P i)) (by
      apply Classical.byContradiction
      intro hh
      exact hall fun i q1 => Classical.byContradiction fun q2 => hh ⟨i, q1, q2⟩)
    have hg : ∀ j, j < i → gW (tx L S (k3 + j)) (P j) := fun j hj => Classical.byContradiction fun q => hmin j hj ⟨by omega, q⟩
    have hf : nI (k3 + i) ≠ -9 := nI_nem9 (by omega)
    rw [crun i (by omega) hg, mrun i (by omega) hg, L_X0_voteStatement_39, C_X1_members, cI_ok, show st S (nI (k3 + i)) (-9) 1 0 = nI N from HD0.1, if_neg (nI_ge hi.1 (by omega)), hasP i _ hi.1, cI_ok, word_n h (by omega) hi.2, cI_ok, nI_1]
    have fl := fun y n => vL_f h HD0 hf X (nI yr) (nI (mk P N)) (N - (i + 1)) (i + 1) (by omega) (nI (k3 + i + 1)) y n
    have cm : Run X 174 27 [some (.ref 43), some (.int (nI yr)), some (.int (nI (mk Y i))), some (.int (nI (mk Q i))), some (.int (nI i)), none] [] (ma T (nI (k3 + i))) = some (some (.int 0), ma T (nI (k3 + i))) := by
      rw [L_X9_readsVote_27, show ma T (nI (k3 + i)) 43 11 = nI N from m1, if_neg (nI_ge hi.1 (by omega)), sign_ok hL hT (by omega), cI_ok, isof (ma T (nI (k3 + i))) i (fun m => ⟨rfl, rfl⟩) hi.1, cI_ok]
      have h97 : ¬ tx L S (k3 + i) = 97 := fun q => hi.2 (Or.inl q)
      rw [if_neg h97]
      by_cases h121 : tx L S (k3 + i) = 121
      · have hb : P i = false := by
          cases hb : P i with
          | false => rfl
          | true => exact absurd (Or.inr ⟨Or.inl h121, hb⟩) hi.2
        rw [if_pos h121, hb, if_pos (show bI false = 0 from rfl)]
      · rw [if_neg h121]
        by_cases h110 : tx L S (k3 + i) = 110
        · have hb : P i = false := by
            cases hb : P i with
            | false => rfl
            | true => exact absurd (Or.inr ⟨Or.inr h110, hb⟩) hi.2
          rw [if_pos h110, hb, if_pos (show bI false = 0 from rfl)]
        · rw [if_neg h110]
    rw [cm]
    by_cases h121 : tx L S (k3 + i) = 121
    · rw [if_pos h121]
      by_cases h110 : tx L S (k3 + i) = 110
      · rw [if_pos h110]
        obtain ⟨p', e⟩ := fl (nI (mk Y i) ||| oShl 1 (nI i)) (nI (mk Q i) ||| oShl 1 (nI i))
        exact Or.inl ⟨p', k3 + i, by omega, e, rfl⟩
      · rw [if_neg h110]
        obtain ⟨p', e⟩ := fl (nI (mk Y i) ||| oShl 1 (nI i)) (nI (mk Q i))
        exact Or.inl ⟨p', k3 + i, by omega, e, rfl⟩
    · rw [if_neg h121]
      by_cases h110 : tx L S (k3 + i) = 110
      · rw [if_pos h110]
        obtain ⟨p', e⟩ := fl (nI (mk Y i)) (nI (mk Q i) ||| oShl 1 (nI i))
        exact Or.inl ⟨p', k3 + i, by omega, e, rfl⟩
      · rw [if_neg h110]
        obtain ⟨p', e⟩ := fl (nI (mk Y i)) (nI (mk Q i))
        exact Or.inl ⟨p', k3 + i, by omega, e, rfl⟩
  rw [crun N (Nat.le_refl _) hall, mrun N (Nat.le_refl _) hall, L_X0_voteStatement_39, C_X1_members, cI_ok, show st S (nI (k3 + N)) (-9) 1 0 = nI N from HD0.1, if_pos (nI_le (Nat.le_refl _) (by omega)), L_X9_readsVote_27, show ma T (nI (k3 + N)) 43 11 = nI N from m1, if_pos (nI_le (Nat.le_refl _) (by omega))]
  by_cases c3 : tx L S (k3 + N) = 59
  case neg =>
    rw [expect_n h (by omega) c3, cV_ok, st_4, if_neg (nI_nem9 (by omega)), takes_n hL hT (by omega) c3, cI_ok, if_pos rfl]
    exact Or.inl ⟨_, k3 + N, by omega, rfl, rfl⟩
  rw [expect_y h (by omega) c3, cV_ok, st_4, if_pos rfl, takes_y hL hT (by omega) c3, cI_ok, if_neg (by decide), vaC_ok (S := st S (nI (k3 + N + 1)) (-9)) HD0 hV, cI_ok, vaM_ok (S := ma T (nI (k3 + N + 1))) m2 hV, cI_ok, vaC_st, vaM_ma]
  refine Or.inr ⟨_, _, k3 + N + 1, by omega, by omega, rfl, rfl, va_BJ H hV b1 (mk_lt Y N) (mk_lt Q N) ?_⟩
  rw [mk_and]
  apply Nat.eq_of_testBit_eq
  intro i
  rw [mk_bit, Nat.zero_testBit]
  show (decide (i < N) && (Y i && Q i)) = false
  rw [hYi, hQi]
  by_cases q : tx L S (k3 + i) = 121
  · rw [q]; simp
  · simp [q]
/-! a statement -/
theorem bz_1 (k : sR) : bz 1 k = k := if_pos (by decide)
theorem bz_0 (k : sR) : bz 0 k = k := if_pos (by decide)
theorem Outc_w {N k : Nat} {S T : sS} {o m : sR} (h : Outc N k S T o m) : Outc N k S T (cV o fun S5 => some (none, S5)) (cI m fun r S1 => bz r (some (some (.int r), S1))) := by
  rcases h with ⟨p', q, h1, rfl, rfl⟩ | ⟨S', T', k', h1, h2, rfl, rfl, h3⟩
  · exact Or.inl ⟨p', q, h1, rfl, bz_0 _⟩
  · exact Or.inr ⟨S', T', k', h1, h2, rfl, bz_1 _, h3⟩
theorem stmS {L N V K : Nat} {S T : sS} (h : TX L S) (hT : TM L S T) (H : HH N V K (mixS S T)) (M : RM N V K (mixS S T)) (k : Nat) (hk : k < 2 ^ 18) (X : sX) : Outc N k S T (Cal X 4 [.ref 23] (st S (nI k) (-9))) (Cal X 177 [.ref 43] (ma T (nI k))) := by
  have HD0 : HD N V S := H.1
  have hN := HD0.2.1
  have hV := HD0.2.2.2.1
  have hK := H.2.2.1
  have m1 : T 43 11 = nI N := H.2.2.2.1
  have m2 : T 43 12 = nI V := H.2.2.2.2.1
  have m3 : T 43 13 = nI K := H.2.2.2.2.2.1
  rw [C_X0_statement, next_ok h (by omega), cI_ok, C_X9_statement, sign_ok h.1 hT (by omega), cI_ok]
  have up : up2 (ma T (nI k)) 43 17 (ma T (nI k) 43 17 + 1) = ma T (nI (k + 1)) := by rw [ma_p, ma_17, nI_1]
  by_cases c109 : tx L S k = 109
  · rw [c109, if_neg (by decide), if_neg (by decide), if_pos rfl, if_pos rfl, show ma T (nI k) 43 11 = nI N from m1, l7]
    by_cases hr : N = 7
    · obtain ⟨p', e⟩ := memS_f h HD0 hr k (by omega) X
      rw [e, cV_ok, if_pos (nI_le (by omega) (by omega)), L_X9_statement_91, if_pos rfl]
      exact Or.inl ⟨p', k, by omega, rfl, rfl⟩
    · rw [if_neg (nI_ge (by omega) (by omega)), L_X9_statement_91, if_neg (by decide), if_pos rfl, up]
      exact Outc_w (memS h hT H (by omega) k (by omega) X)
  by_cases c118 : tx L S k = 118
  · rw [c118, if_neg (by decide), if_neg (by decide), if_neg (by decide), if_neg (by decide), if_pos rfl, if_neg (by decide), if_pos rfl, show ma T (nI k) 43 12 = nI V from m2, l24]
    by_cases hr : V = 24
    · obtain ⟨p', e⟩ := votS_f h HD0 hr k (by omega) X
      rw [e, cV_ok, if_pos (nI_le (by omega) (by omega)), L_X9_statement_91, if_pos rfl]
      exact Or.inl ⟨p', k, by omega, rfl, rfl⟩
    · rw [if_neg (nI_ge (by omega) (by omega)), L_X9_statement_91, if_neg (by decide), if_neg (by decide), if_neg (by decide), if_pos rfl, up]
      exact Outc_w (votS h hT H (by omega) k (by omega) X)
  by_cases c107 : tx L S k = 107
  · rw [c107, if_neg (by decide), if_pos rfl, if_neg (by decide), if_neg (by decide), if_pos rfl, show ma T (nI k) 43 13 = nI K from m3, l10]
    by_cases hr : K = 10
    · obtain ⟨p', e⟩ := helS_f h (show S 1 2 = nI K from H.2.1) hr k (by omega) 0 X
      rw [e, cV_ok, if_pos (nI_le (by omega) (by omega)), L_X9_statement_91, if_pos rfl]
      exact Or.inl ⟨p', k, by omega, rfl, rfl⟩
    · rw [if_neg (nI_ge (by omega) (by omega)), L_X9_statement_91, if_neg (by decide), if_neg (by decide), if_neg (by decide), if_neg (by decide), if_pos rfl, up]
      exact Outc_w (helS h hT H M (by omega) k (by omega) false X)
  by_cases c101 : tx L S k = 101
  · rw [c101, if_pos rfl, if_neg (by decide), if_neg (by decide), if_neg (by decide), if_pos rfl, show ma T (nI k) 43 13 = nI K from m3, l10]
    by_cases hr : K = 10
    · obtain ⟨p', e⟩ := helS_f h (show S 1 2 = nI K from H.2.1) hr k (by omega) 1 X
      rw [e, cV_ok, if_pos (nI_le (by omega) (by omega)), L_X9_statement_91, if_pos rfl]
      exact Or.inl ⟨p', k, by omega, rfl, rfl⟩
    · rw [if_neg (nI_ge (by omega) (by omega)), L_X9_statement_91, if_neg (by decide), if_neg (by decide), if_neg (by decide), if_neg (by decide), if_neg (by decide), up]
      exact Outc_w (helS h hT H M (by omega) k (by omega) true X)
  by_cases c112 : tx L S k = 112
  · rw [c112, if_neg (by decide), if_neg (by decide), if_neg (by decide), if_pos rfl, if_neg (by decide), if_neg (by decide), if_neg (by decide), if_neg (by decide), if_pos rfl, L_X9_statement_91, if_neg (by decide), if_neg (by decide), if_pos rfl, up]
    exact Outc_w (parS h hT H M k (by omega) X)
  · rw [if_neg c101, if_neg c107, if_neg c109, if_neg c112, if_neg c118, if_neg c109, if_neg c118, if_neg c107, if_neg c101, if_neg c112, fail_ok, fl_y, cV_ok, L_X9_statement_91, if_pos rfl, st_3]
    exact Or.inl ⟨nI k, k, by omega, rfl, rfl⟩
