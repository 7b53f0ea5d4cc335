/-! votes -/
theorem andn_0 {w l : Nat} : andn w l = 0 ↔ ∀ i, w.testBit i = true → l.testBit i = true := by
  constructor
  · intro h i hi
    have := congrArg (fun z => z.testBit i) h
    simp only [andn_bit, Nat.zero_testBit, hi, Bool.true_and] at this
    simpa using this
  · intro h
    apply Nat.eq_of_testBit_eq
    intro i
    rw [andn_bit, Nat.zero_testBit]
    cases hw : w.testBit i with
    | false => rfl
    | true => rw [h i hw]; rfl
theorem lt_pow_iff {w N : Nat} : w < 2 ^ N ↔ ∀ i, w.testBit i = true → i < N := by
  constructor
  · intro h i hi
    rcases Nat.lt_or_ge i N with q | q
    · exact q
    · rw [Nat.testBit_lt_two_pow (Nat.lt_of_lt_of_le h (Nat.pow_le_pow_right (by decide) q))] at hi
      cases hi
  · intro h
    refine Nat.lt_pow_two_of_testBit _ fun i hi => ?_
    cases hb : w.testBit i with
    | false => rfl
    | true => have := h i hb; omega
def vaC (S : sS) (V : Nat) (p1 p2 p3 : Int32) : sS := up2 (up2 (up2 (up2 S 7 V p1) 8 V p2) 9 V p3) 1 1 (nI (V + 1))
def vaM (S : sS) (V : Nat) (p1 p2 p3 : Int32) : sS := up2 (up2 (up2 (up2 (up2 S 48 V p1) 49 V p2) 50 V p3) 43 12 (nI (V + 1))) 43 14 1
theorem vaC_ok {N V : Nat} {S : sS} (H : HD N V S) (hV : V < 24) (p1 p2 p3 : Int32) (X : sX) : Cal X 29 [.ref 1, .int p1, .int p2, .int p3] S = some (some (.int (nI V)), vaC S V p1 p2 p3) := by
  rw [C_X1_addVote, C_X1_hasRoomForVote, H.2.2.1, l24, if_neg (nI_ge hV (by decide)), cI_ok, if_neg (by decide), H.2.2.1]
  rw [ix_nI hV (by decide), ix_nI hV (by decide), ix_nI hV (by decide), nI_1]
  rfl
theorem vaM_ok {V : Nat} {S : sS} (m2 : S 43 12 = nI V) (hV : V < 24) (p1 p2 p3 : Int32) (X : sX) : Cal X 158 [.ref 43, .int p1, .int p2, .int p3] S = some (some (.int (nI V)), vaM S V p1 p2 p3) := by
  rw [C_X9_votesSo, m2]
  rw [ix_nI hV (by decide), ix_nI hV (by decide), ix_nI hV (by decide), nI_1, nI_pred]
  rfl
theorem va_HH {N V K yr y n : Nat} {S T : sS} (H : HH N V K S) (hV : V < 24) (hyr : yr < 100) (hy : y < 2 ^ N) (hn : n < 2 ^ N) (hd : y &&& n = 0) (f : ag [2, 3, 4, 5, 6, 10, 11, 45, 46, 47, 51, 52, 53, 54] [(1, 0), (1, 2), (43, 11), (43, 13)] S T) (t1 : T 1 1 = nI (V + 1)) (t2 : T 43 12 = nI (V + 1)) (e1 : T 7 = upd (S 7) V (nI yr)) (e2 : T 8 = upd (S 8) V (nI y)) (e3 : T 9 = upd (S 9) V (nI n)) (g1 : T 48 = upd (S 48) V (nI yr)) (g2 : T 49 = upd (S 49) V (nI y)) (g3 : T 50 = upd (S 50) V (nI n)) : HH N (V + 1) K T := by
  obtain ⟨⟨h1, h2, h3, h4, h5⟩, k1, k2, m1, m2, m3, k3, k4, k5⟩ := H
  have hp := pow_le128 h2
  refine ⟨⟨?_, h2, t1, by omega, ?_⟩, ?_, k2, ?_, t2, ?_, ?_, ?_, ?_⟩
  · rw [f.2 (1, 0) (by decide)]; exact h1
  · intro v hv
    rw [e2, e3]
    by_cases hq : v = V
    · subst hq
      rw [upd_at, upd_at, nv_nI (by omega), nv_nI (by omega)]
      exact ⟨hy, hn, hd⟩
    · rw [upd_ne _ _ hq, upd_ne _ _ hq]
      exact h5 v (by omega)
  · rw [f.2 (1, 2) (by decide)]; exact k1
  · rw [f.2 (43, 11) (by decide)]; exact m1
  · rw [f.2 (43, 13) (by decide)]; exact m3
  · rw [f.1 2 (by decide), f.1 3 (by decide), f.1 4 (by decide), f.1 5 (by decide), f.1 6 (by decide), f.1 45 (by decide), f.1 46 (by decide), f.1 47 (by decide), f.1 53 (by decide), f.1 54 (by decide)]; exact k3
  · intro v hv
    rw [e1, e2, e3, g1, g2, g3]
    by_cases hq : v = V
    · subst hq
      rw [upd_at, upd_at, upd_at, upd_at, upd_at, upd_at]
      exact ⟨rfl, rfl, yr, hyr, rfl, rfl⟩
    · rw [upd_ne _ _ hq, upd_ne _ _ hq, upd_ne _ _ hq, upd_ne _ _ hq, upd_ne _ _ hq, upd_ne _ _ hq]
      exact k4 v (by omega)
  · rw [f.1 10 (by decide), f.1 11 (by decide), f.1 51 (by decide), f.1 52 (by decide)]; exact k5
theorem va_rel {S : sS} {N V K yr y n : Nat} (H : HH N V K S) (B : RB S) (E : S 44 = S 42) (I : RI S) (A : RA N S) (C : RC N V K S) (hV : V < 24) (hyr : yr < 100) (hy : y < 2 ^ N) (hn : n < 2 ^ N) (hd : y &&& n = 0) : Rel (vaM (vcS (vaC S V (nI yr) (nI y) (nI n))) V (nI yr) (nI y) (nI n)) := by
  obtain ⟨T, hT⟩ : ∃ T, T = vaM (vcS (vaC S V (nI yr) (nI y) (nI n))) V (nI yr) (nI y) (nI n) := ⟨_, rfl⟩
  rw [← hT]
  have f : fr [7, 8, 9, 48, 49, 50] [(1, 1), (43, 12), (43, 14), (25, 4), (29, 11), (29, 12), (29, 13)] S T := by
    rw [hT]
    unfold vaM vcS vaC
    exact fr_upF (fr_upF (fr_upL (fr_upL (fr_upL (fr_upF (fr_upF (fr_upF (fr_upF (fr_upF (fr_upL (fr_upL (fr_upL fr_rfl (by decide)) (by decide)) (by decide)) (by decide)) (by decide)) (by decide)) (by decide)) (by decide)) (by decide)) (by decide)) (by decide)) (by decide)) (by decide)
  refine ⟨N, V + 1, K, va_HH H hV hyr hy hn hd (fr_ag f (by decide)) (by rw [hT]; rfl) (by rw [hT]; rfl) (by rw [hT]; rfl) (by rw [hT]; rfl) (by rw [hT]; rfl) (by rw [hT]; rfl) (by rw [hT]; rfl) (by rw [hT]; rfl), RB_ag (fr_ag f (by decide)) B, ?_, RI_ag (fr_ag f (by decide)) I, RA_ag (fr_ag f (by decide)) A, RC_vc C (by rw [hT]; rfl) (by rw [hT]; rfl) (by rw [hT]; rfl) (by rw [hT]; rfl) (fr_ag f (by decide)), RM_new (by rw [hT]; rfl)⟩
  rw [fr_cell f 44 (by decide) (by decide), fr_cell f 42 (by decide) (by decide)]; exact E
theorem mvote_no {p1 p2 p3 p4 p5 : Int32} (h : ¬ p4 = 0) (X : sX) (S : sS) : Run X 160 69 [some (.ref 43), some (.int p1), some (.int p2), some (.int p3), some (.int p4), some (.int p5)] [] S = cI (Cal X 149 [.ref 43, .int p4] S) fun r4 S3 => some (some (.int r4), S3) := by
  rw [L_X9_vote_69]
  by_cases q : S 43 11 ≤ p5
  · rw [if_pos q, if_neg h]
  · rw [if_neg q, if_neg h, if_neg h]
theorem c_vote {S : sS} (R : Rel S) (X : sX) (p1 p2 p3 : Int32) : Two (Cal X 106 [.ref 0, .int p1, .int p2, .int p3] S) (fun S => Cal X 160 [.ref 43, .int p1, .int p2, .int p3] S) := by
  obtain ⟨N, V, K, H, B, E, I, A, C, M⟩ := id R
  obtain ⟨HD0, k1, k2, m1, m2, m3, k3, k4, k5⟩ := id H
  have hN := HD0.2.1
  have hV := HD0.2.2.2.1
  have hp := pow_le128 hN
  rw [C_X8_vote]
  by_cases a1 : p1 < 0
  · rw [if_pos a1, rf_4, cI_ok]
    refine two_rf R ?_
    show Cal X 160 _ (rfu S 4) = _
    rw [C_X9_vote, if_pos a1, mvote_no (by decide), no_4, cI_ok]
  rw [if_neg a1]
  by_cases a2 : p2 < 0
  · rw [if_pos a2, rf_4, cI_ok]
    refine two_rf R ?_
    show Cal X 160 _ (rfu S 4) = _
    rw [C_X9_vote, if_neg a1, if_pos a2, mvote_no (by decide), no_4, cI_ok]
  rw [if_neg a2]
  by_cases a3 : 0 ≤ p3
  case neg =>
    rw [if_neg a3, rf_4, cI_ok]
    refine two_rf R ?_
    show Cal X 160 _ (rfu S 4) = _
    rw [C_X9_vote, if_neg a1, if_neg a2, if_neg a3, mvote_no (by decide), no_4, cI_ok]
  rw [if_pos a3]
  by_cases a4 : 99 < p1
  · rw [if_pos a4, rf_6, cI_ok]
    refine two_rf R ?_
    show Cal X 160 _ (rfu S 6) = _
    rw [C_X9_vote, if_neg a1, if_neg a2, if_pos a3, if_pos a4, mvote_no (by decide), no_6, cI_ok]
  rw [if_neg a4, C_X1_hasRoomForVote, HD0.2.2.1, l24]
  by_cases a5 : V = 24
  · subst a5
    rw [if_pos (nI_le (by decide) (by decide)), cI_ok, if_pos rfl, rf_6, cI_ok]
    refine two_rf R ?_
    show Cal X 160 _ (rfu S 6) = _
    rw [C_X9_vote, if_neg a1, if_neg a2, if_pos a3, if_neg a4, show rfu S 6 43 12 = 24 from m2, if_pos rfl, mvote_no (by decide), no_6, cI_ok]
  have hV' : V < 24 := by omega
  have hne : ¬ nI V = 24 := by rw [l24, nI_eq (by omega) (by decide)]; exact a5
  rw [if_neg (nI_ge hV' (by decide)), cI_ok, if_neg (by decide), everyone_ok HD0, cI_ok]
  obtain ⟨yr, hyr, rfl⟩ : ∃ j : Nat, j < 100 ∧ p1 = nI j := by
    rcases pk_ix p1 (n := 100) (by decide) with q | q | q
    · exact absurd q a1
    · exact absurd (lt_nI_le (n := 99) q (by decide)) a4
    · exact q
  obtain ⟨y, hy, rfl⟩ := nI_of a2
  obtain ⟨n, hn, rfl⟩ := nI_of (Int32.not_lt.mpr a3)
  have hw : y ||| n < 2 ^ 31 := Nat.or_lt_two_pow hy hn
  have o1 : nI (andn (y ||| n) (2 ^ N - 1)) = 0 ↔ y ||| n < 2 ^ N := by
    rw [l0, nI_inj' (Nat.lt_of_le_of_lt (show andn (y ||| n) (2 ^ N - 1) ≤ y ||| n from by
      apply Nat.le_of_testBit
      intro i
      rw [andn_bit]
      cases (y ||| n).testBit i <;> simp) (by omega)) (by decide), andn_0, lt_pow_iff]
    simp only [Nat.testBit_two_pow_sub_one, decide_eq_true_eq]
  have o2 : oShr (nI (y ||| n)) (nI N) = 0 ↔ y ||| n < 2 ^ N := by
    rw [oShr_nI hw (by omega), l0, nI_eq (Nat.lt_of_le_of_lt (Nat.div_le_self _ _) hw) (by decide), Nat.div_eq_zero_iff]
    have := Nat.two_pow_pos N
    omega
  rw [or_nI, andNot_nI]
  have pre9 : ∀ (T : sS), T 43 11 = nI N → T 43 12 = nI V → Cal X 160 [.ref 43, .int (nI yr), .int (nI y), .int (nI n)] T = if y ||| n < 2 ^ N then (if (nI y &&& nI n) = 0 then (Run X 160 69 [some (.ref 43), some (.int (nI yr)), some (.int (nI y)), some (.int (nI n)), some (.int 0), some (.int 0)] [] T) else Run X 160 69 [some (.ref 43), some (.int (nI yr)), some (.int (nI y)), some (.int (nI n)), some (.int (-3)), some (.int 0)] [] T) else Run X 160 69 [some (.ref 43), some (.int (nI yr)), some (.int (nI y)), some (.int (nI n)), some (.int (-1)), some (.int 0)] [] T := by
    intro T t1 t2
    rw [C_X9_vote, if_neg a1, if_neg a2, if_pos a3, if_neg a4, t2, if_neg hne, t1, or_nI]
    by_cases q : y ||| n < 2 ^ N
    · rw [if_pos q, if_pos (o2.mpr q)]
    · rw [if_neg q, if_neg (fun z => q (o2.mp z))]
  by_cases b1 : y ||| n < 2 ^ N
  case neg =>
    rw [if_neg (fun z => b1 (o1.mp z)), rf_1, cI_ok]
    refine two_rf R ?_
    show Cal X 160 _ (rfu S 1) = _
    rw [pre9 (rfu S 1) m1 m2, if_neg b1, mvote_no (by decide), no_1, cI_ok]
  rw [if_pos (o1.mpr b1)]
  by_cases b2 : (nI y &&& nI n) = 0
  case neg =>
    rw [if_neg b2, rf_3, cI_ok]
    refine two_rf R ?_
    show Cal X 160 _ (rfu S 3) = _
    rw [pre9 (rfu S 3) m1 m2, if_pos b1, if_neg b2, mvote_no (by decide), no_3, cI_ok]
  rw [if_pos b2, those_ok HD0, cI_ok, andNot_nI]
  obtain ⟨P, hP⟩ : ∃ P : Nat → Bool, P = fun m => decide (¬ nI yr < S 2 m ∧ ¬ S 3 m < nI yr) := ⟨_, rfl⟩
  have o3 : nI (andn (y ||| n) (mk P N)) = 0 ↔ ∀ i, i < N → ¬ ((y ||| n).testBit i = true ∧ P i = false) := by
    rw [l0, nI_inj' (Nat.lt_of_le_of_lt (show andn (y ||| n) (mk P N) ≤ y ||| n from by
      apply Nat.le_of_testBit
      intro i
      rw [andn_bit]
      cases (y ||| n).testBit i <;> simp) (by omega)) (by decide), andn_0]
    constructor
    · intro h i _ ⟨q1, q2⟩
      have := h i q1
      rw [mk_bit, q2] at this
      simp at this
    · intro h i hi
      have hiN := lt_pow_iff.mp b1 i hi
      rw [mk_bit, decide_eq_true hiN]
      cases hb : P i with
      | true => rfl
      | false => exact absurd ⟨hi, hb⟩ (h i hiN)
  have loop : ∀ (T : sS), T 43 11 = nI N → T 2 = S 2 → T 3 = S 3 → T 45 = S 45 → T 46 = S 46 → ((∃ k, k < N ∧ ((y ||| n).testBit k = true ∧ P k = false)) → Run X 160 69 [some (.ref 43), some (.int (nI yr)), some (.int (nI y)), some (.int (nI n)), some (.int 0), some (.int (nI 0))] [] T = some (some (.int (-3)), rfm T 3)) ∧ ((∀ k, k < N → ¬ ((y ||| n).testBit k = true ∧ P k = false)) → Run X 160 69 [some (.ref 43), some (.int (nI yr)), some (.int (nI y)), some (.int (nI n)), some (.int 0), some (.int (nI 0))] [] T = Run X 160 69 [some (.ref 43), some (.int (nI yr)), some (.int (nI y)), some (.int (nI n)), some (.int 0), some (.int (nI N))] [] T) := by
    intro T t1 t2 t3 t4 t5
    have isof : ∀ k, k < N → Cal X 159 [.ref 43, .int (nI k), .int (nI yr)] T = some (some (.int (bI (P k))), T) := by
      intro k hk
      rw [isOf_ok (N := N) (V := 0) (K := 0) (fun m hm => by rw [t4, t5, t2, t3]; exact ⟨(k3 m hm).1, (k3 m hm).2.1⟩) hN hk, t2, t3, hP]
      rfl
    refine loop_ex (F := fun k => Run X 160 69 [some (.ref 43), some (.int (nI yr)), some (.int (nI y)), some (.int (nI n)), some (.int 0), some (.int (nI k))] [] T) (P := fun k => (y ||| n).testBit k = true ∧ P k = false) N ?_ ?_ rfl
    · intro k hk ⟨q1, q2⟩
      show Run X 160 69 _ [] T = _
      rw [L_X9_vote_69, t1, if_neg (nI_ge hk (by omega)), if_pos rfl, or_nI, sbit hw (by omega), q1, if_pos (show bI true = 1 from rfl), isof k hk, cI_ok, q2, if_pos (show bI false = 0 from rfl), mvote_no (by decide), no_3, cI_ok]
    · intro k hk hq
      show Run X 160 69 _ [] T = Run X 160 69 _ [] T
      rw [L_X9_vote_69, t1, if_neg (nI_ge hk (by omega)), if_pos rfl, or_nI, sbit hw (by omega), nI_1]
      cases q1 : (y ||| n).testBit k with
      | false => rw [if_neg (show ¬ bI false = 1 by decide)]
      | true =>
        rw [if_pos (show bI true = 1 from rfl), isof k hk, cI_ok]
        cases q2 : P k with
        | false => exact absurd ⟨q1, q2⟩ hq
        | true => rw [if_neg (show ¬ bI true = 0 by decide)]
  rw [← hP]
  by_cases b3 : ∀ i, i < N → ¬ ((y ||| n).testBit i = true ∧ P i = false)
  case neg =>
    rw [if_neg (fun z => b3 (o3.mp z)), rf_3, cI_ok]
    refine two_rf R ?_
    show Cal X 160 _ (rfu S 3) = _
    rw [pre9 (rfu S 3) m1 m2, if_pos b1, if_pos b2]
    refine (loop (rfu S 3) m1 rfl rfl rfl rfl).1 ?_
    apply Classical.byContradiction
    intro hh
    exact b3 fun i hi hq => hh ⟨i, hi, hq⟩
  have hy2 : y < 2 ^ N := lt_pow_iff.mpr fun i hi => lt_pow_iff.mp b1 i (by rw [Nat.testBit_or, hi]; rfl)
  have hn2 : n < 2 ^ N := lt_pow_iff.mpr fun i hi => lt_pow_iff.mp b1 i (by rw [Nat.testBit_or, hi, Bool.or_true])
  have hd : y &&& n = 0 := by
    rw [and_nI, l0, nI_eq (Nat.lt_of_le_of_lt Nat.and_le_left hy) (by decide)] at b2
    exact b2
  rw [if_pos (o3.mpr b3), vaC_ok HD0 hV', cI_ok, vch_ok, cV_ok]
  refine ⟨nI V, _, vaM (vcS (vaC S V (nI yr) (nI y) (nI n))) V (nI yr) (nI y) (nI n), rfl, ?_, va_rel H B E I A C hV' hyr hy2 hn2 hd⟩
  show Cal X 160 _ (vcS (vaC S V (nI yr) (nI y) (nI n))) = _
  have t1 : vcS (vaC S V (nI yr) (nI y) (nI n)) 43 11 = nI N := m1
  have t2 : vcS (vaC S V (nI yr) (nI y) (nI n)) 43 12 = nI V := m2
  rw [pre9 _ t1 t2, if_pos b1, if_pos b2]
  refine Eq.trans ((loop _ t1 rfl rfl rfl rfl).2 b3) ?_
  rw [L_X9_vote_69, t1, if_pos (nI_le (Nat.le_refl _) (by omega)), if_pos rfl, vaM_ok t2 hV', cI_ok]
