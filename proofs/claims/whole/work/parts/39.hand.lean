/-! the row at hand -/
theorem wrongAll_ok {N V K : Nat} {S : sS} {r : List Nat} (H : HH N V K S) (hr : RowOK N r) (hR : RH N r S) (X : sX) : ∃ T, Cal X 181 [.ref 43] S = some (some (.int (nI (tw S V r))), T) ∧ fr [] [(43, 19), (43, 20), (43, 21)] S T := by
  obtain ⟨HD0, k1, k2, m1, m2, m3, k3, k4, k5⟩ := H
  have hN := HD0.2.1
  have hV := HD0.2.2.2.1
  rw [C_X9_wrongAll]
  obtain ⟨T, f, e⟩ := loop_P (F := fun k T => Run X 181 4 [some (.ref 43), some (.int (nI (tw S k r))), some (.int (nI k))] [] T) (P := fun _ T => fr [] [(43, 19), (43, 20), (43, 21)] S T) V (by
    intro k hk T f
    obtain ⟨y, n, -, -, hy, hn, hd, e8, e9, e8', e9'⟩ := vote_y HD0 hk
    obtain ⟨g1, g2, -⟩ := k4 k hk
    have t56 : RH N r T := fun j hj => by rw [fr_cell f 56 (by decide) (by decide)]; exact hR j hj
    obtain ⟨T', e, f', -⟩ := wrongOf_ok hr hN hy hn hd X T (by rw [fr_fld f 43 11 (by decide) (by decide)]; exact m1) t56
    refine ⟨T', fr_trans f f', ?_⟩
    have et : tw S (k + 1) r = tw S k r + ctw (nv (S 8 k)) (nv (S 9 k)) r := rfl
    show Run X 181 4 _ [] T = Run X 181 4 _ [] T'
    rw [L_X9_wrongAll_4, fr_fld f 43 12 (by decide) (by decide), m2, if_neg (nI_ge hk (by omega)), ix_nI (by omega) (by decide), ix_nI (by omega) (by decide), fr_cell f 49 (by decide) (by decide), fr_cell f 50 (by decide) (by decide), g1, g2, e8, e9, e, cI_ok, nI_add, nI_1, et, e8', e9']) 0 (Nat.zero_le _) S fr_rfl
  refine ⟨T, Eq.trans e ?_, f⟩
  show Run X 181 4 _ [] T = _
  rw [L_X9_wrongAll_4, fr_fld f 43 12 (by decide) (by decide), m2, if_pos (nI_le (Nat.le_refl _) (by omega))]
theorem told_ok (X : sX) (S : sS) : ∃ T, Cal X 192 [.ref 43] S = some (none, T) ∧ fr [56] [] S T ∧ ∀ j, j < 7 → T 56 j = S 59 j := by
  rw [C_X9_standsTold]
  obtain ⟨T, ⟨f, g⟩, e⟩ := loop_P (F := fun k T => Run X 192 2 [some (.ref 43), some (.int (nI k))] [] T) (P := fun k T => fr [56] [] S T ∧ ∀ j, j < k → T 56 j = S 59 j) 7 (by
    intro k hk T ⟨f, g⟩
    refine ⟨up2 T 56 k (T 59 k), ⟨fr_upL f (by decide), ?_⟩, ?_⟩
    · intro j hj
      rw [up2_at]
      by_cases hq : j = k
      · subst hq; rw [upd_at, fr_cell f 59 (by decide) (by decide)]
      · rw [upd_ne _ _ hq]; exact g j (by omega)
    · show Run X 192 2 _ [] T = Run X 192 2 _ [] _
      rw [L_X9_standsTold_2, l7, if_neg (nI_ge hk (by decide)), ix_nI hk (by decide), ix_nI hk (by decide), nI_1]) 0 (Nat.zero_le _) S ⟨fr_rfl, fun j hj => absurd hj (Nat.not_lt_zero j)⟩
  refine ⟨T, Eq.trans e ?_, f, g⟩
  show Run X 192 2 _ [] T = _
  rw [L_X9_standsTold_2, l7, if_pos (nI_le (Nat.le_refl _) (by decide))]
theorem sm3 {f : Nat → Nat} {n : Nat} (h : ∀ i, i < n → f i ≤ 3) : sm (fun i => (decide (1 ≤ f i)).toNat) n + sm (fun i => (decide (2 ≤ f i)).toNat) n + sm (fun i => (decide (3 ≤ f i)).toNat) n = sm f n := by
  rw [← sm_add, ← sm_add]
  refine sm_congr fun i hi => ?_
  have := h i hi
  rcases (show f i = 0 ∨ f i = 1 ∨ f i = 2 ∨ f i = 3 by omega) with q | q | q | q <;> rw [q] <;> rfl
theorem ctw_le (y n : Nat) (r : List Nat) : ctw y n r ≤ 3 := ctm_le y n r _
theorem mkW_pc {V : Nat} (hV : V ≤ 24) (S : sS) (r : List Nat) (t : Nat) : pc 24 (mkW S V r t) = sm (fun v => (decide (t ≤ ctw (nv (S 8 v)) (nv (S 9 v)) r)).toNat) V := pc_mk hV
theorem mkW_lt {V : Nat} (hV : V ≤ 24) (S : sS) (r : List Nat) (t : Nat) : mkW S V r t < 2 ^ 24 := Nat.lt_of_lt_of_le (mk_lt _ V) (Nat.pow_le_pow_right (by decide) hV)
theorem mkW_tw {V : Nat} (hV : V ≤ 24) (S : sS) (r : List Nat) : pc 24 (mkW S V r 1) + pc 24 (mkW S V r 2) + pc 24 (mkW S V r 3) = tw S V r := by
  rw [mkW_pc hV, mkW_pc hV, mkW_pc hV]
  exact sm3 (f := fun v => ctw (nv (S 8 v)) (nv (S 9 v)) r) (fun i _ => ctw_le _ _ _)
theorem total_ok {V : Nat} (hV : V ≤ 24) (S0 S : sS) (r : List Nat) (h5 : S 25 5 = nI (mkW S0 V r 1)) (h6 : S 25 6 = nI (mkW S0 V r 2)) (h7 : S 25 7 = nI (mkW S0 V r 3)) (X : sX) : Cal X 98 [.ref 25] S = some (some (.int (nI (tw S0 V r))), S) := by
  rw [C_X7_total, h5, swar (mkW_lt hV _ _ _), cI_ok, h6, swar (mkW_lt hV _ _ _), cI_ok, h7, swar (mkW_lt hV _ _ _), cI_ok, nI_add, nI_add, mkW_tw hV]
theorem RC_sd {N V K : Nat} {S S' : sS} (h : RC N V K S) (h1 : S' 25 4 = 1) (h2 : SOK N V S') (h5 : ag [8, 9, 51, 52, 30, 31, 32, 33, 34] [(29, 9), (29, 10), (29, 11), (29, 12), (29, 13), (29, 14), (29, 15), (29, 16)] S S') : RC N V K S' := by
  obtain ⟨_, b, c, d, e⟩ := h
  unfold RC
  rw [h5.2 (29, 10) (by decide), h5.2 (29, 11) (by decide), h5.2 (29, 12) (by decide), h5.2 (29, 13) (by decide)]
  exact ⟨Or.inr ⟨h1, h2⟩, b.imp id (fun ⟨M, p, q, r⟩ => ⟨M, p, q, LOK_ag (ag_mono h5 (by decide) (by decide)) r⟩), c.imp id (fun ⟨p, q, r⟩ => ⟨p, q, JOK_ag (ag_mono h5 (by decide) (by decide)) r⟩), d.imp id (fun ⟨p, q, r⟩ => ⟨p, q, BOK_ag (ag_mono h5 (by decide) (by decide)) r⟩), e.imp id (fun ⟨p, q⟩ => ⟨p, KOK_ag (ag_mono h5 (by decide) (by decide)) q⟩)⟩
theorem hand_len {N : Nat} {h : List Nat} (a1 : h.Nodup) (a2 : ∀ a ∈ h, a < N) : h.length ≤ N := by
  have := nodup_sub h (List.range N) a1 (fun x hx => List.mem_range.mpr (a2 x hx))
  rwa [List.length_range] at this
theorem fr_set3 (S : sS) (a b c : Int32) : fr [] [(25, 5), (25, 6), (25, 7)] S (set3 S a b c) := fr_upF (fr_upF (fr_upF fr_rfl (by decide)) (by decide)) (by decide)
theorem c_judge {S : sS} (R : Rel S) (X : sX) : Two (Cal X 113 [.ref 0] S) (fun S => Cal X 193 [.ref 43] S) := by
  obtain ⟨N, V, K, H, B, E, I, ⟨h, a1, a2, a3, a4, a5, a6⟩, C, M⟩ := id R
  obtain ⟨HD0, k1, k2, m1, m2, m3, k3, k4, k5⟩ := id H
  have hN := HD0.2.1
  have hV := HD0.2.2.2.1
  have hl := hand_len a1 a2
  rw [C_X8_judge, C_X8_handIsWhole, C_X1_members, cI_ok, a4, HD0.1]
  by_cases hw : h.length = N
  case neg =>
    have hne : ¬ nI h.length = nI N := by rw [nI_eq (by omega) (by omega)]; exact hw
    rw [if_neg hne, cI_ok, if_pos rfl, rf_3, cI_ok]
    refine two_rf R ?_
    show Cal X 193 _ (rfu S 3) = _
    rw [C_X9_judge, show rfu S 3 43 11 = nI N from m1, show rfu S 3 43 28 = nI h.length from a5, if_neg (nI_ge (by omega) (by omega)), no_3, cI_ok]
  have hr : RowOK N h := ⟨hw, a1, a2⟩
  obtain ⟨S1, e1, f1, g1, g2, g3⟩ := refresh_ok HD0 C.1 X
  have HD1 : HD N V S1 := HD_off HD0 f1
  have f1' := fr_off f1
  have g4 : S1 0 9 = nI (pk h) := by rw [fr_fld f1' 0 9 (by decide) (by decide)]; exact a3
  rw [hw, if_pos rfl, cI_ok, if_neg (by decide), e1, cV_ok, g4, walk_ok HD1 g3 hr, cV_ok, C_X8_emptyHand, cV_ok]
  obtain ⟨S2, hS2⟩ : ∃ S2, S2 = up2 (up2 (set3 S1 (nI (mkW S1 V h 1)) (nI (mkW S1 V h 2)) (nI (mkW S1 V h 3))) 0 9 0) 0 10 0 := ⟨_, rfl⟩
  have f2 : fr [26, 27, 28] [(25, 4), (25, 5), (25, 6), (25, 7), (0, 9), (0, 10)] S S2 := by
    rw [hS2]
    refine fr_upF (fr_upF (fr_trans (fun c j hc hj => ?_) (fr_mono (fr_set3 S1 _ _ _) (by decide) (by decide))) (by decide)) (by decide)
    by_cases q : c = 25
    · subst q
      exact g1 j (fun e => hj (by rw [e]; decide))
    · rw [f1 c (by simp only [List.mem_cons, List.not_mem_nil, or_false] at hc ⊢; omega)]
  have et : tw S1 V h = tw S V h := by rw [tw_ag (fr_ag f1' (by decide))]
  have e2 : Cal X 98 [.ref 25] S2 = some (some (.int (nI (tw S V h))), S2) := by
    rw [← et]
    refine total_ok hV S1 S2 h ?_ ?_ ?_ X
    · rw [hS2]; exact set3_5 S1 (nI (mkW S1 V h 1)) (nI (mkW S1 V h 2)) (nI (mkW S1 V h 3))
    · rw [hS2]; exact set3_6 S1 (nI (mkW S1 V h 1)) (nI (mkW S1 V h 2)) (nI (mkW S1 V h 3))
    · rw [hS2]; exact set3_7 S1 (nI (mkW S1 V h 1)) (nI (mkW S1 V h 2)) (nI (mkW S1 V h 3))
  rw [← hS2, e2, cI_ok]
  have H2 : HH N V K S2 := HH_ag (fr_ag f2 (by decide)) H
  obtain ⟨S3, e3, f3, g5⟩ := told_ok X S2
  obtain ⟨S4, hS4⟩ : ∃ S4, S4 = up2 S3 43 28 0 := ⟨_, rfl⟩
  have f4 : fr [56] [(43, 28)] S2 S4 := by rw [hS4]; exact fr_upF (fr_mono f3 (by decide) (by decide)) (by decide)
  have H4 : HH N V K S4 := HH_ag (fr_ag f4 (by decide)) H2
  have hR : RH N h S4 := by
    intro j hj
    rw [hS4]
    show S3 56 j = _
    rw [g5 j (by omega), fr_cell f2 59 (by decide) (by decide), a6 j (by omega)]
  obtain ⟨T, e5, f5⟩ := wrongAll_ok H4 hr hR X
  have et4 : tw S4 V h = tw S V h := by rw [tw_ag (fr_ag f4 (by decide)), tw_ag (fr_ag f2 (by decide))]
  refine ⟨nI (tw S V h), S2, T, rfl, ?_, ?_⟩
  · show Cal X 193 _ S2 = _
    rw [C_X9_judge, H2.2.2.2.1, fr_fld f2 43 28 (by decide) (by decide), a5, hw, if_pos (nI_le (Nat.le_refl _) (by omega)), e3, cV_ok, ← hS4, e5, cI_ok, et4]
  · have fA : fr [26, 27, 28, 56] [(25, 4), (25, 5), (25, 6), (25, 7), (0, 9), (0, 10), (43, 28), (43, 19), (43, 20), (43, 21)] S T := fr_trans (fr_trans (fr_mono f2 (by decide) (by decide)) (fr_mono f4 (by decide) (by decide))) (fr_mono f5 (by decide) (by decide))
    have fB : fr [56] [(43, 28), (43, 19), (43, 20), (43, 21)] S2 T := fr_trans (fr_mono f4 (by decide) (by decide)) (fr_mono f5 (by decide) (by decide))
    have fC : fr [56] [(25, 5), (25, 6), (25, 7), (0, 9), (0, 10), (43, 28), (43, 19), (43, 20), (43, 21)] S1 T := by
      refine fr_trans ?_ (fr_mono fB (by decide) (by decide))
      rw [hS2]
      exact fr_upF (fr_upF (fr_mono (fr_set3 S1 _ _ _) (by decide) (by decide)) (by decide)) (by decide)
    refine ⟨N, V, K, HH_ag (fr_ag fA (by decide)) H, RB_ag (fr_ag fA (by decide)) B, ?_, RI_ag (fr_ag fA (by decide)) I, ⟨[], List.nodup_nil, fun a ha => absurd ha List.not_mem_nil, ?_, ?_, ?_, fun j hj => absurd hj (Nat.not_lt_zero j)⟩, RC_sd C ?_ (SOK_ag (fr_ag fC (by decide)) g3) (fr_ag fA (by decide)), RM_ag (fr_ag fA (by decide)) M⟩
    · rw [fr_cell fA 44 (by decide) (by decide), fr_cell fA 42 (by decide) (by decide)]; exact E
    · rw [fr_fld fB 0 9 (by decide) (by decide), hS2]; rfl
    · rw [fr_fld fB 0 10 (by decide) (by decide), hS2]; rfl
    · rw [fr_fld f5 43 28 (by decide) (by decide), hS4]; rfl
    · rw [fr_fld fC 25 4 (by decide) (by decide)]; exact g2
theorem cutIn_ok {N V : Nat} {S : sS} (H : HD N V S) {r : List Nat} (hr : RowOK N r) {v : Nat} (hv : v < V) (X : sX) : Cal X 141 [.ref 0, .int (nI (pk r)), .int (nI v)] S = some (some (.int (nI (bcm (nv (S 8 v)) (nv (S 9 v)) r (N + 1)))), S) := by
  obtain ⟨y, n, hy, hn, -, -, -, e8, e9, e8', e9'⟩ := vote_y H hv
  rw [C_X8_cutIn, C_X1_members, cI_ok, yesOf_ok H hv, cI_ok, noOf_ok H hv, cI_ok, H.1, e8, e9, bestCut_ok hr H.2.1 hy hn, cI_ok, nv_nI (by omega), nv_nI (by omega)]
theorem isYes_ok {N m w p s : Nat} {r : List Nat} {T : sS} (hN : N ≤ 7) (hm : m < 2 ^ 31) (h8 : ∀ j, j < N → r.getD j 0 < 2 ^ 31) (hR : RH N r T) (hp : T 43 20 = nI p) (hs : T 43 21 = nI s) (hpN : p ≤ N) (hs1 : s ≤ 1) (X : sX) : Cal X 182 [.ref 43, .int (nI m)] T = some (some (.int (bI ((pre r p).testBit m == decide (s = 0)))), T) := by
  rw [C_X9_isYes]
  have key := loop_eq (F := fun k => Run X 182 4 [some (.ref 43), some (.int (nI m)), some (.int (bI ((pre r k).testBit m))), some (.int (nI k))] [] T) p 0 (by
    intro k _ hk
    have e : (pre r (k + 1)).testBit m = ((pre r k).testBit m || decide (r.getD k 0 = m)) := by
      show (pre r k ||| 2 ^ r.getD k 0).testBit m = _
      rw [Nat.testBit_or, Nat.testBit_two_pow]
    show Run X 182 4 _ [] T = Run X 182 4 _ [] T
    rw [L_X9_isYes_4, hp, if_neg (nI_ge hk (by omega)), e, nI_1]
    cases (pre r k).testBit m with
    | true => rw [if_neg (by decide)]; rfl
    | false =>
      rw [if_pos (show bI false = 0 from rfl), ix_nI (by omega) (by decide), hR k (by omega)]
      by_cases q : r.getD k 0 = m
      · rw [q, if_pos rfl, decide_eq_true rfl]; rfl
      · rw [if_neg (by rw [nI_eq (h8 k (by omega)) hm]; exact q), decide_eq_false q]; rfl) (Nat.zero_le _)
  have k0 : bI ((pre r 0).testBit m) = 0 := by
    show bI ((0 : Nat).testBit m) = 0
    rw [Nat.zero_testBit]
    rfl
  have key' := key
  simp only [k0] at key'
  refine Eq.trans key' ?_
  rw [L_X9_isYes_4, hp, hs, if_pos (nI_le (Nat.le_refl _) (by omega))]
  rcases (show s = 0 ∨ s = 1 by omega) with rfl | rfl
  · rw [if_pos nI_0]
    cases (pre r p).testBit m
    · rw [if_neg (by decide)]; rfl
    · rw [if_pos (show bI true = 1 from rfl)]; rfl
  · rw [if_neg (by decide)]
    cases (pre r p).testBit m
    · rw [if_pos (show bI false = 0 from rfl)]; rfl
    · rw [if_neg (by decide)]; rfl
/-- vote and hand, whole or not, for both: what is common to cut and wrong -/
theorem c_cut {S : sS} (R : Rel S) (X : sX) (p1 : Int32) : Two (Cal X 114 [.ref 0, .int p1] S) (fun S => Cal X 194 [.ref 43, .int p1] S) := by
  obtain ⟨N, V, K, H, B, E, I, A, C, M⟩ := id R
  obtain ⟨h, a1, a2, a3, a4, a5, a6⟩ := id A
  obtain ⟨HD0, k1, k2, m1, m2, m3, k3, k4, k5⟩ := id H
  have hN := HD0.2.1
  have hV := HD0.2.2.2.1
  have hl := hand_len a1 a2
  rw [C_X8_cut]
  rcases pk_ix2 p1 (n := V) (by omega) with q | ⟨v, hv, rfl⟩
  · rw [isV_n HD0 q, cI_ok, if_pos rfl, rf_1, cI_ok]
    refine two_rf R ?_
    show Cal X 194 _ (rfu S 1) = _
    rw [C_X9_cut, mV_n (S := rfu S 1) m2 q, cI_ok, if_pos rfl, no_1, cI_ok]
  rw [isVote_ok HD0 hv, cI_ok, if_neg (by decide), C_X8_handIsWhole, C_X1_members, cI_ok, a4, HD0.1]
  by_cases hw : h.length = N
  case neg =>
    have hne : ¬ nI h.length = nI N := by rw [nI_eq (by omega) (by omega)]; exact hw
    rw [if_neg hne, cI_ok, if_pos rfl, rf_3, cI_ok]
    refine two_rf R ?_
    show Cal X 194 _ (rfu S 3) = _
    rw [C_X9_cut, mV_y (S := rfu S 3) m2 (by omega) hv, cI_ok, if_neg (by decide), show rfu S 3 43 11 = nI N from m1, show rfu S 3 43 28 = nI h.length from a5, if_neg (nI_ge (by omega) (by omega)), no_3, cI_ok]
  have hr : RowOK N h := ⟨hw, a1, a2⟩
  obtain ⟨y, n, -, -, hy, hn, hd, e8, e9, e8', e9'⟩ := vote_y HD0 hv
  obtain ⟨g1, g2, -⟩ := k4 v hv
  rw [hw, if_pos rfl, cI_ok, if_neg (by decide), a3, cutIn_ok HD0 hr hv, cI_ok, e8', e9']
  obtain ⟨S3, e3, f3, g5⟩ := told_ok X S
  have hR : RH N h S3 := fun j hj => by rw [g5 j (by omega), a6 j (by omega)]
  obtain ⟨T, e4, f4, w, p, s, q1, q2, q3, q4, q5, q6, q7⟩ := findCut_ok hr hN hy hn hd X S3 (by rw [fr_fld f3 43 11 (by decide) (by decide)]; exact m1) hR
  have fA : fr [56] [(43, 19), (43, 20), (43, 21)] S T := fr_trans (fr_mono f3 (by decide) (by decide)) (fr_mono f4 (by decide) (by decide))
  refine ⟨nI (bcm y n h (N + 1)), S, T, rfl, ?_, rel_ag fA R ?_ (by decide) (by decide) (by decide) (by decide) (by decide) (by decide)⟩
  · show Cal X 194 _ S = _
    rw [C_X9_cut, mV_y m2 (by omega) hv, cI_ok, if_neg (by decide), m1, a5, hw, if_pos (nI_le (Nat.le_refl _) (by omega)), e3, cV_ok, ix_nI (by omega) (by decide), ix_nI (by omega) (by decide), fr_cell f3 49 (by decide) (by decide), fr_cell f3 50 (by decide) (by decide), g1, g2, e8, e9, e4, cV_ok, q1, q2, q3, l100, l2, pk_mul, pk_mul, nI_add, nI_add, q7]
  · rw [fr_cell fA 44 (by decide) (by decide), fr_cell fA 42 (by decide) (by decide)]; exact E
theorem xor_m1 (x : Int32) : (x ^^^ (-1)) ^^^ (-1) = x := by
  rw [Int32.xor_assoc, show ((-1 : Int32) ^^^ (-1)) = 0 by decide, Int32.xor_zero]
def wrS (y n L : Nat) (s : Nat) (m : Nat) : Bool := bif (L.testBit m == decide (s = 0)) then n.testBit m else y.testBit m
theorem c_wrong {S : sS} (R : Rel S) (X : sX) (p1 : Int32) : Two (Cal X 115 [.ref 0, .int p1] S) (fun S => Cal X 195 [.ref 43, .int p1] S) := by
  obtain ⟨N, V, K, H, B, E, I, A, C, M⟩ := id R
  obtain ⟨h, a1, a2, a3, a4, a5, a6⟩ := id A
  obtain ⟨HD0, k1, k2, m1, m2, m3, k3, k4, k5⟩ := id H
  have hN := HD0.2.1
  have hV := HD0.2.2.2.1
  have hl := hand_len a1 a2
  rw [C_X8_wrong]
  rcases pk_ix2 p1 (n := V) (by omega) with q | ⟨v, hv, rfl⟩
  · rw [isV_n HD0 q, cI_ok, if_pos rfl, rf_1, cI_ok]
    refine two_rf R ?_
    show Cal X 195 _ (rfu S 1) = _
    rw [C_X9_wrong, mV_n (S := rfu S 1) m2 q, cI_ok, if_pos rfl, no_1, cI_ok]
  rw [isVote_ok HD0 hv, cI_ok, if_neg (by decide), C_X8_handIsWhole, C_X1_members, cI_ok, a4, HD0.1]
  by_cases hw : h.length = N
  case neg =>
    have hne : ¬ nI h.length = nI N := by rw [nI_eq (by omega) (by omega)]; exact hw
    rw [if_neg hne, cI_ok, if_pos rfl, rf_3, cI_ok]
    refine two_rf R ?_
    show Cal X 195 _ (rfu S 3) = _
    rw [C_X9_wrong, mV_y (S := rfu S 3) m2 (by omega) hv, cI_ok, if_neg (by decide), show rfu S 3 43 11 = nI N from m1, show rfu S 3 43 28 = nI h.length from a5, if_neg (nI_ge (by omega) (by omega)), no_3, cI_ok]
  have hr : RowOK N h := ⟨hw, a1, a2⟩
  have h8 := row_lt8 hr hN
  obtain ⟨y, n, hy7, hn7, hy, hn, hd, e8, e9, e8', e9'⟩ := vote_y HD0 hv
  obtain ⟨g1, g2, -⟩ := k4 v hv
  obtain ⟨S3, e3, f3, g5⟩ := told_ok X S
  have hR : RH N h S3 := fun j hj => by rw [g5 j (by omega), a6 j (by omega)]
  obtain ⟨T, e4, f4, w, p, s, q1, q2, q3, q4, q5, q6, q7⟩ := findCut_ok hr hN hy hn hd X S3 (by rw [fr_fld f3 43 11 (by decide) (by decide)]; exact m1) hR
  have fA : fr [56] [(43, 19), (43, 20), (43, 21)] S T := fr_trans (fr_mono f3 (by decide) (by decide)) (fr_mono f4 (by decide) (by decide))
  have hc1 : (100 * w + 2 * p + s) % 100 / 2 = p := by omega
  have hc2 : decide ((100 * w + 2 * p + s) % 2 = 0) = decide (s = 0) := by
    rw [decide_eq_decide]; omega
  have hpl := pre_lt hr q5
  have h128 := pow_le128 hN
  have ec : ∀ (b : Bool), decide (s = 0) = b → (if bI b = 0 then some (some (Value.int (nI y &&& ((nI (pre h p) ^^^ -1) ^^^ -1) ||| nI n &&& (nI (pre h p) ^^^ -1))), S) else some (some (Value.int (nI y &&& (nI (pre h p) ^^^ -1) ||| nI n &&& nI (pre h p))), S)) = some (some (Value.int (nI (mk (wrS y n (pre h p) s) N))), S) := by
    intro b hb
    have fin : ∀ z : Nat, (∀ i, z.testBit i = (decide (i < N) && wrS y n (pre h p) s i)) → nI z = nI (mk (wrS y n (pre h p) s) N) := by
      intro z hz
      congr 1
      apply Nat.eq_of_testBit_eq
      intro i
      rw [hz, mk_bit]
    have yb : ∀ i, ¬ i < N → y.testBit i = false := fun i hi => by
      cases hq : y.testBit i with
      | false => rfl
      | true => exact absurd (lt_pow_iff.mp hy i hq) hi
    have nb : ∀ i, ¬ i < N → n.testBit i = false := fun i hi => by
      cases hq : n.testBit i with
      | false => rfl
      | true => exact absurd (lt_pow_iff.mp hn i hq) hi
    cases b with
    | false =>
      rw [if_pos (show bI false = 0 from rfl), xor_m1, and_nI, andNot_nI, or_nI, fin]
      intro i
      unfold wrS
      rw [Nat.testBit_or, Nat.testBit_and, andn_bit, hb]
      by_cases hi : i < N
      · rw [decide_eq_true hi]
        cases y.testBit i <;> cases n.testBit i <;> cases (pre h p).testBit i <;> rfl
      · rw [decide_eq_false hi, yb i hi, nb i hi]
        rfl
    | true =>
      rw [if_neg (show ¬ bI true = 0 by decide), and_nI, andNot_nI, or_nI, fin]
      intro i
      unfold wrS
      rw [Nat.testBit_or, Nat.testBit_and, andn_bit, hb]
      by_cases hi : i < N
      · rw [decide_eq_true hi]
        cases y.testBit i <;> cases n.testBit i <;> cases (pre h p).testBit i <;> rfl
      · rw [decide_eq_false hi, yb i hi, nb i hi]
        rfl
  rw [hw, if_pos rfl, cI_ok, if_neg (by decide), a3, cutIn_ok HD0 hr hv, cI_ok, e8', e9', q7, placeOf_ok (by omega), cI_ok, a3, hc1, firstOnes_ok h8 (by omega) (by omega), cI_ok, yesLeft_ok (by omega), cI_ok, hc2, yesOf_ok HD0 hv, cI_ok, noOf_ok HD0 hv, cI_ok, cI_ok, noOf_ok HD0 hv, cI_ok, e8, e9, ec _ rfl]
  refine ⟨_, S, T, rfl, ?_, rel_ag fA R ?_ (by decide) (by decide) (by decide) (by decide) (by decide) (by decide)⟩
  · show Cal X 195 _ S = _
    rw [C_X9_wrong, mV_y m2 (by omega) hv, cI_ok, if_neg (by decide), m1, a5, hw, if_pos (nI_le (Nat.le_refl _) (by omega)), e3, cV_ok, ix_nI (by omega) (by decide), ix_nI (by omega) (by decide), fr_cell f3 49 (by decide) (by decide), fr_cell f3 50 (by decide) (by decide), g1, g2, e8, e9, e4, cV_ok]
    have hRT : RH N h T := fun j hj => by rw [fr_cell f4 56 (by decide) (by decide)]; exact hR j hj
    have t11 : T 43 11 = nI N := by rw [fr_fld fA 43 11 (by decide) (by decide)]; exact m1
    have t49 : T 49 v = nI y := by rw [fr_cell fA 49 (by decide) (by decide), g1, e8]
    have t50 : T 50 v = nI n := by rw [fr_cell fA 50 (by decide) (by decide), g2, e9]
    have key := loop_eq (F := fun k => Run X 195 56 [some (.ref 43), some (.int (nI v)), some (.int (nI (mk (wrS y n (pre h p) s) k))), some (.int (nI k))] [] T) N 0 (by
      intro k _ hk
      show Run X 195 56 _ [] T = Run X 195 56 _ [] T
      rw [L_X9_wrong_56, t11, if_neg (nI_ge hk (by omega)), isYes_ok (w := w) hN (by omega) (fun j hj => by have := row_at_lt hr hj; omega) hRT q2 q3 q5 q4, cI_ok, ix_nI (by omega) (by decide), ix_nI (by omega) (by decide), t49, t50, sbit (by omega) (by omega), sbit (by omega) (by omega), nI_1]
      have es : ∀ b, wrS y n (pre h p) s k = b → mk (wrS y n (pre h p) s) (k + 1) = mk (wrS y n (pre h p) s) k ||| (bif b then 2 ^ k else 0) := fun b hb => by rw [← hb]; rfl
      have sh : ∀ b, oShl (bI b) (nI k) = nI (bif b then 2 ^ k else 0) := by
        intro b
        cases b with
        | false =>
          show oShl (nI 0) (nI k) = nI 0
          rw [oShl_nI (by omega) (by omega), Nat.zero_mul]
        | true => exact oShl_1 (by omega)
      cases hb : ((pre h p).testBit k == decide (s = 0)) with
      | true =>
        rw [if_neg (show ¬ bI true = 0 by decide), sh, or_nI, es (n.testBit k) (by unfold wrS; rw [hb]; rfl)]
      | false =>
        rw [if_pos (show bI false = 0 from rfl), sh, or_nI, es (y.testBit k) (by unfold wrS; rw [hb]; rfl)]) (Nat.zero_le _)
    refine Eq.trans key ?_
    rw [L_X9_wrong_56, t11, if_pos (nI_le (Nat.le_refl _) (by omega))]
  · rw [fr_cell fA 44 (by decide) (by decide), fr_cell fA 42 (by decide) (by decide)]; exact E
