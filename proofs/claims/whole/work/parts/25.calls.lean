theorem up2_ap (S : sS) (k j i l : Nat) (v : Int32) : up2 S k j v i l = if i = k ∧ l = j then v else S i l := by
  by_cases h : i = k
  · subst h
    rw [up2_at]
    by_cases h2 : l = j
    · subst h2; rw [upd_at, if_pos ⟨rfl, rfl⟩]
    · rw [upd_ne _ _ h2, if_neg (fun q => h2 q.2)]
  · rw [up2_ne S j v h, if_neg (fun q => h q.1)]
theorem pk_ix2 (x : Int32) {n : Nat} (hn : n < 2 ^ 31) : (x < 0 ∨ nI n ≤ x) ∨ ∃ j : Nat, j < n ∧ x = nI j := by
  rcases pk_ix x hn with q | q | q
  · exact Or.inl (Or.inl q)
  · exact Or.inl (Or.inr q)
  · exact Or.inr q
theorem lt_nI_le {n : Nat} {x : Int32} (h : nI (n + 1) ≤ x) (hn : n + 1 < 2 ^ 31) : nI n < x := Int32.lt_of_lt_of_le (nI_lt (by omega) hn) h
/-! refusals -/
def rfu (S : sS) (k : Nat) : sS := up2 S 42 k (S 42 k + 1)
def rfm (S : sS) (k : Nat) : sS := up2 S 44 k (S 44 k + 1)
theorem rf_ok {r : Int32} {k : Nat} (hr : -r = nI k) (h1 : 1 ≤ k) (h7 : k < 7) (X : sX) (S : sS) : Cal X 135 [.ref 0, .int r] S = some (some (.int r), rfu S k) := by
  rw [C_X8_refuse, hr, l1, if_neg (nI_nlt h1 (by omega)), l7, if_neg (nI_ge h7 (by decide)), ix_nI h7 (by decide), ix_nI h7 (by decide)]
  rfl
theorem no_ok {r : Int32} {k : Nat} (hr : -r = nI k) (h7 : k < 7) (X : sX) (S : sS) : Cal X 149 [.ref 43, .int r] S = some (some (.int r), rfm S k) := by
  rw [C_X9_no, hr, ix_nI h7 (by decide), ix_nI h7 (by decide)]
  rfl
theorem rf_1 (X : sX) (S : sS) : Cal X 135 [.ref 0, .int (-1)] S = some (some (.int (-1)), rfu S 1) := rf_ok (by decide) (by decide) (by decide) X S
theorem rf_2 (X : sX) (S : sS) : Cal X 135 [.ref 0, .int (-2)] S = some (some (.int (-2)), rfu S 2) := rf_ok (by decide) (by decide) (by decide) X S
theorem rf_3 (X : sX) (S : sS) : Cal X 135 [.ref 0, .int (-3)] S = some (some (.int (-3)), rfu S 3) := rf_ok (by decide) (by decide) (by decide) X S
theorem rf_4 (X : sX) (S : sS) : Cal X 135 [.ref 0, .int (-4)] S = some (some (.int (-4)), rfu S 4) := rf_ok (by decide) (by decide) (by decide) X S
theorem rf_6 (X : sX) (S : sS) : Cal X 135 [.ref 0, .int (-6)] S = some (some (.int (-6)), rfu S 6) := rf_ok (by decide) (by decide) (by decide) X S
theorem no_1 (X : sX) (S : sS) : Cal X 149 [.ref 43, .int (-1)] S = some (some (.int (-1)), rfm S 1) := no_ok (by decide) (by decide) X S
theorem no_2 (X : sX) (S : sS) : Cal X 149 [.ref 43, .int (-2)] S = some (some (.int (-2)), rfm S 2) := no_ok (by decide) (by decide) X S
theorem no_3 (X : sX) (S : sS) : Cal X 149 [.ref 43, .int (-3)] S = some (some (.int (-3)), rfm S 3) := no_ok (by decide) (by decide) X S
theorem no_4 (X : sX) (S : sS) : Cal X 149 [.ref 43, .int (-4)] S = some (some (.int (-4)), rfm S 4) := no_ok (by decide) (by decide) X S
theorem no_6 (X : sX) (S : sS) : Cal X 149 [.ref 43, .int (-6)] S = some (some (.int (-6)), rfm S 6) := no_ok (by decide) (by decide) X S
theorem rel_ag {S S' : sS} {L : List Nat} {F : List (Nat × Nat)} (h : fr L F S S') (R : Rel S) (h44 : S' 44 = S' 42) (a1 : (∀ c ∈ cH, c ∉ L ∧ ∀ p ∈ F, p.1 ≠ c) ∧ ∀ p ∈ fH, p.1 ∉ L ∧ p ∉ F) (a2 : (∀ c ∈ [24, 55], c ∉ L ∧ ∀ p ∈ F, p.1 ≠ c) ∧ ∀ p ∈ [(23, 2), (43, 16)], p.1 ∉ L ∧ p ∉ F) (a3 : (∀ c ∈ cI_, c ∉ L ∧ ∀ p ∈ F, p.1 ≠ c) ∧ ∀ p ∈ [(0, 2), (43, 43)], p.1 ∉ L ∧ p ∉ F) (a4 : (∀ c ∈ [59], c ∉ L ∧ ∀ p ∈ F, p.1 ≠ c) ∧ ∀ p ∈ [(0, 9), (0, 10), (43, 28)], p.1 ∉ L ∧ p ∉ F) (a5 : (∀ c ∈ [8, 9, 51, 52, 26, 27, 28, 30, 31, 32, 33, 34], c ∉ L ∧ ∀ p ∈ F, p.1 ≠ c) ∧ ∀ p ∈ [(25, 4), (29, 9), (29, 10), (29, 11), (29, 12), (29, 13), (29, 14), (29, 15), (29, 16)], p.1 ∉ L ∧ p ∉ F) (a6 : (∀ c ∈ [8, 9, 51, 52, 57, 58], c ∉ L ∧ ∀ p ∈ F, p.1 ≠ c) ∧ ∀ p ∈ [(43, 14), (43, 24), (43, 25), (43, 26)], p.1 ∉ L ∧ p ∉ F) : Rel S' := by
  obtain ⟨N, V, K, a, b, _, d, e, f, g⟩ := R
  exact ⟨N, V, K, HH_ag (fr_ag h a1) a, RB_ag (fr_ag h a2) b, h44, RI_ag (fr_ag h a3) d, RA_ag (fr_ag h a4) e, RC_ag (fr_ag h a5) f, RM_ag (fr_ag h a6) g⟩
theorem rel_44 {S : sS} (R : Rel S) : S 44 = S 42 := by
  obtain ⟨_, _, _, _, _, h, _⟩ := R
  exact h
theorem fr_rfu (S : sS) (k : Nat) : fr [42] [] S (rfu S k) := fr_upL fr_rfl (by decide)
theorem rel_rf {S : sS} (R : Rel S) (k : Nat) : Rel (rfm (rfu S k) k) := by
  have h : fr [42, 44] [] S (rfm (rfu S k) k) := fr_upL (fr_upL fr_rfl (by decide)) (by decide)
  refine rel_ag h R ?_ (by decide) (by decide) (by decide) (by decide) (by decide) (by decide)
  have e := rel_44 R
  funext j
  unfold rfm rfu
  simp only [up2_ap, e]
  by_cases hj : j = k <;> simp [hj]
theorem two_rf {S : sS} (R : Rel S) {r : Int32} {k : Nat} {f : sS → sR} (hf : f (rfu S k) = some (some (.int r), rfm (rfu S k) k)) : Two (some (some (.int r), rfu S k)) f := ⟨r, _, _, rfl, hf, rel_rf R k⟩
theorem two_pure {S : sS} (R : Rel S) {r : Int32} {f : sS → sR} (hf : f S = some (some (.int r), S)) : Two (some (some (.int r), S)) f := ⟨r, _, _, rfl, hf, R⟩
/-! small questions -/
theorem isM_y {N V : Nat} {S : sS} (H : HD N V S) {m : Nat} (hm : m < N) (X : sX) : Cal X 20 [.ref 1, .int (nI m)] S = some (some (.int 1), S) := by
  have := H.2.1
  rw [C_X1_isMember, if_neg (nI_pos (by omega)), H.1, if_neg (nI_ge hm (by omega))]
theorem isM_n {N V : Nat} {S : sS} (H : HD N V S) {x : Int32} (hx : x < 0 ∨ nI N ≤ x) (X : sX) : Cal X 20 [.ref 1, .int x] S = some (some (.int 0), S) := by
  rw [C_X1_isMember, H.1]
  by_cases q : x < 0
  · rw [if_pos q]
  · rw [if_neg q, if_pos (hx.resolve_left q)]
theorem isV_n {N V : Nat} {S : sS} (H : HD N V S) {x : Int32} (hx : x < 0 ∨ nI V ≤ x) (X : sX) : Cal X 21 [.ref 1, .int x] S = some (some (.int 0), S) := by
  rw [C_X1_isVote, H.2.2.1]
  by_cases q : x < 0
  · rw [if_pos q]
  · rw [if_neg q, if_pos (hx.resolve_left q)]
theorem mM_y {N : Nat} {S : sS} (H : S 43 11 = nI N) (hN : N < 2 ^ 31) {m : Nat} (hm : m < N) (X : sX) : Cal X 153 [.ref 43, .int (nI m)] S = some (some (.int 1), S) := by
  rw [C_X9_isMember, if_neg (nI_pos (by omega)), H, if_neg (nI_ge hm hN)]
theorem mM_n {N : Nat} {S : sS} (H : S 43 11 = nI N) {x : Int32} (hx : x < 0 ∨ nI N ≤ x) (X : sX) : Cal X 153 [.ref 43, .int x] S = some (some (.int 0), S) := by
  rw [C_X9_isMember, H]
  by_cases q : x < 0
  · rw [if_pos q]
  · rw [if_neg q, if_pos (hx.resolve_left q)]
theorem mV_y {N : Nat} {S : sS} (H : S 43 12 = nI N) (hN : N < 2 ^ 31) {m : Nat} (hm : m < N) (X : sX) : Cal X 154 [.ref 43, .int (nI m)] S = some (some (.int 1), S) := by
  rw [C_X9_isVote, if_neg (nI_pos (by omega)), H, if_neg (nI_ge hm hN)]
theorem mV_n {N : Nat} {S : sS} (H : S 43 12 = nI N) {x : Int32} (hx : x < 0 ∨ nI N ≤ x) (X : sX) : Cal X 154 [.ref 43, .int x] S = some (some (.int 0), S) := by
  rw [C_X9_isVote, H]
  by_cases q : x < 0
  · rw [if_pos q]
  · rw [if_neg q, if_pos (hx.resolve_left q)]
theorem mI_y {x a b : Int32} (h1 : ¬ x < a) (h2 : ¬ b < x) (X : sX) (S : sS) : Cal X 150 [.int x, .int a, .int b] S = some (some (.int 1), S) := by
  rw [C_X9_isIn, if_neg h1, if_neg h2]
theorem mI_n {x a b : Int32} (h : x < a ∨ b < x) (X : sX) (S : sS) : Cal X 150 [.int x, .int a, .int b] S = some (some (.int 0), S) := by
  rw [C_X9_isIn]
  by_cases q : x < a
  · rw [if_pos q]
  · rw [if_neg q, if_pos (h.resolve_left q)]
theorem partyOf_ok {N V : Nat} {S : sS} (H : HD N V S) {m : Nat} (hm : m < N) (X : sX) : Cal X 36 [.ref 1, .int (nI m)] S = some (some (.int (S 4 m)), S) := by
  have := H.2.1
  rw [C_X1_partyOf, isM_y H hm, cI_ok, if_neg (by decide), ix_nI (by omega) (by decide)]
theorem xOf_ok {N V : Nat} {S : sS} (H : HD N V S) {m : Nat} (hm : m < N) (X : sX) : Cal X 41 [.ref 1, .int (nI m)] S = some (some (.int (S 5 m)), S) := by
  have := H.2.1
  rw [C_X1_xOf, isM_y H hm, cI_ok, if_neg (by decide), ix_nI (by omega) (by decide)]
theorem yOf_ok {N V : Nat} {S : sS} (H : HD N V S) {m : Nat} (hm : m < N) (X : sX) : Cal X 42 [.ref 1, .int (nI m)] S = some (some (.int (S 6 m)), S) := by
  have := H.2.1
  rw [C_X1_yOf, isM_y H hm, cI_ok, if_neg (by decide), ix_nI (by omega) (by decide)]
theorem yearOf_ok {N V : Nat} {S : sS} (H : HD N V S) {v : Nat} (hv : v < V) (X : sX) : Cal X 37 [.ref 1, .int (nI v)] S = some (some (.int (S 7 v)), S) := by
  have := H.2.2.2.1
  rw [C_X1_yearOf, isVote_ok H hv, cI_ok, if_neg (by decide), ix_nI (by omega) (by decide)]
/-! what is forgotten -/
theorem vch_ok (X : sX) (S : sS) : Cal X 136 [.ref 0] S = some (none, up2 (up2 (up2 (up2 S 25 4 0) 29 11 0) 29 12 0) 29 13 0) := by
  rw [C_X8_votesChanged, C_X7_forget, cV_ok, C_X5_forgetWrongs, cV_ok]
theorem RC_vc {N V K N' V' K' : Nat} {S S' : sS} (h : RC N V K S) (h1 : S' 25 4 = 0) (h2 : S' 29 11 = 0) (h3 : S' 29 12 = 0) (h4 : S' 29 13 = 0) (h5 : ag [30] [(29, 9), (29, 10)] S S') : RC N' V' K' S' := by
  obtain ⟨_, b, _, _, _⟩ := h
  refine ⟨Or.inl h1, ?_, Or.inl h2, Or.inl h3, Or.inl h4⟩
  rw [h5.2 (29, 10) (by decide)]
  exact b.imp id (fun ⟨M, p, q, r⟩ => ⟨M, p, q, LOK_ag (ag_mono h5 (by decide) (by decide)) r⟩)
theorem RC_fb {N V K K' : Nat} {S S' : sS} (h : RC N V K S) (h3 : S' 29 12 = 0) (h5 : ag [8, 9, 26, 27, 28, 30, 31, 32, 33] [(25, 4), (29, 9), (29, 10), (29, 11), (29, 13), (29, 16)] S S') : RC N V K' S' := by
  obtain ⟨a, b, c, _, e⟩ := h
  unfold RC
  rw [h5.2 (25, 4) (by decide), h5.2 (29, 10) (by decide), h5.2 (29, 11) (by decide), h5.2 (29, 13) (by decide)]
  exact ⟨a.imp id (fun ⟨p, q⟩ => ⟨p, SOK_ag (ag_mono h5 (by decide) (by decide)) q⟩), b.imp id (fun ⟨M, p, q, r⟩ => ⟨M, p, q, LOK_ag (ag_mono h5 (by decide) (by decide)) r⟩), c.imp id (fun ⟨p, q, r⟩ => ⟨p, q, JOK_ag (ag_mono h5 (by decide) (by decide)) r⟩), Or.inl h3, e.imp id (fun ⟨p, q⟩ => ⟨p, KOK_ag (ag_mono h5 (by decide) (by decide)) q⟩)⟩
/-! of, takeOut, party, free -/
theorem c_of {S : sS} (R : Rel S) (X : sX) (p1 p2 : Int32) : Two (Cal X 107 [.ref 0, .int p1, .int p2] S) (fun S => Cal X 161 [.ref 43, .int p1, .int p2] S) := by
  obtain ⟨N, V, K, ⟨H, k1, k2, m1, m2, m3, k3, k4, k5⟩, -⟩ := id R
  have hV := H.2.2.2.1
  rcases pk_ix2 p1 (n := V) (by omega) with q | ⟨v, hv, rfl⟩
  · rw [C_X8_of, isV_n H q, cI_ok, if_pos rfl, rf_1, cI_ok]
    refine two_rf R ?_
    show Cal X 161 _ (rfu S 1) = _
    rw [C_X9_of, mV_n (S := rfu S 1) m2 q, cI_ok, if_pos rfl, no_1, cI_ok]
  · obtain ⟨g1, g2, y, hy, g3, g4⟩ := k4 v hv
    rw [C_X8_of, isVote_ok H hv, cI_ok, if_neg (by decide)]
    by_cases b0 : p2 = 0
    · subst b0
      rw [if_pos rfl, yearOf_ok H hv, cI_ok]
      refine two_pure R ?_
      show Cal X 161 _ S = _
      rw [C_X9_of, mV_y m2 (by omega) hv, cI_ok, if_neg (by decide), mI_y (by decide) (by decide), cI_ok, if_neg (by decide), if_pos rfl, ix_nI (by omega) (by decide), g3, g4]
    · rw [if_neg b0]
      by_cases b1 : p2 = 1
      · subst b1
        rw [if_pos rfl, yesOf_ok H hv, cI_ok]
        refine two_pure R ?_
        show Cal X 161 _ S = _
        rw [C_X9_of, mV_y m2 (by omega) hv, cI_ok, if_neg (by decide), mI_y (by decide) (by decide), cI_ok, if_neg (by decide), if_neg (by decide), if_pos rfl, ix_nI (by omega) (by decide), g1]
      · rw [if_neg b1]
        by_cases b2 : p2 = 2
        · subst b2
          rw [if_pos rfl, noOf_ok H hv, cI_ok]
          refine two_pure R ?_
          show Cal X 161 _ S = _
          rw [C_X9_of, mV_y m2 (by omega) hv, cI_ok, if_neg (by decide), mI_y (by decide) (by decide), cI_ok, if_neg (by decide), if_neg (by decide), if_neg (by decide), ix_nI (by omega) (by decide), g2]
        · rw [if_neg b2, rf_2, cI_ok]
          refine two_rf R ?_
          show Cal X 161 _ (rfu S 2) = _
          rw [C_X9_of, mV_y (S := rfu S 2) m2 (by omega) hv, cI_ok, if_neg (by decide), mI_n, cI_ok, if_pos rfl, no_2, cI_ok]
          rcases pk_ix p2 (n := 3) (by decide) with q | q | ⟨j, hj, rfl⟩
          · exact Or.inl q
          · exact Or.inr (lt_nI_le q (by decide))
          · exfalso
            rcases (show j = 0 ∨ j = 1 ∨ j = 2 by omega) with rfl | rfl | rfl
            · exact b0 rfl
            · exact b1 rfl
            · exact b2 rfl
theorem c_takeOut {S : sS} (R : Rel S) (X : sX) : Two (Cal X 108 [.ref 0] S) (fun S => Cal X 162 [.ref 43] S) := by
  obtain ⟨N, V, K, ⟨⟨h1, h2, h3, h4, h5⟩, k1, k2, m1, m2, m3, k3, k4, k5⟩, B, E, I, A, C, M⟩ := id R
  rw [C_X8_takeOut, C_X1_votes, cI_ok, h3]
  cases V with
  | zero =>
    rw [if_pos nI_0, rf_3, cI_ok]
    refine two_rf R ?_
    show Cal X 162 _ (rfu S 3) = _
    rw [C_X9_takeOut, show rfu S 3 43 12 = nI 0 from m2, if_pos nI_0, no_3, cI_ok]
  | succ V =>
    rw [if_neg (nI_ne0 (by omega) (by omega)), C_X1_dropVote, h3, if_neg (nI_nle (by omega) (by omega)), cI_ok, vch_ok, cV_ok, nI_pred]
    refine ⟨nI V, _, up2 (up2 (up2 (up2 (up2 (up2 (up2 S 1 1 (nI V)) 25 4 0) 29 11 0) 29 12 0) 29 13 0) 43 12 (nI V)) 43 14 1, rfl, ?_, ?_⟩
    · show Cal X 162 _ (up2 (up2 (up2 (up2 (up2 S 1 1 (nI V)) 25 4 0) 29 11 0) 29 12 0) 29 13 0) = _
      rw [C_X9_takeOut, show (up2 (up2 (up2 (up2 (up2 S 1 1 (nI V)) 25 4 0) 29 11 0) 29 12 0) 29 13 0) 43 12 = nI (V + 1) from m2, if_neg (nI_ne0 (by omega) (by omega)), nI_pred]
    · obtain ⟨T, hT⟩ : ∃ T, T = up2 (up2 (up2 (up2 (up2 (up2 (up2 S 1 1 (nI V)) 25 4 0) 29 11 0) 29 12 0) 29 13 0) 43 12 (nI V)) 43 14 1 := ⟨_, rfl⟩
      rw [← hT]
      have f : fr [] [(1, 1), (25, 4), (29, 11), (29, 12), (29, 13), (43, 12), (43, 14)] S T := by
        rw [hT]
        exact fr_upF (fr_upF (fr_upF (fr_upF (fr_upF (fr_upF (fr_upF fr_rfl (by decide)) (by decide)) (by decide)) (by decide)) (by decide)) (by decide)) (by decide)
      have t1 : T 1 1 = nI V := by rw [hT]; rfl
      have t2 : T 25 4 = 0 := by rw [hT]; rfl
      have t3 : T 29 11 = 0 := by rw [hT]; rfl
      have t4 : T 29 12 = 0 := by rw [hT]; rfl
      have t5 : T 29 13 = 0 := by rw [hT]; rfl
      have t6 : T 43 12 = nI V := by rw [hT]; rfl
      have t7 : T 43 14 = 1 := by rw [hT]; rfl
      have gA := fr_ag (cs := cH) (fs := [(1, 0), (1, 2), (43, 11), (43, 13)]) f (by decide)
      refine ⟨N, V, K, ⟨⟨?_, h2, t1, by omega, ?_⟩, ?_, k2, ?_, t6, ?_, ?_, ?_, ?_⟩, RB_ag (fr_ag f (by decide)) B, ?_, RI_ag (fr_ag f (by decide)) I, RA_ag (fr_ag f (by decide)) A, RC_vc C t2 t3 t4 t5 (fr_ag f (by decide)), Or.inl t7⟩
      · rw [gA.2 (1, 0) (by decide)]; exact h1
      · rw [gA.1 8 (by decide), gA.1 9 (by decide)]; exact fun v hv => h5 v (by omega)
      · rw [gA.2 (1, 2) (by decide)]; exact k1
      · rw [gA.2 (43, 11) (by decide)]; exact m1
      · rw [gA.2 (43, 13) (by decide)]; exact m3
      · rw [gA.1 2 (by decide), gA.1 3 (by decide), gA.1 4 (by decide), gA.1 5 (by decide), gA.1 6 (by decide), gA.1 45 (by decide), gA.1 46 (by decide), gA.1 47 (by decide), gA.1 53 (by decide), gA.1 54 (by decide)]; exact k3
      · rw [gA.1 7 (by decide), gA.1 8 (by decide), gA.1 9 (by decide), gA.1 48 (by decide), gA.1 49 (by decide), gA.1 50 (by decide)]; exact fun v hv => k4 v (by omega)
      · rw [gA.1 10 (by decide), gA.1 11 (by decide), gA.1 51 (by decide), gA.1 52 (by decide)]; exact k5
      · rw [fr_cell f 44 (by decide) (by decide), fr_cell f 42 (by decide) (by decide)]; exact E
