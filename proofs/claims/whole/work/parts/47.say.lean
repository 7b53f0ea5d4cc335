/-! stretches -/
def stP (S : sS) (p : Int32) (r : List Nat) (i : Nat) : Bool := decide (S 4 (r.getD i 0) = p)
def stN (S : sS) (p : Int32) (r : List Nat) : Nat → Nat := sm (fun i => (stP S p r i && !(decide (0 < i) && stP S p r (i - 1))).toNat)
theorem stN_le (S : sS) (p : Int32) (r : List Nat) (n : Nat) : stN S p r n ≤ n := by
  have := sm_le (f := fun i => (stP S p r i && !(decide (0 < i) && stP S p r (i - 1))).toNat) (n := n) (b := 1) (fun i _ => by cases (stP S p r i && !(decide (0 < i) && stP S p r (i - 1))) <;> decide)
  unfold stN
  omega
theorem str_c {N V : Nat} {S : sS} {r : List Nat} (H : HD N V S) (hr : RowOK N r) (p : Int32) (X : sX) : Cal X 143 [.ref 0, .int p, .int (nI (pk r))] S = some (some (.int (nI (stN S p r N))), S) := by
  have hN := H.2.1
  have h8 := row_lt8 hr hN
  have hl : r.length ≤ 7 := by rw [hr.1]; exact hN
  rw [C_X8_stretchesOf]
  have key := loop_eq (F := fun k => Run X 143 8 [some (.ref 0), some (.int p), some (.int (nI (pk r))), some (.int (nI (stN S p r k))), some (.int (bI (decide (0 < k) && stP S p r (k - 1)))), some (.int (nI k)), none] [] S) N 0 (by
    intro k _ hk
    have es : stN S p r (k + 1) = stN S p r k + (stP S p r k && !(decide (0 < k) && stP S p r (k - 1))).toNat := rfl
    have ef : (decide (0 < k + 1) && stP S p r (k + 1 - 1)) = stP S p r k := by
      rw [decide_eq_true (show 0 < k + 1 by omega), Bool.true_and, Nat.add_sub_cancel]
    show Run X 143 8 _ [] S = Run X 143 8 _ [] S
    rw [L_X8_stretchesOf_8, C_X1_members, cI_ok, H.1, if_neg (nI_ge hk (by omega)), at_ok h8 hl (by omega), cI_ok, partyOf_ok H (row_at_lt hr hk), cI_ok, nI_1, nI_1, es, ef]
    unfold stP
    by_cases q : S 4 (r.getD k 0) = p
    · rw [if_pos q, if_neg (by decide), decide_eq_true q]
      cases (decide (0 < k) && decide (S 4 (r.getD (k - 1) 0) = p)) with
      | false => rw [if_pos (show bI false = 0 from rfl)]; rfl
      | true => rw [if_neg (show ¬ bI true = 0 by decide)]; rfl
    · rw [if_neg q, if_pos (show (0 : Nat) = 0 from rfl), decide_eq_false q]
      rfl) (Nat.zero_le _)
  refine Eq.trans key ?_
  rw [L_X8_stretchesOf_8, C_X1_members, cI_ok, H.1, if_pos (nI_le (Nat.le_refl _) (by omega))]
theorem str_m {N : Nat} {S T : sS} {r : List Nat} (hr : RowOK N r) (hN : N ≤ 7) (m1 : T 43 11 = nI N) (hR : RH N r T) (h47 : ∀ m, m < N → T 47 m = S 4 m) (p : Int32) (X : sX) : Cal X 217 [.ref 43, .int p] T = some (some (.int (nI (stN S p r N))), T) := by
  rw [C_X9_stretchesOf]
  have key := loop_eq (F := fun k => Run X 217 4 [some (.ref 43), some (.int p), some (.int (nI (stN S p r k))), some (.int (nI k))] [] T) N 0 (by
    intro k _ hk
    have hk1 := row_at_lt hr hk
    have es : stN S p r (k + 1) = stN S p r k + (stP S p r k && !(decide (0 < k) && stP S p r (k - 1))).toNat := rfl
    show Run X 217 4 _ [] T = Run X 217 4 _ [] T
    rw [L_X9_stretchesOf_4, m1, if_neg (nI_ge hk (by omega)), ix_nI (by omega) (by decide), hR k hk, ix_nI (by omega) (by decide), h47 _ hk1, nI_1, nI_1, es]
    unfold stP
    have e0 : nI (stN S p r k) + 0 = nI (stN S p r k) := by rw [l0, nI_add, Nat.add_zero]
    rw [e0]
    by_cases q : S 4 (r.getD k 0) = p
    · rw [if_pos q, decide_eq_true q]
      by_cases c0 : k = 0
      · subst c0
        rw [if_pos nI_0]
        rfl
      · have e1 : nI k - 1 = nI (k - 1) := by rw [l1, pk_sub (by omega)]
        have hk2 := row_at_lt hr (i := k - 1) (by omega)
        rw [if_neg (nI_ne0 (by omega) (by omega)), e1, ix_nI (by omega) (by decide), hR (k - 1) (by omega), ix_nI (by omega) (by decide), h47 _ hk2, decide_eq_true (show 0 < k by omega)]
        by_cases q2 : S 4 (r.getD (k - 1) 0) = p
        · rw [if_pos q2, decide_eq_true q2]; rfl
        · rw [if_neg q2, decide_eq_false q2]; rfl
    · rw [if_neg q, decide_eq_false q]
      rfl) (Nat.zero_le _)
  refine Eq.trans key ?_
  rw [L_X9_stretchesOf_4, m1, if_pos (nI_le (Nat.le_refl _) (by omega))]
theorem c_stretches {S : sS} (R : Rel S) (X : sX) (p1 : Int32) : Two (Cal X 128 [.ref 0, .int p1] S) (fun S => Cal X 218 [.ref 43, .int p1] S) := by
  rw [C_X8_stretches]
  by_cases a1 : p1 < 0
  · rw [if_pos a1, rf_1, cI_ok]
    refine two_rf R ?_
    show Cal X 218 _ (rfu S 1) = _
    rw [C_X9_stretches, mI_n (Or.inl a1), cI_ok, if_pos rfl, no_1, cI_ok]
  rw [if_neg a1]
  by_cases a2 : p1 < 4
  case neg =>
    rw [if_neg a2, rf_1, cI_ok]
    refine two_rf R ?_
    show Cal X 218 _ (rfu S 1) = _
    rw [C_X9_stretches, mI_n (b := 3) (Or.inr (lt_nI_le (n := 3) (Int32.not_lt.mp a2) (by decide))), cI_ok, if_pos rfl, no_1, cI_ok]
  have a3 : ¬ 3 < p1 := by
    intro q
    rcases pk_ix p1 (n := 4) (by decide) with q2 | q2 | ⟨j, hj, rfl⟩
    · exact a1 q2
    · exact absurd a2 (Int32.not_lt.mpr q2)
    · exact absurd q (nI_nlt (b := j) (a := 3) (by omega) (by decide))
  rw [if_pos a2]
  obtain ⟨N, V, K, S1, H, M, e, ⟨f1, H1, F, g, C1, eb⟩, M1⟩ := lack_c R X
  have hN := H.1.2.1
  have hV := H.1.2.2.2.1
  obtain ⟨T, e2, f2, fA, Q, MT, hR⟩ := first_m f1 H1 M1 X
  have CT : RC N V K T := RC_x (fr_mono f2 (by decide) (by decide)) C1
  rw [eb] at e2 hR
  by_cases hl : (bst N V K S).2.length = 0
  · rw [hl] at e2
    refine two_sc (a := -9) (S1 := S1) R H ?_ ?_ fA CT MT
    · rw [e, cI_ok, hl, if_neg (by decide)]
    · show Cal X 218 _ S1 = _
      rw [C_X9_stretches, mI_y a1 a3, cI_ok, if_neg (by decide), e2, cI_ok, if_pos (by decide)]
  · have hpos : 0 < (bst N V K S).2.length := by omega
    have hr := bst_get (N := N) (V := V) (K := K) (S := S) hN hV hpos
    have ba := bestAt_ok hN hV g (i := 0) (by rw [eb]; exact hpos) X
    rw [eb] at ba
    have HT := HH_sc fA H
    have h47 : ∀ m, m < N → T 47 m = S1 4 m := by
      intro m hm
      rw [(HT.2.2.2.2.2.2.1 m hm).2.2.1, fr_cell f2 4 (by decide) (by decide)]
    refine two_sc (a := nI (stN S1 p1 ((bst N V K S).2.getD 0 []) N)) (S1 := S1) R H ?_ ?_ fA CT MT
    · rw [e, cI_ok, decide_eq_false hl, if_pos (show bI false = 0 from rfl), l0, ba, cI_ok, str_c H1.1 hr, cI_ok]
    · show Cal X 218 _ S1 = _
      rw [C_X9_stretches, mI_y a1 a3, cI_ok, if_neg (by decide), e2, cI_ok, decide_eq_true hpos, if_neg (by decide), str_m hr hN HT.2.2.2.1 (hR hpos) h47, cI_ok]
/-! parties -/
def ptF (S : sS) (N : Nat) (r : List Nat) : Nat → Int32 × Nat
  | 0 => (-9, 1)
  | k + 1 => if (ptF S N r k).2 < stN S (nI k) r N then (nI k, stN S (nI k) r N) else ptF S N r k
theorem ptF_le (S : sS) (N : Nat) (r : List Nat) : ∀ k, (ptF S N r k).2 ≤ N + 1 := by
  intro k
  induction k with
  | zero => show 1 ≤ N + 1; omega
  | succ k ih =>
    show (if (ptF S N r k).2 < stN S (nI k) r N then (nI k, stN S (nI k) r N) else ptF S N r k).2 ≤ _
    have := stN_le S (nI k) r N
    by_cases q : (ptF S N r k).2 < stN S (nI k) r N
    · rw [if_pos q]; show stN S (nI k) r N ≤ _; omega
    · rw [if_neg q]; exact ih
theorem two_c {N V : Nat} {S : sS} {r : List Nat} (H : HD N V S) (hr : RowOK N r) (X : sX) : Cal X 144 [.ref 0, .int (nI (pk r))] S = some (some (.int (ptF S N r 4).1), S) := by
  have hN := H.2.1
  rw [C_X8_partyInTwo]
  have key := loop_eq (F := fun k => Run X 144 8 [some (.ref 0), some (.int (nI (pk r))), some (.int (ptF S N r k).1), some (.int (nI (ptF S N r k).2)), some (.int (nI k)), none] [] S) 4 0 (by
    intro k _ hk
    have h1 := ptF_le S N r k
    have h2 := stN_le S (nI k) r N
    show Run X 144 8 _ [] S = Run X 144 8 _ [] S
    rw [L_X8_partyInTwo_8, l4, if_neg (nI_ge hk (by decide)), str_c H hr, cI_ok, nI_1]
    have es : ptF S N r (k + 1) = if (ptF S N r k).2 < stN S (nI k) r N then (nI k, stN S (nI k) r N) else ptF S N r k := rfl
    by_cases q : (ptF S N r k).2 < stN S (nI k) r N
    · rw [if_neg (nI_ge q (by omega)), es, if_pos q]
    · rw [if_pos (nI_le (by omega) (by omega)), es, if_neg q]) (Nat.zero_le _)
  refine Eq.trans key ?_
  rw [L_X8_partyInTwo_8, l4, if_pos (nI_le (Nat.le_refl _) (by decide))]
theorem two_m {N : Nat} {S T : sS} {r : List Nat} (hr : RowOK N r) (hN : N ≤ 7) (m1 : T 43 11 = nI N) (hR : RH N r T) (h47 : ∀ m, m < N → T 47 m = S 4 m) (X : sX) : Run X 219 38 [some (.ref 43), none, some (.int (-9)), some (.int 1), some (.int 0)] [] T = some (some (.int (ptF S N r 4).1), T) := by
  have key := loop_eq (F := fun k => Run X 219 38 [some (.ref 43), none, some (.int (ptF S N r k).1), some (.int (nI (ptF S N r k).2)), some (.int (nI k))] [] T) 4 0 (by
    intro k _ hk
    have h1 := ptF_le S N r k
    have h2 := stN_le S (nI k) r N
    show Run X 219 38 _ [] T = Run X 219 38 _ [] T
    rw [L_X9_parties_38, l4, if_neg (nI_ge hk (by decide)), str_m hr hN m1 hR h47, cI_ok, nI_1]
    have es : ptF S N r (k + 1) = if (ptF S N r k).2 < stN S (nI k) r N then (nI k, stN S (nI k) r N) else ptF S N r k := rfl
    by_cases q : (ptF S N r k).2 < stN S (nI k) r N
    · rw [if_pos (nI_lt q (by omega)), str_m hr hN m1 hR h47, cI_ok, es, if_pos q]
    · rw [if_neg (nI_nlt (by omega) (by omega)), es, if_neg q]) (Nat.zero_le _)
  refine Eq.trans key ?_
  rw [L_X9_parties_38, l4, if_pos (nI_le (Nat.le_refl _) (by decide))]
def anB (S : sS) (r : List Nat) (i : Nat) : Nat := if S 4 (r.getD (i - 1) 0) = S 4 (r.getD (i + 1) 0) ∧ ¬ S 4 (r.getD i 0) = S 4 (r.getD (i + 1) 0) then 2 ^ r.getD i 0 else 0
def anO (S : sS) (r : List Nat) (k : Nat) : Nat := orf (fun j => anB S r (j + 1)) k
theorem ano_c {N V : Nat} {S : sS} {r : List Nat} (H : HD N V S) (hr : RowOK N r) (X : sX) : Cal X 145 [.ref 0, .int (nI (pk r))] S = some (some (.int (nI (anO S r (N - 2)))), S) := by
  have hN := H.2.1
  have h8 := row_lt8 hr hN
  have hl : r.length ≤ 7 := by rw [hr.1]; exact hN
  rw [C_X8_thoseInAnothers]
  have key := loop_eq (F := fun k => Run X 145 4 [some (.ref 0), some (.int (nI (pk r))), some (.int (nI (anO S r k))), some (.int (nI (k + 1))), none, none, none] [] S) (N - 2) 0 (by
    intro k _ hk
    have e1 : nI N - 1 = nI (N - 1) := by rw [l1, pk_sub (by omega)]
    have es : anO S r (k + 1) = anO S r k ||| anB S r (k + 1) := rfl
    have p0 := row_at_lt hr (i := k) (by omega)
    have p1 := row_at_lt hr (i := k + 1) (by omega)
    have p2 := row_at_lt hr (i := k + 2) (by omega)
    show Run X 145 4 _ [] S = Run X 145 4 _ [] S
    rw [L_X8_thoseInAnothers_4, C_X1_members, cI_ok, H.1, e1, if_neg (nI_ge (by omega) (by omega)), at_ok h8 hl (by omega), cI_ok, nI_pred, at_ok h8 hl (by omega), cI_ok, partyOf_ok H p0, cI_ok, nI_1, at_ok h8 hl (by omega), cI_ok, partyOf_ok H p2, cI_ok, partyOf_ok H p1, cI_ok, es]
    unfold anB
    rw [Nat.add_sub_cancel]
    show (if S 4 (r.getD k 0) = S 4 (r.getD (k + 2) 0) then _ else _) = _
    by_cases q1 : S 4 (r.getD k 0) = S 4 (r.getD (k + 2) 0)
    · rw [if_pos q1]
      by_cases q2 : S 4 (r.getD k 0) = S 4 (r.getD (k + 1) 0)
      · rw [if_pos q2, if_neg (fun z => z.2 (by rw [← q2]; exact q1)), Nat.or_zero]
      · rw [if_neg q2, if_pos ⟨q1, fun z => q2 (q1.trans z.symm)⟩, l1, oShl_1 (by omega), or_nI]
    · rw [if_neg q1, if_neg (fun z => q1 z.1), Nat.or_zero]) (Nat.zero_le _)
  refine Eq.trans key ?_
  rw [L_X8_thoseInAnothers_4, C_X1_members, cI_ok, H.1, if_pos]
  rcases (show N = 0 ∨ 1 ≤ N by omega) with rfl | q
  · decide
  · rw [l1, pk_sub q]
    exact nI_le (by omega) (by omega)
theorem ano_m {N : Nat} {S T : sS} {r : List Nat} (hr : RowOK N r) (hN : N ≤ 7) (m1 : T 43 11 = nI N) (hR : RH N r T) (h47 : ∀ m, m < N → T 47 m = S 4 m) (X : sX) : Run X 219 79 [some (.ref 43), none, some (.int 0), some (.int 1), none] [] T = some (some (.int (nI (anO S r (N - 2)))), T) := by
  have key := loop_eq (F := fun k => Run X 219 79 [some (.ref 43), none, some (.int (nI (anO S r k))), some (.int (nI (k + 1))), none] [] T) (N - 2) 0 (by
    intro k _ hk
    have e1 : nI N - 1 = nI (N - 1) := by rw [l1, pk_sub (by omega)]
    have es : anO S r (k + 1) = anO S r k ||| anB S r (k + 1) := rfl
    have p0 := row_at_lt hr (i := k) (by omega)
    have p1 := row_at_lt hr (i := k + 1) (by omega)
    have p2 := row_at_lt hr (i := k + 2) (by omega)
    show Run X 219 79 _ [] T = Run X 219 79 _ [] T
    rw [L_X9_parties_79, m1, e1, if_neg (nI_ge (by omega) (by omega)), nI_pred, nI_1]
    simp only [ix_nI (show k < 7 by omega) (show 7 < 2 ^ 31 by decide), ix_nI (show k + 1 < 7 by omega) (show 7 < 2 ^ 31 by decide), ix_nI (show k + 1 + 1 < 7 by omega) (show 7 < 2 ^ 31 by decide), hR k (by omega), hR (k + 1) (by omega), hR (k + 1 + 1) (by omega), ix_nI (show r.getD k 0 < 7 by omega) (show 7 < 2 ^ 31 by decide), ix_nI (show r.getD (k + 1) 0 < 7 by omega) (show 7 < 2 ^ 31 by decide), ix_nI (show r.getD (k + 1 + 1) 0 < 7 from Nat.lt_of_lt_of_le p2 hN) (show 7 < 2 ^ 31 by decide), h47 _ p0, h47 _ p1, h47 (r.getD (k + 1 + 1) 0) p2]
    rw [es, or0]
    unfold anB
    rw [Nat.add_sub_cancel]
    by_cases q1 : S 4 (r.getD k 0) = S 4 (r.getD (k + 1 + 1) 0)
    · rw [if_pos q1]
      by_cases q2 : S 4 (r.getD (k + 1) 0) = S 4 (r.getD (k + 1 + 1) 0)
      · rw [if_pos q2, if_neg (fun z => z.2 q2), Nat.or_zero]
      · rw [if_neg q2, if_pos ⟨q1, q2⟩, l1, oShl_1 (by omega), or_nI]
    · rw [if_neg q1, if_neg (fun z => q1 z.1), Nat.or_zero]) (Nat.zero_le _)
  refine Eq.trans key ?_
  rw [L_X9_parties_79, m1, if_pos]
  rcases (show N = 0 ∨ 1 ≤ N by omega) with rfl | q
  · decide
  · rw [l1, pk_sub q]
    exact nI_le (by omega) (by omega)
theorem c_parties {S : sS} (R : Rel S) (X : sX) (p1 : Int32) : Two (Cal X 129 [.ref 0, .int p1] S) (fun S => Cal X 219 [.ref 43, .int p1] S) := by
  by_cases r : p1 = 0 ∨ p1 = 1
  case neg =>
    have h0 : ¬ p1 = 0 := fun q => r (Or.inl q)
    have h1 : ¬ p1 = 1 := fun q => r (Or.inr q)
    rw [C_X8_parties, if_neg h0, if_neg h1, rf_2, cI_ok]
    refine two_rf R ?_
    show Cal X 219 _ (rfu S 2) = _
    rw [C_X9_parties, mI_n, cI_ok, if_pos rfl, no_2, cI_ok]
    rcases pk_ix p1 (n := 2) (by decide) with q | q | ⟨j, hj, rfl⟩
    · exact Or.inl q
    · exact Or.inr (lt_nI_le (n := 1) q (by decide))
    · exfalso
      rcases (show j = 0 ∨ j = 1 by omega) with rfl | rfl
      · exact h0 rfl
      · exact h1 rfl
  obtain ⟨N, V, K, S1, H, M, e, ⟨f1, H1, F, g, C1, eb⟩, M1⟩ := lack_c R X
  have hN := H.1.2.1
  have hV := H.1.2.2.2.1
  have ec : Cal X 129 [.ref 0, .int p1] S = cI (Cal X 138 [.ref 0] S) fun r2 S1 => if r2 = 0 then (if p1 = 0 then (cI (Cal X 66 [.ref 29, .int 0] S1) fun r4 S3 => cI (Cal X 144 [.ref 0, .int r4] S3) fun r6 S5 => some (some (.int r6), S5)) else cI (Cal X 66 [.ref 29, .int 0] S1) fun r8 S7 => cI (Cal X 145 [.ref 0, .int r8] S7) fun r10 S9 => some (some (.int r10), S9)) else some (some (.int (-9)), S1) := by
    rw [C_X8_parties]
    rcases r with h | h
    · rw [if_pos h]
    · rw [if_neg (by rw [h]; decide), if_pos h]
  have hin : Cal X 150 [.int p1, .int 0, .int 1] S1 = some (some (.int 1), S1) := by
    rcases r with h | h <;> rw [h] <;> exact mI_y (by decide) (by decide) X S1
  obtain ⟨T, e2, f2, fA, Q, MT, hR⟩ := first_m f1 H1 M1 X
  have CT : RC N V K T := RC_x (fr_mono f2 (by decide) (by decide)) C1
  rw [eb] at e2 hR
  by_cases hl : (bst N V K S).2.length = 0
  · rw [hl] at e2
    refine two_sc (a := -9) (S1 := S1) R H ?_ ?_ fA CT MT
    · rw [ec, e, cI_ok, hl, if_neg (by decide)]
    · show Cal X 219 _ S1 = _
      rw [C_X9_parties, hin, cI_ok, if_neg (by decide), e2, cI_ok, if_pos (by decide)]
  · have hpos : 0 < (bst N V K S).2.length := by omega
    have hr := bst_get (N := N) (V := V) (K := K) (S := S) hN hV hpos
    have ba := bestAt_ok hN hV g (i := 0) (by rw [eb]; exact hpos) X
    rw [eb] at ba
    have HT := HH_sc fA H
    have h47 : ∀ m, m < N → T 47 m = S1 4 m := by
      intro m hm
      rw [(HT.2.2.2.2.2.2.1 m hm).2.2.1, fr_cell f2 4 (by decide) (by decide)]
    by_cases h : p1 = 0
    · refine two_sc (a := (ptF S1 N ((bst N V K S).2.getD 0 []) 4).1) (S1 := S1) R H ?_ ?_ fA CT MT
      · rw [ec, e, cI_ok, decide_eq_false hl, if_pos (show bI false = 0 from rfl), if_pos h, show (0 : Int32) = nI 0 from rfl, ba, cI_ok, two_c H1.1 hr, cI_ok]
      · show Cal X 219 _ S1 = _
        rw [C_X9_parties, hin, cI_ok, if_neg (by decide), e2, cI_ok, decide_eq_true hpos, if_neg (by decide), if_pos h, two_m hr hN HT.2.2.2.1 (hR hpos) h47]
    · refine two_sc (a := nI (anO S1 ((bst N V K S).2.getD 0 []) (N - 2))) (S1 := S1) R H ?_ ?_ fA CT MT
      · rw [ec, e, cI_ok, decide_eq_false hl, if_pos (show bI false = 0 from rfl), if_neg h, show (0 : Int32) = nI 0 from rfl, ba, cI_ok, ano_c H1.1 hr, cI_ok]
      · show Cal X 219 _ S1 = _
        rw [C_X9_parties, hin, cI_ok, if_neg (by decide), e2, cI_ok, decide_eq_true hpos, if_neg (by decide), if_neg h, ano_m hr hN HT.2.2.2.1 (hR hpos) h47]
/-! what one who was away would say -/
def sy (y n : Nat) (r : List Nat) (N m : Nat) : Bool := (pre r (bcm y n r (N + 1) % 100 / 2)).testBit m == decide (bcm y n r (N + 1) % 2 = 0)
theorem bI_eq (a b : Bool) : bI a = bI b ↔ a = b := by cases a <;> cases b <;> decide
theorem says_c {N V : Nat} {S : sS} {r : List Nat} (H : HD N V S) (hr : RowOK N r) {v m : Nat} (hv : v < V) (hm : m < N) (X : sX) : Cal X 147 [.ref 0, .int (nI (pk r)), .int (nI v), .int (nI m)] S = some (some (.int (bI (sy (nv (S 8 v)) (nv (S 9 v)) r N m))), S) := by
  have hN := H.2.1
  have h8 := row_lt8 hr hN
  obtain ⟨e, he, h⟩ := bcm_ctm (nv (S 8 v)) (nv (S 9 v)) r N hN
  have h3 := ctm_le (nv (S 8 v)) (nv (S 9 v)) r (N + 1)
  have hp : bcm (nv (S 8 v)) (nv (S 9 v)) r (N + 1) % 100 / 2 ≤ N := by omega
  have hpl := pre_lt hr hp
  have h128 := pow_le128 hN
  rw [C_X8_saysYes, cutIn_ok H hr hv, cI_ok, placeOf_ok (by omega), cI_ok, firstOnes_ok h8 (by rw [hr.1]; exact hN) (by omega), cI_ok, has_ok (by omega) (by omega), cI_ok, yesLeft_ok (by omega), cI_ok]
  unfold sy
  generalize (pre r (bcm (nv (S 8 v)) (nv (S 9 v)) r (N + 1) % 100 / 2)).testBit m = a
  generalize decide (bcm (nv (S 8 v)) (nv (S 9 v)) r (N + 1) % 2 = 0) = b
  cases a <;> cases b <;> rfl
theorem sayOf_m {N V K v m : Nat} {S T : sS} {r : List Nat} (H : HH N V K S) (hr : RowOK N r) (f : fr Ls Fs S T) (hR : RH N r T) (hv : v < V) (hm : m < N) (X : sX) : ∃ T', Cal X 220 [.ref 43, .int (nI v), .int (nI m)] T = some (some (.int (bI (sy (nv (S 8 v)) (nv (S 9 v)) r N m))), T') ∧ fr [] [(43, 19), (43, 20), (43, 21)] T T' := by
  obtain ⟨HDT, k1, k2, m1, m2, m3, k3, k4, k5⟩ := HH_sc f H
  have hN := HDT.2.1
  have hV := HDT.2.2.2.1
  obtain ⟨y, n, -, -, hy, hn, hd, e8, e9, e8', e9'⟩ := vote_y HDT hv
  obtain ⟨g1, g2, -⟩ := k4 v hv
  rw [← fr_cell f 8 (by decide) (by decide), ← fr_cell f 9 (by decide) (by decide), e8', e9']
  obtain ⟨T', e, f', w, p, s, q1, q2, q3, q4, q5, q6, q7⟩ := findCut_ok hr hN hy hn hd X T m1 hR
  have hR' : RH N r T' := fun j hj => by rw [fr_cell f' 56 (by decide) (by decide)]; exact hR j hj
  refine ⟨T', ?_, f'⟩
  have hc1 : (100 * w + 2 * p + s) % 100 / 2 = p := by omega
  have hc2 : decide ((100 * w + 2 * p + s) % 2 = 0) = decide (s = 0) := by
    rw [decide_eq_decide]; omega
  unfold sy
  rw [q7, hc1, hc2, C_X9_sayOf, ix_nI (by omega) (by decide), ix_nI (by omega) (by decide), g1, g2, e8, e9, e, cV_ok, isYes_ok (w := w) hN (by omega) (fun j hj => by have := row_at_lt hr hj; omega) hR' q2 q3 q5 q4, cI_ok]
  cases ((pre r p).testBit m == decide (s = 0)) <;> rfl
/-- refusal of both, or vote and member -/
theorem away_ok {S : sS} (R : Rel S) (X : sX) (p1 p2 : Int32) : (∃ (r : Int32) (k : Nat), ¬ r = 0 ∧ Cal X 146 [.ref 0, .int p1, .int p2] S = some (some (.int r), S) ∧ Cal X 135 [.ref 0, .int r] S = some (some (.int r), rfu S k) ∧ Cal X 221 [.ref 43, .int p1, .int p2] (rfu S k) = some (some (.int r), rfu S k) ∧ Cal X 149 [.ref 43, .int r] (rfu S k) = some (some (.int r), rfm (rfu S k) k)) ∨ ∃ v m, (∀ N V K, HH N V K S → v < V ∧ m < N) ∧ p1 = nI v ∧ p2 = nI m ∧ Cal X 146 [.ref 0, .int p1, .int p2] S = some (some (.int 0), S) ∧ ∀ S1, fr Ls Fs S S1 → Cal X 221 [.ref 43, .int p1, .int p2] S1 = some (some (.int 0), S1) := by
  obtain ⟨N, V, K, H, -⟩ := R
  obtain ⟨HD0, k1, k2, m1, m2, m3, k3, k4, k5⟩ := id H
  have hN := HD0.2.1
  have hV := HD0.2.2.2.1
  rcases pk_ix2 p1 (n := V) (by omega) with q | ⟨v, hv, rfl⟩
  · exact Or.inl ⟨-1, 1, by decide, by rw [C_X8_refusalOfSay, isV_n HD0 q, cI_ok, if_pos rfl], rf_1 X S, by rw [C_X9_notAway, mV_n (S := rfu S 1) m2 q, cI_ok, if_pos rfl], no_1 X _⟩
  rcases pk_ix2 p2 (n := N) (by omega) with q | ⟨m, hm, rfl⟩
  · exact Or.inl ⟨-1, 1, by decide, by rw [C_X8_refusalOfSay, isVote_ok HD0 hv, cI_ok, if_neg (by decide), isM_n HD0 q, cI_ok, if_pos rfl], rf_1 X S, by rw [C_X9_notAway, mV_y (S := rfu S 1) m2 (by omega) hv, cI_ok, if_neg (by decide), mM_n (S := rfu S 1) m1 q, cI_ok, if_pos rfl], no_1 X _⟩
  obtain ⟨y, n, hy, hn, -, -, hyn, e8, e9, e8', e9'⟩ := vote_y HD0 hv
  obtain ⟨g1, g2, -⟩ := k4 v hv
  have hw := or_lt7 hy hn
  have ec : Cal X 146 [.ref 0, .int (nI v), .int (nI m)] S = if bI ((y ||| n).testBit m) = 0 then (some (some (.int 0), S)) else some (some (.int (-3)), S) := by
    rw [C_X8_refusalOfSay, isVote_ok HD0 hv, cI_ok, if_neg (by decide), isM_y HD0 hm, cI_ok, if_neg (by decide), yesOf_ok HD0 hv, cI_ok, noOf_ok HD0 hv, cI_ok, e8, e9, or_nI, has_ok (by omega) (by omega), cI_ok]
  have em : ∀ T : sS, T 43 11 = nI N → T 43 12 = nI V → T 49 v = nI y → T 50 v = nI n → Cal X 221 [.ref 43, .int (nI v), .int (nI m)] T = if bI ((y ||| n).testBit m) = 1 then (some (some (.int (-3)), T)) else some (some (.int 0), T) := by
    intro T t1 t2 t3 t4
    rw [C_X9_notAway, mV_y t2 (by omega) hv, cI_ok, if_neg (by decide), mM_y t1 (by omega) hm, cI_ok, if_neg (by decide), ix_nI (by omega) (by decide), ix_nI (by omega) (by decide), t3, t4, or_nI, sbit (by omega) (by omega)]
  cases hb : (y ||| n).testBit m with
  | true =>
    rw [hb] at ec em
    refine Or.inl ⟨-3, 3, by decide, by rw [ec, if_neg (by decide)], rf_3 X S, ?_, no_3 X _⟩
    rw [em (rfu S 3) m1 m2 (g1.trans e8) (g2.trans e9), if_pos (show bI true = 1 from rfl)]
  | false =>
    rw [hb] at ec em
    refine Or.inr ⟨v, m, ?_, rfl, rfl, by rw [ec, if_pos (show bI false = 0 from rfl)], ?_⟩
    · intro N' V' K' H'
      have eN : N' = N := nI_inj (by have := H'.1.2.1; omega) (by omega) (H'.1.1.symm.trans HD0.1)
      have eV : V' = V := nI_inj (by have := H'.1.2.2.2.1; omega) (by omega) (H'.1.2.2.1.symm.trans HD0.2.2.1)
      subst eN eV
      exact ⟨hv, hm⟩
    · intro S1 f
      rw [em S1 (by rw [fr_fld f 43 11 (by decide) (by decide)]; exact m1) (by rw [fr_fld f 43 12 (by decide) (by decide)]; exact m2) (by rw [fr_cell f 49 (by decide) (by decide)]; exact g1.trans e8) (by rw [fr_cell f 50 (by decide) (by decide)]; exact g2.trans e9), if_neg (by decide)]
theorem c_say {S : sS} (R : Rel S) (X : sX) (p1 p2 : Int32) : Two (Cal X 130 [.ref 0, .int p1, .int p2] S) (fun S => Cal X 222 [.ref 43, .int p1, .int p2] S) := by
  rw [C_X8_say]
  rcases away_ok R X p1 p2 with ⟨r, k, hr, a1, a2, a3, a4⟩ | ⟨v, m, hvm, rfl, rfl, a1, a2⟩
  · rw [a1, cI_ok, if_neg hr, a2, cI_ok]
    refine two_rf R ?_
    show Cal X 222 _ (rfu S k) = _
    rw [C_X9_say, a3, cI_ok, if_neg hr, a4, cI_ok]
  rw [a1, cI_ok, if_pos rfl]
  obtain ⟨N, V, K, S1, H, M, e, ⟨f1, H1, F, g, C1, eb⟩, M1⟩ := lack_c R X
  obtain ⟨hv, hm⟩ := hvm N V K H
  have hN := H.1.2.1
  have hV := H.1.2.2.2.1
  obtain ⟨T, e2, f2, fA, Q, MT, hR⟩ := first_m f1 H1 M1 X
  have CT : RC N V K T := RC_x (fr_mono f2 (by decide) (by decide)) C1
  rw [eb] at e2 hR
  by_cases hl : (bst N V K S).2.length = 0
  · rw [hl] at e2
    refine two_sc (a := -9) (S1 := S1) R H ?_ ?_ fA CT MT
    · rw [e, cI_ok, hl, if_neg (by decide)]
    · show Cal X 222 _ S1 = _
      rw [C_X9_say, a2 S1 f1, cI_ok, if_pos rfl, e2, cI_ok, if_pos (by decide)]
  · have hpos : 0 < (bst N V K S).2.length := by omega
    have hr := bst_get (N := N) (V := V) (K := K) (S := S) hN hV hpos
    have ba := bestAt_ok hN hV g (i := 0) (by rw [eb]; exact hpos) X
    rw [eb] at ba
    obtain ⟨T', e3, f3⟩ := sayOf_m H hr fA (hR hpos) hv hm X
    have e8 : S1 8 = S 8 := fr_cell f1 8 (by decide) (by decide)
    have e9 : S1 9 = S 9 := fr_cell f1 9 (by decide) (by decide)
    refine two_sc (a := bI (sy (nv (S 8 v)) (nv (S 9 v)) ((bst N V K S).2.getD 0 []) N m)) (S1 := S1) (S2 := T') R H ?_ ?_ (fr_trans fA (fr_mono f3 (by decide) (by decide))) (RC_x (fr_mono f3 (by decide) (by decide)) CT) (RM_x (fr_mono f3 (by decide) (by decide)) MT)
    · rw [e, cI_ok, decide_eq_false hl, if_pos (show bI false = 0 from rfl), show (0 : Int32) = nI 0 from rfl, ba, cI_ok, says_c H1.1 hr hv hm, cI_ok, e8, e9]
      cases sy (nv (S 8 v)) (nv (S 9 v)) ((bst N V K S).2.getD 0 []) N m <;> rfl
    · show Cal X 222 _ S1 = _
      rw [C_X9_say, a2 S1 f1, cI_ok, if_pos rfl, e2, cI_ok, decide_eq_true hpos, if_neg (by decide), e3, cI_ok]
theorem c_sure {S : sS} (R : Rel S) (X : sX) (p1 p2 : Int32) : Two (Cal X 131 [.ref 0, .int p1, .int p2] S) (fun S => Cal X 223 [.ref 43, .int p1, .int p2] S) := by
  rw [C_X8_sure]
  rcases away_ok R X p1 p2 with ⟨r, k, hr, a1, a2, a3, a4⟩ | ⟨v, m, hvm, rfl, rfl, a1, a2⟩
  · rw [a1, cI_ok, if_neg hr, a2, cI_ok]
    refine two_rf R ?_
    show Cal X 223 _ (rfu S k) = _
    rw [C_X9_sure, a3, cI_ok, if_neg hr, a4, cI_ok]
  rw [a1, cI_ok, if_pos rfl]
  obtain ⟨N, V, K, S1, H, M, e, ⟨f1, H1, F, g, C1, eb⟩, M1⟩ := lack_c R X
  obtain ⟨hv, hm⟩ := hvm N V K H
  have hN := H.1.2.1
  have hV := H.1.2.2.2.1
  have hb := (bst_b (N := N) (V := V) (K := K) (S := S) hN hV).1
  obtain ⟨T, e2, f2, fA, Q, MT, hR⟩ := first_m f1 H1 M1 X
  have CT : RC N V K T := RC_x (fr_mono f2 (by decide) (by decide)) C1
  rw [eb] at e2 hR
  by_cases hl : (bst N V K S).2.length = 0
  · rw [hl] at e2
    refine two_sc (a := -9) (S1 := S1) R H ?_ ?_ fA CT MT
    · rw [e, cI_ok, hl, if_neg (by decide)]
    · show Cal X 223 _ S1 = _
      rw [C_X9_sure, a2 S1 f1, cI_ok, if_pos rfl, e2, cI_ok, if_pos (by decide)]
  have hpos : 0 < (bst N V K S).2.length := by omega
  obtain ⟨L, hL⟩ : ∃ L, L = (bst N V K S).2.length := ⟨_, rfl⟩
  obtain ⟨B, hB⟩ : ∃ B : Nat → Bool, B = fun i => sy (nv (S 8 v)) (nv (S 9 v)) ((bst N V K S).2.getD i []) N m := ⟨_, rfl⟩
  have hBi : ∀ i, B i = sy (nv (S 8 v)) (nv (S 9 v)) ((bst N V K S).2.getD i []) N m := fun i => by rw [hB]
  have e8 : S1 8 = S 8 := fr_cell f1 8 (by decide) (by decide)
  have e9 : S1 9 = S 9 := fr_cell f1 9 (by decide) (by decide)
  have sc : ∀ i, i < L → Cal X 66 [.ref 29, .int (nI i)] S1 = some (some (.int (nI (pk ((bst N V K S).2.getD i [])))), S1) ∧ Cal X 147 [.ref 0, .int (nI (pk ((bst N V K S).2.getD i []))), .int (nI v), .int (nI m)] S1 = some (some (.int (bI (B i))), S1) := by
    intro i hi
    have ba := bestAt_ok hN hV g (i := i) (by rw [eb]; omega) X
    rw [eb] at ba
    have hr := bst_get (N := N) (V := V) (K := K) (S := S) hN hV (i := i) (by omega)
    refine ⟨ba, ?_⟩
    rw [says_c H1.1 hr hv hm, e8, e9, hBi]
  have s14 : S1 29 14 = nI L := by rw [hL, ← eb]; exact g.1
  have lpc := loop_ex (F := fun i => Run X 131 46 [some (.ref 0), some (.int (nI v)), some (.int (nI m)), none, some (.int (bI (B 0))), some (.int (nI (i + 1)))] [] S1) (P := fun i => ¬ B (i + 1) = B 0) (r := some (some (.int 0), S1)) (e := some (some (.int 1), S1)) (L - 1) (by
    intro i hi hp
    show Run X 131 46 _ [] S1 = _
    rw [L_X8_sure_46, C_X5_bestOnes, cI_ok, s14, if_neg (nI_ge (by omega) (by omega)), (sc (i + 1) (by omega)).1, cI_ok, (sc (i + 1) (by omega)).2, cI_ok, if_neg (fun q => hp ((bI_eq _ _).mp q))]) (by
    intro i hi hp
    show Run X 131 46 _ [] S1 = Run X 131 46 _ [] S1
    rw [L_X8_sure_46, C_X5_bestOnes, cI_ok, s14, if_neg (nI_ge (by omega) (by omega)), (sc (i + 1) (by omega)).1, cI_ok, (sc (i + 1) (by omega)).2, cI_ok, if_pos ((bI_eq _ _).mpr (Classical.not_not.mp hp)), nI_1]) (by
    show Run X 131 46 _ [] S1 = _
    rw [L_X8_sure_46, C_X5_bestOnes, cI_ok, s14, if_pos (nI_le (by omega) (by omega))])
  -- the other's loop
  obtain ⟨T1, e3, f3⟩ := sayOf_m H (bst_get (N := N) (V := V) (K := K) (S := S) hN hV hpos) fA (hR hpos) hv hm X
  rw [← hBi] at e3
  have fA1 := fr_trans fA (fr_mono f3 (by decide) (by decide) : fr Ls Fs T T1)
  have QT1 : QOK N V K T1 := QOK_ag (fr_ag f3 (by decide)) Q
  obtain ⟨T2, ⟨f4⟩, e4⟩ := loop_P (F := fun i U => Run X 223 41 [some (.ref 43), some (.int (nI v)), some (.int (nI m)), none, some (.int (bI (B 0))), some (.int (@ite Int32 (∃ j, j < i ∧ ¬ B (j + 1) = B 0) (Classical.propDecidable _) 0 1)), some (.int (nI (i + 1)))] [] U) (P := fun _ U => fr [56] [(43, 19), (43, 20), (43, 21)] T1 U ∧ True) (L - 1) (by
    intro i hi U ⟨f, _⟩
    have fU : fr Ls Fs S U := fr_trans fA1 (fr_mono f (by decide) (by decide))
    have QU : QOK N V K U := QOK_ag (fr_ag f (by decide)) QT1
    obtain ⟨q1, q2, q3, -, -⟩ := QU
    rw [bst_sc fU] at q1 q2 q3
    have hr := bst_get (N := N) (V := V) (K := K) (S := S) hN hV (i := i + 1) (by omega)
    obtain ⟨U1, g1, g2, g3⟩ := stands_ok (c := i + 1) (r := (bst N V K S).2.getD (i + 1) []) hN (by omega) (fun j hj => q3 (i + 1) (by omega) j hj) X
    obtain ⟨U2, g4, g5⟩ := sayOf_m H hr (fr_trans fU (fr_mono g2 (by decide) (by decide))) g3 hv hm X
    rw [← hBi] at g4
    refine ⟨U2, ⟨fr_trans f (fr_trans (fr_mono g2 (by decide) (by decide)) (fr_mono g5 (by decide) (by decide))), trivial⟩, ?_⟩
    show Run X 223 41 _ [] U = Run X 223 41 _ [] U2
    rw [L_X9_sure_41, q1, ← hL, if_neg (nI_ge (by omega) (by omega)), g1, cV_ok, g4, cI_ok, nI_1]
    by_cases q : B (i + 1) = B 0
    · rw [if_pos ((bI_eq _ _).mpr q)]
      by_cases c : ∃ j, j < i ∧ ¬ B (j + 1) = B 0
      · obtain ⟨j, hj, hq⟩ := id c
        rw [if_pos c, if_pos ⟨j, by omega, hq⟩]
      · rw [if_neg c, if_neg]
        rintro ⟨j, hj, hq⟩
        by_cases hji : j = i
        · subst hji; exact hq q
        · exact c ⟨j, by omega, hq⟩
    · rw [if_neg (fun z => q ((bI_eq _ _).mp z)), if_pos ⟨i, by omega, q⟩]) 0 (Nat.zero_le _) T1 ⟨fr_rfl, trivial⟩
  have fA2 : fr Ls Fs S T2 := fr_trans fA1 (fr_mono f4 (by decide) (by decide))
  have t24 : T2 43 24 = nI L := by
    rw [fr_fld f4 43 24 (by decide) (by decide), QT1.1, bst_sc fA1, hL]
  have e4' : Run X 223 41 [some (.ref 43), some (.int (nI v)), some (.int (nI m)), none, some (.int (bI (B 0))), some (.int 1), some (.int 1)] [] T1 = some (some (.int (@ite Int32 (∃ j, j < L - 1 ∧ ¬ B (j + 1) = B 0) (Classical.propDecidable _) 0 1)), T2) := by
    have e0 : (@ite Int32 (∃ j, j < 0 ∧ ¬ B (j + 1) = B 0) (Classical.propDecidable _) 0 1) = 1 := by
      rw [if_neg]
      rintro ⟨j, hj, _⟩
      omega
    simp only [e0] at e4
    refine Eq.trans e4 ?_
    rw [L_X9_sure_41, t24, if_pos (nI_le (by omega) (by omega))]
  refine two_sc (a := @ite Int32 (∃ j, j < L - 1 ∧ ¬ B (j + 1) = B 0) (Classical.propDecidable _) 0 1) (S1 := S1) (S2 := T2) R H ?_ ?_ fA2 (RC_x (fr_trans (fr_mono f3 (by decide) (by decide)) (fr_mono f4 (by decide) (by decide))) CT) (RM_x (fr_trans (fr_mono f3 (by decide) (by decide)) (fr_mono f4 (by decide) (by decide))) MT)
  · rw [e, cI_ok, decide_eq_false hl, if_pos (show bI false = 0 from rfl), show (0 : Int32) = nI 0 from rfl, (sc 0 (by omega)).1, cI_ok, (sc 0 (by omega)).2, cI_ok]
    by_cases c : ∃ j, j < L - 1 ∧ ¬ B (j + 1) = B 0
    · rw [if_pos c]
      exact lpc.1 c
    · rw [if_neg c]
      exact lpc.2 fun j hj q => c ⟨j, hj, q⟩
  · show Cal X 223 _ S1 = _
    rw [C_X9_sure, a2 S1 f1, cI_ok, if_pos rfl, e2, cI_ok, decide_eq_true hpos, if_neg (by decide), e3, cI_ok]
    exact e4'
