/-! the best rows -/
theorem tw_le {V : Nat} (hV : V ≤ 24) (S : sS) (r : List Nat) : tw S V r ≤ 72 := by
  have := sm_le (f := fun v => ctw (nv (S 8 v)) (nv (S 9 v)) r) (n := V) (b := 3) (fun i _ => ctw_le _ _ _)
  unfold tw
  omega
theorem take_s {l : List (List Nat)} {i : Nat} (h : i < l.length) : l.take (i + 1) = l.take i ++ [l.getD i []] := by
  rw [List.take_succ, List.getElem?_eq_getElem h, List.getD_eq_getElem?_getD, List.getElem?_eq_getElem h]
  rfl
noncomputable def bt (N V K : Nat) (S : sS) (i : Nat) : Nat × List (List Nat) := ((KL N).take i).foldl (bstep (tw S V) (hok N K S)) (1000000, [])
theorem bt_s {N V K : Nat} {S : sS} {i : Nat} (h : i < (KL N).length) : bt N V K S (i + 1) = bstep (tw S V) (hok N K S) (bt N V K S i) ((KL N).getD i []) := by
  unfold bt
  rw [take_s h, List.foldl_append]
  rfl
theorem bt_all (N V K : Nat) (S : sS) : bt N V K S (KL N).length = bst N V K S := by
  unfold bt bst
  rw [List.take_length]
theorem bstep_y {w : List Nat → Nat} {ok : List Nat → Bool} {b : Nat × List (List Nat)} {r : List Nat} (h1 : ok r = true) (h2 : w r ≤ b.1) : bstep w ok b r = (w r, (if w r < b.1 then [] else b.2) ++ [r]) := by
  unfold bstep
  rw [h1, Nat.ble_eq_true_of_le h2]
  by_cases q : w r < b.1
  · rw [if_pos q, Nat.blt_eq.mpr q]
    rfl
  · rw [if_neg q]
    have : Nat.blt (w r) b.1 = false := by
      cases hb : Nat.blt (w r) b.1 with
      | false => rfl
      | true => exact absurd (Nat.blt_eq.mp hb) q
    rw [this]
    rfl
theorem bstep_n {w : List Nat → Nat} {ok : List Nat → Bool} {b : Nat × List (List Nat)} {r : List Nat} (h : ok r = false ∨ b.1 < w r) : bstep w ok b r = b := by
  unfold bstep
  rcases h with h | h
  · rw [h]; rfl
  · have : Nat.ble (w r) b.1 = false := by
      cases hb : Nat.ble (w r) b.1 with
      | false => rfl
      | true => have := Nat.le_of_ble_eq_true hb; omega
    rw [this, Bool.and_false]
    rfl
theorem bt_b {N V K : Nat} {S : sS} (hV : V ≤ 24) : ∀ i, i ≤ (KL N).length → (bt N V K S i).1 ≤ 1000000 ∧ (bt N V K S i).2.length ≤ i ∧ ((bt N V K S i).2 = [] → (bt N V K S i).1 = 1000000) ∧ ((bt N V K S i).2 ≠ [] → (bt N V K S i).1 ≤ 72) ∧ ∀ r ∈ (bt N V K S i).2, r ∈ KL N ∧ tw S V r = (bt N V K S i).1 := by
  intro i
  induction i with
  | zero => intro _; exact ⟨Nat.le_refl _, Nat.le_refl _, fun _ => rfl, fun h => absurd rfl h, fun r hr => absurd hr List.not_mem_nil⟩
  | succ i ih =>
    intro hi
    obtain ⟨a1, a2, a3, a4, a5⟩ := ih (by omega)
    rw [bt_s (by omega)]
    obtain ⟨r, hr⟩ : ∃ r, r = (KL N).getD i [] := ⟨_, rfl⟩
    have hrK : r ∈ KL N := by rw [hr]; exact KL_get (by omega)
    rw [← hr]
    have h72 := tw_le hV S r
    by_cases c : hok N K S r = true ∧ tw S V r ≤ (bt N V K S i).1
    · rw [bstep_y c.1 c.2]
      refine ⟨by show tw S V r ≤ _; omega, ?_, fun h => by simp at h, fun _ => h72, ?_⟩
      · show ((if tw S V r < (bt N V K S i).1 then [] else (bt N V K S i).2) ++ [r]).length ≤ i + 1
        rw [List.length_append]
        by_cases q : tw S V r < (bt N V K S i).1
        · rw [if_pos q]; show 0 + 1 ≤ _; omega
        · rw [if_neg q]; show _ + 1 ≤ _; omega
      · intro x hx
        rcases List.mem_append.mp hx with q | q
        · by_cases q2 : tw S V r < (bt N V K S i).1
          · rw [if_pos q2] at q; cases q
          · rw [if_neg q2] at q
            obtain ⟨b1, b2⟩ := a5 x q
            exact ⟨b1, by rw [b2]; show (bt N V K S i).1 = tw S V r; omega⟩
        · rw [List.mem_singleton.mp q]
          exact ⟨hrK, rfl⟩
    · have : hok N K S r = false ∨ (bt N V K S i).1 < tw S V r := by
        cases hb : hok N K S r with
        | false => exact Or.inl rfl
        | true => exact Or.inr (Nat.lt_of_not_le fun q => c ⟨hb, q⟩)
      rw [bstep_n this]
      exact ⟨a1, by omega, a3, a4, a5⟩
theorem sift_ok {N V K : Nat} {S : sS} (H : HH N V K S) (hL : LOK N S) (hJ : JOK N V S) (h : S 29 12 = 0 ∨ S 29 12 = 1 ∧ BOK N V K S) (X : sX) : ∃ S', Cal X 72 [.ref 29] S = some (none, S') ∧ fr [34, 35] [(29, 8), (29, 12), (29, 14), (29, 15)] S S' ∧ S' 29 12 = 1 ∧ BOK N V K S' := by
  have HD0 := H.1
  have hN := HD0.2.1
  have hV := HD0.2.2.2.1
  have hlen := KL_len N (by omega)
  rw [C_X5_sift]
  rcases h with h | ⟨h, hB⟩
  case inr =>
    rw [if_neg (by rw [h]; decide)]
    exact ⟨S, rfl, fr_rfl, h, hB⟩
  obtain ⟨S1, e1, f1, g1, g2⟩ := noteHeld_ok H X
  rw [if_pos h, e1, cV_ok]
  obtain ⟨S2, ⟨f2, b1, b2, b3, b4, b5⟩, e2⟩ := loop_P (F := fun k T => Run X 72 25 [some (.ref 29), some (.int (nI k)), none] [] T) (P := fun k T => fr [34, 35] [(29, 8), (29, 14), (29, 15)] S T ∧ T 29 8 = nI (orf (edK S) K) ∧ (∀ m, m < N → T 35 m = nI (orf (bdK S m) K)) ∧ T 29 14 = nI (bt N V K S k).2.length ∧ T 29 15 = nI (bt N V K S k).1 ∧ ∀ j, j < (bt N V K S k).2.length → T 34 j = nI (pk ((bt N V K S k).2.getD j []))) (KL N).length (by
    intro k hk T ⟨f, b1, b2, b3, b4, b5⟩
    obtain ⟨a1, a2, a3, a4, a5⟩ := bt_b (N := N) (K := K) (S := S) hV k (by omega)
    have hr := KL_ok (KL_get hk)
    obtain ⟨r, er⟩ : ∃ r, r = (KL N).getD k [] := ⟨_, rfl⟩
    obtain ⟨j1, j2, j3⟩ := hJ k hk
    have h72 := tw_le hV S r
    have wt := mkW_tw hV S r
    rw [← er] at hr j1 j2 j3
    have held := isAsHeld_ok (T := T) H hr (by rw [fr_fld f 1 0 (by decide) (by decide)]; exact HD0.1) b1 b2 X
    have main : ∀ T', fr [34, 35] [(29, 8), (29, 14), (29, 15)] S T' → T' 29 8 = nI (orf (edK S) K) → (∀ m, m < N → T' 35 m = nI (orf (bdK S m) K)) → T' 29 14 = nI (bt N V K S (k + 1)).2.length → T' 29 15 = nI (bt N V K S (k + 1)).1 → (∀ j, j < (bt N V K S (k + 1)).2.length → T' 34 j = nI (pk ((bt N V K S (k + 1)).2.getD j []))) → Run X 72 25 [some (.ref 29), some (.int (nI k)), none] [] T = Run X 72 25 [some (.ref 29), some (.int (nI k + 1)), none] [] T' → ∃ T', (fr [34, 35] [(29, 8), (29, 14), (29, 15)] S T' ∧ T' 29 8 = nI (orf (edK S) K) ∧ (∀ m, m < N → T' 35 m = nI (orf (bdK S m) K)) ∧ T' 29 14 = nI (bt N V K S (k + 1)).2.length ∧ T' 29 15 = nI (bt N V K S (k + 1)).1 ∧ ∀ j, j < (bt N V K S (k + 1)).2.length → T' 34 j = nI (pk ((bt N V K S (k + 1)).2.getD j []))) ∧ Run X 72 25 [some (.ref 29), some (.int (nI k)), none] [] T = Run X 72 25 [some (.ref 29), some (.int (nI (k + 1))), none] [] T' := by
      intro T' q1 q2 q3 q4 q5 q6 q7
      rw [nI_1] at q7
      exact ⟨T', ⟨q1, q2, q3, q4, q5, q6⟩, q7⟩
    have base : Run X 72 25 [some (.ref 29), some (.int (nI k)), none] [] T = if (bt N V K S k).1 < tw S V r then (Run X 72 25 [some (.ref 29), some (.int (nI k + 1)), none] [] T) else if bI (hok N K S r) = 0 then (Run X 72 25 [some (.ref 29), some (.int (nI k + 1)), none] [] T) else if (bt N V K S k).1 ≤ tw S V r then (Run X 72 25 [some (.ref 29), some (.int (nI k + 1)), none] [] (up2 (up2 (up2 (up2 T 29 14 (nI (bt N V K S k).2.length)) 29 15 (nI (tw S V r))) 34 (bt N V K S k).2.length (nI (pk r))) 29 14 (nI ((bt N V K S k).2.length + 1)))) else Run X 72 25 [some (.ref 29), some (.int (nI k + 1)), none] [] (up2 (up2 (up2 (up2 T 29 14 0) 29 15 (nI (tw S V r))) 34 0 (nI (pk r))) 29 14 1) := by
      rw [L_X5_sift_25, fr_fld f 29 9 (by decide) (by decide), hL.1, if_neg (nI_ge hk (by omega)), ix_nI (by omega) (by decide), fr_cell f 31 (by decide) (by decide), j1, swar (mkW_lt hV _ _ _), cI_ok, ix_nI (by omega) (by decide), fr_cell f 32 (by decide) (by decide), j2, swar (mkW_lt hV _ _ _), cI_ok, ix_nI (by omega) (by decide), fr_cell f 33 (by decide) (by decide), j3, swar (mkW_lt hV _ _ _), cI_ok, nI_add, nI_add, wt, b4]
      by_cases c1 : (bt N V K S k).1 < tw S V r
      · rw [if_pos (nI_lt c1 (by omega)), if_pos c1]
      · rw [if_neg (nI_nlt (by omega) (by omega)), if_neg c1, ix_nI (by omega) (by decide), fr_cell f 30 (by decide) (by decide), hL.2 k hk, ← er, held, cI_ok, b4, b3]
        by_cases c2 : bI (hok N K S r) = 0
        · rw [if_pos c2, if_pos c2]
        · rw [if_neg c2, if_neg c2]
          by_cases c3 : (bt N V K S k).1 ≤ tw S V r
          · rw [if_pos (nI_le c3 (by omega)), if_pos c3, ix_nI (by omega) (by decide), ix_nI (by omega) (by decide), fr_cell f 30 (by decide) (by decide), hL.2 k hk, ← er, nI_1 (bt N V K S k).2.length]
          · rw [if_neg (nI_ge (by omega) (by omega)), if_neg c3, ix_nI (by omega) (by decide), l0, ix_nI (by omega) (by decide), fr_cell f 30 (by decide) (by decide), hL.2 k hk, ← er]
            rfl
    rw [base] at main
    rw [bt_s hk, ← er] at main
    show ∃ T', _ ∧ Run X 72 25 [some (.ref 29), some (.int (nI k)), none] [] T = _
    rw [base, bt_s hk, ← er]
    by_cases c1 : (bt N V K S k).1 < tw S V r
    · rw [bstep_n (Or.inr c1)] at main ⊢
      exact main T f b1 b2 b3 b4 b5 (by rw [if_pos c1])
    rw [if_neg c1] at main ⊢
    cases c2 : hok N K S r with
    | false =>
      rw [c2, if_pos (show bI false = 0 from rfl)] at main
      rw [if_pos (show bI false = 0 from rfl)]
      rw [bstep_n (Or.inl c2)] at main ⊢
      exact main T f b1 b2 b3 b4 b5 rfl
    | true =>
      rw [c2, if_neg (show ¬ bI true = 0 by decide)] at main
      rw [if_neg (show ¬ bI true = 0 by decide)]
      rw [bstep_y c2 (by omega)] at main ⊢
      by_cases c3 : (bt N V K S k).1 ≤ tw S V r
      · rw [if_pos c3] at main ⊢
        have hn : ¬ tw S V r < (bt N V K S k).1 := by omega
        rw [if_neg hn] at main ⊢
        refine main (up2 (up2 (up2 (up2 T 29 14 (nI (bt N V K S k).2.length)) 29 15 (nI (tw S V r))) 34 (bt N V K S k).2.length (nI (pk r))) 29 14 (nI ((bt N V K S k).2.length + 1))) (fr_upF (fr_upL (fr_upF (fr_upF f (by decide)) (by decide)) (by decide)) (by decide)) b1 b2 (by rw [List.length_append]; rfl) rfl ?_ rfl
        intro j hj
        rw [List.length_append] at hj
        have hj' : j < (bt N V K S k).2.length + 1 := hj
        show upd (T 34) (bt N V K S k).2.length (nI (pk r)) j = _
        by_cases q : j = (bt N V K S k).2.length
        · rw [q, upd_at, gdl_r _ _ (Nat.le_refl _), Nat.sub_self]
          rfl
        · rw [upd_ne _ _ q, gdl_l _ _ (by omega)]
          exact b5 j (by omega)
      · rw [if_neg c3] at main ⊢
        have hn : tw S V r < (bt N V K S k).1 := by omega
        rw [if_pos hn] at main ⊢
        refine main (up2 (up2 (up2 (up2 T 29 14 0) 29 15 (nI (tw S V r))) 34 0 (nI (pk r))) 29 14 1) (fr_upF (fr_upL (fr_upF (fr_upF f (by decide)) (by decide)) (by decide)) (by decide)) b1 b2 rfl rfl ?_ rfl
        intro j hj
        have hj' : j < 1 := hj
        have : j = 0 := by omega
        subst this
        rfl) 0 (Nat.zero_le _) (up2 (up2 S1 29 14 0) 29 15 1000000) ⟨fr_upF (fr_upF (fr_mono f1 (by decide) (by decide)) (by decide)) (by decide), g1, g2, rfl, rfl, fun j hj => absurd hj (Nat.not_lt_zero j)⟩
  rw [bt_all] at b3 b4 b5
  have eb : bst N V K (up2 S2 29 12 1) = bst N V K S := bst_ag (fr_ag (fr_upF (fr_mono f2 (by decide) (by decide) : fr [34, 35] [(29, 8), (29, 12), (29, 14), (29, 15)] S S2) (by decide)) (by decide))
  refine ⟨up2 S2 29 12 1, Eq.trans e2 ?_, fr_upF (fr_mono f2 (by decide) (by decide)) (by decide), rfl, ?_⟩
  · show Run X 72 25 _ [] S2 = _
    rw [L_X5_sift_25, fr_fld f2 29 9 (by decide) (by decide), hL.1, if_pos (nI_le (Nat.le_refl _) (by omega))]
  · unfold BOK
    rw [eb]
    exact ⟨b3, b4, b5⟩
/-! all is judged and sifted -/
def FJ (N V : Nat) (S : sS) : Prop := S 25 4 = 1 ∧ SOK N V S ∧ S 29 10 = nI N ∧ LOK N S ∧ S 29 11 = 1 ∧ JOK N V S
theorem judgeRows_ok {N V K : Nat} {S : sS} (H : HH N V K S) (C : RC N V K S) (X : sX) : ∃ S', Cal X 137 [.ref 0] S = some (none, S') ∧ fr [26, 27, 28, 30, 31, 32, 33] [(25, 4), (25, 5), (25, 6), (25, 7), (29, 9), (29, 10), (29, 11)] S S' ∧ FJ N V S' ∧ RC N V K S' := by
  obtain ⟨c1, c2, c3, c4, c5⟩ := C
  have HD0 := H.1
  have hN := HD0.2.1
  obtain ⟨S1, e1, f1, g1, g2, g3⟩ := refresh_ok HD0 c1 X
  have f1' : fr [26, 27, 28] [(25, 4)] S S1 := by
    intro c j hc hj
    by_cases q : c = 25
    · subst q
      exact g1 j (fun e => hj (by rw [e]; decide))
    · rw [f1 c (by simp only [List.mem_cons, List.not_mem_nil, or_false] at hc ⊢; omega)]
  have HD1 : HD N V S1 := HD_ag (fr_ag f1' (by decide)) HD0
  have a10 : S1 29 10 = S 29 10 := fr_fld f1' 29 10 (by decide) (by decide)
  obtain ⟨S2, e2, f2, h1, h2⟩ := listAll_ok hN HD1.1 (by
    rw [a10]
    exact c2.imp id (fun ⟨M, p, q, r⟩ => ⟨M, p, q, LOK_ag (fr_ag f1' (by decide)) r⟩)) X
  have HD2 : HD N V S2 := HD_ag (fr_ag f2 (by decide)) HD1
  have f12 : fr [26, 27, 28, 30] [(25, 4), (29, 9), (29, 10)] S S2 := fr_trans (fr_mono f1' (by decide) (by decide)) (fr_mono f2 (by decide) (by decide))
  obtain ⟨S3, e3, f3, i1, i2⟩ := judgeAll_ok HD2 (SOK_ag (fr_ag f2 (by decide)) g3) h2 (by
    rw [fr_fld f12 29 11 (by decide) (by decide), h1]
    exact c3.imp id (fun ⟨p, q, r⟩ => ⟨p, rfl, JOK_ag (fr_ag f12 (by decide)) r⟩)) X
  have fA : fr [26, 27, 28, 30, 31, 32, 33] [(25, 4), (25, 5), (25, 6), (25, 7), (29, 9), (29, 10), (29, 11)] S S3 := fr_trans (fr_mono f12 (by decide) (by decide)) (fr_mono f3 (by decide) (by decide))
  have f23 : fr [30, 31, 32, 33] [(25, 5), (25, 6), (25, 7), (29, 9), (29, 10), (29, 11)] S1 S3 := fr_trans (fr_mono f2 (by decide) (by decide)) (fr_mono f3 (by decide) (by decide))
  have k1 : S3 25 4 = 1 := by rw [fr_fld f23 25 4 (by decide) (by decide)]; exact g2
  have k2 : SOK N V S3 := SOK_ag (fr_ag f23 (by decide)) g3
  have k3 : S3 29 10 = nI N := by rw [fr_fld f3 29 10 (by decide) (by decide)]; exact h1
  have k4 : LOK N S3 := LOK_ag (fr_ag f3 (by decide)) h2
  refine ⟨S3, by rw [C_X8_judgeRows, e1, cV_ok, e2, cV_ok, e3, cV_ok], fA, ⟨k1, k2, k3, k4, i1, i2⟩, Or.inr ⟨k1, k2⟩, Or.inr ⟨N, hN, k3, k4⟩, Or.inr ⟨i1, k3, i2⟩, ?_, ?_⟩
  · rw [fr_fld fA 29 12 (by decide) (by decide)]
    exact c4.imp id (fun ⟨p, _, r⟩ => ⟨p, i1, BOK_ag (fr_ag fA (by decide)) r⟩)
  · rw [fr_fld fA 29 13 (by decide) (by decide)]
    exact c5.imp id (fun ⟨p, r⟩ => ⟨p, KOK_ag (fr_ag fA (by decide)) r⟩)
theorem lacks_ok {N V K : Nat} {S : sS} (H : HH N V K S) (C : RC N V K S) (X : sX) : ∃ S', Cal X 138 [.ref 0] S = some (some (.int (bI (decide ((bst N V K S).2.length = 0)))), S') ∧ fr [26, 27, 28, 30, 31, 32, 33, 34, 35] [(25, 4), (25, 5), (25, 6), (25, 7), (29, 8), (29, 9), (29, 10), (29, 11), (29, 12), (29, 14), (29, 15)] S S' ∧ FJ N V S' ∧ BOK N V K S' ∧ RC N V K S' := by
  obtain ⟨S1, e1, f1, F, C1⟩ := judgeRows_ok H C X
  have H1 : HH N V K S1 := HH_ag (fr_ag f1 (by decide)) H
  obtain ⟨k1, k2, k3, k4, k5, k6⟩ := F
  obtain ⟨S2, e2, f2, g1, g2⟩ := sift_ok H1 k4 k6 (C1.2.2.2.1.imp id (fun ⟨p, _, r⟩ => ⟨p, r⟩)) X
  have fA : fr [26, 27, 28, 30, 31, 32, 33, 34, 35] [(25, 4), (25, 5), (25, 6), (25, 7), (29, 8), (29, 9), (29, 10), (29, 11), (29, 12), (29, 14), (29, 15)] S S2 := fr_trans (fr_mono f1 (by decide) (by decide)) (fr_mono f2 (by decide) (by decide))
  have eb : bst N V K S2 = bst N V K S := bst_ag (fr_ag fA (by decide))
  have q1 : S2 25 4 = 1 := by rw [fr_fld f2 25 4 (by decide) (by decide)]; exact k1
  have q2 : SOK N V S2 := SOK_ag (fr_ag f2 (by decide)) k2
  have q3 : S2 29 10 = nI N := by rw [fr_fld f2 29 10 (by decide) (by decide)]; exact k3
  have q4 : LOK N S2 := LOK_ag (fr_ag f2 (by decide)) k4
  have q5 : S2 29 11 = 1 := by rw [fr_fld f2 29 11 (by decide) (by decide)]; exact k5
  have q6 : JOK N V S2 := JOK_ag (fr_ag f2 (by decide)) k6
  refine ⟨S2, ?_, fA, ⟨q1, q2, q3, q4, q5, q6⟩, g2, Or.inr ⟨q1, q2⟩, Or.inr ⟨N, H.1.2.1, q3, q4⟩, Or.inr ⟨q5, q3, q6⟩, Or.inr ⟨g1, q5, g2⟩, ?_⟩
  · have hlen := (bt_b (N := N) (K := K) (S := S2) H.1.2.2.2.1 (KL N).length (Nat.le_refl _)).2.1
    have h2520 := KL_len N (by have := H.1.2.1; omega)
    rw [bt_all] at hlen
    rw [C_X8_lacksBest, e1, cV_ok, e2, cV_ok, C_X5_bestOnes, cI_ok, g2.1, ← eb]
    by_cases q : (bst N V K S2).2.length = 0
    · rw [q, if_pos nI_0]
      rfl
    · rw [if_neg (nI_ne0 (by omega) (by omega)), decide_eq_false q]
      rfl
  · rw [fr_fld f2 29 13 (by decide) (by decide)]
    exact C1.2.2.2.2.imp id (fun ⟨p, r⟩ => ⟨p, KOK_ag (fr_ag f2 (by decide)) r⟩)
