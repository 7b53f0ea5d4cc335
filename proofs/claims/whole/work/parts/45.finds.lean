/-! the other finds the best rows -/
def wm (S : sS) (V : Nat) (r : List Nat) : Nat := mk (fun v => decide (ctw (nv (S 8 v)) (nv (S 9 v)) r = 0)) V
noncomputable def bk (N V K : Nat) (S : sS) (l : List (List Nat)) : Nat × List (List Nat) := l.foldl (bstep (tw S V) (hok N K S)) (1000000, [])
def MS (N V K : Nat) (S : sS) (l : List (List Nat)) (T : sS) : Prop := T 43 24 = nI (bk N V K S l).2.length ∧ ((bk N V K S l).2 ≠ [] → T 43 25 = nI (bk N V K S l).1) ∧ (∀ i, i < (bk N V K S l).2.length → ∀ j, j < N → T 57 (7 * i + j) = nI (((bk N V K S l).2.getD i []).getD j 0)) ∧ T 43 26 = nI l.length ∧ ∀ i, i < l.length → T 58 i = nI (wm S V (l.getD i []))
theorem bk_b {N V K : Nat} {S : sS} (hV : V ≤ 24) (l : List (List Nat)) : (bk N V K S l).2.length ≤ l.length ∧ ((bk N V K S l).2 = [] → (bk N V K S l).1 = 1000000) ∧ ((bk N V K S l).2 ≠ [] → (bk N V K S l).1 ≤ 72) := by
  have key : ∀ (l : List (List Nat)) (b : Nat × List (List Nat)) (n : Nat), b.2.length ≤ n → (b.2 = [] → b.1 = 1000000) → (b.2 ≠ [] → b.1 ≤ 72) → (l.foldl (bstep (tw S V) (hok N K S)) b).2.length ≤ n + l.length ∧ ((l.foldl (bstep (tw S V) (hok N K S)) b).2 = [] → (l.foldl (bstep (tw S V) (hok N K S)) b).1 = 1000000) ∧ ((l.foldl (bstep (tw S V) (hok N K S)) b).2 ≠ [] → (l.foldl (bstep (tw S V) (hok N K S)) b).1 ≤ 72) := by
    intro l
    induction l with
    | nil => intro b n h1 h2 h3; exact ⟨h1, h2, h3⟩
    | cons r l ih =>
      intro b n h1 h2 h3
      have h72 := tw_le hV S r
      have := ih (bstep (tw S V) (hok N K S) b r) (n + 1)
      rw [show n + (r :: l).length = n + 1 + l.length by show n + (l.length + 1) = _; omega]
      refine this ?_ ?_ ?_
      · by_cases c : hok N K S r = true ∧ tw S V r ≤ b.1
        · rw [bstep_y c.1 c.2]
          show ((if tw S V r < b.1 then [] else b.2) ++ [r]).length ≤ n + 1
          rw [List.length_append]
          by_cases q : tw S V r < b.1
          · rw [if_pos q]; show 0 + 1 ≤ _; omega
          · rw [if_neg q]; show _ + 1 ≤ _; omega
        · rw [bstep_n]
          · omega
          · cases hb : hok N K S r with
            | false => exact Or.inl rfl
            | true => exact Or.inr (Nat.lt_of_not_le fun q => c ⟨hb, q⟩)
      · intro h
        by_cases c : hok N K S r = true ∧ tw S V r ≤ b.1
        · rw [bstep_y c.1 c.2] at h
          simp at h
        · rw [bstep_n] at h ⊢
          · exact h2 h
          · cases hb : hok N K S r with
            | false => exact Or.inl rfl
            | true => exact Or.inr (Nat.lt_of_not_le fun q => c ⟨hb, q⟩)
          · cases hb : hok N K S r with
            | false => exact Or.inl rfl
            | true => exact Or.inr (Nat.lt_of_not_le fun q => c ⟨hb, q⟩)
      · intro h
        by_cases c : hok N K S r = true ∧ tw S V r ≤ b.1
        · rw [bstep_y c.1 c.2]
          exact h72
        · rw [bstep_n] at h ⊢
          · exact h3 h
          · cases hb : hok N K S r with
            | false => exact Or.inl rfl
            | true => exact Or.inr (Nat.lt_of_not_le fun q => c ⟨hb, q⟩)
          · cases hb : hok N K S r with
            | false => exact Or.inl rfl
            | true => exact Or.inr (Nat.lt_of_not_le fun q => c ⟨hb, q⟩)
  have := key l (1000000, []) 0 (Nat.le_refl _) (fun _ => rfl) (fun h => absurd rfl h)
  rw [Nat.zero_add] at this
  exact this
theorem bk_app {N V K : Nat} {S : sS} (l : List (List Nat)) (r : List Nat) : bk N V K S (l ++ [r]) = bstep (tw S V) (hok N K S) (bk N V K S l) r := by
  unfold bk
  rw [List.foldl_append]
  rfl
/-- the row at hand is copied behind the best ones -/
theorem copy_ok {N c : Nat} {r : List Nat} {T : sS} (hN : N ≤ 7) (hc : c < 5040) (h24 : T 43 24 = nI c) (hR : RH N r T) (X : sX) : ∃ T', Run X 188 128 [some (.ref 43), none, none, some (.int 0), none] [] T = some (none, T') ∧ fr [57] [(43, 24)] T T' ∧ T' 43 24 = nI (c + 1) ∧ (∀ j, j < N → T' 57 (7 * c + j) = nI (r.getD j 0)) ∧ ∀ j, j < 7 * c → T' 57 j = T 57 j := by
  obtain ⟨T1, ⟨f, g1, g2⟩, e⟩ := loop_P (F := fun k T => Run X 188 128 [some (.ref 43), none, none, some (.int (nI k)), none] [] T) (P := fun k U => fr [57] [] T U ∧ (∀ j, j < k → U 57 (7 * c + j) = T 56 j) ∧ ∀ j, j < 7 * c → U 57 j = T 57 j) 7 (by
    intro k hk U ⟨f, g1, g2⟩
    have u24 : U 43 24 = nI c := by rw [fr_fld f 43 24 (by decide) (by decide)]; exact h24
    refine ⟨up2 U 57 (7 * c + k) (U 56 k), ⟨fr_upL f (by decide), ?_, ?_⟩, ?_⟩
    · intro j hj
      rw [up2_at]
      by_cases q : j = k
      · rw [q, upd_at, fr_cell f 56 (by decide) (by decide)]
      · rw [upd_ne _ _ (by omega)]; exact g1 j (by omega)
    · intro j hj
      rw [up2_at, upd_ne _ _ (by omega)]
      exact g2 j hj
    · show Run X 188 128 _ [] U = Run X 188 128 _ [] _
      rw [L_X9_looksAt_128, l7, if_neg (nI_ge hk (by decide)), ix_nI hk (by decide), u24, pk_mul, nI_add, ix_nI (by omega) (by decide), nI_1]) 0 (Nat.zero_le _) T ⟨fr_rfl, fun j hj => absurd hj (Nat.not_lt_zero j), fun _ _ => rfl⟩
  refine ⟨up2 T1 43 24 (nI (c + 1)), Eq.trans e ?_, fr_upF (fr_mono f (by decide) (by decide)) (by decide), rfl, ?_, ?_⟩
  · show Run X 188 128 _ [] T1 = _
    rw [L_X9_looksAt_128, l7, if_pos (nI_le (Nat.le_refl _) (by decide)), fr_fld f 43 24 (by decide) (by decide), h24, nI_1]
  · intro j hj
    show T1 57 _ = _
    rw [g1 j (by omega), hR j hj]
  · intro j hj
    exact g2 j hj
theorem looks_ok {N V K : Nat} {S T : sS} {l : List (List Nat)} {r : List Nat} (H : HH N V K S) (hr : RowOK N r) (f : fr [56, 57, 58] [(43, 14), (43, 19), (43, 20), (43, 21), (43, 24), (43, 25), (43, 26)] S T) (hR : RH N r T) (hM : MS N V K S l T) (hl : l.length < 2520) (X : sX) : ∃ T', Cal X 188 [.ref 43] T = some (none, T') ∧ fr [57, 58] [(43, 19), (43, 20), (43, 21), (43, 24), (43, 25), (43, 26)] T T' ∧ MS N V K S (l ++ [r]) T' := by
  have HD0 := H.1
  have hN := HD0.2.1
  have hV := HD0.2.2.2.1
  have HT : HH N V K T := HH_ag (fr_ag f (by decide)) H
  obtain ⟨HDT, k1, k2, m1, m2, m3, k3, k4, k5⟩ := id HT
  obtain ⟨b1, b2, b3, b4, b5⟩ := hM
  obtain ⟨c1, c2, c3⟩ := bk_b (N := N) (K := K) (S := S) hV l
  have h72 := tw_le hV S r
  have et8 : T 8 = S 8 := fr_cell f 8 (by decide) (by decide)
  have et9 : T 9 = S 9 := fr_cell f 9 (by decide) (by decide)
  rw [C_X9_looksAt]
  obtain ⟨T1, f1, e1⟩ := loop_P (F := fun k U => Run X 188 6 [some (.ref 43), some (.int (nI (wm S k r))), some (.int (nI (tw S k r))), some (.int (nI k)), none] [] U) (P := fun _ U => fr [] [(43, 19), (43, 20), (43, 21)] T U) V (by
    intro k hk U f
    obtain ⟨y, n, -, -, hy, hn, hd, e8, e9, e8', e9'⟩ := vote_y HDT hk
    obtain ⟨g1, g2, -⟩ := k4 k hk
    have u56 : RH N r U := fun j hj => by rw [fr_cell f 56 (by decide) (by decide)]; exact hR j hj
    obtain ⟨U', e, f', -⟩ := wrongOf_ok hr hN hy hn hd X U (by rw [fr_fld f 43 11 (by decide) (by decide)]; exact m1) u56
    refine ⟨U', fr_trans f f', ?_⟩
    have ec : ctw (nv (S 8 k)) (nv (S 9 k)) r = ctw y n r := by rw [← et8, ← et9, e8', e9']
    have et : tw S (k + 1) r = tw S k r + ctw (nv (S 8 k)) (nv (S 9 k)) r := rfl
    have ew : wm S (k + 1) r = wm S k r ||| (bif decide (ctw (nv (S 8 k)) (nv (S 9 k)) r = 0) then 2 ^ k else 0) := rfl
    have h3 := ctw_le y n r
    show Run X 188 6 _ [] U = Run X 188 6 _ [] U'
    rw [L_X9_looksAt_6, fr_fld f 43 12 (by decide) (by decide), m2, if_neg (nI_ge hk (by omega)), ix_nI (by omega) (by decide), ix_nI (by omega) (by decide), fr_cell f 49 (by decide) (by decide), fr_cell f 50 (by decide) (by decide), g1, g2, e8, e9, e, cI_ok, nI_add, nI_1, et, ew, ec]
    by_cases q : ctw y n r = 0
    · rw [q, if_pos nI_0, l1, oShl_1 (by omega), or_nI]
      rfl
    · rw [if_neg (nI_ne0 (by omega) (by omega)), or0, decide_eq_false q]
      show Run X 188 6 _ [] U' = _
      rw [show (bif false then 2 ^ k else 0) = 0 from rfl, Nat.or_zero]) 0 (Nat.zero_le _) T fr_rfl
  have t26 : T1 43 26 = nI l.length := by rw [fr_fld f1 43 26 (by decide) (by decide)]; exact b4
  have t12 : T1 43 12 = nI V := by rw [fr_fld f1 43 12 (by decide) (by decide)]; exact m2
  obtain ⟨T2, hT2⟩ : ∃ T2, T2 = up2 (up2 T1 58 l.length (nI (wm S V r))) 43 26 (nI (l.length + 1)) := ⟨_, rfl⟩
  have f2 : fr [58] [(43, 19), (43, 20), (43, 21), (43, 26)] T T2 := by
    rw [hT2]
    exact fr_upF (fr_upL (fr_mono f1 (by decide) (by decide)) (by decide)) (by decide)
  have fS2 : fr [56, 57, 58] [(43, 14), (43, 19), (43, 20), (43, 21), (43, 24), (43, 25), (43, 26)] S T2 := fr_trans f (fr_mono f2 (by decide) (by decide))
  have hR2 : RH N r T2 := fun j hj => by rw [fr_cell f2 56 (by decide) (by decide)]; exact hR j hj
  have held := mHeld_ok H hr (fr_ag fS2 (by decide)) hR2 X
  have e2 : Run X 188 6 [some (.ref 43), some (.int 0), some (.int 0), some (.int 0), none] [] T = cI (Cal X 186 [.ref 43] T2) fun r3 S2 => if r3 = 0 then (some (none, S2)) else if (S2 43 24) ≤ 0 then (if (S2 43 24) = 0 then (Run X 188 128 [some (.ref 43), none, none, some (.int 0), none] [] (up2 (up2 S2 43 24 0) 43 25 (nI (tw S V r)))) else if (S2 43 25) ≤ (nI (tw S V r)) then (Run X 188 128 [some (.ref 43), none, none, some (.int 0), none] [] (up2 S2 43 25 (nI (tw S V r)))) else Run X 188 128 [some (.ref 43), none, none, some (.int 0), none] [] (up2 (up2 S2 43 24 0) 43 25 (nI (tw S V r)))) else if (nI (tw S V r)) ≤ (S2 43 25) then (if (S2 43 24) = 0 then (Run X 188 128 [some (.ref 43), none, none, some (.int 0), none] [] (up2 (up2 S2 43 24 0) 43 25 (nI (tw S V r)))) else if (S2 43 25) ≤ (nI (tw S V r)) then (Run X 188 128 [some (.ref 43), none, none, some (.int 0), none] [] (up2 S2 43 25 (nI (tw S V r)))) else Run X 188 128 [some (.ref 43), none, none, some (.int 0), none] [] (up2 (up2 S2 43 24 0) 43 25 (nI (tw S V r)))) else some (none, S2) := by
    refine Eq.trans e1 ?_
    show Run X 188 6 _ [] T1 = _
    rw [L_X9_looksAt_6, t12, if_pos (nI_le (Nat.le_refl _) (by omega)), t26, ix_nI (by omega) (by decide), nI_1, ← hT2]
  rw [e2, held, cI_ok]
  have t24 : T2 43 24 = nI (bk N V K S l).2.length := by rw [fr_fld f2 43 24 (by decide) (by decide)]; exact b1
  have t25 : (bk N V K S l).2 ≠ [] → T2 43 25 = nI (bk N V K S l).1 := fun h => by rw [fr_fld f2 43 25 (by decide) (by decide)]; exact b2 h
  have t57 : T2 57 = T 57 := fr_cell f2 57 (by decide) (by decide)
  have wh : ∀ i, i < (l ++ [r]).length → T2 58 i = nI (wm S V ((l ++ [r]).getD i [])) := by
    intro i hi
    rw [List.length_append] at hi
    have hi' : i < l.length + 1 := hi
    have e58 : T2 58 = upd (T1 58) l.length (nI (wm S V r)) := by rw [hT2]; rfl
    rw [e58]
    by_cases q : i = l.length
    · rw [q, upd_at, gdl_r _ _ (Nat.le_refl _), Nat.sub_self]
      rfl
    · rw [upd_ne _ _ q, gdl_l _ _ (by omega), fr_cell f1 58 (by decide) (by decide)]
      exact b5 i (by omega)
  have t26' : T2 43 26 = nI (l ++ [r]).length := by rw [hT2, List.length_append]; rfl
  have skip : (hok N K S r = false ∨ (bk N V K S l).1 < tw S V r) → MS N V K S (l ++ [r]) T2 := by
    intro h
    unfold MS
    rw [bk_app, bstep_n h]
    refine ⟨t24, t25, ?_, t26', wh⟩
    rw [t57]
    exact b3
  have f2' : fr [57, 58] [(43, 19), (43, 20), (43, 21), (43, 24), (43, 25), (43, 26)] T T2 := fr_mono f2 (by decide) (by decide)
  cases hh : hok N K S r with
  | false =>
    rw [if_pos (show bI false = 0 from rfl)]
    exact ⟨T2, rfl, f2', skip (Or.inl hh)⟩
  | true =>
    rw [if_neg (show ¬ bI true = 0 by decide)]
    have fresh : tw S V r < (bk N V K S l).1 → ∃ T', Run X 188 128 [some (.ref 43), none, none, some (.int 0), none] [] (up2 (up2 T2 43 24 0) 43 25 (nI (tw S V r))) = some (none, T') ∧ fr [57, 58] [(43, 19), (43, 20), (43, 21), (43, 24), (43, 25), (43, 26)] T T' ∧ MS N V K S (l ++ [r]) T' := by
      intro hlt
      obtain ⟨T', e, f', g1, g2, g3⟩ := copy_ok (c := 0) (T := up2 (up2 T2 43 24 0) 43 25 (nI (tw S V r))) hN (by decide) rfl hR2 X
      refine ⟨T', e, fr_trans (fr_upF (fr_upF f2' (by decide)) (by decide)) (fr_mono f' (by decide) (by decide)), ?_⟩
      unfold MS
      rw [bk_app, bstep_y hh (by omega), if_pos hlt]
      refine ⟨g1, fun _ => ?_, ?_, ?_, ?_⟩
      · rw [fr_fld f' 43 25 (by decide) (by decide)]; rfl
      · intro i hi j hj
        have hi' : i < 1 := hi
        have : i = 0 := by omega
        subst this
        exact g2 j hj
      · rw [fr_fld f' 43 26 (by decide) (by decide)]; exact t26'
      · rw [fr_cell f' 58 (by decide) (by decide)]; exact wh
    have more : (bk N V K S l).2 ≠ [] → tw S V r = (bk N V K S l).1 → ∃ T', Run X 188 128 [some (.ref 43), none, none, some (.int 0), none] [] (up2 T2 43 25 (nI (tw S V r))) = some (none, T') ∧ fr [57, 58] [(43, 19), (43, 20), (43, 21), (43, 24), (43, 25), (43, 26)] T T' ∧ MS N V K S (l ++ [r]) T' := by
      intro hne heq
      obtain ⟨T', e, f', g1, g2, g3⟩ := copy_ok (c := (bk N V K S l).2.length) (T := up2 T2 43 25 (nI (tw S V r))) hN (by omega) t24 hR2 X
      refine ⟨T', e, fr_trans (fr_upF f2' (by decide)) (fr_mono f' (by decide) (by decide)), ?_⟩
      unfold MS
      rw [bk_app, bstep_y hh (by omega), if_neg (by omega)]
      refine ⟨by rw [g1, List.length_append]; rfl, fun _ => ?_, ?_, ?_, ?_⟩
      · rw [fr_fld f' 43 25 (by decide) (by decide)]; rfl
      · intro i hi j hj
        rw [List.length_append] at hi
        have hi' : i < (bk N V K S l).2.length + 1 := hi
        by_cases q : i = (bk N V K S l).2.length
        · subst q
          rw [g2 j hj]
          show _ = nI ((((bk N V K S l).2 ++ [r]).getD (bk N V K S l).2.length []).getD j 0)
          rw [gdl_r _ _ (Nat.le_refl _), Nat.sub_self]
          rfl
        · rw [g3 (7 * i + j) (by omega)]
          show T2 57 _ = nI ((((bk N V K S l).2 ++ [r]).getD i []).getD j 0)
          rw [t57, gdl_l _ _ (by omega)]
          exact b3 i (by omega) j hj
      · rw [fr_fld f' 43 26 (by decide) (by decide)]; exact t26'
      · rw [fr_cell f' 58 (by decide) (by decide)]; exact wh
    by_cases hne : (bk N V K S l).2 = []
    · have h0 : T2 43 24 = 0 := by rw [t24, hne]; rfl
      rw [if_pos (by rw [h0]; decide), if_pos h0]
      exact fresh (by rw [c2 hne]; omega)
    · have hpos : 0 < (bk N V K S l).2.length := List.length_pos_iff.mpr hne
      have hb72 := c3 hne
      rw [t24, t25 hne, if_neg (nI_nle hpos (by omega)), if_neg (nI_ne0 hpos (by omega))]
      by_cases c4 : tw S V r ≤ (bk N V K S l).1
      · rw [if_pos (nI_le c4 (by omega))]
        by_cases c5 : (bk N V K S l).1 ≤ tw S V r
        · rw [if_pos (nI_le c5 (by omega))]
          exact more hne (by omega)
        · rw [if_neg (nI_ge (by omega) (by omega))]
          exact fresh (by omega)
      · rw [if_neg (nI_ge (by omega) (by omega))]
        exact ⟨T2, rfl, f2', skip (Or.inr (by omega))⟩
theorem firstRow_ok {N : Nat} (hN : N ≤ 7) (X : sX) (S : sS) : ∃ T, Cal X 183 [.ref 43] S = some (none, T) ∧ fr [56] [] S T ∧ RH N (List.range N) T := by
  rw [C_X9_firstRow]
  obtain ⟨T, ⟨f, g⟩, e⟩ := loop_P (F := fun k T => Run X 183 2 [some (.ref 43), some (.int (nI k))] [] T) (P := fun k T => fr [56] [] S T ∧ ∀ j, j < k → T 56 j = nI j) 7 (by
    intro k hk T ⟨f, g⟩
    refine ⟨up2 T 56 k (nI k), ⟨fr_upL f (by decide), ?_⟩, ?_⟩
    · intro j hj
      rw [up2_at]
      by_cases hq : j = k
      · subst hq; rw [upd_at]
      · rw [upd_ne _ _ hq]; exact g j (by omega)
    · show Run X 183 2 _ [] T = Run X 183 2 _ [] _
      rw [L_X9_firstRow_2, l7, if_neg (nI_ge hk (by decide)), ix_nI hk (by decide), nI_1]) 0 (Nat.zero_le _) S ⟨fr_rfl, fun j hj => absurd hj (Nat.not_lt_zero j)⟩
  refine ⟨T, Eq.trans e ?_, f, fun j hj => ?_⟩
  · show Run X 183 2 _ [] T = _
    rw [L_X9_firstRow_2, l7, if_pos (nI_le (Nat.le_refl _) (by decide))]
  · rw [g j (by omega), List.getD_eq_getElem?_getD, List.getElem?_range hj]
    rfl
theorem isNx_c {N : Nat} {r : List Nat} {l : List (List Nat)} (h : isNx N r l = true) : (l = [] ∧ nxt N r = none) ∨ ∃ s l', l = s :: l' ∧ nxt N r = some s := by
  unfold isNx at h
  cases hx : nxt N r with
  | none =>
    rw [hx] at h
    cases l with
    | nil => exact Or.inl ⟨rfl, rfl⟩
    | cons s l' => cases h
  | some r' =>
    rw [hx] at h
    cases l with
    | nil => cases h
    | cons s l' =>
      have : r' = s := lEq_eq _ _ h
      exact Or.inr ⟨s, l', rfl, by rw [this]⟩
theorem finds_loop {N V K : Nat} {S : sS} (H : HH N V K S) (X : sX) : ∀ (l pr : List (List Nat)) (r : List Nat) (T : sS), allR N = pr ++ r :: l → chk N (r :: l) = true → fr [56, 57, 58] [(43, 14), (43, 19), (43, 20), (43, 21), (43, 24), (43, 25), (43, 26)] S T → RH N r T → MS N V K S (pr.filter (isK N)) T → ∃ T', Run X 187 34 [some (.ref 43), some (.int 1)] [] T = some (none, T') ∧ fr [56, 57, 58] [(43, 19), (43, 20), (43, 21), (43, 24), (43, 25), (43, 26)] T T' ∧ MS N V K S (KL N) T' := by
  have HD0 := H.1
  have hN := HD0.2.1
  have hV := HD0.2.2.2.1
  have h2520 := KL_len N (by omega)
  have step : ∀ (l pr : List (List Nat)) (r : List Nat) (T : sS), allR N = pr ++ r :: l → fr [56, 57, 58] [(43, 14), (43, 19), (43, 20), (43, 21), (43, 24), (43, 25), (43, 26)] S T → RH N r T → MS N V K S (pr.filter (isK N)) T → ∃ T1, Run X 187 34 [some (.ref 43), some (.int 1)] [] T = (cI (Cal X 184 [.ref 43] T1) fun r3 S2 => Run X 187 34 [some (.ref 43), some (.int r3)] [] S2) ∧ fr [57, 58] [(43, 19), (43, 20), (43, 21), (43, 24), (43, 25), (43, 26)] T T1 ∧ MS N V K S ((pr ++ [r]).filter (isK N)) T1 := by
    intro l pr r T ha f hR hM
    have hr : RowOK N r := allR_ok (by rw [ha]; exact List.mem_append_right _ List.mem_cons_self)
    have t11 : T 43 11 = nI N := by rw [fr_fld f 43 11 (by decide) (by decide)]; exact H.2.2.2.1
    have look : isK N r = true → ∃ T1, Cal X 188 [.ref 43] T = some (none, T1) ∧ fr [57, 58] [(43, 19), (43, 20), (43, 21), (43, 24), (43, 25), (43, 26)] T T1 ∧ MS N V K S ((pr ++ [r]).filter (isK N)) T1 := by
      intro hk
      have e1 : (pr ++ [r]).filter (isK N) = pr.filter (isK N) ++ [r] := by
        rw [List.filter_append, List.filter_cons, if_pos hk, List.filter_nil]
      rw [e1]
      refine looks_ok H hr f hR hM ?_ X
      have e2 : (KL N).length = (pr.filter (isK N)).length + ((r :: l).filter (isK N)).length := by
        unfold KL
        rw [ha, List.filter_append, List.length_append]
      rw [List.filter_cons, if_pos hk] at e2
      have e3 : (r :: l.filter (isK N)).length = (l.filter (isK N)).length + 1 := rfl
      omega
    rw [L_X9_finds_34, if_neg (by decide), t11]
    by_cases h2 : N < 2
    · obtain ⟨T1, e, f1, m⟩ := look (isK_iff.mpr (Or.inl h2))
      rw [if_pos (show nI N < 2 from nI_lt (b := 2) h2 (by decide)), e, cV_ok]
      exact ⟨T1, rfl, f1, m⟩
    · have e1 : nI N - 1 = nI (N - 1) := by rw [l1, pk_sub (by omega)]
      have g0 := row_at_lt hr (i := 0) (by omega)
      have g1 := row_at_lt hr (i := N - 1) (by omega)
      rw [if_neg (show ¬ nI N < 2 from nI_nlt (a := N) (b := 2) (by omega) (by omega)), l0, ix_nI (by decide) (by decide), e1, ix_nI (by omega) (by decide), hR 0 (by omega), hR (N - 1) (by omega)]
      by_cases hlt : r.getD 0 0 < r.getD (N - 1) 0
      · obtain ⟨T1, e, f1, m⟩ := look (isK_iff.mpr (Or.inr hlt))
        rw [if_neg (nI_ge hlt (by omega)), e, cV_ok]
        exact ⟨T1, rfl, f1, m⟩
      · rw [if_pos (nI_le (by omega) (by omega))]
        refine ⟨T, rfl, fr_rfl, ?_⟩
        have hk : isK N r = false := by
          cases hb : isK N r with
          | false => rfl
          | true => rcases isK_iff.mp hb with q | q <;> omega
        rw [List.filter_append, List.filter_cons, hk, if_neg (by decide), List.filter_nil, List.append_nil]
        exact hM
  intro l
  induction l with
  | nil =>
    intro pr r T ha hc f hR hM
    have hr : RowOK N r := allR_ok (by rw [ha]; exact List.mem_append_right _ List.mem_cons_self)
    obtain ⟨T1, e, f1, m⟩ := step [] pr r T ha f hR hM
    have hc' : (isNx N r [] && chk N []) = true := hc
    rw [Bool.and_eq_true] at hc'
    rcases isNx_c hc'.1 with ⟨_, hx⟩ | ⟨s, l', q, _⟩
    · have t11 : T1 43 11 = nI N := by rw [fr_fld f1 43 11 (by decide) (by decide), fr_fld f 43 11 (by decide) (by decide)]; exact H.2.2.2.1
      have hR1 : RH N r T1 := fun j hj => by rw [fr_cell f1 56 (by decide) (by decide)]; exact hR j hj
      refine ⟨T1, ?_, fr_mono f1 (by decide) (by decide), by unfold KL; rw [ha]; exact m⟩
      rw [e, next_none hr hN t11 hR1 hx, cI_ok, L_X9_finds_34, if_pos rfl]
    · cases q
  | cons s l ih =>
    intro pr r T ha hc f hR hM
    have hr : RowOK N r := allR_ok (by rw [ha]; exact List.mem_append_right _ List.mem_cons_self)
    obtain ⟨T1, e, f1, m⟩ := step (s :: l) pr r T ha f hR hM
    have hc' : (isNx N r (s :: l) && chk N (s :: l)) = true := hc
    rw [Bool.and_eq_true] at hc'
    rcases isNx_c hc'.1 with ⟨q, _⟩ | ⟨s', l', q, hx⟩
    · cases q
    · cases q
      have t11 : T1 43 11 = nI N := by rw [fr_fld f1 43 11 (by decide) (by decide), fr_fld f 43 11 (by decide) (by decide)]; exact H.2.2.2.1
      have hR1 : RH N r T1 := fun j hj => by rw [fr_cell f1 56 (by decide) (by decide)]; exact hR j hj
      obtain ⟨T2, e2, f2, hR2⟩ := next_some hr hN t11 hR1 hx X
      have f12 : fr [56, 57, 58] [(43, 19), (43, 20), (43, 21), (43, 24), (43, 25), (43, 26)] T T2 := fr_trans (fr_mono f1 (by decide) (by decide)) (fr_mono f2 (by decide) (by decide))
      have m2 : MS N V K S ((pr ++ [r]).filter (isK N)) T2 := by
        unfold MS
        rw [fr_fld f2 43 24 (by decide) (by decide), fr_fld f2 43 25 (by decide) (by decide), fr_fld f2 43 26 (by decide) (by decide), fr_cell f2 57 (by decide) (by decide), fr_cell f2 58 (by decide) (by decide)]
        exact m
      obtain ⟨T3, e3, f3, m3⟩ := ih (pr ++ [r]) s T2 (by rw [ha]; simp) hc'.2 (fr_trans f (fr_mono f12 (by decide) (by decide))) hR2 m2
      exact ⟨T3, by rw [e, e2, cI_ok, e3], fr_trans f12 f3, m3⟩
theorem finds_ok {N V K : Nat} {S : sS} (H : HH N V K S) (M : RM N V K S) (X : sX) : ∃ T, Cal X 187 [.ref 43] S = some (none, T) ∧ fr [56, 57, 58] [(43, 14), (43, 19), (43, 20), (43, 21), (43, 24), (43, 25), (43, 26)] S T ∧ T 43 14 = 0 ∧ QOK N V K T := by
  have hN := H.1.2.1
  rw [C_X9_finds]
  rcases M with h | ⟨h, hQ⟩
  case inr =>
    rw [if_pos h]
    exact ⟨S, rfl, fr_rfl, h, hQ⟩
  rw [if_neg (by rw [h]; decide)]
  obtain ⟨S1, hS1⟩ : ∃ S1, S1 = up2 (up2 (up2 (up2 S 43 14 0) 43 24 0) 43 25 0) 43 26 0 := ⟨_, rfl⟩
  have f1 : fr [] [(43, 14), (43, 24), (43, 25), (43, 26)] S S1 := by
    rw [hS1]
    exact fr_upF (fr_upF (fr_upF (fr_upF fr_rfl (by decide)) (by decide)) (by decide)) (by decide)
  obtain ⟨S2, e2, f2, hR⟩ := firstRow_ok hN X S1
  rw [← hS1, e2, cV_ok]
  have hch := chk_all N (by omega)
  rw [Bool.and_eq_true] at hch
  have f12 : fr [56, 57, 58] [(43, 14), (43, 19), (43, 20), (43, 21), (43, 24), (43, 25), (43, 26)] S S2 := fr_trans (fr_mono f1 (by decide) (by decide)) (fr_mono f2 (by decide) (by decide))
  obtain ⟨r, l, ha⟩ : ∃ r l, allR N = r :: l := by
    have h1 := hch.1
    unfold chkH at h1
    cases ha : allR N with
    | nil => rw [ha] at h1; cases h1
    | cons r l => exact ⟨r, l, rfl⟩
  have hrr : r = List.range N := by
    have h1 := hch.1
    unfold chkH at h1
    rw [ha] at h1
    exact lEq_eq _ _ h1
  have hm0 : MS N V K S (([] : List (List Nat)).filter (isK N)) S2 := by
    refine ⟨?_, fun q => absurd rfl q, fun i hi => absurd hi (Nat.not_lt_zero i), ?_, fun i hi => absurd hi (Nat.not_lt_zero i)⟩
    · rw [fr_fld f2 43 24 (by decide) (by decide), hS1]; rfl
    · rw [fr_fld f2 43 26 (by decide) (by decide), hS1]; rfl
  obtain ⟨T, e, f3, b1, b2, b3, b4, b5⟩ := finds_loop H X l [] r S2 ha (by rw [← ha]; exact hch.2) f12 (by rw [hrr]; exact hR) hm0
  have fA := fr_trans f12 (fr_mono f3 (by decide) (by decide) : fr [56, 57, 58] [(43, 14), (43, 19), (43, 20), (43, 21), (43, 24), (43, 25), (43, 26)] S2 T)
  have eb : bst N V K T = bk N V K S (KL N) := by
    rw [bst_ag (fr_ag fA (by decide))]
    rfl
  refine ⟨T, e, fA, ?_, ?_⟩
  · rw [fr_fld f3 43 14 (by decide) (by decide), fr_fld f2 43 14 (by decide) (by decide), hS1]; rfl
  · unfold QOK
    rw [eb, fr_cell fA 8 (by decide) (by decide), fr_cell fA 9 (by decide) (by decide)]
    exact ⟨b1, b2, b3, b4, b5⟩
theorem stands_ok {N c : Nat} {r : List Nat} {T : sS} (hN : N ≤ 7) (hc : c < 5040) (h : ∀ j, j < N → T 57 (7 * c + j) = nI (r.getD j 0)) (X : sX) : ∃ T', Cal X 189 [.ref 43, .int (nI c)] T = some (none, T') ∧ fr [56] [] T T' ∧ RH N r T' := by
  rw [C_X9_stands]
  obtain ⟨T', ⟨f, g⟩, e⟩ := loop_P (F := fun k U => Run X 189 2 [some (.ref 43), some (.int (nI c)), some (.int (nI k))] [] U) (P := fun k U => fr [56] [] T U ∧ ∀ j, j < k → U 56 j = T 57 (7 * c + j)) 7 (by
    intro k hk U ⟨f, g⟩
    refine ⟨up2 U 56 k (U 57 (7 * c + k)), ⟨fr_upL f (by decide), ?_⟩, ?_⟩
    · intro j hj
      rw [up2_at]
      by_cases hq : j = k
      · subst hq; rw [upd_at, fr_cell f 57 (by decide) (by decide)]
      · rw [upd_ne _ _ hq]; exact g j (by omega)
    · show Run X 189 2 _ [] U = Run X 189 2 _ [] _
      rw [L_X9_stands_2, l7, if_neg (nI_ge hk (by decide)), pk_mul, nI_add, ix_nI (by omega) (by decide), ix_nI hk (by decide), nI_1]) 0 (Nat.zero_le _) T ⟨fr_rfl, fun j hj => absurd hj (Nat.not_lt_zero j)⟩
  refine ⟨T', Eq.trans e ?_, f, fun j hj => ?_⟩
  · show Run X 189 2 _ [] T' = _
    rw [L_X9_stands_2, l7, if_pos (nI_le (Nat.le_refl _) (by decide))]
  · rw [g j (by omega), h j hj]
/-- the best rows: how many, and each is a row -/
theorem bst_b {N V K : Nat} {S : sS} (hN : N ≤ 7) (hV : V ≤ 24) : (bst N V K S).2.length ≤ 2520 ∧ ((bst N V K S).2 ≠ [] → (bst N V K S).1 ≤ 72) ∧ ∀ r ∈ (bst N V K S).2, r ∈ KL N ∧ tw S V r = (bst N V K S).1 := by
  have h := bt_b (N := N) (K := K) (S := S) hV (KL N).length (Nat.le_refl _)
  have := KL_len N (by omega)
  rw [bt_all] at h
  exact ⟨by omega, h.2.2.2.1, h.2.2.2.2⟩
theorem bst_get {N V K i : Nat} {S : sS} (hN : N ≤ 7) (hV : V ≤ 24) (h : i < (bst N V K S).2.length) : RowOK N ((bst N V K S).2.getD i []) := by
  refine KL_ok ((bst_b (K := K) (S := S) hN hV).2.2 _ ?_).1
  rw [List.getD_eq_getElem?_getD, List.getElem?_eq_getElem h]
  exact List.getElem_mem h
theorem first_ok {N V K : Nat} {S : sS} (H : HH N V K S) (M : RM N V K S) (X : sX) : ∃ T, Cal X 190 [.ref 43] S = some (some (.int (bI (decide (0 < (bst N V K S).2.length)))), T) ∧ fr [56, 57, 58] [(43, 14), (43, 19), (43, 20), (43, 21), (43, 24), (43, 25), (43, 26)] S T ∧ T 43 14 = 0 ∧ QOK N V K T ∧ (0 < (bst N V K S).2.length → RH N ((bst N V K S).2.getD 0 []) T) := by
  have hN := H.1.2.1
  have hV := H.1.2.2.2.1
  obtain ⟨T, e, f, g1, g2⟩ := finds_ok H M X
  have eb : bst N V K T = bst N V K S := bst_ag (fr_ag f (by decide))
  obtain ⟨q1, q2, q3, q4, q5⟩ := id g2
  rw [eb] at q1 q2 q3
  have hb := (bst_b (N := N) (V := V) (K := K) (S := S) hN hV).1
  rw [C_X9_first, e, cV_ok, q1]
  by_cases h : 0 < (bst N V K S).2.length
  · obtain ⟨T', e', f', hR⟩ := stands_ok (c := 0) (r := (bst N V K S).2.getD 0 []) hN (by decide) (fun j hj => q3 0 h j hj) X
    have e'' : Cal X 189 [.ref 43, .int 0] T = some (none, T') := e'
    have t24 : T' 43 24 = nI (bst N V K S).2.length := by rw [fr_fld f' 43 24 (by decide) (by decide)]; exact q1
    rw [if_neg (nI_nle h (by omega)), e'', cV_ok, t24, if_neg (nI_nle h (by omega)), decide_eq_true h]
    exact ⟨T', rfl, fr_trans f (fr_mono f' (by decide) (by decide)), by rw [fr_fld f' 43 14 (by decide) (by decide)]; exact g1, QOK_ag (fr_ag f' (by decide)) g2, fun _ => hR⟩
  · have h0 : (bst N V K S).2.length = 0 := by omega
    rw [h0, if_pos (by decide), if_pos (by decide)]
    exact ⟨T, rfl, f, g1, g2, fun q => absurd q (by decide)⟩
