theorem gd_set (r : List Nat) (i k v : Nat) (h : i < r.length) : (r.set i v).getD k 0 = if k = i then v else r.getD k 0 := by
  rw [List.getD_eq_getElem?_getD, List.getElem?_set, List.getD_eq_getElem?_getD]
  by_cases q : i = k
  · subst q
    rw [if_pos rfl, if_pos h, if_pos rfl]
    rfl
  · rw [if_neg q, if_neg (fun e => q e.symm)]
theorem swp_len (r : List Nat) (i j : Nat) : (swp r i j).length = r.length := by
  unfold swp
  rw [List.length_set, List.length_set]
theorem swp_RH {N i j : Nat} {r : List Nat} {T : sS} (hl : r.length = N) (h : RH N r T) (hi : i < N) (hj : j < N) : RH N (swp r i j) (up2 (up2 T 56 i (T 56 j)) 56 j (T 56 i)) := by
  intro k hk
  unfold swp
  rw [gd_set _ _ _ _ (by rw [List.length_set]; omega), gd_set _ _ _ _ (by omega)]
  rw [up2_at, up2_at]
  by_cases q1 : k = j
  · subst q1
    rw [upd_at, if_pos rfl, h i hi]
  · rw [upd_ne _ _ q1, if_neg q1]
    by_cases q2 : k = i
    · subst q2
      rw [upd_at, if_pos rfl, h j hj]
    · rw [upd_ne _ _ q2, if_neg q2, h k hk]
theorem m1_pred (k : Nat) : nI k + (-1) = nI k - 1 := (Int32.sub_eq_add_neg (nI k) 1).symm
theorem nx_I {N : Nat} {r : List Nat} {S : sS} (hN : N ≤ 7) (m1 : S 43 11 = nI N) (hR : RH N r S) (h8 : ∀ j, j < N → r.getD j 0 < 8) (X : sX) : ∀ k, k + 1 ≤ N → Run X 184 7 [some (.ref 43), some (.int (nI k - 1)), none, none, none, none] [] S = match scI r k with
  | none => some (some (.int 0), S)
  | some i => Run X 184 47 [some (.ref 43), some (.int (nI i)), some (.int (nI (N - 1))), none, none, none] [] S := by
  intro k
  induction k with
  | zero =>
    intro _
    rw [L_X9_nextRow_7, if_pos (by decide), if_neg (by decide)]
    rfl
  | succ k ih =>
    intro hk
    have e1 : nI N - 1 = nI (N - 1) := by rw [l1, pk_sub (by omega)]
    rw [nI_pred, L_X9_nextRow_7, if_neg (nI_pos (by omega)), ix_nI (by omega) (by decide), nI_1, ix_nI (by omega) (by decide), hR k (by omega), hR (k + 1) (by omega), m1, e1]
    have a := h8 k (by omega)
    have b := h8 (k + 1) (by omega)
    have es : scI r (k + 1) = if r.getD k 0 ≤ r.getD (k + 1) 0 then some k else scI r k := rfl
    rw [es]
    by_cases q : r.getD k 0 ≤ r.getD (k + 1) 0
    · rw [if_pos (nI_le q (by omega)), if_pos (nI_pos' (by omega)), if_pos q]
    · rw [if_neg (nI_ge (by omega) (by omega)), if_neg q, m1_pred]
      exact ih (by omega)
theorem scI_some {r : List Nat} : ∀ k i, scI r k = some i → i < k ∧ r.getD i 0 ≤ r.getD (i + 1) 0 := by
  intro k
  induction k with
  | zero => intro i h; cases h
  | succ k ih =>
    intro i h
    have es : scI r (k + 1) = if r.getD k 0 ≤ r.getD (k + 1) 0 then some k else scI r k := rfl
    rw [es] at h
    by_cases q : r.getD k 0 ≤ r.getD (k + 1) 0
    · rw [if_pos q] at h
      cases h
      exact ⟨by omega, q⟩
    · rw [if_neg q] at h
      obtain ⟨a, b⟩ := ih i h
      exact ⟨by omega, b⟩
theorem nx_J {N i : Nat} {r : List Nat} {S : sS} (hN : N ≤ 7) (m1 : S 43 11 = nI N) (hR : RH N r S) (h8 : ∀ j, j < N → r.getD j 0 < 8) (hi : i + 1 < N) (hw : r.getD i 0 ≤ r.getD (i + 1) 0) (X : sX) : ∀ k, i + 1 ≤ k → k < N → scJ r (r.getD i 0) k < N ∧ Run X 184 47 [some (.ref 43), some (.int (nI i)), some (.int (nI k)), none, none, none] [] S = Run X 184 107 [some (.ref 43), none, none, none, some (.int (nI (i + 1))), some (.int (nI (N - 1)))] [] (up2 (up2 S 56 i (S 56 (scJ r (r.getD i 0) k))) 56 (scJ r (r.getD i 0) k) (S 56 i)) := by
  have e1 : nI N - 1 = nI (N - 1) := by rw [l1, pk_sub (by omega)]
  intro k
  induction k with
  | zero => intro h; omega
  | succ k ih =>
    intro hk hkN
    have a := h8 i (by omega)
    have b := h8 (k + 1) hkN
    have es : scJ r (r.getD i 0) (k + 1) = if r.getD i 0 ≤ r.getD (k + 1) 0 then k + 1 else scJ r (r.getD i 0) k := rfl
    rw [es]
    by_cases q : r.getD i 0 ≤ r.getD (k + 1) 0
    · rw [if_pos q]
      refine ⟨hkN, ?_⟩
      rw [L_X9_nextRow_47, ix_nI (by omega) (by decide), ix_nI (by omega) (by decide), hR i (by omega), hR (k + 1) hkN, if_pos (nI_le q (by omega)), ix_nI (by omega) (by decide), ix_nI (by omega) (by decide), ix_nI (by omega) (by decide), ix_nI (by omega) (by decide), m1, e1, nI_1, hR i (by omega), hR (k + 1) hkN]
    · have hne : i ≠ k := fun e => q (by rw [← e]; exact hw)
      obtain ⟨c1, c2⟩ := ih (by omega) (by omega)
      rw [if_neg q]
      refine ⟨c1, ?_⟩
      rw [← c2, L_X9_nextRow_47, ix_nI (by omega) (by decide), ix_nI (by omega) (by decide), hR i (by omega), hR (k + 1) hkN, if_neg (nI_ge (by omega) (by omega)), pk_m1]
theorem nx_R {N : Nat} (hN : N ≤ 7) (X : sX) : ∀ f (r : List Nat) (a b : Nat) (S : sS), r.length = N → RH N r S → b < N → a ≤ N → b ≤ a + 2 * f → ∃ S', Run X 184 107 [some (.ref 43), none, none, none, some (.int (nI a)), some (.int (nI b))] [] S = some (some (.int 1), S') ∧ fr [56] [] S S' ∧ RH N (rvs f r a b) S' := by
  intro f
  induction f with
  | zero =>
    intro r a b S hl hR hb ha hf
    refine ⟨S, ?_, fr_rfl, hR⟩
    rw [L_X9_nextRow_107, if_pos (nI_le (by omega) (by omega))]
  | succ f ih =>
    intro r a b S hl hR hb ha hf
    have es : rvs (f + 1) r a b = if b ≤ a then r else rvs f (swp r a b) (a + 1) (b - 1) := rfl
    rw [es]
    by_cases q : b ≤ a
    · rw [if_pos q]
      refine ⟨S, ?_, fr_rfl, hR⟩
      rw [L_X9_nextRow_107, if_pos (nI_le (by omega) (by omega))]
    · rw [if_neg q]
      obtain ⟨S', e, f', g⟩ := ih (swp r a b) (a + 1) (b - 1) (up2 (up2 S 56 a (S 56 b)) 56 b (S 56 a)) (by rw [swp_len]; exact hl) (swp_RH hl hR (by omega) hb) (by omega) (by omega) (by omega)
      refine ⟨S', ?_, fr_trans (fr_upL (fr_upL fr_rfl (by decide)) (by decide)) f', g⟩
      have eb : nI b + (-1) = nI (b - 1) := by rw [m1_pred, l1, pk_sub (by omega)]
      rw [L_X9_nextRow_107, if_neg (nI_ge (by omega) (by omega)), ix_nI (by omega) (by decide), ix_nI (by omega) (by decide), ix_nI (by omega) (by decide), ix_nI (by omega) (by decide), nI_1, eb]
      exact e
theorem next_none {N : Nat} {r : List Nat} {S : sS} (hr : RowOK N r) (hN : N ≤ 7) (m1 : S 43 11 = nI N) (hR : RH N r S) (hx : nxt N r = none) (X : sX) : Cal X 184 [.ref 43] S = some (some (.int 0), S) := by
  have h8 : ∀ j, j < N → r.getD j 0 < 8 := fun j hj => by have := row_at_lt hr hj; omega
  rw [C_X9_nextRow, m1]
  rcases (show N = 0 ∨ N = 1 ∨ 2 ≤ N by omega) with q | q | q
  · subst q
    rw [L_X9_nextRow_7, if_pos (by decide), if_neg (by decide)]
  · subst q
    rw [L_X9_nextRow_7, if_pos (by decide), if_neg (by decide)]
  · have e2 : nI N - 2 = nI (N - 1) - 1 := by
      rw [l2, pk_sub q, l1, pk_sub (by omega)]
      congr 1
    rw [e2, nx_I hN m1 hR h8 X (N - 1) (by omega)]
    cases hs : scI r (N - 1) with
    | none => rfl
    | some i =>
      unfold nxt at hx
      rw [hs] at hx
      cases hx
theorem next_some {N : Nat} {r r' : List Nat} {S : sS} (hr : RowOK N r) (hN : N ≤ 7) (m1 : S 43 11 = nI N) (hR : RH N r S) (hx : nxt N r = some r') (X : sX) : ∃ S', Cal X 184 [.ref 43] S = some (some (.int 1), S') ∧ fr [56] [] S S' ∧ RH N r' S' := by
  have h8 : ∀ j, j < N → r.getD j 0 < 8 := fun j hj => by have := row_at_lt hr hj; omega
  unfold nxt at hx
  cases hs : scI r (N - 1) with
  | none => rw [hs] at hx; cases hx
  | some i =>
    rw [hs] at hx
    have hr' : r' = rvs 4 (swp r i (scJ r (r.getD i 0) (N - 1))) (i + 1) (N - 1) := (Option.some.inj hx).symm
    obtain ⟨a1, a2⟩ := scI_some _ _ hs
    obtain ⟨b1, b2⟩ := nx_J hN m1 hR h8 (by omega) a2 X (N - 1) (by omega) (by omega)
    obtain ⟨S', e, f, g⟩ := nx_R hN X 4 (swp r i (scJ r (r.getD i 0) (N - 1))) (i + 1) (N - 1) (up2 (up2 S 56 i (S 56 (scJ r (r.getD i 0) (N - 1)))) 56 (scJ r (r.getD i 0) (N - 1)) (S 56 i)) (by rw [swp_len]; exact hr.1) (swp_RH hr.1 hR (by omega) b1) (by omega) (by omega) (by omega)
    have e2 : nI N - 2 = nI (N - 1) - 1 := by
      rw [l2, pk_sub (by omega), l1, pk_sub (by omega)]
      congr 1
    refine ⟨S', ?_, fr_trans (fr_upL (fr_upL fr_rfl (by decide)) (by decide)) f, by rw [hr']; exact g⟩
    rw [C_X9_nextRow, m1, e2, nx_I hN m1 hR h8 X (N - 1) (by omega), hs]
    exact b2.trans e
/-! places, and whether it is as held -/
theorem placeOf_m {N i : Nat} {r : List Nat} {S : sS} (hr : RowOK N r) (hN : N ≤ 7) (m1 : S 43 11 = nI N) (hR : RH N r S) (hi : i < N) (X : sX) : Cal X 185 [.ref 43, .int (nI (r.getD i 0))] S = some (some (.int (nI i)), S) := by
  rw [C_X9_placeOf]
  have hri := row_at_lt hr hi
  have key := loop_eq (F := fun k => Run X 185 4 [some (.ref 43), some (.int (nI (r.getD i 0))), some (.int (if i < k then nI i else -1)), some (.int (nI k))] [] S) N 0 (by
    intro k _ hk
    have hrk := row_at_lt hr hk
    show Run X 185 4 _ [] S = Run X 185 4 _ [] S
    rw [L_X9_placeOf_4, m1, if_neg (nI_ge hk (by omega)), ix_nI (by omega) (by decide), hR k hk, nI_1]
    by_cases q : k = i
    · subst q
      rw [if_pos rfl, if_pos (by omega)]
    · have hne : ¬ nI (r.getD k 0) = nI (r.getD i 0) := by
        rw [nI_eq (by omega) (by omega)]
        exact fun e => q (row_inj hr hk hi e)
      rw [if_neg hne]
      by_cases q2 : i < k
      · rw [if_pos q2, if_pos (by omega)]
      · rw [if_neg q2, if_neg (by omega)]) (Nat.zero_le _)
  refine Eq.trans key ?_
  rw [L_X9_placeOf_4, m1, if_pos (nI_le (Nat.le_refl _) (by omega)), if_pos hi]
theorem sub1 {i j : Nat} (hi : i < 2 ^ 30) (hj : j < 2 ^ 30) : nI i - nI j = 1 ↔ i = j + 1 := by
  by_cases q : j ≤ i
  · rw [pk_sub q, l1, nI_eq (by omega) (by omega)]
    omega
  · have := pk_sneg (a := i) (b := j) hj (by omega)
    constructor
    · intro e
      rw [e] at this
      exact absurd this (by decide)
    · intro e; omega
theorem mHeld_ok {N V K : Nat} {S T : sS} {r : List Nat} (H : HH N V K S) (hr : RowOK N r) (f : ag [51, 52] [(43, 11), (43, 13)] S T) (hR : RH N r T) (X : sX) : Cal X 186 [.ref 43] T = some (some (.int (bI (hok N K S r))), T) := by
  obtain ⟨HD0, k1, k2, m1, m2, m3, k3, k4, k5⟩ := H
  have hN := HD0.2.1
  have t11 : T 43 11 = nI N := by rw [f.2 (43, 11) (by decide)]; exact m1
  have t13 : T 43 13 = nI K := by rw [f.2 (43, 13) (by decide)]; exact m3
  have step : ∀ k, k < K → (ho1 N (S 51 k) (S 52 k) r → Run X 186 2 [some (.ref 43), some (.int (nI k)), none, none] [] T = Run X 186 2 [some (.ref 43), some (.int (nI (k + 1))), none, none] [] T) ∧ (¬ ho1 N (S 51 k) (S 52 k) r → Run X 186 2 [some (.ref 43), some (.int (nI k)), none, none] [] T = some (some (.int 0), T)) := by
    intro k hk
    rw [L_X9_isAsHeld_2, t13, if_neg (nI_ge hk (by omega)), ix_nI (by omega) (by decide), f.1 51 (by decide), nI_1]
    rcases hd_cases (k5 k hk) with ⟨p, h1, h2, h3, h4, h5⟩ | ⟨p, q, h1, h2, h3, h4, h5, h6, h7⟩
    · obtain ⟨i, hi, ei⟩ := row_ex hr h1
      rw [h2, ← ei, placeOf_m hr hN t11 hR hi, cI_ok, ix_nI (by omega) (by decide), f.1 52 (by decide), h3, if_neg (by decide), if_neg (by decide), t11]
      have e1 : nI N - 1 = nI (N - 1) := by rw [l1, pk_sub (by omega)]
      rw [e1, l0]
      have g0 := row_at_lt hr (i := 0) (by omega)
      have g1 := row_at_lt hr (i := N - 1) (by omega)
      have gi := row_at_lt hr hi
      have iff : ho1 N (nI (r.getD i 0)) (-1) r ↔ (i = 0 ∨ i = N - 1) := by
        unfold ho1
        rw [nI_eq (a := r.getD 0 0) (by omega) (by omega), nI_eq (a := r.getD (N - 1) 0) (by omega) (by omega)]
        constructor
        · rintro (⟨_, q | q⟩ | ⟨q, _⟩)
          · exact Or.inl (row_inj hr (by omega) (by omega) q).symm
          · exact Or.inr (row_inj hr (by omega) (by omega) q).symm
          · exact absurd rfl q
        · rintro (rfl | rfl)
          · exact Or.inl ⟨rfl, Or.inl rfl⟩
          · exact Or.inl ⟨rfl, Or.inr rfl⟩
      rw [iff]
      by_cases c1 : i = 0
      · rw [if_pos (by rw [c1])]
        exact ⟨fun _ => rfl, fun h => absurd (Or.inl c1) h⟩
      · rw [if_neg (by rw [nI_eq (by omega) (by omega)]; exact c1)]
        by_cases c2 : i = N - 1
        · rw [if_pos (by rw [← c2])]
          exact ⟨fun _ => rfl, fun h => absurd (Or.inr c2) h⟩
        · rw [if_neg (by rw [nI_eq (by omega) (by omega)]; exact c2)]
          exact ⟨fun h => absurd h (fun h => h.elim c1 c2), fun _ => rfl⟩
    · obtain ⟨i, hi, ei⟩ := row_ex hr h1
      obtain ⟨j, hj, ej⟩ := row_ex hr h2
      have gi := row_at_lt hr hi
      have gj := row_at_lt hr hj
      rw [h4, ← ei, placeOf_m hr hN t11 hR hi, cI_ok, ix_nI (by omega) (by decide), f.1 52 (by decide), h5, ← ej, if_pos (nI_pos' (by omega)), ix_nI (by omega) (by decide), h5, ← ej, placeOf_m hr hN t11 hR hj, cI_ok, if_pos (nI_pos' (by omega))]
      have iff : ho1 N (nI (r.getD i 0)) (nI (r.getD j 0)) r ↔ (i = j + 1 ∨ j = i + 1) := by
        unfold ho1
        constructor
        · rintro (⟨q, _⟩ | ⟨_, t, ht, ⟨q1, q2⟩ | ⟨q1, q2⟩⟩)
          · exact absurd q (nI_nem1 (by omega))
          · have gt := row_at_lt hr (i := t) (by omega)
            have gt1 := row_at_lt hr (i := t + 1) ht
            rw [nI_eq (by omega) (by omega)] at q1 q2
            have a := row_inj hr (by omega) hi q1
            have b := row_inj hr ht hj q2
            omega
          · have gt := row_at_lt hr (i := t) (by omega)
            have gt1 := row_at_lt hr (i := t + 1) ht
            rw [nI_eq (by omega) (by omega)] at q1 q2
            have a := row_inj hr (by omega) hj q1
            have b := row_inj hr ht hi q2
            omega
        · rintro (rfl | rfl)
          · exact Or.inr ⟨nI_nem1 (by omega), j, hi, Or.inr ⟨rfl, rfl⟩⟩
          · exact Or.inr ⟨nI_nem1 (by omega), i, hj, Or.inl ⟨rfl, rfl⟩⟩
      rw [iff]
      by_cases c1 : i = j + 1
      · rw [if_pos ((sub1 (by omega) (by omega)).mpr c1)]
        exact ⟨fun _ => rfl, fun h => absurd (Or.inl c1) h⟩
      · rw [if_neg (fun z => c1 ((sub1 (by omega) (by omega)).mp z))]
        by_cases c2 : j = i + 1
        · rw [if_pos ((sub1 (by omega) (by omega)).mpr c2)]
          exact ⟨fun _ => rfl, fun h => absurd (Or.inr c2) h⟩
        · rw [if_neg (fun z => c2 ((sub1 (by omega) (by omega)).mp z))]
          exact ⟨fun h => absurd h (fun h => h.elim c1 c2), fun _ => rfl⟩
  have lp := loop_ex (F := fun k => Run X 186 2 [some (.ref 43), some (.int (nI k)), none, none] [] T) (P := fun k => ¬ ho1 N (S 51 k) (S 52 k) r) (r := some (some (.int 0), T)) (e := some (some (.int 1), T)) K (fun k hk q => (step k hk).2 q) (fun k hk q => (step k hk).1 (Classical.not_not.mp q)) (by
    show Run X 186 2 _ [] T = _
    rw [L_X9_isAsHeld_2, t13, if_pos (nI_le (Nat.le_refl _) (by omega))])
  rw [C_X9_isAsHeld]
  cases hb : hok N K S r with
  | true =>
    have := hok_iff.mp hb
    exact lp.2 fun k hk q => q (this k hk)
  | false =>
    refine lp.1 ?_
    apply Classical.byContradiction
    intro hn
    have : hok N K S r = true := hok_iff.mpr fun k hk => Classical.byContradiction fun q => hn ⟨k, hk, q⟩
    rw [hb] at this
    cases this
