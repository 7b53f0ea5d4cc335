/-- candidates of the members below m -/
def Cm (S : sS) (N V : Nat) (r : List Nat) (m x : Nat) : Prop := ∃ f p y, f < N ∧ r.getD f 0 < m ∧ p < N ∧ p ≠ f ∧ y < 100 ∧ x = ky S V r f p y
abbrev gF : List (Nat × Nat) := [(43, 19), (43, 20), (43, 21), (43, 38), (43, 39), (43, 40), (43, 41)]
theorem findMove_ok {N V K0 : Nat} {r : List Nat} {S0 T : sS} (H : HH N V K0 S0) (f : fr Ls Fs S0 T) (hr : RowOK N r) (h57 : ∀ j, j < N → T 57 j = nI (r.getD j 0)) (hR : RH N r T) (X : sX) : ∃ T' K, Run X 214 11 [some (.ref 43), some (.int 0), none, none] [] T = some (some (.int (bI (decide (100000 ≤ K)))), T') ∧ fr [56, 62, 63] gF T T' ∧ mst N T' K ∧ Mx (Cd S0 N V r) K := by
  obtain ⟨HDT, k1, k2, m1, m2, m3, k3, k4, k5⟩ := HH_sc f H
  have hN := HDT.2.1
  have hV := HDT.2.2.2.1
  have et7 : T 7 = S0 7 := fr_cell f 7 (by decide) (by decide)
  have et8 : T 8 = S0 8 := fr_cell f 8 (by decide) (by decide)
  have et9 : T 9 = S0 9 := fr_cell f 9 (by decide) (by decide)
  have wr : ∀ (U : sS) (x : List Nat), RowOK N x → fr [56, 62, 63] gF T U → RH N x U → ∀ v, v < V → ∃ U', Cal X 180 [.ref 43, .int (U 49 v), .int (U 50 v)] U = some (some (.int (nI (ctw (nv (S0 8 v)) (nv (S0 9 v)) x))), U') ∧ fr [] [(43, 19), (43, 20), (43, 21)] U U' := by
    intro U x hx fU hU v hv
    obtain ⟨y, n, -, -, hy, hn, hd, e8, e9, e8', e9'⟩ := vote_y HDT hv
    obtain ⟨q1, q2, -⟩ := k4 v hv
    obtain ⟨U', e, f', -⟩ := wrongOf_ok hx hN hy hn hd X U (by rw [fr_fld fU 43 11 (by decide) (by decide)]; exact m1) hU
    refine ⟨U', ?_, f'⟩
    rw [fr_cell fU 49 (by decide) (by decide), fr_cell fU 50 (by decide) (by decide), q1, q2, e8, e9, e, ← et8, ← et9, e8', e9']
  obtain ⟨S1, ⟨f1, g1⟩, e1⟩ := loop_P (F := fun k U => Run X 214 11 [some (.ref 43), some (.int (nI k)), none, none] [] U) (P := fun k U => fr [62] [(43, 19), (43, 20), (43, 21)] T U ∧ ∀ v, v < k → U 62 v = nI (ctw (nv (S0 8 v)) (nv (S0 9 v)) r)) V (by
    intro v hv U ⟨fU, gU⟩
    obtain ⟨U', e, f'⟩ := wr U r hr (fr_mono fU (by decide) (by decide)) (fun j hj => by rw [fr_cell fU 56 (by decide) (by decide)]; exact hR j hj) v hv
    refine ⟨up2 U' 62 v (nI (ctw (nv (S0 8 v)) (nv (S0 9 v)) r)), ⟨fr_upL (fr_trans fU (fr_mono f' (by decide) (by decide))) (by decide), ?_⟩, ?_⟩
    · intro j hj
      rw [up2_at]
      by_cases q : j = v
      · rw [q, upd_at]
      · rw [upd_ne _ _ q, fr_cell f' 62 (by decide) (by decide)]; exact gU j (by omega)
    · show Run X 214 11 _ [] U = Run X 214 11 _ [] _
      rw [L_X9_findMove_11, fr_fld fU 43 12 (by decide) (by decide), m2, if_neg (nI_ge hv (by omega)), ix_nI (by omega) (by decide), ix_nI (by omega) (by decide), e, cI_ok, ix_nI (by omega) (by decide), nI_1]) 0 (Nat.zero_le _) T ⟨fr_rfl, fun v hv => absurd hv (Nat.not_lt_zero v)⟩
  obtain ⟨S2, hS2⟩ : ∃ S2, S2 = up2 S1 43 38 0 := ⟨_, rfl⟩
  have e2 : Run X 214 11 [some (.ref 43), some (.int 0), none, none] [] T = Run X 214 54 [some (.ref 43), some (.int (nI 0)), none, none] [] S2 := by
    refine Eq.trans e1 ?_
    show Run X 214 11 _ [] S1 = _
    rw [L_X9_findMove_11, fr_fld f1 43 12 (by decide) (by decide), m2, if_pos (nI_le (Nat.le_refl _) (by omega)), hS2]
    rfl
  have f2 : fr [56, 62, 63] gF T S2 := by rw [hS2]; exact fr_upF (fr_mono f1 (by decide) (by decide)) (by decide)
  have g2 : ∀ v, v < V → S2 62 v = nI (ctw (nv (S0 8 v)) (nv (S0 9 v)) r) := by rw [hS2]; exact g1
  obtain ⟨S3, ⟨f3, K, h3, M3⟩, e3⟩ := loop_P (F := fun m U => Run X 214 54 [some (.ref 43), some (.int (nI m)), none, none] [] U) (P := fun m U => fr [56, 63] gF S2 U ∧ ∃ K, mst m U K ∧ Mx (Cm S0 N V r m) K) N (by
    intro m hm U ⟨fU, K, hK, hM⟩
    obtain ⟨fi, hfi, rfl⟩ := row_ex hr hm
    obtain ⟨U', ⟨f', K', h', M'⟩, e'⟩ := loop_P (F := fun p W => Run X 214 64 [some (.ref 43), some (.int (nI (r.getD fi 0))), some (.int (nI p)), none] [] W) (P := fun p W => fr [56, 63] gF S2 W ∧ ∃ K, mst (r.getD fi 0 + 1) W K ∧ Mx (fun x => Cm S0 N V r (r.getD fi 0) x ∨ ∃ p' y, p' < p ∧ p' ≠ fi ∧ y < 100 ∧ x = ky S0 V r fi p' y) K) N (by
      intro p hp W ⟨fW, K, hK, hM⟩
      have fTW : fr [56, 62, 63] gF T W := fr_trans f2 (fr_mono fW (by decide) (by decide))
      have w11 : W 43 11 = nI N := by rw [fr_fld fTW 43 11 (by decide) (by decide)]; exact m1
      obtain ⟨W1, s1, s2, s3⟩ := stands_ok (c := 0) (r := r) (T := W) hN (by decide) (fun j hj => by
        rw [show 7 * 0 + j = j by omega, fr_cell fTW 57 (by decide) (by decide)]
        exact h57 j hj) X
      have s1' : Cal X 189 [.ref 43, .int 0] W = some (none, W1) := s1
      have fW1 : fr [56, 63] gF S2 W1 := fr_trans fW (fr_mono s2 (by decide) (by decide))
      have w11' : W1 43 11 = nI N := by rw [fr_fld s2 43 11 (by decide) (by decide)]; exact w11
      have pl := placeOf_m hr hN w11' s3 hfi X
      by_cases q : fi = p
      · subst q
        refine ⟨W1, ⟨fW1, K, mst_ag (fr_ag s2 (by decide)) hK, Mx_iff hM fun x => ?_⟩, ?_⟩
        · constructor
          · rintro (h | ⟨p', y, h1, h2, h3⟩)
            · exact Or.inl h
            · exact Or.inr ⟨p', y, by omega, h2, h3⟩
          · rintro (h | ⟨p', y, h1, h2, h3⟩)
            · exact Or.inl h
            · exact Or.inr ⟨p', y, by omega, h2, h3⟩
        · show Run X 214 64 _ [] W = Run X 214 64 _ [] W1
          rw [L_X9_findMove_64, w11, if_neg (nI_ge hp (by omega)), s1', cV_ok, pl, cI_ok, if_pos rfl, nI_1]
      · obtain ⟨W2, a1, a2, a3⟩ := movesTo_ok hr hN hfi hp w11' (fun j hj => by
          rw [fr_cell s2 57 (by decide) (by decide), fr_cell fTW 57 (by decide) (by decide)]
          exact h57 j hj) X
        have fW2 : fr [56, 63] gF S2 W2 := fr_trans fW1 (fr_mono a2 (by decide) (by decide))
        obtain ⟨W3, ⟨b2, b3⟩, b1⟩ := loop_P (F := fun k Z => Run X 214 97 [some (.ref 43), some (.int (nI (r.getD fi 0))), some (.int (nI p)), some (.int (nI k))] [] Z) (P := fun k Z => fr [63] [(43, 19), (43, 20), (43, 21)] W2 Z ∧ ∀ v, v < k → Z 63 v = nI (ctw (nv (S0 8 v)) (nv (S0 9 v)) r) - nI (ctw (nv (S0 8 v)) (nv (S0 9 v)) (mvR r fi p))) V (by
          intro v hv Z ⟨fZ, gZ⟩
          have fSZ : fr [56, 63] gF S2 Z := fr_trans fW2 (fr_mono fZ (by decide) (by decide))
          obtain ⟨Z', c1, c2⟩ := wr Z (mvR r fi p) (mvR_ok hr hfi) (fr_trans f2 (fr_mono fSZ (by decide) (by decide))) (fun j hj => by rw [fr_cell fZ 56 (by decide) (by decide)]; exact a3 j hj) v hv
          have z62 : Z 62 v = nI (ctw (nv (S0 8 v)) (nv (S0 9 v)) r) := by rw [fr_cell fSZ 62 (by decide) (by decide)]; exact g2 v hv
          refine ⟨up2 Z' 63 v (nI (ctw (nv (S0 8 v)) (nv (S0 9 v)) r) - nI (ctw (nv (S0 8 v)) (nv (S0 9 v)) (mvR r fi p))), ⟨fr_upL (fr_trans fZ (fr_mono c2 (by decide) (by decide))) (by decide), ?_⟩, ?_⟩
          · intro j hj
            rw [up2_at]
            by_cases q : j = v
            · rw [q, upd_at]
            · rw [upd_ne _ _ q, fr_cell c2 63 (by decide) (by decide)]; exact gZ j (by omega)
          · have z12 : Z 43 12 = nI V := by rw [fr_fld fSZ 43 12 (by decide) (by decide), fr_fld f2 43 12 (by decide) (by decide)]; exact m2
            show Run X 214 97 _ [] Z = Run X 214 97 _ [] _
            rw [L_X9_findMove_97, z12, if_neg (nI_ge hv (by omega)), ix_nI (by omega) (by decide), ix_nI (by omega) (by decide), ix_nI (by omega) (by decide), c1, cI_ok, ix_nI (by omega) (by decide), z62, nI_1]) 0 (Nat.zero_le _) W2 ⟨fr_rfl, fun v hv => absurd hv (Nat.not_lt_zero v)⟩
        have fW3 : fr [56, 63] gF S2 W3 := fr_trans fW2 (fr_mono b2 (by decide) (by decide))
        have fTW3 : fr [56, 62, 63] gF T W3 := fr_trans f2 (fr_mono fW3 (by decide) (by decide))
        have w12 : W3 43 12 = nI V := by rw [fr_fld fTW3 43 12 (by decide) (by decide)]; exact m2
        obtain ⟨W4, K4, d1, d2, d3, d4⟩ := tries_ok (S0 := S0) (p := p) hN hV hr hfi hp w12 (fun v hv => by
          obtain ⟨q1, q2, yy, q3, q4, q5⟩ := k4 v hv
          rw [fr_cell fTW3 48 (by decide) (by decide), q5, ← et7, q4, nv_nI (by omega)]
          exact ⟨rfl, q3⟩) b3 (mst_ag (fr_ag b2 (by decide)) (mst_ag (fr_ag a2 (by decide)) (mst_ag (fr_ag s2 (by decide)) hK))) hM X
        refine ⟨W4, ⟨fr_trans fW3 (fr_mono d2 (by decide) (by decide)), K4, d3, Mx_iff d4 fun x => ?_⟩, ?_⟩
        · constructor
          · rintro (h | ⟨p', y, h1, h2, h3, h4⟩)
            · exact Or.inl (Or.inl h)
            · by_cases hq : p' = p
              · rw [hq] at h4; exact Or.inr ⟨y, h3, h4⟩
              · exact Or.inl (Or.inr ⟨p', y, by omega, h2, h3, h4⟩)
          · rintro ((h | ⟨p', y, h1, h2, h3, h4⟩) | ⟨y, h3, h4⟩)
            · exact Or.inl h
            · exact Or.inr ⟨p', y, by omega, h2, h3, h4⟩
            · exact Or.inr ⟨p, y, by omega, fun e => q e.symm, h3, h4⟩
        · show Run X 214 64 _ [] W = Run X 214 64 _ [] W4
          rw [L_X9_findMove_64, w11, if_neg (nI_ge hp (by omega)), s1', cV_ok, pl, cI_ok, if_neg (by rw [nI_eq (by omega) (by omega)]; exact q), a1, cV_ok]
          refine Eq.trans b1 ?_
          show Run X 214 97 _ [] W3 = _
          rw [L_X9_findMove_97, w12, if_pos (nI_le (Nat.le_refl _) (by omega)), d1, cV_ok, nI_1]) 0 (Nat.zero_le _) U ⟨fU, K, mst_up (Nat.le_succ _) hK, Mx_iff hM fun x => by
        constructor
        · rintro (h | ⟨p', y, h1, h2⟩)
          · exact h
          · omega
        · intro h; exact Or.inl h⟩
    refine ⟨U', ⟨f', K', h', Mx_iff M' fun x => ?_⟩, ?_⟩
    · constructor
      · rintro ⟨f, p, y, h1, h2, h3, h4, h5, h6⟩
        by_cases hq : f = fi
        · rw [hq] at h4 h6; exact Or.inr ⟨p, y, h3, h4, h5, h6⟩
        · have : r.getD f 0 ≠ r.getD fi 0 := fun e => hq (row_inj hr h1 hfi e)
          exact Or.inl ⟨f, p, y, h1, by omega, h3, h4, h5, h6⟩
      · rintro (⟨f, p, y, h1, h2, h3, h4, h5, h6⟩ | ⟨p, y, h3, h4, h5, h6⟩)
        · exact ⟨f, p, y, h1, by omega, h3, h4, h5, h6⟩
        · exact ⟨fi, p, y, hfi, Nat.lt_succ_self _, h3, h4, h5, h6⟩
    · have u11 : U 43 11 = nI N := by rw [fr_fld fU 43 11 (by decide) (by decide), fr_fld f2 43 11 (by decide) (by decide)]; exact m1
      have u11' : U' 43 11 = nI N := by rw [fr_fld f' 43 11 (by decide) (by decide), fr_fld f2 43 11 (by decide) (by decide)]; exact m1
      show Run X 214 54 _ [] U = Run X 214 54 _ [] U'
      rw [L_X9_findMove_54, u11, if_neg (nI_ge hm (by omega))]
      refine Eq.trans e' ?_
      show Run X 214 64 _ [] U' = _
      rw [L_X9_findMove_64, u11', if_pos (nI_le (Nat.le_refl _) (by omega)), nI_1]) 0 (Nat.zero_le _) S2 ⟨fr_rfl, 99999, ⟨0, by rw [hS2]; rfl, by decide, Or.inl ⟨rfl, rfl⟩⟩, Nat.le_refl _, fun k hk => by obtain ⟨f, p, y, h1, h2, _⟩ := hk; omega, Or.inl rfl⟩
  refine ⟨S3, K, ?_, fr_trans f2 (fr_mono f3 (by decide) (by decide)), h3, Mx_iff M3 fun x => ?_⟩
  · refine e2.trans (Eq.trans e3 ?_)
    have s11 : S3 43 11 = nI N := by rw [fr_fld f3 43 11 (by decide) (by decide), fr_fld f2 43 11 (by decide) (by decide)]; exact m1
    show Run X 214 54 _ [] S3 = _
    obtain ⟨F, h1, h2, h3⟩ := h3
    rw [L_X9_findMove_54, s11, if_pos (nI_le (Nat.le_refl _) (by omega)), h1]
    rcases h3 with ⟨w1, w2⟩ | ⟨w1, M, Y, P, -, -, -, w2, w3, w4, w5, w6⟩
    · rw [w1, w2]
      rfl
    · rw [if_neg (nI_nle w1 (by omega)), decide_eq_true (by omega)]
      rfl
  · constructor
    · rintro ⟨f, p, y, h1, h3, h4, h5, h6⟩
      exact ⟨f, p, y, h1, row_at_lt hr h1, h3, h4, h5, h6⟩
    · rintro ⟨f, p, y, h1, h2, h3, h4, h5, h6⟩
      exact ⟨f, p, y, h1, h3, h4, h5, h6⟩
