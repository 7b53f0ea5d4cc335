theorem lotB_ag {S S' : sS} (e8 : S' 8 = S 8) (e9 : S' 9 = S 9) : lotB S' = lotB S := by
  funext N r z v
  induction v with
  | zero => rfl
  | succ v ih =>
    show ((lotV S' N r v _).1, _ + (lotV S' N r v _).2) = ((lotV S N r v _).1, _ + (lotV S N r v _).2)
    rw [ih]
    unfold lotV
    rw [e8, e9]
theorem book_m {N V K : Nat} {S T : sS} {r : List Nat} (H : HH N V K S) (hr : RowOK N r) (f : fr Ls Fs S T) (hR : RH N r T) (p1 p4 p5 : Int32) (X : sX) : ∃ T', Run X 202 51 [some (.ref 43), some (.int p1), none, none, some (.int p4), some (.int p5), some (.int 0), some (.int 0), none] [] T = Run X 202 51 [some (.ref 43), some (.int p1), none, none, some (.int p4), some (.int p5), some (.int (nI (lotB S N r (T 43 29) V).2)), some (.int (nI V)), none] [] T' ∧ fr [] [(43, 19), (43, 20), (43, 21), (43, 29)] T T' ∧ T' 43 29 = (lotB S N r (T 43 29) V).1 := by
  have HT := HH_sc f H
  have hN := HT.1.2.1
  have hV := HT.1.2.2.2.1
  obtain ⟨T', ⟨f', g'⟩, e⟩ := loop_P (F := fun v U => Run X 202 51 [some (.ref 43), some (.int p1), none, none, some (.int p4), some (.int p5), some (.int (nI (lotB S N r (T 43 29) v).2)), some (.int (nI v)), none] [] U) (P := fun v U => fr [] [(43, 19), (43, 20), (43, 21), (43, 29)] T U ∧ U 43 29 = (lotB S N r (T 43 29) v).1) V (by
    intro v hv U ⟨f2, g2⟩
    have fU : fr Ls Fs S U := fr_trans f (fr_mono f2 (by decide) (by decide))
    have HU := HH_sc fU H
    obtain ⟨HDU, k1, k2, m1, m2, m3, k3, k4, k5⟩ := id HU
    obtain ⟨y, n, hy7, hn7, hy, hn, hd, e8, e9, e8', e9'⟩ := vote_y HDU hv
    obtain ⟨h1, h2, -⟩ := k4 v hv
    have dm := deal_m HU hv X
    rw [e8', e9', g2] at dm
    obtain ⟨d1, d2, d3⟩ := dl_facts (z := (lotB S N r (T 43 29) v).1) (y0 := nI (pc 7 y)) hN hy hn
    have es : lotB S N r (T 43 29) (v + 1) = ((lotV S N r v (lotB S N r (T 43 29) v).1).1, (lotB S N r (T 43 29) v).2 + (lotV S N r v (lotB S N r (T 43 29) v).1).2) := rfl
    have ev : lotV S N r v (lotB S N r (T 43 29) v).1 = ((dl (y ||| n) N (lotB S N r (T 43 29) v).1 (nI (pc 7 y)) N).1, ctw (dl (y ||| n) N (lotB S N r (T 43 29) v).1 (nI (pc 7 y)) N).2.2 (andn (y ||| n) (dl (y ||| n) N (lotB S N r (T 43 29) v).1 (nI (pc 7 y)) N).2.2) r) := by
      unfold lotV
      rw [← fr_cell fU 8 (by decide) (by decide), ← fr_cell fU 9 (by decide) (by decide), e8', e9']
    obtain ⟨U1, hU1⟩ : ∃ U1, U1 = up2 U 43 29 (dl (y ||| n) N (lotB S N r (T 43 29) v).1 (nI (pc 7 y)) N).1 := ⟨_, rfl⟩
    have fU1 : fr [] [(43, 29)] U U1 := by rw [hU1]; exact fr_upF fr_rfl (by decide)
    rw [← hU1] at dm
    have hR1 : RH N r U1 := fun j hj => by rw [fr_cell fU1 56 (by decide) (by decide), fr_cell f2 56 (by decide) (by decide)]; exact hR j hj
    obtain ⟨U2, e2, f3, -⟩ := wrongOf_ok hr hN d1 d2 d3 X U1 (by rw [fr_fld fU1 43 11 (by decide) (by decide)]; exact m1) hR1
    refine ⟨U2, ⟨fr_trans f2 (fr_trans (fr_mono fU1 (by decide) (by decide)) (fr_mono f3 (by decide) (by decide))), ?_⟩, ?_⟩
    · rw [fr_fld f3 43 29 (by decide) (by decide), hU1, es, ev]
      rfl
    · show Run X 202 51 _ [] U = Run X 202 51 _ [] U2
      rw [es, ev, L_X9_chance_51, m2, if_neg (nI_ge hv (by omega)), dm, cI_ok, ix_nI (by omega) (by decide), ix_nI (by omega) (by decide), fr_cell fU1 49 (by decide) (by decide), fr_cell fU1 50 (by decide) (by decide), h1, h2, e8, e9, or_nI, andNot_nI, e2, cI_ok, nI_add, nI_1]) 0 (Nat.zero_le _) T ⟨fr_rfl, rfl⟩
  exact ⟨T', e, f', g'⟩
theorem c_chance {S : sS} (R : Rel S) (X : sX) (p1 p2 : Int32) : Two (Cal X 120 [.ref 0, .int p1, .int p2] S) (fun S => Cal X 202 [.ref 43, .int p1, .int p2] S) := by
  rw [C_X8_chance]
  by_cases a1 : 1 ≤ p1
  case neg =>
    rw [if_neg a1, rf_4, cI_ok]
    refine two_rf R ?_
    show Cal X 202 _ (rfu S 4) = _
    rw [C_X9_chance, mO_lo (Int32.not_le.mp a1), cI_ok, if_neg (by decide), no_4, cI_ok]
  rw [if_pos a1]
  by_cases a2 : p1 ≤ 20
  case neg =>
    rw [if_neg a2, rf_6, cI_ok]
    refine two_rf R ?_
    show Cal X 202 _ (rfu S 6) = _
    rw [C_X9_chance, mO_hi a1 (Int32.not_le.mp a2), cI_ok, if_neg (by decide), no_6, cI_ok]
  rw [if_pos a2]
  obtain ⟨n, hn, rfl⟩ : ∃ n, n ≤ 20 ∧ p1 = nI n := by
    rcases pk_ix p1 (n := 21) (by decide) with q | q | ⟨j, hj, rfl⟩
    · exact absurd (Int32.lt_of_lt_of_le q (by decide)) (Int32.not_lt.mpr a1)
    · exact absurd (lt_nI_le (n := 20) q (by decide)) (Int32.not_lt.mpr a2)
    · exact ⟨j, by omega, rfl⟩
  obtain ⟨N, V, K, S1, H, M, e, CFx, M1⟩ := lack_c R X
  obtain ⟨f1, H1, F, g, C1, eb⟩ := id CFx
  have hN := H.1.2.1
  have hV := H.1.2.2.2.1
  by_cases hl : (bst N V K S).2.length = 0
  · obtain ⟨T, e2, f2, fA, Q, MT, hR⟩ := first_m f1 H1 M1 X
    rw [eb, hl] at e2
    refine two_sc (a := -9) (S1 := S1) R H ?_ ?_ fA (RC_x (fr_mono f2 (by decide) (by decide)) C1) MT
    · rw [e, cI_ok, hl, if_neg (by decide)]
    · show Cal X 202 _ S1 = _
      rw [C_X9_chance, mO_ok a1 a2, cI_ok, if_pos rfl, e2, cI_ok, if_pos (by decide)]
  have hpos : 0 < (bst N V K S).2.length := by omega
  have hne : (bst N V K S).2 ≠ [] := List.length_pos_iff.mp hpos
  have hr := bst_get (N := N) (V := V) (K := K) (S := S) hN hV hpos
  have h72 := (bst_b (N := N) (V := V) (K := K) (S := S) hN hV).2.1 hne
  have ba := bestAt_ok hN hV g (i := 0) (by rw [eb]; exact hpos) X
  rw [eb] at ba
  obtain ⟨r, hr0⟩ : ∃ r, r = (bst N V K S).2.getD 0 [] := ⟨_, rfl⟩
  obtain ⟨most, hmost⟩ : ∃ most, most = (bst N V K S).1 := ⟨_, rfl⟩
  have g2 := g.2.1
  rw [eb, ← hmost] at g2
  rw [← hr0] at ba hr
  have bc := books_c (n := n) (most := most) H1.1 hr hn (by omega) p2 X
  obtain ⟨S2, hS2⟩ : ∃ S2, S2 = up2 S1 41 1 (lotN S1 N V r most p2 n).1 := ⟨_, rfl⟩
  rw [← hS2] at bc
  have f12 : fr [] [(41, 1)] S1 S2 := by rw [hS2]; exact fr_upF fr_rfl (by decide)
  have f2 : fr Ls Fs S S2 := fr_trans f1 (fr_mono f12 (by decide) (by decide))
  obtain ⟨T, e4, f4, fA, Q, MT, hR⟩ := first_m f2 (HH_sc f2 H) (RM_x (fr_mono f12 (by decide) (by decide)) M1) X
  rw [bst_sc f2] at e4 hR
  have hR := hR hpos
  rw [← hr0] at hR
  have t25 : T 43 25 = nI most := by
    have := Q.2.1
    rw [bst_sc fA, ← hmost] at this
    exact this hne
  obtain ⟨T0, hT0⟩ : ∃ T0, T0 = up2 T 43 29 p2 := ⟨_, rfl⟩
  have fT0 : fr [] [(43, 29)] T T0 := by rw [hT0]; exact fr_upF fr_rfl (by decide)
  have fS0 : fr Ls Fs S1 T0 := fr_trans (fr_trans (fr_mono f12 (by decide) (by decide)) (fr_mono f4 (by decide) (by decide))) (fr_mono fT0 (by decide) (by decide))
  obtain ⟨T1, ⟨fT1, gT1⟩, e5⟩ := loop_P (F := fun k U => Run X 202 39 [some (.ref 43), some (.int (nI n)), none, none, some (.int (nI (lotN S1 N V r most p2 k).2)), some (.int (nI k)), none, none, none] [] U) (P := fun k U => fr [] [(43, 19), (43, 20), (43, 21), (43, 29)] T0 U ∧ U 43 29 = (lotN S1 N V r most p2 k).1) n (by
    intro k hk U ⟨fU, gU⟩
    have fSU : fr Ls Fs S1 U := fr_trans fS0 (fr_mono fU (by decide) (by decide))
    have hRU : RH N r U := fun j hj => by rw [fr_cell fU 56 (by decide) (by decide), fr_cell fT0 56 (by decide) (by decide)]; exact hR j hj
    obtain ⟨U', e6, f6, g6⟩ := book_m H1 hr fSU hRU (nI n) (nI (lotN S1 N V r most p2 k).2) (nI k) X
    rw [gU] at e6 g6
    have hle := lotB_le hV S1 N r (lotN S1 N V r most p2 k).1 V (Nat.le_refl _)
    have es : lotN S1 N V r most p2 (k + 1) = ((lotB S1 N r (lotN S1 N V r most p2 k).1 V).1, if most < (lotB S1 N r (lotN S1 N V r most p2 k).1 V).2 then (lotN S1 N V r most p2 k).2 else (lotN S1 N V r most p2 k).2 + 1) := rfl
    have fTU' : fr Ls Fs S1 U' := fr_trans fSU (fr_mono f6 (by decide) (by decide))
    have u12 : U' 43 12 = nI V := (HH_sc fTU' H1).2.2.2.2.1
    have u25 : U' 43 25 = nI most := by
      rw [fr_fld f6 43 25 (by decide) (by decide), fr_fld fU 43 25 (by decide) (by decide), fr_fld fT0 43 25 (by decide) (by decide)]
      exact t25
    refine ⟨U', ⟨fr_trans fU f6, by rw [g6, es]⟩, ?_⟩
    show Run X 202 39 _ [] U = Run X 202 39 _ [] U'
    rw [L_X9_chance_39, if_neg (nI_ge hk (by omega)), e6, L_X9_chance_51, u12, if_pos (nI_le (Nat.le_refl _) (by omega)), u25, es, nI_1, nI_1]
    by_cases c : most < (lotB S1 N r (lotN S1 N V r most p2 k).1 V).2
    · rw [if_pos (nI_lt c (by omega)), if_pos c, l0, nI_add, Nat.add_zero]
    · rw [if_neg (nI_nlt (by omega) (by omega)), if_neg c]) 0 (Nat.zero_le _) T0 ⟨fr_rfl, by rw [hT0]; rfl⟩
  have fT : fr [] [(43, 19), (43, 20), (43, 21), (43, 29)] T T1 := fr_trans (fr_mono fT0 (by decide) (by decide)) fT1
  refine two_sc (S1 := S2) (S2 := T1) R H ?_ ?_ (fr_trans fA (fr_mono fT (by decide) (by decide))) (RC_x (fr_trans (fr_mono f12 (by decide) (by decide)) (fr_trans (fr_mono f4 (by decide) (by decide)) (fr_mono fT (by decide) (by decide)))) C1) (RM_x (fr_mono fT (by decide) (by decide)) MT) (a := nI (lotN S1 N V r most p2 n).2)
  · rw [e, cI_ok, decide_eq_false hl, if_pos (show bI false = 0 from rfl), show (0 : Int32) = nI 0 from rfl, ba, cI_ok, C_X5_leastWrong, cI_ok, g2, bc, cI_ok]
  · show Cal X 202 _ S2 = _
    rw [C_X9_chance, mO_ok a1 a2, cI_ok, if_pos rfl, e4, cI_ok, decide_eq_true hpos, if_neg (by decide), ← hT0]
    refine Eq.trans e5 ?_
    show Run X 202 39 _ [] T1 = _
    rw [L_X9_chance_39, if_pos (nI_le (Nat.le_refl _) (by omega))]
