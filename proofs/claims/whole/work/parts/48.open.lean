/-! whose places are not the same in all -/
def cdK (r0 ri : List Nat) (k : Nat) : Nat := if ri.getD k 0 = r0.getD k 0 then 0 else 2 ^ ri.getD k 0
def mdK (r0 ri : List Nat) (k : Nat) : Nat := if ri.getD k 0 = r0.getD k 0 then 0 else 2 ^ r0.getD k 0 ||| 2 ^ ri.getD k 0
theorem cd_md {N : Nat} {r0 ri : List Nat} (h0 : RowOK N r0) (hi : RowOK N ri) : orf (cdK r0 ri) N = orf (mdK r0 ri) N := by
  apply Nat.eq_of_testBit_eq
  intro b
  rw [Bool.eq_iff_iff, orf_bit, orf_bit]
  constructor
  · rintro ⟨k, hk, h⟩
    refine ⟨k, hk, ?_⟩
    unfold cdK at h
    unfold mdK
    by_cases q : ri.getD k 0 = r0.getD k 0
    · rw [if_pos q] at h; simp at h
    · rw [if_neg q] at h
      rw [if_neg q, Nat.testBit_or, h, Bool.or_true]
  · rintro ⟨k, hk, h⟩
    unfold mdK at h
    by_cases q : ri.getD k 0 = r0.getD k 0
    · rw [if_pos q] at h; simp at h
    · rw [if_neg q, Nat.testBit_or, Bool.or_eq_true, Nat.testBit_two_pow, Nat.testBit_two_pow, decide_eq_true_eq, decide_eq_true_eq] at h
      rcases h with h | h
      · obtain ⟨j, hj, e⟩ := row_ex hi (row_at_lt h0 hk)
        refine ⟨j, hj, ?_⟩
        unfold cdK
        have hne : ¬ ri.getD j 0 = r0.getD j 0 := by
          intro e2
          have := row_inj h0 hj hk (by rw [← e2, e])
          subst this
          exact q (e2)
        rw [if_neg hne, Nat.testBit_two_pow, decide_eq_true_eq, e, h]
      · refine ⟨k, hk, ?_⟩
        unfold cdK
        rw [if_neg q, Nat.testBit_two_pow, decide_eq_true_eq, h]
theorem c_open {S : sS} (R : Rel S) (X : sX) : Two (Cal X 118 [.ref 0] S) (fun S => Cal X 198 [.ref 43] S) := by
  obtain ⟨N, V, K, S1, H, M, e, ⟨f1, H1, F, g, C1, eb⟩, M1⟩ := lack_c R X
  have hN := H.1.2.1
  have hV := H.1.2.2.2.1
  have hb := (bst_b (N := N) (V := V) (K := K) (S := S) hN hV).1
  obtain ⟨T, e2, f2, fA, Q, MT⟩ := find_m f1 H1 M1 X
  have CT : RC N V K T := RC_x (fr_mono f2 (by decide) (by decide)) C1
  obtain ⟨q1, q2, q3, -, -⟩ := Q
  rw [bst_sc fA] at q1 q2 q3
  obtain ⟨g1, g2, g3⟩ := g
  rw [eb] at g1 g2 g3
  by_cases hl : (bst N V K S).2.length = 0
  · refine two_sc (a := -9) (S1 := S1) R H ?_ ?_ fA CT MT
    · rw [C_X8_open, e, cI_ok, hl, if_neg (by decide)]
    · show Cal X 198 _ S1 = _
      rw [C_X9_open, e2, cV_ok, q1, hl, if_pos nI_0]
  obtain ⟨L, hL⟩ : ∃ L, L = (bst N V K S).2.length := ⟨_, rfl⟩
  obtain ⟨ro, hro⟩ : ∃ ro : Nat → List Nat, ro = fun i => (bst N V K S).2.getD i [] := ⟨_, rfl⟩
  have hri : ∀ i, ro i = (bst N V K S).2.getD i [] := fun i => by rw [hro]
  have rok : ∀ i, i < L → RowOK N (ro i) := fun i hi => by rw [hri]; exact bst_get hN hV (by omega)
  have t11 : T 43 11 = nI N := (HH_sc fA H).2.2.2.1
  -- the first's loops
  have ci : ∀ i acc, i + 1 < L → Run X 67 14 [some (.ref 29), some (.int (nI acc)), some (.int (nI (i + 1))), some (.int 0), none] [] S1 = Run X 67 4 [some (.ref 29), some (.int (nI (acc ||| orf (cdK (ro 0) (ro (i + 1))) N))), some (.int (nI (i + 1 + 1))), none, none] [] S1 := by
    intro i acc hi
    have h0 := rok 0 (by omega)
    have h1 := rok (i + 1) hi
    have key := loop_eq (F := fun k => Run X 67 14 [some (.ref 29), some (.int (nI (acc ||| orf (cdK (ro 0) (ro (i + 1))) k))), some (.int (nI (i + 1))), some (.int (nI k)), none] [] S1) N 0 (by
      intro k _ hk
      have a0 := row_at_lt h0 hk
      have a1 := row_at_lt h1 hk
      have es : orf (cdK (ro 0) (ro (i + 1))) (k + 1) = orf (cdK (ro 0) (ro (i + 1))) k ||| cdK (ro 0) (ro (i + 1)) k := rfl
      show Run X 67 14 _ [] S1 = Run X 67 14 _ [] S1
      rw [L_X5_openOnes_14, C_X1_members, cI_ok, H1.1.1, if_neg (nI_ge hk (by omega)), ix_nI (by omega) (by decide), g3 (i + 1) (by omega), ← hri, at_ok (row_lt8 h1 hN) (by rw [h1.1]; exact hN) (by omega), cI_ok, l0, ix_nI (by decide) (by decide), g3 0 (by omega), ← hri, at_ok (row_lt8 h0 hN) (by rw [h0.1]; exact hN) (by omega), cI_ok, nI_1, es]
      unfold cdK
      by_cases q : (ro (i + 1)).getD k 0 = (ro 0).getD k 0
      · rw [if_pos (by rw [q]), if_pos q, Nat.or_zero]
      · rw [if_neg (by rw [nI_eq (by omega) (by omega)]; exact q), if_neg q, l1, oShl_1 (by omega), or_nI, Nat.or_assoc]) (Nat.zero_le _)
    have key' : Run X 67 14 [some (.ref 29), some (.int (nI acc)), some (.int (nI (i + 1))), some (.int 0), none] [] S1 = Run X 67 14 [some (.ref 29), some (.int (nI (acc ||| orf (cdK (ro 0) (ro (i + 1))) N))), some (.int (nI (i + 1))), some (.int (nI N)), none] [] S1 := by
      have e0 : acc ||| orf (cdK (ro 0) (ro (i + 1))) 0 = acc := Nat.or_zero acc
      simp only [e0] at key
      exact key
    rw [key', L_X5_openOnes_14, C_X1_members, cI_ok, H1.1.1, if_pos (nI_le (Nat.le_refl _) (by omega)), nI_1]
  have mi : ∀ i acc, i + 1 < L → Run X 198 28 [some (.ref 43), some (.int (nI acc)), some (.int (nI (i + 1))), some (.int 0)] [] T = Run X 198 18 [some (.ref 43), some (.int (nI (acc ||| orf (mdK (ro 0) (ro (i + 1))) N))), some (.int (nI (i + 1 + 1))), none] [] T := by
    intro i acc hi
    have h0 := rok 0 (by omega)
    have h1 := rok (i + 1) hi
    have key := loop_eq (F := fun k => Run X 198 28 [some (.ref 43), some (.int (nI (acc ||| orf (mdK (ro 0) (ro (i + 1))) k))), some (.int (nI (i + 1))), some (.int (nI k))] [] T) N 0 (by
      intro k _ hk
      have a0 := row_at_lt h0 hk
      have a1 := row_at_lt h1 hk
      have es : orf (mdK (ro 0) (ro (i + 1))) (k + 1) = orf (mdK (ro 0) (ro (i + 1))) k ||| mdK (ro 0) (ro (i + 1)) k := rfl
      have c1 := q3 (i + 1) (by omega) k hk
      have c0 := q3 0 (by omega) k hk
      rw [Nat.mul_zero, Nat.zero_add] at c0
      show Run X 198 28 _ [] T = Run X 198 28 _ [] T
      rw [L_X9_open_28, t11, if_neg (nI_ge hk (by omega)), l7, pk_mul, nI_add]
      simp only [ix_nI (show 7 * (i + 1) + k < 35280 by omega) (show 35280 < 2 ^ 31 by decide), ix_nI (show k < 35280 by omega) (show 35280 < 2 ^ 31 by decide)]
      rw [c1, c0, ← hri, ← hri, nI_1, es]
      unfold mdK
      by_cases q : (ro (i + 1)).getD k 0 = (ro 0).getD k 0
      · rw [if_pos (by rw [q]), if_pos q, Nat.or_zero]
      · rw [if_neg (by rw [nI_eq (by omega) (by omega)]; exact q), if_neg q, l1, oShl_1 (by omega), oShl_1 (by omega), or_nI, or_nI, Nat.or_assoc]) (Nat.zero_le _)
    have key' : Run X 198 28 [some (.ref 43), some (.int (nI acc)), some (.int (nI (i + 1))), some (.int 0)] [] T = Run X 198 28 [some (.ref 43), some (.int (nI (acc ||| orf (mdK (ro 0) (ro (i + 1))) N))), some (.int (nI (i + 1))), some (.int (nI N))] [] T := by
      have e0 : acc ||| orf (mdK (ro 0) (ro (i + 1))) 0 = acc := Nat.or_zero acc
      simp only [e0] at key
      exact key
    rw [key', L_X9_open_28, t11, if_pos (nI_le (Nat.le_refl _) (by omega)), nI_1]
  have ec : ∀ i, i + 1 < L → orf (cdK (ro 0) (ro (i + 1))) N = orf (mdK (ro 0) (ro (i + 1))) N := fun i hi => cd_md (rok 0 (by omega)) (rok (i + 1) hi)
  obtain ⟨A, hA⟩ : ∃ A : Nat → Nat, A = fun i => orf (mdK (ro 0) (ro (i + 1))) N := ⟨_, rfl⟩
  have hAi : ∀ i, A i = orf (mdK (ro 0) (ro (i + 1))) N := fun i => by rw [hA]
  have s14 : S1 29 14 = nI L := by rw [hL]; exact g1
  have t24 : T 43 24 = nI L := by rw [hL]; exact q1
  have kc := loop_eq (F := fun i => Run X 67 4 [some (.ref 29), some (.int (nI (orf A i))), some (.int (nI (i + 1))), none, none] [] S1) (L - 1) 0 (by
    intro i _ hi
    show Run X 67 4 _ [] S1 = Run X 67 4 _ [] S1
    rw [L_X5_openOnes_4, s14, if_neg (nI_ge (by omega) (by omega)), ci i _ (by omega), ec i (by omega), ← hAi]
    rfl) (Nat.zero_le _)
  have km := loop_eq (F := fun i => Run X 198 18 [some (.ref 43), some (.int (nI (orf A i))), some (.int (nI (i + 1))), none] [] T) (L - 1) 0 (by
    intro i _ hi
    show Run X 198 18 _ [] T = Run X 198 18 _ [] T
    rw [L_X9_open_18, t24, if_neg (nI_ge (by omega) (by omega)), mi i _ (by omega), ← hAi]
    rfl) (Nat.zero_le _)
  refine two_sc (a := nI (orf A (L - 1))) (S1 := S1) (S2 := T) R H ?_ ?_ fA CT MT
  · rw [C_X8_open, e, cI_ok, decide_eq_false hl, if_pos (show bI false = 0 from rfl), C_X5_openOnes]
    have kc' : Run X 67 4 [some (.ref 29), some (.int 0), some (.int 1), none, none] [] S1 = some (some (.int (nI (orf A (L - 1)))), S1) := by
      refine Eq.trans kc ?_
      rw [L_X5_openOnes_4, s14, if_pos (nI_le (by omega) (by omega))]
    rw [kc', cI_ok]
  · show Cal X 198 _ S1 = _
    rw [C_X9_open, e2, cV_ok, t24, if_neg (nI_ne0 (by omega) (by omega))]
    refine Eq.trans km ?_
    rw [L_X9_open_18, t24, if_pos (nI_le (by omega) (by omega))]
/-! the same turned about -/
theorem gd_rev {r : List Nat} {j : Nat} (h : j < r.length) : r.reverse.getD j 0 = r.getD (r.length - 1 - j) 0 := by
  rw [List.getD_eq_getElem?_getD, List.getElem?_reverse h, ← List.getD_eq_getElem?_getD]
theorem rev_ok {N : Nat} {r : List Nat} (h : RowOK N r) : RowOK N r.reverse := ⟨by rw [List.length_reverse]; exact h.1, List.pairwise_reverse.mpr (h.2.1.imp fun q => Ne.symm q), fun a ha => h.2.2 a (List.mem_reverse.mp ha)⟩
theorem pre_rev {N : Nat} {r : List Nat} (h : RowOK N r) {c : Nat} (hc : c ≤ N) (i : Nat) : (pre r.reverse c).testBit i = (decide (i < N) && !(pre r (N - c)).testBit i) := by
  rw [Bool.eq_iff_iff, pre_bit, Bool.and_eq_true, decide_eq_true_eq, Bool.not_eq_true', ← Bool.not_eq_true, pre_bit]
  have hl := h.1
  constructor
  · rintro ⟨j, hj, e⟩
    rw [gd_rev (by omega), hl] at e
    have hlt := row_at_lt h (i := N - 1 - j) (by omega)
    refine ⟨by omega, ?_⟩
    rintro ⟨k, hk, e2⟩
    have := row_inj h (i := N - 1 - j) (j := k) (by omega) (by omega) (by rw [e, e2])
    omega
  · rintro ⟨hi, hno⟩
    obtain ⟨k, hk, e⟩ := row_ex h hi
    have : N - c ≤ k := Nat.le_of_not_lt fun q => hno ⟨k, q, e⟩
    refine ⟨N - 1 - k, by omega, ?_⟩
    rw [gd_rev (by omega), hl, show N - 1 - (N - 1 - k) = k by omega]
    exact e
theorem lst_com {N y n s s' : Nat} (hN : N ≤ 7) (hy : y < 2 ^ N) (hn : n < 2 ^ N) (hd : y &&& n = 0) (hs : ∀ i, s'.testBit i = (decide (i < N) && !s.testBit i)) : lst y n s' = lst y n s := by
  have hv := vt_split hd
  have a1 := pc_andn y s
  have a2 := pc_andn n s
  have b1 := pc_andn y s'
  have b2 := pc_andn n s'
  have e : ∀ z, z < 2 ^ N → pc 7 (z &&& s') = pc 7 (andn z s) := by
    intro z hz
    congr 1
    apply Nat.eq_of_testBit_eq
    intro i
    rw [Nat.testBit_and, andn_bit, hs]
    by_cases q : i < N
    · rw [decide_eq_true q, Bool.true_and]
    · have : z.testBit i = false := by
        cases hb : z.testBit i with
        | false => rfl
        | true => exact absurd (lt_pow_iff.mp hz i hb) q
      rw [this]
      rfl
  have e1 := e y hy
  have e2 := e n hn
  unfold lst wl
  rw [Nat.and_comm s' n, Nat.and_comm s n]
  omega
theorem ctm_iff (y n : Nat) (r : List Nat) (x : Nat) : ∀ k, x ≤ ctm y n r k ↔ x ≤ 3 ∧ ∀ c, c < k → x ≤ lst y n (pre r c) := by
  intro k
  induction k with
  | zero => exact ⟨fun h => ⟨h, fun c hc => absurd hc (Nat.not_lt_zero c)⟩, fun h => h.1⟩
  | succ k ih =>
    show x ≤ min (ctm y n r k) (lst y n (pre r k)) ↔ _
    rw [Nat.le_min, ih]
    constructor
    · rintro ⟨⟨h1, h2⟩, h3⟩
      refine ⟨h1, fun c hc => ?_⟩
      by_cases q : c = k
      · subst q; exact h3
      · exact h2 c (by omega)
    · rintro ⟨h1, h2⟩
      exact ⟨⟨h1, fun c hc => h2 c (by omega)⟩, h2 k (by omega)⟩
theorem ctw_rev {N y n : Nat} {r : List Nat} (h : RowOK N r) (hN : N ≤ 7) (hy : y < 2 ^ N) (hn : n < 2 ^ N) (hd : y &&& n = 0) : ctw y n r.reverse = ctw y n r := by
  have key : ∀ x, x ≤ ctw y n r.reverse ↔ x ≤ ctw y n r := by
    intro x
    unfold ctw
    rw [List.length_reverse, h.1, ctm_iff, ctm_iff]
    have e : ∀ c, c ≤ N → lst y n (pre r.reverse c) = lst y n (pre r (N - c)) := fun c hc => lst_com hN hy hn hd (pre_rev h hc)
    constructor
    · rintro ⟨h1, h2⟩
      refine ⟨h1, fun c hc => ?_⟩
      have := h2 (N - c) (by omega)
      rwa [e (N - c) (by omega), show N - (N - c) = c by omega] at this
    · rintro ⟨h1, h2⟩
      refine ⟨h1, fun c hc => ?_⟩
      rw [e c (by omega)]
      exact h2 (N - c) (by omega)
  exact Nat.le_antisymm ((key _).mp (Nat.le_refl _)) ((key _).mpr (Nat.le_refl _))
theorem KL_rev {N : Nat} {r : List Nat} (h : RowOK N r) : r ∈ KL N ∨ r.reverse ∈ KL N := by
  by_cases hk : isK N r = true
  · exact Or.inl (List.mem_filter.mpr ⟨allR_mem h, hk⟩)
  · right
    refine List.mem_filter.mpr ⟨allR_mem (rev_ok h), ?_⟩
    have hk' : ¬ (N < 2 ∨ r.getD 0 0 < r.getD (N - 1) 0) := fun q => hk (isK_iff.mpr q)
    rw [isK_iff]
    right
    have hl := h.1
    rw [gd_rev (by omega), gd_rev (by omega), hl, Nat.sub_zero, show N - 1 - (N - 1) = 0 by omega]
    have hne : r.getD 0 0 ≠ r.getD (N - 1) 0 := fun e => by
      have := row_inj h (i := 0) (j := N - 1) (by omega) (by omega) e
      omega
    omega
/-! SECOND -/
def swF (S : sS) (set : Nat) (r : List Nat) (v : Nat) : Nat := bif set.testBit v then ctw (nv (S 8 v)) (nv (S 9 v)) r else 0
def sw (S : sS) (V set : Nat) (r : List Nat) : Nat := sm (swF S set r) V
theorem swF_le (S : sS) (set : Nat) (r : List Nat) (v : Nat) : swF S set r v ≤ 3 := by
  unfold swF
  cases set.testBit v
  · exact Nat.zero_le _
  · exact ctw_le _ _ _
theorem sw_le {V : Nat} (hV : V ≤ 24) (S : sS) (set : Nat) (r : List Nat) : sw S V set r ≤ 72 := by
  have := sm_le (f := swF S set r) (n := V) (b := 3) (fun i _ => swF_le S set r i)
  unfold sw
  omega
theorem sw_mask {V : Nat} (S : sS) (set : Nat) (r : List Nat) {t : Nat} (ht : 1 ≤ t) : mkW S V r t &&& set = mk (fun v => decide (t ≤ swF S set r v)) V := by
  apply Nat.eq_of_testBit_eq
  intro i
  unfold mkW swF
  rw [Nat.testBit_and, mk_bit, mk_bit]
  cases hb : set.testBit i with
  | true => simp [hb]
  | false =>
    have : ¬ t ≤ 0 := by omega
    simp [hb, this]
theorem sw_pc {V : Nat} (hV : V ≤ 24) (S : sS) (set : Nat) (r : List Nat) : pc 24 (mkW S V r 1 &&& set) + pc 24 (mkW S V r 2 &&& set) + pc 24 (mkW S V r 3 &&& set) = sw S V set r := by
  rw [sw_mask S set r (by decide), sw_mask S set r (by decide), sw_mask S set r (by decide), pc_mk hV, pc_mk hV, pc_mk hV]
  exact sm3 (f := swF S set r) (fun i _ => swF_le S set r i)
theorem sw_rev {N V : Nat} {S : sS} {set : Nat} {r : List Nat} (H : HD N V S) (h : RowOK N r) : sw S V set r.reverse = sw S V set r := by
  unfold sw
  refine sm_congr fun v hv => ?_
  obtain ⟨g1, g2, g3⟩ := H.2.2.2.2 v hv
  unfold swF
  rw [ctw_rev h H.2.1 g1 g2 g3]
def mnC (S : sS) (N V set : Nat) : Nat → Nat
  | 0 => 1000000
  | k + 1 => min (mnC S N V set k) (sw S V set ((KL N).getD k []))
theorem mnC_p (S : sS) (N V set : Nat) : ∀ k, k ≤ (KL N).length → mnC S N V set k ≤ 1000000 ∧ (∀ i, i < k → mnC S N V set k ≤ sw S V set ((KL N).getD i [])) ∧ (mnC S N V set k = 1000000 ∨ ∃ i, i < k ∧ mnC S N V set k = sw S V set ((KL N).getD i [])) := by
  intro k
  induction k with
  | zero => intro _; exact ⟨Nat.le_refl _, fun i hi => absurd hi (Nat.not_lt_zero i), Or.inl rfl⟩
  | succ k ih =>
    intro hk
    obtain ⟨h1, h2, h3⟩ := ih (by omega)
    have es : mnC S N V set (k + 1) = min (mnC S N V set k) (sw S V set ((KL N).getD k [])) := rfl
    rw [es]
    refine ⟨by omega, fun i hi => ?_, ?_⟩
    · by_cases q : i = k
      · subst q; exact Nat.min_le_right _ _
      · exact Nat.le_trans (Nat.min_le_left _ _) (h2 i (by omega))
    · by_cases q : sw S V set ((KL N).getD k []) ≤ mnC S N V set k
      · exact Or.inr ⟨k, by omega, Nat.min_eq_right q⟩
      · rw [Nat.min_eq_left (by omega)]
        rcases h3 with h3 | ⟨i, hi, h3⟩
        · exact Or.inl h3
        · exact Or.inr ⟨i, by omega, h3⟩
theorem leastOf_c {N V set : Nat} {S0 S : sS} (hV : V ≤ 24) (hN : N ≤ 7) (F : FJ N V S) (e8 : mkW S = mkW S0) (X : sX) : Cal X 68 [.ref 29, .int (nI set)] S = some (some (.int (nI (mnC S0 N V set (KL N).length))), S) := by
  obtain ⟨k1, k2, k3, k4, k5, k6⟩ := F
  have hlen := KL_len N (by omega)
  rw [C_X5_leastWrongOf]
  have key := loop_eq (F := fun k => Run X 68 5 [some (.ref 29), some (.int (nI set)), some (.int (nI (mnC S0 N V set k))), some (.int (nI k)), none] [] S) (KL N).length 0 (by
    intro k _ hk
    obtain ⟨j1, j2, j3⟩ := k6 k hk
    have h1 := (mnC_p S0 N V set k (by omega)).1
    have h2 := sw_le hV S0 set ((KL N).getD k [])
    have m1 : ∀ t, mkW S0 V ((KL N).getD k []) t &&& set < 2 ^ 24 := fun t => Nat.lt_of_le_of_lt Nat.and_le_left (mkW_lt hV _ _ _)
    show Run X 68 5 _ [] S = Run X 68 5 _ [] S
    rw [L_X5_leastWrongOf_5, k4.1, if_neg (nI_ge hk (by omega)), ix_nI (by omega) (by decide), j1, e8, and_nI, swar (m1 1), cI_ok, ix_nI (by omega) (by decide), j2, e8, and_nI, swar (m1 2), cI_ok, ix_nI (by omega) (by decide), j3, e8, and_nI, swar (m1 3), cI_ok, nI_add, nI_add, sw_pc hV, minI_nI (by omega) (by omega), nI_1]
    rfl) (Nat.zero_le _)
  refine Eq.trans key ?_
  rw [L_X5_leastWrongOf_5, k4.1, if_pos (nI_le (Nat.le_refl _) (by omega))]
/-- the sum of one row, by the other -/
theorem sec_row {N V K set : Nat} {S T : sS} {r : List Nat} (H : HH N V K S) (hr : RowOK N r) (f : fr Ls Fs S T) (hR : RH N r T) (hs : set < 2 ^ 24) (q : Int32) (X : sX) : ∃ T', Run X 212 54 [some (.ref 43), none, none, some (.int (nI set)), some (.int q), none, some (.int 0), some (.int 0)] [] T = Run X 212 54 [some (.ref 43), none, none, some (.int (nI set)), some (.int q), none, some (.int (nI (sw S V set r))), some (.int (nI V))] [] T' ∧ fr [] [(43, 19), (43, 20), (43, 21)] T T' := by
  obtain ⟨HDT, k1, k2, m1, m2, m3, k3, k4, k5⟩ := HH_sc f H
  have hN := HDT.2.1
  have hV := HDT.2.2.2.1
  obtain ⟨T', f', e⟩ := loop_P (F := fun k U => Run X 212 54 [some (.ref 43), none, none, some (.int (nI set)), some (.int q), none, some (.int (nI (sw S k set r))), some (.int (nI k))] [] U) (P := fun _ U => fr [] [(43, 19), (43, 20), (43, 21)] T U) V (by
    intro k hk U f2
    obtain ⟨y, n, -, -, hy, hn, hd, e8, e9, e8', e9'⟩ := vote_y HDT hk
    obtain ⟨g1, g2, -⟩ := k4 k hk
    have u56 : RH N r U := fun j hj => by rw [fr_cell f2 56 (by decide) (by decide)]; exact hR j hj
    have es : sw S (k + 1) set r = sw S k set r + swF S set r k := rfl
    have ec : ctw (nv (S 8 k)) (nv (S 9 k)) r = ctw y n r := by rw [← fr_cell f 8 (by decide) (by decide), ← fr_cell f 9 (by decide) (by decide), e8', e9']
    rw [L_X9_second_54, fr_fld f2 43 12 (by decide) (by decide), m2, if_neg (nI_ge hk (by omega)), sbit (by omega) (by omega), nI_1]
    cases hb : set.testBit k with
    | true =>
      obtain ⟨U', e, f', -⟩ := wrongOf_ok hr hN hy hn hd X U (by rw [fr_fld f2 43 11 (by decide) (by decide)]; exact m1) u56
      refine ⟨U', fr_trans f2 f', ?_⟩
      have ef : swF S set r k = ctw y n r := by unfold swF; rw [hb]; exact ec
      rw [if_pos (show bI true = 1 from rfl), ix_nI (by omega) (by decide), ix_nI (by omega) (by decide), fr_cell f2 49 (by decide) (by decide), fr_cell f2 50 (by decide) (by decide), g1, g2, e8, e9, e, cI_ok, nI_add]
      show _ = Run X 212 54 [some (.ref 43), none, none, some (.int (nI set)), some (.int q), none, some (.int (nI (sw S (k + 1) set r))), some (.int (nI (k + 1)))] [] U'
      rw [es, ef]
    | false =>
      refine ⟨U, f2, ?_⟩
      have ef : swF S set r k = 0 := by unfold swF; rw [hb]; rfl
      rw [if_neg (show ¬ bI false = 1 by decide)]
      show _ = Run X 212 54 [some (.ref 43), none, none, some (.int (nI set)), some (.int q), none, some (.int (nI (sw S (k + 1) set r))), some (.int (nI (k + 1)))] [] U
      rw [es, ef, l0, nI_add]) 0 (Nat.zero_le _) T fr_rfl
  exact ⟨T', e, f'⟩
theorem sec_loop {N V K set : Nat} {S : sS} (H : HH N V K S) (hs : set < 2 ^ 24) (X : sX) : ∀ (l pr : List (List Nat)) (r : List Nat) (T : sS) (q : Int32), allR N = pr ++ r :: l → chk N (r :: l) = true → fr Ls Fs S T → RH N r T → ((pr = [] ∧ q = -1) ∨ ∃ m, q = nI m ∧ (∃ x ∈ pr, sw S V set x = m) ∧ ∀ x ∈ pr, m ≤ sw S V set x) → ∃ T' m, Run X 212 43 [some (.ref 43), none, none, some (.int (nI set)), some (.int q), some (.int 1), none, none] [] T = some (some (.int (nI m)), T') ∧ fr [56] [(43, 19), (43, 20), (43, 21)] T T' ∧ (∃ x ∈ allR N, sw S V set x = m) ∧ ∀ x ∈ allR N, m ≤ sw S V set x := by
  have hN := H.1.2.1
  have hV := H.1.2.2.2.1
  have step : ∀ (l pr : List (List Nat)) (r : List Nat) (T : sS) (q : Int32), allR N = pr ++ r :: l → fr Ls Fs S T → RH N r T → ((pr = [] ∧ q = -1) ∨ ∃ m, q = nI m ∧ (∃ x ∈ pr, sw S V set x = m) ∧ ∀ x ∈ pr, m ≤ sw S V set x) → ∃ T1 m, Run X 212 43 [some (.ref 43), none, none, some (.int (nI set)), some (.int q), some (.int 1), none, none] [] T = (cI (Cal X 184 [.ref 43] T1) fun r2 S1 => Run X 212 43 [some (.ref 43), none, none, some (.int (nI set)), some (.int (nI m)), some (.int r2), none, none] [] S1) ∧ fr [] [(43, 19), (43, 20), (43, 21)] T T1 ∧ (∃ x ∈ pr ++ [r], sw S V set x = m) ∧ ∀ x ∈ pr ++ [r], m ≤ sw S V set x := by
    intro l pr r T q ha f hR hq
    have hr : RowOK N r := allR_ok (by rw [ha]; exact List.mem_append_right _ List.mem_cons_self)
    obtain ⟨T1, e, f1⟩ := sec_row H hr f hR hs q X
    have t12 : T1 43 12 = nI V := by
      rw [fr_fld f1 43 12 (by decide) (by decide), fr_fld f 43 12 (by decide) (by decide)]
      exact H.2.2.2.2.1
    have h72 := sw_le hV S set r
    have new : (∃ x ∈ pr ++ [r], sw S V set x = sw S V set r) := ⟨r, List.mem_append_right _ (List.mem_singleton.mpr rfl), rfl⟩
    rcases hq with ⟨rfl, rfl⟩ | ⟨m, rfl, ⟨x, hx, hm⟩, hall⟩
    · refine ⟨T1, sw S V set r, ?_, f1, new, ?_⟩
      · rw [L_X9_second_43, if_neg (by decide), e, L_X9_second_54, t12, if_pos (nI_le (Nat.le_refl _) (by omega)), if_pos (by decide)]
      · intro x hx
        rw [List.nil_append, List.mem_singleton] at hx
        rw [hx]
        exact Nat.le_refl _
    · have hm72 := sw_le hV S set x
      by_cases c : m ≤ sw S V set r
      · refine ⟨T1, m, ?_, f1, ⟨x, List.mem_append_left _ hx, hm⟩, ?_⟩
        · rw [L_X9_second_43, if_neg (by decide), e, L_X9_second_54, t12, if_pos (nI_le (Nat.le_refl _) (by omega)), if_neg (nI_pos (by omega)), if_pos (nI_le c (by omega))]
        · intro z hz
          rcases List.mem_append.mp hz with q | q
          · exact hall z q
          · rw [List.mem_singleton.mp q]; exact c
      · refine ⟨T1, sw S V set r, ?_, f1, new, ?_⟩
        · rw [L_X9_second_43, if_neg (by decide), e, L_X9_second_54, t12, if_pos (nI_le (Nat.le_refl _) (by omega)), if_neg (nI_pos (by omega)), if_neg (nI_ge (by omega) (by omega))]
        · intro z hz
          rcases List.mem_append.mp hz with q | q
          · have := hall z q; omega
          · rw [List.mem_singleton.mp q]; exact Nat.le_refl _
  intro l
  induction l with
  | nil =>
    intro pr r T q ha hc f hR hq
    have hr : RowOK N r := allR_ok (by rw [ha]; exact List.mem_append_right _ List.mem_cons_self)
    obtain ⟨T1, m, e, f1, g1, g2⟩ := step [] pr r T q ha f hR hq
    have hc' : (isNx N r [] && chk N []) = true := hc
    rw [Bool.and_eq_true] at hc'
    rcases isNx_c hc'.1 with ⟨_, hx⟩ | ⟨s, l', z, _⟩
    · have t11 : T1 43 11 = nI N := by
        rw [fr_fld f1 43 11 (by decide) (by decide), fr_fld f 43 11 (by decide) (by decide)]
        exact H.2.2.2.1
      have hR1 : RH N r T1 := fun j hj => by rw [fr_cell f1 56 (by decide) (by decide)]; exact hR j hj
      refine ⟨T1, m, ?_, fr_mono f1 (by decide) (by decide), by rw [ha]; exact g1, by rw [ha]; exact g2⟩
      rw [e, next_none hr hN t11 hR1 hx, cI_ok, L_X9_second_43, if_pos rfl]
    · cases z
  | cons s l ih =>
    intro pr r T q ha hc f hR hq
    have hr : RowOK N r := allR_ok (by rw [ha]; exact List.mem_append_right _ List.mem_cons_self)
    obtain ⟨T1, m, e, f1, g1, g2⟩ := step (s :: l) pr r T q ha f hR hq
    have hc' : (isNx N r (s :: l) && chk N (s :: l)) = true := hc
    rw [Bool.and_eq_true] at hc'
    rcases isNx_c hc'.1 with ⟨z, _⟩ | ⟨s', l', z, hx⟩
    · cases z
    · cases z
      have t11 : T1 43 11 = nI N := by
        rw [fr_fld f1 43 11 (by decide) (by decide), fr_fld f 43 11 (by decide) (by decide)]
        exact H.2.2.2.1
      have hR1 : RH N r T1 := fun j hj => by rw [fr_cell f1 56 (by decide) (by decide)]; exact hR j hj
      obtain ⟨T2, e2, f2, hR2⟩ := next_some hr hN t11 hR1 hx X
      have f12 : fr [56] [(43, 19), (43, 20), (43, 21)] T T2 := fr_trans (fr_mono f1 (by decide) (by decide)) (fr_mono f2 (by decide) (by decide))
      obtain ⟨T3, m3, e3, f3, g3, g4⟩ := ih (pr ++ [r]) s T2 (nI m) (by rw [ha]; simp) hc'.2 (fr_trans f (fr_mono f12 (by decide) (by decide))) hR2 (Or.inr ⟨m, rfl, g1, g2⟩)
      exact ⟨T3, m3, by rw [e, e2, cI_ok, e3], fr_trans f12 f3, g3, g4⟩
theorem all_rows {N : Nat} (hN : N ≤ 7) : ∃ l, allR N = List.range N :: l ∧ chk N (List.range N :: l) = true := by
  have hch := chk_all N (by omega)
  rw [Bool.and_eq_true] at hch
  have h1 := hch.1
  unfold chkH at h1
  cases ha : allR N with
  | nil => rw [ha] at h1; cases h1
  | cons r l =>
    rw [ha] at h1
    have hrr : r = List.range N := lEq_eq _ _ h1
    refine ⟨l, by rw [hrr], ?_⟩
    rw [← hrr, ← ha]
    exact hch.2
theorem c_second {S : sS} (R : Rel S) (X : sX) (p1 : Int32) : Two (Cal X 126 [.ref 0, .int p1] S) (fun S => Cal X 212 [.ref 43, .int p1] S) := by
  rw [C_X8_second]
  by_cases a1 : 1 ≤ p1
  case neg =>
    rw [if_neg a1, rf_4, cI_ok]
    refine two_rf R ?_
    show Cal X 212 _ (rfu S 4) = _
    rw [C_X9_second, mO_lo (Int32.not_le.mp a1), cI_ok, if_neg (by decide), no_4, cI_ok]
  rw [if_pos a1]
  by_cases a2 : p1 ≤ 3
  case neg =>
    rw [if_neg a2, rf_6, cI_ok]
    refine two_rf R ?_
    show Cal X 212 _ (rfu S 6) = _
    rw [C_X9_second, mO_hi a1 (Int32.not_le.mp a2), cI_ok, if_neg (by decide), no_6, cI_ok]
  rw [if_pos a2]
  obtain ⟨c, hc, rfl⟩ : ∃ c, (1 ≤ c ∧ c ≤ 3) ∧ p1 = nI c := by
    rcases pk_ix p1 (n := 4) (by decide) with q | q | ⟨j, hj, rfl⟩
    · exact absurd (Int32.lt_of_lt_of_le q (by decide)) (Int32.not_lt.mpr a1)
    · exact absurd (lt_nI_le (n := 3) q (by decide)) (Int32.not_lt.mpr a2)
    · refine ⟨j, ⟨?_, by omega⟩, rfl⟩
      rcases Nat.eq_zero_or_pos j with rfl | q
      · exact absurd a1 (by decide)
      · exact q
  obtain ⟨N, V, K, S1, H, M, e, CFx, M1⟩ := lack_c R X
  obtain ⟨f1, H1, F, g, C1, eb⟩ := id CFx
  have hN := H.1.2.1
  have hV := H.1.2.2.2.1
  by_cases hl : (bst N V K S).2.length = 0
  · obtain ⟨T, e2, f2, fA, Q, MT, hR⟩ := first_m f1 H1 M1 X
    rw [eb, hl] at e2
    refine two_sc (a := -9) (S1 := S1) R H ?_ ?_ fA (RC_x (fr_mono f2 (by decide) (by decide)) C1) MT
    · rw [e, cI_ok, hl, if_neg (by decide)]
    · show Cal X 212 _ S1 = _
      rw [C_X9_second, mO_ok a1 a2, cI_ok, if_pos rfl, e2, cI_ok, if_pos (by decide)]
  have hpos : 0 < (bst N V K S).2.length := by omega
  obtain ⟨S2, e3, f3⟩ := oddOnes_ok CFx hpos hc.1 hc.2 X
  have f2 : fr Ls Fs S S2 := fr_trans f1 (fr_mono f3 (by decide) (by decide))
  obtain ⟨set, hset⟩ : ∃ set, set = mkW S V ((bst N V K S).2.getD 0 []) c := ⟨_, rfl⟩
  have hs24 : set < 2 ^ 24 := by rw [hset]; exact mkW_lt hV _ _ _
  rw [← hset] at e3
  have F2 : FJ N V S2 := by
    obtain ⟨k1, k2, k3, k4, k5, k6⟩ := F
    refine ⟨?_, SOK_ag (fr_ag f3 (by decide)) k2, ?_, LOK_ag (fr_ag f3 (by decide)) k4, ?_, JOK_ag (fr_ag f3 (by decide)) k6⟩
    · rw [fr_fld f3 25 4 (by decide) (by decide)]; exact k1
    · rw [fr_fld f3 29 10 (by decide) (by decide)]; exact k3
    · rw [fr_fld f3 29 11 (by decide) (by decide)]; exact k5
  have lo := leastOf_c (set := set) (S0 := S) hV hN F2 (mkW_ag (fr_ag f2 (by decide))) X
  obtain ⟨T, e4, f4, fA, Q, MT, hR⟩ := first_m f2 (HH_sc f2 H) (RM_x (fr_mono f3 (by decide) (by decide)) M1) X
  rw [bst_sc f2] at e4 hR
  have hr : RowOK N ((bst N V K S).2.getD 0 []) := bst_get (N := N) (V := V) (K := K) (S := S) hN hV hpos
  obtain ⟨T1, e5, f5⟩ := oddOf_ok H hr fA (hR hpos) hc.2 X
  rw [← hset] at e5
  obtain ⟨T2, e6, f6, hR2⟩ := firstRow_ok hN X T1
  have fB : fr Ls Fs S T2 := fr_trans fA (fr_trans (fr_mono f5 (by decide) (by decide)) (fr_mono f6 (by decide) (by decide)))
  obtain ⟨l, ha, hch⟩ := all_rows hN
  obtain ⟨T3, m, e7, f7, ⟨x, hx, hxm⟩, hall⟩ := sec_loop H hs24 X l [] (List.range N) T2 (-1) ha hch fB hR2 (Or.inl ⟨rfl, rfl⟩)
  -- both are the least
  have em : mnC S N V set (KL N).length = m := by
    obtain ⟨h1, h2, h3⟩ := mnC_p S N V set (KL N).length (Nat.le_refl _)
    have hxr := allR_ok hx
    have hin : ∀ z, z ∈ KL N → mnC S N V set (KL N).length ≤ sw S V set z := by
      intro z hz
      obtain ⟨i, hi, ei⟩ := List.getElem_of_mem hz
      have := h2 i hi
      rwa [List.getD_eq_getElem?_getD, List.getElem?_eq_getElem hi, Option.getD_some, ei] at this
    have hle : mnC S N V set (KL N).length ≤ m := by
      rcases KL_rev hxr with q | q
      · have := hin x q; omega
      · have := hin _ q
        rw [sw_rev H.1 hxr] at this
        omega
    have h72 := sw_le hV S set x
    rcases h3 with h3 | ⟨i, hi, h3⟩
    · omega
    · have := hall _ (List.mem_filter.mp (KL_get hi)).1
      omega
  refine two_sc (S1 := S2) (S2 := T3) R H ?_ ?_ (fr_trans fB (fr_mono f7 (by decide) (by decide))) (RC_x (fr_trans (fr_mono f3 (by decide) (by decide)) (fr_trans (fr_mono f4 (by decide) (by decide)) (fr_trans (fr_mono f5 (by decide) (by decide)) (fr_trans (fr_mono f6 (by decide) (by decide)) (fr_mono f7 (by decide) (by decide)))))) C1) (RM_x (fr_trans (fr_mono f5 (by decide) (by decide)) (fr_trans (fr_mono f6 (by decide) (by decide)) (fr_mono f7 (by decide) (by decide)))) MT) (a := nI m)
  · rw [e, cI_ok, decide_eq_false hl, if_pos (show bI false = 0 from rfl), e3, cI_ok, lo, cI_ok, em]
  · show Cal X 212 _ S2 = _
    rw [C_X9_second, mO_ok a1 a2, cI_ok, if_pos rfl, e4, cI_ok, decide_eq_true hpos, if_neg (by decide), e5, cI_ok, e6, cV_ok, e7]
