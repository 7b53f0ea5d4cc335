/-! all rows -/
theorem row_ex {N : Nat} {r : List Nat} (hr : RowOK N r) {m : Nat} (hm : m < N) : ∃ i, i < N ∧ r.getD i 0 = m := by
  have h := pre_full hr
  have : (pre r N).testBit m = true := by rw [h, Nat.testBit_two_pow_sub_one]; exact decide_eq_true hm
  exact (pre_bit r N m).mp this
theorem row_inj {N : Nat} {r : List Nat} (hr : RowOK N r) {i j : Nat} (hi : i < N) (hj : j < N) (e : r.getD i 0 = r.getD j 0) : i = j := by
  have hl := hr.1
  rw [List.getD_eq_getElem?_getD, List.getElem?_eq_getElem (by omega), List.getD_eq_getElem?_getD, List.getElem?_eq_getElem (by omega)] at e
  exact (List.getElem_inj hr.2.1).mp (show r[i] = r[j] from e)
theorem ext_ok (N : Nat) : ∀ k p, p.Nodup → (∀ a ∈ p, a < N) → ∀ r ∈ ext N k p, r.length = p.length + k ∧ r.Nodup ∧ ∀ a ∈ r, a < N := by
  intro k
  induction k with
  | zero =>
    intro p h1 h2 r hr
    rw [show ext N 0 p = [p] from rfl, List.mem_singleton] at hr
    subst hr
    exact ⟨rfl, h1, h2⟩
  | succ k ih =>
    intro p h1 h2 r hr
    rw [show ext N (k + 1) p = (List.range N).flatMap (fun m => bif p.contains m then [] else ext N k (p ++ [m])) from rfl, List.mem_flatMap] at hr
    obtain ⟨m, hm, hr⟩ := hr
    cases hc : p.contains m with
    | true => rw [hc] at hr; cases hr
    | false =>
      rw [hc] at hr
      have hnp : m ∉ p := fun hh => by
        rw [List.contains_iff_mem.mpr hh] at hc
        cases hc
      have hnd : (p ++ [m]).Nodup := by
        rw [List.nodup_append]
        refine ⟨h1, by simp, ?_⟩
        intro x hx y hy e
        rw [List.mem_singleton] at hy
        subst hy
        exact hnp (e ▸ hx)
      have hall : ∀ x ∈ p ++ [m], x < N := by
        intro x hx
        rcases List.mem_append.mp hx with q | q
        · exact h2 x q
        · rw [List.mem_singleton.mp q]; exact List.mem_range.mp hm
      obtain ⟨q1, q2, q3⟩ := ih (p ++ [m]) hnd hall r hr
      rw [List.length_append] at q1
      exact ⟨by rw [q1]; show p.length + 1 + k = _; omega, q2, q3⟩
theorem ext_mem (N : Nat) : ∀ (s p : List Nat), (p ++ s).Nodup → (∀ a ∈ p ++ s, a < N) → p ++ s ∈ ext N s.length p := by
  intro s
  induction s with
  | nil => intro p _ _; rw [List.append_nil]; exact List.mem_singleton.mpr rfl
  | cons m s ih =>
    intro p h1 h2
    rw [show ext N (m :: s).length p = (List.range N).flatMap (fun m => bif p.contains m then [] else ext N s.length (p ++ [m])) from rfl, List.mem_flatMap]
    refine ⟨m, List.mem_range.mpr (h2 m (List.mem_append_right _ List.mem_cons_self)), ?_⟩
    have hnp : p.contains m = false := by
      cases hc : p.contains m with
      | false => rfl
      | true =>
        have hm := List.contains_iff_mem.mp hc
        have := (List.nodup_append.mp h1).2.2 m hm m List.mem_cons_self
        exact absurd rfl this
    rw [hnp]
    have e : p ++ m :: s = (p ++ [m]) ++ s := by simp
    rw [e]
    exact ih (p ++ [m]) (by rw [← e]; exact h1) (by rw [← e]; exact h2)
theorem allR_ok {N : Nat} {r : List Nat} (h : r ∈ allR N) : RowOK N r := by
  obtain ⟨a, b, c⟩ := ext_ok N N [] List.nodup_nil (fun a ha => absurd ha List.not_mem_nil) r h
  exact ⟨by rw [a]; show 0 + N = N; omega, b, c⟩
theorem allR_mem {N : Nat} {r : List Nat} (h : RowOK N r) : r ∈ allR N := by
  have := ext_mem N r [] h.2.1 h.2.2
  rw [h.1] at this
  exact this
theorem KL_ok {N : Nat} {r : List Nat} (h : r ∈ KL N) : RowOK N r := allR_ok (List.mem_filter.mp h).1
theorem KL_len : ∀ N, N < 8 → (KL N).length ≤ 2520 := by decide +kernel
theorem KL_get {N i : Nat} (h : i < (KL N).length) : (KL N).getD i [] ∈ KL N := by
  rw [List.getD_eq_getElem?_getD, List.getElem?_eq_getElem h]
  exact List.getElem_mem h
/-! rows are written down, one behind another -/
def AR (S : sS) (c : Nat) (l : List (List Nat)) (S' : sS) : Prop := fr [30] [(29, 9)] S S' ∧ S' 29 9 = nI (c + l.length) ∧ ∀ j, S' 30 j = if c ≤ j ∧ j < c + l.length then nI (pk (l.getD (j - c) [])) else S 30 j
theorem AR_nil {S : sS} {c : Nat} (h : S 29 9 = nI c) : AR S c [] S := ⟨fr_rfl, h, fun j => by rw [if_neg (by show ¬ (c ≤ j ∧ j < c + 0); omega)]⟩
theorem gdl_l (a b : List (List Nat)) {j : Nat} (h : j < a.length) : (a ++ b).getD j [] = a.getD j [] := by
  rw [List.getD_eq_getElem?_getD, List.getElem?_append_left h, ← List.getD_eq_getElem?_getD]
theorem gdl_r (a b : List (List Nat)) {j : Nat} (h : a.length ≤ j) : (a ++ b).getD j [] = b.getD (j - a.length) [] := by
  rw [List.getD_eq_getElem?_getD, List.getElem?_append_right h, ← List.getD_eq_getElem?_getD]
theorem AR_app {S S' S'' : sS} {c : Nat} {l l' : List (List Nat)} (h : AR S c l S') (h' : AR S' (c + l.length) l' S'') : AR S c (l ++ l') S'' := by
  obtain ⟨a1, a2, a3⟩ := h
  obtain ⟨b1, b2, b3⟩ := h'
  refine ⟨fr_trans a1 b1, by rw [b2, List.length_append, Nat.add_assoc], fun j => ?_⟩
  rw [b3, a3, List.length_append]
  by_cases q1 : c + l.length ≤ j ∧ j < c + l.length + l'.length
  · rw [if_pos q1, if_pos (by omega), gdl_r _ _ (by omega), Nat.sub_sub]
  · rw [if_neg q1]
    by_cases q2 : c ≤ j ∧ j < c + l.length
    · rw [if_pos q2, if_pos (by omega), gdl_l _ _ (by omega)]
    · rw [if_neg q2, if_neg (by omega)]
theorem isK_iff {N : Nat} {r : List Nat} : isK N r = true ↔ N < 2 ∨ r.getD 0 0 < r.getD (N - 1) 0 := by
  unfold isK
  rw [Bool.or_eq_true, Nat.blt_eq, Nat.blt_eq]
theorem keep_ok {N c : Nat} {r : List Nat} {S : sS} (hr : RowOK N r) (hN : N ≤ 7) (h0 : S 1 0 = nI N) (h9 : S 29 9 = nI c) (hc : c + ([r].filter (isK N)).length ≤ 2520) (X : sX) : ∃ S', Cal X 86 [.ref 29, .int (nI (pk r))] S = some (none, S') ∧ AR S c ([r].filter (isK N)) S' := by
  have h8 := row_lt8 hr hN
  have one : AR S c [r] (up2 (up2 S 30 c (nI (pk r))) 29 9 (nI (c + 1))) := by
    refine ⟨fr_upF (fr_upL fr_rfl (by decide)) (by decide), rfl, fun j => ?_⟩
    rw [up2_ne _ _ _ (show 30 ≠ 29 by decide), up2_at]
    by_cases q : j = c
    · subst q
      rw [upd_at, if_pos (by show j ≤ j ∧ j < j + 1; omega), Nat.sub_self]
      rfl
    · rw [upd_ne _ _ q, if_neg (by show ¬ (c ≤ j ∧ j < c + 1); omega)]
  have yes : isK N r = true → c < 2520 ∧ AR S c ([r].filter (isK N)) (up2 (up2 S 30 c (nI (pk r))) 29 9 (nI (c + 1))) := by
    intro hk
    have e : [r].filter (isK N) = [r] := by rw [List.filter_cons, if_pos hk, List.filter_nil]
    rw [e] at hc ⊢
    exact ⟨by have : c + 1 ≤ 2520 := hc; omega, one⟩
  rw [C_X5_keep, C_X1_members, cI_ok, h0]
  by_cases h1 : N < 2
  · have hk : isK N r = true := isK_iff.mpr (Or.inl h1)
    obtain ⟨y1, y2⟩ := yes hk
    have hle : nI N - 1 ≤ 0 := by
      rcases (show N = 0 ∨ N = 1 by omega) with rfl | rfl <;> decide
    rw [if_pos hle, if_pos rfl, h9, l2520, if_neg (nI_ge y1 (by decide)), ix_nI y1 (by decide), nI_1]
    exact ⟨_, rfl, y2⟩
  · have e1 : nI N - 1 = nI (N - 1) := by rw [l1, pk_sub (by omega)]
    have hnle : ¬ nI (N - 1) ≤ 0 := nI_nle (by omega) (by omega)
    have ha := row_at_lt hr (i := 0) (by omega)
    have hb := row_at_lt hr (i := N - 1) (by omega)
    rw [e1, if_neg hnle, l0, at_ok h8 (by rw [hr.1]; exact hN) (by omega), cI_ok, at_ok h8 (by rw [hr.1]; exact hN) (by omega), cI_ok]
    by_cases hlt : r.getD 0 0 < r.getD (N - 1) 0
    · have hk : isK N r = true := isK_iff.mpr (Or.inr hlt)
      obtain ⟨y1, y2⟩ := yes hk
      rw [if_pos (nI_le (by omega) (by omega)), if_pos rfl, h9, l2520, if_neg (nI_ge y1 (by decide)), ix_nI y1 (by decide), nI_1]
      exact ⟨_, rfl, y2⟩
    · have hk : isK N r = false := by
        cases hb : isK N r with
        | false => rfl
        | true => rcases isK_iff.mp hb with q | q <;> omega
      have hne : r.getD 0 0 ≠ r.getD (N - 1) 0 := fun e => by
        have := row_inj hr (i := 0) (j := N - 1) (by omega) (by omega) e
        omega
      rw [if_neg (nI_ge (by omega) (by omega)), if_neg (by decide)]
      refine ⟨S, rfl, ?_⟩
      rw [List.filter_cons, hk, if_neg (by decide), List.filter_nil]
      exact AR_nil h9
def us (p : List Nat) : Nat := mk (fun i => p.contains i) 8
theorem us_bit (p : List Nat) {i : Nat} (h : i < 8) : (us p).testBit i = p.contains i := by
  unfold us
  rw [mk_bit, decide_eq_true h, Bool.true_and]
theorem us_app {p : List Nat} {m : Nat} (hm : m < 8) : us p ||| 2 ^ m = us (p ++ [m]) := by
  apply Nat.eq_of_testBit_eq
  intro i
  unfold us
  rw [Nat.testBit_or, mk_bit, mk_bit, Nat.testBit_two_pow, List.contains_append]
  by_cases q : m = i
  · subst q
    rw [decide_eq_true hm]
    simp
  · have q2 : ([m] : List Nat).contains i = false := by
      simp only [List.contains_cons, List.contains_nil, Bool.or_false, beq_eq_false_iff_ne]
      exact fun e => q e.symm
    rw [decide_eq_false q, q2, Bool.or_false, Bool.or_false]
def EX (X : sX) (mi d N : Nat) : Prop := ∀ (p : List Nat) (S : sS) (c : Nat), p.length = d → p.Nodup → (∀ a ∈ p, a < N) → S 1 0 = nI N → S 29 9 = nI c → c + ((ext N (N - d) p).filter (isK N)).length ≤ 2520 → ∃ S', Cal X mi [.ref 29, .int (nI d), .int (nI (us p)), .int (nI (pk p))] S = some (none, S') ∧ AR S c ((ext N (N - d) p).filter (isK N)) S'
theorem EX_top {X : sX} {mi d N : Nat} (hN : N ≤ 7) (hd : N ≤ d) (hC : ∀ (p1 p2 p3 : Int32) (S : sS), S 1 0 ≤ p1 → Cal X mi [.ref 29, .int p1, .int p2, .int p3] S = cV (Cal X 86 [.ref 29, .int p3] S) fun S3 => some (none, S3)) : EX X mi d N := by
  intro p S c hl hn hall h0 h9 hc
  have hl2 := hand_len hn hall
  have hdN : d = N := by omega
  subst hdN
  rw [Nat.sub_self] at hc ⊢
  have hr : RowOK d p := ⟨hl, hn, hall⟩
  rw [hC _ _ _ _ (by rw [h0]; exact nI_le (Nat.le_refl _) (by omega))]
  obtain ⟨S', e, h⟩ := keep_ok (c := c) hr hN h0 h9 hc X
  rw [e, cV_ok]
  exact ⟨S', rfl, h⟩
theorem EX_step {X : sX} {mi d N : Nat} (hN : N ≤ 7) (hC0 : ∀ (p1 p2 p3 : Int32) (S : sS), S 1 0 ≤ p1 → Cal X mi [.ref 29, .int p1, .int p2, .int p3] S = cV (Cal X 86 [.ref 29, .int p3] S) fun S3 => some (none, S3)) (hC1 : ∀ (p1 p2 p3 : Int32) (S : sS), ¬ S 1 0 ≤ p1 → p1 < 7 → Cal X mi [.ref 29, .int p1, .int p2, .int p3] S = Run X mi 30 [some (.ref 29), some (.int p1), some (.int p2), some (.int p3), some (.int (S 1 0)), some (.int 0)] [] S) (hL : ∀ (p1 p2 p3 p4 p5 : Int32) (S : sS), Run X mi 30 [some (.ref 29), some (.int p1), some (.int p2), some (.int p3), some (.int p4), some (.int p5)] [] S = if p4 ≤ p5 then (some (none, S)) else cI (Cal X 148 [.int p2, .int p5] S) fun r2 S1 => if r2 = 0 then (cI (Cal X 45 [.int p3, .int p1, .int p5] S1) fun r4 S3 => cV (Cal X (mi + 1) [.ref 29, .int (p1 + 1), .int (p2 ||| (oShl 1 p5)), .int r4] S3) fun S5 => Run X mi 30 [some (.ref 29), some (.int p1), some (.int p2), some (.int p3), some (.int p4), some (.int (p5 + 1))] [] S5) else Run X mi 30 [some (.ref 29), some (.int p1), some (.int p2), some (.int p3), some (.int p4), some (.int (p5 + 1))] [] S1) (hE : EX X (mi + 1) (d + 1) N) : EX X mi d N := by
  by_cases hd : N ≤ d
  · exact EX_top hN hd hC0
  intro p S c hl hn hall h0 h9 hc
  have hp8 : ∀ a ∈ p, a < 8 := fun a ha => by have := hall a ha; omega
  rw [hC1 _ _ _ _ (by rw [h0]; exact nI_ge (by omega) (by omega)) (nI_lt (show d < 7 by omega) (by decide)), h0]
  have eN : N - d = (N - (d + 1)) + 1 := by omega
  obtain ⟨G, hG⟩ : ∃ G : Nat → List (List Nat), G = fun m => (bif p.contains m then [] else ext N (N - (d + 1)) (p ++ [m])).filter (isK N) := ⟨_, rfl⟩
  have eG : ∀ m, ((List.range m).flatMap (fun m => bif p.contains m then [] else ext N (N - (d + 1)) (p ++ [m]))).filter (isK N) = (List.range m).flatMap G := by
    intro m
    rw [List.filter_flatMap, hG]
  have eT : (ext N (N - d) p).filter (isK N) = (List.range N).flatMap G := by
    rw [eN, ← eG]
    rfl
  have sG : ∀ m, (List.range (m + 1)).flatMap G = (List.range m).flatMap G ++ G m := by
    intro m
    rw [List.range_succ, List.flatMap_append]
    simp
  have mono : ∀ m, m ≤ N → ((List.range m).flatMap G).length ≤ ((List.range N).flatMap G).length := by
    intro m hm
    obtain ⟨d', rfl⟩ : ∃ d', N = m + d' := ⟨N - m, by omega⟩
    clear hm eT eG hc
    induction d' with
    | zero => exact Nat.le_refl _
    | succ d' ih =>
      have : ((List.range (m + d')).flatMap G).length ≤ ((List.range (m + (d' + 1))).flatMap G).length := by
        rw [show m + (d' + 1) = m + d' + 1 by omega, sG, List.length_append]
        omega
      have ih' : ((List.range m).flatMap G).length ≤ ((List.range (m + d')).flatMap G).length := by
        clear ih
        have key : ∀ e, ((List.range m).flatMap G).length ≤ ((List.range (m + e)).flatMap G).length := by
          intro e
          induction e with
          | zero => exact Nat.le_refl _
          | succ e ih2 =>
            rw [show m + (e + 1) = m + e + 1 by omega, sG, List.length_append]
            omega
        exact key d'
      omega
  rw [eT] at hc ⊢
  obtain ⟨S1, h1, e1⟩ := loop_P (F := fun m T => Run X mi 30 [some (.ref 29), some (.int (nI d)), some (.int (nI (us p))), some (.int (nI (pk p))), some (.int (nI N)), some (.int (nI m))] [] T) (P := fun m T => AR S c ((List.range m).flatMap G) T) N (by
    intro m hm T hT
    have t0 : T 1 0 = nI N := by rw [fr_fld hT.1 1 0 (by decide) (by decide)]; exact h0
    have hcm : c + ((List.range (m + 1)).flatMap G).length ≤ 2520 := by
      have := mono (m + 1) (by omega)
      omega
    rw [sG, List.length_append] at hcm
    show ∃ T', AR S c ((List.range (m + 1)).flatMap G) T' ∧ Run X mi 30 _ [] T = Run X mi 30 _ [] T'
    rw [hL, if_neg (nI_ge hm (by omega)), has_ok (w := us p) (Nat.lt_of_lt_of_le (mk_lt _ 8) (by decide)) (by omega), us_bit p (by omega), cI_ok, nI_1, sG]
    cases hc2 : p.contains m with
    | true =>
      rw [if_neg (show ¬ bI true = 0 by decide)]
      refine ⟨T, ?_, by rw [nI_1]⟩
      have : G m = [] := by rw [hG]; simp only [hc2, cond, List.filter_nil]
      rw [this, List.append_nil]
      exact hT
    | false =>
      have hnp : m ∉ p := fun hh => by
        rw [List.contains_iff_mem.mpr hh] at hc2
        cases hc2
      have hnd : (p ++ [m]).Nodup := by
        rw [List.nodup_append]
        refine ⟨hn, by simp, ?_⟩
        intro x hx y hy e
        rw [List.mem_singleton] at hy
        subst hy
        exact hnp (e ▸ hx)
      have hall2 : ∀ x ∈ p ++ [m], x < N := by
        intro x hx
        rcases List.mem_append.mp hx with q | q
        · exact hall x q
        · rw [List.mem_singleton.mp q]; exact hm
      have eGm : G m = (ext N (N - (d + 1)) (p ++ [m])).filter (isK N) := by rw [hG]; simp only [hc2, cond]
      rw [if_pos (show bI false = 0 from rfl), ← hl, with_ok hp8 (by omega) (Nat.le_refl _) (by omega), cI_ok, List.take_length, List.drop_length, nI_1, l1, oShl_1 (by omega), or_nI, us_app (by omega)]
      obtain ⟨T', e', h'⟩ := hE (p ++ [m]) T (c + ((List.range m).flatMap G).length) (by rw [List.length_append, hl]; rfl) hnd hall2 t0 hT.2.1 (by rw [← eGm]; omega)
      rw [hl, e', cV_ok]
      refine ⟨T', AR_app hT (by rw [eGm]; exact h'), rfl⟩) 0 (Nat.zero_le _) S (AR_nil h9)
  refine ⟨S1, Eq.trans e1 ?_, h1⟩
  show Run X mi 30 _ [] S1 = _
  rw [hL, if_pos (nI_le (Nat.le_refl _) (by omega))]
theorem EX_7 {X : sX} {N : Nat} (hN : N ≤ 7) : EX X 84 7 N := EX_top hN hN (fun p1 p2 p3 S h => by rw [C_X5_extend_7, C_X1_members, cI_ok, if_pos h])
theorem EX_6 {X : sX} {N : Nat} (hN : N ≤ 7) : EX X 83 6 N := EX_step hN (fun p1 p2 p3 S h => by rw [C_X5_extend_6, C_X1_members, cI_ok, if_pos h]) (fun p1 p2 p3 S h h7 => by rw [C_X5_extend_6, C_X1_members, cI_ok, if_neg h, if_pos h7]) (fun p1 p2 p3 p4 p5 S => L_X5_extend_6_30 X p1 p2 p3 p4 p5 S) (EX_7 hN)
theorem EX_5 {X : sX} {N : Nat} (hN : N ≤ 7) : EX X 82 5 N := EX_step hN (fun p1 p2 p3 S h => by rw [C_X5_extend_5, C_X1_members, cI_ok, if_pos h]) (fun p1 p2 p3 S h h7 => by rw [C_X5_extend_5, C_X1_members, cI_ok, if_neg h, if_pos h7]) (fun p1 p2 p3 p4 p5 S => L_X5_extend_5_30 X p1 p2 p3 p4 p5 S) (EX_6 hN)
theorem EX_4 {X : sX} {N : Nat} (hN : N ≤ 7) : EX X 81 4 N := EX_step hN (fun p1 p2 p3 S h => by rw [C_X5_extend_4, C_X1_members, cI_ok, if_pos h]) (fun p1 p2 p3 S h h7 => by rw [C_X5_extend_4, C_X1_members, cI_ok, if_neg h, if_pos h7]) (fun p1 p2 p3 p4 p5 S => L_X5_extend_4_30 X p1 p2 p3 p4 p5 S) (EX_5 hN)
theorem EX_3 {X : sX} {N : Nat} (hN : N ≤ 7) : EX X 80 3 N := EX_step hN (fun p1 p2 p3 S h => by rw [C_X5_extend_3, C_X1_members, cI_ok, if_pos h]) (fun p1 p2 p3 S h h7 => by rw [C_X5_extend_3, C_X1_members, cI_ok, if_neg h, if_pos h7]) (fun p1 p2 p3 p4 p5 S => L_X5_extend_3_30 X p1 p2 p3 p4 p5 S) (EX_4 hN)
theorem EX_2 {X : sX} {N : Nat} (hN : N ≤ 7) : EX X 79 2 N := EX_step hN (fun p1 p2 p3 S h => by rw [C_X5_extend_2, C_X1_members, cI_ok, if_pos h]) (fun p1 p2 p3 S h h7 => by rw [C_X5_extend_2, C_X1_members, cI_ok, if_neg h, if_pos h7]) (fun p1 p2 p3 p4 p5 S => L_X5_extend_2_30 X p1 p2 p3 p4 p5 S) (EX_3 hN)
theorem EX_1 {X : sX} {N : Nat} (hN : N ≤ 7) : EX X 78 1 N := EX_step hN (fun p1 p2 p3 S h => by rw [C_X5_extend_1, C_X1_members, cI_ok, if_pos h]) (fun p1 p2 p3 S h h7 => by rw [C_X5_extend_1, C_X1_members, cI_ok, if_neg h, if_pos h7]) (fun p1 p2 p3 p4 p5 S => L_X5_extend_1_30 X p1 p2 p3 p4 p5 S) (EX_2 hN)
theorem EX_0 {X : sX} {N : Nat} (hN : N ≤ 7) : EX X 77 0 N := EX_step hN (fun p1 p2 p3 S h => by rw [C_X5_extend_0, C_X1_members, cI_ok, if_pos h]) (fun p1 p2 p3 S h h7 => by rw [C_X5_extend_0, C_X1_members, cI_ok, if_neg h, if_pos h7]) (fun p1 p2 p3 p4 p5 S => L_X5_extend_0_30 X p1 p2 p3 p4 p5 S) (EX_1 hN)
theorem listAll_ok {N : Nat} {S : sS} (hN : N ≤ 7) (h0 : S 1 0 = nI N) (h10 : S 29 10 = -1 ∨ ∃ M, M ≤ 7 ∧ S 29 10 = nI M ∧ LOK M S) (X : sX) : ∃ S', Cal X 76 [.ref 29] S = some (none, S') ∧ fr [30] [(29, 9), (29, 10)] S S' ∧ S' 29 10 = nI N ∧ LOK N S' := by
  have new : ¬ S 29 10 = nI N → ∃ S', Cal X 76 [.ref 29] S = some (none, S') ∧ fr [30] [(29, 9), (29, 10)] S S' ∧ S' 29 10 = nI N ∧ LOK N S' := by
    intro hne
    obtain ⟨S1, e1, f1, g1, g2⟩ := EX_0 (X := X) hN [] (up2 S 29 9 0) 0 rfl List.nodup_nil (fun a ha => absurd ha List.not_mem_nil) h0 rfl (by rw [Nat.zero_add]; exact KL_len N (by omega))
    have e1' : Cal X 77 [.ref 29, .int 0, .int 0, .int 0] (up2 S 29 9 0) = some (none, S1) := e1
    rw [C_X5_listAll, C_X1_members, cI_ok, h0, if_neg hne, e1', cV_ok, C_X1_members, cI_ok]
    have s0 : S1 1 0 = nI N := by rw [fr_fld f1 1 0 (by decide) (by decide)]; exact h0
    rw [s0]
    refine ⟨_, rfl, fr_upF (fr_trans (fr_upF fr_rfl (by decide)) (fr_mono f1 (by decide) (by decide))) (by decide), rfl, ?_, ?_⟩
    · show S1 29 9 = _
      rw [g1, Nat.zero_add]
      rfl
    · intro i hi
      show S1 30 i = _
      rw [g2, if_pos ⟨Nat.zero_le _, by rw [Nat.zero_add]; exact hi⟩]
      rfl
  rcases h10 with h | ⟨M, hM, h, hL⟩
  · exact new (by rw [h]; exact fun q => nI_nem1 (by omega) q.symm)
  · by_cases q : M = N
    · subst q
      rw [C_X5_listAll, C_X1_members, cI_ok, h0, if_pos h]
      exact ⟨S, rfl, fr_rfl, h, hL⟩
    · exact new (by rw [h, nI_eq (by omega) (by omega)]; exact q)
