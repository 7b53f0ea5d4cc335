/-! the other's moves -/
theorem subE {A B F : Nat} (hA : A < 2 ^ 30) (hB : B < 2 ^ 30) (hF : F < 2 ^ 30) : nI A - nI B = nI F ↔ A = B + F := by
  by_cases q : B ≤ A
  · rw [pk_sub q, nI_eq (by omega) (by omega)]
    omega
  · have h := pk_sneg (a := A) (b := B) hB (by omega)
    constructor
    · intro e
      rw [e] at h
      exact absurd h (nI_pos (by omega))
    · intro e; omega
theorem subL {A B F : Nat} (hA : A < 2 ^ 30) (hB : B < 2 ^ 30) (hF : F < 2 ^ 30) : nI F < nI A - nI B ↔ B + F < A := by
  by_cases q : B ≤ A
  · rw [pk_sub q, nI_ltI (by omega) (by omega)]
    omega
  · have h := pk_sneg (a := A) (b := B) hB (by omega)
    constructor
    · intro e
      exact absurd (Int32.lt_trans e h) (nI_pos (by omega))
    · intro e; omega
theorem movesTo_ok {N f p : Nat} {r : List Nat} (hr : RowOK N r) (hN : N ≤ 7) (hf : f < N) (hp : p < N) {S : sS} (m1 : S 43 11 = nI N) (h57 : ∀ j, j < N → S 57 j = nI (r.getD j 0)) (X : sX) : ∃ T, Cal X 213 [.ref 43, .int (nI (r.getD f 0)), .int (nI p)] S = some (none, T) ∧ fr [56] [] S T ∧ RH N (mvR r f p) T := by
  have hl := hr.1
  rw [C_X9_movesTo]
  obtain ⟨c, hc⟩ : ∃ c : Nat → Nat, c = fun n => if n ≤ p then n else n - 1 := ⟨_, rfl⟩
  have rows : ∀ k, k < N → r.getD k 0 < 8 := fun k hk => by have := row_at_lt hr hk; omega
  obtain ⟨⟨T, k⟩, ⟨f1, g1, h1⟩, e1⟩ := loop_P (St := sS × Nat) (F := fun n s => Run X 213 5 [some (.ref 43), some (.int (nI (r.getD f 0))), some (.int (nI p)), some (.int (nI n)), some (.int (nI s.2))] [] s.1) (P := fun n s => fr [56] [] S s.1 ∧ (∀ j, j < n → s.1 56 j = nI ((mvR r f p).getD j 0)) ∧ ((s.2 = c n ∧ c n ≤ f) ∨ (s.2 = c n + 1 ∧ f ≤ c n))) N (by
    intro n hn ⟨T, k⟩ ⟨fT, gT, hk⟩
    have fT' : fr [56] [] S T := fT
    have gT' : ∀ j, j < n → T 56 j = nI ((mvR r f p).getD j 0) := gT
    have hk' : (k = c n ∧ c n ≤ f) ∨ (k = c n + 1 ∧ f ≤ c n) := hk
    clear fT gT hk
    have t11 : T 43 11 = nI N := by rw [fr_fld fT' 43 11 (by decide) (by decide)]; exact m1
    have t57 : ∀ j, j < N → T 57 j = nI (r.getD j 0) := fun j hj => by rw [fr_cell fT' 57 (by decide) (by decide)]; exact h57 j hj
    have fill : ∀ x, x = (mvR r f p).getD n 0 → ∀ j, j < n + 1 → (up2 T 56 n (nI x)) 56 j = nI ((mvR r f p).getD j 0) := by
      intro x hx j hj
      rw [up2_at]
      by_cases q : j = n
      · rw [q, upd_at, hx]
      · rw [upd_ne _ _ q]; exact gT' j (by omega)
    have hg := mvR_gd (r := r) (f := f) (p := p) (n := n) (by omega) (by omega)
    by_cases q : n = p
    · have ex : r.getD f 0 = (mvR r f p).getD n 0 := by
        rw [hg, if_neg (by omega), if_pos q]
      have ec : c (n + 1) = c n := by
        rw [hc]
        show (if n + 1 ≤ p then n + 1 else n + 1 - 1) = if n ≤ p then n else n - 1
        rw [if_neg (by omega), if_pos (by omega)]
        omega
      refine ⟨(up2 T 56 n (nI (r.getD f 0)), k), ⟨fr_upL fT' (by decide), fill _ ex, by rw [ec]; exact hk'⟩, ?_⟩
      show Run X 213 5 _ [] T = Run X 213 5 _ [] (up2 T 56 n (nI (r.getD f 0)))
      rw [L_X9_movesTo_5, t11, if_neg (nI_ge hn (by omega)), if_pos (by rw [nI_eq (by omega) (by omega)]; exact q), ix_nI (by omega) (by decide), nI_1]
    · have ec : c (n + 1) = c n + 1 ∧ c n + 1 < N ∧ (mvR r f p).getD n 0 = (otR r f).getD (c n) 0 := by
        rw [hc, hg]
        show (if n + 1 ≤ p then n + 1 else n + 1 - 1) = (if n ≤ p then n else n - 1) + 1 ∧ (if n ≤ p then n else n - 1) + 1 < N ∧ _ = (otR r f).getD (if n ≤ p then n else n - 1) 0
        by_cases q2 : n < p
        · rw [if_pos (by omega), if_pos (by omega), if_pos q2]
          exact ⟨rfl, by omega, rfl⟩
        · rw [if_neg (by omega), if_neg (by omega), if_neg q2, if_neg q]
          exact ⟨by omega, by omega, rfl⟩
      obtain ⟨ec1, ec2, ec3⟩ := ec
      rw [otR_gd (by omega)] at ec3
      have ne : ∀ j, j < N → j ≠ f → ¬ nI (r.getD j 0) = nI (r.getD f 0) := by
        intro j hj hjf
        have h1 := rows j hj
        have h2 := rows f hf
        rw [nI_eq (by omega) (by omega)]
        exact fun e => hjf (row_inj hr hj hf e)
      have hnp : ¬ nI n = nI p := by rw [nI_eq (by omega) (by omega)]; exact q
      have go : ∀ j, j < N → j ≠ f → Run X 213 5 [some (.ref 43), some (.int (nI (r.getD f 0))), some (.int (nI p)), some (.int (nI n)), some (.int (nI j))] [] T = Run X 213 5 [some (.ref 43), some (.int (nI (r.getD f 0))), some (.int (nI p)), some (.int (nI (n + 1))), some (.int (nI (j + 1)))] [] (up2 T 56 n (nI (r.getD j 0))) := by
        intro j hj hjf
        rw [L_X9_movesTo_5, t11, if_neg (nI_ge hn (by omega)), if_neg hnp, ix_nI (by omega) (by decide), t57 j hj, if_neg (ne j hj hjf), ix_nI (by omega) (by decide), ix_nI (by omega) (by decide), t57 j hj, nI_1, nI_1]
      rcases hk' with ⟨hk1, hk2⟩ | ⟨hk1, hk2⟩
      · by_cases q3 : c n = f
        · rw [if_neg (by omega)] at ec3
          refine ⟨(up2 T 56 n (nI (r.getD (c n + 1) 0)), c n + 2), ⟨fr_upL fT' (by decide), fill _ ec3.symm, Or.inr ⟨by rw [ec1], by rw [ec1]; omega⟩⟩, ?_⟩
          show Run X 213 5 _ [] T = Run X 213 5 _ [] (up2 T 56 n (nI (r.getD (c n + 1) 0)))
          refine Eq.trans ?_ (go (c n + 1) ec2 (by omega))
          show Run X 213 5 _ [] T = _
          rw [hk1, q3, L_X9_movesTo_5, t11, if_neg (nI_ge hn (by omega)), if_neg hnp, ix_nI (by omega) (by decide), t57 f hf, if_pos rfl, nI_1]
        · rw [if_pos (by omega)] at ec3
          refine ⟨(up2 T 56 n (nI (r.getD (c n) 0)), c n + 1), ⟨fr_upL fT' (by decide), fill _ ec3.symm, Or.inl ⟨by rw [ec1], by rw [ec1]; omega⟩⟩, ?_⟩
          rw [hk1]
          exact go (c n) (by omega) q3
      · rw [if_neg (by omega)] at ec3
        refine ⟨(up2 T 56 n (nI (r.getD (c n + 1) 0)), c n + 2), ⟨fr_upL fT' (by decide), fill _ ec3.symm, Or.inr ⟨by rw [ec1], by rw [ec1]; omega⟩⟩, ?_⟩
        rw [hk1]
        exact go (c n + 1) ec2 (by omega)) 0 (Nat.zero_le _) (S, 0) ⟨fr_rfl, fun j hj => absurd hj (Nat.not_lt_zero j), Or.inl (by
      rw [hc]
      show 0 = (if 0 ≤ p then 0 else 0 - 1) ∧ (if 0 ≤ p then 0 else 0 - 1) ≤ f
      rw [if_pos (Nat.zero_le _)]
      exact ⟨rfl, Nat.zero_le _⟩)⟩
  have f1' : fr [56] [] S T := f1
  have g1' : ∀ j, j < N → T 56 j = nI ((mvR r f p).getD j 0) := g1
  refine ⟨T, ?_, f1', g1'⟩
  refine Eq.trans e1 ?_
  show Run X 213 5 _ [] T = _
  rw [L_X9_movesTo_5, fr_fld f1' 43 11 (by decide) (by decide), m1, if_pos (nI_le (Nat.le_refl _) (by omega))]
/-- the best so far -/
def mst (b : Nat) (T : sS) (K : Nat) : Prop := ∃ F, T 43 38 = nI F ∧ F ≤ 72 ∧ ((F = 0 ∧ K = 99999) ∨ (0 < F ∧ ∃ M Y P, T 43 39 = nI M ∧ T 43 40 = nI Y ∧ T 43 41 = nI P ∧ M < b ∧ M < 7 ∧ Y < 100 ∧ P < 7 ∧ K = 100000 * F + 99999 - (10000 * M + 100 * Y + P)))
theorem mst_ag {b K : Nat} {T T' : sS} (h : ag [] [(43, 38), (43, 39), (43, 40), (43, 41)] T T') (hh : mst b T K) : mst b T' K := by
  unfold mst
  rw [h.2 (43, 38) (by decide), h.2 (43, 39) (by decide), h.2 (43, 40) (by decide), h.2 (43, 41) (by decide)]
  exact hh
theorem mst_up {b b' K : Nat} {T : sS} (hb : b ≤ b') (h : mst b T K) : mst b' T K := by
  obtain ⟨F, h1, h2, h3⟩ := h
  refine ⟨F, h1, h2, ?_⟩
  rcases h3 with q | ⟨q, M, Y, P, q1, q2, q3, q4, q5⟩
  · exact Or.inl q
  · exact Or.inr ⟨q, M, Y, P, q1, q2, q3, by omega, q5⟩
theorem tryY_ok {m p y A B K V : Nat} {T : sS} (hm : m < 7) (hp : p < 7) (hy : y < 100) (hA : A ≤ 72) (hB : B ≤ 72) (hV : V ≤ 24) (m2 : T 43 12 = nI V) (h : mst (m + 1) T K) (X : sX) : ∃ T', Run X 215 14 [some (.ref 43), some (.int (nI m)), some (.int (nI p)), some (.int (nI y)), some (.int (nI A - nI B)), some (.int (nI V))] [] T = Run X 215 2 [some (.ref 43), some (.int (nI m)), some (.int (nI p)), some (.int (nI (y + 1))), none, none] [] T' ∧ fr [] [(43, 38), (43, 39), (43, 40), (43, 41)] T T' ∧ mst (m + 1) T' (max K ((100000 * A + 99999 - (10000 * m + 100 * y + p)) - 100000 * B)) := by
  obtain ⟨F, h1, h2, h3⟩ := id h
  have take : 0 < A - B → max K ((100000 * A + 99999 - (10000 * m + 100 * y + p)) - 100000 * B) = 100000 * (A - B) + 99999 - (10000 * m + 100 * y + p) → Run X 215 128 [some (.ref 43), some (.int (nI m)), some (.int (nI p)), some (.int (nI y)), some (.int (nI A - nI B)), none] [] T = Run X 215 2 [some (.ref 43), some (.int (nI m)), some (.int (nI p)), some (.int (nI (y + 1))), none, none] [] (up2 (up2 (up2 (up2 T 43 38 (nI A - nI B)) 43 39 (nI m)) 43 40 (nI y)) 43 41 (nI p)) ∧ fr [] [(43, 38), (43, 39), (43, 40), (43, 41)] T (up2 (up2 (up2 (up2 T 43 38 (nI A - nI B)) 43 39 (nI m)) 43 40 (nI y)) 43 41 (nI p)) ∧ mst (m + 1) (up2 (up2 (up2 (up2 T 43 38 (nI A - nI B)) 43 39 (nI m)) 43 40 (nI y)) 43 41 (nI p)) (max K ((100000 * A + 99999 - (10000 * m + 100 * y + p)) - 100000 * B)) := by
    intro q e
    refine ⟨?_, ?_, ?_⟩
    · rw [L_X9_triesYears_128, nI_1]
    · exact fr_upF (fr_upF (fr_upF (fr_upF fr_rfl (by decide)) (by decide)) (by decide)) (by decide)
    · rw [e]
      refine ⟨A - B, ?_, by omega, Or.inr ⟨q, m, y, p, rfl, rfl, rfl, Nat.lt_succ_self m, hm, hy, hp, rfl⟩⟩
      show nI A - nI B = nI (A - B)
      exact pk_sub (by omega)
  have stay : Run X 215 109 [some (.ref 43), some (.int (nI m)), some (.int (nI p)), some (.int (nI y)), some (.int (nI A - nI B)), none] [.int 0] T = Run X 215 2 [some (.ref 43), some (.int (nI m)), some (.int (nI p)), some (.int (nI (y + 1))), none, none] [] T ∨ B + F < A := by
    by_cases q : B + F < A
    · exact Or.inr q
    · left
      rw [L_X9_triesYears_109, h1, if_neg (fun w => q ((subL (by omega) (by omega) (by omega)).mp w)), if_pos rfl, nI_1]
  have keep : max K ((100000 * A + 99999 - (10000 * m + 100 * y + p)) - 100000 * B) = K → ¬ B + F < A → Run X 215 14 [some (.ref 43), some (.int (nI m)), some (.int (nI p)), some (.int (nI y)), some (.int (nI A - nI B)), some (.int (nI V))] [] T = Run X 215 109 [some (.ref 43), some (.int (nI m)), some (.int (nI p)), some (.int (nI y)), some (.int (nI A - nI B)), none] [.int 0] T → ∃ T', Run X 215 14 [some (.ref 43), some (.int (nI m)), some (.int (nI p)), some (.int (nI y)), some (.int (nI A - nI B)), some (.int (nI V))] [] T = Run X 215 2 [some (.ref 43), some (.int (nI m)), some (.int (nI p)), some (.int (nI (y + 1))), none, none] [] T' ∧ fr [] [(43, 38), (43, 39), (43, 40), (43, 41)] T T' ∧ mst (m + 1) T' (max K ((100000 * A + 99999 - (10000 * m + 100 * y + p)) - 100000 * B)) := by
    intro e1 e2 e3
    rw [e1]
    exact ⟨T, e3.trans (stay.resolve_right e2), fr_rfl, h⟩
  have go : ∀ t : Int32, (B + F < A ∨ ¬ t = 0) → max K ((100000 * A + 99999 - (10000 * m + 100 * y + p)) - 100000 * B) = 100000 * (A - B) + 99999 - (10000 * m + 100 * y + p) → 0 < A - B → Run X 215 14 [some (.ref 43), some (.int (nI m)), some (.int (nI p)), some (.int (nI y)), some (.int (nI A - nI B)), some (.int (nI V))] [] T = Run X 215 109 [some (.ref 43), some (.int (nI m)), some (.int (nI p)), some (.int (nI y)), some (.int (nI A - nI B)), none] [.int t] T → ∃ T', Run X 215 14 [some (.ref 43), some (.int (nI m)), some (.int (nI p)), some (.int (nI y)), some (.int (nI A - nI B)), some (.int (nI V))] [] T = Run X 215 2 [some (.ref 43), some (.int (nI m)), some (.int (nI p)), some (.int (nI (y + 1))), none, none] [] T' ∧ fr [] [(43, 38), (43, 39), (43, 40), (43, 41)] T T' ∧ mst (m + 1) T' (max K ((100000 * A + 99999 - (10000 * m + 100 * y + p)) - 100000 * B)) := by
    intro t ht e1 e2 e3
    obtain ⟨a1, a2, a3⟩ := take e2 e1
    refine ⟨_, ?_, a2, a3⟩
    refine e3.trans (Eq.trans ?_ a1)
    rw [L_X9_triesYears_109, h1]
    by_cases q : B + F < A
    · rw [if_pos ((subL (by omega) (by omega) (by omega)).mpr q)]
    · rw [if_neg (fun w => q ((subL (by omega) (by omega) (by omega)).mp w)), if_neg (ht.resolve_left q)]
  have st := L_X9_triesYears_14 X (nI m) (nI p) (nI y) (nI A - nI B) (nI V) T
  rw [m2, if_pos (nI_le (Nat.le_refl _) (by omega)), h1] at st
  have z : (nI F ≤ 0) ↔ F = 0 := by
    rw [show (0 : Int32) = nI 0 from rfl]
    constructor
    · intro w
      by_cases q : F = 0
      · exact q
      · exact absurd w (nI_ge (by omega) (by omega))
    · intro w; rw [w]; exact Int32.le_refl _
  by_cases q : A = B + F
  case neg =>
    rw [if_neg (fun w => q ((subE (by omega) (by omega) (by omega)).mp w))] at st
    by_cases q2 : B + F < A
    · refine go 0 (Or.inl q2) ?_ (by omega) st
      rcases h3 with ⟨w1, w2⟩ | ⟨w1, M, Y, P, -, -, -, w2, w3, w4, w5, w6⟩
      · omega
      · omega
    · refine keep ?_ q2 st
      rcases h3 with ⟨w1, w2⟩ | ⟨w1, M, Y, P, -, -, -, w2, w3, w4, w5, w6⟩
      · omega
      · omega
  rw [if_pos ((subE (by omega) (by omega) (by omega)).mpr q)] at st
  rcases h3 with ⟨w1, w2⟩ | ⟨w1, M, Y, P, t1, t2, t3, w2, w3, w4, w5, w6⟩
  · rw [if_pos (z.mpr w1)] at st
    exact keep (by omega) (by omega) st
  rw [if_neg (fun w => by have := z.mp w; omega), t1, t2, t3] at st
  by_cases q1 : M = m
  case neg =>
    rw [if_neg (fun w => q1 ((nI_eq (by omega) (by omega)).mp w))] at st
    exact keep (by omega) (by omega) st
  rw [if_pos (by rw [q1])] at st
  by_cases q2 : y < Y
  · rw [if_pos (nI_lt q2 (by omega))] at st
    exact go 1 (Or.inr (by decide)) (by omega) (by omega) st
  rw [if_neg (nI_nlt (by omega) (by omega))] at st
  by_cases q3 : y = Y
  case neg =>
    rw [if_neg (fun w => q3 ((nI_eq (by omega) (by omega)).mp w))] at st
    exact keep (by omega) (by omega) st
  rw [if_pos (by rw [q3])] at st
  by_cases q4 : P ≤ p
  · rw [if_pos (nI_le q4 (by omega))] at st
    exact keep (by omega) (by omega) st
  · rw [if_neg (nI_ge (by omega) (by omega))] at st
    exact go 1 (Or.inr (by decide)) (by omega) (by omega) st
theorem tries_ok {N V K f p : Nat} {r : List Nat} {S0 T : sS} (hN : N ≤ 7) (hV : V ≤ 24) (hr : RowOK N r) (hf : f < N) (hp : p < N) (m2 : T 43 12 = nI V) (h48 : ∀ v, v < V → T 48 v = nI (nv (S0 7 v)) ∧ nv (S0 7 v) < 100) (h63 : ∀ v, v < V → T 63 v = nI (ctw (nv (S0 8 v)) (nv (S0 9 v)) r) - nI (ctw (nv (S0 8 v)) (nv (S0 9 v)) (mvR r f p))) (h : mst (r.getD f 0 + 1) T K) {C : Nat → Prop} (hM : Mx C K) (X : sX) : ∃ T' K', Cal X 215 [.ref 43, .int (nI (r.getD f 0)), .int (nI p)] T = some (none, T') ∧ fr [] [(43, 38), (43, 39), (43, 40), (43, 41)] T T' ∧ mst (r.getD f 0 + 1) T' K' ∧ Mx (fun x => C x ∨ ∃ y, y < 100 ∧ x = ky S0 V r f p y) K' := by
  have hm := row_at_lt hr hf
  rw [C_X9_triesYears]
  obtain ⟨T', ⟨f1, K', h1, M1⟩, e1⟩ := loop_P (F := fun y U => Run X 215 2 [some (.ref 43), some (.int (nI (r.getD f 0))), some (.int (nI p)), some (.int (nI y)), none, none] [] U) (P := fun y U => fr [] [(43, 38), (43, 39), (43, 40), (43, 41)] T U ∧ ∃ K, mst (r.getD f 0 + 1) U K ∧ Mx (fun x => C x ∨ ∃ y', y' < y ∧ x = ky S0 V r f p y') K) 100 (by
    intro y hy U ⟨fU, K, hK, hM⟩
    have u12 : U 43 12 = nI V := by rw [fr_fld fU 43 12 (by decide) (by decide)]; exact m2
    have lp := loop_eq (F := fun k => Run X 215 14 [some (.ref 43), some (.int (nI (r.getD f 0))), some (.int (nI p)), some (.int (nI y)), some (.int (nI (ys S0 k r y) - nI (ys S0 k (mvR r f p) y))), some (.int (nI k))] [] U) V 0 (by
      intro k _ hk
      obtain ⟨k1, k2⟩ := h48 k hk
      have es : ∀ x, ys S0 (k + 1) x y = ys S0 k x y + (if y ≤ nv (S0 7 k) then ctw (nv (S0 8 k)) (nv (S0 9 k)) x else 0) := fun x => rfl
      show Run X 215 14 _ [] U = Run X 215 14 _ [] U
      rw [L_X9_triesYears_14, u12, if_neg (nI_ge hk (by omega)), ix_nI (by omega) (by decide), fr_cell fU 48 (by decide) (by decide), k1, es, es]
      by_cases q : y ≤ nv (S0 7 k)
      · rw [if_neg (nI_nlt q (by omega)), if_pos q, if_pos q, ix_nI (by omega) (by decide), fr_cell fU 63 (by decide) (by decide), h63 k hk, sas, nI_add, nI_add, nI_1]
      · rw [if_pos (nI_lt (by omega) (by omega)), if_neg q, if_neg q, Nat.add_zero, Nat.add_zero, nI_1]
        rw [show nI (ys S0 k r y) - nI (ys S0 k (mvR r f p) y) + 0 = nI (ys S0 k r y) - nI (ys S0 k (mvR r f p) y) from Int32.add_zero _]) (Nat.zero_le _)
    obtain ⟨U', e', f', h'⟩ := tryY_ok (A := ys S0 V r y) (B := ys S0 V (mvR r f p) y) (m := r.getD f 0) (p := p) (y := y) (by omega) (by omega) hy (ys_le hV S0 r y) (ys_le hV S0 (mvR r f p) y) hV u12 hK X
    refine ⟨U', ⟨fr_trans fU f', _, h', Mx_iff (Mx_add (k := ky S0 V r f p y) hM (fun x => Iff.rfl)) fun x => ?_⟩, ?_⟩
    · constructor
      · rintro (q | ⟨y', h, q⟩)
        · exact Or.inl (Or.inl q)
        · by_cases hy' : y' = y
          · rw [hy'] at q; exact Or.inr q
          · exact Or.inl (Or.inr ⟨y', by omega, q⟩)
      · rintro ((q | ⟨y', h, q⟩) | q)
        · exact Or.inl q
        · exact Or.inr ⟨y', by omega, q⟩
        · exact Or.inr ⟨y, Nat.lt_succ_self y, q⟩
    · show Run X 215 2 _ [] U = Run X 215 2 _ [] U'
      rw [L_X9_triesYears_2, show (99 : Int32) = nI 99 from rfl, if_neg (nI_nlt (by omega) (by omega))]
      have z0 : nI (ys S0 0 r y) - nI (ys S0 0 (mvR r f p) y) = 0 := by
        show nI 0 - nI 0 = 0
        decide
      rw [z0] at lp
      exact Eq.trans lp e') 0 (Nat.zero_le _) T ⟨fr_rfl, K, h, Mx_iff hM fun x => by
        constructor
        · rintro (q | ⟨y', h, q⟩)
          · exact q
          · omega
        · intro q; exact Or.inl q⟩
  refine ⟨T', K', ?_, f1, h1, M1⟩
  refine Eq.trans e1 ?_
  show Run X 215 2 _ [] T' = _
  rw [L_X9_triesYears_2, show (99 : Int32) = nI 99 from rfl, if_pos (nI_lt (by omega) (by omega))]
