/-! the rows are judged -/
theorem judgeAll_ok {N V : Nat} {S : sS} (H : HD N V S) (hS : SOK N V S) (hL : LOK N S) (h : S 29 11 = 0 ∨ S 29 11 = 1 ∧ S 29 10 = nI N ∧ JOK N V S) (X : sX) : ∃ S', Cal X 75 [.ref 29] S = some (none, S') ∧ fr [31, 32, 33] [(25, 5), (25, 6), (25, 7), (29, 11)] S S' ∧ S' 29 11 = 1 ∧ JOK N V S' := by
  have hN := H.2.1
  have hlen := KL_len N (by omega)
  rw [C_X5_judgeAll]
  rcases h with h | ⟨h, _, hJ⟩
  case inr =>
    rw [if_neg (by rw [h]; decide)]
    exact ⟨S, rfl, fr_rfl, h, hJ⟩
  rw [if_pos h]
  obtain ⟨S1, ⟨f, g⟩, e⟩ := loop_P (F := fun k T => Run X 75 10 [some (.ref 29), some (.int (nI k))] [] T) (P := fun k T => fr [31, 32, 33] [(25, 5), (25, 6), (25, 7)] S T ∧ ∀ j, j < k → T 31 j = nI (mkW S V ((KL N).getD j []) 1) ∧ T 32 j = nI (mkW S V ((KL N).getD j []) 2) ∧ T 33 j = nI (mkW S V ((KL N).getD j []) 3)) (KL N).length (by
    intro k hk T ⟨f, g⟩
    have hr := KL_ok (KL_get hk)
    have HT : HD N V T := HD_ag (fr_ag f (by decide)) H
    have ST : SOK N V T := SOK_ag (fr_ag f (by decide)) hS
    have eW : mkW T = mkW S := mkW_ag (fr_ag f (by decide))
    obtain ⟨a1, ha1⟩ : ∃ a, a = nI (mkW S V ((KL N).getD k []) 1) := ⟨_, rfl⟩
    obtain ⟨a2, ha2⟩ : ∃ a, a = nI (mkW S V ((KL N).getD k []) 2) := ⟨_, rfl⟩
    obtain ⟨a3, ha3⟩ : ∃ a, a = nI (mkW S V ((KL N).getD k []) 3) := ⟨_, rfl⟩
    refine ⟨up2 (up2 (up2 (set3 T a1 a2 a3) 31 k a1) 32 k a2) 33 k a3, ⟨?_, ?_⟩, ?_⟩
    · exact fr_upL (fr_upL (fr_upL (fr_trans f (fr_mono (fr_set3 T a1 a2 a3) (by decide) (by decide))) (by decide)) (by decide)) (by decide)
    · intro j hj
      have e1 : up2 (up2 (up2 (set3 T a1 a2 a3) 31 k a1) 32 k a2) 33 k a3 31 = upd (T 31) k a1 := rfl
      have e2 : up2 (up2 (up2 (set3 T a1 a2 a3) 31 k a1) 32 k a2) 33 k a3 32 = upd (T 32) k a2 := rfl
      have e3 : up2 (up2 (up2 (set3 T a1 a2 a3) 31 k a1) 32 k a2) 33 k a3 33 = upd (T 33) k a3 := rfl
      rw [e1, e2, e3]
      by_cases q : j = k
      · subst q
        rw [upd_at, upd_at, upd_at]
        exact ⟨ha1, ha2, ha3⟩
      · rw [upd_ne _ _ q, upd_ne _ _ q, upd_ne _ _ q]
        exact g j (by omega)
    · have w := walk_ok HT ST hr X
      rw [eW, ← ha1, ← ha2, ← ha3] at w
      have v1 : ∀ S, Cal X 99 [.ref 25, .int 1] S = some (some (.int (S 25 5)), S) := fun S => by rw [C_X7_votesWrongBy, if_pos rfl]
      have v2 : ∀ S, Cal X 99 [.ref 25, .int 2] S = some (some (.int (S 25 6)), S) := fun S => by rw [C_X7_votesWrongBy, if_neg (by decide), if_pos rfl]
      have v3 : ∀ S, Cal X 99 [.ref 25, .int 3] S = some (some (.int (S 25 7)), S) := fun S => by rw [C_X7_votesWrongBy, if_neg (by decide), if_neg (by decide), if_pos rfl]
      show Run X 75 10 _ [] T = Run X 75 10 _ [] _
      rw [L_X5_judgeAll_10, fr_fld f 29 9 (by decide) (by decide), hL.1, if_neg (nI_ge hk (by omega)), ix_nI (by omega) (by decide), fr_cell f 30 (by decide) (by decide), hL.2 k hk, w, cV_ok, v1, cI_ok, ix_nI (by omega) (by decide), v2, cI_ok, ix_nI (by omega) (by decide), v3, cI_ok, ix_nI (by omega) (by decide), nI_1]
      rw [set3_5]
      have q6 : up2 (set3 T a1 a2 a3) 31 k a1 25 6 = a2 := set3_6 T a1 a2 a3
      rw [q6]
      have q7 : up2 (up2 (set3 T a1 a2 a3) 31 k a1) 32 k a2 25 7 = a3 := set3_7 T a1 a2 a3
      rw [q7]) 0 (Nat.zero_le _) S ⟨fr_rfl, fun j hj => absurd hj (Nat.not_lt_zero j)⟩
  have eW : mkW (up2 S1 29 11 1) = mkW S := mkW_ag (fr_ag (fr_upF (fr_mono f (by decide) (by decide) : fr [31, 32, 33] [(25, 5), (25, 6), (25, 7), (29, 11)] S S1) (by decide)) (by decide))
  refine ⟨up2 S1 29 11 1, Eq.trans e ?_, fr_upF (fr_mono f (by decide) (by decide)) (by decide), rfl, ?_⟩
  · show Run X 75 10 _ [] S1 = _
    rw [L_X5_judgeAll_10, fr_fld f 29 9 (by decide) (by decide), hL.1, if_pos (nI_le (Nat.le_refl _) (by omega))]
  · intro i hi
    rw [eW]
    exact g i hi
/-! what is held, as bits -/
def orf (f : Nat → Nat) : Nat → Nat
  | 0 => 0
  | k + 1 => orf f k ||| f k
theorem orf_bit (f : Nat → Nat) (b : Nat) : ∀ k, (orf f k).testBit b = true ↔ ∃ j, j < k ∧ (f j).testBit b = true := by
  intro k
  induction k with
  | zero => simp [orf]
  | succ k ih =>
    show (orf f k ||| f k).testBit b = true ↔ _
    rw [Nat.testBit_or, Bool.or_eq_true, ih]
    constructor
    · rintro (⟨j, h1, h2⟩ | h)
      · exact ⟨j, by omega, h2⟩
      · exact ⟨k, by omega, h⟩
    · rintro ⟨j, h1, h2⟩
      by_cases q : j = k
      · subst q; exact Or.inr h2
      · exact Or.inl ⟨j, by omega, h2⟩
theorem orf_lt {f : Nat → Nat} {n : Nat} : ∀ k, (∀ j, j < k → f j < 2 ^ n) → orf f k < 2 ^ n := by
  intro k
  induction k with
  | zero => intro _; exact Nat.two_pow_pos n
  | succ k ih => intro h; exact Nat.or_lt_two_pow (ih fun j hj => h j (by omega)) (h k (by omega))
def edK (S : sS) (k : Nat) : Nat := if S 10 k = -1 then 2 ^ nv (S 11 k) else 0
def bdK (S : sS) (m k : Nat) : Nat := if S 10 k = -1 then 0 else if S 10 k = nI m then 2 ^ nv (S 11 k) else if S 11 k = nI m then 2 ^ nv (S 10 k) else 0
theorem hd_cases {N : Nat} {a b l m : Int32} (h : hd N a b l m) : (∃ p, p < N ∧ a = nI p ∧ b = -1 ∧ l = -1 ∧ m = nI p) ∨ ∃ p q, p < N ∧ q < N ∧ q ≠ p ∧ a = nI p ∧ b = nI q ∧ l = nI (min p q) ∧ m = nI (max p q) := by
  obtain ⟨p, h1, h2, h3⟩ := h
  rcases h3 with ⟨h3, h4, h5⟩ | ⟨q, h3, h4, h5, h6, h7⟩
  · exact Or.inl ⟨p, h1, h2, h3, h4, h5⟩
  · exact Or.inr ⟨p, q, h1, h3, h4, h2, h5, h6, h7⟩
theorem edK_lt {N : Nat} {S : sS} {k : Nat} (h : hd N (S 51 k) (S 52 k) (S 10 k) (S 11 k)) (hN : N ≤ 7) : edK S k < 2 ^ 7 := by
  unfold edK
  rcases hd_cases h with ⟨p, h1, h2, h3, h4, h5⟩ | ⟨p, q, h1, h2, h3, h4, h5, h6, h7⟩
  · rw [if_pos h4, h5, nv_nI (by omega)]
    exact Nat.pow_lt_pow_right (by decide) (by omega)
  · rw [h6, if_neg (nI_nem1 (by omega))]
    decide
theorem bdK_lt {N : Nat} {S : sS} {m k : Nat} (h : hd N (S 51 k) (S 52 k) (S 10 k) (S 11 k)) (hN : N ≤ 7) : bdK S m k < 2 ^ 7 := by
  unfold bdK
  rcases hd_cases h with ⟨p, h1, h2, h3, h4, h5⟩ | ⟨p, q, h1, h2, h3, h4, h5, h6, h7⟩
  · rw [if_pos h4]; decide
  · rw [h6, if_neg (nI_nem1 (by omega)), h7, nv_nI (by omega), nv_nI (by omega)]
    by_cases c1 : nI (min p q) = nI m
    · rw [if_pos c1]; exact Nat.pow_lt_pow_right (by decide) (by omega)
    · rw [if_neg c1]
      by_cases c2 : nI (max p q) = nI m
      · rw [if_pos c2]; exact Nat.pow_lt_pow_right (by decide) (by omega)
      · rw [if_neg c2]; decide
theorem edK_bit {N : Nat} {S : sS} {k b : Nat} (h : hd N (S 51 k) (S 52 k) (S 10 k) (S 11 k)) (hN : N ≤ 7) (hb : b < 2 ^ 31) : (edK S k).testBit b = true ↔ S 52 k = -1 ∧ S 51 k = nI b := by
  unfold edK
  rcases hd_cases h with ⟨p, h1, h2, h3, h4, h5⟩ | ⟨p, q, h1, h2, h3, h4, h5, h6, h7⟩
  · rw [if_pos h4, h5, nv_nI (by omega), Nat.testBit_two_pow, decide_eq_true_eq, h2, h3, nI_eq (by omega) hb]
    simp
  · rw [h6, if_neg (nI_nem1 (by omega)), h5]
    simp only [Nat.zero_testBit]
    constructor
    · intro q; cases q
    · intro q; exact absurd q.1 (nI_nem1 (by omega))
theorem bdK_bit {N : Nat} {S : sS} {k m b : Nat} (h : hd N (S 51 k) (S 52 k) (S 10 k) (S 11 k)) (hN : N ≤ 7) (hm : m < N) (hb : b < 2 ^ 31) : (bdK S m k).testBit b = true ↔ S 52 k ≠ -1 ∧ ((S 51 k = nI m ∧ S 52 k = nI b) ∨ (S 51 k = nI b ∧ S 52 k = nI m)) := by
  unfold bdK
  rcases hd_cases h with ⟨p, h1, h2, h3, h4, h5⟩ | ⟨p, q, h1, h2, h3, h4, h5, h6, h7⟩
  · rw [if_pos h4, h3]
    simp
  · have hne := nI_nem1 (a := q) (by omega)
    have x1 := nI_eq (a := min p q) (b := m) (by omega) (by omega)
    have x2 := nI_eq (a := max p q) (b := m) (by omega) (by omega)
    rw [h6, if_neg (nI_nem1 (by omega)), h7, nv_nI (by omega), nv_nI (by omega), h4, h5, nI_eq (a := p) (b := m) (by omega) (by omega), nI_eq (a := q) (b := b) (by omega) hb, nI_eq (a := p) (b := b) (by omega) hb, nI_eq (a := q) (b := m) (by omega) (by omega)]
    by_cases c1 : min p q = m
    · rw [if_pos (x1.mpr c1), Nat.testBit_two_pow, decide_eq_true_eq]
      constructor
      · intro e; exact ⟨hne, by omega⟩
      · rintro ⟨_, e⟩; omega
    · rw [if_neg (fun z => c1 (x1.mp z))]
      by_cases c2 : max p q = m
      · rw [if_pos (x2.mpr c2), Nat.testBit_two_pow, decide_eq_true_eq]
        constructor
        · intro e; exact ⟨hne, by omega⟩
        · rintro ⟨_, e⟩; omega
      · rw [if_neg (fun z => c2 (x2.mp z))]
        simp only [Nat.zero_testBit]
        constructor
        · intro e; cases e
        · rintro ⟨_, e⟩; omega
theorem ends_ok {N V K : Nat} {S : sS} (H : HH N V K S) (X : sX) : Cal X 34 [.ref 1] S = some (some (.int (nI (orf (edK S) K))), S) := by
  obtain ⟨HD0, k1, k2, m1, m2, m3, k3, k4, k5⟩ := H
  have hN := HD0.2.1
  rw [C_X1_heldEnds]
  have key := loop_eq (F := fun k => Run X 34 4 [some (.ref 1), some (.int (nI (orf (edK S) k))), some (.int (nI k))] [] S) K 0 (by
    intro k _ hk
    have e : ∀ x, edK S k = x → orf (edK S) (k + 1) = orf (edK S) k ||| x := fun x hx => by rw [← hx]; rfl
    show Run X 34 4 _ [] S = Run X 34 4 _ [] S
    rw [L_X1_heldEnds_4, k1, if_neg (nI_ge hk (by omega)), ix_nI (by omega) (by decide), nI_1]
    by_cases c : S 10 k = -1
    · rw [if_pos c, ix_nI (by omega) (by decide)]
      rcases hd_cases (k5 k hk) with ⟨p, h1, h2, h3, h4, h5⟩ | ⟨p, q, h1, h2, h3, h4, h5, h6, h7⟩
      · rw [h5, l1, oShl_1 (by omega), or_nI, e (2 ^ p) (by unfold edK; rw [if_pos c, h5, nv_nI (by omega)])]
      · exact absurd (h6.symm.trans c) (nI_nem1 (by omega))
    · rw [if_neg c, e 0 (by unfold edK; rw [if_neg c]), Nat.or_zero]) (Nat.zero_le _)
  refine Eq.trans key ?_
  rw [L_X1_heldEnds_4, k1, if_pos (nI_le (Nat.le_refl _) (by omega))]
theorem beside_ok {N V K : Nat} {S : sS} (H : HH N V K S) {m : Nat} (hm : m < N) (X : sX) : Cal X 35 [.ref 1, .int (nI m)] S = some (some (.int (nI (orf (bdK S m) K))), S) := by
  obtain ⟨HD0, k1, k2, m1, m2, m3, k3, k4, k5⟩ := H
  have hN := HD0.2.1
  rw [C_X1_heldBeside]
  have key := loop_eq (F := fun k => Run X 35 4 [some (.ref 1), some (.int (nI m)), some (.int (nI (orf (bdK S m) k))), some (.int (nI k))] [] S) K 0 (by
    intro k _ hk
    have e : ∀ x, bdK S m k = x → orf (bdK S m) (k + 1) = orf (bdK S m) k ||| x := fun x hx => by rw [← hx]; rfl
    show Run X 35 4 _ [] S = Run X 35 4 _ [] S
    rw [L_X1_heldBeside_4, k1, if_neg (nI_ge hk (by omega))]
    simp only [ix_nI (show k < 10 by omega) (show 10 < 2 ^ 31 by decide), nI_1]
    rcases hd_cases (k5 k hk) with ⟨p, h1, h2, h3, h4, h5⟩ | ⟨p, q, h1, h2, h3, h4, h5, h6, h7⟩
    · rw [if_pos h4, if_pos h4, e 0 (by unfold bdK; rw [if_pos h4]), Nat.or_zero]
    · have hne : ¬ S 10 k = -1 := by rw [h6]; exact nI_nem1 (by omega)
      rw [if_neg hne]
      by_cases c1 : S 10 k = nI m
      · have c2 : ¬ S 11 k = nI m := by
          rw [h6, nI_eq (by omega) (by omega)] at c1
          rw [h7, nI_eq (by omega) (by omega)]
          omega
        rw [if_pos c1, if_neg hne, if_neg c2, h7, l1, oShl_1 (by omega), or_nI, e (2 ^ max p q) (by unfold bdK; rw [if_neg hne, if_pos c1, h7, nv_nI (by omega)])]
      · rw [if_neg c1, if_neg hne]
        by_cases c2 : S 11 k = nI m
        · rw [if_pos c2, h6, l1, oShl_1 (by omega), or_nI, e (2 ^ min p q) (by unfold bdK; rw [if_neg hne, if_neg c1, if_pos c2, h6, nv_nI (by omega)])]
        · rw [if_neg c2, e 0 (by unfold bdK; rw [if_neg hne, if_neg c1, if_neg c2]), Nat.or_zero]) (Nat.zero_le _)
  refine Eq.trans key ?_
  rw [L_X1_heldBeside_4, k1, if_pos (nI_le (Nat.le_refl _) (by omega))]
theorem noteHeld_ok {N V K : Nat} {S : sS} (H : HH N V K S) (X : sX) : ∃ S', Cal X 73 [.ref 29] S = some (none, S') ∧ fr [35] [(29, 8)] S S' ∧ S' 29 8 = nI (orf (edK S) K) ∧ ∀ m, m < N → S' 35 m = nI (orf (bdK S m) K) := by
  have HD0 := H.1
  have hN := HD0.2.1
  rw [C_X5_noteHeld, ends_ok H, cI_ok]
  obtain ⟨S1, ⟨f, g1, g⟩, e⟩ := loop_P (F := fun k T => Run X 73 13 [some (.ref 29), some (.int (nI k))] [] T) (P := fun k T => fr [35] [(29, 8)] S T ∧ T 29 8 = nI (orf (edK S) K) ∧ ∀ m, m < k → T 35 m = nI (orf (bdK S m) K)) N (by
    intro k hk T ⟨f, g1, g⟩
    have HT : HH N V K T := HH_ag (fr_ag f (by decide)) H
    have eb : bdK T = bdK S := by
      funext m j
      unfold bdK
      rw [fr_cell f 10 (by decide) (by decide), fr_cell f 11 (by decide) (by decide)]
    refine ⟨up2 T 35 k (nI (orf (bdK S k) K)), ⟨fr_upL f (by decide), g1, ?_⟩, ?_⟩
    · intro m hm
      rw [up2_at]
      by_cases q : m = k
      · subst q; rw [upd_at]
      · rw [upd_ne _ _ q]; exact g m (by omega)
    · show Run X 73 13 _ [] T = Run X 73 13 _ [] _
      rw [L_X5_noteHeld_13, C_X1_members, cI_ok, HT.1.1, if_neg (nI_ge hk (by omega)), l7, if_neg (nI_ge (by omega) (by decide)), beside_ok HT hk, cI_ok, ix_nI (by omega) (by decide), eb, nI_1]) 0 (Nat.zero_le _) (up2 S 29 8 (nI (orf (edK S) K))) ⟨fr_upF fr_rfl (by decide), rfl, fun j hj => absurd hj (Nat.not_lt_zero j)⟩
  refine ⟨S1, Eq.trans e ?_, f, g1, g⟩
  show Run X 73 13 _ [] S1 = _
  rw [L_X5_noteHeld_13, C_X1_members, cI_ok, fr_fld f 1 0 (by decide) (by decide), HD0.1, if_pos (nI_le (Nat.le_refl _) (by omega))]
/-! a row, whether it is as held -/
def arnd (N : Nat) (r : List Nat) (i : Nat) : Nat := (if 0 < i then 2 ^ r.getD (i - 1) 0 else 0) ||| (if i < N - 1 then 2 ^ r.getD (i + 1) 0 else 0)
def pas (N E : Nat) (B : Nat → Nat) (r : List Nat) (i : Nat) : Prop := andn (B (r.getD i 0)) (arnd N r i) = 0 ∧ ¬ (0 < i ∧ i < N - 1 ∧ E.testBit (r.getD i 0) = true)
theorem asH_84 {N E i m a nd : Nat} {S : sS} (hN : N ≤ 7) (hi : i < N) (hE : S 29 8 = nI E) (hE7 : E < 128) (hm : m < 8) (hnd : nd < 128) (R : Int32) (X : sX) : Run X 74 84 [some (.ref 29), some (.int R), some (.int (nI (N - 1))), some (.int (nI i)), some (.int (nI m)), some (.int (nI a)), none, none] [.int (nI nd)] S = if andn nd a = 0 ∧ ¬ (0 < i ∧ i < N - 1 ∧ E.testBit m = true) then Run X 74 12 [some (.ref 29), some (.int R), some (.int (nI (N - 1))), some (.int (nI (i + 1))), none, none, none, none] [] S else some (some (.int 0), S) := by
  have hd : andn nd a < 2 ^ 31 := by have := andn_lt7 a hnd; omega
  have l100 : ∀ t : Bool, Run X 74 100 [some (.ref 29), some (.int R), some (.int (nI (N - 1))), some (.int (nI i)), some (.int (nI m)), some (.int (nI a)), some (.int (nI nd)), none] [.int (bI t)] S = if andn nd a = 0 ∧ ¬ (t = true ∧ E.testBit m = true) then Run X 74 12 [some (.ref 29), some (.int R), some (.int (nI (N - 1))), some (.int (nI (i + 1))), none, none, none, none] [] S else some (some (.int 0), S) := by
    intro t
    rw [L_X5_isAsHeld_100, andNot_nI, nI_1]
    by_cases c : andn nd a = 0
    · rw [c, if_pos nI_0]
      cases t with
      | false => rw [if_pos (show bI false = 0 from rfl), if_pos ⟨rfl, fun q => by cases q.1⟩]
      | true =>
        rw [if_neg (show ¬ bI true = 0 by decide), hE, has_ok (by omega) (by omega), cI_ok]
        cases hb : E.testBit m with
        | false => rw [if_pos (show bI false = 0 from rfl), if_pos ⟨rfl, fun q => by cases q.2⟩]
        | true => rw [if_neg (show ¬ bI true = 0 by decide), if_neg (fun q => q.2 ⟨rfl, rfl⟩)]
    · rw [if_neg (nI_ne0 (by omega) hd), if_neg (fun q => c q.1)]
  rw [L_X5_isAsHeld_84]
  by_cases c0 : i = 0
  · subst c0
    rw [if_pos (by decide)]
    refine (l100 false).trans ?_
    by_cases c : andn nd a = 0
    · rw [if_pos ⟨c, fun q => by cases q.1⟩, if_pos ⟨c, fun q => by omega⟩]
    · rw [if_neg (fun q => c q.1), if_neg (fun q => c q.1)]
  · rw [if_neg (nI_nle (by omega) (by omega))]
    by_cases c1 : N - 1 ≤ i
    · rw [if_pos (nI_le c1 (by omega))]
      refine (l100 false).trans ?_
      by_cases c : andn nd a = 0
      · rw [if_pos ⟨c, fun q => by cases q.1⟩, if_pos ⟨c, fun q => by omega⟩]
      · rw [if_neg (fun q => c q.1), if_neg (fun q => c q.1)]
    · rw [if_neg (nI_ge (by omega) (by omega))]
      refine (l100 true).trans ?_
      by_cases c : andn nd a = 0 ∧ ¬ E.testBit m = true
      · rw [if_pos ⟨c.1, fun q => c.2 q.2⟩, if_pos ⟨c.1, fun q => c.2 q.2.2⟩]
      · rw [if_neg (fun q => c ⟨q.1, fun e => q.2 ⟨rfl, e⟩⟩), if_neg (fun q => c ⟨q.1, fun e => q.2 ⟨by omega, by omega, e⟩⟩)]
theorem asH_step {N E : Nat} {B : Nat → Nat} {r : List Nat} {S : sS} (hr : RowOK N r) (hN : N ≤ 7) (hE : S 29 8 = nI E) (hE7 : E < 128) (hB : ∀ m, m < N → S 35 m = nI (B m) ∧ B m < 128) {i : Nat} (hi : i < N) (X : sX) : (pas N E B r i → Run X 74 12 [some (.ref 29), some (.int (nI (pk r))), some (.int (nI (N - 1))), some (.int (nI i)), none, none, none, none] [] S = Run X 74 12 [some (.ref 29), some (.int (nI (pk r))), some (.int (nI (N - 1))), some (.int (nI (i + 1))), none, none, none, none] [] S) ∧ (¬ pas N E B r i → Run X 74 12 [some (.ref 29), some (.int (nI (pk r))), some (.int (nI (N - 1))), some (.int (nI i)), none, none, none, none] [] S = some (some (.int 0), S)) := by
  have h8 := row_lt8 hr hN
  have hl : r.length ≤ 7 := by rw [hr.1]; exact hN
  have hm := row_at_lt hr hi
  obtain ⟨b1, b2⟩ := hB _ hm
  have key : Run X 74 12 [some (.ref 29), some (.int (nI (pk r))), some (.int (nI (N - 1))), some (.int (nI i)), none, none, none, none] [] S = Run X 74 84 [some (.ref 29), some (.int (nI (pk r))), some (.int (nI (N - 1))), some (.int (nI i)), some (.int (nI (r.getD i 0))), some (.int (nI (arnd N r i))), none, none] [.int (nI (B (r.getD i 0)))] S := by
    have hg8 : ∀ j, r.getD j 0 < 8 := by
      intro j
      rcases Nat.lt_or_ge j r.length with q | q
      · exact h8 _ (getD_mem q)
      · rw [List.getD_eq_getElem?_getD, List.getElem?_eq_none q]; decide
    rw [L_X5_isAsHeld_12, if_neg (nI_nlt (by omega) (by omega)), at_ok h8 hl (by omega), cI_ok]
    unfold arnd
    by_cases c0 : i = 0
    · subst c0
      rw [if_pos (by decide), if_neg (Nat.lt_irrefl 0)]
      by_cases c1 : N - 1 ≤ 0
      · rw [if_pos (nI_le c1 (by decide)), l7, if_neg (nI_ge (by omega) (by decide)), ix_nI (by omega) (by decide), b1, if_neg (by omega)]
        rfl
      · rw [if_neg (nI_ge (by omega) (by omega)), nI_1, at_ok h8 hl (by omega), cI_ok, l7, if_neg (nI_ge (by omega) (by decide)), ix_nI (by omega) (by decide), b1, if_pos (by omega), l1, oShl_1 (by have := hg8 (0 + 1); omega), l0, or_nI]
    · have e1 : nI i - 1 = nI (i - 1) := by rw [l1, pk_sub (by omega)]
      rw [if_neg (nI_nle (by omega) (by omega)), e1, at_ok h8 hl (by omega), cI_ok, if_pos (show 0 < i by omega)]
      by_cases c1 : N - 1 ≤ i
      · rw [if_pos (nI_le c1 (by omega)), l7, if_neg (nI_ge (by omega) (by decide)), ix_nI (by omega) (by decide), b1, if_neg (by omega), l1, oShl_1 (by have := hg8 (i - 1); omega), l0, or_nI]
      · rw [if_neg (nI_ge (by omega) (by omega)), nI_1, at_ok h8 hl (by omega), cI_ok, l7, if_neg (nI_ge (by omega) (by decide)), ix_nI (by omega) (by decide), b1, if_pos (by omega), l1, oShl_1 (by have := hg8 (i - 1); omega), oShl_1 (by have := hg8 (i + 1); omega), or_nI]
  rw [key, asH_84 hN hi hE hE7 (by omega) b2]
  exact ⟨fun q => if_pos q, fun q => if_neg q⟩
theorem bits_iff {N V K : Nat} {S : sS} {r : List Nat} (H : HH N V K S) (hr : RowOK N r) : (∀ i, i < N → pas N (orf (edK S) K) (fun m => orf (bdK S m) K) r i) ↔ hok N K S r = true := by
  obtain ⟨HD0, k1, k2, m1, m2, m3, k3, k4, k5⟩ := H
  have hN := HD0.2.1
  rw [hok_iff]
  have ab : ∀ i b, (arnd N r i).testBit b = true ↔ (0 < i ∧ r.getD (i - 1) 0 = b) ∨ (i < N - 1 ∧ r.getD (i + 1) 0 = b) := by
    intro i b
    unfold arnd
    rw [Nat.testBit_or, Bool.or_eq_true]
    by_cases c0 : 0 < i <;> by_cases c1 : i < N - 1 <;> simp [c0, c1, Nat.testBit_two_pow]
  constructor
  · intro hp k hk
    rcases hd_cases (k5 k hk) with ⟨p, h1, h2, h3, h4, h5⟩ | ⟨p, q, h1, h2, h3, h4, h5, h6, h7⟩
    · left
      refine ⟨h3, ?_⟩
      obtain ⟨i, hi, e⟩ := row_ex hr h1
      have := (hp i hi).2
      have eb : (orf (edK S) K).testBit (r.getD i 0) = true := (orf_bit _ _ _).mpr ⟨k, hk, (edK_bit (k5 k hk) hN (by omega)).mpr ⟨h3, by rw [h2, e]⟩⟩
      rw [h2]
      by_cases c0 : i = 0
      · left; rw [← e, c0]
      · right
        have : i = N - 1 := by
          apply Classical.byContradiction
          intro hne
          exact this ⟨by omega, by omega, eb⟩
        rw [← this, e]
    · right
      have hne : S 52 k ≠ -1 := by rw [h5]; exact nI_nem1 (by omega)
      refine ⟨hne, ?_⟩
      obtain ⟨i, hi, e⟩ := row_ex hr h1
      have h0 := (hp i hi).1
      have eb : (orf (bdK S (r.getD i 0)) K).testBit q = true := (orf_bit _ _ _).mpr ⟨k, hk, (bdK_bit (k5 k hk) hN (by omega) (by omega)).mpr ⟨hne, Or.inl ⟨by rw [h4, e], h5⟩⟩⟩
      rcases (ab i q).mp (andn_0.mp h0 q eb) with ⟨c0, e2⟩ | ⟨c0, e2⟩
      · refine ⟨i - 1, by omega, Or.inr ⟨by rw [e2, h5], ?_⟩⟩
        rw [show i - 1 + 1 = i by omega, e, h4]
      · exact ⟨i, by omega, Or.inl ⟨by rw [e, h4], by rw [e2, h5]⟩⟩
  · intro hh i hi
    refine ⟨andn_0.mpr fun b hb => ?_, fun ⟨c0, c1, c2⟩ => ?_⟩
    · obtain ⟨k, hk, hb⟩ := (orf_bit _ _ _).mp hb
      have hm := row_at_lt hr hi
      have hb7 : b < 7 := by
        have := lt_pow_iff.mp (bdK_lt (m := r.getD i 0) (k5 k hk) hN) b hb
        exact this
      obtain ⟨hne, hb⟩ := (bdK_bit (k5 k hk) hN hm (by omega)).mp hb
      rcases hh k hk with ⟨q, _⟩ | ⟨_, j, hj, hj2⟩
      · exact absurd q hne
      · have hj1 := row_at_lt hr (i := j) (by omega)
        have hj3 := row_at_lt hr (i := j + 1) (by omega)
        have sol : (r.getD j 0 = r.getD i 0 ∧ r.getD (j + 1) 0 = b) ∨ (r.getD j 0 = b ∧ r.getD (j + 1) 0 = r.getD i 0) := by
          have inj : ∀ x y, x < 2 ^ 31 → y < 2 ^ 31 → nI x = nI y → x = y := fun x y h1 h2 h => (nI_eq h1 h2).mp h
          rcases hb with ⟨e1, e2⟩ | ⟨e1, e2⟩
          · rcases hj2 with ⟨g1, g2⟩ | ⟨g1, g2⟩
            · exact Or.inl ⟨inj _ _ (by omega) (by omega) (g1.trans e1), inj _ _ (by omega) (by omega) (g2.trans e2)⟩
            · exact Or.inr ⟨inj _ _ (by omega) (by omega) (g1.trans e2), inj _ _ (by omega) (by omega) (g2.trans e1)⟩
          · rcases hj2 with ⟨g1, g2⟩ | ⟨g1, g2⟩
            · exact Or.inr ⟨inj _ _ (by omega) (by omega) (g1.trans e1), inj _ _ (by omega) (by omega) (g2.trans e2)⟩
            · exact Or.inl ⟨inj _ _ (by omega) (by omega) (g1.trans e2), inj _ _ (by omega) (by omega) (g2.trans e1)⟩
        rcases sol with ⟨g1, g2⟩ | ⟨g1, g2⟩
        · have := row_inj hr (by omega) hi g1
          subst this
          exact (ab _ b).mpr (Or.inr ⟨by omega, g2⟩)
        · have := row_inj hr (by omega) hi g2
          subst this
          exact (ab _ b).mpr (Or.inl ⟨by omega, g1⟩)
    · obtain ⟨k, hk, hb⟩ := (orf_bit _ _ _).mp c2
      have hm := row_at_lt hr hi
      obtain ⟨h3, h2⟩ := (edK_bit (k5 k hk) hN (by omega)).mp hb
      rcases hh k hk with ⟨_, q⟩ | ⟨q, _⟩
      · rw [h2] at q
        have g0 := row_at_lt hr (i := 0) (by omega)
        have g1 := row_at_lt hr (i := N - 1) (by omega)
        rw [nI_eq (by omega) (by omega), nI_eq (by omega) (by omega)] at q
        rcases q with q | q
        · have := row_inj hr (by omega) hi q; omega
        · have := row_inj hr (by omega) hi q; omega
      · exact q h3
theorem isAsHeld_ok {N V K : Nat} {S T : sS} {r : List Nat} (H : HH N V K S) (hr : RowOK N r) (h0 : T 1 0 = nI N) (hE : T 29 8 = nI (orf (edK S) K)) (hB : ∀ m, m < N → T 35 m = nI (orf (bdK S m) K)) (X : sX) : Cal X 74 [.ref 29, .int (nI (pk r))] T = some (some (.int (bI (hok N K S r))), T) := by
  have hN := H.1.2.1
  have k5 := H.2.2.2.2.2.2.2.2
  have hE7 : orf (edK S) K < 128 := orf_lt (n := 7) K (fun j hj => edK_lt (k5 j hj) hN)
  have hB7 : ∀ m, m < N → T 35 m = nI (orf (bdK S m) K) ∧ orf (bdK S m) K < 128 := fun m hm => ⟨hB m hm, orf_lt (n := 7) K (fun j hj => bdK_lt (k5 j hj) hN)⟩
  rw [C_X5_isAsHeld, C_X1_members, cI_ok, h0]
  cases N with
  | zero =>
    have : hok 0 K S r = true := (bits_iff H hr).mp (fun i hi => absurd hi (Nat.not_lt_zero i))
    rw [this, L_X5_isAsHeld_12, if_pos (by decide)]
    rfl
  | succ N =>
    rw [show nI (N + 1) - 1 = nI (N + 1 - 1) by rw [nI_pred, Nat.add_sub_cancel]]
    have lp := loop_ex (F := fun i => Run X 74 12 [some (.ref 29), some (.int (nI (pk r))), some (.int (nI (N + 1 - 1))), some (.int (nI i)), none, none, none, none] [] T) (P := fun i => ¬ pas (N + 1) (orf (edK S) K) (fun m => orf (bdK S m) K) r i) (r := some (some (.int 0), T)) (e := some (some (.int 1), T)) (N + 1) (fun i hi q => (asH_step hr hN hE hE7 hB7 hi X).2 q) (fun i hi q => (asH_step hr hN hE hE7 hB7 hi X).1 (Classical.not_not.mp q)) (by
      show Run X 74 12 _ [] T = _
      rw [L_X5_isAsHeld_12, if_pos (nI_lt (by omega) (by omega))])
    cases hb : hok (N + 1) K S r with
    | true =>
      have := (bits_iff H hr).mpr hb
      exact lp.2 fun i hi q => q (this i hi)
    | false =>
      refine lp.1 ?_
      apply Classical.byContradiction
      intro hn
      have : hok (N + 1) K S r = true := (bits_iff H hr).mp fun i hi => Classical.byContradiction fun q => hn ⟨i, hi, q⟩
      rw [hb] at this
      cases this
