/-! the text, as both read it -/
def mixS (S T : sS) : sS := fun c => bif Nat.blt c 43 then S c else T c
theorem mix_fr {L : List Nat} {F : List (Nat × Nat)} {S S' T T' : sS} (h : fr L F S S') (h' : fr L F T T') : fr L F (mixS S T) (mixS S' T') := by
  intro c j hc hj
  unfold mixS
  cases Nat.blt c 43
  · exact h' c j hc hj
  · exact h c j hc hj
def st (S : sS) (p f : Int32) : sS := up2 (up2 S 23 3 p) 23 4 f
def ma (T : sS) (p : Int32) : sS := up2 T 43 17 p
theorem st_p (S : sS) (p f q : Int32) : up2 (st S p f) 23 3 q = st S q f := by
  funext c j
  simp only [st, up2_ap]
  by_cases h1 : c = 23 ∧ j = 3 <;> by_cases h2 : c = 23 ∧ j = 4 <;> simp [h1, h2]
theorem st_f (S : sS) (p f q : Int32) : up2 (st S p f) 23 4 q = st S p q := by
  funext c j
  simp only [st, up2_ap]
  by_cases h1 : c = 23 ∧ j = 3 <;> by_cases h2 : c = 23 ∧ j = 4 <;> simp [h1, h2]
theorem ma_p (T : sS) (p q : Int32) : up2 (ma T p) 43 17 q = ma T q := by
  funext c j
  simp only [ma, up2_ap]
  by_cases h1 : c = 43 ∧ j = 17 <;> simp [h1]
theorem st_2 (S : sS) (p f : Int32) : st S p f 23 2 = S 23 2 := rfl
theorem st_3 (S : sS) (p f : Int32) : st S p f 23 3 = p := rfl
theorem st_4 (S : sS) (p f : Int32) : st S p f 23 4 = f := rfl
theorem st_24 (S : sS) (p f : Int32) : st S p f 24 = S 24 := rfl
theorem ma_16 (T : sS) (p : Int32) : ma T p 43 16 = T 43 16 := rfl
theorem ma_17 (T : sS) (p : Int32) : ma T p 43 17 = p := rfl
theorem ma_55 (T : sS) (p : Int32) : ma T p 55 = T 55 := rfl
theorem up2_com (S : sS) {k k' : Nat} (j j' : Nat) (v v' : Int32) (h : k ≠ k') : up2 (up2 S k j v) k' j' v' = up2 (up2 S k' j' v') k j v := by
  funext c i
  simp only [up2_ap]
  by_cases h1 : c = k ∧ i = j
  · have h2 : ¬ (c = k' ∧ i = j') := fun q => h (h1.1.symm.trans q.1)
    rw [if_neg h2, if_pos h1, if_pos h1]
  · rw [if_neg h1, if_neg h1]
theorem st_up2 (S : sS) (p f : Int32) {k : Nat} (j : Nat) (v : Int32) (h : k ≠ 23) : up2 (st S p f) k j v = st (up2 S k j v) p f := by
  unfold st
  rw [up2_com _ _ _ _ _ (Ne.symm h), up2_com _ _ _ _ _ (Ne.symm h)]
theorem ma_up2 (T : sS) (p : Int32) {k : Nat} (j : Nat) (v : Int32) (h : k ≠ 43) : up2 (ma T p) k j v = ma (up2 T k j v) p := by
  unfold ma
  rw [up2_com _ _ _ _ _ (Ne.symm h)]
theorem ma_up43 (T : sS) (p : Int32) {j : Nat} (v : Int32) (h : j ≠ 17) : up2 (ma T p) 43 j v = ma (up2 T 43 j v) p := by
  funext c i
  simp only [ma, up2_ap]
  by_cases h1 : c = 43 ∧ i = 17
  · have h2 : ¬ (c = 43 ∧ i = j) := fun q => h (q.2.symm.trans h1.2)
    rw [if_neg h2, if_pos h1, if_pos h1]
  · rw [if_neg h1, if_neg h1]
def fl (f q : Int32) : Int32 := if f = -9 then q else f
theorem fl_n {f : Int32} (h : f ≠ -9) (q : Int32) : fl f q = f := if_neg h
theorem fl_y (q : Int32) : fl (-9) q = q := if_pos rfl
theorem nI_nem9 {a : Nat} (ha : a < 2 ^ 31) : nI a ≠ -9 := by
  intro h
  have := nI_pos' ha
  rw [h] at this
  exact absurd this (by decide)
theorem fail_ok (X : sX) (S : sS) (p f q : Int32) : Cal X 9 [.ref 23, .int q] (st S p f) = some (none, st S p (fl f q)) := by
  rw [C_X0_fail, st_4]
  unfold fl
  by_cases h : f = -9
  · rw [if_pos h, if_pos h, st_f]
  · rw [if_neg h, if_neg h]
/-- a text of L signs -/
def TX (L : Nat) (S : sS) : Prop := L ≤ 90 ∧ S 23 2 = nI L ∧ ∀ j, j < L → ∃ t, t < 256 ∧ S 24 j = nI t
def TM (L : Nat) (S T : sS) : Prop := T 43 16 = nI L ∧ ∀ j, j < L → T 55 j = S 24 j
def tx (L : Nat) (S : sS) (k : Nat) : Int32 := if k < L then S 24 k else -1
theorem next_a {L : Nat} {S : sS} (h : TX L S) (p f : Int32) (X : sX) : ∃ r, Cal X 10 [.ref 23] (st S p f) = some (some (.int r), st S p f) := by
  rw [C_X0_next, st_3, st_2, h.2.1]
  by_cases h1 : p < 0
  · exact ⟨_, if_pos h1⟩
  · rw [if_neg h1]
    by_cases h2 : nI L ≤ p
    · exact ⟨_, if_pos h2⟩
    · rw [if_neg h2]
      rcases pk_ix p (n := L) (by have := h.1; omega) with q | q | ⟨j, hj, rfl⟩
      · exact absurd q h1
      · exact absurd q h2
      · rw [ix_nI (by have := h.1; omega) (by decide)]
        exact ⟨_, rfl⟩
theorem next_ok {L : Nat} {S : sS} (h : TX L S) {k : Nat} (hk : k < 2 ^ 31) (f : Int32) (X : sX) : Cal X 10 [.ref 23] (st S (nI k) f) = some (some (.int (tx L S k)), st S (nI k) f) := by
  have := h.1
  rw [C_X0_next, st_3, st_2, h.2.1, if_neg (nI_pos hk)]
  unfold tx
  by_cases h2 : k < L
  · rw [if_neg (nI_ge h2 (by omega)), if_pos h2, ix_nI (by omega) (by decide), st_24]
  · rw [if_pos (nI_le (by omega) hk), if_neg h2]
theorem sign_ok {L : Nat} {S T : sS} (hL : L ≤ 90) (h : TM L S T) {k : Nat} (hk : k < 2 ^ 31) (X : sX) : Cal X 169 [.ref 43] (ma T (nI k)) = some (some (.int (tx L S k)), ma T (nI k)) := by
  rw [C_X9_sign, ma_16, ma_17, h.1]
  unfold tx
  by_cases h2 : k < L
  · rw [if_neg (nI_ge h2 (by omega)), if_pos h2, ix_nI (by omega) (by decide), ma_55, h.2 k h2]
  · rw [if_pos (nI_le (by omega) hk), if_neg h2]
theorem tx_cases {L : Nat} {S : sS} (h : TX L S) (k : Nat) : tx L S k = -1 ∨ ∃ t, t < 256 ∧ tx L S k = nI t := by
  unfold tx
  by_cases h2 : k < L
  · rw [if_pos h2]; exact Or.inr (h.2.2 k h2)
  · rw [if_neg h2]; exact Or.inl rfl
/-! one sign -/
theorem expect_f {L : Nat} {S : sS} (h : TX L S) {p f c : Int32} (hf : f ≠ -9) (X : sX) : ∃ p', Cal X 12 [.ref 23, .int c] (st S p f) = some (none, st S p' f) := by
  obtain ⟨r, e⟩ := next_a h p f X
  rw [C_X0_expect, e, cI_ok]
  by_cases q : r = c
  · rw [if_pos q, st_p]; exact ⟨_, rfl⟩
  · rw [if_neg q, fail_ok, fl_n hf, cV_ok, st_p]; exact ⟨_, rfl⟩
theorem expect_y {L : Nat} {S : sS} (h : TX L S) {k : Nat} (hk : k < 2 ^ 31) {c : Int32} (hc : tx L S k = c) (X : sX) : Cal X 12 [.ref 23, .int c] (st S (nI k) (-9)) = some (none, st S (nI (k + 1)) (-9)) := by
  rw [C_X0_expect, next_ok h hk, cI_ok, if_pos hc, st_p, st_3, nI_1]
theorem expect_n {L : Nat} {S : sS} (h : TX L S) {k : Nat} (hk : k < 2 ^ 31) {c : Int32} (hc : ¬ tx L S k = c) (X : sX) : Cal X 12 [.ref 23, .int c] (st S (nI k) (-9)) = some (none, st S (nI (k + 1)) (nI k)) := by
  rw [C_X0_expect, next_ok h hk, cI_ok, if_neg hc, st_3, fail_ok, fl_y, cV_ok, st_p, st_3, nI_1]
theorem takes_y {L : Nat} {S T : sS} (hL : L ≤ 90) (h : TM L S T) {k : Nat} (hk : k < 2 ^ 31) {c : Int32} (hc : tx L S k = c) (X : sX) : Cal X 170 [.ref 43, .int c] (ma T (nI k)) = some (some (.int 1), ma T (nI (k + 1))) := by
  rw [C_X9_takes, sign_ok hL h hk, cI_ok, if_pos hc, ma_p, ma_17, nI_1]
theorem takes_n {L : Nat} {S T : sS} (hL : L ≤ 90) (h : TM L S T) {k : Nat} (hk : k < 2 ^ 31) {c : Int32} (hc : ¬ tx L S k = c) (X : sX) : Cal X 170 [.ref 43, .int c] (ma T (nI k)) = some (some (.int 0), ma T (nI k)) := by
  rw [C_X9_takes, sign_ok hL h hk, cI_ok, if_neg hc]
theorem l48 : (48 : Int32) = nI 48 := rfl
theorem digit_f {L : Nat} {S : sS} (h : TX L S) {p f b : Int32} (hf : f ≠ -9) (X : sX) : ∃ r p', Cal X 14 [.ref 23, .int b] (st S p f) = some (some (.int r), st S p' f) := by
  obtain ⟨r, e⟩ := next_a h p f X
  rw [C_X0_digit, e, cI_ok, fail_ok, fl_n hf, cV_ok, st_p]
  by_cases q : r - 48 < 0
  · rw [if_pos q]; exact ⟨_, _, rfl⟩
  · rw [if_neg q]
    by_cases q2 : 9 < r - 48
    · rw [if_pos q2]; exact ⟨_, _, rfl⟩
    · rw [if_neg q2]
      by_cases q3 : r - 48 < b
      · rw [if_pos q3]; exact ⟨_, _, rfl⟩
      · rw [if_neg q3]; exact ⟨_, _, rfl⟩
theorem e48 (d : Nat) : nI (48 + d) - 48 = nI d := by rw [l48, pk_sub (by omega), Nat.add_sub_cancel_left]
theorem digit_y {L : Nat} {S : sS} (h : TX L S) {k d B : Nat} (hk : k < 2 ^ 31) (hB : B ≤ 10) (hd : d < B) (e : tx L S k = nI (48 + d)) (f : Int32) (X : sX) : Cal X 14 [.ref 23, .int (nI B)] (st S (nI k) f) = some (some (.int (nI d)), st S (nI (k + 1)) f) := by
  rw [C_X0_digit, next_ok h hk, cI_ok, e, e48, if_neg (nI_pos (by omega)), l9, if_neg (nI_nlt (by omega) (by omega)), if_pos (nI_lt hd (by omega)), st_p, st_3, nI_1]
theorem notD {x : Int32} {B : Nat} (hx : x = -1 ∨ ∃ t, t < 256 ∧ x = nI t) (h : ∀ d, d < B → x ≠ nI (48 + d)) : x - 48 < 0 ∨ (¬ x - 48 < 0 ∧ nI B ≤ x - 48 ∧ (nI 9 < x - 48 ∨ ¬ nI 9 < x - 48)) := by
  rcases hx with rfl | ⟨t, ht, rfl⟩
  · left; decide
  · by_cases q : t < 48
    · left
      rw [l48]
      exact pk_sneg (by decide) q
    · right
      have e : nI t - 48 = nI (t - 48) := by rw [l48, pk_sub (by omega)]
      rw [e]
      refine ⟨nI_pos (by omega), ?_, Classical.em _⟩
      refine nI_le ?_ (by omega)
      apply Classical.byContradiction
      intro hlt
      exact h (t - 48) (by omega) (by rw [show 48 + (t - 48) = t by omega])
theorem digit_n {L : Nat} {S : sS} (h : TX L S) {k B : Nat} (hk : k < 2 ^ 31) (hd : ∀ d, d < B → tx L S k ≠ nI (48 + d)) (X : sX) : Cal X 14 [.ref 23, .int (nI B)] (st S (nI k) (-9)) = some (some (.int 0), st S (nI k) (nI k)) := by
  rw [C_X0_digit, next_ok h hk, cI_ok, st_3, fail_ok, fl_y, cV_ok]
  rcases notD (tx_cases h k) hd with q | ⟨q1, q2, q3 | q3⟩
  · rw [if_pos q]
  · rw [if_neg q1, l9, if_pos q3]
  · rw [if_neg q1, l9, if_neg q3, if_neg (Int32.not_lt.mpr q2)]
theorem mdig_y {L : Nat} {S T : sS} (hL : L ≤ 90) (h : TM L S T) {k d B : Nat} (hk : k < 2 ^ 31) (hB : B ≤ 10) (hd : d < B) (e : tx L S k = nI (48 + d)) (X : sX) : Cal X 172 [.ref 43, .int (nI B)] (ma T (nI k)) = some (some (.int (nI d)), ma T (nI (k + 1))) := by
  rw [C_X9_digit, sign_ok hL h hk, cI_ok, e, e48, mI_y (nI_pos (by omega)), cI_ok, if_neg (by decide), ma_p, ma_17, nI_1]
  rw [l1, pk_sub (by omega)]
  exact nI_nlt (by omega) (by omega)
theorem mdig_n {L : Nat} {S T : sS} (hL : L ≤ 90) (hX : TX L S) (h : TM L S T) {k B : Nat} (hk : k < 2 ^ 31) (hB : B ≤ 10) (hd : ∀ d, d < B → tx L S k ≠ nI (48 + d)) (X : sX) : Cal X 172 [.ref 43, .int (nI B)] (ma T (nI k)) = some (some (.int (-1)), ma T (nI k)) := by
  rw [C_X9_digit, sign_ok hL h hk, cI_ok, mI_n, cI_ok, if_pos rfl]
  rcases notD (tx_cases hX k) hd with q | ⟨q1, q2, _⟩
  · exact Or.inl q
  · right
    refine Int32.lt_of_lt_of_le ?_ q2
    cases B with
    | zero => decide
    | succ B => rw [nI_pred]; exact nI_lt (by omega) (by omega)
/-! numbers -/
def isD (L : Nat) (S : sS) (k d : Nat) : Prop := d < 10 ∧ tx L S k = nI (48 + d)
def NU (L : Nat) (S : sS) (k n k' : Nat) : Prop := (isD L S k n ∧ k' = k + 1 ∧ (n = 0 ∨ ∀ d, d < 10 → tx L S (k + 1) ≠ nI (48 + d))) ∨ (∃ d1 d2, isD L S k d1 ∧ d1 ≠ 0 ∧ isD L S (k + 1) d2 ∧ n = 10 * d1 + d2 ∧ k' = k + 2)
theorem NU_ex (L : Nat) (S : sS) (k : Nat) : (∃ n k', NU L S k n k') ∨ ∀ d, d < 10 → tx L S k ≠ nI (48 + d) := by
  by_cases h : ∃ d, isD L S k d
  · left
    obtain ⟨d, hd⟩ := h
    by_cases h0 : d = 0
    · exact ⟨d, k + 1, Or.inl ⟨hd, rfl, Or.inl h0⟩⟩
    · by_cases h2 : ∃ d2, isD L S (k + 1) d2
      · obtain ⟨d2, hd2⟩ := h2
        exact ⟨10 * d + d2, k + 2, Or.inr ⟨d, d2, hd, h0, hd2, rfl, rfl⟩⟩
      · exact ⟨d, k + 1, Or.inl ⟨hd, rfl, Or.inr fun d2 q1 q2 => h2 ⟨d2, q1, q2⟩⟩⟩
  · exact Or.inr fun d q1 q2 => h ⟨d, q1, q2⟩
theorem NU_b {L : Nat} {S : sS} {k n k' : Nat} (h : NU L S k n k') : n < 100 ∧ k < k' ∧ k' ≤ k + 2 := by
  rcases h with ⟨⟨h1, _⟩, h2, _⟩ | ⟨d1, d2, ⟨h1, _⟩, _, ⟨h2, _⟩, h3, h4⟩ <;> omega
theorem l57 : (57 : Int32) = nI 57 := rfl
theorem notM {x : Int32} (hx : x = -1 ∨ ∃ t, t < 256 ∧ x = nI t) (h : ∀ d, d < 10 → x ≠ nI (48 + d)) : x < 48 ∨ (¬ x < 48 ∧ 57 < x) := by
  rcases hx with rfl | ⟨t, ht, rfl⟩
  · left; decide
  · by_cases q : t < 48
    · left; rw [l48]; exact nI_lt q (by decide)
    · right
      rw [l48, l57]
      refine ⟨nI_nlt (by omega) (by omega), nI_lt ?_ (by omega)⟩
      apply Classical.byContradiction
      intro hlt
      exact h (t - 48) (by omega) (by rw [show 48 + (t - 48) = t by omega])
theorem num_f {L : Nat} {S : sS} (h : TX L S) {p f : Int32} (hf : f ≠ -9) (X : sX) : ∃ r p', Cal X 15 [.ref 23] (st S p f) = some (some (.int r), st S p' f) := by
  obtain ⟨r, p', e⟩ := digit_f h (b := 10) hf X (p := p)
  obtain ⟨r2, e2⟩ := next_a h p' f X
  rw [C_X0_number, e, cI_ok, e2, cI_ok, st_4, if_neg hf, e2, cI_ok, st_4, if_neg hf, if_neg hf]
  by_cases q : r2 < 48
  · rw [if_pos q]; exact ⟨_, _, rfl⟩
  · rw [if_neg q]
    by_cases q2 : 57 < r2
    · rw [if_pos q2]; exact ⟨_, _, rfl⟩
    · rw [if_neg q2]; exact ⟨_, _, rfl⟩
theorem num_n {L : Nat} {S : sS} (h : TX L S) {k : Nat} (hk : k < 2 ^ 31) (hd : ∀ d, d < 10 → tx L S k ≠ nI (48 + d)) (X : sX) : ∃ r, Cal X 15 [.ref 23] (st S (nI k) (-9)) = some (some (.int r), st S (nI k) (nI k)) := by
  have e := digit_n h hk (B := 10) hd X
  obtain ⟨r2, e2⟩ := next_a h (nI k) (nI k) X
  have hf : nI k ≠ -9 := nI_nem9 hk
  rw [C_X0_number, l10, e, cI_ok, e2, cI_ok, st_4, if_neg hf, e2, cI_ok, st_4, if_neg hf, if_neg hf]
  by_cases q : r2 < 48
  · rw [if_pos q]; exact ⟨_, rfl⟩
  · rw [if_neg q]
    by_cases q2 : 57 < r2
    · rw [if_pos q2]; exact ⟨_, rfl⟩
    · rw [if_neg q2]; exact ⟨_, rfl⟩
theorem num_y {L : Nat} {S : sS} (h : TX L S) {k n k' : Nat} (hk : k < 2 ^ 20) (hn : NU L S k n k') (X : sX) : Cal X 15 [.ref 23] (st S (nI k) (-9)) = some (some (.int (nI n)), st S (nI k') (-9)) := by
  rw [C_X0_number, l10]
  rcases hn with ⟨⟨h1, h2⟩, rfl, h3⟩ | ⟨d1, d2, ⟨h1, h2⟩, h3, ⟨h4, h5⟩, rfl, rfl⟩
  · rw [digit_y h (by omega) (Nat.le_refl _) h1 h2, cI_ok, next_ok h (by omega), cI_ok, st_4, if_pos rfl, if_pos rfl, next_ok h (by omega), cI_ok, st_4, if_pos rfl, if_pos rfl]
    rcases h3 with rfl | h3
    · rw [if_pos nI_0]
      by_cases q : tx L S (k + 1) < 48
      · rw [if_pos q]
      · rw [if_neg q]
        by_cases q2 : 57 < tx L S (k + 1)
        · rw [if_pos q2]
        · rw [if_neg q2]
          rfl
    · rcases notM (tx_cases h (k + 1)) h3 with q | ⟨q1, q2⟩
      · rw [if_pos q]
        by_cases q0 : nI n = 0
        · rw [if_pos q0]
        · rw [if_neg q0]
      · rw [if_neg q1, if_pos q2]
        by_cases q0 : nI n = 0
        · rw [if_pos q0]
        · rw [if_neg q0]
  · rw [digit_y h (by omega) (Nat.le_refl _) h1 h2, cI_ok, next_ok h (by omega), cI_ok, h5, l48, if_neg (nI_nlt (by omega) (by omega)), next_ok h (by omega), cI_ok, h5, l57, if_neg (nI_nlt (by omega) (by omega)), st_4, if_pos rfl, if_neg (nI_ne0 (by omega) (by omega)), if_neg (by decide), digit_y h (by omega) (Nat.le_refl _) h4 h5, cI_ok, pk_mul, nI_add]
theorem mnum_y {L : Nat} {S T : sS} (hX : TX L S) (h : TM L S T) {k n k' : Nat} (hk : k < 2 ^ 20) (hn : NU L S k n k') (X : sX) : Cal X 171 [.ref 43] (ma T (nI k)) = some (some (.int (nI n)), ma T (nI k')) := by
  have hL := hX.1
  rw [C_X9_number, sign_ok hL h (by omega), cI_ok]
  rcases hn with ⟨⟨h1, h2⟩, rfl, h3⟩ | ⟨d1, d2, ⟨h1, h2⟩, h3, ⟨h4, h5⟩, rfl, rfl⟩
  · rw [h2, e48, mI_y (nI_pos (by omega)) (by rw [l9]; exact nI_nlt (by omega) (by omega)), cI_ok, if_neg (by decide), ma_p, ma_17, nI_1]
    by_cases q0 : n = 0
    · subst q0
      rw [if_pos nI_0]
    · rw [if_neg (nI_ne0 (by omega) (by omega)), sign_ok hL h (by omega), cI_ok, mI_n, cI_ok, if_pos rfl]
      rcases notM (tx_cases hX (k + 1)) (h3.resolve_left q0) with q | ⟨q1, q2⟩
      · exact Or.inl q
      · exact Or.inr q2
  · rw [h2, e48, mI_y (nI_pos (by omega)) (by rw [l9]; exact nI_nlt (by omega) (by omega)), cI_ok, if_neg (by decide), ma_p, ma_17, nI_1, if_neg (nI_ne0 (by omega) (by omega)), sign_ok hL h (by omega), cI_ok, h5, mI_y (by rw [l48]; exact nI_nlt (by omega) (by omega)) (by rw [l57]; exact nI_nlt (by omega) (by omega)), cI_ok, if_neg (by decide), sign_ok hL h (by omega), cI_ok, h5, ma_p, ma_17, nI_1, l10, pk_mul, nI_add, l48, pk_sub (by omega)]
    rw [show 10 * d1 + (48 + d2) - 48 = 10 * d1 + d2 by omega]
theorem mnum_n {L : Nat} {S T : sS} (hX : TX L S) (h : TM L S T) {k : Nat} (hk : k < 2 ^ 20) (hd : ∀ d, d < 10 → tx L S k ≠ nI (48 + d)) (X : sX) : Cal X 171 [.ref 43] (ma T (nI k)) = some (some (.int (-1)), ma T (nI k)) := by
  rw [C_X9_number, sign_ok hX.1 h (by omega), cI_ok, mI_n, cI_ok, if_pos rfl]
  rcases notD (B := 10) (tx_cases hX k) hd with q | ⟨q1, q2, _⟩
  · exact Or.inl q
  · right
    exact Int32.lt_of_lt_of_le (by decide) q2
