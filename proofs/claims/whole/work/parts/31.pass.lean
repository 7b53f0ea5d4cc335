/-! the image -/
theorem fr_same {L : List Nat} {F : List (Nat × Nat)} {S S' : sS} {k j : Nat} {v : Int32} (h : fr L F S S') (hv : v = S k j) : fr L F S (up2 S' k j v) := fun c i hc hi => by
  rw [up2_ap]
  by_cases q : c = k ∧ i = j
  · rw [if_pos q, hv, q.1, q.2]
  · rw [if_neg q]
    exact h c i hc hi
theorem pi_45 {off : Nat} (ho : off + 7 ≤ 200) (X : sX) (S : sS) (h45 : S 43 45 = nI off) (h44 : S 43 44 = 1) : ∃ S', Cal X 224 [.ref 43, .ref 45] S = some (none, S') ∧ fr [64] [(43, 45)] S S' ∧ S' 43 45 = nI (off + 7) ∧ (∀ j, S' 64 j = if off ≤ j ∧ j < off + 7 then S 45 (j - off) else S 64 j) := by
  rw [C_X9_passes_45]
  obtain ⟨S1, ⟨a1, a2, a3⟩, e⟩ := loop_P (F := fun k T => Run X 224 2 [some (.ref 43), some (.ref 45), some (.int (nI k))] [] T) (P := fun k T => fr [64] [(43, 45)] S T ∧ T 43 45 = nI (off + k) ∧ ∀ j, T 64 j = if off ≤ j ∧ j < off + k then S 45 (j - off) else S 64 j) 7 (by
    intro k hk T ⟨b1, b2, b3⟩
    have t44 : T 43 44 = 1 := by rw [fr_fld b1 43 44 (by decide) (by decide)]; exact h44
    have tc : T 45 = S 45 := fr_cell b1 45 (by decide) (by decide)
    refine ⟨up2 (up2 T 64 (off + k) (S 45 k)) 43 45 (nI (off + k + 1)), ⟨fr_upF (fr_upL b1 (by decide)) (by decide), rfl, ?_⟩, ?_⟩
    · intro j
      rw [up2_ne _ _ _ (show 64 ≠ 43 by decide), up2_at]
      by_cases hq : j = off + k
      · subst hq; rw [upd_at, if_pos (by omega), Nat.add_sub_cancel_left]
      · rw [upd_ne _ _ hq, b3 j]
        by_cases hr : off ≤ j ∧ j < off + k
        · rw [if_pos hr, if_pos (by omega)]
        · rw [if_neg hr, if_neg (by omega)]
    · show Run X 224 2 _ [] T = Run X 224 2 _ [] _
      rw [L_X9_passes_45_2, l7, if_neg (nI_ge hk (by decide)), t44, if_neg (by decide), ix_nI hk (by decide), b2, ix_nI (by omega) (by decide), tc, nI_1, nI_1]) 0 (Nat.zero_le _) S ⟨fr_rfl, h45, fun j => by rw [if_neg (by omega)]⟩
  refine ⟨S1, e.trans ?_, a1, a2, a3⟩
  show Run X 224 2 _ [] S1 = _
  rw [L_X9_passes_45_2, l7, if_pos (nI_le (Nat.le_refl _) (by decide))]
theorem pr_45 {off : Nat} (ho : off + 7 ≤ 200) (X : sX) (S : sS) (h45 : S 43 45 = nI off) (h44 : S 43 44 = 0) : ∃ S', Cal X 224 [.ref 43, .ref 45] S = some (none, S') ∧ fr [45] [(43, 45)] S S' ∧ S' 43 45 = nI (off + 7) ∧ (∀ j, j < 7 → S' 45 j = S 64 (off + j)) := by
  rw [C_X9_passes_45]
  obtain ⟨S1, ⟨a1, a2, a3⟩, e⟩ := loop_P (F := fun k T => Run X 224 2 [some (.ref 43), some (.ref 45), some (.int (nI k))] [] T) (P := fun k T => fr [45] [(43, 45)] S T ∧ T 43 45 = nI (off + k) ∧ ∀ j, j < k → T 45 j = S 64 (off + j)) 7 (by
    intro k hk T ⟨b1, b2, b3⟩
    have t44 : T 43 44 = 0 := by rw [fr_fld b1 43 44 (by decide) (by decide)]; exact h44
    have tc : T 64 = S 64 := fr_cell b1 64 (by decide) (by decide)
    refine ⟨up2 (up2 T 45 k (S 64 (off + k))) 43 45 (nI (off + k + 1)), ⟨fr_upF (fr_upL b1 (by decide)) (by decide), rfl, ?_⟩, ?_⟩
    · intro j hj
      rw [up2_ne _ _ _ (show 45 ≠ 43 by decide), up2_at]
      by_cases hq : j = k
      · subst hq; rw [upd_at]
      · rw [upd_ne _ _ hq, b3 j (by omega)]
    · show Run X 224 2 _ [] T = Run X 224 2 _ [] _
      rw [L_X9_passes_45_2, l7, if_neg (nI_ge hk (by decide)), t44, if_pos rfl, b2, ix_nI (by omega) (by decide), ix_nI hk (by decide), tc, nI_1, nI_1]) 0 (Nat.zero_le _) S ⟨fr_rfl, h45, fun j hj => absurd hj (Nat.not_lt_zero j)⟩
  refine ⟨S1, e.trans ?_, a1, a2, a3⟩
  show Run X 224 2 _ [] S1 = _
  rw [L_X9_passes_45_2, l7, if_pos (nI_le (Nat.le_refl _) (by decide))]
theorem pi_46 {off : Nat} (ho : off + 7 ≤ 200) (X : sX) (S : sS) (h45 : S 43 45 = nI off) (h44 : S 43 44 = 1) : ∃ S', Cal X 224 [.ref 43, .ref 46] S = some (none, S') ∧ fr [64] [(43, 45)] S S' ∧ S' 43 45 = nI (off + 7) ∧ (∀ j, S' 64 j = if off ≤ j ∧ j < off + 7 then S 46 (j - off) else S 64 j) := by
  rw [C_X9_passes_46]
  obtain ⟨S1, ⟨a1, a2, a3⟩, e⟩ := loop_P (F := fun k T => Run X 224 2 [some (.ref 43), some (.ref 46), some (.int (nI k))] [] T) (P := fun k T => fr [64] [(43, 45)] S T ∧ T 43 45 = nI (off + k) ∧ ∀ j, T 64 j = if off ≤ j ∧ j < off + k then S 46 (j - off) else S 64 j) 7 (by
    intro k hk T ⟨b1, b2, b3⟩
    have t44 : T 43 44 = 1 := by rw [fr_fld b1 43 44 (by decide) (by decide)]; exact h44
    have tc : T 46 = S 46 := fr_cell b1 46 (by decide) (by decide)
    refine ⟨up2 (up2 T 64 (off + k) (S 46 k)) 43 45 (nI (off + k + 1)), ⟨fr_upF (fr_upL b1 (by decide)) (by decide), rfl, ?_⟩, ?_⟩
    · intro j
      rw [up2_ne _ _ _ (show 64 ≠ 43 by decide), up2_at]
      by_cases hq : j = off + k
      · subst hq; rw [upd_at, if_pos (by omega), Nat.add_sub_cancel_left]
      · rw [upd_ne _ _ hq, b3 j]
        by_cases hr : off ≤ j ∧ j < off + k
        · rw [if_pos hr, if_pos (by omega)]
        · rw [if_neg hr, if_neg (by omega)]
    · show Run X 224 2 _ [] T = Run X 224 2 _ [] _
      rw [L_X9_passes_46_2, l7, if_neg (nI_ge hk (by decide)), t44, if_neg (by decide), ix_nI hk (by decide), b2, ix_nI (by omega) (by decide), tc, nI_1, nI_1]) 0 (Nat.zero_le _) S ⟨fr_rfl, h45, fun j => by rw [if_neg (by omega)]⟩
  refine ⟨S1, e.trans ?_, a1, a2, a3⟩
  show Run X 224 2 _ [] S1 = _
  rw [L_X9_passes_46_2, l7, if_pos (nI_le (Nat.le_refl _) (by decide))]
theorem pr_46 {off : Nat} (ho : off + 7 ≤ 200) (X : sX) (S : sS) (h45 : S 43 45 = nI off) (h44 : S 43 44 = 0) : ∃ S', Cal X 224 [.ref 43, .ref 46] S = some (none, S') ∧ fr [46] [(43, 45)] S S' ∧ S' 43 45 = nI (off + 7) ∧ (∀ j, j < 7 → S' 46 j = S 64 (off + j)) := by
  rw [C_X9_passes_46]
  obtain ⟨S1, ⟨a1, a2, a3⟩, e⟩ := loop_P (F := fun k T => Run X 224 2 [some (.ref 43), some (.ref 46), some (.int (nI k))] [] T) (P := fun k T => fr [46] [(43, 45)] S T ∧ T 43 45 = nI (off + k) ∧ ∀ j, j < k → T 46 j = S 64 (off + j)) 7 (by
    intro k hk T ⟨b1, b2, b3⟩
    have t44 : T 43 44 = 0 := by rw [fr_fld b1 43 44 (by decide) (by decide)]; exact h44
    have tc : T 64 = S 64 := fr_cell b1 64 (by decide) (by decide)
    refine ⟨up2 (up2 T 46 k (S 64 (off + k))) 43 45 (nI (off + k + 1)), ⟨fr_upF (fr_upL b1 (by decide)) (by decide), rfl, ?_⟩, ?_⟩
    · intro j hj
      rw [up2_ne _ _ _ (show 46 ≠ 43 by decide), up2_at]
      by_cases hq : j = k
      · subst hq; rw [upd_at]
      · rw [upd_ne _ _ hq, b3 j (by omega)]
    · show Run X 224 2 _ [] T = Run X 224 2 _ [] _
      rw [L_X9_passes_46_2, l7, if_neg (nI_ge hk (by decide)), t44, if_pos rfl, b2, ix_nI (by omega) (by decide), ix_nI hk (by decide), tc, nI_1, nI_1]) 0 (Nat.zero_le _) S ⟨fr_rfl, h45, fun j hj => absurd hj (Nat.not_lt_zero j)⟩
  refine ⟨S1, e.trans ?_, a1, a2, a3⟩
  show Run X 224 2 _ [] S1 = _
  rw [L_X9_passes_46_2, l7, if_pos (nI_le (Nat.le_refl _) (by decide))]
theorem pi_47 {off : Nat} (ho : off + 7 ≤ 200) (X : sX) (S : sS) (h45 : S 43 45 = nI off) (h44 : S 43 44 = 1) : ∃ S', Cal X 224 [.ref 43, .ref 47] S = some (none, S') ∧ fr [64] [(43, 45)] S S' ∧ S' 43 45 = nI (off + 7) ∧ (∀ j, S' 64 j = if off ≤ j ∧ j < off + 7 then S 47 (j - off) else S 64 j) := by
  rw [C_X9_passes_47]
  obtain ⟨S1, ⟨a1, a2, a3⟩, e⟩ := loop_P (F := fun k T => Run X 224 2 [some (.ref 43), some (.ref 47), some (.int (nI k))] [] T) (P := fun k T => fr [64] [(43, 45)] S T ∧ T 43 45 = nI (off + k) ∧ ∀ j, T 64 j = if off ≤ j ∧ j < off + k then S 47 (j - off) else S 64 j) 7 (by
    intro k hk T ⟨b1, b2, b3⟩
    have t44 : T 43 44 = 1 := by rw [fr_fld b1 43 44 (by decide) (by decide)]; exact h44
    have tc : T 47 = S 47 := fr_cell b1 47 (by decide) (by decide)
    refine ⟨up2 (up2 T 64 (off + k) (S 47 k)) 43 45 (nI (off + k + 1)), ⟨fr_upF (fr_upL b1 (by decide)) (by decide), rfl, ?_⟩, ?_⟩
    · intro j
      rw [up2_ne _ _ _ (show 64 ≠ 43 by decide), up2_at]
      by_cases hq : j = off + k
      · subst hq; rw [upd_at, if_pos (by omega), Nat.add_sub_cancel_left]
      · rw [upd_ne _ _ hq, b3 j]
        by_cases hr : off ≤ j ∧ j < off + k
        · rw [if_pos hr, if_pos (by omega)]
        · rw [if_neg hr, if_neg (by omega)]
    · show Run X 224 2 _ [] T = Run X 224 2 _ [] _
      rw [L_X9_passes_47_2, l7, if_neg (nI_ge hk (by decide)), t44, if_neg (by decide), ix_nI hk (by decide), b2, ix_nI (by omega) (by decide), tc, nI_1, nI_1]) 0 (Nat.zero_le _) S ⟨fr_rfl, h45, fun j => by rw [if_neg (by omega)]⟩
  refine ⟨S1, e.trans ?_, a1, a2, a3⟩
  show Run X 224 2 _ [] S1 = _
  rw [L_X9_passes_47_2, l7, if_pos (nI_le (Nat.le_refl _) (by decide))]
theorem pr_47 {off : Nat} (ho : off + 7 ≤ 200) (X : sX) (S : sS) (h45 : S 43 45 = nI off) (h44 : S 43 44 = 0) : ∃ S', Cal X 224 [.ref 43, .ref 47] S = some (none, S') ∧ fr [47] [(43, 45)] S S' ∧ S' 43 45 = nI (off + 7) ∧ (∀ j, j < 7 → S' 47 j = S 64 (off + j)) := by
  rw [C_X9_passes_47]
  obtain ⟨S1, ⟨a1, a2, a3⟩, e⟩ := loop_P (F := fun k T => Run X 224 2 [some (.ref 43), some (.ref 47), some (.int (nI k))] [] T) (P := fun k T => fr [47] [(43, 45)] S T ∧ T 43 45 = nI (off + k) ∧ ∀ j, j < k → T 47 j = S 64 (off + j)) 7 (by
    intro k hk T ⟨b1, b2, b3⟩
    have t44 : T 43 44 = 0 := by rw [fr_fld b1 43 44 (by decide) (by decide)]; exact h44
    have tc : T 64 = S 64 := fr_cell b1 64 (by decide) (by decide)
    refine ⟨up2 (up2 T 47 k (S 64 (off + k))) 43 45 (nI (off + k + 1)), ⟨fr_upF (fr_upL b1 (by decide)) (by decide), rfl, ?_⟩, ?_⟩
    · intro j hj
      rw [up2_ne _ _ _ (show 47 ≠ 43 by decide), up2_at]
      by_cases hq : j = k
      · subst hq; rw [upd_at]
      · rw [upd_ne _ _ hq, b3 j (by omega)]
    · show Run X 224 2 _ [] T = Run X 224 2 _ [] _
      rw [L_X9_passes_47_2, l7, if_neg (nI_ge hk (by decide)), t44, if_pos rfl, b2, ix_nI (by omega) (by decide), ix_nI hk (by decide), tc, nI_1, nI_1]) 0 (Nat.zero_le _) S ⟨fr_rfl, h45, fun j hj => absurd hj (Nat.not_lt_zero j)⟩
  refine ⟨S1, e.trans ?_, a1, a2, a3⟩
  show Run X 224 2 _ [] S1 = _
  rw [L_X9_passes_47_2, l7, if_pos (nI_le (Nat.le_refl _) (by decide))]
theorem pi_48 {off : Nat} (ho : off + 24 ≤ 200) (X : sX) (S : sS) (h45 : S 43 45 = nI off) (h44 : S 43 44 = 1) : ∃ S', Cal X 224 [.ref 43, .ref 48] S = some (none, S') ∧ fr [64] [(43, 45)] S S' ∧ S' 43 45 = nI (off + 24) ∧ (∀ j, S' 64 j = if off ≤ j ∧ j < off + 24 then S 48 (j - off) else S 64 j) := by
  rw [C_X9_passes_48]
  obtain ⟨S1, ⟨a1, a2, a3⟩, e⟩ := loop_P (F := fun k T => Run X 224 2 [some (.ref 43), some (.ref 48), some (.int (nI k))] [] T) (P := fun k T => fr [64] [(43, 45)] S T ∧ T 43 45 = nI (off + k) ∧ ∀ j, T 64 j = if off ≤ j ∧ j < off + k then S 48 (j - off) else S 64 j) 24 (by
    intro k hk T ⟨b1, b2, b3⟩
    have t44 : T 43 44 = 1 := by rw [fr_fld b1 43 44 (by decide) (by decide)]; exact h44
    have tc : T 48 = S 48 := fr_cell b1 48 (by decide) (by decide)
    refine ⟨up2 (up2 T 64 (off + k) (S 48 k)) 43 45 (nI (off + k + 1)), ⟨fr_upF (fr_upL b1 (by decide)) (by decide), rfl, ?_⟩, ?_⟩
    · intro j
      rw [up2_ne _ _ _ (show 64 ≠ 43 by decide), up2_at]
      by_cases hq : j = off + k
      · subst hq; rw [upd_at, if_pos (by omega), Nat.add_sub_cancel_left]
      · rw [upd_ne _ _ hq, b3 j]
        by_cases hr : off ≤ j ∧ j < off + k
        · rw [if_pos hr, if_pos (by omega)]
        · rw [if_neg hr, if_neg (by omega)]
    · show Run X 224 2 _ [] T = Run X 224 2 _ [] _
      rw [L_X9_passes_48_2, l24, if_neg (nI_ge hk (by decide)), t44, if_neg (by decide), ix_nI hk (by decide), b2, ix_nI (by omega) (by decide), tc, nI_1, nI_1]) 0 (Nat.zero_le _) S ⟨fr_rfl, h45, fun j => by rw [if_neg (by omega)]⟩
  refine ⟨S1, e.trans ?_, a1, a2, a3⟩
  show Run X 224 2 _ [] S1 = _
  rw [L_X9_passes_48_2, l24, if_pos (nI_le (Nat.le_refl _) (by decide))]
theorem pr_48 {off : Nat} (ho : off + 24 ≤ 200) (X : sX) (S : sS) (h45 : S 43 45 = nI off) (h44 : S 43 44 = 0) : ∃ S', Cal X 224 [.ref 43, .ref 48] S = some (none, S') ∧ fr [48] [(43, 45)] S S' ∧ S' 43 45 = nI (off + 24) ∧ (∀ j, j < 24 → S' 48 j = S 64 (off + j)) := by
  rw [C_X9_passes_48]
  obtain ⟨S1, ⟨a1, a2, a3⟩, e⟩ := loop_P (F := fun k T => Run X 224 2 [some (.ref 43), some (.ref 48), some (.int (nI k))] [] T) (P := fun k T => fr [48] [(43, 45)] S T ∧ T 43 45 = nI (off + k) ∧ ∀ j, j < k → T 48 j = S 64 (off + j)) 24 (by
    intro k hk T ⟨b1, b2, b3⟩
    have t44 : T 43 44 = 0 := by rw [fr_fld b1 43 44 (by decide) (by decide)]; exact h44
    have tc : T 64 = S 64 := fr_cell b1 64 (by decide) (by decide)
    refine ⟨up2 (up2 T 48 k (S 64 (off + k))) 43 45 (nI (off + k + 1)), ⟨fr_upF (fr_upL b1 (by decide)) (by decide), rfl, ?_⟩, ?_⟩
    · intro j hj
      rw [up2_ne _ _ _ (show 48 ≠ 43 by decide), up2_at]
      by_cases hq : j = k
      · subst hq; rw [upd_at]
      · rw [upd_ne _ _ hq, b3 j (by omega)]
    · show Run X 224 2 _ [] T = Run X 224 2 _ [] _
      rw [L_X9_passes_48_2, l24, if_neg (nI_ge hk (by decide)), t44, if_pos rfl, b2, ix_nI (by omega) (by decide), ix_nI hk (by decide), tc, nI_1, nI_1]) 0 (Nat.zero_le _) S ⟨fr_rfl, h45, fun j hj => absurd hj (Nat.not_lt_zero j)⟩
  refine ⟨S1, e.trans ?_, a1, a2, a3⟩
  show Run X 224 2 _ [] S1 = _
  rw [L_X9_passes_48_2, l24, if_pos (nI_le (Nat.le_refl _) (by decide))]
theorem pi_49 {off : Nat} (ho : off + 24 ≤ 200) (X : sX) (S : sS) (h45 : S 43 45 = nI off) (h44 : S 43 44 = 1) : ∃ S', Cal X 224 [.ref 43, .ref 49] S = some (none, S') ∧ fr [64] [(43, 45)] S S' ∧ S' 43 45 = nI (off + 24) ∧ (∀ j, S' 64 j = if off ≤ j ∧ j < off + 24 then S 49 (j - off) else S 64 j) := by
  rw [C_X9_passes_49]
  obtain ⟨S1, ⟨a1, a2, a3⟩, e⟩ := loop_P (F := fun k T => Run X 224 2 [some (.ref 43), some (.ref 49), some (.int (nI k))] [] T) (P := fun k T => fr [64] [(43, 45)] S T ∧ T 43 45 = nI (off + k) ∧ ∀ j, T 64 j = if off ≤ j ∧ j < off + k then S 49 (j - off) else S 64 j) 24 (by
    intro k hk T ⟨b1, b2, b3⟩
    have t44 : T 43 44 = 1 := by rw [fr_fld b1 43 44 (by decide) (by decide)]; exact h44
    have tc : T 49 = S 49 := fr_cell b1 49 (by decide) (by decide)
    refine ⟨up2 (up2 T 64 (off + k) (S 49 k)) 43 45 (nI (off + k + 1)), ⟨fr_upF (fr_upL b1 (by decide)) (by decide), rfl, ?_⟩, ?_⟩
    · intro j
      rw [up2_ne _ _ _ (show 64 ≠ 43 by decide), up2_at]
      by_cases hq : j = off + k
      · subst hq; rw [upd_at, if_pos (by omega), Nat.add_sub_cancel_left]
      · rw [upd_ne _ _ hq, b3 j]
        by_cases hr : off ≤ j ∧ j < off + k
        · rw [if_pos hr, if_pos (by omega)]
        · rw [if_neg hr, if_neg (by omega)]
    · show Run X 224 2 _ [] T = Run X 224 2 _ [] _
      rw [L_X9_passes_49_2, l24, if_neg (nI_ge hk (by decide)), t44, if_neg (by decide), ix_nI hk (by decide), b2, ix_nI (by omega) (by decide), tc, nI_1, nI_1]) 0 (Nat.zero_le _) S ⟨fr_rfl, h45, fun j => by rw [if_neg (by omega)]⟩
  refine ⟨S1, e.trans ?_, a1, a2, a3⟩
  show Run X 224 2 _ [] S1 = _
  rw [L_X9_passes_49_2, l24, if_pos (nI_le (Nat.le_refl _) (by decide))]
theorem pr_49 {off : Nat} (ho : off + 24 ≤ 200) (X : sX) (S : sS) (h45 : S 43 45 = nI off) (h44 : S 43 44 = 0) : ∃ S', Cal X 224 [.ref 43, .ref 49] S = some (none, S') ∧ fr [49] [(43, 45)] S S' ∧ S' 43 45 = nI (off + 24) ∧ (∀ j, j < 24 → S' 49 j = S 64 (off + j)) := by
  rw [C_X9_passes_49]
  obtain ⟨S1, ⟨a1, a2, a3⟩, e⟩ := loop_P (F := fun k T => Run X 224 2 [some (.ref 43), some (.ref 49), some (.int (nI k))] [] T) (P := fun k T => fr [49] [(43, 45)] S T ∧ T 43 45 = nI (off + k) ∧ ∀ j, j < k → T 49 j = S 64 (off + j)) 24 (by
    intro k hk T ⟨b1, b2, b3⟩
    have t44 : T 43 44 = 0 := by rw [fr_fld b1 43 44 (by decide) (by decide)]; exact h44
    have tc : T 64 = S 64 := fr_cell b1 64 (by decide) (by decide)
    refine ⟨up2 (up2 T 49 k (S 64 (off + k))) 43 45 (nI (off + k + 1)), ⟨fr_upF (fr_upL b1 (by decide)) (by decide), rfl, ?_⟩, ?_⟩
    · intro j hj
      rw [up2_ne _ _ _ (show 49 ≠ 43 by decide), up2_at]
      by_cases hq : j = k
      · subst hq; rw [upd_at]
      · rw [upd_ne _ _ hq, b3 j (by omega)]
    · show Run X 224 2 _ [] T = Run X 224 2 _ [] _
      rw [L_X9_passes_49_2, l24, if_neg (nI_ge hk (by decide)), t44, if_pos rfl, b2, ix_nI (by omega) (by decide), ix_nI hk (by decide), tc, nI_1, nI_1]) 0 (Nat.zero_le _) S ⟨fr_rfl, h45, fun j hj => absurd hj (Nat.not_lt_zero j)⟩
  refine ⟨S1, e.trans ?_, a1, a2, a3⟩
  show Run X 224 2 _ [] S1 = _
  rw [L_X9_passes_49_2, l24, if_pos (nI_le (Nat.le_refl _) (by decide))]
theorem pi_50 {off : Nat} (ho : off + 24 ≤ 200) (X : sX) (S : sS) (h45 : S 43 45 = nI off) (h44 : S 43 44 = 1) : ∃ S', Cal X 224 [.ref 43, .ref 50] S = some (none, S') ∧ fr [64] [(43, 45)] S S' ∧ S' 43 45 = nI (off + 24) ∧ (∀ j, S' 64 j = if off ≤ j ∧ j < off + 24 then S 50 (j - off) else S 64 j) := by
  rw [C_X9_passes_50]
  obtain ⟨S1, ⟨a1, a2, a3⟩, e⟩ := loop_P (F := fun k T => Run X 224 2 [some (.ref 43), some (.ref 50), some (.int (nI k))] [] T) (P := fun k T => fr [64] [(43, 45)] S T ∧ T 43 45 = nI (off + k) ∧ ∀ j, T 64 j = if off ≤ j ∧ j < off + k then S 50 (j - off) else S 64 j) 24 (by
    intro k hk T ⟨b1, b2, b3⟩
    have t44 : T 43 44 = 1 := by rw [fr_fld b1 43 44 (by decide) (by decide)]; exact h44
    have tc : T 50 = S 50 := fr_cell b1 50 (by decide) (by decide)
    refine ⟨up2 (up2 T 64 (off + k) (S 50 k)) 43 45 (nI (off + k + 1)), ⟨fr_upF (fr_upL b1 (by decide)) (by decide), rfl, ?_⟩, ?_⟩
    · intro j
      rw [up2_ne _ _ _ (show 64 ≠ 43 by decide), up2_at]
      by_cases hq : j = off + k
      · subst hq; rw [upd_at, if_pos (by omega), Nat.add_sub_cancel_left]
      · rw [upd_ne _ _ hq, b3 j]
        by_cases hr : off ≤ j ∧ j < off + k
        · rw [if_pos hr, if_pos (by omega)]
        · rw [if_neg hr, if_neg (by omega)]
    · show Run X 224 2 _ [] T = Run X 224 2 _ [] _
      rw [L_X9_passes_50_2, l24, if_neg (nI_ge hk (by decide)), t44, if_neg (by decide), ix_nI hk (by decide), b2, ix_nI (by omega) (by decide), tc, nI_1, nI_1]) 0 (Nat.zero_le _) S ⟨fr_rfl, h45, fun j => by rw [if_neg (by omega)]⟩
  refine ⟨S1, e.trans ?_, a1, a2, a3⟩
  show Run X 224 2 _ [] S1 = _
  rw [L_X9_passes_50_2, l24, if_pos (nI_le (Nat.le_refl _) (by decide))]
theorem pr_50 {off : Nat} (ho : off + 24 ≤ 200) (X : sX) (S : sS) (h45 : S 43 45 = nI off) (h44 : S 43 44 = 0) : ∃ S', Cal X 224 [.ref 43, .ref 50] S = some (none, S') ∧ fr [50] [(43, 45)] S S' ∧ S' 43 45 = nI (off + 24) ∧ (∀ j, j < 24 → S' 50 j = S 64 (off + j)) := by
  rw [C_X9_passes_50]
  obtain ⟨S1, ⟨a1, a2, a3⟩, e⟩ := loop_P (F := fun k T => Run X 224 2 [some (.ref 43), some (.ref 50), some (.int (nI k))] [] T) (P := fun k T => fr [50] [(43, 45)] S T ∧ T 43 45 = nI (off + k) ∧ ∀ j, j < k → T 50 j = S 64 (off + j)) 24 (by
    intro k hk T ⟨b1, b2, b3⟩
    have t44 : T 43 44 = 0 := by rw [fr_fld b1 43 44 (by decide) (by decide)]; exact h44
    have tc : T 64 = S 64 := fr_cell b1 64 (by decide) (by decide)
    refine ⟨up2 (up2 T 50 k (S 64 (off + k))) 43 45 (nI (off + k + 1)), ⟨fr_upF (fr_upL b1 (by decide)) (by decide), rfl, ?_⟩, ?_⟩
    · intro j hj
      rw [up2_ne _ _ _ (show 50 ≠ 43 by decide), up2_at]
      by_cases hq : j = k
      · subst hq; rw [upd_at]
      · rw [upd_ne _ _ hq, b3 j (by omega)]
    · show Run X 224 2 _ [] T = Run X 224 2 _ [] _
      rw [L_X9_passes_50_2, l24, if_neg (nI_ge hk (by decide)), t44, if_pos rfl, b2, ix_nI (by omega) (by decide), ix_nI hk (by decide), tc, nI_1, nI_1]) 0 (Nat.zero_le _) S ⟨fr_rfl, h45, fun j hj => absurd hj (Nat.not_lt_zero j)⟩
  refine ⟨S1, e.trans ?_, a1, a2, a3⟩
  show Run X 224 2 _ [] S1 = _
  rw [L_X9_passes_50_2, l24, if_pos (nI_le (Nat.le_refl _) (by decide))]
theorem pi_51 {off : Nat} (ho : off + 10 ≤ 200) (X : sX) (S : sS) (h45 : S 43 45 = nI off) (h44 : S 43 44 = 1) : ∃ S', Cal X 224 [.ref 43, .ref 51] S = some (none, S') ∧ fr [64] [(43, 45)] S S' ∧ S' 43 45 = nI (off + 10) ∧ (∀ j, S' 64 j = if off ≤ j ∧ j < off + 10 then S 51 (j - off) else S 64 j) := by
  rw [C_X9_passes_51]
  obtain ⟨S1, ⟨a1, a2, a3⟩, e⟩ := loop_P (F := fun k T => Run X 224 2 [some (.ref 43), some (.ref 51), some (.int (nI k))] [] T) (P := fun k T => fr [64] [(43, 45)] S T ∧ T 43 45 = nI (off + k) ∧ ∀ j, T 64 j = if off ≤ j ∧ j < off + k then S 51 (j - off) else S 64 j) 10 (by
    intro k hk T ⟨b1, b2, b3⟩
    have t44 : T 43 44 = 1 := by rw [fr_fld b1 43 44 (by decide) (by decide)]; exact h44
    have tc : T 51 = S 51 := fr_cell b1 51 (by decide) (by decide)
    refine ⟨up2 (up2 T 64 (off + k) (S 51 k)) 43 45 (nI (off + k + 1)), ⟨fr_upF (fr_upL b1 (by decide)) (by decide), rfl, ?_⟩, ?_⟩
    · intro j
      rw [up2_ne _ _ _ (show 64 ≠ 43 by decide), up2_at]
      by_cases hq : j = off + k
      · subst hq; rw [upd_at, if_pos (by omega), Nat.add_sub_cancel_left]
      · rw [upd_ne _ _ hq, b3 j]
        by_cases hr : off ≤ j ∧ j < off + k
        · rw [if_pos hr, if_pos (by omega)]
        · rw [if_neg hr, if_neg (by omega)]
    · show Run X 224 2 _ [] T = Run X 224 2 _ [] _
      rw [L_X9_passes_51_2, l10, if_neg (nI_ge hk (by decide)), t44, if_neg (by decide), ix_nI hk (by decide), b2, ix_nI (by omega) (by decide), tc, nI_1, nI_1]) 0 (Nat.zero_le _) S ⟨fr_rfl, h45, fun j => by rw [if_neg (by omega)]⟩
  refine ⟨S1, e.trans ?_, a1, a2, a3⟩
  show Run X 224 2 _ [] S1 = _
  rw [L_X9_passes_51_2, l10, if_pos (nI_le (Nat.le_refl _) (by decide))]
theorem pr_51 {off : Nat} (ho : off + 10 ≤ 200) (X : sX) (S : sS) (h45 : S 43 45 = nI off) (h44 : S 43 44 = 0) : ∃ S', Cal X 224 [.ref 43, .ref 51] S = some (none, S') ∧ fr [51] [(43, 45)] S S' ∧ S' 43 45 = nI (off + 10) ∧ (∀ j, j < 10 → S' 51 j = S 64 (off + j)) := by
  rw [C_X9_passes_51]
  obtain ⟨S1, ⟨a1, a2, a3⟩, e⟩ := loop_P (F := fun k T => Run X 224 2 [some (.ref 43), some (.ref 51), some (.int (nI k))] [] T) (P := fun k T => fr [51] [(43, 45)] S T ∧ T 43 45 = nI (off + k) ∧ ∀ j, j < k → T 51 j = S 64 (off + j)) 10 (by
    intro k hk T ⟨b1, b2, b3⟩
    have t44 : T 43 44 = 0 := by rw [fr_fld b1 43 44 (by decide) (by decide)]; exact h44
    have tc : T 64 = S 64 := fr_cell b1 64 (by decide) (by decide)
    refine ⟨up2 (up2 T 51 k (S 64 (off + k))) 43 45 (nI (off + k + 1)), ⟨fr_upF (fr_upL b1 (by decide)) (by decide), rfl, ?_⟩, ?_⟩
    · intro j hj
      rw [up2_ne _ _ _ (show 51 ≠ 43 by decide), up2_at]
      by_cases hq : j = k
      · subst hq; rw [upd_at]
      · rw [upd_ne _ _ hq, b3 j (by omega)]
    · show Run X 224 2 _ [] T = Run X 224 2 _ [] _
      rw [L_X9_passes_51_2, l10, if_neg (nI_ge hk (by decide)), t44, if_pos rfl, b2, ix_nI (by omega) (by decide), ix_nI hk (by decide), tc, nI_1, nI_1]) 0 (Nat.zero_le _) S ⟨fr_rfl, h45, fun j hj => absurd hj (Nat.not_lt_zero j)⟩
  refine ⟨S1, e.trans ?_, a1, a2, a3⟩
  show Run X 224 2 _ [] S1 = _
  rw [L_X9_passes_51_2, l10, if_pos (nI_le (Nat.le_refl _) (by decide))]
theorem pi_52 {off : Nat} (ho : off + 10 ≤ 200) (X : sX) (S : sS) (h45 : S 43 45 = nI off) (h44 : S 43 44 = 1) : ∃ S', Cal X 224 [.ref 43, .ref 52] S = some (none, S') ∧ fr [64] [(43, 45)] S S' ∧ S' 43 45 = nI (off + 10) ∧ (∀ j, S' 64 j = if off ≤ j ∧ j < off + 10 then S 52 (j - off) else S 64 j) := by
  rw [C_X9_passes_52]
  obtain ⟨S1, ⟨a1, a2, a3⟩, e⟩ := loop_P (F := fun k T => Run X 224 2 [some (.ref 43), some (.ref 52), some (.int (nI k))] [] T) (P := fun k T => fr [64] [(43, 45)] S T ∧ T 43 45 = nI (off + k) ∧ ∀ j, T 64 j = if off ≤ j ∧ j < off + k then S 52 (j - off) else S 64 j) 10 (by
    intro k hk T ⟨b1, b2, b3⟩
    have t44 : T 43 44 = 1 := by rw [fr_fld b1 43 44 (by decide) (by decide)]; exact h44
    have tc : T 52 = S 52 := fr_cell b1 52 (by decide) (by decide)
    refine ⟨up2 (up2 T 64 (off + k) (S 52 k)) 43 45 (nI (off + k + 1)), ⟨fr_upF (fr_upL b1 (by decide)) (by decide), rfl, ?_⟩, ?_⟩
    · intro j
      rw [up2_ne _ _ _ (show 64 ≠ 43 by decide), up2_at]
      by_cases hq : j = off + k
      · subst hq; rw [upd_at, if_pos (by omega), Nat.add_sub_cancel_left]
      · rw [upd_ne _ _ hq, b3 j]
        by_cases hr : off ≤ j ∧ j < off + k
        · rw [if_pos hr, if_pos (by omega)]
        · rw [if_neg hr, if_neg (by omega)]
    · show Run X 224 2 _ [] T = Run X 224 2 _ [] _
      rw [L_X9_passes_52_2, l10, if_neg (nI_ge hk (by decide)), t44, if_neg (by decide), ix_nI hk (by decide), b2, ix_nI (by omega) (by decide), tc, nI_1, nI_1]) 0 (Nat.zero_le _) S ⟨fr_rfl, h45, fun j => by rw [if_neg (by omega)]⟩
  refine ⟨S1, e.trans ?_, a1, a2, a3⟩
  show Run X 224 2 _ [] S1 = _
  rw [L_X9_passes_52_2, l10, if_pos (nI_le (Nat.le_refl _) (by decide))]
theorem pr_52 {off : Nat} (ho : off + 10 ≤ 200) (X : sX) (S : sS) (h45 : S 43 45 = nI off) (h44 : S 43 44 = 0) : ∃ S', Cal X 224 [.ref 43, .ref 52] S = some (none, S') ∧ fr [52] [(43, 45)] S S' ∧ S' 43 45 = nI (off + 10) ∧ (∀ j, j < 10 → S' 52 j = S 64 (off + j)) := by
  rw [C_X9_passes_52]
  obtain ⟨S1, ⟨a1, a2, a3⟩, e⟩ := loop_P (F := fun k T => Run X 224 2 [some (.ref 43), some (.ref 52), some (.int (nI k))] [] T) (P := fun k T => fr [52] [(43, 45)] S T ∧ T 43 45 = nI (off + k) ∧ ∀ j, j < k → T 52 j = S 64 (off + j)) 10 (by
    intro k hk T ⟨b1, b2, b3⟩
    have t44 : T 43 44 = 0 := by rw [fr_fld b1 43 44 (by decide) (by decide)]; exact h44
    have tc : T 64 = S 64 := fr_cell b1 64 (by decide) (by decide)
    refine ⟨up2 (up2 T 52 k (S 64 (off + k))) 43 45 (nI (off + k + 1)), ⟨fr_upF (fr_upL b1 (by decide)) (by decide), rfl, ?_⟩, ?_⟩
    · intro j hj
      rw [up2_ne _ _ _ (show 52 ≠ 43 by decide), up2_at]
      by_cases hq : j = k
      · subst hq; rw [upd_at]
      · rw [upd_ne _ _ hq, b3 j (by omega)]
    · show Run X 224 2 _ [] T = Run X 224 2 _ [] _
      rw [L_X9_passes_52_2, l10, if_neg (nI_ge hk (by decide)), t44, if_pos rfl, b2, ix_nI (by omega) (by decide), ix_nI hk (by decide), tc, nI_1, nI_1]) 0 (Nat.zero_le _) S ⟨fr_rfl, h45, fun j hj => absurd hj (Nat.not_lt_zero j)⟩
  refine ⟨S1, e.trans ?_, a1, a2, a3⟩
  show Run X 224 2 _ [] S1 = _
  rw [L_X9_passes_52_2, l10, if_pos (nI_le (Nat.le_refl _) (by decide))]
theorem pi_53 {off : Nat} (ho : off + 7 ≤ 200) (X : sX) (S : sS) (h45 : S 43 45 = nI off) (h44 : S 43 44 = 1) : ∃ S', Cal X 224 [.ref 43, .ref 53] S = some (none, S') ∧ fr [64] [(43, 45)] S S' ∧ S' 43 45 = nI (off + 7) ∧ (∀ j, S' 64 j = if off ≤ j ∧ j < off + 7 then S 53 (j - off) else S 64 j) := by
  rw [C_X9_passes_53]
  obtain ⟨S1, ⟨a1, a2, a3⟩, e⟩ := loop_P (F := fun k T => Run X 224 2 [some (.ref 43), some (.ref 53), some (.int (nI k))] [] T) (P := fun k T => fr [64] [(43, 45)] S T ∧ T 43 45 = nI (off + k) ∧ ∀ j, T 64 j = if off ≤ j ∧ j < off + k then S 53 (j - off) else S 64 j) 7 (by
    intro k hk T ⟨b1, b2, b3⟩
    have t44 : T 43 44 = 1 := by rw [fr_fld b1 43 44 (by decide) (by decide)]; exact h44
    have tc : T 53 = S 53 := fr_cell b1 53 (by decide) (by decide)
    refine ⟨up2 (up2 T 64 (off + k) (S 53 k)) 43 45 (nI (off + k + 1)), ⟨fr_upF (fr_upL b1 (by decide)) (by decide), rfl, ?_⟩, ?_⟩
    · intro j
      rw [up2_ne _ _ _ (show 64 ≠ 43 by decide), up2_at]
      by_cases hq : j = off + k
      · subst hq; rw [upd_at, if_pos (by omega), Nat.add_sub_cancel_left]
      · rw [upd_ne _ _ hq, b3 j]
        by_cases hr : off ≤ j ∧ j < off + k
        · rw [if_pos hr, if_pos (by omega)]
        · rw [if_neg hr, if_neg (by omega)]
    · show Run X 224 2 _ [] T = Run X 224 2 _ [] _
      rw [L_X9_passes_53_2, l7, if_neg (nI_ge hk (by decide)), t44, if_neg (by decide), ix_nI hk (by decide), b2, ix_nI (by omega) (by decide), tc, nI_1, nI_1]) 0 (Nat.zero_le _) S ⟨fr_rfl, h45, fun j => by rw [if_neg (by omega)]⟩
  refine ⟨S1, e.trans ?_, a1, a2, a3⟩
  show Run X 224 2 _ [] S1 = _
  rw [L_X9_passes_53_2, l7, if_pos (nI_le (Nat.le_refl _) (by decide))]
theorem pr_53 {off : Nat} (ho : off + 7 ≤ 200) (X : sX) (S : sS) (h45 : S 43 45 = nI off) (h44 : S 43 44 = 0) : ∃ S', Cal X 224 [.ref 43, .ref 53] S = some (none, S') ∧ fr [53] [(43, 45)] S S' ∧ S' 43 45 = nI (off + 7) ∧ (∀ j, j < 7 → S' 53 j = S 64 (off + j)) := by
  rw [C_X9_passes_53]
  obtain ⟨S1, ⟨a1, a2, a3⟩, e⟩ := loop_P (F := fun k T => Run X 224 2 [some (.ref 43), some (.ref 53), some (.int (nI k))] [] T) (P := fun k T => fr [53] [(43, 45)] S T ∧ T 43 45 = nI (off + k) ∧ ∀ j, j < k → T 53 j = S 64 (off + j)) 7 (by
    intro k hk T ⟨b1, b2, b3⟩
    have t44 : T 43 44 = 0 := by rw [fr_fld b1 43 44 (by decide) (by decide)]; exact h44
    have tc : T 64 = S 64 := fr_cell b1 64 (by decide) (by decide)
    refine ⟨up2 (up2 T 53 k (S 64 (off + k))) 43 45 (nI (off + k + 1)), ⟨fr_upF (fr_upL b1 (by decide)) (by decide), rfl, ?_⟩, ?_⟩
    · intro j hj
      rw [up2_ne _ _ _ (show 53 ≠ 43 by decide), up2_at]
      by_cases hq : j = k
      · subst hq; rw [upd_at]
      · rw [upd_ne _ _ hq, b3 j (by omega)]
    · show Run X 224 2 _ [] T = Run X 224 2 _ [] _
      rw [L_X9_passes_53_2, l7, if_neg (nI_ge hk (by decide)), t44, if_pos rfl, b2, ix_nI (by omega) (by decide), ix_nI hk (by decide), tc, nI_1, nI_1]) 0 (Nat.zero_le _) S ⟨fr_rfl, h45, fun j hj => absurd hj (Nat.not_lt_zero j)⟩
  refine ⟨S1, e.trans ?_, a1, a2, a3⟩
  show Run X 224 2 _ [] S1 = _
  rw [L_X9_passes_53_2, l7, if_pos (nI_le (Nat.le_refl _) (by decide))]
theorem pi_54 {off : Nat} (ho : off + 7 ≤ 200) (X : sX) (S : sS) (h45 : S 43 45 = nI off) (h44 : S 43 44 = 1) : ∃ S', Cal X 224 [.ref 43, .ref 54] S = some (none, S') ∧ fr [64] [(43, 45)] S S' ∧ S' 43 45 = nI (off + 7) ∧ (∀ j, S' 64 j = if off ≤ j ∧ j < off + 7 then S 54 (j - off) else S 64 j) := by
  rw [C_X9_passes_54]
  obtain ⟨S1, ⟨a1, a2, a3⟩, e⟩ := loop_P (F := fun k T => Run X 224 2 [some (.ref 43), some (.ref 54), some (.int (nI k))] [] T) (P := fun k T => fr [64] [(43, 45)] S T ∧ T 43 45 = nI (off + k) ∧ ∀ j, T 64 j = if off ≤ j ∧ j < off + k then S 54 (j - off) else S 64 j) 7 (by
    intro k hk T ⟨b1, b2, b3⟩
    have t44 : T 43 44 = 1 := by rw [fr_fld b1 43 44 (by decide) (by decide)]; exact h44
    have tc : T 54 = S 54 := fr_cell b1 54 (by decide) (by decide)
    refine ⟨up2 (up2 T 64 (off + k) (S 54 k)) 43 45 (nI (off + k + 1)), ⟨fr_upF (fr_upL b1 (by decide)) (by decide), rfl, ?_⟩, ?_⟩
    · intro j
      rw [up2_ne _ _ _ (show 64 ≠ 43 by decide), up2_at]
      by_cases hq : j = off + k
      · subst hq; rw [upd_at, if_pos (by omega), Nat.add_sub_cancel_left]
      · rw [upd_ne _ _ hq, b3 j]
        by_cases hr : off ≤ j ∧ j < off + k
        · rw [if_pos hr, if_pos (by omega)]
        · rw [if_neg hr, if_neg (by omega)]
    · show Run X 224 2 _ [] T = Run X 224 2 _ [] _
      rw [L_X9_passes_54_2, l7, if_neg (nI_ge hk (by decide)), t44, if_neg (by decide), ix_nI hk (by decide), b2, ix_nI (by omega) (by decide), tc, nI_1, nI_1]) 0 (Nat.zero_le _) S ⟨fr_rfl, h45, fun j => by rw [if_neg (by omega)]⟩
  refine ⟨S1, e.trans ?_, a1, a2, a3⟩
  show Run X 224 2 _ [] S1 = _
  rw [L_X9_passes_54_2, l7, if_pos (nI_le (Nat.le_refl _) (by decide))]
theorem pr_54 {off : Nat} (ho : off + 7 ≤ 200) (X : sX) (S : sS) (h45 : S 43 45 = nI off) (h44 : S 43 44 = 0) : ∃ S', Cal X 224 [.ref 43, .ref 54] S = some (none, S') ∧ fr [54] [(43, 45)] S S' ∧ S' 43 45 = nI (off + 7) ∧ (∀ j, j < 7 → S' 54 j = S 64 (off + j)) := by
  rw [C_X9_passes_54]
  obtain ⟨S1, ⟨a1, a2, a3⟩, e⟩ := loop_P (F := fun k T => Run X 224 2 [some (.ref 43), some (.ref 54), some (.int (nI k))] [] T) (P := fun k T => fr [54] [(43, 45)] S T ∧ T 43 45 = nI (off + k) ∧ ∀ j, j < k → T 54 j = S 64 (off + j)) 7 (by
    intro k hk T ⟨b1, b2, b3⟩
    have t44 : T 43 44 = 0 := by rw [fr_fld b1 43 44 (by decide) (by decide)]; exact h44
    have tc : T 64 = S 64 := fr_cell b1 64 (by decide) (by decide)
    refine ⟨up2 (up2 T 54 k (S 64 (off + k))) 43 45 (nI (off + k + 1)), ⟨fr_upF (fr_upL b1 (by decide)) (by decide), rfl, ?_⟩, ?_⟩
    · intro j hj
      rw [up2_ne _ _ _ (show 54 ≠ 43 by decide), up2_at]
      by_cases hq : j = k
      · subst hq; rw [upd_at]
      · rw [upd_ne _ _ hq, b3 j (by omega)]
    · show Run X 224 2 _ [] T = Run X 224 2 _ [] _
      rw [L_X9_passes_54_2, l7, if_neg (nI_ge hk (by decide)), t44, if_pos rfl, b2, ix_nI (by omega) (by decide), ix_nI hk (by decide), tc, nI_1, nI_1]) 0 (Nat.zero_le _) S ⟨fr_rfl, h45, fun j hj => absurd hj (Nat.not_lt_zero j)⟩
  refine ⟨S1, e.trans ?_, a1, a2, a3⟩
  show Run X 224 2 _ [] S1 = _
  rw [L_X9_passes_54_2, l7, if_pos (nI_le (Nat.le_refl _) (by decide))]
theorem po_i {off : Nat} (ho : off < 200) (X : sX) (S : sS) (h45 : S 43 45 = nI off) (h44 : S 43 44 = 1) (p : Int32) : Cal X 225 [.ref 43, .int p] S = some (some (.int p), up2 (up2 S 64 off p) 43 45 (nI (off + 1))) := by
  rw [C_X9_passOne, h44, if_neg (by decide), if_neg (by decide), h45, ix_nI ho (by decide), nI_1]
theorem po_r {off : Nat} (ho : off < 200) (X : sX) (S : sS) (h45 : S 43 45 = nI off) (h44 : S 43 44 = 0) (p : Int32) : Cal X 225 [.ref 43, .int p] S = some (some (.int (S 64 off)), up2 S 43 45 (nI (off + 1))) := by
  rw [C_X9_passOne, h44, if_pos rfl, h45, ix_nI ho (by decide), if_pos rfl, nI_1]
theorem pa_i (X : sX) (S : sS) (h44 : S 43 44 = 1) : ∃ S', Cal X 226 [.ref 43] S = some (none, S') ∧ fr [64] [(43, 45)] S S' ∧ (∀ j, j < 7 → S' 64 (0 + j) = S 45 j) ∧ (∀ j, j < 7 → S' 64 (7 + j) = S 46 j) ∧ (∀ j, j < 7 → S' 64 (14 + j) = S 47 j) ∧ (∀ j, j < 24 → S' 64 (21 + j) = S 48 j) ∧ (∀ j, j < 24 → S' 64 (45 + j) = S 49 j) ∧ (∀ j, j < 24 → S' 64 (69 + j) = S 50 j) ∧ (∀ j, j < 10 → S' 64 (93 + j) = S 51 j) ∧ (∀ j, j < 10 → S' 64 (103 + j) = S 52 j) ∧ (∀ j, j < 7 → S' 64 (113 + j) = S 53 j) ∧ (∀ j, j < 7 → S' 64 (120 + j) = S 54 j) ∧ S' 64 127 = S 43 11 ∧ S' 64 128 = S 43 12 ∧ S' 64 129 = S 43 13 := by
  have f0 : fr [] [(43, 45)] S (up2 S 43 45 0) := fr_upF fr_rfl (by decide)
  obtain ⟨S0, hS0⟩ : ∃ S0, S0 = up2 S 43 45 0 := ⟨_, rfl⟩
  have h45_0 : S0 43 45 = nI 0 := by rw [hS0]; rfl
  have h44_0 : S0 43 44 = 1 := by rw [hS0]; exact h44
  rw [C_X9_passesAll, ← hS0]
  rw [← hS0] at f0
  obtain ⟨S1, e1, f1, h45_1, b1⟩ := pi_45 (off := 0) (by decide) X S0 h45_0 h44_0
  have h44_1 : S1 43 44 = 1 := by rw [fr_fld f1 43 44 (by decide) (by decide)]; exact h44_0
  rw [e1, cV_ok]
  obtain ⟨S2, e2, f2, h45_2, b2⟩ := pi_46 (off := 7) (by decide) X S1 h45_1 h44_1
  have h44_2 : S2 43 44 = 1 := by rw [fr_fld f2 43 44 (by decide) (by decide)]; exact h44_1
  rw [e2, cV_ok]
  obtain ⟨S3, e3, f3, h45_3, b3⟩ := pi_47 (off := 14) (by decide) X S2 h45_2 h44_2
  have h44_3 : S3 43 44 = 1 := by rw [fr_fld f3 43 44 (by decide) (by decide)]; exact h44_2
  rw [e3, cV_ok]
  obtain ⟨S4, e4, f4, h45_4, b4⟩ := pi_48 (off := 21) (by decide) X S3 h45_3 h44_3
  have h44_4 : S4 43 44 = 1 := by rw [fr_fld f4 43 44 (by decide) (by decide)]; exact h44_3
  rw [e4, cV_ok]
  obtain ⟨S5, e5, f5, h45_5, b5⟩ := pi_49 (off := 45) (by decide) X S4 h45_4 h44_4
  have h44_5 : S5 43 44 = 1 := by rw [fr_fld f5 43 44 (by decide) (by decide)]; exact h44_4
  rw [e5, cV_ok]
  obtain ⟨S6, e6, f6, h45_6, b6⟩ := pi_50 (off := 69) (by decide) X S5 h45_5 h44_5
  have h44_6 : S6 43 44 = 1 := by rw [fr_fld f6 43 44 (by decide) (by decide)]; exact h44_5
  rw [e6, cV_ok]
  obtain ⟨S7, e7, f7, h45_7, b7⟩ := pi_51 (off := 93) (by decide) X S6 h45_6 h44_6
  have h44_7 : S7 43 44 = 1 := by rw [fr_fld f7 43 44 (by decide) (by decide)]; exact h44_6
  rw [e7, cV_ok]
  obtain ⟨S8, e8, f8, h45_8, b8⟩ := pi_52 (off := 103) (by decide) X S7 h45_7 h44_7
  have h44_8 : S8 43 44 = 1 := by rw [fr_fld f8 43 44 (by decide) (by decide)]; exact h44_7
  rw [e8, cV_ok]
  obtain ⟨S9, e9, f9, h45_9, b9⟩ := pi_53 (off := 113) (by decide) X S8 h45_8 h44_8
  have h44_9 : S9 43 44 = 1 := by rw [fr_fld f9 43 44 (by decide) (by decide)]; exact h44_8
  rw [e9, cV_ok]
  obtain ⟨S10, e10, f10, h45_10, b10⟩ := pi_54 (off := 120) (by decide) X S9 h45_9 h44_9
  have h44_10 : S10 43 44 = 1 := by rw [fr_fld f10 43 44 (by decide) (by decide)]; exact h44_9
  rw [e10, cV_ok]
  have F : fr [64] [(43, 45)] S S10 := fr_trans (fr_trans (fr_trans (fr_trans (fr_trans (fr_trans (fr_trans (fr_trans (fr_trans (fr_trans (fr_mono f0 (by decide) (by decide)) f1) f2) f3) f4) f5) f6) f7) f8) f9) f10
  obtain ⟨Ta, hTa⟩ : ∃ Ta, Ta = up2 (up2 (up2 S10 64 127 (S10 43 11)) 43 45 (nI 128)) 43 11 (S10 43 11) := ⟨_, rfl⟩
  have ta45 : Ta 43 45 = nI 128 := by rw [hTa]; rfl
  have ta44 : Ta 43 44 = 1 := by rw [hTa]; exact h44_10
  rw [po_i (by decide) X S10 h45_10 h44_10, cI_ok, ← hTa]
  have q12 : (up2 (up2 S10 64 127 (S10 43 11)) 43 45 (nI 128)) 43 12 = S10 43 12 := rfl
  rw [q12, po_i (by decide) X Ta ta45 ta44, cI_ok]
  have q13 : (up2 (up2 Ta 64 128 (S10 43 12)) 43 45 (nI 129)) 43 13 = S10 43 13 := by rw [hTa]; rfl
  obtain ⟨Tb, hTb⟩ : ∃ Tb, Tb = up2 (up2 (up2 Ta 64 128 (S10 43 12)) 43 45 (nI 129)) 43 12 (S10 43 12) := ⟨_, rfl⟩
  have tb45 : Tb 43 45 = nI 129 := by rw [hTb]; rfl
  have tb44 : Tb 43 44 = 1 := by rw [hTb]; exact ta44
  rw [q13, ← hTb, po_i (by decide) X Tb tb45 tb44, cI_ok]
  have g11 : S10 43 11 = S 43 11 := fr_fld F 43 11 (by decide) (by decide)
  have g12 : S10 43 12 = S 43 12 := fr_fld F 43 12 (by decide) (by decide)
  have g13 : S10 43 13 = S 43 13 := fr_fld F 43 13 (by decide) (by decide)
  obtain ⟨Tc, hTc⟩ : ∃ Tc, Tc = up2 (up2 (up2 Tb 64 129 (S10 43 13)) 43 45 (nI 130)) 43 13 (S10 43 13) := ⟨_, rfl⟩
  refine ⟨Tc, by rw [hTc], ?_, ?_, ?_, ?_, ?_, ?_, ?_, ?_, ?_, ?_, ?_, ?_, ?_, ?_⟩
  · rw [hTc, hTb, hTa]
    exact fr_same (fr_upF (fr_upL (fr_same (fr_upF (fr_upL (fr_same (fr_upF (fr_upL F (by decide)) (by decide)) g11) (by decide)) (by decide)) g12) (by decide)) (by decide)) g13
  · intro j hj
    have big : Tc 64 (0 + j) = S10 64 (0 + j) := by
      rw [hTc, hTb, hTa]
      simp only [up2_ap]
      rw [if_neg (by omega), if_neg (by omega), if_neg (by omega), if_neg (by omega), if_neg (by omega), if_neg (by omega), if_neg (by omega), if_neg (by omega), if_neg (by omega)]
    rw [big, b10, if_neg (by omega), b9, if_neg (by omega), b8, if_neg (by omega), b7, if_neg (by omega), b6, if_neg (by omega), b5, if_neg (by omega), b4, if_neg (by omega), b3, if_neg (by omega), b2, if_neg (by omega), b1, if_pos (by omega), Nat.add_sub_cancel_left, hS0]
    rfl
  · intro j hj
    have big : Tc 64 (7 + j) = S10 64 (7 + j) := by
      rw [hTc, hTb, hTa]
      simp only [up2_ap]
      rw [if_neg (by omega), if_neg (by omega), if_neg (by omega), if_neg (by omega), if_neg (by omega), if_neg (by omega), if_neg (by omega), if_neg (by omega), if_neg (by omega)]
    rw [big, b10, if_neg (by omega), b9, if_neg (by omega), b8, if_neg (by omega), b7, if_neg (by omega), b6, if_neg (by omega), b5, if_neg (by omega), b4, if_neg (by omega), b3, if_neg (by omega), b2, if_pos (by omega), Nat.add_sub_cancel_left, fr_cell f1 46 (by decide) (by decide), hS0]
    rfl
  · intro j hj
    have big : Tc 64 (14 + j) = S10 64 (14 + j) := by
      rw [hTc, hTb, hTa]
      simp only [up2_ap]
      rw [if_neg (by omega), if_neg (by omega), if_neg (by omega), if_neg (by omega), if_neg (by omega), if_neg (by omega), if_neg (by omega), if_neg (by omega), if_neg (by omega)]
    rw [big, b10, if_neg (by omega), b9, if_neg (by omega), b8, if_neg (by omega), b7, if_neg (by omega), b6, if_neg (by omega), b5, if_neg (by omega), b4, if_neg (by omega), b3, if_pos (by omega), Nat.add_sub_cancel_left, fr_cell f2 47 (by decide) (by decide), fr_cell f1 47 (by decide) (by decide), hS0]
    rfl
  · intro j hj
    have big : Tc 64 (21 + j) = S10 64 (21 + j) := by
      rw [hTc, hTb, hTa]
      simp only [up2_ap]
      rw [if_neg (by omega), if_neg (by omega), if_neg (by omega), if_neg (by omega), if_neg (by omega), if_neg (by omega), if_neg (by omega), if_neg (by omega), if_neg (by omega)]
    rw [big, b10, if_neg (by omega), b9, if_neg (by omega), b8, if_neg (by omega), b7, if_neg (by omega), b6, if_neg (by omega), b5, if_neg (by omega), b4, if_pos (by omega), Nat.add_sub_cancel_left, fr_cell f3 48 (by decide) (by decide), fr_cell f2 48 (by decide) (by decide), fr_cell f1 48 (by decide) (by decide), hS0]
    rfl
  · intro j hj
    have big : Tc 64 (45 + j) = S10 64 (45 + j) := by
      rw [hTc, hTb, hTa]
      simp only [up2_ap]
      rw [if_neg (by omega), if_neg (by omega), if_neg (by omega), if_neg (by omega), if_neg (by omega), if_neg (by omega), if_neg (by omega), if_neg (by omega), if_neg (by omega)]
    rw [big, b10, if_neg (by omega), b9, if_neg (by omega), b8, if_neg (by omega), b7, if_neg (by omega), b6, if_neg (by omega), b5, if_pos (by omega), Nat.add_sub_cancel_left, fr_cell f4 49 (by decide) (by decide), fr_cell f3 49 (by decide) (by decide), fr_cell f2 49 (by decide) (by decide), fr_cell f1 49 (by decide) (by decide), hS0]
    rfl
  · intro j hj
    have big : Tc 64 (69 + j) = S10 64 (69 + j) := by
      rw [hTc, hTb, hTa]
      simp only [up2_ap]
      rw [if_neg (by omega), if_neg (by omega), if_neg (by omega), if_neg (by omega), if_neg (by omega), if_neg (by omega), if_neg (by omega), if_neg (by omega), if_neg (by omega)]
    rw [big, b10, if_neg (by omega), b9, if_neg (by omega), b8, if_neg (by omega), b7, if_neg (by omega), b6, if_pos (by omega), Nat.add_sub_cancel_left, fr_cell f5 50 (by decide) (by decide), fr_cell f4 50 (by decide) (by decide), fr_cell f3 50 (by decide) (by decide), fr_cell f2 50 (by decide) (by decide), fr_cell f1 50 (by decide) (by decide), hS0]
    rfl
  · intro j hj
    have big : Tc 64 (93 + j) = S10 64 (93 + j) := by
      rw [hTc, hTb, hTa]
      simp only [up2_ap]
      rw [if_neg (by omega), if_neg (by omega), if_neg (by omega), if_neg (by omega), if_neg (by omega), if_neg (by omega), if_neg (by omega), if_neg (by omega), if_neg (by omega)]
    rw [big, b10, if_neg (by omega), b9, if_neg (by omega), b8, if_neg (by omega), b7, if_pos (by omega), Nat.add_sub_cancel_left, fr_cell f6 51 (by decide) (by decide), fr_cell f5 51 (by decide) (by decide), fr_cell f4 51 (by decide) (by decide), fr_cell f3 51 (by decide) (by decide), fr_cell f2 51 (by decide) (by decide), fr_cell f1 51 (by decide) (by decide), hS0]
    rfl
  · intro j hj
    have big : Tc 64 (103 + j) = S10 64 (103 + j) := by
      rw [hTc, hTb, hTa]
      simp only [up2_ap]
      rw [if_neg (by omega), if_neg (by omega), if_neg (by omega), if_neg (by omega), if_neg (by omega), if_neg (by omega), if_neg (by omega), if_neg (by omega), if_neg (by omega)]
    rw [big, b10, if_neg (by omega), b9, if_neg (by omega), b8, if_pos (by omega), Nat.add_sub_cancel_left, fr_cell f7 52 (by decide) (by decide), fr_cell f6 52 (by decide) (by decide), fr_cell f5 52 (by decide) (by decide), fr_cell f4 52 (by decide) (by decide), fr_cell f3 52 (by decide) (by decide), fr_cell f2 52 (by decide) (by decide), fr_cell f1 52 (by decide) (by decide), hS0]
    rfl
  · intro j hj
    have big : Tc 64 (113 + j) = S10 64 (113 + j) := by
      rw [hTc, hTb, hTa]
      simp only [up2_ap]
      rw [if_neg (by omega), if_neg (by omega), if_neg (by omega), if_neg (by omega), if_neg (by omega), if_neg (by omega), if_neg (by omega), if_neg (by omega), if_neg (by omega)]
    rw [big, b10, if_neg (by omega), b9, if_pos (by omega), Nat.add_sub_cancel_left, fr_cell f8 53 (by decide) (by decide), fr_cell f7 53 (by decide) (by decide), fr_cell f6 53 (by decide) (by decide), fr_cell f5 53 (by decide) (by decide), fr_cell f4 53 (by decide) (by decide), fr_cell f3 53 (by decide) (by decide), fr_cell f2 53 (by decide) (by decide), fr_cell f1 53 (by decide) (by decide), hS0]
    rfl
  · intro j hj
    have big : Tc 64 (120 + j) = S10 64 (120 + j) := by
      rw [hTc, hTb, hTa]
      simp only [up2_ap]
      rw [if_neg (by omega), if_neg (by omega), if_neg (by omega), if_neg (by omega), if_neg (by omega), if_neg (by omega), if_neg (by omega), if_neg (by omega), if_neg (by omega)]
    rw [big, b10, if_pos (by omega), Nat.add_sub_cancel_left, fr_cell f9 54 (by decide) (by decide), fr_cell f8 54 (by decide) (by decide), fr_cell f7 54 (by decide) (by decide), fr_cell f6 54 (by decide) (by decide), fr_cell f5 54 (by decide) (by decide), fr_cell f4 54 (by decide) (by decide), fr_cell f3 54 (by decide) (by decide), fr_cell f2 54 (by decide) (by decide), fr_cell f1 54 (by decide) (by decide), hS0]
    rfl
  · rw [hTc, hTb, hTa]
    exact g11
  · rw [hTc, hTb]
    exact g12
  · rw [hTc]
    exact g13
theorem pa_r (X : sX) (S : sS) (h44 : S 43 44 = 0) : ∃ S', Cal X 226 [.ref 43] S = some (none, S') ∧ fr [45, 46, 47, 48, 49, 50, 51, 52, 53, 54] [(43, 45), (43, 11), (43, 12), (43, 13)] S S' ∧ (∀ j, j < 7 → S' 45 j = S 64 (0 + j)) ∧ (∀ j, j < 7 → S' 46 j = S 64 (7 + j)) ∧ (∀ j, j < 7 → S' 47 j = S 64 (14 + j)) ∧ (∀ j, j < 24 → S' 48 j = S 64 (21 + j)) ∧ (∀ j, j < 24 → S' 49 j = S 64 (45 + j)) ∧ (∀ j, j < 24 → S' 50 j = S 64 (69 + j)) ∧ (∀ j, j < 10 → S' 51 j = S 64 (93 + j)) ∧ (∀ j, j < 10 → S' 52 j = S 64 (103 + j)) ∧ (∀ j, j < 7 → S' 53 j = S 64 (113 + j)) ∧ (∀ j, j < 7 → S' 54 j = S 64 (120 + j)) ∧ S' 43 11 = S 64 127 ∧ S' 43 12 = S 64 128 ∧ S' 43 13 = S 64 129 := by
  have f0 : fr [] [(43, 45)] S (up2 S 43 45 0) := fr_upF fr_rfl (by decide)
  obtain ⟨S0, hS0⟩ : ∃ S0, S0 = up2 S 43 45 0 := ⟨_, rfl⟩
  have h45_0 : S0 43 45 = nI 0 := by rw [hS0]; rfl
  have h44_0 : S0 43 44 = 0 := by rw [hS0]; exact h44
  rw [C_X9_passesAll, ← hS0]
  rw [← hS0] at f0
  obtain ⟨S1, e1, f1, h45_1, b1⟩ := pr_45 (off := 0) (by decide) X S0 h45_0 h44_0
  have h44_1 : S1 43 44 = 0 := by rw [fr_fld f1 43 44 (by decide) (by decide)]; exact h44_0
  rw [e1, cV_ok]
  obtain ⟨S2, e2, f2, h45_2, b2⟩ := pr_46 (off := 7) (by decide) X S1 h45_1 h44_1
  have h44_2 : S2 43 44 = 0 := by rw [fr_fld f2 43 44 (by decide) (by decide)]; exact h44_1
  rw [e2, cV_ok]
  obtain ⟨S3, e3, f3, h45_3, b3⟩ := pr_47 (off := 14) (by decide) X S2 h45_2 h44_2
  have h44_3 : S3 43 44 = 0 := by rw [fr_fld f3 43 44 (by decide) (by decide)]; exact h44_2
  rw [e3, cV_ok]
  obtain ⟨S4, e4, f4, h45_4, b4⟩ := pr_48 (off := 21) (by decide) X S3 h45_3 h44_3
  have h44_4 : S4 43 44 = 0 := by rw [fr_fld f4 43 44 (by decide) (by decide)]; exact h44_3
  rw [e4, cV_ok]
  obtain ⟨S5, e5, f5, h45_5, b5⟩ := pr_49 (off := 45) (by decide) X S4 h45_4 h44_4
  have h44_5 : S5 43 44 = 0 := by rw [fr_fld f5 43 44 (by decide) (by decide)]; exact h44_4
  rw [e5, cV_ok]
  obtain ⟨S6, e6, f6, h45_6, b6⟩ := pr_50 (off := 69) (by decide) X S5 h45_5 h44_5
  have h44_6 : S6 43 44 = 0 := by rw [fr_fld f6 43 44 (by decide) (by decide)]; exact h44_5
  rw [e6, cV_ok]
  obtain ⟨S7, e7, f7, h45_7, b7⟩ := pr_51 (off := 93) (by decide) X S6 h45_6 h44_6
  have h44_7 : S7 43 44 = 0 := by rw [fr_fld f7 43 44 (by decide) (by decide)]; exact h44_6
  rw [e7, cV_ok]
  obtain ⟨S8, e8, f8, h45_8, b8⟩ := pr_52 (off := 103) (by decide) X S7 h45_7 h44_7
  have h44_8 : S8 43 44 = 0 := by rw [fr_fld f8 43 44 (by decide) (by decide)]; exact h44_7
  rw [e8, cV_ok]
  obtain ⟨S9, e9, f9, h45_9, b9⟩ := pr_53 (off := 113) (by decide) X S8 h45_8 h44_8
  have h44_9 : S9 43 44 = 0 := by rw [fr_fld f9 43 44 (by decide) (by decide)]; exact h44_8
  rw [e9, cV_ok]
  obtain ⟨S10, e10, f10, h45_10, b10⟩ := pr_54 (off := 120) (by decide) X S9 h45_9 h44_9
  have h44_10 : S10 43 44 = 0 := by rw [fr_fld f10 43 44 (by decide) (by decide)]; exact h44_9
  rw [e10, cV_ok]
  have d1 : S1 64 = S 64 := by
    rw [fr_cell f1 64 (by decide) (by decide), hS0]
    rfl
  have d2 : S2 64 = S 64 := by rw [fr_cell f2 64 (by decide) (by decide), d1]
  have d3 : S3 64 = S 64 := by rw [fr_cell f3 64 (by decide) (by decide), d2]
  have d4 : S4 64 = S 64 := by rw [fr_cell f4 64 (by decide) (by decide), d3]
  have d5 : S5 64 = S 64 := by rw [fr_cell f5 64 (by decide) (by decide), d4]
  have d6 : S6 64 = S 64 := by rw [fr_cell f6 64 (by decide) (by decide), d5]
  have d7 : S7 64 = S 64 := by rw [fr_cell f7 64 (by decide) (by decide), d6]
  have d8 : S8 64 = S 64 := by rw [fr_cell f8 64 (by decide) (by decide), d7]
  have d9 : S9 64 = S 64 := by rw [fr_cell f9 64 (by decide) (by decide), d8]
  have d10 : S10 64 = S 64 := by rw [fr_cell f10 64 (by decide) (by decide), d9]
  have w : ∀ {L : List Nat} {T T' : sS}, fr L [(43, 45)] T T' → (∀ c ∈ L, c ∈ [45, 46, 47, 48, 49, 50, 51, 52, 53, 54]) → fr [45, 46, 47, 48, 49, 50, 51, 52, 53, 54] [(43, 45), (43, 11), (43, 12), (43, 13)] T T' := fun h hl => fr_mono h hl (by decide)
  have F : fr [45, 46, 47, 48, 49, 50, 51, 52, 53, 54] [(43, 45), (43, 11), (43, 12), (43, 13)] S S10 := fr_trans (fr_trans (fr_trans (fr_trans (fr_trans (fr_trans (fr_trans (fr_trans (fr_trans (fr_trans (w f0 (by decide)) (w f1 (by decide))) (w f2 (by decide))) (w f3 (by decide))) (w f4 (by decide))) (w f5 (by decide))) (w f6 (by decide))) (w f7 (by decide))) (w f8 (by decide))) (w f9 (by decide))) (w f10 (by decide))
  obtain ⟨Ta, hTa⟩ : ∃ Ta, Ta = up2 (up2 S10 43 45 (nI 128)) 43 11 (S10 64 127) := ⟨_, rfl⟩
  have ta45 : Ta 43 45 = nI 128 := by rw [hTa]; rfl
  have ta44 : Ta 43 44 = 0 := by rw [hTa]; exact h44_10
  rw [po_r (by decide) X S10 h45_10 h44_10, cI_ok, ← hTa, po_r (by decide) X Ta ta45 ta44, cI_ok]
  obtain ⟨Tb, hTb⟩ : ∃ Tb, Tb = up2 (up2 Ta 43 45 (nI 129)) 43 12 (Ta 64 128) := ⟨_, rfl⟩
  have tb45 : Tb 43 45 = nI 129 := by rw [hTb]; rfl
  have tb44 : Tb 43 44 = 0 := by rw [hTb]; exact ta44
  rw [← hTb, po_r (by decide) X Tb tb45 tb44, cI_ok]
  obtain ⟨Tc, hTc⟩ : ∃ Tc, Tc = up2 (up2 Tb 43 45 (nI 130)) 43 13 (Tb 64 129) := ⟨_, rfl⟩
  have r43 : ∀ c, c ≠ 43 → Tc c = S10 c := by
    intro c hc
    rw [hTc, hTb, hTa]
    rw [up2_ne _ _ _ hc, up2_ne _ _ _ hc, up2_ne _ _ _ hc, up2_ne _ _ _ hc, up2_ne _ _ _ hc, up2_ne _ _ _ hc]
  refine ⟨Tc, by rw [hTc], ?_, ?_, ?_, ?_, ?_, ?_, ?_, ?_, ?_, ?_, ?_, ?_, ?_, ?_⟩
  · rw [hTc, hTb, hTa]
    exact fr_upF (fr_upF (fr_upF (fr_upF (fr_upF (fr_upF F (by decide)) (by decide)) (by decide)) (by decide)) (by decide)) (by decide)
  · intro j hj
    rw [r43 45 (by decide), fr_cell f10 45 (by decide) (by decide), fr_cell f9 45 (by decide) (by decide), fr_cell f8 45 (by decide) (by decide), fr_cell f7 45 (by decide) (by decide), fr_cell f6 45 (by decide) (by decide), fr_cell f5 45 (by decide) (by decide), fr_cell f4 45 (by decide) (by decide), fr_cell f3 45 (by decide) (by decide), fr_cell f2 45 (by decide) (by decide), b1 j hj, hS0]
    rfl
  · intro j hj
    rw [r43 46 (by decide), fr_cell f10 46 (by decide) (by decide), fr_cell f9 46 (by decide) (by decide), fr_cell f8 46 (by decide) (by decide), fr_cell f7 46 (by decide) (by decide), fr_cell f6 46 (by decide) (by decide), fr_cell f5 46 (by decide) (by decide), fr_cell f4 46 (by decide) (by decide), fr_cell f3 46 (by decide) (by decide), b2 j hj, d1]
  · intro j hj
    rw [r43 47 (by decide), fr_cell f10 47 (by decide) (by decide), fr_cell f9 47 (by decide) (by decide), fr_cell f8 47 (by decide) (by decide), fr_cell f7 47 (by decide) (by decide), fr_cell f6 47 (by decide) (by decide), fr_cell f5 47 (by decide) (by decide), fr_cell f4 47 (by decide) (by decide), b3 j hj, d2]
  · intro j hj
    rw [r43 48 (by decide), fr_cell f10 48 (by decide) (by decide), fr_cell f9 48 (by decide) (by decide), fr_cell f8 48 (by decide) (by decide), fr_cell f7 48 (by decide) (by decide), fr_cell f6 48 (by decide) (by decide), fr_cell f5 48 (by decide) (by decide), b4 j hj, d3]
  · intro j hj
    rw [r43 49 (by decide), fr_cell f10 49 (by decide) (by decide), fr_cell f9 49 (by decide) (by decide), fr_cell f8 49 (by decide) (by decide), fr_cell f7 49 (by decide) (by decide), fr_cell f6 49 (by decide) (by decide), b5 j hj, d4]
  · intro j hj
    rw [r43 50 (by decide), fr_cell f10 50 (by decide) (by decide), fr_cell f9 50 (by decide) (by decide), fr_cell f8 50 (by decide) (by decide), fr_cell f7 50 (by decide) (by decide), b6 j hj, d5]
  · intro j hj
    rw [r43 51 (by decide), fr_cell f10 51 (by decide) (by decide), fr_cell f9 51 (by decide) (by decide), fr_cell f8 51 (by decide) (by decide), b7 j hj, d6]
  · intro j hj
    rw [r43 52 (by decide), fr_cell f10 52 (by decide) (by decide), fr_cell f9 52 (by decide) (by decide), b8 j hj, d7]
  · intro j hj
    rw [r43 53 (by decide), fr_cell f10 53 (by decide) (by decide), b9 j hj, d8]
  · intro j hj
    rw [r43 54 (by decide), b10 j hj, d9]
  · rw [hTc, hTb, hTa]
    show S10 64 127 = _
    rw [d10]
  · rw [hTc, hTb, hTa]
    show S10 64 128 = _
    rw [d10]
  · rw [hTc, hTb, hTa]
    show S10 64 129 = _
    rw [d10]
