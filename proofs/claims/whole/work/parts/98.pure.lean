/-! the law -/
theorem rel_0 : Rel S0 := by
  refine ⟨0, 0, 0, ?_, ?_, rfl, ?_, ?_, ?_, Or.inl rfl⟩
  · exact ⟨⟨rfl, by decide, rfl, by decide, fun v hv => absurd hv (Nat.not_lt_zero v)⟩, rfl, by decide, rfl, rfl, rfl, fun v hv => absurd hv (Nat.not_lt_zero v), fun v hv => absurd hv (Nat.not_lt_zero v), fun v hv => absurd hv (Nat.not_lt_zero v)⟩
  · exact ⟨0, by decide, rfl, rfl, fun v hv => absurd hv (Nat.not_lt_zero v)⟩
  · exact ⟨rfl, Or.inl rfl⟩
  · exact ⟨[], List.nodup_nil, fun a ha => absurd ha List.not_mem_nil, rfl, rfl, rfl, fun v hv => absurd hv (Nat.not_lt_zero v)⟩
  · exact ⟨Or.inl rfl, Or.inl rfl, Or.inl rfl, Or.inl rfl, Or.inl rfl⟩
theorem law_step {X : sX} (hX : X.1 ≤ 256) {i : Nat} (hi : i + 4 ≤ X.1) {S : sS} (R : Rel S) : ∃ S', Rel S' ∧ Run X 231 18 [some (.ref 999), some (.ref 0), some (.ref 43), some (.int (nI i))] [] S = Run X 231 18 [some (.ref 999), some (.ref 0), some (.ref 43), some (.int (nI (i + 4)))] [] S' := by
  have e1 : nI i + 1 = nI (i + 1) := nI_1 i
  have e2 : nI i + 2 = nI (i + 2) := by rw [show (2 : Int32) = nI 2 from rfl, nI_add]
  have e3 : nI i + 3 = nI (i + 3) := by rw [show (3 : Int32) = nI 3 from rfl, nI_add]
  have e4 : nI i + 4 = nI (i + 4) := by rw [show (4 : Int32) = nI 4 from rfl, nI_add]
  have i1 : ∀ f : Nat → sR, ix (nI (i + 1)) X.1 f = f (i + 1) := fun f => ix_nI (by omega) (by omega)
  have i2 : ∀ f : Nat → sR, ix (nI (i + 2)) X.1 f = f (i + 2) := fun f => ix_nI (by omega) (by omega)
  have i3 : ∀ f : Nat → sR, ix (nI (i + 3)) X.1 f = f (i + 3) := fun f => ix_nI (by omega) (by omega)
  have c0 : ¬ Int32.ofNat X.1 - 4 < nI i := by
    show ¬ nI X.1 - nI 4 < nI i
    rw [pk_sub (by omega)]
    exact nI_nlt (by omega) (by omega)
  rw [L_L_law_18, if_neg c0, ix_nI (by omega) (by omega), e1, e2, e3, e4]
  generalize X.2 i &&& 63 = op
  by_cases q : op = 0
  · rw [if_pos q, i1, i2, i3]
    obtain ⟨a, S1, S2, ho, hf, R2⟩ := c_feed R X (X.2 (i + 1)) _
    rw [ho, cI_ok]
    rw [i1, i2, i3]
    dsimp only at hf
    rw [hf, cI_ok, if_pos rfl]
    exact ⟨S2, R2, rfl⟩
  rw [if_neg q]
  clear q
  by_cases q : op = 1
  · rw [if_pos q]
    obtain ⟨a, S1, S2, ho, hf, R2⟩ := c_read R X 
    rw [ho, cI_ok]
    dsimp only at hf
    rw [hf, cI_ok, if_pos rfl]
    exact ⟨S2, R2, rfl⟩
  rw [if_neg q]
  clear q
  by_cases q : op = 2
  · rw [if_pos q, i1, i2]
    obtain ⟨a, S1, S2, ho, hf, R2⟩ := c_member R X (X.2 (i + 1)) (X.2 (i + 2))
    rw [ho, cI_ok]
    rw [i1, i2]
    dsimp only at hf
    rw [hf, cI_ok, if_pos rfl]
    exact ⟨S2, R2, rfl⟩
  rw [if_neg q]
  clear q
  by_cases q : op = 3
  · rw [if_pos q, i1, i2]
    obtain ⟨a, S1, S2, ho, hf, R2⟩ := c_party R X (X.2 (i + 1)) (X.2 (i + 2))
    rw [ho, cI_ok]
    rw [i1, i2]
    dsimp only at hf
    rw [hf, cI_ok, if_pos rfl]
    exact ⟨S2, R2, rfl⟩
  rw [if_neg q]
  clear q
  by_cases q : op = 4
  · rw [if_pos q, i1, i2, i3]
    obtain ⟨a, S1, S2, ho, hf, R2⟩ := c_vote R X (X.2 (i + 1)) (X.2 (i + 2)) (X.2 (i + 3))
    rw [ho, cI_ok]
    rw [i1, i2, i3]
    dsimp only at hf
    rw [hf, cI_ok, if_pos rfl]
    exact ⟨S2, R2, rfl⟩
  rw [if_neg q]
  clear q
  by_cases q : op = 5
  · rw [if_pos q, i1, i2]
    obtain ⟨a, S1, S2, ho, hf, R2⟩ := c_of R X (X.2 (i + 1)) (X.2 (i + 2))
    rw [ho, cI_ok]
    rw [i1, i2]
    dsimp only at hf
    rw [hf, cI_ok, if_pos rfl]
    exact ⟨S2, R2, rfl⟩
  rw [if_neg q]
  clear q
  by_cases q : op = 6
  · rw [if_pos q]
    obtain ⟨a, S1, S2, ho, hf, R2⟩ := c_takeOut R X 
    rw [ho, cI_ok]
    dsimp only at hf
    rw [hf, cI_ok, if_pos rfl]
    exact ⟨S2, R2, rfl⟩
  rw [if_neg q]
  clear q
  by_cases q : op = 7
  · rw [if_pos q, i1, i2]
    obtain ⟨a, S1, S2, ho, hf, R2⟩ := c_hold R X (X.2 (i + 1)) (X.2 (i + 2))
    rw [ho, cI_ok]
    rw [i1, i2]
    dsimp only at hf
    rw [hf, cI_ok, if_pos rfl]
    exact ⟨S2, R2, rfl⟩
  rw [if_neg q]
  clear q
  by_cases q : op = 8
  · rw [if_pos q]
    obtain ⟨a, S1, S2, ho, hf, R2⟩ := c_free R X 
    rw [ho, cI_ok]
    dsimp only at hf
    rw [hf, cI_ok, if_pos rfl]
    exact ⟨S2, R2, rfl⟩
  rw [if_neg q]
  clear q
  by_cases q : op = 9
  · rw [if_pos q, i1, i2]
    obtain ⟨a, S1, S2, ho, hf, R2⟩ := c_apart R X (X.2 (i + 1)) (X.2 (i + 2))
    rw [ho, cI_ok]
    rw [i1, i2]
    dsimp only at hf
    rw [hf, cI_ok, if_pos rfl]
    exact ⟨S2, R2, rfl⟩
  rw [if_neg q]
  clear q
  by_cases q : op = 10
  · rw [if_pos q, i1]
    obtain ⟨a, S1, S2, ho, hf, R2⟩ := c_put R X (X.2 (i + 1))
    rw [ho, cI_ok]
    rw [i1]
    dsimp only at hf
    rw [hf, cI_ok, if_pos rfl]
    exact ⟨S2, R2, rfl⟩
  rw [if_neg q]
  clear q
  by_cases q : op = 11
  · rw [if_pos q]
    obtain ⟨a, S1, S2, ho, hf, R2⟩ := c_judge R X 
    rw [ho, cI_ok]
    dsimp only at hf
    rw [hf, cI_ok, if_pos rfl]
    exact ⟨S2, R2, rfl⟩
  rw [if_neg q]
  clear q
  by_cases q : op = 12
  · rw [if_pos q, i1]
    obtain ⟨a, S1, S2, ho, hf, R2⟩ := c_cut R X (X.2 (i + 1))
    rw [ho, cI_ok]
    rw [i1]
    dsimp only at hf
    rw [hf, cI_ok, if_pos rfl]
    exact ⟨S2, R2, rfl⟩
  rw [if_neg q]
  clear q
  by_cases q : op = 13
  · rw [if_pos q, i1]
    obtain ⟨a, S1, S2, ho, hf, R2⟩ := c_wrong R X (X.2 (i + 1))
    rw [ho, cI_ok]
    rw [i1]
    dsimp only at hf
    rw [hf, cI_ok, if_pos rfl]
    exact ⟨S2, R2, rfl⟩
  rw [if_neg q]
  clear q
  by_cases q : op = 14
  · rw [if_pos q, i1]
    obtain ⟨a, S1, S2, ho, hf, R2⟩ := c_best R X (X.2 (i + 1))
    rw [ho, cI_ok]
    rw [i1]
    dsimp only at hf
    rw [hf, cI_ok, if_pos rfl]
    exact ⟨S2, R2, rfl⟩
  rw [if_neg q]
  clear q
  by_cases q : op = 15
  · rw [if_pos q, i1, i2]
    obtain ⟨a, S1, S2, ho, hf, R2⟩ := c_row R X (X.2 (i + 1)) (X.2 (i + 2))
    rw [ho, cI_ok]
    rw [i1, i2]
    dsimp only at hf
    rw [hf, cI_ok, if_pos rfl]
    exact ⟨S2, R2, rfl⟩
  rw [if_neg q]
  clear q
  by_cases q : op = 16
  · rw [if_pos q]
    obtain ⟨a, S1, S2, ho, hf, R2⟩ := c_open R X 
    rw [ho, cI_ok]
    dsimp only at hf
    rw [hf, cI_ok, if_pos rfl]
    exact ⟨S2, R2, rfl⟩
  rw [if_neg q]
  clear q
  by_cases q : op = 17
  · rw [if_pos q]
    obtain ⟨a, S1, S2, ho, hf, R2⟩ := c_knot R X 
    rw [ho, cI_ok]
    dsimp only at hf
    rw [hf, cI_ok, if_pos rfl]
    exact ⟨S2, R2, rfl⟩
  rw [if_neg q]
  clear q
  by_cases q : op = 18
  · rw [if_pos q, i1, i2]
    obtain ⟨a, S1, S2, ho, hf, R2⟩ := c_chance R X (X.2 (i + 1)) (X.2 (i + 2))
    rw [ho, cI_ok]
    rw [i1, i2]
    dsimp only at hf
    rw [hf, cI_ok, if_pos rfl]
    exact ⟨S2, R2, rfl⟩
  rw [if_neg q]
  clear q
  by_cases q : op = 19
  · rw [if_pos q, i1, i2, i3]
    obtain ⟨a, S1, S2, ho, hf, R2⟩ := c_place R X (X.2 (i + 1)) (X.2 (i + 2)) (X.2 (i + 3))
    rw [ho, cI_ok]
    rw [i1, i2, i3]
    dsimp only at hf
    rw [hf, cI_ok, if_pos rfl]
    exact ⟨S2, R2, rfl⟩
  rw [if_neg q]
  clear q
  by_cases q : op = 20
  · rw [if_pos q, i1]
    obtain ⟨a, S1, S2, ho, hf, R2⟩ := c_line R X (X.2 (i + 1))
    rw [ho, cI_ok]
    rw [i1]
    dsimp only at hf
    rw [hf, cI_ok, if_pos rfl]
    exact ⟨S2, R2, rfl⟩
  rw [if_neg q]
  clear q
  by_cases q : op = 21
  · rw [if_pos q]
    obtain ⟨a, S1, S2, ho, hf, R2⟩ := c_sheet R X 
    rw [ho, cI_ok]
    dsimp only at hf
    rw [hf, cI_ok, if_pos rfl]
    exact ⟨S2, R2, rfl⟩
  rw [if_neg q]
  clear q
  by_cases q : op = 22
  · rw [if_pos q]
    obtain ⟨a, S1, S2, ho, hf, R2⟩ := c_turn R X 
    rw [ho, cI_ok]
    dsimp only at hf
    rw [hf, cI_ok, if_pos rfl]
    exact ⟨S2, R2, rfl⟩
  rw [if_neg q]
  clear q
  by_cases q : op = 23
  · rw [if_pos q, i1]
    obtain ⟨a, S1, S2, ho, hf, R2⟩ := c_odd R X (X.2 (i + 1))
    rw [ho, cI_ok]
    rw [i1]
    dsimp only at hf
    rw [hf, cI_ok, if_pos rfl]
    exact ⟨S2, R2, rfl⟩
  rw [if_neg q]
  clear q
  by_cases q : op = 24
  · rw [if_pos q, i1]
    obtain ⟨a, S1, S2, ho, hf, R2⟩ := c_second R X (X.2 (i + 1))
    rw [ho, cI_ok]
    rw [i1]
    dsimp only at hf
    rw [hf, cI_ok, if_pos rfl]
    exact ⟨S2, R2, rfl⟩
  rw [if_neg q]
  clear q
  by_cases q : op = 25
  · rw [if_pos q, i1]
    obtain ⟨a, S1, S2, ho, hf, R2⟩ := c_move R X (X.2 (i + 1))
    rw [ho, cI_ok]
    rw [i1]
    dsimp only at hf
    rw [hf, cI_ok, if_pos rfl]
    exact ⟨S2, R2, rfl⟩
  rw [if_neg q]
  clear q
  by_cases q : op = 26
  · rw [if_pos q, i1]
    obtain ⟨a, S1, S2, ho, hf, R2⟩ := c_stretches R X (X.2 (i + 1))
    rw [ho, cI_ok]
    rw [i1]
    dsimp only at hf
    rw [hf, cI_ok, if_pos rfl]
    exact ⟨S2, R2, rfl⟩
  rw [if_neg q]
  clear q
  by_cases q : op = 27
  · rw [if_pos q, i1]
    obtain ⟨a, S1, S2, ho, hf, R2⟩ := c_parties R X (X.2 (i + 1))
    rw [ho, cI_ok]
    rw [i1]
    dsimp only at hf
    rw [hf, cI_ok, if_pos rfl]
    exact ⟨S2, R2, rfl⟩
  rw [if_neg q]
  clear q
  by_cases q : op = 28
  · rw [if_pos q, i1, i2]
    obtain ⟨a, S1, S2, ho, hf, R2⟩ := c_say R X (X.2 (i + 1)) (X.2 (i + 2))
    rw [ho, cI_ok]
    rw [i1, i2]
    dsimp only at hf
    rw [hf, cI_ok, if_pos rfl]
    exact ⟨S2, R2, rfl⟩
  rw [if_neg q]
  clear q
  by_cases q : op = 29
  · rw [if_pos q, i1, i2]
    obtain ⟨a, S1, S2, ho, hf, R2⟩ := c_sure R X (X.2 (i + 1)) (X.2 (i + 2))
    rw [ho, cI_ok]
    rw [i1, i2]
    dsimp only at hf
    rw [hf, cI_ok, if_pos rfl]
    exact ⟨S2, R2, rfl⟩
  rw [if_neg q]
  clear q
  by_cases q : op = 30
  · rw [if_pos q]
    obtain ⟨a, S1, S2, ho, hf, R2⟩ := c_image R X 
    rw [ho, cI_ok]
    dsimp only at hf
    rw [hf, cI_ok, if_pos rfl]
    exact ⟨S2, R2, rfl⟩
  rw [if_neg q]
  clear q
  by_cases q : op = 31
  · rw [if_pos q]
    obtain ⟨a, S1, S2, ho, hf, R2⟩ := c_restore R X 
    rw [ho, cI_ok]
    dsimp only at hf
    rw [hf, cI_ok, if_pos rfl]
    exact ⟨S2, R2, rfl⟩
  rw [if_neg q]
  clear q
  by_cases q : op = 32
  · rw [if_pos q, i1]
    obtain ⟨a, S1, S2, ho, hf, R2⟩ := c_count R X (X.2 (i + 1))
    rw [ho, cI_ok]
    rw [i1]
    dsimp only at hf
    rw [hf, cI_ok, if_pos rfl]
    exact ⟨S2, R2, rfl⟩
  rw [if_neg q]
  clear q
  exact ⟨S, R, rfl⟩
theorem law_all {X : sX} (hX : X.1 ≤ 256) : ∀ (d i : Nat), X.1 < i + 4 * d → i ≤ 260 → ∀ S, Rel S → ∃ S', Run X 231 18 [some (.ref 999), some (.ref 0), some (.ref 43), some (.int (nI i))] [] S = some (some (.int 1), S') := by
  intro d
  induction d with
  | zero =>
    intro i h hi S R
    refine ⟨S, ?_⟩
    rw [L_L_law_18, if_pos]
    show nI X.1 - nI 4 < nI i
    by_cases q : 4 ≤ X.1
    · rw [pk_sub q]
      exact nI_lt (by omega) (by omega)
    · exact Int32.lt_of_lt_of_le (pk_sneg (a := X.1) (b := 4) (by decide) (by omega)) (nI_pos' (by omega))
  | succ d ih =>
    intro i h hi S R
    by_cases q : i + 4 ≤ X.1
    · obtain ⟨S1, R1, e⟩ := law_step hX q R
      obtain ⟨S', e'⟩ := ih (i + 4) (by omega) (by omega) S1 R1
      exact ⟨S', e.trans e'⟩
    · refine ⟨S, ?_⟩
      rw [L_L_law_18, if_pos]
      show nI X.1 - nI 4 < nI i
      by_cases q : 4 ≤ X.1
      · rw [pk_sub q]
        exact nI_lt (by omega) (by omega)
      · exact Int32.lt_of_lt_of_le (pk_sneg (a := X.1) (b := 4) (by decide) (by omega)) (nI_pos' (by omega))
/-- the law's loop, over the small machine -/
theorem law_pure : ∀ X : sX, X.1 ≤ 256 → ∃ S', Run X 231 18 [some (.ref 999), some (.ref 0), some (.ref 43), some (.int 0)] [] S0 = some (some (.int 1), S') := by
  intro X hX
  exact law_all hX 65 0 (by omega) (by decide) S0 rel_0
