/-! bytes -/
def byte (x : Int64) (k : Nat) : Int32 := Int64.toInt32 (oLushr x (8 * nI k) &&& 255)
def byteM (x : Int64) (k : Nat) : Int32 := Int64.toInt32 (oLshr x (8 * nI k) &&& 255)
theorem byte_sh : ∀ k, k < 8 → ((8 * nI k).toInt64 &&& 63).toBitVec.smod 64 = BitVec.ofNat 64 (8 * k) ∧ ((8 * nI k).toInt64.toUInt64 &&& Int64.toUInt64 63).toBitVec % 64 = BitVec.ofNat 64 (8 * k) := by decide +kernel
theorem b255 : ∀ i, i < 64 → (255#64).getLsbD i = decide (i < 8) := by decide +kernel
theorem byte_bit (x : Int64) {k : Nat} (hk : k < 8) (i : Nat) : (byte x k).toBitVec.getLsbD i = (decide (i < 8) && x.toBitVec.getLsbD (8 * k + i)) := by
  have e : (byte x k).toBitVec = (((x.toBitVec >>> (BitVec.ofNat 64 (8 * k))) &&& 255#64).signExtend 32) := by
    rw [← (byte_sh k hk).2]
    rfl
  rw [e, BitVec.getLsbD_signExtend]
  by_cases h : i < 32
  · rw [decide_eq_true h, if_pos (by omega), BitVec.getLsbD_and, BitVec.ushiftRight_eq', BitVec.getLsbD_ushiftRight, b255 i (by omega), BitVec.toNat_ofNat, Nat.mod_eq_of_lt (by omega), Bool.true_and, Bool.and_comm]
  · have h8 : ¬ i < 8 := by omega
    simp [h, h8]
theorem byteM_bit (x : Int64) {k : Nat} (hk : k < 8) (i : Nat) : (byteM x k).toBitVec.getLsbD i = (decide (i < 8) && x.toBitVec.getLsbD (8 * k + i)) := by
  have e : (byteM x k).toBitVec = (((x.toBitVec.sshiftRight' (BitVec.ofNat 64 (8 * k))) &&& 255#64).signExtend 32) := by
    rw [← (byte_sh k hk).1]
    rfl
  rw [e, BitVec.getLsbD_signExtend]
  by_cases h : i < 32
  · rw [decide_eq_true h, if_pos (by omega), BitVec.getLsbD_and, BitVec.sshiftRight_eq', BitVec.getLsbD_sshiftRight, b255 i (by omega), BitVec.toNat_ofNat, Nat.mod_eq_of_lt (by omega), Bool.true_and]
    by_cases h8 : i < 8
    · have h64 : ¬ 64 ≤ i := by omega
      rw [decide_eq_true h8, decide_eq_false h64, if_pos (by omega), Bool.and_comm]
      rfl
    · rw [decide_eq_false h8, Bool.and_false, Bool.false_and]
  · have h8 : ¬ i < 8 := by omega
    simp [h, h8]
theorem byteM_eq (x : Int64) {k : Nat} (hk : k < 8) : byteM x k = byte x k := by
  apply Int32.toBitVec_inj.mp
  apply BitVec.eq_of_getLsbD_eq
  intro i _
  rw [byte_bit x hk, byteM_bit x hk]
theorem byte_lt (x : Int64) {k : Nat} (hk : k < 8) : ∃ t, t < 256 ∧ byte x k = nI t := by
  refine ⟨nv (byte x k), ?_, (nI_nv _).symm⟩
  refine Nat.lt_pow_two_of_testBit (n := 8) _ fun i hi => ?_
  have := byte_bit x hk i
  rw [decide_eq_false (by omega), Bool.false_and] at this
  exact this
theorem c_feed {S : sS} (R : Rel S) (X : sX) (p1 : Int32) (p2 : Int64) : Two (Cal X 102 [.ref 0, .int p1, .long p2] S) (fun S => Cal X 168 [.ref 43, .int p1, .long p2] S) := by
  obtain ⟨N, V, K, H, ⟨L, l1, l2, l3, l4⟩, E, I, A, C, M⟩ := id R
  rw [C_X8_feed]
  rcases pk_ix p1 (n := 9) (by decide) with q | q | ⟨n, hn, rfl⟩
  · have q1 : p1 < 1 := Int32.lt_of_lt_of_le q (by decide)
    rw [if_neg (Int32.not_le.mpr q1), rf_4, cI_ok]
    refine two_rf R ?_
    show Cal X 168 _ (rfu S 4) = _
    rw [C_X9_feed, mO_lo q1, cI_ok, if_neg (by decide), if_neg (by decide), no_4, cI_ok]
  · have q8 : 8 < p1 := lt_nI_le (n := 8) q (by decide)
    have q1 : 1 ≤ p1 := Int32.le_trans (by decide) q
    rw [if_pos q1, if_pos q8, rf_6, cI_ok]
    refine two_rf R ?_
    show Cal X 168 _ (rfu S 6) = _
    rw [C_X9_feed, mO_hi q1 q8, cI_ok, if_neg (by decide), if_neg (by decide), no_6, cI_ok]
  by_cases h0 : n = 0
  · subst h0
    have q1 : nI 0 < 1 := by decide
    rw [if_neg (Int32.not_le.mpr q1), rf_4, cI_ok]
    refine two_rf R ?_
    show Cal X 168 _ (rfu S 4) = _
    rw [C_X9_feed, mO_lo q1, cI_ok, if_neg (by decide), if_neg (by decide), no_4, cI_ok]
  have q1 : (1 : Int32) ≤ nI n := nI_le (show 1 ≤ n by omega) (by omega)
  have q8 : nI n ≤ (8 : Int32) := nI_le (show n ≤ 8 by omega) (by decide)
  rw [if_pos q1, if_neg (Int32.not_lt.mpr q8), C_X0_hasRoom, l2, nI_add, l90]
  by_cases hr : 90 < L + n
  · rw [if_pos (nI_lt hr (by omega)), cI_ok, if_pos rfl, rf_6, cI_ok]
    refine two_rf R ?_
    show Cal X 168 _ (rfu S 6) = _
    have e : ¬ nI (L + n) ≤ 90 := by rw [l90]; exact nI_ge (by omega) (by omega)
    rw [C_X9_feed, mO_ok q1 q8, cI_ok, if_pos rfl, show rfu S 6 43 16 = nI L from l3, nI_add, if_neg e, if_neg (by decide), no_6, cI_ok]
  rw [if_neg (nI_nlt (by omega) (by omega)), cI_ok, if_neg (by decide), C_X0_append]
  obtain ⟨S1, ⟨a1, a2, a3⟩, e1⟩ := loop_P (F := fun k T => Run X 2 3 [some (.ref 23), some (.int (nI n)), some (.long p2), none, some (.int (nI k))] [] T) (P := fun k T => fr [24] [(23, 2)] S T ∧ T 23 2 = nI (L + k) ∧ ∀ j, T 24 j = if L ≤ j ∧ j < L + k then byte p2 (j - L) else S 24 j) n (by
    intro k hk T ⟨b1, b2, b3⟩
    refine ⟨up2 (up2 T 24 (L + k) (byte p2 k)) 23 2 (nI (L + k + 1)), ⟨fr_upF (fr_upL b1 (by decide)) (by decide), rfl, ?_⟩, ?_⟩
    · intro j
      rw [up2_ne _ _ _ (show 24 ≠ 23 by decide), up2_at]
      by_cases hq : j = L + k
      · subst hq; rw [upd_at, if_pos (by omega), Nat.add_sub_cancel_left]
      · rw [upd_ne _ _ hq, b3 j]
        by_cases hr : L ≤ j ∧ j < L + k
        · rw [if_pos hr, if_pos (by omega)]
        · rw [if_neg hr, if_neg (by omega)]
    · show Run X 2 3 _ [] T = Run X 2 3 _ [] _
      rw [L_X0_append_3, if_neg (nI_ge hk (by omega)), b2, l90, if_neg (nI_ge (by omega) (by omega)), ix_nI (by omega) (by decide), nI_1, nI_1]
      rfl) 0 (Nat.zero_le _) S ⟨fr_rfl, l2, fun j => by rw [if_neg (by omega)]⟩
  have e1' : Run X 2 3 [some (.ref 23), some (.int (nI n)), some (.long p2), none, some (.int 0)] [] S = some (some (.int (nI (L + n))), S1) := by
    refine Eq.trans e1 ?_
    show Run X 2 3 _ [] S1 = _
    rw [L_X0_append_3, if_pos (nI_le (Nat.le_refl _) (by omega)), a2]
  rw [e1', cI_ok]
  obtain ⟨S2, ⟨d1, d2, d3⟩, e2⟩ := loop_P (F := fun k T => Run X 168 44 [some (.ref 43), some (.int (nI n)), some (.long p2), none, none, some (.int (nI k))] [] T) (P := fun k T => fr [55] [(43, 16)] S1 T ∧ T 43 16 = nI (L + k) ∧ ∀ j, T 55 j = if L ≤ j ∧ j < L + k then byte p2 (j - L) else S 55 j) n (by
    intro k hk T ⟨b1, b2, b3⟩
    refine ⟨up2 (up2 T 55 (L + k) (byte p2 k)) 43 16 (nI (L + k + 1)), ⟨fr_upF (fr_upL b1 (by decide)) (by decide), rfl, ?_⟩, ?_⟩
    · intro j
      rw [up2_ne _ _ _ (show 55 ≠ 43 by decide), up2_at]
      by_cases hq : j = L + k
      · subst hq; rw [upd_at, if_pos (by omega), Nat.add_sub_cancel_left]
      · rw [upd_ne _ _ hq, b3 j]
        by_cases hr : L ≤ j ∧ j < L + k
        · rw [if_pos hr, if_pos (by omega)]
        · rw [if_neg hr, if_neg (by omega)]
    · show Run X 168 44 _ [] T = Run X 168 44 _ [] _
      have eb : Int64.toInt32 (oLshr p2 (8 * nI k) &&& 255) = byte p2 k := byteM_eq p2 (by omega)
      rw [L_X9_feed_44, if_neg (nI_ge hk (by omega)), b2, ix_nI (by omega) (by decide), nI_1, nI_1, eb]) 0 (Nat.zero_le _) S1 ⟨fr_rfl, by rw [fr_fld a1 43 16 (by decide) (by decide)]; exact l3, fun j => by rw [if_neg (by omega), fr_cell a1 55 (by decide) (by decide)]⟩
  refine ⟨nI (L + n), S1, S2, rfl, ?_, ?_⟩
  · show Cal X 168 _ S1 = _
    have e : nI (L + n) ≤ 90 := by rw [l90]; exact nI_le (by omega) (by decide)
    rw [C_X9_feed, mO_ok q1 q8, cI_ok, if_pos rfl, fr_fld a1 43 16 (by decide) (by decide), l3, nI_add, if_pos e, if_pos rfl]
    refine Eq.trans e2 ?_
    show Run X 168 44 _ [] S2 = _
    rw [L_X9_feed_44, if_pos (nI_le (Nat.le_refl _) (by omega)), d2]
  · have f : fr [24, 55] [(23, 2), (43, 16)] S S2 := fr_trans (fr_mono a1 (by decide) (by decide)) (fr_mono d1 (by decide) (by decide))
    refine ⟨N, V, K, HH_ag (fr_ag f (by decide)) H, ⟨L + n, by omega, ?_, d2, ?_⟩, ?_, RI_ag (fr_ag f (by decide)) I, RA_ag (fr_ag f (by decide)) A, RC_ag (fr_ag f (by decide)) C, RM_ag (fr_ag f (by decide)) M⟩
    · rw [fr_fld d1 23 2 (by decide) (by decide)]; exact a2
    · intro j hj
      rw [fr_cell d1 24 (by decide) (by decide), a3, d3]
      by_cases hq : L ≤ j ∧ j < L + n
      · rw [if_pos hq, if_pos hq]
        obtain ⟨t, ht, e⟩ := byte_lt p2 (show j - L < 8 by omega)
        exact ⟨t, ht, e, e⟩
      · rw [if_neg hq, if_neg hq]
        exact l4 j (by omega)
    · rw [fr_cell f 44 (by decide) (by decide), fr_cell f 42 (by decide) (by decide)]; exact E
