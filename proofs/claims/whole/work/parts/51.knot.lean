/-! the lowest bit -/
theorem neg_nI {M : Nat} (h0 : 0 < M) (h : M < 2 ^ 31) : -(nI M) = nI (2 ^ 32 - M) := by
  apply Int32.toBitVec_inj.mp
  apply BitVec.eq_of_toNat_eq
  show (-(BitVec.ofNat 32 M)).toNat = (BitVec.ofNat 32 (2 ^ 32 - M)).toNat
  rw [BitVec.toNat_neg, BitVec.toNat_ofNat, BitVec.toNat_ofNat, Nat.mod_eq_of_lt (show M < 2 ^ 32 by omega)]
theorem low_bit {M a : Nat} (hM : M < 2 ^ 31) (ha : M.testBit a = true) (hmin : ∀ i, i < a → M.testBit i = false) : nI M &&& (-(nI M)) = nI (2 ^ a) := by
  have h0 : 0 < M := by
    rcases Nat.eq_zero_or_pos M with h | h
    · rw [h, Nat.zero_testBit] at ha; cases ha
    · exact h
  rw [neg_nI h0 hM, and_nI]
  congr 1
  have hmod : M % 2 ^ (a + 1) = 2 ^ a := by
    apply Nat.eq_of_testBit_eq
    intro i
    rw [Nat.testBit_mod_two_pow, Nat.testBit_two_pow]
    by_cases q : i = a
    · subst q
      rw [ha, decide_eq_true (show i < i + 1 by omega), decide_eq_true rfl]
      rfl
    · have qa : decide (a = i) = false := decide_eq_false (fun e => q e.symm)
      rw [qa]
      by_cases q2 : i < a
      · rw [hmin i q2, Bool.and_false]
      · rw [decide_eq_false (show ¬ i < a + 1 by omega), Bool.false_and]
  have hdiv := Nat.div_add_mod M (2 ^ (a + 1))
  rw [hmod] at hdiv
  obtain ⟨q, hq⟩ : ∃ q, q = M / 2 ^ (a + 1) := ⟨_, rfl⟩
  rw [← hq] at hdiv
  have hp : 0 < 2 ^ a := Nat.two_pow_pos a
  have hlt : 2 ^ a < 2 ^ (a + 1) := Nat.pow_lt_pow_right (by decide) (by omega)
  have e1 : M - 1 = 2 ^ (a + 1) * q + (2 ^ a - 1) := by omega
  apply Nat.eq_of_testBit_eq
  intro i
  have e2 : 2 ^ 32 - M = 2 ^ 32 - ((M - 1) + 1) := by omega
  rw [Nat.testBit_and, e2, Nat.testBit_two_pow_sub_succ (show M - 1 < 2 ^ 32 by omega), e1, Nat.testBit_two_pow_mul_add _ (by omega), ← hdiv, Nat.testBit_two_pow_mul_add _ hlt, Nat.testBit_two_pow]
  by_cases q1 : i < a + 1
  · rw [if_pos q1, if_pos q1, Nat.testBit_two_pow_sub_one]
    have hi : i < 32 := by
      apply Classical.byContradiction
      intro hge
      have : 2 ^ 32 ≤ 2 ^ a := Nat.pow_le_pow_right (by decide) (by omega)
      omega
    rw [decide_eq_true hi]
    by_cases q2 : a = i
    · subst q2
      rw [decide_eq_true rfl, decide_eq_false (Nat.lt_irrefl a)]
      rfl
    · rw [decide_eq_false q2]
      rfl
  · rw [if_neg q1, if_neg q1, decide_eq_false (show ¬ a = i by omega)]
    cases q.testBit (i - (a + 1)) <;> simp
theorem nor_or (p J O : Int32) : p &&& ((J ||| (O ^^^ (-1))) ^^^ (-1)) = (p &&& (J ^^^ (-1))) &&& O := by
  apply Int32.toBitVec_inj.mp
  show p.toBitVec &&& ((J.toBitVec ||| (O.toBitVec ^^^ BitVec.allOnes 32)) ^^^ BitVec.allOnes 32) = (p.toBitVec &&& (J.toBitVec ^^^ BitVec.allOnes 32)) &&& O.toBitVec
  apply BitVec.eq_of_getLsbD_eq
  intro i hi
  rw [BitVec.getLsbD_and, BitVec.getLsbD_xor, BitVec.getLsbD_or, BitVec.getLsbD_xor, BitVec.getLsbD_and, BitVec.getLsbD_and, BitVec.getLsbD_xor, BitVec.getLsbD_allOnes, decide_eq_true hi]
  cases p.toBitVec.getLsbD i <;> cases J.toBitVec.getLsbD i <;> cases O.toBitVec.getLsbD i <;> rfl
/-! a vote alone is never a knot -/
theorem lst_self {y n : Nat} (hd : y &&& n = 0) : lst y n y = 0 := by
  have h : wl y n y = 0 := by
    unfold wl
    rw [hd]
    have : andn y y = 0 := by unfold andn; rw [Nat.and_self, Nat.xor_self]
    rw [this]
    decide
  unfold lst
  rw [h]
  omega
theorem one_row {N y : Nat} (hy : y < 2 ^ N) : ∃ r c, RowOK N r ∧ c ≤ N ∧ pre r c = y := by
  obtain ⟨p, hp⟩ : ∃ p : Nat → Bool, p = fun i => y.testBit i := ⟨_, rfl⟩
  have hpi : ∀ i, p i = y.testBit i := fun i => by rw [hp]
  obtain ⟨A, hA⟩ : ∃ A, A = (List.range N).filter p := ⟨_, rfl⟩
  obtain ⟨B, hB⟩ : ∃ B, B = (List.range N).filter (fun i => !p i) := ⟨_, rfl⟩
  have perm : List.Perm (A ++ B) (List.range N) := by rw [hA, hB]; exact List.filter_append_perm p (List.range N)
  have hr : RowOK N (A ++ B) := ⟨by rw [perm.length_eq, List.length_range], perm.nodup_iff.mpr List.nodup_range, fun a ha => List.mem_range.mp (perm.mem_iff.mp ha)⟩
  refine ⟨A ++ B, A.length, hr, ?_, ?_⟩
  · have := hr.1
    rw [List.length_append] at this
    omega
  · apply Nat.eq_of_testBit_eq
    intro i
    rw [Bool.eq_iff_iff, pre_bit]
    constructor
    · rintro ⟨j, hj, e⟩
      rw [gd_l _ _ hj] at e
      have hm : i ∈ A := by rw [← e]; exact getD_mem hj
      rw [hA] at hm
      have := (List.mem_filter.mp hm).2
      rwa [hpi] at this
    · intro hb
      have hi := lt_pow_iff.mp hy i hb
      have hm : i ∈ A := by rw [hA]; exact List.mem_filter.mpr ⟨List.mem_range.mpr hi, by rw [hpi]; exact hb⟩
      obtain ⟨j, hj⟩ := List.getElem?_of_mem hm
      have hl := (List.getElem?_eq_some_iff.mp hj).1
      refine ⟨j, hl, ?_⟩
      rw [gd_l _ _ hl, List.getD_eq_getElem?_getD, hj]
      rfl
theorem no_single {N V : Nat} {S : sS} (H : HD N V S) {v : Nat} (hv : v < V) : ¬ isKn S N [v] := by
  obtain ⟨g1, g2, g3⟩ := H.2.2.2.2 v hv
  obtain ⟨r, c, hr, hc, e⟩ := one_row g1
  have h0 : ctw (nv (S 8 v)) (nv (S 9 v)) r = 0 := by
    have h1 := ((ctm_iff (nv (S 8 v)) (nv (S 9 v)) r (ctw (nv (S 8 v)) (nv (S 9 v)) r) (r.length + 1)).mp (Nat.le_refl _)).2 c (by rw [hr.1]; omega)
    rw [e, lst_self g3] at h1
    omega
  intro hk
  rcases KL_rev hr with q | q
  · obtain ⟨v', hv', hp⟩ := hk r q
    rw [List.mem_singleton.mp hv'] at hp
    omega
  · obtain ⟨v', hv', hp⟩ := hk _ q
    rw [List.mem_singleton.mp hv', ctw_rev hr H.2.1 g1 g2 g3] at hp
    omega
/-! who can not join -/
def Wk (S : sS) (N V i : Nat) : Nat := mkW S V ((KL N).getD i []) 1
def Mk (S : sS) (N V vs b : Nat) : Nat → Nat
  | 0 => 2 ^ b - 1
  | k + 1 => if Wk S N V k &&& vs = 0 then Mk S N V vs b k &&& Wk S N V k else Mk S N V vs b k
theorem Mk_lt (S : sS) (N V vs b : Nat) : ∀ k, Mk S N V vs b k < 2 ^ b := by
  intro k
  induction k with
  | zero => have := Nat.two_pow_pos b; show 2 ^ b - 1 < 2 ^ b; omega
  | succ k ih =>
    show (if Wk S N V k &&& vs = 0 then Mk S N V vs b k &&& Wk S N V k else Mk S N V vs b k) < 2 ^ b
    by_cases q : Wk S N V k &&& vs = 0
    · rw [if_pos q]; exact Nat.lt_of_le_of_lt Nat.and_le_left ih
    · rw [if_neg q]; exact ih
theorem Mk_bit (S : sS) (N V vs b a : Nat) : ∀ k, (Mk S N V vs b k).testBit a = true ↔ a < b ∧ ∀ i, i < k → Wk S N V i &&& vs = 0 → (Wk S N V i).testBit a = true := by
  intro k
  induction k with
  | zero =>
    show (2 ^ b - 1).testBit a = true ↔ _
    rw [Nat.testBit_two_pow_sub_one, decide_eq_true_eq]
    exact ⟨fun h => ⟨h, fun i hi => absurd hi (Nat.not_lt_zero i)⟩, fun h => h.1⟩
  | succ k ih =>
    show (if Wk S N V k &&& vs = 0 then Mk S N V vs b k &&& Wk S N V k else Mk S N V vs b k).testBit a = true ↔ _
    by_cases q : Wk S N V k &&& vs = 0
    · rw [if_pos q, Nat.testBit_and, Bool.and_eq_true, ih]
      constructor
      · rintro ⟨⟨h1, h2⟩, h3⟩
        refine ⟨h1, fun i hi hq => ?_⟩
        by_cases e : i = k
        · subst e; exact h3
        · exact h2 i (by omega) hq
      · rintro ⟨h1, h2⟩
        exact ⟨⟨h1, fun i hi => h2 i (by omega)⟩, h2 k (by omega) q⟩
    · rw [if_neg q, ih]
      constructor
      · rintro ⟨h1, h2⟩
        refine ⟨h1, fun i hi hq => ?_⟩
        by_cases e : i = k
        · subst e; exact absurd hq q
        · exact h2 i (by omega) hq
      · rintro ⟨h1, h2⟩
        exact ⟨h1, fun i hi => h2 i (by omega)⟩
theorem Mk_zero (S : sS) (N V vs b : Nat) {k n : Nat} (hk : k ≤ n) (h : Mk S N V vs b k = 0) : Mk S N V vs b n = 0 := by
  apply Nat.eq_of_testBit_eq
  intro a
  rw [Nat.zero_testBit]
  cases hb : (Mk S N V vs b n).testBit a with
  | false => rfl
  | true =>
    obtain ⟨h1, h2⟩ := (Mk_bit S N V vs b a n).mp hb
    have : (Mk S N V vs b k).testBit a = true := (Mk_bit S N V vs b a k).mpr ⟨h1, fun i hi => h2 i (by omega)⟩
    rw [h, Nat.zero_testBit] at this
    cases this
theorem Wk_bit {S : sS} {N V i v : Nat} : (Wk S N V i).testBit v = true ↔ v < V ∧ 0 < ctw (nv (S 8 v)) (nv (S 9 v)) ((KL N).getD i []) := by
  unfold Wk mkW
  rw [mk_bit, Bool.and_eq_true, decide_eq_true_eq, decide_eq_true_eq]
  exact Iff.rfl
theorem Mk_kn {S : sS} {N V vs b a : Nat} {L : List Nat} (hL : ∀ v ∈ L, v < V) (hvs : ∀ v, vs.testBit v = true ↔ v ∈ L) (hb : b ≤ V) : (Mk S N V vs b (KL N).length).testBit a = true ↔ a < b ∧ isKn S N (L ++ [a]) := by
  rw [Mk_bit]
  constructor
  · rintro ⟨h1, h2⟩
    refine ⟨h1, fun r hr => ?_⟩
    obtain ⟨i, hi, e⟩ := List.getElem_of_mem hr
    have eg : (KL N).getD i [] = r := by rw [List.getD_eq_getElem?_getD, List.getElem?_eq_getElem hi, Option.getD_some, e]
    by_cases q : Wk S N V i &&& vs = 0
    · have := Wk_bit.mp (h2 i hi q)
      rw [eg] at this
      exact ⟨a, List.mem_append_right _ (List.mem_singleton.mpr rfl), this.2⟩
    · obtain ⟨v, hv⟩ : ∃ v, (Wk S N V i &&& vs).testBit v = true := by
        apply Classical.byContradiction
        intro hn
        apply q
        apply Nat.eq_of_testBit_eq
        intro v
        rw [Nat.zero_testBit]
        cases hb : (Wk S N V i &&& vs).testBit v with
        | false => rfl
        | true => exact absurd ⟨v, hb⟩ hn
      rw [Nat.testBit_and, Bool.and_eq_true] at hv
      have := Wk_bit.mp hv.1
      rw [eg] at this
      exact ⟨v, List.mem_append_left _ ((hvs v).mp hv.2), this.2⟩
  · rintro ⟨h1, h2⟩
    refine ⟨h1, fun i hi q => ?_⟩
    obtain ⟨v, hv, hp⟩ := h2 _ (KL_get hi)
    rcases List.mem_append.mp hv with hv | hv
    · exfalso
      have hb1 : (Wk S N V i).testBit v = true := Wk_bit.mpr ⟨hL v hv, hp⟩
      have : (Wk S N V i &&& vs).testBit v = true := by rw [Nat.testBit_and, hb1, (hvs v).mpr hv]; rfl
      rw [q, Nat.zero_testBit] at this
      cases this
    · rw [List.mem_singleton.mp hv] at hp
      exact Wk_bit.mpr ⟨by omega, hp⟩
theorem low_ok {N V vs b : Nat} {S0 S : sS} {L : List Nat} (hN : N ≤ 7) (hV : V ≤ 24) (F : FJ N V S) (e8 : mkW S = mkW S0) (hL : ∀ v ∈ L, v < V) (hvs : ∀ v, vs.testBit v = true ↔ v ∈ L) (hb : b < V) (X : sX) : ∃ k, Cal X 71 [.ref 29, .int (nI vs), .int (nI b)] S = some (some (.int (nI k)), S) ∧ ((k = 0 ∧ ∀ a, a < b → ¬ isKn S0 N (L ++ [a])) ∨ ∃ a, a < b ∧ k = 2 ^ a ∧ isKn S0 N (L ++ [a]) ∧ ∀ a', a' < a → ¬ isKn S0 N (L ++ [a'])) := by
  obtain ⟨k1, k2, k3, k4, k5, k6⟩ := F
  have hlen := KL_len N (by omega)
  have hM : ∀ k, Mk S0 N V vs b k < 2 ^ 31 := fun k => Nat.lt_of_lt_of_le (Mk_lt S0 N V vs b k) (Nat.pow_le_pow_right (by decide) (by omega))
  have W31 : ∀ i, i < (KL N).length → S 31 i = nI (Wk S0 N V i) := fun i hi => by rw [(k6 i hi).1, e8]; rfl
  have hW : ∀ i, Wk S0 N V i < 2 ^ 24 := fun i => mkW_lt hV _ _ _
  have key : ∀ d k J, k + d = (KL N).length → nI (2 ^ b - 1) &&& (J ^^^ (-1)) = nI (Mk S0 N V vs b k) → Run X 71 12 [some (.ref 29), some (.int (nI vs)), none, some (.int (nI (2 ^ b - 1))), some (.int J), some (.int (nI k))] [] S = some (some (.int (nI (Mk S0 N V vs b (KL N).length) &&& (-(nI (Mk S0 N V vs b (KL N).length))))), S) := by
    intro d
    induction d with
    | zero =>
      intro k J hk hJ
      rw [L_X5_lowestThatCannotJoin_12, k4.1, if_pos (nI_le (by omega) (by omega)), hJ, show k = (KL N).length by omega]
    | succ d ih =>
      intro k J hk hJ
      rw [L_X5_lowestThatCannotJoin_12, k4.1, if_neg (nI_ge (by omega) (by omega)), hJ]
      by_cases h0 : Mk S0 N V vs b k = 0
      · rw [h0, if_pos nI_0, Mk_zero S0 N V vs b (show k ≤ (KL N).length by omega) h0]
      · rw [if_neg (nI_ne0 (by omega) (hM k)), ix_nI (by omega) (by decide), W31 k (by omega), and_nI, nI_1]
        have es : Mk S0 N V vs b (k + 1) = if Wk S0 N V k &&& vs = 0 then Mk S0 N V vs b k &&& Wk S0 N V k else Mk S0 N V vs b k := rfl
        have hwv : Wk S0 N V k &&& vs < 2 ^ 31 := Nat.lt_of_le_of_lt Nat.and_le_left (Nat.lt_of_lt_of_le (hW k) (by decide))
        by_cases q : Wk S0 N V k &&& vs = 0
        · rw [q, if_pos nI_0, ix_nI (by omega) (by decide), W31 k (by omega)]
          refine ih (k + 1) _ (by omega) ?_
          rw [nor_or, hJ, and_nI, es, if_pos q]
        · rw [if_neg (nI_ne0 (by omega) hwv)]
          refine ih (k + 1) J (by omega) ?_
          rw [hJ, es, if_neg q]
  have run : Cal X 71 [.ref 29, .int (nI vs), .int (nI b)] S = some (some (.int (nI (Mk S0 N V vs b (KL N).length) &&& (-(nI (Mk S0 N V vs b (KL N).length))))), S) := by
    rw [C_X5_lowestThatCannotJoin, l1, oShl_1 (by omega), pk_sub Nat.one_le_two_pow]
    refine key (KL N).length 0 0 (by omega) ?_
    show nI (2 ^ b - 1) &&& ((0 : Int32) ^^^ (-1)) = nI (2 ^ b - 1)
    rw [l0, andNot_nI]
    congr 1
    unfold andn
    rw [Nat.and_zero, Nat.xor_zero]
  by_cases h0 : Mk S0 N V vs b (KL N).length = 0
  · refine ⟨0, ?_, Or.inl ⟨rfl, fun a ha hk => ?_⟩⟩
    · rw [run, h0]
      congr 3
    · have := (Mk_kn (S := S0) (N := N) hL hvs (by omega : b ≤ V)).mpr ⟨ha, hk⟩
      rw [h0, Nat.zero_testBit] at this
      cases this
  · obtain ⟨a, ha, hmin⟩ := pk_least (fun a => (Mk S0 N V vs b (KL N).length).testBit a = true) (by
      apply Classical.byContradiction
      intro hn
      apply h0
      apply Nat.eq_of_testBit_eq
      intro v
      rw [Nat.zero_testBit]
      cases hb : (Mk S0 N V vs b (KL N).length).testBit v with
      | false => rfl
      | true => exact absurd ⟨v, hb⟩ hn)
    obtain ⟨q1, q2⟩ := (Mk_kn (S := S0) (N := N) hL hvs (by omega : b ≤ V)).mp ha
    refine ⟨2 ^ a, ?_, Or.inr ⟨a, q1, rfl, q2, fun a' ha' hk => hmin a' ha' ((Mk_kn (S := S0) (N := N) hL hvs (by omega : b ≤ V)).mpr ⟨by omega, hk⟩)⟩⟩
    rw [run, low_bit (hM _) ha]
    intro i hi
    cases hb : (Mk S0 N V vs b (KL N).length).testBit i with
    | false => rfl
    | true => exact absurd hb (hmin i hi)
theorem bit1 {b v : Nat} : (2 ^ b).testBit v = true ↔ v ∈ [b] := by
  rw [Nat.testBit_two_pow, decide_eq_true_eq, List.mem_singleton]
  exact eq_comm
theorem bit2 {b c v : Nat} : (2 ^ b ||| 2 ^ c).testBit v = true ↔ v ∈ [c, b] := by
  rw [Nat.testBit_or, Bool.or_eq_true, Nat.testBit_two_pow, Nat.testBit_two_pow, decide_eq_true_eq, decide_eq_true_eq, List.mem_cons, List.mem_singleton]
  constructor
  · rintro (h | h)
    · exact Or.inr h.symm
    · exact Or.inl h.symm
  · rintro (h | h)
    · exact Or.inr h.symm
    · exact Or.inl h.symm
theorem or_lt24 {a b : Nat} (ha : a < 2 ^ 24) (hb : b < 2 ^ 24) : a ||| b < 2 ^ 24 := Nat.or_lt_two_pow ha hb
theorem p2_lt24 {a : Nat} (h : a < 24) : 2 ^ a < 2 ^ 24 := Nat.pow_lt_pow_right (by decide) h
theorem findKnot_ok {N V K : Nat} {S0 S : sS} (H0 : HD N V S0) (H : HH N V K S) (F : FJ N V S) (e8 : mkW S = mkW S0) (X : sX) : ∃ k, k < 2 ^ 24 ∧ Cal X 70 [.ref 29] S = some (some (.int (nI k)), S) ∧ knA S0 N V k := by
  have hN := H.1.2.1
  have hV := H.1.2.2.2.1
  have hV1 : S 1 1 = nI V := H.1.2.2.1
  rw [C_X5_findKnot]
  have low1 := fun b (hb : b < V) => low_ok (S0 := S0) (L := [b]) hN hV F e8 (fun v hv => by rw [List.mem_singleton.mp hv]; exact hb) (fun v => bit1) hb X
  -- pairs
  have skip2 : ∀ b, 1 ≤ b → b < V → (∀ a, a < b → ¬ isKn S0 N [b, a]) → Run X 70 2 [some (.ref 29), some (.int (nI b)), none, none] [] S = Run X 70 2 [some (.ref 29), some (.int (nI (b + 1))), none, none] [] S := by
    intro b h1 hb hno
    obtain ⟨k, e, hk⟩ := low1 b hb
    have h0 : k = 0 := by
      rcases hk with ⟨h, _⟩ | ⟨a, ha, _, hkn, _⟩
      · exact h
      · exact absurd hkn (hno a ha)
    rw [h0] at e
    rw [L_X5_findKnot_2, C_X1_votes, cI_ok, hV1, if_neg (nI_ge hb (by omega)), show oShl 1 (nI b) = nI (2 ^ b) from oShl_1 (by omega), e, cI_ok, if_pos nI_0, nI_1]
  by_cases h2 : ∃ b, b < V ∧ ∃ a, a < b ∧ isKn S0 N [b, a]
  · obtain ⟨b, ⟨hb, a0, ha0, hk0⟩, hmin⟩ := pk_least _ h2
    obtain ⟨k, e, hk⟩ := low1 b hb
    rcases hk with ⟨_, hno⟩ | ⟨a, ha, rfl, hkn, hmina⟩
    · exact absurd hk0 (hno a0 ha0)
    have hnob : ∀ b', b' < b → ∀ a, a < b' → ¬ isKn S0 N [b', a] := fun b' hb' a ha hk => hmin b' hb' ⟨by omega, a, ha, hk⟩
    have run := loop_eq (F := fun b => Run X 70 2 [some (.ref 29), some (.int (nI b)), none, none] [] S) b 1 (fun i h1 hi => skip2 i h1 (by omega) (hnob i hi)) (by omega)
    refine ⟨2 ^ a ||| 2 ^ b, or_lt24 (p2_lt24 (by omega)) (p2_lt24 (by omega)), ?_, Or.inr (Or.inl ⟨b, a, Nat.or_comm _ _, hb, ha, hkn, fun v hv => no_single H0 hv, ?_⟩)⟩
    · refine Eq.trans run ?_
      have hne : ¬ nI (2 ^ a) = 0 := nI_ne0 (Nat.two_pow_pos a) (Nat.lt_of_lt_of_le (p2_lt24 (by omega)) (by decide))
      rw [L_X5_findKnot_2, C_X1_votes, cI_ok, hV1, if_neg (nI_ge hb (by omega)), show oShl 1 (nI b) = nI (2 ^ b) from oShl_1 (by omega), e, cI_ok, if_neg hne, or_nI]
    · intro v' u' hu hlt
      rcases hlt with h | ⟨rfl, h⟩
      · exact hnob v' h u' hu
      · exact hmina u' h
  have hno2 : ∀ v u, v < V → u < v → ¬ isKn S0 N [v, u] := fun v u hv hu hk => h2 ⟨v, hv, u, hu, hk⟩
  have run2 : Run X 70 2 [some (.ref 29), some (.int 1), none, none] [] S = Run X 70 40 [some (.ref 29), some (.int 2), none, none] [] S := by
    by_cases hV2 : V ≤ 1
    · rw [L_X5_findKnot_2, C_X1_votes, cI_ok, hV1, if_pos (show nI V ≤ 1 from nI_le (b := 1) hV2 (by decide))]
    · have run := loop_eq (F := fun b => Run X 70 2 [some (.ref 29), some (.int (nI b)), none, none] [] S) V 1 (fun i h1 hi => skip2 i h1 (by omega) (fun a ha => hno2 i a (by omega) ha)) (by omega)
      refine Eq.trans run ?_
      rw [L_X5_findKnot_2, C_X1_votes, cI_ok, hV1, if_pos (nI_le (Nat.le_refl _) (by omega))]
  rw [run2]
  have low2 := fun c b (hc : c < V) (hb : b < c) => low_ok (S0 := S0) (L := [c, b]) hN hV F e8 (fun v hv => by
    rcases List.mem_cons.mp hv with h | h
    · rw [h]; exact hc
    · rw [List.mem_singleton.mp h]; omega) (fun v => bit2) (show b < V by omega) X
  have skip3 : ∀ c b, c < V → b < c → (∀ a, a < b → ¬ isKn S0 N [c, b, a]) → Run X 70 53 [some (.ref 29), some (.int (nI c)), some (.int (nI b)), none] [] S = Run X 70 53 [some (.ref 29), some (.int (nI c)), some (.int (nI (b + 1))), none] [] S := by
    intro c b hc hb hno
    obtain ⟨k, e, hk⟩ := low2 c b hc hb
    have h0 : k = 0 := by
      rcases hk with ⟨h, _⟩ | ⟨a, ha, _, hkn, _⟩
      · exact h
      · exact absurd hkn (hno a ha)
    rw [h0] at e
    rw [L_X5_findKnot_53, if_neg (nI_ge hb (by omega)), show oShl 1 (nI b) = nI (2 ^ b) from oShl_1 (by omega), show oShl 1 (nI c) = nI (2 ^ c) from oShl_1 (by omega), or_nI, e, cI_ok, if_pos nI_0, nI_1]
  have row3 : ∀ c, 2 ≤ c → c < V → (∀ b a, b < c → a < b → ¬ isKn S0 N [c, b, a]) → Run X 70 40 [some (.ref 29), some (.int (nI c)), none, none] [] S = Run X 70 40 [some (.ref 29), some (.int (nI (c + 1))), none, none] [] S := by
    intro c h2 hc hno
    have run := loop_eq (F := fun b => Run X 70 53 [some (.ref 29), some (.int (nI c)), some (.int (nI b)), none] [] S) c 1 (fun i h1 hi => skip3 c i hc hi (fun a ha => hno i a hi ha)) (by omega)
    rw [L_X5_findKnot_40, C_X1_votes, cI_ok, hV1, if_neg (nI_ge hc (by omega))]
    refine Eq.trans run ?_
    rw [L_X5_findKnot_53, if_pos (nI_le (Nat.le_refl _) (by omega)), nI_1]
  by_cases h3 : ∃ c, c < V ∧ ∃ b, b < c ∧ ∃ a, a < b ∧ isKn S0 N [c, b, a]
  · obtain ⟨c, ⟨hc, hx⟩, hminc⟩ := pk_least _ h3
    obtain ⟨b, ⟨hb, a0, ha0, hk0⟩, hminb⟩ := pk_least _ hx
    obtain ⟨k, e, hk⟩ := low2 c b hc hb
    rcases hk with ⟨_, hno⟩ | ⟨a, ha, rfl, hkn, hmina⟩
    · exact absurd hk0 (hno a0 ha0)
    have hnoc : ∀ c', c' < c → ∀ b a, b < c' → a < b → ¬ isKn S0 N [c', b, a] := fun c' hc' b a hb ha hk => hminc c' hc' ⟨by omega, b, hb, a, ha, hk⟩
    have hnob : ∀ b', b' < b → ∀ a, a < b' → ¬ isKn S0 N [c, b', a] := fun b' hb' a ha hk => hminb b' hb' ⟨by omega, a, ha, hk⟩
    have run := loop_eq (F := fun c => Run X 70 40 [some (.ref 29), some (.int (nI c)), none, none] [] S) c 2 (fun i h1 hi => row3 i h1 (by omega) (hnoc i hi)) (by omega)
    have runb := loop_eq (F := fun b => Run X 70 53 [some (.ref 29), some (.int (nI c)), some (.int (nI b)), none] [] S) b 1 (fun i h1 hi => skip3 c i hc (by omega) (hnob i hi)) (by omega)
    refine ⟨2 ^ a ||| 2 ^ b ||| 2 ^ c, or_lt24 (or_lt24 (p2_lt24 (by omega)) (p2_lt24 (by omega))) (p2_lt24 (by omega)), ?_, Or.inr (Or.inr ⟨c, b, a, ?_, hc, hb, ha, hkn, fun v hv => no_single H0 hv, hno2, ?_⟩)⟩
    · refine Eq.trans run ?_
      rw [L_X5_findKnot_40, C_X1_votes, cI_ok, hV1, if_neg (nI_ge hc (by omega))]
      refine Eq.trans runb ?_
      have hne : ¬ nI (2 ^ a) = 0 := nI_ne0 (Nat.two_pow_pos a) (Nat.lt_of_lt_of_le (p2_lt24 (by omega)) (by decide))
      rw [L_X5_findKnot_53, if_neg (nI_ge hb (by omega)), show oShl 1 (nI b) = nI (2 ^ b) from oShl_1 (by omega), show oShl 1 (nI c) = nI (2 ^ c) from oShl_1 (by omega), or_nI, e, cI_ok, if_neg hne, or_nI, or_nI]
    · rw [Nat.or_comm (2 ^ c) (2 ^ b), Nat.or_comm (2 ^ b ||| 2 ^ c) (2 ^ a), Nat.or_assoc]
    · intro v' u' w' hu hw hlt
      rcases hlt with h | ⟨rfl, h | ⟨rfl, h⟩⟩
      · exact hnoc v' h u' w' hu hw
      · exact hnob u' h w' hw
      · exact hmina w' h
  refine ⟨0, by decide, ?_, Or.inl ⟨rfl, fun v hv => no_single H0 hv, hno2, fun v u w hv hu hw hk => h3 ⟨v, hv, u, hu, w, hw, hk⟩⟩⟩
  by_cases hV2 : V ≤ 2
  · rw [L_X5_findKnot_40, C_X1_votes, cI_ok, hV1, if_pos (show nI V ≤ 2 from nI_le (b := 2) hV2 (by decide)), nI_0]
  · have run := loop_eq (F := fun c => Run X 70 40 [some (.ref 29), some (.int (nI c)), none, none] [] S) V 2 (fun i h1 hi => row3 i h1 (by omega) (fun b a hb ha hk => h3 ⟨i, by omega, b, hb, a, ha, hk⟩)) (by omega)
    refine Eq.trans run ?_
    rw [L_X5_findKnot_40, C_X1_votes, cI_ok, hV1, if_pos (nI_le (Nat.le_refl _) (by omega)), nI_0]
