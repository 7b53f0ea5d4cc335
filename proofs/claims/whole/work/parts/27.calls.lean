theorem hd_mono {N N' : Nat} {a b l m : Int32} (h : hd N a b l m) (hN : N ≤ N') : hd N' a b l m := by
  obtain ⟨p, h1, h2, h3⟩ := h
  refine ⟨p, by omega, h2, h3.imp id ?_⟩
  rintro ⟨q, q1, q2⟩
  exact ⟨q, by omega, q2⟩
/-- a member more, by both -/
def joC (S : sS) (N : Nat) (p1 p2 : Int32) : sS := up2 (up2 (up2 (up2 (up2 (up2 S 2 N p1) 3 N p2) 4 N 0) 5 N 0) 6 N 0) 1 0 (nI (N + 1))
def joM (S : sS) (N : Nat) (p1 p2 : Int32) : sS := up2 (up2 (up2 (up2 (up2 (up2 (up2 S 45 N p1) 46 N p2) 47 N 0) 53 N 0) 54 N 0) 43 11 (nI (N + 1))) 43 14 1
theorem joC_ok {N V : Nat} {S : sS} (H : HD N V S) (hN : N < 7) (p1 p2 : Int32) (X : sX) : Cal X 27 [.ref 1, .int p1, .int p2] S = some (some (.int (nI N)), joC S N p1 p2) := by
  rw [C_X1_addMember, C_X1_hasRoomForMember, H.1, l7, if_neg (nI_ge hN (by decide)), cI_ok, if_neg (by decide), H.1]
  rw [ix_nI hN (by decide), ix_nI hN (by decide), ix_nI hN (by decide), ix_nI hN (by decide), ix_nI hN (by decide), nI_1]
  rfl
theorem joM_ok {N : Nat} {S : sS} (H : S 43 11 = nI N) (hN : N < 7) (p1 p2 : Int32) (X : sX) : Cal X 155 [.ref 43, .int p1, .int p2] S = some (some (.int (nI N)), joM S N p1 p2) := by
  rw [C_X9_joins, H]
  rw [ix_nI hN (by decide), ix_nI hN (by decide), ix_nI hN (by decide), ix_nI hN (by decide), ix_nI hN (by decide), nI_1, nI_pred]
  rfl
theorem jo_HH {N V K : Nat} {S T : sS} (H : HH N V K S) (hN : N < 7) {p1 p2 : Int32} (f : fr [2, 3, 4, 5, 6, 45, 46, 47, 53, 54] [(1, 0), (43, 11), (43, 14), (25, 4), (29, 11), (29, 12), (29, 13)] S T) (t1 : T 1 0 = nI (N + 1)) (t2 : T 43 11 = nI (N + 1)) (e2 : T 2 = upd (S 2) N p1) (e3 : T 3 = upd (S 3) N p2) (e4 : T 4 = upd (S 4) N 0) (e5 : T 5 = upd (S 5) N 0) (e6 : T 6 = upd (S 6) N 0) (g2 : T 45 = upd (S 45) N p1) (g3 : T 46 = upd (S 46) N p2) (g4 : T 47 = upd (S 47) N 0) (g5 : T 53 = upd (S 53) N 0) (g6 : T 54 = upd (S 54) N 0) : HH (N + 1) V K T := by
  obtain ⟨⟨h1, h2, h3, h4, h5⟩, k1, k2, m1, m2, m3, k3, k4, k5⟩ := H
  have gA := fr_ag (cs := [7, 8, 9, 10, 11, 48, 49, 50, 51, 52]) (fs := [(1, 1), (1, 2), (43, 12), (43, 13)]) f (by decide)
  have hp : 2 ^ N ≤ 2 ^ (N + 1) := Nat.pow_le_pow_right (by decide) (by omega)
  refine ⟨⟨t1, by omega, ?_, h4, ?_⟩, ?_, k2, t2, ?_, ?_, ?_, ?_, ?_⟩
  · rw [gA.2 (1, 1) (by decide)]; exact h3
  · rw [gA.1 8 (by decide), gA.1 9 (by decide)]
    intro v hv
    obtain ⟨q1, q2, q3⟩ := h5 v hv
    exact ⟨by omega, by omega, q3⟩
  · rw [gA.2 (1, 2) (by decide)]; exact k1
  · rw [gA.2 (43, 12) (by decide)]; exact m2
  · rw [gA.2 (43, 13) (by decide)]; exact m3
  · intro m hm
    rw [e2, e3, e4, e5, e6, g2, g3, g4, g5, g6]
    by_cases hq : m = N
    · subst hq
      rw [upd_at, upd_at, upd_at, upd_at, upd_at, upd_at, upd_at, upd_at, upd_at, upd_at]
      exact ⟨rfl, rfl, rfl, 0, 0, by decide, by decide, rfl, rfl, rfl, rfl⟩
    · rw [upd_ne _ _ hq, upd_ne _ _ hq, upd_ne _ _ hq, upd_ne _ _ hq, upd_ne _ _ hq, upd_ne _ _ hq, upd_ne _ _ hq, upd_ne _ _ hq, upd_ne _ _ hq, upd_ne _ _ hq]
      exact k3 m (by omega)
  · rw [gA.1 7 (by decide), gA.1 8 (by decide), gA.1 9 (by decide), gA.1 48 (by decide), gA.1 49 (by decide), gA.1 50 (by decide)]; exact k4
  · rw [gA.1 10 (by decide), gA.1 11 (by decide), gA.1 51 (by decide), gA.1 52 (by decide)]
    exact fun k hk => hd_mono (k5 k hk) (by omega)
theorem RA_mono {N N' : Nat} {S : sS} (h : RA N S) (hN : N ≤ N') : RA N' S := by
  obtain ⟨r, a, b, c⟩ := h
  exact ⟨r, a, fun x hx => by have := b x hx; omega, c⟩
def vcS (S : sS) : sS := up2 (up2 (up2 (up2 S 25 4 0) 29 11 0) 29 12 0) 29 13 0
theorem jo_rel {S : sS} {N V K : Nat} (H : HH N V K S) (B : RB S) (E : S 44 = S 42) (I : RI S) (A : RA N S) (C : RC N V K S) (hN : N < 7) (p1 p2 : Int32) : Rel (joM (vcS (joC S N p1 p2)) N p1 p2) := by
  obtain ⟨T, hT⟩ : ∃ T, T = joM (vcS (joC S N p1 p2)) N p1 p2 := ⟨_, rfl⟩
  rw [← hT]
  have f : fr [2, 3, 4, 5, 6, 45, 46, 47, 53, 54] [(1, 0), (43, 11), (43, 14), (25, 4), (29, 11), (29, 12), (29, 13)] S T := by
    rw [hT]
    unfold joM vcS joC
    exact fr_upF (fr_upF (fr_upL (fr_upL (fr_upL (fr_upL (fr_upL (fr_upF (fr_upF (fr_upF (fr_upF (fr_upF (fr_upL (fr_upL (fr_upL (fr_upL (fr_upL fr_rfl (by decide)) (by decide)) (by decide)) (by decide)) (by decide)) (by decide)) (by decide)) (by decide)) (by decide)) (by decide)) (by decide)) (by decide)) (by decide)) (by decide)) (by decide)) (by decide)) (by decide)
  refine ⟨N + 1, V, K, jo_HH H hN (p1 := p1) (p2 := p2) f (by rw [hT]; rfl) (by rw [hT]; rfl) (by rw [hT]; rfl) (by rw [hT]; rfl) (by rw [hT]; rfl) (by rw [hT]; rfl) (by rw [hT]; rfl) (by rw [hT]; rfl) (by rw [hT]; rfl) (by rw [hT]; rfl) (by rw [hT]; rfl) (by rw [hT]; rfl), RB_ag (fr_ag f (by decide)) B, ?_, RI_ag (fr_ag f (by decide)) I, RA_mono (RA_ag (fr_ag f (by decide)) A) (by omega), RC_vc C (by rw [hT]; rfl) (by rw [hT]; rfl) (by rw [hT]; rfl) (by rw [hT]; rfl) (fr_ag f (by decide)), RM_new (by rw [hT]; rfl)⟩
  rw [fr_cell f 44 (by decide) (by decide), fr_cell f 42 (by decide) (by decide)]; exact E
theorem c_member {S : sS} (R : Rel S) (X : sX) (p1 p2 : Int32) : Two (Cal X 104 [.ref 0, .int p1, .int p2] S) (fun S => Cal X 156 [.ref 43, .int p1, .int p2] S) := by
  obtain ⟨N, V, K, H, B, E, I, A, C, M⟩ := id R
  obtain ⟨HD0, k1, k2, m1, m2, m3, k3, k4, k5⟩ := id H
  have hN := HD0.2.1
  rw [C_X8_member]
  by_cases a1 : p1 < 0
  · rw [if_pos a1, rf_4, cI_ok]
    refine two_rf R ?_
    show Cal X 156 _ (rfu S 4) = _
    rw [C_X9_member, if_pos a1, if_neg (by decide), no_4, cI_ok]
  · rw [if_neg a1]
    by_cases a2 : 0 ≤ p2
    · rw [if_pos a2]
      by_cases a3 : 99 < p1
      · rw [if_pos a3, rf_6, cI_ok]
        refine two_rf R ?_
        show Cal X 156 _ (rfu S 6) = _
        rw [C_X9_member, if_neg a1, if_pos a2, if_pos a3, if_neg (by decide), no_6, cI_ok]
      · rw [if_neg a3]
        by_cases a4 : 99 < p2
        · rw [if_pos a4, rf_6, cI_ok]
          refine two_rf R ?_
          show Cal X 156 _ (rfu S 6) = _
          rw [C_X9_member, if_neg a1, if_pos a2, if_neg a3, if_pos a4, if_neg (by decide), no_6, cI_ok]
        · rw [if_neg a4, C_X1_hasRoomForMember, HD0.1, l7]
          by_cases a5 : N = 7
          · subst a5
            rw [if_pos (nI_le (by decide) (by decide)), cI_ok, if_pos rfl, rf_6, cI_ok]
            refine two_rf R ?_
            show Cal X 156 _ (rfu S 6) = _
            rw [C_X9_member, if_neg a1, if_pos a2, if_neg a3, if_neg a4, show rfu S 6 43 11 = 7 from m1, if_pos rfl, if_neg (by decide), no_6, cI_ok]
          · have hN7 : N < 7 := by omega
            have hne : ¬ nI N = 7 := by rw [l7, nI_eq (by omega) (by decide)]; exact a5
            rw [if_neg (nI_ge hN7 (by decide)), cI_ok, if_neg (by decide)]
            by_cases a6 : p1 ≤ p2
            · rw [if_pos a6, joC_ok HD0 hN7, cI_ok, vch_ok, cV_ok]
              refine ⟨nI N, _, joM (vcS (joC S N p1 p2)) N p1 p2, rfl, ?_, jo_rel H B E I A C hN7 p1 p2⟩
              show Cal X 156 _ (vcS (joC S N p1 p2)) = _
              have e : vcS (joC S N p1 p2) 43 11 = nI N := m1
              rw [C_X9_member, if_neg a1, if_pos a2, if_neg a3, if_neg a4, e, if_neg hne, if_pos a6, if_pos rfl, joM_ok e hN7, cI_ok]
            · rw [if_neg a6, rf_3, cI_ok]
              refine two_rf R ?_
              show Cal X 156 _ (rfu S 3) = _
              rw [C_X9_member, if_neg a1, if_pos a2, if_neg a3, if_neg a4, show rfu S 3 43 11 = nI N from m1, if_neg hne, if_neg a6, if_neg (by decide), no_3, cI_ok]
    · rw [if_neg a2, rf_4, cI_ok]
      refine two_rf R ?_
      show Cal X 156 _ (rfu S 4) = _
      rw [C_X9_member, if_neg a1, if_neg a2, if_neg (by decide), no_4, cI_ok]
/-! a search along a row -/
theorem loop_ex {F : Nat → sR} {P : Nat → Prop} {r e : sR} (n : Nat) (h1 : ∀ k, k < n → P k → F k = r) (h2 : ∀ k, k < n → ¬ P k → F k = F (k + 1)) (h3 : F n = e) : ((∃ k, k < n ∧ P k) → F 0 = r) ∧ ((∀ k, k < n → ¬ P k) → F 0 = e) := by
  have key : ∀ d k, k + d = n → ((∃ j, k ≤ j ∧ j < n ∧ P j) → F k = r) ∧ ((∀ j, k ≤ j → j < n → ¬ P j) → F k = e) := by
    intro d
    induction d with
    | zero =>
      intro k hk
      refine ⟨fun ⟨j, a, b, _⟩ => by omega, fun _ => ?_⟩
      rw [show k = n by omega]; exact h3
    | succ d ih =>
      intro k hk
      have := ih (k + 1) (by omega)
      by_cases hp : P k
      · exact ⟨fun _ => h1 k (by omega) hp, fun q => absurd hp (q k (Nat.le_refl _) (by omega))⟩
      · rw [h2 k (by omega) hp]
        refine ⟨fun ⟨j, a, b, c⟩ => this.1 ⟨j, ?_, b, c⟩, fun q => this.2 fun j a b => q j (by omega) b⟩
        rcases Nat.lt_or_ge k j with q | q
        · exact q
        · have : j = k := by omega
          subst this
          exact absurd c hp
  have := key n 0 (by omega)
  exact ⟨fun ⟨k, a, b⟩ => this.1 ⟨k, by omega, a, b⟩, fun q => this.2 fun j _ b => q j b⟩
/-- two are held so, by the one and by the other -/
def hs (S : sS) (p1 p2 : Int32) (k : Nat) : Prop := (S 51 k = p1 ∧ S 52 k = p2) ∨ (¬ p2 < 0 ∧ S 51 k = p2 ∧ S 52 k = p1)
theorem minI_m1 {a : Nat} (ha : a < 2 ^ 31) : minI (nI a) (-1) = -1 := by
  unfold minI
  rw [if_pos (Int32.lt_of_lt_of_le (by decide) (nI_pos' ha))]
theorem maxI_m1 {a : Nat} (ha : a < 2 ^ 31) : maxI (nI a) (-1) = nI a := by
  unfold maxI
  rw [if_neg]
  exact Int32.not_lt.mpr (Int32.le_of_lt (Int32.lt_of_lt_of_le (by decide) (nI_pos' ha)))
theorem maxI_nI {a b : Nat} (ha : a < 2 ^ 31) (hb : b < 2 ^ 31) : maxI (nI a) (nI b) = nI (max a b) := by
  unfold maxI
  by_cases h : a < b
  · rw [if_pos ((nI_ltI ha hb).mpr h), Nat.max_eq_right (by omega)]
  · rw [if_neg (fun q => h ((nI_ltI ha hb).mp q)), Nat.max_eq_left (by omega)]
theorem nI_nem1 {a : Nat} (ha : a < 2 ^ 31) : nI a ≠ -1 := by
  intro h
  have := nI_pos' ha
  rw [h] at this
  exact absurd this (by decide)
theorem hs_iff {N : Nat} (hN : N ≤ 7) {S : sS} {k a : Nat} {p2 : Int32} (h : hd N (S 51 k) (S 52 k) (S 10 k) (S 11 k)) (ha : a < N) (hb : p2 = -1 ∨ ∃ b, b < N ∧ b ≠ a ∧ p2 = nI b) : (S 10 k = minI (nI a) p2 ∧ S 11 k = maxI (nI a) p2) ↔ hs S (nI a) p2 k := by
  obtain ⟨p, hp, e1, e2⟩ := h
  unfold hs
  rcases hb with rfl | ⟨b, hb1, hb2, rfl⟩
  · rw [minI_m1 (by omega), maxI_m1 (by omega), e1]
    rcases e2 with ⟨e2, e3, e4⟩ | ⟨q, hq, hqp, e2, e3, e4⟩
    · rw [e2, e3, e4]
      constructor
      · rintro ⟨_, q⟩; exact Or.inl ⟨q, rfl⟩
      · rintro (⟨q, _⟩ | ⟨q, _⟩)
        · exact ⟨rfl, q⟩
        · exact absurd (by decide) q
    · rw [e2, e3, e4]
      constructor
      · rintro ⟨q1, _⟩; exact absurd q1 (nI_nem1 (by omega))
      · rintro (⟨_, q1⟩ | ⟨q1, _⟩)
        · exact absurd q1 (nI_nem1 (by omega))
        · exact absurd (by decide) q1
  · rw [minI_nI (by omega) (by omega), maxI_nI (by omega) (by omega), e1]
    rcases e2 with ⟨e2, e3, e4⟩ | ⟨q, hq, hqp, e2, e3, e4⟩
    · rw [e2, e3, e4]
      constructor
      · rintro ⟨q1, _⟩; exact absurd q1.symm (nI_nem1 (by omega))
      · rintro (⟨_, q1⟩ | ⟨_, _, q1⟩)
        · exact absurd q1.symm (nI_nem1 (by omega))
        · exact absurd q1.symm (nI_nem1 (by omega))
    · rw [e2, e3, e4, nI_eq (by omega) (by omega), nI_eq (by omega) (by omega), nI_eq (by omega) (by omega), nI_eq (by omega) (by omega), nI_eq (by omega) (by omega), nI_eq (by omega) (by omega)]
      have := nI_pos (n := b) (by omega)
      constructor
      · rintro ⟨q1, q2⟩
        by_cases hpa : p = a
        · left; omega
        · right; exact ⟨this, by omega, by omega⟩
      · rintro (⟨q1, q2⟩ | ⟨_, q1, q2⟩) <;> subst q1 <;> subst q2 <;> omega
theorem isHeld_c {N V K : Nat} {S : sS} (H : HH N V K S) {a : Nat} {p2 : Int32} (ha : a < N) (hb : p2 = -1 ∨ ∃ b, b < N ∧ b ≠ a ∧ p2 = nI b) (X : sX) : ((∃ k, k < K ∧ hs S (nI a) p2 k) → Cal X 31 [.ref 1, .int (nI a), .int p2] S = some (some (.int 1), S)) ∧ ((∀ k, k < K → ¬ hs S (nI a) p2 k) → Cal X 31 [.ref 1, .int (nI a), .int p2] S = some (some (.int 0), S)) := by
  obtain ⟨HD0, k1, k2, m1, m2, m3, k3, k4, k5⟩ := H
  rw [C_X1_isHeld]
  refine loop_ex (F := fun k => Run X 31 2 [some (.ref 1), some (.int (nI a)), some (.int p2), some (.int (nI k))] [] S) K ?_ ?_ ?_
  · intro k hk hp
    obtain ⟨q1, q2⟩ := (hs_iff HD0.2.1 (k5 k hk) ha hb).mpr hp
    show Run X 31 2 _ [] S = _
    rw [L_X1_isHeld_2, k1, if_neg (nI_ge hk (by omega)), ix_nI (by omega) (by decide), if_pos q1, ix_nI (by omega) (by decide), if_pos q2]
  · intro k hk hp
    have hq := fun q => hp ((hs_iff HD0.2.1 (k5 k hk) ha hb).mp q)
    show Run X 31 2 _ [] S = Run X 31 2 _ [] S
    rw [L_X1_isHeld_2, k1, if_neg (nI_ge hk (by omega)), ix_nI (by omega) (by decide), nI_1]
    by_cases q1 : S 10 k = minI (nI a) p2
    · rw [if_pos q1, ix_nI (by omega) (by decide), if_neg (fun q2 => hq ⟨q1, q2⟩)]
    · rw [if_neg q1]
  · show Run X 31 2 _ [] S = _
    rw [L_X1_isHeld_2, k1, if_pos (nI_le (Nat.le_refl _) (by omega))]
theorem isHeld_m {K : Nat} {S : sS} (m3 : S 43 13 = nI K) (k2 : K ≤ 10) (p1 p2 : Int32) (X : sX) : ((∃ k, k < K ∧ hs S p1 p2 k) → Cal X 163 [.ref 43, .int p1, .int p2] S = some (some (.int 1), S)) ∧ ((∀ k, k < K → ¬ hs S p1 p2 k) → Cal X 163 [.ref 43, .int p1, .int p2] S = some (some (.int 0), S)) := by
  rw [C_X9_isHeld]
  refine loop_ex (F := fun k => Run X 163 2 [some (.ref 43), some (.int p1), some (.int p2), some (.int (nI k))] [] S) K ?_ ?_ ?_
  · intro k hk hp
    show Run X 163 2 _ [] S = _
    rw [L_X9_isHeld_2, m3, if_neg (nI_ge hk (by omega))]
    simp only [ix_nI (show k < 10 by omega) (show 10 < 2 ^ 31 by decide)]
    by_cases q1 : S 51 k = p1
    · rw [if_pos q1]
      by_cases q2 : S 52 k = p2
      · rw [if_pos q2]
      · rw [if_neg q2]
        rcases hp with hp | ⟨h1, h2, h3⟩
        · exact absurd hp.2 q2
        · rw [if_neg h1, if_pos h2, if_pos h3]
    · rw [if_neg q1]
      rcases hp with hp | ⟨h1, h2, h3⟩
      · exact absurd hp.1 q1
      · rw [if_neg h1, if_pos h2, if_pos h3]
  · intro k hk hp
    show Run X 163 2 _ [] S = Run X 163 2 _ [] S
    rw [L_X9_isHeld_2, m3, if_neg (nI_ge hk (by omega))]
    simp only [ix_nI (show k < 10 by omega) (show 10 < 2 ^ 31 by decide), nI_1]
    by_cases q1 : S 51 k = p1
    · rw [if_pos q1]
      by_cases q2 : S 52 k = p2
      · exact absurd (Or.inl ⟨q1, q2⟩) hp
      · rw [if_neg q2]
        by_cases h1 : p2 < 0
        · rw [if_pos h1]
        · rw [if_neg h1]
          by_cases h2 : S 51 k = p2
          · rw [if_pos h2, if_neg (fun h3 => hp (Or.inr ⟨h1, h2, h3⟩))]
          · rw [if_neg h2]
    · rw [if_neg q1]
      by_cases h1 : p2 < 0
      · rw [if_pos h1]
      · rw [if_neg h1]
        by_cases h2 : S 51 k = p2
        · rw [if_pos h2, if_neg (fun h3 => hp (Or.inr ⟨h1, h2, h3⟩))]
        · rw [if_neg h2]
  · show Run X 163 2 _ [] S = _
    rw [L_X9_isHeld_2, m3, if_pos (nI_le (Nat.le_refl _) (by omega))]
