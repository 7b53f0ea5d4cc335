/-! lots -/
theorem up2_up2 (S : sS) (k j : Nat) (v v' : Int32) : up2 (up2 S k j v) k j v' = up2 S k j v' := by
  funext c i
  simp only [up2_ap]
  by_cases h1 : c = k ∧ i = j
  · rw [if_pos h1, if_pos h1]
  · rw [if_neg h1, if_neg h1, if_neg h1]
theorem up2_self (S : sS) {k j : Nat} {v : Int32} (h : S k j = v) : up2 S k j v = S := by
  funext c i
  rw [up2_ap]
  by_cases h1 : c = k ∧ i = j
  · rw [if_pos h1, ← h, h1.1, h1.2]
  · rw [if_neg h1]
def lf (w N m : Nat) : Nat := pc N w - pc m w
theorem pc_s (w m : Nat) : pc (m + 1) w = pc m w + (w.testBit m).toNat := rfl
theorem pc_mono (w : Nat) : ∀ d m, pc m w ≤ pc (m + d) w := by
  intro d
  induction d with
  | zero => intro m; exact Nat.le_refl _
  | succ d ih => intro m; rw [show m + (d + 1) = m + d + 1 by omega, pc_s]; exact Nat.le_trans (ih m) (Nat.le_add_right _ _)
theorem lf_y {w N m : Nat} (hm : m < N) (h : w.testBit m = true) : 0 < lf w N m ∧ lf w N (m + 1) = lf w N m - 1 := by
  have h1 := pc_s w m
  rw [h] at h1
  have h2 := pc_mono w (N - (m + 1)) (m + 1)
  rw [show m + 1 + (N - (m + 1)) = N by omega] at h2
  have h3 : (true : Bool).toNat = 1 := rfl
  unfold lf
  omega
theorem lf_n {w N m : Nat} (h : w.testBit m = false) : lf w N (m + 1) = lf w N m := by
  have h1 := pc_s w m
  rw [h] at h1
  have h3 : (false : Bool).toNat = 0 := rfl
  unfold lf
  omega
def zs (z : Int32) : Int32 := z * kMul + 12345
theorem zs_e (z : Int32) : z * kMul + 12345 = zs z := rfl
def dlC (w N m : Nat) (z y : Int32) : Prop := y ≤ oRem (oUshr z 8) (nI (lf w N m))
noncomputable def dlS (w N m : Nat) (p : Int32 × Int32 × Nat) : Int32 × Int32 × Nat := bif w.testBit m then (@ite _ (dlC w N m (zs p.1) p.2.1) (Classical.propDecidable _) (zs p.1, p.2.1, p.2.2) (zs p.1, p.2.1 + (-1), p.2.2 ||| 2 ^ m)) else p
theorem dlS_n {w N m : Nat} {p : Int32 × Int32 × Nat} (h : w.testBit m = false) : dlS w N m p = p := by
  unfold dlS
  rw [h]
  rfl
theorem dlS_a {w N m : Nat} {p : Int32 × Int32 × Nat} (h : w.testBit m = true) (c : dlC w N m (zs p.1) p.2.1) : dlS w N m p = (zs p.1, p.2.1, p.2.2) := by
  unfold dlS
  rw [h, cond_true, if_pos c]
theorem dlS_b {w N m : Nat} {p : Int32 × Int32 × Nat} (h : w.testBit m = true) (c : ¬ dlC w N m (zs p.1) p.2.1) : dlS w N m p = (zs p.1, p.2.1 + (-1), p.2.2 ||| 2 ^ m) := by
  unfold dlS
  rw [h, cond_true, if_neg c]
noncomputable def dl (w N : Nat) (z0 y0 : Int32) : Nat → Int32 × Int32 × Nat
  | 0 => (z0, y0, 0)
  | m + 1 => dlS w N m (dl w N z0 y0 m)
theorem dl_s {w N m : Nat} {z0 y0 : Int32} : dl w N z0 y0 (m + 1) = dlS w N m (dl w N z0 y0 m) := rfl
theorem dl_n {w N m : Nat} {z0 y0 : Int32} (h : w.testBit m = false) : dl w N z0 y0 (m + 1) = dl w N z0 y0 m := by
  rw [dl_s, dlS_n h]
theorem dl_a {w N m : Nat} {z0 y0 : Int32} (h : w.testBit m = true) (c : dlC w N m (zs (dl w N z0 y0 m).1) (dl w N z0 y0 m).2.1) : dl w N z0 y0 (m + 1) = (zs (dl w N z0 y0 m).1, (dl w N z0 y0 m).2.1, (dl w N z0 y0 m).2.2) := by
  rw [dl_s, dlS_a h c]
theorem dl_b {w N m : Nat} {z0 y0 : Int32} (h : w.testBit m = true) (c : ¬ dlC w N m (zs (dl w N z0 y0 m).1) (dl w N z0 y0 m).2.1) : dl w N z0 y0 (m + 1) = (zs (dl w N z0 y0 m).1, (dl w N z0 y0 m).2.1 + (-1), (dl w N z0 y0 m).2.2 ||| 2 ^ m) := by
  rw [dl_s, dlS_b h c]
theorem dl_end {w N : Nat} {z0 y0 : Int32} : ∀ d m, m + d = N → lf w N m = 0 → dl w N z0 y0 N = dl w N z0 y0 m := by
  intro d
  induction d with
  | zero => intro m h _; rw [show m = N by omega]
  | succ d ih =>
    intro m h h0
    cases hb : w.testBit m with
    | true => have := (lf_y (N := N) (by omega) hb).1; omega
    | false => rw [← dl_n (w := w) (N := N) (z0 := z0) (y0 := y0) hb]; exact ih (m + 1) (by omega) (by rw [lf_n hb]; exact h0)
theorem dl_sub {w N : Nat} {z0 y0 : Int32} : ∀ m, ∀ i, (dl w N z0 y0 m).2.2.testBit i = true → i < m ∧ w.testBit i = true := by
  intro m
  induction m with
  | zero =>
    intro i h
    have : (0 : Nat).testBit i = true := h
    rw [Nat.zero_testBit] at this
    cases this
  | succ m ih =>
    intro i h
    cases hb : w.testBit m with
    | false =>
      rw [dl_n hb] at h
      obtain ⟨a, b⟩ := ih i h
      exact ⟨by omega, b⟩
    | true =>
      by_cases c : dlC w N m (zs (dl w N z0 y0 m).1) (dl w N z0 y0 m).2.1
      · rw [dl_a hb c] at h
        obtain ⟨a, b⟩ := ih i h
        exact ⟨by omega, b⟩
      · rw [dl_b hb c] at h
        have h' : ((dl w N z0 y0 m).2.2 ||| 2 ^ m).testBit i = true := h
        rw [Nat.testBit_or, Bool.or_eq_true, Nat.testBit_two_pow, decide_eq_true_eq] at h'
        rcases h' with h' | rfl
        · obtain ⟨a, b⟩ := ih i h'
          exact ⟨by omega, b⟩
        · exact ⟨by omega, hb⟩
theorem pcN {w N : Nat} (hw : w < 2 ^ N) (hN : N ≤ 7) : pc 7 w = pc N w := pc_hi hw hN
theorem deal_c {N V w : Nat} {S : sS} (H : HD N V S) (hw : w < 2 ^ N) (y0 : Int32) (X : sX) : Cal X 53 [.ref 41, .int (nI w), .int y0] S = some (some (.int (nI (dl w N (S 41 1) y0 N).2.2)), up2 S 41 1 (dl w N (S 41 1) y0 N).1) := by
  have hN := H.2.1
  have h128 := pow_le128 hN
  rw [C_X3_deal, bitc (by omega), cI_ok, pcN hw hN]
  have key : ∀ d m, m + d = N → Run X 53 14 [some (.ref 41), some (.int (nI w)), none, some (.int (nI (lf w N m))), some (.int (dl w N (S 41 1) y0 m).2.1), some (.int (nI (dl w N (S 41 1) y0 m).2.2)), some (.int (nI m))] [] (up2 S 41 1 (dl w N (S 41 1) y0 m).1) = some (some (.int (nI (dl w N (S 41 1) y0 N).2.2)), up2 S 41 1 (dl w N (S 41 1) y0 N).1) := by
    intro d
    induction d with
    | zero =>
      intro m hm
      have : m = N := by omega
      subst this
      rw [L_X3_deal_14, C_X1_members, cI_ok, show up2 S 41 1 (dl w m (S 41 1) y0 m).1 1 0 = nI m from H.1, if_pos (nI_le (Nat.le_refl _) (by omega))]
    | succ d ih =>
      intro m hm
      have hlf : lf w N m ≤ 7 := by
        have := pc_le N w
        unfold lf
        omega
      rw [L_X3_deal_14, C_X1_members, cI_ok, show up2 S 41 1 (dl w N (S 41 1) y0 m).1 1 0 = nI N from H.1, if_neg (nI_ge (by omega) (by omega))]
      by_cases h0 : lf w N m = 0
      · rw [h0, if_pos (by decide), dl_end (z0 := S 41 1) (y0 := y0) (d + 1) m hm h0]
      · rw [if_neg (nI_nle (by omega) (by omega)), has_ok (by omega) (by omega), cI_ok]
        cases hb : w.testBit m with
        | false =>
          rw [if_pos (show bI false = 0 from rfl), nI_1, ← lf_n (N := N) hb, ← dl_n (w := w) (N := N) (z0 := S 41 1) (y0 := y0) hb]
          exact ih (m + 1) (by omega)
        | true =>
          obtain ⟨b1, b2⟩ := lf_y (N := N) (by omega) hb
          have em : nI (lf w N m) + (-1) = nI (lf w N (m + 1)) := by rw [m1_pred, l1, pk_sub (by omega), b2]
          rw [if_neg (show ¬ bI true = 0 by decide), up2_up2, show up2 S 41 1 (dl w N (S 41 1) y0 m).1 41 1 = (dl w N (S 41 1) y0 m).1 from rfl, zs_e, L_X3_deal_54, dv_ok (nI_ne0 (by omega) (by omega)), show up2 S 41 1 (zs (dl w N (S 41 1) y0 m).1) 41 1 = zs (dl w N (S 41 1) y0 m).1 from rfl, em, nI_1]
          by_cases c : dlC w N m (zs (dl w N (S 41 1) y0 m).1) (dl w N (S 41 1) y0 m).2.1
          · rw [if_pos (show (dl w N (S 41 1) y0 m).2.1 ≤ oRem (oUshr (zs (dl w N (S 41 1) y0 m).1) 8) (nI (lf w N m)) from c)]
            have := ih (m + 1) (by omega)
            rw [dl_a hb c] at this
            exact this
          · rw [if_neg (show ¬ (dl w N (S 41 1) y0 m).2.1 ≤ oRem (oUshr (zs (dl w N (S 41 1) y0 m).1) 8) (nI (lf w N m)) from c)]
            rw [show oShl 1 (nI m) = nI (2 ^ m) from oShl_1 (by omega), or_nI]
            have := ih (m + 1) (by omega)
            rw [dl_b hb c] at this
            exact this
  have := key N 0 (by omega)
  have e0 : lf w N 0 = pc N w := Nat.sub_zero _
  have e1 : up2 S 41 1 (dl w N (S 41 1) y0 0).1 = S := up2_self S rfl
  rw [e0, e1] at this
  exact this
theorem deal_m {N V K v : Nat} {T : sS} (H : HH N V K T) (hv : v < V) (X : sX) : Cal X 201 [.ref 43, .int (nI v)] T = some (some (.int (nI (dl (nv (T 8 v) ||| nv (T 9 v)) N (T 43 29) (nI (pc 7 (nv (T 8 v)))) N).2.2)), up2 T 43 29 (dl (nv (T 8 v) ||| nv (T 9 v)) N (T 43 29) (nI (pc 7 (nv (T 8 v)))) N).1) := by
  obtain ⟨HD0, k1, k2, m1, m2, m3, k3, k4, k5⟩ := H
  have hN := HD0.2.1
  have hV := HD0.2.2.2.1
  obtain ⟨y, n, hy7, hn7, hy, hn, hd, e8, e9, e8', e9'⟩ := vote_y HD0 hv
  obtain ⟨g1, g2, -⟩ := k4 v hv
  have hw : y ||| n < 2 ^ N := Nat.or_lt_two_pow hy hn
  have h128 := pow_le128 hN
  rw [e8', e9', C_X9_dealt, ix_nI (by omega) (by decide), ix_nI (by omega) (by decide), g1, g2, e8, e9, or_nI, mbits (or_lt7 hy7 hn7), cI_ok, ix_nI (by omega) (by decide), g1, e8, mbits hy7, cI_ok, pcN hw hN]
  obtain ⟨w, hwe⟩ : ∃ w, w = y ||| n := ⟨_, rfl⟩
  rw [← hwe] at hw ⊢
  obtain ⟨y0, hy0⟩ : ∃ y0, y0 = nI (pc 7 y) := ⟨_, rfl⟩
  rw [← hy0]
  have key := loop_eq (F := fun m => Run X 201 36 [some (.ref 43), none, some (.int (nI w)), some (.int (nI (lf w N m))), some (.int (dl w N (T 43 29) y0 m).2.1), some (.int (nI (dl w N (T 43 29) y0 m).2.2)), some (.int (nI m))] [] (up2 T 43 29 (dl w N (T 43 29) y0 m).1)) N 0 (by
    intro m _ hm
    have hlf : lf w N m ≤ 7 := by
      have := pc_le N w
      unfold lf
      omega
    show Run X 201 36 _ [] _ = Run X 201 36 _ [] _
    rw [L_X9_dealt_36, show up2 T 43 29 (dl w N (T 43 29) y0 m).1 43 11 = nI N from m1, if_neg (nI_ge hm (by omega)), sbit (by omega) (by omega)]
    cases hb : w.testBit m with
    | false => rw [if_pos (show bI false = 0 from rfl), nI_1, ← lf_n (N := N) hb, ← dl_n (w := w) (N := N) (z0 := T 43 29) (y0 := y0) hb]
    | true =>
      obtain ⟨b1, b2⟩ := lf_y (N := N) (by omega) hb
      have em : nI (lf w N m) + (-1) = nI (lf w N (m + 1)) := by rw [m1_pred, l1, pk_sub (by omega), b2]
      rw [if_neg (show ¬ bI true = 0 by decide), up2_up2, show up2 T 43 29 (dl w N (T 43 29) y0 m).1 43 29 = (dl w N (T 43 29) y0 m).1 from rfl, zs_e, L_X9_dealt_72, dv_ok (nI_ne0 (by omega) (by omega)), show up2 T 43 29 (zs (dl w N (T 43 29) y0 m).1) 43 29 = zs (dl w N (T 43 29) y0 m).1 from rfl, em, nI_1]
      by_cases c : dlC w N m (zs (dl w N (T 43 29) y0 m).1) (dl w N (T 43 29) y0 m).2.1
      · rw [if_pos (show (dl w N (T 43 29) y0 m).2.1 ≤ oRem (oUshr (zs (dl w N (T 43 29) y0 m).1) 8) (nI (lf w N m)) from c), dl_a hb c]
      · rw [if_neg (show ¬ (dl w N (T 43 29) y0 m).2.1 ≤ oRem (oUshr (zs (dl w N (T 43 29) y0 m).1) 8) (nI (lf w N m)) from c), show oShl 1 (nI m) = nI (2 ^ m) from oShl_1 (by omega), or_nI, dl_b hb c]) (Nat.zero_le _)
  have e0 : lf w N 0 = pc N w := Nat.sub_zero _
  have e1 : up2 T 43 29 (dl w N (T 43 29) y0 0).1 = T := up2_self T rfl
  rw [e0, e1] at key
  refine Eq.trans key ?_
  rw [L_X9_dealt_36, show up2 T 43 29 (dl w N (T 43 29) y0 N).1 43 11 = nI N from m1, if_pos (nI_le (Nat.le_refl _) (by omega))]
/-! a book of lots: its seed behind it, and its wrong ones -/
noncomputable def lotV (S : sS) (N : Nat) (r : List Nat) (v : Nat) (z : Int32) : Int32 × Nat := ((dl (nv (S 8 v) ||| nv (S 9 v)) N z (nI (pc 7 (nv (S 8 v)))) N).1, ctw (dl (nv (S 8 v) ||| nv (S 9 v)) N z (nI (pc 7 (nv (S 8 v)))) N).2.2 (andn (nv (S 8 v) ||| nv (S 9 v)) (dl (nv (S 8 v) ||| nv (S 9 v)) N z (nI (pc 7 (nv (S 8 v)))) N).2.2) r)
noncomputable def lotB (S : sS) (N : Nat) (r : List Nat) (z : Int32) : Nat → Int32 × Nat
  | 0 => (z, 0)
  | v + 1 => ((lotV S N r v (lotB S N r z v).1).1, (lotB S N r z v).2 + (lotV S N r v (lotB S N r z v).1).2)
noncomputable def lotN (S : sS) (N V : Nat) (r : List Nat) (most : Nat) (z : Int32) : Nat → Int32 × Nat
  | 0 => (z, 0)
  | k + 1 => ((lotB S N r (lotN S N V r most z k).1 V).1, if most < (lotB S N r (lotN S N V r most z k).1 V).2 then (lotN S N V r most z k).2 else (lotN S N V r most z k).2 + 1)
theorem dl_facts {N y n : Nat} {z : Int32} {y0 : Int32} (hN : N ≤ 7) (hy : y < 2 ^ N) (hn : n < 2 ^ N) : (dl (y ||| n) N z y0 N).2.2 < 2 ^ N ∧ andn (y ||| n) (dl (y ||| n) N z y0 N).2.2 < 2 ^ N ∧ (dl (y ||| n) N z y0 N).2.2 &&& andn (y ||| n) (dl (y ||| n) N z y0 N).2.2 = 0 := by
  have hw : y ||| n < 2 ^ N := Nat.or_lt_two_pow hy hn
  refine ⟨lt_pow_iff.mpr fun i hi => (dl_sub N i hi).1, lt_pow_iff.mpr fun i hi => ?_, ?_⟩
  · rw [andn_bit, Bool.and_eq_true] at hi
    exact lt_pow_iff.mp hw i hi.1
  · apply Nat.eq_of_testBit_eq
    intro i
    rw [Nat.testBit_and, andn_bit, Nat.zero_testBit]
    cases (dl (y ||| n) N z y0 N).2.2.testBit i <;> simp
theorem lotB_le {V : Nat} (hV : V ≤ 24) (S : sS) (N : Nat) (r : List Nat) (z : Int32) : ∀ v, v ≤ V → (lotB S N r z v).2 ≤ 3 * v := by
  intro v
  induction v with
  | zero => intro _; exact Nat.le_refl _
  | succ v ih =>
    intro hv
    have h1 := ih (by omega)
    have h2 : (lotV S N r v (lotB S N r z v).1).2 ≤ 3 := ctw_le _ _ _
    show (lotB S N r z v).2 + (lotV S N r v (lotB S N r z v).1).2 ≤ 3 * (v + 1)
    omega
theorem book_c {N V : Nat} {S : sS} {r : List Nat} (H : HD N V S) (hr : RowOK N r) (X : sX) : Cal X 52 [.ref 41, .int (nI (pk r))] S = some (some (.int (nI (lotB S N r (S 41 1) V).2)), up2 S 41 1 (lotB S N r (S 41 1) V).1) := by
  have hN := H.2.1
  have hV := H.2.2.2.1
  have h128 := pow_le128 hN
  rw [C_X3_wrongOfNextBook]
  have key := loop_eq (F := fun v => Run X 52 4 [some (.ref 41), some (.int (nI (pk r))), some (.int (nI (lotB S N r (S 41 1) v).2)), some (.int (nI v)), none, none] [] (up2 S 41 1 (lotB S N r (S 41 1) v).1)) V 0 (by
    intro v _ hv
    obtain ⟨T, hT⟩ : ∃ T, T = up2 S 41 1 (lotB S N r (S 41 1) v).1 := ⟨_, rfl⟩
    have HT : HD N V T := by rw [hT]; exact H
    have t41 : T 41 1 = (lotB S N r (S 41 1) v).1 := by rw [hT]; rfl
    have t8 : T 8 = S 8 := by rw [hT]; rfl
    have t9 : T 9 = S 9 := by rw [hT]; rfl
    obtain ⟨y, n, hy7, hn7, hy, hn, hd, e8, e9, e8', e9'⟩ := vote_y HT hv
    obtain ⟨d1, d2, d3⟩ := dl_facts (z := T 41 1) (y0 := nI (pc 7 y)) hN hy hn
    have hw : y ||| n < 2 ^ N := Nat.or_lt_two_pow hy hn
    have dc := deal_c HT hw (nI (pc 7 y)) X
    have hbl := bcm_le (dl (y ||| n) N (T 41 1) (nI (pc 7 y)) N).2.2 (andn (y ||| n) (dl (y ||| n) N (T 41 1) (nI (pc 7 y)) N).2.2) r (N + 1)
    have es : lotB S N r (S 41 1) (v + 1) = ((lotV S N r v (lotB S N r (S 41 1) v).1).1, (lotB S N r (S 41 1) v).2 + (lotV S N r v (lotB S N r (S 41 1) v).1).2) := rfl
    have ev : lotV S N r v (lotB S N r (S 41 1) v).1 = ((dl (y ||| n) N (T 41 1) (nI (pc 7 y)) N).1, ctw (dl (y ||| n) N (T 41 1) (nI (pc 7 y)) N).2.2 (andn (y ||| n) (dl (y ||| n) N (T 41 1) (nI (pc 7 y)) N).2.2) r) := by
      unfold lotV
      rw [← t8, ← t9, e8', e9', t41]
    show Run X 52 4 _ [] (up2 S 41 1 (lotB S N r (S 41 1) v).1) = Run X 52 4 _ [] _
    rw [es, ev, ← hT, L_X3_wrongOfNextBook_4, C_X1_votes, cI_ok, HT.2.2.1, if_neg (nI_ge hv (by omega)), yesOf_ok HT hv, cI_ok, noOf_ok HT hv, cI_ok, yesOf_ok HT hv, cI_ok, e8, bitc hy7, cI_ok, e9, or_nI, dc, cI_ok, C_X1_members, cI_ok, show up2 T 41 1 (dl (y ||| n) N (T 41 1) (nI (pc 7 y)) N).1 1 0 = nI N from HT.1, andNot_nI, bestCut_ok hr hN (by omega) (by omega), cI_ok, dv_ok (by decide), l100, pk_div (by omega) (by decide) (by decide), bcm_ctw hr.1 hN, nI_add, nI_1, hT, up2_up2]) (Nat.zero_le _)
  have e1 : up2 S 41 1 (lotB S N r (S 41 1) 0).1 = S := up2_self S rfl
  rw [e1] at key
  refine Eq.trans key ?_
  rw [L_X3_wrongOfNextBook_4, C_X1_votes, cI_ok, show up2 S 41 1 (lotB S N r (S 41 1) V).1 1 1 = nI V from H.2.2.1, if_pos (nI_le (Nat.le_refl _) (by omega))]
theorem books_c {N V n most : Nat} {S : sS} {r : List Nat} (H : HD N V S) (hr : RowOK N r) (hn : n ≤ 20) (hm : most < 2 ^ 31) (z : Int32) (X : sX) : Cal X 51 [.ref 41, .int (nI n), .int z, .int (nI (pk r)), .int (nI most)] S = some (some (.int (nI (lotN S N V r most z n).2)), up2 S 41 1 (lotN S N V r most z n).1) := by
  have hV := H.2.2.2.1
  rw [C_X3_booksWithin]
  have key := loop_eq (F := fun k => Run X 51 11 [some (.ref 41), some (.int (nI n)), none, some (.int (nI (pk r))), some (.int (nI most)), some (.int (nI (lotN S N V r most z k).2)), some (.int (nI k))] [] (up2 S 41 1 (lotN S N V r most z k).1)) n 0 (by
    intro k _ hk
    have HT : HD N V (up2 S 41 1 (lotN S N V r most z k).1) := H
    have bc := book_c HT hr X
    have el : lotB (up2 S 41 1 (lotN S N V r most z k).1) = lotB S := by
      have e8 : up2 S 41 1 (lotN S N V r most z k).1 8 = S 8 := rfl
      have e9 : up2 S 41 1 (lotN S N V r most z k).1 9 = S 9 := rfl
      funext N r z v
      induction v with
      | zero => rfl
      | succ v ih =>
        show ((lotV _ N r v _).1, _ + (lotV _ N r v _).2) = ((lotV S N r v _).1, _ + (lotV S N r v _).2)
        rw [ih]
        unfold lotV
        rw [e8, e9]
    rw [el, show up2 S 41 1 (lotN S N V r most z k).1 41 1 = (lotN S N V r most z k).1 from rfl, up2_up2] at bc
    have hle := lotB_le hV S N r (lotN S N V r most z k).1 V (Nat.le_refl _)
    have es : lotN S N V r most z (k + 1) = ((lotB S N r (lotN S N V r most z k).1 V).1, if most < (lotB S N r (lotN S N V r most z k).1 V).2 then (lotN S N V r most z k).2 else (lotN S N V r most z k).2 + 1) := rfl
    show Run X 51 11 _ [] _ = Run X 51 11 _ [] _
    rw [es, L_X3_booksWithin_11, if_neg (nI_ge hk (by omega)), bc, cI_ok, nI_1, nI_1]
    by_cases c : most < (lotB S N r (lotN S N V r most z k).1 V).2
    · rw [if_pos (nI_lt c (by omega)), if_pos c]
    · rw [if_neg (nI_nlt (by omega) hm), if_neg c]) (Nat.zero_le _)
  refine Eq.trans key ?_
  rw [L_X3_booksWithin_11, if_pos (nI_le (Nat.le_refl _) (by omega))]
