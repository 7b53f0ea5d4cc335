/-! a turn -/
def upP (p : Nat → Nat) (m x : Nat) : Nat → Nat := fun j => if j = m then x else p j
theorem upP_at (p : Nat → Nat) (m x : Nat) : upP p m x m = x := if_pos rfl
theorem upP_ne (p : Nat → Nat) {m j : Nat} (x : Nat) (h : j ≠ m) : upP p m x j = p j := if_neg h
def tkS (px py : Nat → Nat) (N V : Nat) (S : sS) (m : Nat) : Nat → Nat × Nat × Nat
  | 0 => (tot px py N V S, px m, py m)
  | k + 1 => if tot (upP px m (k % 5)) (upP py m (k / 5)) N V S < (tkS px py N V S m k).1 then (tot (upP px m (k % 5)) (upP py m (k / 5)) N V S, k % 5, k / 5) else tkS px py N V S m k
def alS (px py : Nat → Nat) (N V : Nat) (S : sS) : Nat → (Nat → Nat) × (Nat → Nat)
  | 0 => (px, py)
  | m + 1 => (upP (alS px py N V S m).1 m (tkS (alS px py N V S m).1 (alS px py N V S m).2 N V S m 25).2.1, upP (alS px py N V S m).2 m (tkS (alS px py N V S m).1 (alS px py N V S m).2 N V S m 25).2.2)
theorem tot_le {V : Nat} (hV : V ≤ 24) (px py : Nat → Nat) (N : Nat) (S : sS) : tot px py N V S ≤ 72 := by
  have := sm_le (f := fun v => lwm px py N (nv (S 8 v)) (nv (S 9 v)) 56) (n := V) (b := 3) (fun i _ => lwm_le _ _ _ _ _ _)
  unfold tot
  omega
theorem tkS_b {V : Nat} (hV : V ≤ 24) (px py : Nat → Nat) (N : Nat) (S : sS) (m : Nat) (hx : px m < 5) (hy : py m < 5) : ∀ k, k ≤ 25 → (tkS px py N V S m k).1 ≤ 72 ∧ (tkS px py N V S m k).2.1 < 5 ∧ (tkS px py N V S m k).2.2 < 5 := by
  intro k
  induction k with
  | zero => intro _; exact ⟨tot_le hV _ _ _ _, hx, hy⟩
  | succ k ih =>
    intro hk
    have es : tkS px py N V S m (k + 1) = if tot (upP px m (k % 5)) (upP py m (k / 5)) N V S < (tkS px py N V S m k).1 then (tot (upP px m (k % 5)) (upP py m (k / 5)) N V S, k % 5, k / 5) else tkS px py N V S m k := rfl
    rw [es]
    by_cases q : tot (upP px m (k % 5)) (upP py m (k / 5)) N V S < (tkS px py N V S m k).1
    · rw [if_pos q]
      refine ⟨tot_le hV _ _ _ _, ?_, ?_⟩
      · show k % 5 < 5; omega
      · show k / 5 < 5; omega
    · rw [if_neg q]; exact ih (by omega)
/-- all but one stand so -/
def PCx (px py : Nat → Nat) (N m : Nat) (S : sS) : Prop := ∀ j, j < N → j ≠ m → S 5 j = nI (px j) ∧ S 6 j = nI (py j) ∧ px j < 5 ∧ py j < 5
def PMx (px py : Nat → Nat) (N m : Nat) (S : sS) : Prop := ∀ j, j < N → j ≠ m → S 53 j = nI (px j) ∧ S 54 j = nI (py j) ∧ px j < 5 ∧ py j < 5
theorem bring_ok {N V m : Nat} {px py : Nat → Nat} {S : sS} (H : HD N V S) (hm : m < N) (h : PCx px py N m S) {x y : Nat} (hx : x < 5) (hy : y < 5) (X : sX) : ∃ S', Cal X 43 [.ref 1, .int (nI m), .int (nI x), .int (nI y)] S = some (none, S') ∧ fr [5, 6] [] S S' ∧ PC (upP px m x) (upP py m y) N S' := by
  have hN := H.2.1
  refine ⟨up2 (up2 S 5 m (nI x)) 6 m (nI y), ?_, fr_upL (fr_upL fr_rfl (by decide)) (by decide), ?_⟩
  · rw [C_X1_bring, isM_y H hm, cI_ok, if_neg (by decide), ix_nI (by omega) (by decide), ix_nI (by omega) (by decide)]
  · intro j hj
    have e5 : up2 (up2 S 5 m (nI x)) 6 m (nI y) 5 = upd (S 5) m (nI x) := rfl
    have e6 : up2 (up2 S 5 m (nI x)) 6 m (nI y) 6 = upd (S 6) m (nI y) := rfl
    rw [e5, e6]
    by_cases q : j = m
    · rw [q, upd_at, upd_at, upP_at, upP_at]
      exact ⟨rfl, rfl, hx, hy⟩
    · rw [upd_ne _ _ q, upd_ne _ _ q, upP_ne _ _ q, upP_ne _ _ q]
      exact h j hj q
theorem PC_x {px py : Nat → Nat} {N m x y : Nat} {S : sS} (h : PC (upP px m x) (upP py m y) N S) : PCx px py N m S := by
  intro j hj q
  have := h j hj
  rw [upP_ne _ _ q, upP_ne _ _ q] at this
  exact this
theorem moveOne_c {N V m : Nat} {px py : Nat → Nat} {S0 S : sS} (H : HD N V S) (hS : SOK N V S) (e8 : S 8 = S0 8) (e9 : S 9 = S0 9) (hP : PC px py N S) (hm : m < N) (X : sX) : ∃ S', Cal X 90 [.ref 36, .int (nI m)] S = some (none, S') ∧ fr [5, 6, 37] [(25, 5), (25, 6), (25, 7)] S S' ∧ PC (upP px m (tkS px py N V S0 m 25).2.1) (upP py m (tkS px py N V S0 m 25).2.2) N S' := by
  have hN := H.2.1
  have hV := H.2.2.2.1
  obtain ⟨p1, p2, p3, p4⟩ := hP m hm
  have tb := tkS_b hV px py N S0 m p3 p4
  obtain ⟨S1, e1, f1⟩ := tot_c (S0 := S0) H hS e8 e9 hP X
  rw [C_X6_moveOne, xOf_ok H hm, cI_ok, yOf_ok H hm, cI_ok, p1, p2, e1, cI_ok]
  have inner : ∀ t, t < 25 → ∀ U, (fr [5, 6, 37] [(25, 5), (25, 6), (25, 7)] S U ∧ PCx px py N m U) → ∃ U', (fr [5, 6, 37] [(25, 5), (25, 6), (25, 7)] S U' ∧ PCx px py N m U') ∧ Run X 90 36 [some (.ref 36), some (.int (nI m)), some (.int (nI (tkS px py N V S0 m t).2.1)), some (.int (nI (tkS px py N V S0 m t).2.2)), some (.int (nI (tkS px py N V S0 m t).1)), some (.int (nI (t / 5))), some (.int (nI (t % 5))), none] [] U = Run X 90 36 [some (.ref 36), some (.int (nI m)), some (.int (nI (tkS px py N V S0 m (t + 1)).2.1)), some (.int (nI (tkS px py N V S0 m (t + 1)).2.2)), some (.int (nI (tkS px py N V S0 m (t + 1)).1)), some (.int (nI (t / 5))), some (.int (nI (t % 5 + 1))), none] [] U' := by
    intro t ht U ⟨f, g⟩
    have HU : HD N V U := HD_ag (fr_ag f (by decide)) H
    obtain ⟨U1, b1, b2, b3⟩ := bring_ok HU hm g (x := t % 5) (y := t / 5) (by omega) (by omega) X
    have fU1 : fr [5, 6, 37] [(25, 5), (25, 6), (25, 7)] S U1 := fr_trans f (fr_mono b2 (by decide) (by decide))
    obtain ⟨U2, c1, c2⟩ := tot_c (S0 := S0) (HD_ag (fr_ag fU1 (by decide)) H) (SOK_ag (fr_ag fU1 (by decide)) hS) ((fr_cell fU1 8 (by decide) (by decide)).trans e8) ((fr_cell fU1 9 (by decide) (by decide)).trans e9) b3 X
    refine ⟨U2, ⟨fr_trans fU1 (fr_mono c2 (by decide) (by decide)), ?_⟩, ?_⟩
    · have := PC_x b3
      unfold PCx at this ⊢
      rw [fr_cell c2 5 (by decide) (by decide), fr_cell c2 6 (by decide) (by decide)]
      exact this
    · have es : tkS px py N V S0 m (t + 1) = if tot (upP px m (t % 5)) (upP py m (t / 5)) N V S0 < (tkS px py N V S0 m t).1 then (tot (upP px m (t % 5)) (upP py m (t / 5)) N V S0, t % 5, t / 5) else tkS px py N V S0 m t := rfl
      have h1 := (tb t (by omega)).1
      have h2 := tot_le hV (upP px m (t % 5)) (upP py m (t / 5)) N S0
      rw [L_X6_moveOne_36, l5, if_neg (nI_ge (by omega) (by decide)), b1, cV_ok, c1, cI_ok, es, nI_1]
      by_cases q : tot (upP px m (t % 5)) (upP py m (t / 5)) N V S0 < (tkS px py N V S0 m t).1
      · rw [if_neg (nI_ge q (by omega)), if_pos q]
      · rw [if_pos (nI_le (by omega) (by omega)), if_neg q]
  obtain ⟨S2, ⟨f2, g2⟩, e2⟩ := loop_P (F := fun y U => Run X 90 27 [some (.ref 36), some (.int (nI m)), some (.int (nI (tkS px py N V S0 m (5 * y)).2.1)), some (.int (nI (tkS px py N V S0 m (5 * y)).2.2)), some (.int (nI (tkS px py N V S0 m (5 * y)).1)), some (.int (nI y)), none, none] [] U) (P := fun _ U => fr [5, 6, 37] [(25, 5), (25, 6), (25, 7)] S U ∧ PCx px py N m U) 5 (by
    intro y hy U hU
    obtain ⟨U', hU', e'⟩ := loop_P (F := fun x U => Run X 90 36 [some (.ref 36), some (.int (nI m)), some (.int (nI (tkS px py N V S0 m (5 * y + x)).2.1)), some (.int (nI (tkS px py N V S0 m (5 * y + x)).2.2)), some (.int (nI (tkS px py N V S0 m (5 * y + x)).1)), some (.int (nI y)), some (.int (nI x)), none] [] U) (P := fun _ U => fr [5, 6, 37] [(25, 5), (25, 6), (25, 7)] S U ∧ PCx px py N m U) 5 (by
      intro x hx U hU
      obtain ⟨U', hU', e'⟩ := inner (5 * y + x) (by omega) U hU
      rw [show (5 * y + x) / 5 = y by omega, show (5 * y + x) % 5 = x by omega] at e'
      exact ⟨U', hU', e'⟩) 0 (Nat.zero_le _) U hU
    refine ⟨U', hU', ?_⟩
    show Run X 90 27 _ [] U = Run X 90 27 _ [] U'
    rw [L_X6_moveOne_27, l5, if_neg (nI_ge hy (by decide))]
    refine Eq.trans e' ?_
    show Run X 90 36 _ [] U' = _
    rw [L_X6_moveOne_36, l5, if_pos (nI_le (Nat.le_refl _) (by decide)), nI_1, show 5 * (y + 1) = 5 * y + 5 by omega]) 0 (Nat.zero_le _) S1 ⟨fr_mono f1 (by decide) (by decide), by
      intro j hj _
      rw [fr_cell f1 5 (by decide) (by decide), fr_cell f1 6 (by decide) (by decide)]
      exact hP j hj⟩
  obtain ⟨t1, t2, t3⟩ := tb 25 (Nat.le_refl _)
  obtain ⟨S3, b1, b2, b3⟩ := bring_ok (HD_ag (fr_ag f2 (by decide)) H) hm g2 t2 t3 X
  refine ⟨S3, ?_, fr_trans f2 (fr_mono b2 (by decide) (by decide)), b3⟩
  refine Eq.trans e2 ?_
  show Run X 90 27 _ [] S2 = _
  rw [L_X6_moveOne_27, l5, if_pos (nI_le (Nat.le_refl _) (by decide)), show 5 * 5 = 25 from rfl, b1, cV_ok]
theorem moveAll_c {N V : Nat} {px py : Nat → Nat} {S0 S : sS} (H : HD N V S) (hS : SOK N V S) (e8 : S 8 = S0 8) (e9 : S 9 = S0 9) (hP : PC px py N S) (X : sX) : ∃ S', Cal X 89 [.ref 36] S = some (none, S') ∧ fr [5, 6, 37] [(25, 5), (25, 6), (25, 7)] S S' ∧ PC (alS px py N V S0 N).1 (alS px py N V S0 N).2 N S' := by
  have hN := H.2.1
  rw [C_X6_moveAll]
  obtain ⟨S', ⟨f, g⟩, e⟩ := loop_P (F := fun m U => Run X 89 2 [some (.ref 36), some (.int (nI m))] [] U) (P := fun m U => fr [5, 6, 37] [(25, 5), (25, 6), (25, 7)] S U ∧ PC (alS px py N V S0 m).1 (alS px py N V S0 m).2 N U) N (by
    intro m hm U ⟨f, g⟩
    have HU : HD N V U := HD_ag (fr_ag f (by decide)) H
    obtain ⟨U', e', f', g'⟩ := moveOne_c (S0 := S0) HU (SOK_ag (fr_ag f (by decide)) hS) ((fr_cell f 8 (by decide) (by decide)).trans e8) ((fr_cell f 9 (by decide) (by decide)).trans e9) g hm X
    refine ⟨U', ⟨fr_trans f f', g'⟩, ?_⟩
    show Run X 89 2 _ [] U = Run X 89 2 _ [] U'
    rw [L_X6_moveAll_2, C_X1_members, cI_ok, HU.1, if_neg (nI_ge hm (by omega)), e', cV_ok, nI_1]) 0 (Nat.zero_le _) S ⟨fr_rfl, hP⟩
  refine ⟨S', Eq.trans e ?_, f, g⟩
  show Run X 89 2 _ [] S' = _
  rw [L_X6_moveAll_2, C_X1_members, cI_ok, fr_fld f 1 0 (by decide) (by decide), H.1, if_pos (nI_le (Nat.le_refl _) (by omega))]
/-- the other's turn of one -/
theorem put_m {N m : Nat} {px py : Nat → Nat} {T : sS} (h : PMx px py N m T) {x y : Nat} (hx : x < 5) (hy : y < 5) : PM (upP px m x) (upP py m y) N (up2 (up2 T 53 m (nI x)) 54 m (nI y)) := by
  intro j hj
  have e5 : up2 (up2 T 53 m (nI x)) 54 m (nI y) 53 = upd (T 53) m (nI x) := rfl
  have e6 : up2 (up2 T 53 m (nI x)) 54 m (nI y) 54 = upd (T 54) m (nI y) := rfl
  rw [e5, e6]
  by_cases q : j = m
  · rw [q, upd_at, upd_at, upP_at, upP_at]
    exact ⟨rfl, rfl, hx, hy⟩
  · rw [upd_ne _ _ q, upd_ne _ _ q, upP_ne _ _ q, upP_ne _ _ q]
    exact h j hj q
theorem turn_m {N V : Nat} {px py : Nat → Nat} {S0 T : sS} (H : HV N V T) (e8 : T 8 = S0 8) (e9 : T 9 = S0 9) (hP : PM px py N T) (X : sX) : ∃ T', Cal X 209 [.ref 43] T = some (some (.int (nI (tot (alS px py N V S0 N).1 (alS px py N V S0 N).2 N V S0))), T') ∧ fr [53, 54, 60, 61] [(43, 30), (43, 31), (43, 32), (43, 33)] T T' ∧ PM (alS px py N V S0 N).1 (alS px py N V S0 N).2 N T' := by
  have hN := H.1.2.1
  have hV := H.1.2.2.2.1
  rw [C_X9_turn]
  obtain ⟨T1, ⟨f1, g1⟩, e1⟩ := loop_P (F := fun m U => Run X 209 2 [some (.ref 43), some (.int (nI m)), none, none, none, none, none] [] U) (P := fun m U => fr [53, 54, 60, 61] [(43, 30), (43, 31), (43, 32), (43, 33)] T U ∧ PM (alS px py N V S0 m).1 (alS px py N V S0 m).2 N U) N (by
    intro m hm U ⟨f, g⟩
    obtain ⟨qx, hqx⟩ : ∃ qx, qx = (alS px py N V S0 m).1 := ⟨_, rfl⟩
    obtain ⟨qy, hqy⟩ : ∃ qy, qy = (alS px py N V S0 m).2 := ⟨_, rfl⟩
    rw [← hqx, ← hqy] at g
    have eal : alS px py N V S0 (m + 1) = (upP qx m (tkS qx qy N V S0 m 25).2.1, upP qy m (tkS qx qy N V S0 m 25).2.2) := by rw [hqx, hqy]; rfl
    have HU : HV N V U := HV_ag (fr_ag f (by decide)) H
    obtain ⟨p1, p2, p3, p4⟩ := g m hm
    have tb := tkS_b hV qx qy N S0 m p3 p4
    obtain ⟨U1, c1, c2⟩ := sheet_m (S0 := S0) HU ((fr_cell f 8 (by decide) (by decide)).trans e8) ((fr_cell f 9 (by decide) (by decide)).trans e9) g X
    have u53 : U1 53 m = nI (qx m) := by rw [fr_cell c2 53 (by decide) (by decide)]; exact p1
    have u54 : U1 54 m = nI (qy m) := by rw [fr_cell c2 54 (by decide) (by decide)]; exact p2
    obtain ⟨U2, ⟨f2, g2⟩, e2⟩ := loop_P (F := fun t W => Run X 209 33 [some (.ref 43), some (.int (nI m)), some (.int (nI (tkS qx qy N V S0 m t).1)), some (.int (nI (tkS qx qy N V S0 m t).2.1)), some (.int (nI (tkS qx qy N V S0 m t).2.2)), some (.int (nI t)), none] [] W) (P := fun _ W => fr [53, 54, 60, 61] [(43, 30), (43, 31), (43, 32), (43, 33)] T W ∧ PMx qx qy N m W) 25 (by
      intro t ht W ⟨fW, gW⟩
      have h5 := put_m gW (x := t % 5) (y := t / 5) (by omega) (by omega)
      obtain ⟨W1, hW1⟩ : ∃ W1, W1 = up2 (up2 W 53 m (nI (t % 5))) 54 m (nI (t / 5)) := ⟨_, rfl⟩
      rw [← hW1] at h5
      have fW1 : fr [53, 54, 60, 61] [(43, 30), (43, 31), (43, 32), (43, 33)] T W1 := by rw [hW1]; exact fr_upL (fr_upL fW (by decide)) (by decide)
      obtain ⟨W2, d1, d2⟩ := sheet_m (S0 := S0) (HV_ag (fr_ag fW1 (by decide)) H) ((fr_cell fW1 8 (by decide) (by decide)).trans e8) ((fr_cell fW1 9 (by decide) (by decide)).trans e9) h5 X
      refine ⟨W2, ⟨fr_trans fW1 (fr_mono d2 (by decide) (by decide)), ?_⟩, ?_⟩
      · intro j hj q
        have := h5 j hj
        rw [upP_ne _ _ q, upP_ne _ _ q] at this
        rw [fr_cell d2 53 (by decide) (by decide), fr_cell d2 54 (by decide) (by decide)]
        exact this
      · have es : tkS qx qy N V S0 m (t + 1) = if tot (upP qx m (t % 5)) (upP qy m (t / 5)) N V S0 < (tkS qx qy N V S0 m t).1 then (tot (upP qx m (t % 5)) (upP qy m (t / 5)) N V S0, t % 5, t / 5) else tkS qx qy N V S0 m t := rfl
        have h1 := (tb t (by omega)).1
        have h2 := tot_le hV (upP qx m (t % 5)) (upP qy m (t / 5)) N S0
        have m5 : oRem (nI t) 5 = nI (t % 5) := oRem_nI (by omega) (by decide) (by decide)
        have d5 : nI t / 5 = nI (t / 5) := pk_div (by omega) (by decide) (by decide)
        show Run X 209 33 _ [] W = Run X 209 33 _ [] W2
        rw [L_X9_turn_33, l25, if_neg (nI_ge ht (by decide)), dv_ok (by decide), ix_nI (by omega) (by decide), dv_ok (by decide), ix_nI (by omega) (by decide), m5, d5, ← hW1, d1, cI_ok, dv_ok (by decide), dv_ok (by decide), es, nI_1]
        by_cases q : tot (upP qx m (t % 5)) (upP qy m (t / 5)) N V S0 < (tkS qx qy N V S0 m t).1
        · rw [if_pos (nI_lt q (by omega)), if_pos q]
        · rw [if_neg (nI_nlt (by omega) (by omega)), if_neg q]) 0 (Nat.zero_le _) U1 ⟨fr_trans f (fr_mono c2 (by decide) (by decide)), by
        intro j hj _
        rw [fr_cell c2 53 (by decide) (by decide), fr_cell c2 54 (by decide) (by decide)]
        exact g j hj⟩
    obtain ⟨t1, t2, t3⟩ := tb 25 (Nat.le_refl _)
    refine ⟨up2 (up2 U2 53 m (nI (tkS qx qy N V S0 m 25).2.1)) 54 m (nI (tkS qx qy N V S0 m 25).2.2), ⟨fr_upL (fr_upL f2 (by decide)) (by decide), ?_⟩, ?_⟩
    · rw [eal]
      exact put_m g2 t2 t3
    · show Run X 209 2 _ [] U = Run X 209 2 _ [] _
      rw [L_X9_turn_2, HU.2.1, if_neg (nI_ge hm (by omega)), c1, cI_ok, ix_nI (by omega) (by decide), ix_nI (by omega) (by decide), u53, u54]
      refine Eq.trans e2 ?_
      show Run X 209 33 _ [] U2 = _
      rw [L_X9_turn_33, l25, if_pos (nI_le (Nat.le_refl _) (by decide)), ix_nI (by omega) (by decide), ix_nI (by omega) (by decide), nI_1]) 0 (Nat.zero_le _) T ⟨fr_rfl, hP⟩
  obtain ⟨T2, e2, f2⟩ := sheet_m (S0 := S0) (HV_ag (fr_ag f1 (by decide)) H) ((fr_cell f1 8 (by decide) (by decide)).trans e8) ((fr_cell f1 9 (by decide) (by decide)).trans e9) g1 X
  refine ⟨T2, ?_, fr_trans f1 (fr_mono f2 (by decide) (by decide)), ?_⟩
  · refine Eq.trans e1 ?_
    show Run X 209 2 _ [] T1 = _
    rw [L_X9_turn_2, fr_fld f1 43 11 (by decide) (by decide), H.2.1, if_pos (nI_le (Nat.le_refl _) (by omega)), e2, cI_ok]
  · unfold PM
    rw [fr_cell f2 53 (by decide) (by decide), fr_cell f2 54 (by decide) (by decide)]
    exact g1
theorem c_turn {S : sS} (R : Rel S) (X : sX) : Two (Cal X 124 [.ref 0] S) (fun S => Cal X 209 [.ref 43] S) := by
  obtain ⟨N, V, K, H, B, E, I, A, C, M⟩ := id R
  obtain ⟨px, py, hPC, hPM⟩ := HH_pos H
  obtain ⟨S1, e1, f1, g1, g2, g3⟩ := refresh_ok H.1 C.1 X
  have f1' : fr [26, 27, 28] [(25, 4)] S S1 := by
    intro c j hc hj
    by_cases q : c = 25
    · subst q
      exact g1 j (fun e => hj (by rw [e]; decide))
    · rw [f1 c (by simp only [List.mem_cons, List.not_mem_nil, or_false] at hc ⊢; omega)]
  have P1 : PC px py N S1 := by
    unfold PC
    rw [fr_cell f1' 5 (by decide) (by decide), fr_cell f1' 6 (by decide) (by decide)]
    exact hPC
  have H1 : HD N V S1 := HD_ag (fr_ag f1' (by decide)) H.1
  have a8 : S1 8 = S 8 := fr_cell f1' 8 (by decide) (by decide)
  have a9 : S1 9 = S 9 := fr_cell f1' 9 (by decide) (by decide)
  obtain ⟨S2, e2, f2, P2⟩ := moveAll_c (S0 := S) H1 g3 a8 a9 P1 X
  obtain ⟨S3, e3, f3⟩ := tot_c (S0 := S) (HD_ag (fr_ag f2 (by decide)) H1) (SOK_ag (fr_ag f2 (by decide)) g3) ((fr_cell f2 8 (by decide) (by decide)).trans a8) ((fr_cell f2 9 (by decide) (by decide)).trans a9) P2 X
  have f13 : fr [5, 6, 37] [(25, 5), (25, 6), (25, 7)] S1 S3 := fr_trans f2 (fr_mono f3 (by decide) (by decide))
  have fS3 : fr [5, 6, 26, 27, 28, 37] [(25, 4), (25, 5), (25, 6), (25, 7)] S S3 := fr_trans (fr_mono f1' (by decide) (by decide)) (fr_mono f13 (by decide) (by decide))
  have P3 : PM px py N S3 := by
    unfold PM
    rw [fr_cell fS3 53 (by decide) (by decide), fr_cell fS3 54 (by decide) (by decide)]
    exact hPM
  obtain ⟨T, e4, f4, P4⟩ := turn_m (S0 := S) (HV_ag (fr_ag fS3 (by decide)) (HV_of H)) (fr_cell fS3 8 (by decide) (by decide)) (fr_cell fS3 9 (by decide) (by decide)) P3 X
  have fT : fr [5, 6, 37, 53, 54, 60, 61] [(25, 5), (25, 6), (25, 7), (43, 30), (43, 31), (43, 32), (43, 33)] S1 T := fr_trans (fr_mono f13 (by decide) (by decide)) (fr_mono f4 (by decide) (by decide))
  have fST : fr [5, 6, 26, 27, 28, 37, 53, 54, 60, 61] [(25, 4), (25, 5), (25, 6), (25, 7), (43, 30), (43, 31), (43, 32), (43, 33)] S T := fr_trans (fr_mono f1' (by decide) (by decide)) (fr_mono fT (by decide) (by decide))
  refine ⟨nI (tot (alS px py N V S N).1 (alS px py N V S N).2 N V S), S3, T, ?_, e4, N, V, K, HHm H (fr_ag fST (by decide)) ?_, RB_ag (fr_ag fST (by decide)) B, ?_, RI_ag (fr_ag fST (by decide)) I, RA_ag (fr_ag fST (by decide)) A, RC_sd C ?_ (SOK_ag (fr_ag fT (by decide)) g3) (fr_ag fST (by decide)), RM_ag (fr_ag fST (by decide)) M⟩
  · rw [C_X8_turn, e1, cV_ok, e2, cV_ok, e3, cI_ok]
  · intro m hm
    obtain ⟨r1, r2, r3, -⟩ := H.2.2.2.2.2.2.1 m hm
    obtain ⟨c1, c2, c3, c4⟩ := P2 m hm
    obtain ⟨d1, d2, d3, d4⟩ := P4 m hm
    rw [fr_cell fST 2 (by decide) (by decide), fr_cell fST 3 (by decide) (by decide), fr_cell fST 4 (by decide) (by decide), fr_cell fST 45 (by decide) (by decide), fr_cell fST 46 (by decide) (by decide), fr_cell fST 47 (by decide) (by decide)]
    refine ⟨r1, r2, r3, _, _, c3, c4, ?_, d1, ?_, d2⟩
    · rw [fr_cell f4 5 (by decide) (by decide), fr_cell f3 5 (by decide) (by decide)]; exact c1
    · rw [fr_cell f4 6 (by decide) (by decide), fr_cell f3 6 (by decide) (by decide)]; exact c2
  · rw [fr_cell fST 44 (by decide) (by decide), fr_cell fST 42 (by decide) (by decide)]; exact E
  · rw [fr_fld fT 25 4 (by decide) (by decide)]; exact g2
