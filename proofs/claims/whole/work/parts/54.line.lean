/-! the other's lines -/
def cz (i : Nat) : Int32 := nI i - 4
theorem cz_1 (i : Nat) : cz i + 1 = cz (i + 1) := by
  unfold cz
  rw [← nI_1, Int32.sub_eq_add_neg, Int32.sub_eq_add_neg, Int32.add_assoc, Int32.add_comm (-4) 1, ← Int32.add_assoc]
theorem cz_4 (i : Nat) : cz i + 4 = nI i := by
  unfold cz
  rw [Int32.sub_eq_add_neg, Int32.add_assoc, show (-4 : Int32) + 4 = 0 by decide, Int32.add_zero]
theorem cz_lt : ∀ i, i < 14 → ¬ 9 < cz i := by decide +kernel
theorem meas_m {N s m : Nat} {px py : Nat → Nat} {T : sS} (hN : N ≤ 7) (hP : PM px py N T) (hs : s < 4) (hm : m < N) (X : sX) : ∃ r, Cal X 204 [.ref 43, .int (nI s), .int (nI m)] T = some (some (.int r), T) ∧ r + 4 = nI (mes (px m) (py m) s) := by
  obtain ⟨p1, p2, p3, p4⟩ := hP m hm
  rw [C_X9_measure]
  unfold mes
  rcases (show s = 0 ∨ s = 1 ∨ s = 2 ∨ s = 3 by omega) with rfl | rfl | rfl | rfl
  · rw [if_pos nI_0, if_pos rfl, ix_nI (by omega) (by decide), p1]
    exact ⟨_, rfl, by rw [l4, nI_add]⟩
  · rw [if_neg (by decide), if_pos (show nI 1 = 1 from rfl), if_neg (by decide), if_pos rfl, ix_nI (by omega) (by decide), p2]
    exact ⟨_, rfl, by rw [l4, nI_add]⟩
  · rw [if_neg (by decide), if_neg (by decide), if_pos (show nI 2 = 2 from rfl), if_neg (by decide), if_neg (by decide), if_pos rfl, ix_nI (by omega) (by decide), ix_nI (by omega) (by decide), p1, p2]
    exact ⟨_, rfl, by rw [l4, nI_add, nI_add]⟩
  · rw [if_neg (by decide), if_neg (by decide), if_neg (by decide), if_neg (by decide), if_neg (by decide), if_neg (by decide), ix_nI (by omega) (by decide), ix_nI (by omega) (by decide), p1, p2]
    exact ⟨_, rfl, mes_3 p4⟩
def LH (o c : Nat) (T : sS) : Prop := ∃ w s i a, T 43 30 = nI w ∧ T 43 31 = nI s ∧ T 43 32 = cz i ∧ T 43 33 = nI a ∧ w ≤ 7 ∧ s < 4 ∧ i < 14 ∧ a ≤ 1 ∧ 100 * s + 2 * i + a ≤ o ∧ c = 1000 * w + 100 * s + 2 * i + a
def LI (o c : Nat) (T : sS) : Prop := (c = 1000000 ∧ T 43 30 = nI 8) ∨ ∃ o', o' < o ∧ LH o' c T
theorem take_ok {l s i q o c : Nat} {T : sS} (hl : l ≤ 7) (hs : s < 4) (hi : i < 14) (hq : q ≤ 1) (ho : o = 100 * s + 2 * i + q) (h : LI o c T) (X : sX) : ∃ T', Cal X 206 [.ref 43, .int (nI l), .int (nI s), .int (cz i), .int (nI q)] T = some (none, T') ∧ fr [] [(43, 30), (43, 31), (43, 32), (43, 33)] T T' ∧ LH o (min c (1000 * l + o)) T' := by
  obtain ⟨T1, hT1⟩ : ∃ T1, T1 = up2 (up2 (up2 (up2 T 43 30 (nI l)) 43 31 (nI s)) 43 32 (cz i)) 43 33 (nI q) := ⟨_, rfl⟩
  have f1 : fr [] [(43, 30), (43, 31), (43, 32), (43, 33)] T T1 := by
    rw [hT1]
    exact fr_upF (fr_upF (fr_upF (fr_upF fr_rfl (by decide)) (by decide)) (by decide)) (by decide)
  have new : LH o (1000 * l + o) T1 := ⟨l, s, i, q, by rw [hT1]; rfl, by rw [hT1]; rfl, by rw [hT1]; rfl, by rw [hT1]; rfl, hl, hs, hi, hq, by omega, by omega⟩
  rw [C_X9_takesLine, ← hT1]
  rcases h with ⟨rfl, e⟩ | ⟨o', ho', w, s', i', a', e1, e2, e3, e4, h1, h2, h3, h4, h5, rfl⟩
  · rw [e, if_pos (nI_lt (by omega) (by decide)), Nat.min_eq_right (by omega)]
    exact ⟨T1, rfl, f1, new⟩
  · rw [e1]
    by_cases c1 : l < w
    · rw [if_pos (nI_lt c1 (by omega)), Nat.min_eq_right (by omega)]
      exact ⟨T1, rfl, f1, new⟩
    · rw [if_neg (nI_nlt (by omega) (by omega)), Nat.min_eq_left (by omega)]
      exact ⟨T, rfl, fr_rfl, w, s', i', a', e1, e2, e3, e4, h1, h2, h3, h4, by omega, rfl⟩
theorem LI_next {o o' c : Nat} {T : sS} (h : LH o' c T) (ho : o' < o) : LI o c T := Or.inr ⟨o', ho, h⟩
theorem LI_fr {o c : Nat} {T T' : sS} (h : LI o c T) (e0 : T' 43 30 = T 43 30) (e1 : T' 43 31 = T 43 31) (e2 : T' 43 32 = T 43 32) (e3 : T' 43 33 = T 43 33) : LI o c T' := by
  unfold LI LH at *
  rw [e0, e1, e2, e3]
  exact h
theorem sta_bit {px py : Nat → Nat} {s i k : Nat} : (sta px py s i k).testBit k = false := Nat.testBit_lt_two_pow (mk_lt _ k)
/-- votes and numbers, as the other has them -/
def HV (N V : Nat) (T : sS) : Prop := HD N V T ∧ T 43 11 = nI N ∧ T 43 12 = nI V ∧ ∀ v, v < V → T 49 v = T 8 v ∧ T 50 v = T 9 v
theorem HV_of {N V K : Nat} {T : sS} (H : HH N V K T) : HV N V T := ⟨H.1, H.2.2.2.1, H.2.2.2.2.1, fun v hv => ⟨(H.2.2.2.2.2.2.2.1 v hv).1, (H.2.2.2.2.2.2.2.1 v hv).2.1⟩⟩
theorem HV_ag {N V : Nat} {S S' : sS} (h : ag [8, 9, 49, 50] [(1, 0), (1, 1), (43, 11), (43, 12)] S S') (H : HV N V S) : HV N V S' := by
  obtain ⟨a, b, c, d⟩ := H
  refine ⟨HD_ag (ag_mono h (by decide) (by decide)) a, ?_, ?_, ?_⟩
  · rw [h.2 (43, 11) (by decide)]; exact b
  · rw [h.2 (43, 12) (by decide)]; exact c
  · rw [h.1 8 (by decide), h.1 9 (by decide), h.1 49 (by decide), h.1 50 (by decide)]; exact d
/-- one sort of line -/
theorem sort_m {N V v s y n : Nat} {px py : Nat → Nat} {T : sS} (H : HV N V T) (hP : PM px py N T) (hv : v < V) (hs : s < 4) (hyn : y < 128 ∧ n < 128 ∧ y &&& n = 0) (h49 : T 49 v = nI y) (h50 : T 50 v = nI n) (hI : LI (100 * s) (lcm px py N y n (14 * s)) T) (X : sX) : ∃ T', Run X 205 38 [some (.ref 43), some (.int (nI v)), some (.int (nI (pc 7 y))), some (.int (nI (pc 7 n))), some (.int (nI s)), some (.int 0), none, none] [] T = Run X 205 29 [some (.ref 43), some (.int (nI v)), some (.int (nI (pc 7 y))), some (.int (nI (pc 7 n))), some (.int (nI (s + 1))), none, none, none] [] T' ∧ fr [60, 61] [(43, 30), (43, 31), (43, 32), (43, 33)] T T' ∧ LI (100 * (s + 1)) (lcm px py N y n (14 * (s + 1))) T' := by
  obtain ⟨HD0, m1, m2, k4⟩ := id H
  obtain ⟨hy, hn, hd⟩ := hyn
  have hN := HD0.2.1
  have hV := HD0.2.2.2.1
  have h128 := pow_le128 hN
  have hvs := vt_split hd
  have hv7 := vt_le y n
  -- cleared
  obtain ⟨T1, ⟨f1, g1, g1'⟩, e1⟩ := loop_P (F := fun k U => Run X 205 38 [some (.ref 43), some (.int (nI v)), some (.int (nI (pc 7 y))), some (.int (nI (pc 7 n))), some (.int (nI s)), some (.int (nI k)), none, none] [] U) (P := fun k U => fr [60, 61] [] T U ∧ (∀ j, j < k → U 60 j = 0) ∧ ∀ j, j < k → U 61 j = 0) 16 (by
    intro k hk U ⟨f, g, g'⟩
    refine ⟨up2 (up2 U 60 k 0) 61 k 0, ⟨fr_upL (fr_upL f (by decide)) (by decide), ?_, ?_⟩, ?_⟩
    · intro j hj
      rw [up2_ne _ _ _ (show 60 ≠ 61 by decide), up2_at]
      by_cases q : j = k
      · rw [q, upd_at]
      · rw [upd_ne _ _ q]; exact g j (by omega)
    · intro j hj
      rw [up2_at]
      by_cases q : j = k
      · rw [q, upd_at]
      · rw [upd_ne _ _ q, up2_ne _ _ _ (show 61 ≠ 60 by decide)]; exact g' j (by omega)
    · show Run X 205 38 _ [] U = Run X 205 38 _ [] _
      rw [L_X9_findLine_38, l16, if_neg (nI_ge hk (by decide)), ix_nI hk (by decide), ix_nI hk (by decide), nI_1]) 0 (Nat.zero_le _) T ⟨fr_rfl, fun j hj => absurd hj (Nat.not_lt_zero j), fun j hj => absurd hj (Nat.not_lt_zero j)⟩
  -- filled
  obtain ⟨T2, ⟨f2, g2, g2'⟩, e2⟩ := loop_P (F := fun k U => Run X 205 70 [some (.ref 43), some (.int (nI v)), some (.int (nI (pc 7 y))), some (.int (nI (pc 7 n))), some (.int (nI s)), some (.int (nI k)), none, none] [] U) (P := fun k U => fr [60, 61] [] T U ∧ (∀ j, j < 16 → U 60 j = nI (pc 7 (y &&& sta px py s j k))) ∧ ∀ j, j < 16 → U 61 j = nI (pc 7 (n &&& sta px py s j k))) N (by
    intro k hk U ⟨f, g, g'⟩
    have PU : PM px py N U := by
      unfold PM
      rw [fr_cell f 53 (by decide) (by decide), fr_cell f 54 (by decide) (by decide)]
      exact hP
    obtain ⟨p1, p2, p3, p4⟩ := hP k hk
    have hm := mes_le (s := s) p3 p4
    have u11 : U 43 11 = nI N := by rw [fr_fld f 43 11 (by decide) (by decide)]; exact m1
    have u49 : U 49 v = nI y := by rw [fr_cell f 49 (by decide) (by decide)]; exact h49
    have u50 : U 50 v = nI n := by rw [fr_cell f 50 (by decide) (by decide)]; exact h50
    have hst : ∀ i, sta px py s i (k + 1) = sta px py s i k ||| (bif decide (mes (px k) (py k) s = i) then 2 ^ k else 0) := fun i => rfl
    have upd' : ∀ z i, pc 7 (z &&& sta px py s i (k + 1)) = pc 7 (z &&& sta px py s i k) + (if i = mes (px k) (py k) s then (z.testBit k).toNat else 0) := by
      intro z i
      rw [hst]
      by_cases q : i = mes (px k) (py k) s
      · rw [decide_eq_true q.symm, if_pos q]
        exact pc_step (by omega) sta_bit
      · rw [decide_eq_false (fun e => q e.symm), if_neg q, Nat.add_zero]
        show pc 7 (z &&& (sta px py s i k ||| 0)) = _
        rw [Nat.or_zero]
    obtain ⟨r, er, em⟩ := meas_m hN PU hs hk X
    obtain ⟨j0, hj0⟩ : ∃ j0, j0 = mes (px k) (py k) s := ⟨_, rfl⟩
    rw [← hj0] at em hm
    obtain ⟨U1, hU1⟩ : ∃ U1, U1 = up2 U 60 j0 (nI (pc 7 (y &&& sta px py s j0 k) + (y.testBit k).toNat)) := ⟨_, rfl⟩
    have PU1 : PM px py N U1 := by rw [hU1]; exact PU
    obtain ⟨r', er', em'⟩ := meas_m hN PU1 hs hk X
    rw [← hj0] at em'
    have u50' : U1 50 v = nI n := by rw [hU1]; exact u50
    have u61 : U1 61 = U 61 := by rw [hU1]; rfl
    refine ⟨up2 U1 61 j0 (nI (pc 7 (n &&& sta px py s j0 k) + (n.testBit k).toNat)), ⟨?_, ?_, ?_⟩, ?_⟩
    · rw [hU1]; exact fr_upL (fr_upL f (by decide)) (by decide)
    · intro j hj
      have e60 : up2 U1 61 j0 (nI (pc 7 (n &&& sta px py s j0 k) + (n.testBit k).toNat)) 60 = upd (U 60) j0 (nI (pc 7 (y &&& sta px py s j0 k) + (y.testBit k).toNat)) := by rw [hU1]; rfl
      rw [e60, upd', ← hj0]
      by_cases q : j = j0
      · rw [q, upd_at, if_pos rfl]
      · rw [upd_ne _ _ q, if_neg q, Nat.add_zero]; exact g j hj
    · intro j hj
      rw [up2_at, upd', ← hj0]
      by_cases q : j = j0
      · rw [q, upd_at, if_pos rfl]
      · rw [upd_ne _ _ q, if_neg q, Nat.add_zero, u61]; exact g' j hj
    · show Run X 205 70 _ [] U = Run X 205 70 _ [] _
      rw [L_X9_findLine_70, u11, if_neg (nI_ge hk (by omega)), er, cI_ok, em, ix_nI (by omega) (by decide), ix_nI (by omega) (by decide), ix_nI (by omega) (by decide), u49, sbit (by omega) (by omega), g j0 (by omega), ← bI_nI, nI_add, ← hU1, er', cI_ok, em', ix_nI (by omega) (by decide), ix_nI (by omega) (by decide), ix_nI (by omega) (by decide), u50', sbit (by omega) (by omega), u61, g' j0 (by omega), ← bI_nI, nI_add, nI_1]) 0 (Nat.zero_le _) T1 ⟨f1, by
      intro j hj
      have : sta px py s j 0 = 0 := rfl
      rw [g1 j hj, this, Nat.and_zero]
      rfl, by
      intro j hj
      have : sta px py s j 0 = 0 := rfl
      rw [g1' j hj, this, Nat.and_zero]
      rfl⟩
  -- the lines
  obtain ⟨T3, ⟨f3, g3⟩, e3⟩ := loop_P (F := fun i U => Run X 205 153 [some (.ref 43), some (.int (nI v)), some (.int (nI (pc 7 y))), some (.int (nI (pc 7 n))), some (.int (nI s)), some (.int (nI (pc 7 (y &&& bel px py s i N)))), some (.int (nI (pc 7 (n &&& bel px py s i N)))), some (.int (cz i))] [] U) (P := fun i U => fr [] [(43, 30), (43, 31), (43, 32), (43, 33)] T2 U ∧ LI (100 * s + 2 * i) (lcm px py N y n (14 * s + i)) U) 14 (by
    intro i hi U ⟨f, g⟩
    have a1 := pc_andn y (bel px py s i N)
    have a2 := pc_andn n (bel px py s i N)
    have w1 : pc 7 (n &&& bel px py s i N) + pc 7 y - pc 7 (y &&& bel px py s i N) = wl y n (bel px py s i N) := by
      unfold wl
      rw [Nat.and_comm (bel px py s i N) n]
      omega
    have w2 : pc 7 (y &&& bel px py s i N) + pc 7 n - pc 7 (n &&& bel px py s i N) = vt y n - wl y n (bel px py s i N) := by
      unfold wl
      rw [Nat.and_comm (bel px py s i N) n]
      omega
    have h1 := wl_le y n (bel px py s i N)
    have es : lcm px py N y n (14 * s + (i + 1)) = min (min (lcm px py N y n (14 * s + i)) (1000 * wl y n (bel px py s i N) + (100 * s + 2 * i))) (1000 * (vt y n - wl y n (bel px py s i N)) + (100 * s + 2 * i) + 1) := by
      have this : lcm px py N y n (14 * s + i + 1) = min (min (lcm px py N y n (14 * s + i)) (1000 * Wl px py N y n (14 * s + i) + (100 * ((14 * s + i) / 14) + 2 * ((14 * s + i) % 14)))) (1000 * (vt y n - Wl px py N y n (14 * s + i)) + (100 * ((14 * s + i) / 14) + 2 * ((14 * s + i) % 14)) + 1) := rfl
      unfold Wl at this
      rw [show (14 * s + i) / 14 = s by omega, show (14 * s + i) % 14 = i by omega] at this
      exact this
    obtain ⟨U1, t1, t2, t3⟩ := take_ok (l := wl y n (bel px py s i N)) (s := s) (i := i) (q := 0) (by omega) hs hi (by decide) (by omega) g X
    obtain ⟨U2, t4, t5, t6⟩ := take_ok (l := vt y n - wl y n (bel px py s i N)) (s := s) (i := i) (q := 1) (o := 100 * s + 2 * i + 1) (by omega) hs hi (by decide) (by omega) (LI_next t3 (by omega)) X
    have f2' : fr [] [(43, 30), (43, 31), (43, 32), (43, 33)] T2 U2 := fr_trans f (fr_trans t2 t5)
    refine ⟨U2, ⟨f2', ?_⟩, ?_⟩
    · rw [es, show 1000 * (vt y n - wl y n (bel px py s i N)) + (100 * s + 2 * i) + 1 = 1000 * (vt y n - wl y n (bel px py s i N)) + (100 * s + 2 * i + 1) by omega]
      exact LI_next t6 (by omega)
    · have t1' : Cal X 206 [.ref 43, .int (nI (wl y n (bel px py s i N))), .int (nI s), .int (cz i), .int 0] U = some (none, U1) := t1
      have t4' : Cal X 206 [.ref 43, .int (nI (vt y n - wl y n (bel px py s i N))), .int (nI s), .int (cz i), .int 1] U1 = some (none, U2) := t4
      show Run X 205 153 _ [] U = Run X 205 153 _ [] U2
      rw [L_X9_findLine_153, if_neg (cz_lt i hi), nI_add, pk_sub (by omega), w1, nI_add, pk_sub (by omega), w2, t1', cV_ok, t4', cV_ok, cz_4, ix_nI (by omega) (by decide), ix_nI (by omega) (by decide), fr_cell f2' 60 (by decide) (by decide), fr_cell f2' 61 (by decide) (by decide), g2 i (by omega), g2' i (by omega), nI_add, nI_add, ← bel_pc, ← bel_pc, cz_1]) 0 (Nat.zero_le _) T2 ⟨fr_rfl, by
      rw [Nat.mul_zero, Nat.add_zero, Nat.add_zero]
      exact LI_fr hI (fr_fld f2 43 30 (by decide) (by decide)) (fr_fld f2 43 31 (by decide) (by decide)) (fr_fld f2 43 32 (by decide) (by decide)) (fr_fld f2 43 33 (by decide) (by decide))⟩
  refine ⟨T3, ?_, fr_trans (fr_mono f2 (by decide) (by decide)) (fr_mono f3 (by decide) (by decide)), ?_⟩
  · refine Eq.trans e1 ?_
    show Run X 205 38 _ [] T1 = _
    rw [L_X9_findLine_38, l16, if_pos (nI_le (Nat.le_refl _) (by decide))]
    refine Eq.trans e2 ?_
    show Run X 205 70 _ [] T2 = _
    have t11 : T2 43 11 = nI N := by rw [fr_fld f2 43 11 (by decide) (by decide)]; exact m1
    rw [L_X9_findLine_70, t11, if_pos (nI_le (Nat.le_refl _) (by omega))]
    have e3' : Run X 205 153 [some (.ref 43), some (.int (nI v)), some (.int (nI (pc 7 y))), some (.int (nI (pc 7 n))), some (.int (nI s)), some (.int 0), some (.int 0), some (.int (-4))] [] T2 = Run X 205 153 [some (.ref 43), some (.int (nI v)), some (.int (nI (pc 7 y))), some (.int (nI (pc 7 n))), some (.int (nI s)), some (.int (nI (pc 7 (y &&& bel px py s 14 N)))), some (.int (nI (pc 7 (n &&& bel px py s 14 N)))), some (.int (cz 14))] [] T3 := by
      have z : ∀ x, pc 7 (x &&& bel px py s 0 N) = 0 := by
        intro x
        rw [bel_0, Nat.and_zero]
        decide
      simp only [z] at e3
      exact e3
    rw [e3', L_X9_findLine_153, if_pos (by decide), nI_1]
  · rcases g3 with g3 | ⟨o', h1, h2⟩
    · refine Or.inl ⟨?_, g3.2⟩
      rw [show 14 * (s + 1) = 14 * s + 14 by omega]
      exact g3.1
    · rw [show 14 * (s + 1) = 14 * s + 14 by omega]
      exact Or.inr ⟨o', by omega, h2⟩
theorem line_m {N V v y n : Nat} {px py : Nat → Nat} {T : sS} (H : HV N V T) (hP : PM px py N T) (hv : v < V) (hyn : y < 128 ∧ n < 128 ∧ y &&& n = 0) (h49 : T 49 v = nI y) (h50 : T 50 v = nI n) (X : sX) : ∃ T', Cal X 205 [.ref 43, .int (nI v)] T = some (none, T') ∧ fr [60, 61] [(43, 30), (43, 31), (43, 32), (43, 33)] T T' ∧ LH 400 (lcm px py N y n 56) T' := by
  have hV := H.1.2.2.2.1
  obtain ⟨T0, hT0⟩ : ∃ T0, T0 = up2 T 43 30 8 := ⟨_, rfl⟩
  have f0 : fr [60, 61] [(43, 30), (43, 31), (43, 32), (43, 33)] T T0 := by rw [hT0]; exact fr_upF fr_rfl (by decide)
  have t49 : T0 49 v = nI y := by rw [hT0]; exact h49
  have t50 : T0 50 v = nI n := by rw [hT0]; exact h50
  rw [C_X9_findLine, ← hT0, ix_nI (by omega) (by decide), h49, mbits hyn.1, cI_ok, ix_nI (by omega) (by decide), t50, mbits hyn.2.1, cI_ok]
  obtain ⟨T', ⟨f, g⟩, e⟩ := loop_P (F := fun s U => Run X 205 29 [some (.ref 43), some (.int (nI v)), some (.int (nI (pc 7 y))), some (.int (nI (pc 7 n))), some (.int (nI s)), none, none, none] [] U) (P := fun s U => fr [60, 61] [(43, 30), (43, 31), (43, 32), (43, 33)] T U ∧ LI (100 * s) (lcm px py N y n (14 * s)) U) 4 (by
    intro s hs U ⟨f, g⟩
    have HU : HV N V U := HV_ag (fr_ag f (by decide)) H
    have PU : PM px py N U := by
      unfold PM
      rw [fr_cell f 53 (by decide) (by decide), fr_cell f 54 (by decide) (by decide)]
      exact hP
    obtain ⟨U', e', f', g'⟩ := sort_m HU PU hv hs hyn (by rw [fr_cell f 49 (by decide) (by decide)]; exact h49) (by rw [fr_cell f 50 (by decide) (by decide)]; exact h50) g X
    refine ⟨U', ⟨fr_trans f f', g'⟩, ?_⟩
    show Run X 205 29 _ [] U = Run X 205 29 _ [] U'
    rw [L_X9_findLine_29, l4, if_neg (nI_ge hs (by decide)), e']) 0 (Nat.zero_le _) T0 ⟨f0, Or.inl ⟨rfl, by rw [hT0]; rfl⟩⟩
  refine ⟨T', ?_, f, ?_⟩
  · refine Eq.trans e ?_
    show Run X 205 29 _ [] T' = _
    rw [L_X9_findLine_29, l4, if_pos (nI_le (Nat.le_refl _) (by decide))]
  · rcases g with ⟨g, _⟩ | ⟨o', h1, w, s, i, a, q1, q2, q3, q4, q5, q6, q7, q8, q9, q10⟩
    · exfalso
      obtain ⟨e, he, h⟩ := lcm_lwm px py N y n 55 (by decide)
      have h3 := lwm_le px py N y n (55 + 1)
      have h' : lcm px py N y n (14 * 4) = 1000 * lwm px py N y n (55 + 1) + e := h
      omega
    · exact ⟨w, s, i, a, q1, q2, q3, q4, q5, q6, q7, q8, by omega, q10⟩
theorem sheet_m {N V : Nat} {px py : Nat → Nat} {S0 T : sS} (H : HV N V T) (e8 : T 8 = S0 8) (e9 : T 9 = S0 9) (hP : PM px py N T) (X : sX) : ∃ T', Cal X 208 [.ref 43] T = some (some (.int (nI (tot px py N V S0))), T') ∧ fr [60, 61] [(43, 30), (43, 31), (43, 32), (43, 33)] T T' := by
  obtain ⟨HD0, m1, m2, k4⟩ := id H
  have hV := HD0.2.2.2.1
  rw [C_X9_sheet]
  obtain ⟨T', f, e⟩ := loop_P (F := fun v U => Run X 208 4 [some (.ref 43), some (.int (nI (tot px py N v S0))), some (.int (nI v))] [] U) (P := fun _ U => fr [60, 61] [(43, 30), (43, 31), (43, 32), (43, 33)] T U) V (by
    intro v hv U f
    obtain ⟨y, n, hy, hn, -, -, hd, q8, q9, q8', q9'⟩ := vote_y HD0 hv
    obtain ⟨g1, g2⟩ := k4 v hv
    have HU : HV N V U := HV_ag (fr_ag f (by decide)) H
    have PU : PM px py N U := by
      unfold PM
      rw [fr_cell f 53 (by decide) (by decide), fr_cell f 54 (by decide) (by decide)]
      exact hP
    obtain ⟨U', e', f', w, s, i, a, r1, r2, r3, r4, r5, r6, r7, r8, r9, r10⟩ := line_m HU PU hv ⟨hy, hn, hd⟩ (by rw [fr_cell f 49 (by decide) (by decide), g1, q8]) (by rw [fr_cell f 50 (by decide) (by decide), g2, q9]) X
    have ew : w = lwm px py N y n 56 := by
      have := lcm_w px py N y n
      omega
    have es : tot px py N (v + 1) S0 = tot px py N v S0 + lwm px py N (nv (S0 8 v)) (nv (S0 9 v)) 56 := rfl
    refine ⟨U', fr_trans f f', ?_⟩
    show Run X 208 4 _ [] U = Run X 208 4 _ [] U'
    rw [es, ← e8, ← e9, q8', q9', L_X9_sheet_4, fr_fld f 43 12 (by decide) (by decide), m2, if_neg (nI_ge hv (by omega)), e', cV_ok, r1, ew, nI_add, nI_1]) 0 (Nat.zero_le _) T fr_rfl
  refine ⟨T', Eq.trans e ?_, f⟩
  show Run X 208 4 _ [] T' = _
  rw [L_X9_sheet_4, fr_fld f 43 12 (by decide) (by decide), m2, if_pos (nI_le (Nat.le_refl _) (by omega))]
theorem c_line {S : sS} (R : Rel S) (X : sX) (p1 : Int32) : Two (Cal X 122 [.ref 0, .int p1] S) (fun S => Cal X 207 [.ref 43, .int p1] S) := by
  obtain ⟨N, V, K, H, B, E, I, A, C, M⟩ := id R
  obtain ⟨HD0, k1, k2, m1, m2, m3, k3, k4, k5⟩ := id H
  have hV := HD0.2.2.2.1
  rw [C_X8_line]
  rcases pk_ix2 p1 (n := V) (by omega) with q | ⟨v, hv, rfl⟩
  · rw [isV_n HD0 q, cI_ok, if_pos rfl, rf_1, cI_ok]
    refine two_rf R ?_
    show Cal X 207 _ (rfu S 1) = _
    rw [C_X9_line, mV_n (S := rfu S 1) m2 q, cI_ok, if_pos rfl, no_1, cI_ok]
  obtain ⟨px, py, hPC, hPM⟩ := HH_pos H
  obtain ⟨y, n, hy, hn, -, -, hd, q8, q9, q8', q9'⟩ := vote_y HD0 hv
  obtain ⟨g1, g2, -⟩ := k4 v hv
  obtain ⟨S1, e1, f1⟩ := line_c HD0 hPC hy hn X
  have fs : fr Ls Fs S S1 := fr_mono f1 (by decide) (by decide)
  have P1 : PM px py N S1 := by
    unfold PM
    rw [fr_cell f1 53 (by decide) (by decide), fr_cell f1 54 (by decide) (by decide)]
    exact hPM
  obtain ⟨T, e2, f2, w, s, i, a, r1, r2, r3, r4, r5, r6, r7, r8, r9, r10⟩ := line_m (HV_of (HH_sc fs H)) P1 hv ⟨hy, hn, hd⟩ (by rw [fr_cell f1 49 (by decide) (by decide), g1, q8]) (by rw [fr_cell f1 50 (by decide) (by decide), g2, q9]) X
  refine two_sc (a := nI (lcm px py N y n 56)) (S1 := S1) (S2 := T) R H ?_ ?_ (fr_trans fs (fr_mono f2 (by decide) (by decide))) (RC_x (fr_trans (fr_mono f1 (by decide) (by decide)) (fr_mono f2 (by decide) (by decide))) C) (RM_ag (fr_ag (fr_trans (fr_mono f1 (by decide) (by decide) : fr [37, 60, 61] [(43, 30), (43, 31), (43, 32), (43, 33)] S S1) (fr_mono f2 (by decide) (by decide))) (by decide)) M)
  · rw [isVote_ok HD0 hv, cI_ok, if_neg (by decide), yesOf_ok HD0 hv, cI_ok, noOf_ok HD0 hv, cI_ok, q8, q9, e1, cI_ok]
  · show Cal X 207 _ S1 = _
    rw [C_X9_line, mV_y (S := S1) (by rw [fr_fld f1 43 12 (by decide) (by decide)]; exact m2) (by omega) hv, cI_ok, if_neg (by decide), e2, cV_ok, r1, r2, r3, r4, cz_4, l1000, l100, l2, pk_mul, pk_mul, pk_mul, nI_add, nI_add, nI_add, r10]
theorem c_sheet {S : sS} (R : Rel S) (X : sX) : Two (Cal X 123 [.ref 0] S) (fun S => Cal X 208 [.ref 43] S) := by
  obtain ⟨N, V, K, H, B, E, I, A, C, M⟩ := id R
  obtain ⟨px, py, hPC, hPM⟩ := HH_pos H
  obtain ⟨S1, e1, f1, g1, g2, g3⟩ := refresh_ok H.1 C.1 X
  have f1' : fr [26, 27, 28] [(25, 4)] S S1 := by
    intro c j hc hj
    by_cases q : c = 25
    · subst q
      exact g1 j (fun e => hj (by rw [e]; decide))
    · rw [f1 c (by simp only [List.mem_cons, List.not_mem_nil, or_false] at hc ⊢; omega)]
  have fs1 : fr Ls Fs S S1 := fr_mono f1' (by decide) (by decide)
  have H1 := HH_sc fs1 H
  have P1 : PC px py N S1 := by
    unfold PC
    rw [fr_cell f1' 5 (by decide) (by decide), fr_cell f1' 6 (by decide) (by decide)]
    exact hPC
  obtain ⟨S2, e2, f2⟩ := tot_c (S0 := S) H1.1 g3 (fr_cell f1' 8 (by decide) (by decide)) (fr_cell f1' 9 (by decide) (by decide)) P1 X
  have fs2 : fr Ls Fs S S2 := fr_trans fs1 (fr_mono f2 (by decide) (by decide))
  have P2 : PM px py N S2 := by
    unfold PM
    rw [fr_cell fs2 53 (by decide) (by decide), fr_cell fs2 54 (by decide) (by decide)]
    exact hPM
  obtain ⟨T, e3, f3⟩ := sheet_m (S0 := S) (HV_of (HH_sc fs2 H)) (fr_cell fs2 8 (by decide) (by decide)) (fr_cell fs2 9 (by decide) (by decide)) P2 X
  have fT : fr [37, 60, 61] [(25, 5), (25, 6), (25, 7), (43, 30), (43, 31), (43, 32), (43, 33)] S1 T := fr_trans (fr_mono f2 (by decide) (by decide)) (fr_mono f3 (by decide) (by decide))
  have fST : fr [26, 27, 28, 37, 60, 61] [(25, 4), (25, 5), (25, 6), (25, 7), (43, 30), (43, 31), (43, 32), (43, 33)] S T := fr_trans (fr_mono f1' (by decide) (by decide)) (fr_mono fT (by decide) (by decide))
  refine two_sc (a := nI (tot px py N V S)) (S1 := S2) (S2 := T) R H ?_ ?_ (fr_trans fs2 (fr_mono f3 (by decide) (by decide))) (RC_sd C ?_ (SOK_ag (fr_ag fT (by decide)) g3) (fr_ag fST (by decide))) (RM_ag (fr_ag fST (by decide)) M)
  · rw [C_X8_sheet, e1, cV_ok, e2, cI_ok]
  · exact e3
  · rw [fr_fld fT 25 4 (by decide) (by decide)]; exact g2
