/-! the sheet: lines -/
def mes (a b s : Nat) : Nat := if s = 0 then a + 4 else if s = 1 then b + 4 else if s = 2 then a + b + 4 else a + 4 - b
theorem mes_le {a b s : Nat} (ha : a < 5) (hb : b < 5) : mes a b s ≤ 12 := by
  unfold mes
  by_cases h0 : s = 0
  · rw [if_pos h0]; omega
  · rw [if_neg h0]
    by_cases h1 : s = 1
    · rw [if_pos h1]; omega
    · rw [if_neg h1]
      by_cases h2 : s = 2
      · rw [if_pos h2]; omega
      · rw [if_neg h2]; omega
def sta (px py : Nat → Nat) (s i N : Nat) : Nat := mk (fun m => decide (mes (px m) (py m) s = i)) N
def bel (px py : Nat → Nat) (s i N : Nat) : Nat := mk (fun m => decide (mes (px m) (py m) s < i)) N
theorem bel_s (px py : Nat → Nat) (s i N : Nat) : bel px py s i N ||| sta px py s i N = bel px py s (i + 1) N := by
  apply Nat.eq_of_testBit_eq
  intro b
  unfold bel sta
  rw [Nat.testBit_or, mk_bit, mk_bit, mk_bit, Bool.eq_iff_iff]
  simp only [Bool.or_eq_true, Bool.and_eq_true, decide_eq_true_eq]
  omega
theorem bel_0 (px py : Nat → Nat) (s N : Nat) : bel px py s 0 N = 0 := by
  apply Nat.eq_of_testBit_eq
  intro b
  unfold bel
  rw [mk_bit, Nat.zero_testBit]
  simp
theorem bel_lt (px py : Nat → Nat) (s i N : Nat) : bel px py s i N < 2 ^ N := mk_lt _ N
theorem bel_pc (px py : Nat → Nat) (s i N y : Nat) : pc 7 (y &&& bel px py s (i + 1) N) = pc 7 (y &&& bel px py s i N) + pc 7 (y &&& sta px py s i N) := by
  unfold pc
  rw [← sm_add]
  refine sm_congr fun b _ => ?_
  unfold bel sta
  rw [Nat.testBit_and, Nat.testBit_and, Nat.testBit_and, mk_bit, mk_bit, mk_bit]
  cases y.testBit b
  · rfl
  · by_cases h1 : b < N
    · rw [decide_eq_true h1]
      simp only [Bool.true_and]
      by_cases h2 : mes (px b) (py b) s < i
      · rw [decide_eq_true h2, decide_eq_true (show mes (px b) (py b) s < i + 1 by omega), decide_eq_false (show ¬ mes (px b) (py b) s = i by omega)]
        rfl
      · by_cases h3 : mes (px b) (py b) s = i
        · rw [decide_eq_false h2, decide_eq_true (show mes (px b) (py b) s < i + 1 by omega), decide_eq_true h3]
          rfl
        · rw [decide_eq_false h2, decide_eq_false (show ¬ mes (px b) (py b) s < i + 1 by omega), decide_eq_false h3]
          rfl
    · rw [decide_eq_false h1]
      rfl
/-- where the members stand, by the one and by the other -/
def PC (px py : Nat → Nat) (N : Nat) (S : sS) : Prop := ∀ m, m < N → S 5 m = nI (px m) ∧ S 6 m = nI (py m) ∧ px m < 5 ∧ py m < 5
def PM (px py : Nat → Nat) (N : Nat) (T : sS) : Prop := ∀ m, m < N → T 53 m = nI (px m) ∧ T 54 m = nI (py m) ∧ px m < 5 ∧ py m < 5
theorem HH_pos {N V K : Nat} {S : sS} (H : HH N V K S) : ∃ px py, PC px py N S ∧ PM px py N S := by
  refine ⟨fun m => nv (S 5 m), fun m => nv (S 6 m), ?_, ?_⟩
  · intro m hm
    obtain ⟨-, -, -, x, y, hx, hy, e1, e2, e3, e4⟩ := H.2.2.2.2.2.2.1 m hm
    show S 5 m = nI (nv (S 5 m)) ∧ S 6 m = nI (nv (S 6 m)) ∧ nv (S 5 m) < 5 ∧ nv (S 6 m) < 5
    rw [e1, e3, nv_nI (by omega), nv_nI (by omega)]
    exact ⟨rfl, rfl, hx, hy⟩
  · intro m hm
    obtain ⟨-, -, -, x, y, hx, hy, e1, e2, e3, e4⟩ := H.2.2.2.2.2.2.1 m hm
    show S 53 m = nI (nv (S 5 m)) ∧ S 54 m = nI (nv (S 6 m)) ∧ nv (S 5 m) < 5 ∧ nv (S 6 m) < 5
    rw [e1, e2, e3, e4, nv_nI (by omega), nv_nI (by omega)]
    exact ⟨rfl, rfl, hx, hy⟩
theorem sub_m4 (x : Int32) : x - (-4) = x + 4 := by rw [Int32.sub_eq_add_neg, show -(-4 : Int32) = 4 by decide]
theorem mes_3 {a b : Nat} (hb : b < 5) : (nI a - nI b) + 4 = nI (a + 4 - b) := by
  rw [Int32.sub_eq_add_neg, Int32.add_assoc, Int32.add_comm (-(nI b)) 4, ← Int32.add_assoc, ← Int32.sub_eq_add_neg, l4, nI_add, pk_sub (by omega)]
theorem meas_c {a b s : Nat} (ha : a < 5) (hb : b < 5) (hs : s < 4) (X : sX) (S : sS) : ∃ r, Cal X 92 [.int (nI s), .int (nI a), .int (nI b)] S = some (some (.int r), S) ∧ r - (-4) = nI (mes a b s) := by
  rw [C_X6_measure]
  unfold mes
  rcases (show s = 0 ∨ s = 1 ∨ s = 2 ∨ s = 3 by omega) with rfl | rfl | rfl | rfl
  · rw [if_pos nI_0, if_pos rfl]
    exact ⟨_, rfl, by rw [sub_m4, l4, nI_add]⟩
  · rw [if_neg (by decide), if_pos (show nI 1 = 1 from rfl), if_neg (by decide), if_pos rfl]
    exact ⟨_, rfl, by rw [sub_m4, l4, nI_add]⟩
  · rw [if_neg (by decide), if_neg (by decide), if_pos (show nI 2 = 2 from rfl), if_neg (by decide), if_neg (by decide), if_pos rfl]
    exact ⟨_, rfl, by rw [sub_m4, l4, nI_add, nI_add]⟩
  · rw [if_neg (by decide), if_neg (by decide), if_neg (by decide), if_neg (by decide), if_neg (by decide), if_neg (by decide)]
    exact ⟨_, rfl, by rw [sub_m4, mes_3 hb]⟩
theorem note_c {N V s : Nat} {px py : Nat → Nat} {S : sS} (H : HD N V S) (hP : PC px py N S) (hs : s < 4) (X : sX) : ∃ S', Cal X 91 [.ref 36, .int (nI s)] S = some (none, S') ∧ fr [37] [] S S' ∧ ∀ i, i < 14 → S' 37 i = nI (sta px py s i N) := by
  have hN := H.2.1
  rw [C_X6_noteStanding]
  obtain ⟨S1, ⟨f1, g1⟩, e1⟩ := loop_P (F := fun k T => Run X 91 2 [some (.ref 36), some (.int (nI s)), some (.int (nI k)), none] [] T) (P := fun k T => fr [37] [] S T ∧ ∀ j, j < k → T 37 j = 0) 14 (by
    intro k hk T ⟨f, g⟩
    refine ⟨up2 T 37 k 0, ⟨fr_upL f (by decide), ?_⟩, ?_⟩
    · intro j hj
      rw [up2_at]
      by_cases q : j = k
      · rw [q, upd_at]
      · rw [upd_ne _ _ q]; exact g j (by omega)
    · show Run X 91 2 _ [] T = Run X 91 2 _ [] _
      rw [L_X6_noteStanding_2, l14, if_neg (nI_ge hk (by decide)), ix_nI hk (by decide), nI_1]) 0 (Nat.zero_le _) S ⟨fr_rfl, fun j hj => absurd hj (Nat.not_lt_zero j)⟩
  obtain ⟨S2, ⟨f2, g2⟩, e2⟩ := loop_P (F := fun k T => Run X 91 23 [some (.ref 36), some (.int (nI s)), some (.int (nI k)), none] [] T) (P := fun k T => fr [37] [] S T ∧ ∀ i, i < 14 → T 37 i = nI (sta px py s i k)) N (by
    intro k hk T ⟨f, g⟩
    obtain ⟨p1, p2, p3, p4⟩ := hP k hk
    have hm := mes_le (s := s) p3 p4
    have HT : HD N V T := HD_ag (fr_ag f (by decide)) H
    obtain ⟨r, er, em⟩ := meas_c p3 p4 hs X T
    have e5 : T 5 k = nI (px k) := by rw [fr_cell f 5 (by decide) (by decide)]; exact p1
    have e6 : T 6 k = nI (py k) := by rw [fr_cell f 6 (by decide) (by decide)]; exact p2
    have hst : ∀ i, sta px py s i (k + 1) = sta px py s i k ||| (bif decide (mes (px k) (py k) s = i) then 2 ^ k else 0) := fun i => rfl
    refine ⟨up2 T 37 (mes (px k) (py k) s) (nI (sta px py s (mes (px k) (py k) s) k ||| 2 ^ k)), ⟨fr_upL f (by decide), ?_⟩, ?_⟩
    · intro i hi
      rw [up2_at, hst]
      by_cases q : i = mes (px k) (py k) s
      · rw [q, upd_at, decide_eq_true rfl]
        rfl
      · rw [upd_ne _ _ q, decide_eq_false (fun z => q z.symm)]
        show _ = nI (sta px py s i k ||| 0)
        rw [Nat.or_zero]
        exact g i hi
    · show Run X 91 23 _ [] T = Run X 91 23 _ [] _
      rw [L_X6_noteStanding_23, C_X1_members, cI_ok, HT.1, if_neg (nI_ge hk (by omega)), xOf_ok HT hk, cI_ok, yOf_ok HT hk, cI_ok, e5, e6, er, cI_ok, em, if_neg (nI_pos (by omega)), l14, if_neg (nI_ge (by omega) (by decide)), ix_nI (by omega) (by decide), ix_nI (by omega) (by decide), g _ (by omega), l1, oShl_1 (by omega), or_nI, nI_add]) 0 (Nat.zero_le _) S1 ⟨f1, fun i hi => g1 i hi⟩
  refine ⟨S2, ?_, f2, g2⟩
  refine Eq.trans e1 ?_
  show Run X 91 2 _ [] S1 = _
  rw [L_X6_noteStanding_2, l14, if_pos (nI_le (Nat.le_refl _) (by decide))]
  refine Eq.trans e2 ?_
  show Run X 91 23 _ [] S2 = _
  rw [L_X6_noteStanding_23, C_X1_members, cI_ok, fr_fld f2 1 0 (by decide) (by decide), H.1, if_pos (nI_le (Nat.le_refl _) (by omega))]
/-! the least wrong, and the best line, as one number -/
def Wl (px py : Nat → Nat) (N y n t : Nat) : Nat := wl y n (bel px py (t / 14) (t % 14) N)
def lwm (px py : Nat → Nat) (N y n : Nat) : Nat → Nat
  | 0 => 3
  | t + 1 => min (lwm px py N y n t) (lst y n (bel px py (t / 14) (t % 14) N))
def lcm (px py : Nat → Nat) (N y n : Nat) : Nat → Nat
  | 0 => 1000000
  | t + 1 => min (min (lcm px py N y n t) (1000 * Wl px py N y n t + (100 * (t / 14) + 2 * (t % 14)))) (1000 * (vt y n - Wl px py N y n t) + (100 * (t / 14) + 2 * (t % 14)) + 1)
theorem lwm_le (px py : Nat → Nat) (N y n : Nat) : ∀ t, lwm px py N y n t ≤ 3
  | 0 => Nat.le_refl _
  | t + 1 => Nat.le_trans (Nat.min_le_left _ _) (lwm_le px py N y n t)
theorem lcm_le (px py : Nat → Nat) (N y n : Nat) : ∀ t, lcm px py N y n t ≤ 1000000
  | 0 => Nat.le_refl _
  | t + 1 => Nat.le_trans (Nat.min_le_left _ _) (Nat.le_trans (Nat.min_le_left _ _) (lcm_le px py N y n t))
theorem lcm_lwm (px py : Nat → Nat) (N y n : Nat) : ∀ t, t < 56 → ∃ e, e ≤ 100 * (t / 14) + 2 * (t % 14) + 1 ∧ lcm px py N y n (t + 1) = 1000 * lwm px py N y n (t + 1) + e := by
  have hv := vt_le y n
  intro t
  induction t with
  | zero =>
    intro _
    have h1 : Wl px py N y n 0 ≤ vt y n := wl_le y n _
    have h3 : lst y n (bel px py (0 / 14) (0 % 14) N) ≤ 3 := lst_le y n _
    have e1 : lcm px py N y n (0 + 1) = min (min 1000000 (1000 * Wl px py N y n 0 + (100 * (0 / 14) + 2 * (0 % 14)))) (1000 * (vt y n - Wl px py N y n 0) + (100 * (0 / 14) + 2 * (0 % 14)) + 1) := rfl
    have e2 : lwm px py N y n (0 + 1) = min 3 (lst y n (bel px py (0 / 14) (0 % 14) N)) := rfl
    have e3 : lst y n (bel px py (0 / 14) (0 % 14) N) = min (Wl px py N y n 0) (vt y n - Wl px py N y n 0) := rfl
    rw [e1, e2, e3]
    rw [e3] at h3
    generalize Wl px py N y n 0 = W at *
    generalize vt y n = Z at *
    clear e1 e2 e3
    by_cases q : W ≤ Z - W
    · exact ⟨0, by omega, by omega⟩
    · exact ⟨1, by omega, by omega⟩
  | succ t ih =>
    intro ht
    obtain ⟨e, he, h⟩ := ih (by omega)
    have h1 : Wl px py N y n (t + 1) ≤ vt y n := wl_le y n _
    have h3 : lst y n (bel px py ((t + 1) / 14) ((t + 1) % 14) N) ≤ 3 := lst_le y n _
    have h4 := lwm_le px py N y n (t + 1)
    have e1 : lcm px py N y n (t + 1 + 1) = min (min (lcm px py N y n (t + 1)) (1000 * Wl px py N y n (t + 1) + (100 * ((t + 1) / 14) + 2 * ((t + 1) % 14)))) (1000 * (vt y n - Wl px py N y n (t + 1)) + (100 * ((t + 1) / 14) + 2 * ((t + 1) % 14)) + 1) := rfl
    have e2 : lwm px py N y n (t + 1 + 1) = min (lwm px py N y n (t + 1)) (lst y n (bel px py ((t + 1) / 14) ((t + 1) % 14) N)) := rfl
    have e3 : lst y n (bel px py ((t + 1) / 14) ((t + 1) % 14) N) = min (Wl px py N y n (t + 1)) (vt y n - Wl px py N y n (t + 1)) := rfl
    rw [e1, e2, e3, h]
    rw [e3] at h3
    have ho : 100 * ((t + 1) / 14) + 2 * ((t + 1) % 14) < 399 := by omega
    have heo : e < 100 * ((t + 1) / 14) + 2 * ((t + 1) % 14) := by omega
    generalize 100 * ((t + 1) / 14) + 2 * ((t + 1) % 14) = o at *
    generalize Wl px py N y n (t + 1) = W at *
    generalize vt y n = Z at *
    generalize lwm px py N y n (t + 1) = A at *
    clear e1 e2 e3 h ih he
    by_cases q1 : A ≤ W ∧ A ≤ Z - W
    · exact ⟨e, by omega, by omega⟩
    · by_cases q : W ≤ Z - W
      · exact ⟨o, by omega, by omega⟩
      · exact ⟨o + 1, by omega, by omega⟩
theorem lcm_w (px py : Nat → Nat) (N y n : Nat) : lcm px py N y n 56 / 1000 = lwm px py N y n 56 := by
  obtain ⟨e, he, h⟩ := lcm_lwm px py N y n 55 (by decide)
  have h' : lcm px py N y n 56 = 1000 * lwm px py N y n 56 + e := h
  rw [h']
  omega
theorem line_c {N V y n : Nat} {px py : Nat → Nat} {S : sS} (H : HD N V S) (hP : PC px py N S) (hy : y < 128) (hn : n < 128) (X : sX) : ∃ S', Cal X 88 [.ref 36, .int (nI y), .int (nI n)] S = some (some (.int (nI (lcm px py N y n 56))), S') ∧ fr [37] [] S S' := by
  have hN := H.2.1
  have h128 := pow_le128 hN
  have hv := vt_le y n
  rw [C_X6_bestLine, or_nI, bitc (or_lt7 hy hn), cI_ok]
  obtain ⟨S1, f1, e1⟩ := loop_P (F := fun s T => Run X 88 14 [some (.ref 36), some (.int (nI y)), some (.int (nI n)), some (.int (nI (vt y n))), some (.int (nI (lcm px py N y n (14 * s)))), some (.int (nI s)), none, none, none] [] T) (P := fun _ T => fr [37] [] S T) 4 (by
    intro s hs T f
    have HT : HD N V T := HD_ag (fr_ag f (by decide)) H
    have PT : PC px py N T := by
      unfold PC
      rw [fr_cell f 5 (by decide) (by decide), fr_cell f 6 (by decide) (by decide)]
      exact hP
    obtain ⟨U, eU, fU, gU⟩ := note_c HT PT hs X
    have key := loop_eq (F := fun i => Run X 88 32 [some (.ref 36), some (.int (nI y)), some (.int (nI n)), some (.int (nI (vt y n))), some (.int (nI (lcm px py N y n (14 * s + i)))), some (.int (nI s)), some (.int (nI (bel px py s i N))), some (.int (nI i)), none] [] U) 14 0 (by
      intro i _ hi
      have hb := bel_lt px py s i N
      have h1 := wl_le y n (bel px py s i N)
      have h3 := lcm_le px py N y n (14 * s + i)
      have es : lcm px py N y n (14 * s + (i + 1)) = min (min (lcm px py N y n (14 * s + i)) (1000 * wl y n (bel px py s i N) + (100 * s + 2 * i))) (1000 * (vt y n - wl y n (bel px py s i N)) + (100 * s + 2 * i) + 1) := by
        have this : lcm px py N y n (14 * s + i + 1) = min (min (lcm px py N y n (14 * s + i)) (1000 * Wl px py N y n (14 * s + i) + (100 * ((14 * s + i) / 14) + 2 * ((14 * s + i) % 14)))) (1000 * (vt y n - Wl px py N y n (14 * s + i)) + (100 * ((14 * s + i) / 14) + 2 * ((14 * s + i) % 14)) + 1) := rfl
        unfold Wl at this
        rw [show (14 * s + i) / 14 = s by omega, show (14 * s + i) % 14 = i by omega] at this
        exact this
      show Run X 88 32 _ [] U = Run X 88 32 _ [] U
      rw [es, L_X6_bestLine_32, l14, if_neg (nI_ge hi (by decide)), and_nI, bitc (and_lt7 n (by omega)), cI_ok, andNot_nI, bitc (andn_lt7 _ hy), cI_ok, ix_nI hi (by decide), gU i hi, or_nI, bel_s, nI_add]
      have ew : pc 7 (bel px py s i N &&& n) + pc 7 (andn y (bel px py s i N)) = wl y n (bel px py s i N) := rfl
      rw [ew, l1000, l100, l2, pk_sub h1, pk_mul, pk_mul, pk_mul, pk_mul, nI_add, nI_add, nI_add, nI_add, minI_nI (by omega) (by omega), nI_1, minI_nI (by omega) (by omega), nI_1, Nat.add_assoc, Nat.add_assoc (1000 * (vt y n - wl y n (bel px py s i N)))]) (Nat.zero_le _)
    refine ⟨U, fr_trans f fU, ?_⟩
    show Run X 88 14 _ [] T = Run X 88 14 _ [] U
    have key' : Run X 88 32 [some (.ref 36), some (.int (nI y)), some (.int (nI n)), some (.int (nI (vt y n))), some (.int (nI (lcm px py N y n (14 * s)))), some (.int (nI s)), some (.int 0), some (.int 0), none] [] U = Run X 88 32 [some (.ref 36), some (.int (nI y)), some (.int (nI n)), some (.int (nI (vt y n))), some (.int (nI (lcm px py N y n (14 * s + 14)))), some (.int (nI s)), some (.int (nI (bel px py s 14 N))), some (.int (nI 14)), none] [] U := by
      have e0 := bel_0 px py s N
      simp only [e0, Nat.add_zero] at key
      exact key
    rw [L_X6_bestLine_14, l4, if_neg (nI_ge hs (by decide)), eU, cV_ok, key', L_X6_bestLine_32, l14, if_pos (nI_le (Nat.le_refl _) (by decide)), nI_1, show 14 * (s + 1) = 14 * s + 14 by omega]) 0 (Nat.zero_le _) S fr_rfl
  refine ⟨S1, Eq.trans e1 ?_, f1⟩
  show Run X 88 14 _ [] S1 = _
  rw [L_X6_bestLine_14, l4, if_pos (nI_le (Nat.le_refl _) (by decide))]
/-- WRONG of the sheet -/
def tot (px py : Nat → Nat) (N V : Nat) (S : sS) : Nat := sm (fun v => lwm px py N (nv (S 8 v)) (nv (S 9 v)) 56) V
def mkL (px py : Nat → Nat) (N V : Nat) (S : sS) (t k : Nat) : Int32 := if k = 0 then -1 else nI (mk (fun v => decide (t ≤ lwm px py N (nv (S 8 v)) (nv (S 9 v)) k)) V)
theorem mkL_s {px py : Nat → Nat} {N V : Nat} {S T : sS} (e8 : T 8 = S 8) (e9 : T 9 = S 9) (t k : Nat) : mkL px py N V S t k &&& nI (mkS T V t (bel px py (k / 14) (k % 14) N)) = mkL px py N V S t (k + 1) := by
  have ev : ∀ v, lsv T (bel px py (k / 14) (k % 14) N) v = lst (nv (S 8 v)) (nv (S 9 v)) (bel px py (k / 14) (k % 14) N) := fun v => by unfold lsv; rw [e8, e9]
  have es : ∀ v, lwm px py N (nv (S 8 v)) (nv (S 9 v)) (k + 1) = min (lwm px py N (nv (S 8 v)) (nv (S 9 v)) k) (lst (nv (S 8 v)) (nv (S 9 v)) (bel px py (k / 14) (k % 14) N)) := fun v => rfl
  unfold mkL
  rw [if_neg (show ¬ (k + 1 = 0) by omega)]
  by_cases h0 : k = 0
  · subst h0
    rw [if_pos rfl, m1_and]
    congr 1
    unfold mkS
    refine mk_congr fun v _ => ?_
    rw [ev, es]
    have : lwm px py N (nv (S 8 v)) (nv (S 9 v)) 0 = 3 := rfl
    have h3 := lst_le (nv (S 8 v)) (nv (S 9 v)) (bel px py (0 / 14) (0 % 14) N)
    rw [this, Nat.min_eq_right h3]
  · rw [if_neg h0, and_nI]
    congr 1
    unfold mkS
    rw [mk_and]
    refine mk_congr fun v _ => ?_
    rw [ev, es, Bool.eq_iff_iff]
    simp only [Bool.and_eq_true, decide_eq_true_eq]
    omega
theorem tot_c {N V : Nat} {px py : Nat → Nat} {S0 S : sS} (H : HD N V S) (hS : SOK N V S) (e8 : S 8 = S0 8) (e9 : S 9 = S0 9) (hP : PC px py N S) (X : sX) : ∃ S', Cal X 87 [.ref 36] S = some (some (.int (nI (tot px py N V S0))), S') ∧ fr [37] [(25, 5), (25, 6), (25, 7)] S S' := by
  have hN := H.2.1
  have hV := H.2.2.2.1
  rw [C_X6_total, C_X7_start, cV_ok]
  obtain ⟨S1, ⟨f1, g1, g2, g3⟩, e1⟩ := loop_P (F := fun s T => Run X 87 9 [some (.ref 36), some (.int (nI s)), none, none] [] T) (P := fun s T => fr [37] [(25, 5), (25, 6), (25, 7)] S T ∧ T 25 5 = mkL px py N V S0 1 (14 * s) ∧ T 25 6 = mkL px py N V S0 2 (14 * s) ∧ T 25 7 = mkL px py N V S0 3 (14 * s)) 4 (by
    intro s hs T ⟨f, b1, b2, b3⟩
    have HT : HD N V T := HD_ag (fr_ag f (by decide)) H
    have PT : PC px py N T := by
      unfold PC
      rw [fr_cell f 5 (by decide) (by decide), fr_cell f 6 (by decide) (by decide)]
      exact hP
    obtain ⟨U, eU, fU, gU⟩ := note_c HT PT hs X
    obtain ⟨U1, ⟨fU1, c1, c2, c3⟩, eU1⟩ := loop_P (F := fun i W => Run X 87 23 [some (.ref 36), some (.int (nI s)), some (.int (nI (bel px py s i N))), some (.int (nI i))] [] W) (P := fun i W => fr [] [(25, 5), (25, 6), (25, 7)] U W ∧ W 25 5 = mkL px py N V S0 1 (14 * s + i) ∧ W 25 6 = mkL px py N V S0 2 (14 * s + i) ∧ W 25 7 = mkL px py N V S0 3 (14 * s + i)) 14 (by
      intro i hi W ⟨fW, d1, d2, d3⟩
      have fSW : fr [37] [(25, 5), (25, 6), (25, 7)] S W := fr_trans f (fr_trans (fr_mono fU (by decide) (by decide)) (fr_mono fW (by decide) (by decide)))
      have SW : SOK N V W := SOK_ag (fr_ag fSW (by decide)) hS
      have w8 : W 8 = S0 8 := (fr_cell fSW 8 (by decide) (by decide)).trans e8
      have w9 : W 9 = S0 9 := (fr_cell fSW 9 (by decide) (by decide)).trans e9
      have mt := meet_ok hN SW (bel_lt px py s i N) X
      have hq : ∀ t, mkL px py N V S0 t (14 * s + i) &&& nI (mkS W V t (bel px py s i N)) = mkL px py N V S0 t (14 * s + (i + 1)) := by
        intro t
        have := mkL_s (px := px) (py := py) (N := N) (V := V) w8 w9 t (14 * s + i)
        rw [show (14 * s + i) / 14 = s by omega, show (14 * s + i) % 14 = i by omega] at this
        exact this
      rw [d1, d2, d3, hq, hq, hq] at mt
      refine ⟨set3 W (mkL px py N V S0 1 (14 * s + (i + 1))) (mkL px py N V S0 2 (14 * s + (i + 1))) (mkL px py N V S0 3 (14 * s + (i + 1))), ⟨fr_trans fW (fr_set3 W _ _ _), set3_5 _ _ _ _, set3_6 _ _ _ _, set3_7 _ _ _ _⟩, ?_⟩
      show Run X 87 23 _ [] W = Run X 87 23 _ [] _
      have h37 : set3 W (mkL px py N V S0 1 (14 * s + (i + 1))) (mkL px py N V S0 2 (14 * s + (i + 1))) (mkL px py N V S0 3 (14 * s + (i + 1))) 37 i = nI (sta px py s i N) := by
        rw [fr_cell (fr_set3 W _ _ _) 37 (by decide) (by decide), fr_cell fW 37 (by decide) (by decide)]
        exact gU i hi
      rw [L_X6_total_23, l14, if_neg (nI_ge hi (by decide)), mt, cV_ok, ix_nI hi (by decide), h37, or_nI, bel_s, nI_1]) 0 (Nat.zero_le _) U ⟨fr_rfl, by rw [fr_fld fU 25 5 (by decide) (by decide)]; exact b1, by rw [fr_fld fU 25 6 (by decide) (by decide)]; exact b2, by rw [fr_fld fU 25 7 (by decide) (by decide)]; exact b3⟩
    refine ⟨U1, ⟨fr_trans f (fr_trans (fr_mono fU (by decide) (by decide)) (fr_mono fU1 (by decide) (by decide))), c1, c2, c3⟩, ?_⟩
    show Run X 87 9 _ [] T = Run X 87 9 _ [] U1
    have eU1' : Run X 87 23 [some (.ref 36), some (.int (nI s)), some (.int 0), some (.int 0)] [] U = Run X 87 23 [some (.ref 36), some (.int (nI s)), some (.int (nI (bel px py s 14 N))), some (.int (nI 14))] [] U1 := by
      have e0 := bel_0 px py s N
      simp only [e0] at eU1
      exact eU1
    rw [L_X6_total_9, l4, if_neg (nI_ge hs (by decide)), eU, cV_ok, eU1', L_X6_total_23, l14, if_pos (nI_le (Nat.le_refl _) (by decide)), nI_1]) 0 (Nat.zero_le _) (up2 (up2 (up2 S 25 5 (-1)) 25 6 (-1)) 25 7 (-1)) ⟨fr_upF (fr_upF (fr_upF fr_rfl (by decide)) (by decide)) (by decide), rfl, rfl, rfl⟩
  refine ⟨S1, Eq.trans e1 ?_, f1⟩
  show Run X 87 9 _ [] S1 = _
  have hm : ∀ t, mkL px py N V S0 t (14 * 4) = nI (mk (fun v => decide (t ≤ lwm px py N (nv (S0 8 v)) (nv (S0 9 v)) 56)) V) := fun t => rfl
  have hlt : ∀ P, mk P V < 2 ^ 24 := fun P => Nat.lt_of_lt_of_le (mk_lt P V) (Nat.pow_le_pow_right (by decide) hV)
  rw [L_X6_total_9, l4, if_pos (nI_le (Nat.le_refl _) (by decide)), C_X7_total, g1, hm, swar (hlt _), cI_ok, g2, hm, swar (hlt _), cI_ok, g3, hm, swar (hlt _), cI_ok, cI_ok, nI_add, nI_add, pc_mk hV, pc_mk hV, pc_mk hV, sm3 (f := fun v => lwm px py N (nv (S0 8 v)) (nv (S0 9 v)) 56) (fun v _ => lwm_le _ _ _ _ _ _)]
  rfl
