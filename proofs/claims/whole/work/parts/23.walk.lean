/-! rows, packed; the walk along a row -/
def pk : List Nat → Nat
  | [] => 0
  | a :: l => a + 8 * pk l
theorem rpk_lt : ∀ (r : List Nat), (∀ a ∈ r, a < 8) → pk r < 8 ^ r.length := by
  intro r
  induction r with
  | nil => intro _; decide
  | cons a l ih =>
    intro h
    have h1 := ih (fun x hx => h x (List.mem_cons_of_mem _ hx))
    have h2 := h a List.mem_cons_self
    show a + 8 * pk l < 8 ^ (l.length + 1)
    rw [Nat.pow_succ]
    omega
theorem pk_at : ∀ (r : List Nat) (i : Nat), (∀ a ∈ r, a < 8) → pk r / 8 ^ i % 8 = r.getD i 0 := by
  intro r
  induction r with
  | nil => intro i _; simp [pk]
  | cons a l ih =>
    intro i h
    have h2 := h a List.mem_cons_self
    cases i with
    | zero =>
      show (a + 8 * pk l) / 1 % 8 = a
      omega
    | succ i =>
      have h1 := ih i (fun x hx => h x (List.mem_cons_of_mem _ hx))
      show (a + 8 * pk l) / 8 ^ (i + 1) % 8 = l.getD i 0
      rw [Nat.pow_succ, Nat.mul_comm (8 ^ i) 8, ← Nat.div_div_eq_div_mul, show (a + 8 * pk l) / 8 = pk l by omega]
      exact h1
theorem pk_lt7 {r : List Nat} (h : ∀ a ∈ r, a < 8) (hl : r.length ≤ 7) : pk r < 2097152 := by
  have h1 := rpk_lt r h
  have h2 : 8 ^ r.length ≤ 8 ^ 7 := Nat.pow_le_pow_right (by decide) hl
  omega
theorem at_pk {R i : Nat} (h : R < 2097152) (hi : i ≤ 7) (X : sX) (S : sS) : Cal X 44 [.int (nI R), .int (nI i)] S = some (some (.int (nI (R / 8 ^ i % 8))), S) := by
  rw [C_X2_at, l3, pk_mul, oUshr_nI (by omega) (by omega), l7, and_nI, show (7 : Nat) = 2 ^ 3 - 1 from rfl, Nat.and_two_pow_sub_one_eq_mod, Nat.pow_mul]
theorem at_ok {r : List Nat} (h : ∀ a ∈ r, a < 8) (hl : r.length ≤ 7) {i : Nat} (hi : i ≤ 7) (X : sX) (S : sS) : Cal X 44 [.int (nI (pk r)), .int (nI i)] S = some (some (.int (nI (r.getD i 0))), S) := by
  rw [at_pk (pk_lt7 h hl) hi, pk_at r i h]
/-- those ahead of place c, as bits -/
def pre (r : List Nat) : Nat → Nat
  | 0 => 0
  | c + 1 => pre r c ||| 2 ^ (r.getD c 0)
def RowOK (N : Nat) (r : List Nat) : Prop := r.length = N ∧ r.Nodup ∧ ∀ a ∈ r, a < N
theorem getD_mem {r : List Nat} {i : Nat} (h : i < r.length) : r.getD i 0 ∈ r := by
  rw [List.getD_eq_getElem?_getD, List.getElem?_eq_getElem h]
  exact List.getElem_mem h
theorem row_lt8 {N : Nat} {r : List Nat} (h : RowOK N r) (hN : N ≤ 7) : ∀ a ∈ r, a < 8 := fun a ha => by have := h.2.2 a ha; omega
theorem row_at_lt {N : Nat} {r : List Nat} (h : RowOK N r) {i : Nat} (hi : i < N) : r.getD i 0 < N := h.2.2 _ (getD_mem (by rw [h.1]; exact hi))
theorem pre_bit (r : List Nat) : ∀ c i, (pre r c).testBit i = true ↔ ∃ j, j < c ∧ r.getD j 0 = i := by
  intro c
  induction c with
  | zero => intro i; simp [pre]
  | succ c ih =>
    intro i
    show (pre r c ||| 2 ^ (r.getD c 0)).testBit i = true ↔ _
    rw [Nat.testBit_or, Bool.or_eq_true, ih]
    constructor
    · rintro (⟨j, h1, h2⟩ | h)
      · exact ⟨j, by omega, h2⟩
      · refine ⟨c, by omega, ?_⟩
        rw [Nat.testBit_two_pow] at h
        simpa using h
    · rintro ⟨j, h1, h2⟩
      rcases Nat.lt_or_ge j c with q | q
      · exact Or.inl ⟨j, q, h2⟩
      · right
        rw [show c = j by omega, h2]
        simp
theorem pre_lt {N : Nat} {r : List Nat} (h : RowOK N r) {c : Nat} (hc : c ≤ N) : pre r c < 2 ^ N := by
  refine Nat.lt_pow_two_of_testBit _ fun i hi => ?_
  cases hb : (pre r c).testBit i with
  | false => rfl
  | true =>
    obtain ⟨j, h1, h2⟩ := (pre_bit r c i).mp hb
    have := row_at_lt h (i := j) (by omega)
    omega
theorem firstOnes_ok {r : List Nat} (h : ∀ a ∈ r, a < 8) (hl : r.length ≤ 7) {c : Nat} (hc : c ≤ 7) (X : sX) (S : sS) : Cal X 47 [.int (nI (pk r)), .int (nI c)] S = some (some (.int (nI (pre r c))), S) := by
  rw [C_X2_firstOnes]
  have key := loop_eq (F := fun k => Run X 47 4 [some (.int (nI (pk r))), some (.int (nI c)), some (.int (nI (pre r k))), some (.int (nI k))] [] S) c 0 (by
    intro k _ hk
    show Run X 47 4 _ [] S = Run X 47 4 _ [] S
    have h8 : r.getD k 0 < 8 := by
      rcases Nat.lt_or_ge k r.length with q | q
      · exact h _ (getD_mem q)
      · rw [List.getD_eq_getElem?_getD, List.getElem?_eq_none q]; decide
    rw [L_X2_firstOnes_4, if_neg (nI_ge hk (by omega)), at_ok h hl (by omega), cI_ok, l1, oShl_1 (by omega), or_nI, nI_add]
    rfl) (Nat.zero_le _)
  refine Eq.trans key ?_
  rw [L_X2_firstOnes_4, if_pos (nI_le (Nat.le_refl _) (by omega))]
/-- the least wrong by the first k cuts -/
def ctm (y n : Nat) (r : List Nat) : Nat → Nat
  | 0 => 3
  | k + 1 => min (ctm y n r k) (lst y n (pre r k))
theorem ctm_le (y n : Nat) (r : List Nat) : ∀ k, ctm y n r k ≤ 3
  | 0 => Nat.le_refl _
  | k + 1 => Nat.le_trans (Nat.min_le_left _ _) (ctm_le y n r k)
/-- WRONG of a vote in a row -/
def ctw (y n : Nat) (r : List Nat) : Nat := ctm y n r (r.length + 1)
def cts (S : sS) (r : List Nat) (k v : Nat) : Nat := ctm (nv (S 8 v)) (nv (S 9 v)) r k
def mkC (S : sS) (V : Nat) (r : List Nat) (k t : Nat) : Nat := mk (fun v => decide (t ≤ cts S r k v)) V
def set3 (S : sS) (a b c : Int32) : sS := up2 (up2 (up2 S 25 5 a) 25 6 b) 25 7 c
theorem set3_set3 (S : sS) (a b c a' b' c' : Int32) : set3 (set3 S a b c) a' b' c' = set3 S a' b' c' := by
  funext k j
  unfold set3
  by_cases hk : k = 25
  · subst hk
    simp only [up2_at]
    unfold upd
    by_cases h7 : j = 7
    · simp [h7]
    · by_cases h6 : j = 6
      · simp [h6]
      · by_cases h5 : j = 5
        · simp [h5]
        · simp [h5, h6, h7]
  · simp only [up2_ne _ _ _ hk]
theorem set3_off (S : sS) (a b c : Int32) : off [25] S (set3 S a b c) := off_up2 (off_up2 (off_up2 off_rfl (by decide)) (by decide)) (by decide)
theorem set3_5 (S : sS) (a b c : Int32) : set3 S a b c 25 5 = a := by simp [set3, up2_at, upd]
theorem set3_6 (S : sS) (a b c : Int32) : set3 S a b c 25 6 = b := by simp [set3, up2_at, upd]
theorem set3_7 (S : sS) (a b c : Int32) : set3 S a b c 25 7 = c := by simp [set3, up2_at, upd]
theorem set3_x (S : sS) (a b c : Int32) {j : Nat} (h5 : j ≠ 5) (h6 : j ≠ 6) (h7 : j ≠ 7) : set3 S a b c 25 j = S 25 j := by simp [set3, up2_at, upd, h5, h6, h7]
theorem SOK_off {N V : Nat} {S S' : sS} {L : List Nat} (h : SOK N V S) (ho : off L S S') (h8 : 8 ∉ L := by decide) (h9 : 9 ∉ L := by decide) (h26 : 26 ∉ L := by decide) (h27 : 27 ∉ L := by decide) (h28 : 28 ∉ L := by decide) : SOK N V S' := by
  unfold SOK
  rw [ho 26 h26, ho 27 h27, ho 28 h28, mkS_off ho h8 h9]
  exact h
theorem meet_ok {N V : Nat} {S : sS} (hN : N ≤ 7) (h : SOK N V S) {set : Nat} (hs : set < 2 ^ N) (X : sX) : Cal X 96 [.ref 25, .int (nI set)] S = some (none, set3 S (S 25 5 &&& nI (mkS S V 1 set)) (S 25 6 &&& nI (mkS S V 2 set)) (S 25 7 &&& nI (mkS S V 3 set))) := by
  have h1 := pow_le128 hN
  obtain ⟨a, b, c⟩ := h set hs
  rw [C_X7_meet, if_neg (nI_pos (by omega)), l128, if_neg (nI_ge (by omega) (by omega)), ix_nI (by omega) (by decide), ix_nI (by omega) (by decide), ix_nI (by omega) (by decide), a, b, c]
  rfl
theorem mkC_meet {S T : sS} (V : Nat) (r : List Nat) (k t : Nat) (hT : lsv T = lsv S) : nI (mkC S V r k t) &&& nI (mkS T V t (pre r k)) = nI (mkC S V r (k + 1) t) := by
  rw [and_nI]
  unfold mkC mkS
  rw [mk_and]
  congr 1
  refine mk_congr fun i _ => ?_
  rw [hT]
  show (decide (t ≤ cts S r k i) && decide (t ≤ lsv S (pre r k) i)) = decide (t ≤ min (cts S r k i) (lsv S (pre r k) i))
  rw [Bool.eq_iff_iff]
  simp only [Bool.and_eq_true, decide_eq_true_eq]
  omega
theorem lst_sym {N y n : Nat} (hy : y < 2 ^ N) (hn : n < 2 ^ N) (hN : N ≤ 7) (hd : y &&& n = 0) : lst y n (2 ^ N - 1) = lst y n 0 := by
  have h128 := pow_le128 hN
  have e1 : (2 ^ N - 1) &&& n = n := by
    rw [Nat.and_comm, Nat.and_two_pow_sub_one_eq_mod, Nat.mod_eq_of_lt hn]
  have e2 : andn y (2 ^ N - 1) = 0 := by
    unfold andn
    rw [Nat.and_two_pow_sub_one_eq_mod, Nat.mod_eq_of_lt hy, Nat.xor_self]
  have e3 : andn y 0 = y := by
    unfold andn
    rw [Nat.and_zero, Nat.xor_zero]
  have e4 : vt y n = pc 7 y + pc 7 n := by
    unfold vt pc
    rw [← sm_add]
    refine sm_congr fun i _ => ?_
    have := congrArg (fun z => z.testBit i) hd
    simp only [Nat.testBit_and, Nat.zero_testBit] at this
    rw [Nat.testBit_or]
    cases hy' : y.testBit i <;> cases hn' : n.testBit i <;> simp_all
  have e5 : pc 7 0 = 0 := by decide
  unfold lst wl
  rw [e1, e2, e3, e4, Nat.zero_and, e5]
  omega
theorem nodup_sub : ∀ (l l' : List Nat), l.Nodup → l ⊆ l' → l.length ≤ l'.length := by
  intro l
  induction l with
  | nil => intro l' _ _; exact Nat.zero_le _
  | cons a l ih =>
    intro l' hn hs
    have ha : a ∈ l' := hs List.mem_cons_self
    have hn' := List.nodup_cons.mp hn
    have h1 := ih (l'.erase a) hn'.2 (fun x hx => by
      have hne : x ≠ a := fun e => hn'.1 (e ▸ hx)
      exact (List.mem_erase_of_ne hne).mpr (hs (List.mem_cons_of_mem _ hx)))
    rw [List.length_erase_of_mem ha] at h1
    have h2 : 0 < l'.length := List.length_pos_of_mem ha
    show l.length + 1 ≤ l'.length
    omega
theorem pre_full {N : Nat} {r : List Nat} (h : RowOK N r) : pre r N = 2 ^ N - 1 := by
  apply Nat.eq_of_testBit_eq
  intro i
  rw [Nat.testBit_two_pow_sub_one]
  rcases Nat.lt_or_ge i N with q | q
  · rw [decide_eq_true q]
    have hm : i ∈ r := by
      rcases Nat.lt_or_ge 0 1 with _ | _
      · apply Classical.byContradiction
        intro hni
        have hsub : r ⊆ (List.range N).erase i := by
          intro a ha
          have h1 := h.2.2 a ha
          have hne : a ≠ i := fun e => hni (e ▸ ha)
          exact (List.mem_erase_of_ne hne).mpr (List.mem_range.mpr h1)
        have hlen := nodup_sub r _ h.2.1 hsub
        rw [List.length_erase_of_mem (List.mem_range.mpr q), List.length_range, h.1] at hlen
        omega
      · omega
    obtain ⟨j, hj⟩ := List.getElem?_of_mem hm
    have hl := (List.getElem?_eq_some_iff.mp hj).1
    exact (pre_bit r N i).mpr ⟨j, by rw [← h.1]; exact hl, by rw [List.getD_eq_getElem?_getD, hj]; rfl⟩
  · have h1 : ¬ i < N := by omega
    rw [decide_eq_false h1]
    exact Nat.testBit_lt_two_pow (Nat.lt_of_lt_of_le (pre_lt h (Nat.le_refl N)) (Nat.pow_le_pow_right (by decide) q))
theorem ctm_first (y n : Nat) (r : List Nat) : ∀ k, ctm y n r (k + 1) ≤ lst y n 0
  | 0 => Nat.min_le_right _ _
  | k + 1 => Nat.le_trans (Nat.min_le_left _ _) (ctm_first y n r k)
/-- the last cut parts as the first one does -/
theorem ctm_last {N y n : Nat} {r : List Nat} (h : RowOK N r) (hN : N ≤ 7) (hy : y < 2 ^ N) (hn : n < 2 ^ N) (hd : y &&& n = 0) : ctm y n r (max N 1) = ctw y n r := by
  unfold ctw
  rw [h.1]
  cases N with
  | zero => rfl
  | succ N =>
    rw [show max (N + 1) 1 = N + 1 by omega]
    show ctm y n r (N + 1) = min (ctm y n r (N + 1)) (lst y n (pre r (N + 1)))
    rw [pre_full h, lst_sym hy hn hN hd]
    have := ctm_first y n r N
    omega
def mkW (S : sS) (V : Nat) (r : List Nat) (t : Nat) : Nat := mk (fun v => decide (t ≤ ctw (nv (S 8 v)) (nv (S 9 v)) r)) V
theorem walk_ok {N V : Nat} {S : sS} (h : HD N V S) (hS : SOK N V S) {r : List Nat} (hr : RowOK N r) (X : sX) : Cal X 97 [.ref 25, .int (nI (pk r))] S = some (none, set3 S (nI (mkW S V r 1)) (nI (mkW S V r 2)) (nI (mkW S V r 3))) := by
  obtain ⟨h1, h2, h3, h4, h5⟩ := id h
  have h128 := pow_le128 h2
  have hp : 0 < 2 ^ N := Nat.two_pow_pos N
  have hr8 := row_lt8 hr h2
  have ho : ∀ a b c, off [25] S (set3 S a b c) := set3_off S
  have hm0 : ∀ t, -1 &&& nI (mkS S V t 0) = nI (mkC S V r 1 t) := by
    intro t
    rw [m1_and]
    unfold mkS mkC
    congr 1
    refine mk_congr fun i _ => ?_
    have e : cts S r 1 i = lsv S 0 i := by
      show min 3 (lst _ _ 0) = lst _ _ 0
      have := lst_le (nv (S 8 i)) (nv (S 9 i)) 0
      omega
    rw [e]
  have e0 : Cal X 95 [.ref 25] S = some (none, set3 S (-1) (-1) (-1)) := C_X7_start X S
  have hSk : ∀ a b c, SOK N V (set3 S a b c) := fun a b c => SOK_off hS (ho a b c)
  have hls : ∀ a b c, lsv (set3 S a b c) = lsv S := fun a b c => lsv_off (ho a b c)
  have hmS : ∀ a b c, mkS (set3 S a b c) = mkS S := fun a b c => mkS_off (ho a b c)
  rw [C_X7_walk, e0, cV_ok, l0, meet_ok h2 (hSk _ _ _) hp, cV_ok, set3_set3, set3_5, set3_6, set3_7, hmS, hm0, hm0, hm0]
  have fin : ∀ t, nI (mkC S V r (max N 1) t) = nI (mkW S V r t) := by
    intro t
    unfold mkC mkW
    congr 1
    refine mk_congr fun i hi => ?_
    obtain ⟨g1, g2, g3⟩ := h5 i hi
    show decide (t ≤ ctm _ _ r (max N 1)) = _
    rw [ctm_last hr h2 g1 g2 g3]
  have key := loop_eq (F := fun k => Run X 97 13 [some (.ref 25), some (.int (nI (pk r))), some (.int (nI (pre r k))), some (.int (nI k))] [] (set3 S (nI (mkC S V r (k + 1) 1)) (nI (mkC S V r (k + 1) 2)) (nI (mkC S V r (k + 1) 3)))) (max N 1 - 1) 0 (by
    intro k _ hk
    show Run X 97 13 _ [] _ = Run X 97 13 _ [] _
    have hlt := row_at_lt hr (i := k) (by omega)
    have hpl := pre_lt hr (c := k + 1) (by omega)
    rw [L_X7_walk_13, C_X1_members, cI_ok, ho _ _ _ 1 (by decide), h1, l1, pk_sub (by omega), if_neg (nI_ge (by omega) (by omega)), at_ok hr8 (by rw [hr.1]; exact h2) (by omega), cI_ok, oShl_1 (by omega), or_nI, nI_add]
    have e1 : pre r k ||| 2 ^ r.getD k 0 = pre r (k + 1) := rfl
    rw [e1, meet_ok h2 (hSk _ _ _) hpl, cV_ok, set3_set3, set3_5, set3_6, set3_7, mkC_meet V r _ _ (hls _ _ _), mkC_meet V r _ _ (hls _ _ _), mkC_meet V r _ _ (hls _ _ _)]) (Nat.zero_le _)
  refine Eq.trans key ?_
  rw [show max N 1 - 1 + 1 = max N 1 by omega, fin, fin, fin, L_X7_walk_13, C_X1_members, cI_ok, ho _ _ _ 1 (by decide), h1]
  rw [if_pos]
  cases N with
  | zero => decide
  | succ N => rw [l1, pk_sub (by omega)]; exact nI_le (by omega) (by omega)
