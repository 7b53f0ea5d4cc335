/-! single bits -/
def bI (b : Bool) : Int32 := bif b then 1 else 0
theorem bI_nI (b : Bool) : nI b.toNat = bI b := by cases b <;> rfl
theorem bI_0 (b : Bool) : bI b = 0 ↔ b = false := by cases b <;> decide
theorem bI_1 (b : Bool) : bI b = 1 ↔ b = true := by cases b <;> decide
theorem bit_n (w k : Nat) : (w / 2 ^ k) &&& 1 = (w.testBit k).toNat := by
  rw [Nat.and_one_is_mod, Nat.toNat_testBit]
theorem sbit {w k : Nat} (hw : w < 2 ^ 31) (hk : k < 32) : oShr (nI w) (nI k) &&& 1 = bI (w.testBit k) := by
  rw [oShr_nI hw hk, l1, and_nI, bit_n, bI_nI]
theorem ubit {w k : Nat} (hw : w < 2 ^ 32) (hk : k < 32) : oUshr (nI w) (nI k) &&& 1 = bI (w.testBit k) := by
  rw [oUshr_nI hw hk, l1, and_nI, bit_n, bI_nI]
theorem sbit2 {y n a b : Nat} (hy : y < 2 ^ 31) (hn : n < 2 ^ 31) (ha : a < 32) (hb : b < 32) : (oShr (nI y) (nI a) &&& oShr (nI n) (nI b)) &&& 1 = bI (y.testBit a && n.testBit b) := by
  rw [oShr_nI hy ha, oShr_nI hn hb, and_nI, l1, and_nI, Nat.and_one_is_mod, ← bI_nI]
  have := Nat.toNat_testBit ((y / 2 ^ a) &&& (n / 2 ^ b)) 0
  rw [Nat.pow_zero, Nat.div_one] at this
  rw [← this, Nat.testBit_and, Nat.testBit_div_two_pow, Nat.testBit_div_two_pow, Nat.zero_add, Nat.zero_add]
theorem has_ok {w k : Nat} (hw : w < 2 ^ 32) (hk : k < 32) (X : sX) (S : sS) : Cal X 148 [.int (nI w), .int (nI k)] S = some (some (.int (bI (w.testBit k))), S) := by
  rw [C_X8_has, ubit hw hk]
  cases w.testBit k
  · rw [if_pos (show bI false = 0 from rfl)]; rfl
  · rw [if_neg (by decide)]; rfl
theorem bits_ok {w : Nat} (hw : w < 2 ^ 31) (X : sX) (S : sS) : Cal X 152 [.int (nI w)] S = some (some (.int (nI (pc 31 w))), S) := by
  rw [C_X9_bits]
  have key := loop_eq (F := fun k => Run X 152 4 [some (.int (nI w)), some (.int (nI (pc k w))), some (.int (nI k))] [] S) 31 0 (by
    intro k _ hk
    show Run X 152 4 _ [] S = Run X 152 4 _ [] S
    rw [L_X9_bits_4, l31, if_neg (nI_ge hk (by decide)), sbit hw (by omega), ← bI_nI, nI_add, nI_1]
    rfl) (Nat.zero_le _)
  refine Eq.trans key ?_
  rw [L_X9_bits_4, l31, if_pos (nI_le (Nat.le_refl _) (by omega))]
theorem pc_hi {n m k : Nat} (h : k < 2 ^ n) (hm : n ≤ m) : pc m k = pc n k := by
  obtain ⟨d, rfl⟩ : ∃ d, m = n + d := ⟨m - n, by omega⟩
  unfold pc
  rw [sm_split]
  have : sm (fun i => (k.testBit (n + i)).toNat) d = 0 := by
    rw [← sm_zero d]
    refine sm_congr fun i _ => ?_
    rw [Nat.testBit_lt_two_pow (Nat.lt_of_lt_of_le h (Nat.pow_le_pow_right (by decide : 0 < 2) (by omega)))]
    rfl
  omega
theorem mbits {w : Nat} (hw : w < 128) (X : sX) (S : sS) : Cal X 152 [.int (nI w)] S = some (some (.int (nI (pc 7 w))), S) := by
  rw [bits_ok (by omega), pc_hi (n := 7) (by omega) (by decide)]
/-! packed rows -/
theorem pk_app : ∀ (a b : List Nat), pk (a ++ b) = pk a + 8 ^ a.length * pk b := by
  intro a b
  induction a with
  | nil => simp [pk]
  | cons x l ih =>
    show x + 8 * pk (l ++ b) = x + 8 * pk l + 8 ^ (l.length + 1) * pk b
    rw [ih, Nat.pow_succ, Nat.mul_add, Nat.mul_comm (8 ^ l.length) 8, Nat.mul_assoc, Nat.add_assoc]
theorem pk_td : ∀ (r : List Nat) (i : Nat), (∀ a ∈ r, a < 8) → pk r % 8 ^ i = pk (r.take i) ∧ pk r / 8 ^ i = pk (r.drop i) := by
  intro r
  induction r with
  | nil => intro i _; simp [pk]
  | cons a l ih =>
    intro i h
    have h2 := h a List.mem_cons_self
    cases i with
    | zero => simp [pk, Nat.mod_one]
    | succ i =>
      obtain ⟨h3, h4⟩ := ih i (fun x hx => h x (List.mem_cons_of_mem _ hx))
      have e1 : (a + 8 * pk l) % 8 = a := by omega
      have e2 : (a + 8 * pk l) / 8 = pk l := by omega
      rw [Nat.pow_succ, Nat.mul_comm (8 ^ i) 8]
      constructor
      · show (a + 8 * pk l) % (8 * 8 ^ i) = a + 8 * pk (l.take i)
        rw [Nat.mod_mul, e1, e2, h3]
      · show (a + 8 * pk l) / (8 * 8 ^ i) = pk (l.drop i)
        rw [← Nat.div_div_eq_div_mul, e2, h4]
theorem p8 (i : Nat) : 2 ^ (3 * i) = 8 ^ i := by rw [Nat.pow_mul]
theorem p83 (i : Nat) : 2 ^ (3 * i + 3) = 8 ^ (i + 1) := by rw [show 3 * i + 3 = 3 * (i + 1) by omega, p8]
theorem p8_le {i : Nat} (h : i ≤ 7) : 8 ^ i ≤ 2097152 := Nat.pow_le_pow_right (by decide : 0 < 8) h
theorem with_ok {r : List Nat} (h : ∀ a ∈ r, a < 8) (hl : r.length ≤ 7) {i m : Nat} (hi : i ≤ r.length) (hm : m < 8) (X : sX) (S : sS) : Cal X 45 [.int (nI (pk r)), .int (nI i), .int (nI m)] S = some (some (.int (nI (pk (r.take i ++ m :: r.drop i)))), S) := by
  have hp := pk_lt7 h hl
  have h8 := p8_le (i := i) (by omega)
  have h80 : 0 < 8 ^ i := Nat.pow_pos (by decide)
  obtain ⟨e1, e2⟩ := pk_td r i h
  have hd : pk r / 8 ^ i < 8 ^ (7 - i) := by
    rw [Nat.div_lt_iff_lt_mul h80, ← Nat.pow_add, show 7 - i + i = 7 by omega]
    exact hp
  have hm2 : pk r / 8 ^ i * 2 ^ (3 * i + 3) < 2 ^ 32 := by
    rw [p83]
    have : pk r / 8 ^ i * 8 ^ (i + 1) < 8 ^ (7 - i) * 8 ^ (i + 1) := Nat.mul_lt_mul_of_pos_right hd (Nat.pow_pos (by decide))
    rw [← Nat.pow_add, show 7 - i + (i + 1) = 8 by omega] at this
    omega
  have hm1 : m * 2 ^ (3 * i) < 2 ^ 32 := by
    rw [p8]
    have : m * 8 ^ i ≤ 8 * 2097152 := Nat.mul_le_mul (by omega) h8
    omega
  rw [C_X2_with, l3, pk_mul, l1, oShl_1 (by omega), pk_sub (Nat.one_le_two_pow), and_nI, Nat.and_two_pow_sub_one_eq_mod, oShl_nI (by omega) hm1, oUshr_nI (by omega) (by omega), nI_add, p8, oShl_nI (by omega) hm2, or_nI, or_nI, p83]
  refine congrArg (fun z => some (some (Value.int (nI z)), S)) ?_
  have lo : pk r % 8 ^ i < 2 ^ (3 * i) := by rw [p8]; exact Nat.mod_lt _ h80
  have f1 : pk r % 8 ^ i ||| m * 8 ^ i = pk r % 8 ^ i + m * 8 ^ i := by
    have := Nat.two_pow_add_eq_or_of_lt lo m
    rw [p8] at this
    rw [Nat.or_comm, Nat.mul_comm m, ← this, Nat.add_comm]
  have lo2 : pk r % 8 ^ i + m * 8 ^ i < 2 ^ (3 * i + 3) := by
    rw [p8] at lo
    rw [p83, Nat.pow_succ]
    have : m * 8 ^ i ≤ 7 * 8 ^ i := Nat.mul_le_mul_right _ (by omega)
    omega
  have f2 := Nat.two_pow_add_eq_or_of_lt lo2 (pk r / 8 ^ i)
  rw [p83] at f2
  rw [f1, Nat.or_comm, Nat.mul_comm (pk r / 8 ^ i), ← f2, pk_app, List.length_take, Nat.min_eq_left hi, e1, e2]
  show _ = pk (r.take i) + 8 ^ i * (m + 8 * pk (r.drop i))
  rw [Nat.mul_add, Nat.pow_succ, Nat.mul_assoc, Nat.mul_comm m]
  omega
theorem without_ok {r : List Nat} (h : ∀ a ∈ r, a < 8) (hl : r.length ≤ 7) {i : Nat} (hi : i < r.length) (X : sX) (S : sS) : Cal X 46 [.int (nI (pk r)), .int (nI i)] S = some (some (.int (nI (pk (r.take i ++ r.drop (i + 1))))), S) := by
  have hp := pk_lt7 h hl
  have h80 : 0 < 8 ^ i := Nat.pow_pos (by decide)
  obtain ⟨e1, _⟩ := pk_td r i h
  obtain ⟨_, e2⟩ := pk_td r (i + 1) h
  have hm2 : pk r / 8 ^ (i + 1) * 2 ^ (3 * i) < 2 ^ 32 := by
    rw [p8]
    have : pk r / 8 ^ (i + 1) * 8 ^ i ≤ pk r / 8 ^ (i + 1) * 8 ^ (i + 1) := Nat.mul_le_mul_left _ (Nat.pow_le_pow_right (by decide) (by omega))
    have := Nat.div_mul_le_self (pk r) (8 ^ (i + 1))
    omega
  rw [C_X2_without, l3, pk_mul, l1, oShl_1 (by omega), pk_sub (Nat.one_le_two_pow), and_nI, Nat.and_two_pow_sub_one_eq_mod, nI_add, oUshr_nI (by omega) (by omega), p83, oShl_nI (by omega) hm2, or_nI, p8]
  refine congrArg (fun z => some (some (Value.int (nI z)), S)) ?_
  have lo : pk r % 8 ^ i < 2 ^ (3 * i) := by rw [p8]; exact Nat.mod_lt _ h80
  have := Nat.two_pow_add_eq_or_of_lt lo (pk r / 8 ^ (i + 1))
  rw [p8] at this
  rw [Nat.or_comm, Nat.mul_comm (pk r / 8 ^ (i + 1)), ← this, pk_app, List.length_take, Nat.min_eq_left (by omega), e1, e2]
  omega
theorem gd_l (a b : List Nat) {j : Nat} (h : j < a.length) : (a ++ b).getD j 0 = a.getD j 0 := by
  rw [List.getD_eq_getElem?_getD, List.getElem?_append_left h, ← List.getD_eq_getElem?_getD]
theorem gd_r (a b : List Nat) {j : Nat} (h : a.length ≤ j) : (a ++ b).getD j 0 = b.getD (j - a.length) 0 := by
  rw [List.getD_eq_getElem?_getD, List.getElem?_append_right h, ← List.getD_eq_getElem?_getD]
/-! apart, put -/
theorem vote_y {N V : Nat} {S : sS} (H : HD N V S) {v : Nat} (hv : v < V) : ∃ y n, y < 128 ∧ n < 128 ∧ y < 2 ^ N ∧ n < 2 ^ N ∧ y &&& n = 0 ∧ S 8 v = nI y ∧ S 9 v = nI n ∧ nv (S 8 v) = y ∧ nv (S 9 v) = n := by
  obtain ⟨g1, g2, g3⟩ := H.2.2.2.2 v hv
  have := pow_le128 H.2.1
  exact ⟨_, _, by omega, by omega, g1, g2, g3, (nI_nv _).symm, (nI_nv _).symm, rfl, rfl⟩
def apn (S : sS) (a b v : Nat) : Nat := ((nv (S 8 v)).testBit a && (nv (S 9 v)).testBit b || (nv (S 9 v)).testBit a && (nv (S 8 v)).testBit b).toNat
theorem c_apart {S : sS} (R : Rel S) (X : sX) (p1 p2 : Int32) : Two (Cal X 111 [.ref 0, .int p1, .int p2] S) (fun S => Cal X 167 [.ref 43, .int p1, .int p2] S) := by
  obtain ⟨N, V, K, H, B, E, I, A, C, M⟩ := id R
  obtain ⟨HD0, k1, k2, m1, m2, m3, k3, k4, k5⟩ := id H
  have hN := HD0.2.1
  have hV := HD0.2.2.2.1
  rcases pk_ix2 p1 (n := N) (by omega) with q | ⟨a, ha, rfl⟩
  · rw [C_X8_apart, isM_n HD0 q, cI_ok, if_pos rfl, rf_1, cI_ok]
    refine two_rf R ?_
    show Cal X 167 _ (rfu S 1) = _
    rw [C_X9_apart, mM_n (S := rfu S 1) m1 q, cI_ok, if_pos rfl, no_1, cI_ok]
  · rcases pk_ix2 p2 (n := N) (by omega) with q | ⟨b, hb, rfl⟩
    · rw [C_X8_apart, isM_y HD0 ha, cI_ok, if_neg (by decide), isM_n HD0 q, cI_ok, if_pos rfl, rf_1, cI_ok]
      refine two_rf R ?_
      show Cal X 167 _ (rfu S 1) = _
      rw [C_X9_apart, mM_y (S := rfu S 1) m1 (by omega) ha, cI_ok, if_neg (by decide), mM_n (S := rfu S 1) m1 q, cI_ok, if_pos rfl, no_1, cI_ok]
    · have key := loop_eq (F := fun k => Run X 111 33 [some (.ref 0), some (.int (nI a)), some (.int (nI b)), some (.int (nI (sm (apn S a b) k))), some (.int (nI k)), none, none] [] S) V 0 (by
        intro k _ hk
        obtain ⟨y, n, hy, hn, -, -, hyn, e8, e9, e8', e9'⟩ := vote_y HD0 hk
        have e : sm (apn S a b) (k + 1) = sm (apn S a b) k + apn S a b k := rfl
        show Run X 111 33 _ [] S = Run X 111 33 _ [] S
        rw [e, L_X8_apart_33, C_X1_votes, cI_ok, HD0.2.2.1, if_neg (nI_ge hk (by omega))]
        unfold apn
        rw [e8', e9']
        simp only [yesOf_ok HD0 hk, noOf_ok HD0 hk, e8, e9, cI_ok, has_ok (show y < 2 ^ 32 by omega) (show a < 32 by omega), has_ok (show n < 2 ^ 32 by omega) (show a < 32 by omega), has_ok (show y < 2 ^ 32 by omega) (show b < 32 by omega), has_ok (show n < 2 ^ 32 by omega) (show b < 32 by omega), L_X8_apart_121, bI_0]
        rw [nI_1]
        cases y.testBit a <;> cases n.testBit b <;> cases n.testBit a <;> cases y.testBit b <;> simp [nI_1]) (Nat.zero_le _)
      have key2 := loop_eq (F := fun k => Run X 167 27 [some (.ref 43), some (.int (nI a)), some (.int (nI b)), some (.int (nI (sm (apn S a b) k))), some (.int (nI k))] [] S) V 0 (by
        intro k _ hk
        obtain ⟨y, n, hy, hn, -, -, hyn, e8, e9, e8', e9'⟩ := vote_y HD0 hk
        obtain ⟨g1, g2, -⟩ := k4 k hk
        have e : sm (apn S a b) (k + 1) = sm (apn S a b) k + apn S a b k := rfl
        show Run X 167 27 _ [] S = Run X 167 27 _ [] S
        rw [e, L_X9_apart_27, m2, if_neg (nI_ge hk (by omega))]
        simp only [ix_nI (show k < 24 by omega) (show 24 < 2 ^ 31 by decide), g1, g2, e8, e9, sbit2 (show y < 2 ^ 31 by omega) (show n < 2 ^ 31 by omega) (show a < 32 by omega) (show b < 32 by omega), sbit2 (show n < 2 ^ 31 by omega) (show y < 2 ^ 31 by omega) (show a < 32 by omega) (show b < 32 by omega), ← bI_nI, nI_add, nI_1]
        unfold apn
        rw [e8', e9']
        have hd := congrArg (fun z => z.testBit a) hyn
        simp only [Nat.testBit_and, Nat.zero_testBit] at hd
        revert hd
        cases y.testBit a <;> cases n.testBit b <;> cases n.testBit a <;> cases y.testBit b <;> simp) (Nat.zero_le _)
      rw [C_X8_apart, isM_y HD0 ha, cI_ok, if_neg (by decide), isM_y HD0 hb, cI_ok, if_neg (by decide)]
      refine ⟨nI (sm (apn S a b) V), S, S, Eq.trans key ?_, ?_, R⟩
      · rw [L_X8_apart_33, C_X1_votes, cI_ok, HD0.2.2.1, if_pos (nI_le (Nat.le_refl _) (by omega))]
      · show Cal X 167 _ S = _
        rw [C_X9_apart, mM_y m1 (by omega) ha, cI_ok, if_neg (by decide), mM_y m1 (by omega) hb, cI_ok, if_neg (by decide)]
        refine Eq.trans key2 ?_
        rw [L_X9_apart_27, m2, if_pos (nI_le (Nat.le_refl _) (by omega))]
theorem c_put {S : sS} (R : Rel S) (X : sX) (p1 : Int32) : Two (Cal X 112 [.ref 0, .int p1] S) (fun S => Cal X 191 [.ref 43, .int p1] S) := by
  obtain ⟨N, V, K, H, B, E, I, A, C, M⟩ := id R
  obtain ⟨HD0, k1, k2, m1, m2, m3, k3, k4, k5⟩ := id H
  have hN := HD0.2.1
  rcases pk_ix2 p1 (n := N) (by omega) with q | ⟨a, ha, rfl⟩
  · rw [C_X8_put, isM_n HD0 q, cI_ok, if_pos rfl, rf_1, cI_ok]
    refine two_rf R ?_
    show Cal X 191 _ (rfu S 1) = _
    rw [C_X9_put, mM_n (S := rfu S 1) m1 q, cI_ok, if_pos rfl, no_1, cI_ok]
  · obtain ⟨h, a1, a2, a3, a4, a5, a6⟩ := id A
    have hlen : h.length ≤ N := by
      have := nodup_sub h (List.range N) a1 (fun x hx => List.mem_range.mpr (a2 x hx))
      rwa [List.length_range] at this
    have h8 : ∀ x ∈ h, x < 8 := fun x hx => by have := a2 x hx; omega
    rw [C_X8_put, isM_y HD0 ha, cI_ok, if_neg (by decide), a3, a4, firstOnes_ok h8 (by omega) (by omega), cI_ok]
    have hpl : pre h h.length < 2 ^ 32 := by
      have : pre h h.length < 2 ^ N := by
        refine Nat.lt_pow_two_of_testBit _ fun i hi => ?_
        cases hb : (pre h h.length).testBit i with
        | false => rfl
        | true =>
          obtain ⟨j, h1, h2⟩ := (pre_bit h _ i).mp hb
          have := a2 _ (getD_mem h1)
          omega
      have := pow_le128 hN
      omega
    rw [has_ok hpl (by omega), cI_ok]
    have loop : ∀ (T : sS), T 43 28 = nI h.length → T 59 = S 59 → ((∃ k, k < h.length ∧ h.getD k 0 = a) → Run X 191 16 [some (.ref 43), some (.int (nI a)), some (.int (nI 0))] [] T = some (some (.int (-3)), rfm T 3)) ∧ ((∀ k, k < h.length → ¬ h.getD k 0 = a) → Run X 191 16 [some (.ref 43), some (.int (nI a)), some (.int (nI 0))] [] T = Run X 191 16 [some (.ref 43), some (.int (nI a)), some (.int (nI h.length))] [] T) := by
      intro T t28 t59
      have lt8 : ∀ k, k < h.length → h.getD k 0 < 8 := fun k hk => h8 _ (getD_mem hk)
      refine loop_ex (F := fun k => Run X 191 16 [some (.ref 43), some (.int (nI a)), some (.int (nI k))] [] T) (P := fun k => h.getD k 0 = a) h.length ?_ ?_ rfl
      · intro k hk hp
        have := lt8 k hk
        show Run X 191 16 _ [] T = _
        rw [L_X9_put_16, t28, if_neg (nI_ge hk (by omega)), ix_nI (by omega) (by decide), t59, a6 k hk, if_pos (by rw [hp]), no_3, cI_ok]
      · intro k hk hp
        have := lt8 k hk
        show Run X 191 16 _ [] T = Run X 191 16 _ [] T
        rw [L_X9_put_16, t28, if_neg (nI_ge hk (by omega)), ix_nI (by omega) (by decide), t59, a6 k hk, if_neg (by rw [nI_eq (by omega) (by omega)]; exact hp), nI_1]
    by_cases hb : (pre h h.length).testBit a = true
    · rw [hb, if_neg (by decide), rf_3, cI_ok]
      refine two_rf R ?_
      show Cal X 191 _ (rfu S 3) = _
      rw [C_X9_put, mM_y (S := rfu S 3) m1 (by omega) ha, cI_ok, if_neg (by decide)]
      exact (loop (rfu S 3) a5 rfl).1 ((pre_bit h _ a).mp hb)
    · have hna : a ∉ h := by
        intro hm
        obtain ⟨j, hj⟩ := List.getElem?_of_mem hm
        have hl := (List.getElem?_eq_some_iff.mp hj).1
        exact hb ((pre_bit h _ a).mpr ⟨j, hl, by rw [List.getD_eq_getElem?_getD, hj]; rfl⟩)
      have hnd : (h ++ [a]).Nodup := by
        rw [List.nodup_append]
        refine ⟨a1, by simp, ?_⟩
        intro x hx y hy e
        rw [List.mem_singleton] at hy
        subst hy
        exact hna (e ▸ hx)
      have hall : ∀ x ∈ h ++ [a], x < N := by
        intro x hx
        rcases List.mem_append.mp hx with q | q
        · exact a2 x q
        · rw [List.mem_singleton.mp q]; exact ha
      have hl2 : h.length + 1 ≤ N := by
        have := nodup_sub (h ++ [a]) (List.range N) hnd (fun x hx => List.mem_range.mpr (hall x hx))
        rwa [List.length_range, List.length_append] at this
      rw [(Bool.not_eq_true _).mp hb, if_pos (show bI false = 0 from rfl), a3, a4, with_ok h8 (by omega) (Nat.le_refl _) (by omega), cI_ok, List.take_length, List.drop_length, a4, nI_1]
      refine ⟨nI (h.length + 1), _, up2 (up2 (up2 (up2 S 0 9 (nI (pk (h ++ [a])))) 0 10 (nI (h.length + 1))) 59 h.length (nI a)) 43 28 (nI (h.length + 1)), rfl, ?_, ?_⟩
      · show Cal X 191 _ (up2 (up2 S 0 9 (nI (pk (h ++ [a])))) 0 10 (nI (h.length + 1))) = _
        have e28 : (up2 (up2 S 0 9 (nI (pk (h ++ [a])))) 0 10 (nI (h.length + 1))) 43 28 = nI h.length := a5
        rw [C_X9_put, mM_y (S := up2 (up2 S 0 9 (nI (pk (h ++ [a])))) 0 10 (nI (h.length + 1))) m1 (by omega) ha, cI_ok, if_neg (by decide)]
        refine Eq.trans ((loop _ e28 rfl).2 ?_) ?_
        · intro k hk e
          exact hna (e ▸ getD_mem hk)
        · rw [L_X9_put_16, e28, if_pos (nI_le (Nat.le_refl _) (by omega)), ix_nI (by omega) (by decide), nI_1]
      · obtain ⟨T, hT⟩ : ∃ T, T = up2 (up2 (up2 (up2 S 0 9 (nI (pk (h ++ [a])))) 0 10 (nI (h.length + 1))) 59 h.length (nI a)) 43 28 (nI (h.length + 1)) := ⟨_, rfl⟩
        rw [← hT]
        have f : fr [59] [(0, 9), (0, 10), (43, 28)] S T := by
          rw [hT]
          exact fr_upF (fr_upL (fr_upF (fr_upF fr_rfl (by decide)) (by decide)) (by decide)) (by decide)
        refine ⟨N, V, K, HH_ag (fr_ag f (by decide)) H, RB_ag (fr_ag f (by decide)) B, ?_, RI_ag (fr_ag f (by decide)) I, ⟨h ++ [a], hnd, hall, by rw [hT]; rfl, by rw [hT, List.length_append]; rfl, by rw [hT, List.length_append]; rfl, ?_⟩, RC_ag (fr_ag f (by decide)) C, RM_ag (fr_ag f (by decide)) M⟩
        · rw [fr_cell f 44 (by decide) (by decide), fr_cell f 42 (by decide) (by decide)]; exact E
        · intro j hj
          rw [List.length_append] at hj
          have hj' : j < h.length + 1 := hj
          have e59 : T 59 = upd (S 59) h.length (nI a) := by rw [hT]; rfl
          rw [e59]
          by_cases hq : j = h.length
          · subst hq
            rw [upd_at, gd_r _ _ (Nat.le_refl _), Nat.sub_self]
            rfl
          · rw [upd_ne _ _ hq, a6 j (by omega), gd_l _ _ (by omega)]
