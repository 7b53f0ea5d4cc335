/-! best cuts -/
def bcm (y n : Nat) (r : List Nat) : Nat → Nat
  | 0 => 1000000
  | k + 1 => min (min (bcm y n r k) (100 * wl y n (pre r k) + 2 * k)) (100 * (vt y n - wl y n (pre r k)) + 2 * k + 1)
theorem bcm_le (y n : Nat) (r : List Nat) : ∀ k, bcm y n r k ≤ 1000000
  | 0 => Nat.le_refl _
  | k + 1 => Nat.le_trans (Nat.min_le_left _ _) (Nat.le_trans (Nat.min_le_left _ _) (bcm_le y n r k))
theorem vt_le (y n : Nat) : vt y n ≤ 7 := pc_le 7 (y ||| n)
theorem bcm_ctm (y n : Nat) (r : List Nat) : ∀ k, k ≤ 7 → ∃ e, e ≤ 2 * k + 1 ∧ bcm y n r (k + 1) = 100 * ctm y n r (k + 1) + e := by
  intro k
  induction k with
  | zero =>
    intro _
    have h1 := wl_le y n (pre r 0)
    have h2 := vt_le y n
    have h3 := lst_le y n (pre r 0)
    have e1 : bcm y n r (0 + 1) = min (min 1000000 (100 * wl y n (pre r 0) + 2 * 0)) (100 * (vt y n - wl y n (pre r 0)) + 2 * 0 + 1) := rfl
    have e2 : ctm y n r (0 + 1) = min 3 (lst y n (pre r 0)) := rfl
    unfold lst at h3 e2
    by_cases q : wl y n (pre r 0) ≤ vt y n - wl y n (pre r 0)
    · exact ⟨0, by omega, by omega⟩
    · exact ⟨1, by omega, by omega⟩
  | succ k ih =>
    intro hk
    obtain ⟨e, he, h⟩ := ih (by omega)
    have h1 := wl_le y n (pre r (k + 1))
    have h2 := vt_le y n
    have h3 := lst_le y n (pre r (k + 1))
    have h4 := ctm_le y n r (k + 1)
    have e1 : bcm y n r (k + 1 + 1) = min (min (bcm y n r (k + 1)) (100 * wl y n (pre r (k + 1)) + 2 * (k + 1))) (100 * (vt y n - wl y n (pre r (k + 1))) + 2 * (k + 1) + 1) := rfl
    have e2 : ctm y n r (k + 1 + 1) = min (ctm y n r (k + 1)) (lst y n (pre r (k + 1))) := rfl
    unfold lst at h3 e2
    rw [e1, e2, h]
    by_cases q1 : ctm y n r (k + 1) ≤ wl y n (pre r (k + 1)) ∧ ctm y n r (k + 1) ≤ vt y n - wl y n (pre r (k + 1))
    · exact ⟨e, by omega, by omega⟩
    · by_cases q : wl y n (pre r (k + 1)) ≤ vt y n - wl y n (pre r (k + 1))
      · exact ⟨2 * (k + 1), by omega, by omega⟩
      · exact ⟨2 * (k + 1) + 1, by omega, by omega⟩
theorem bcm_ctw {y n N : Nat} {r : List Nat} (hl : r.length = N) (hN : N ≤ 7) : bcm y n r (N + 1) / 100 = ctw y n r := by
  obtain ⟨e, he, h⟩ := bcm_ctm y n r N hN
  unfold ctw
  rw [hl, h]
  omega
theorem bestCut_ok {N y n : Nat} {r : List Nat} (hr : RowOK N r) (hN : N ≤ 7) (hy : y < 128) (hn : n < 128) (X : sX) (S : sS) : Cal X 48 [.int (nI (pk r)), .int (nI N), .int (nI y), .int (nI n)] S = some (some (.int (nI (bcm y n r (N + 1)))), S) := by
  have h8 := row_lt8 hr hN
  have h128 := pow_le128 hN
  rw [C_X2_bestCut, or_nI, bitc (or_lt7 hy hn), cI_ok]
  have key := loop_eq (F := fun k => Run X 48 18 [some (.int (nI (pk r))), some (.int (nI N)), some (.int (nI y)), some (.int (nI n)), some (.int (nI (vt y n))), some (.int (nI (pre r k))), some (.int (nI (bcm y n r k))), some (.int (nI k)), none] [] S) (N + 1) 0 (by
    intro k _ hk
    have hp := pre_lt hr (c := k) (by omega)
    have h1 := wl_le y n (pre r k)
    have h2 := vt_le y n
    have h3 := bcm_le y n r k
    have ha : r.getD k 0 < 8 := by
      rcases Nat.lt_or_ge k r.length with q | q
      · exact h8 _ (getD_mem q)
      · rw [List.getD_eq_getElem?_getD, List.getElem?_eq_none q]; decide
    show Run X 48 18 _ [] S = Run X 48 18 _ [] S
    rw [L_X2_bestCut_18, if_neg (nI_nlt (by omega) (by omega)), and_nI, bitc (and_lt7 n (by omega)), cI_ok, andNot_nI, bitc (andn_lt7 _ hy), cI_ok, at_ok h8 (by rw [hr.1]; exact hN) (by omega), cI_ok, l1, oShl_1 (by omega), or_nI, nI_add]
    have ew : pc 7 (pre r k &&& n) + pc 7 (andn y (pre r k)) = wl y n (pre r k) := rfl
    rw [ew, l100, l2, pk_sub h1, pk_mul, pk_mul, pk_mul, nI_add, nI_add, nI_add, minI_nI (by omega) (by omega), minI_nI (by omega) (by omega), nI_add]
    rfl) (Nat.zero_le _)
  refine Eq.trans key ?_
  rw [L_X2_bestCut_18, if_pos (nI_lt (by omega) (by omega))]
theorem oRem_nI {a d : Nat} (ha : a < 2 ^ 31) (h0 : 0 < d) (hd : d < 2 ^ 31) : oRem (nI a) (nI d) = nI (a % d) := pk_rem ha h0 hd
theorem placeOf_ok {a : Nat} (ha : a < 2 ^ 31) (X : sX) (S : sS) : Cal X 49 [.int (nI a)] S = some (some (.int (nI (a % 100 / 2))), S) := by
  rw [C_X2_placeOfCut, dv_ok (by decide), dv_ok (by decide), l100, oRem_nI ha (by decide) (by decide), l2, pk_div (by omega) (by decide) (by decide)]
theorem yesLeft_ok {a : Nat} (ha : a < 2 ^ 31) (X : sX) (S : sS) : Cal X 50 [.int (nI a)] S = some (some (.int (bI (decide (a % 2 = 0)))), S) := by
  rw [C_X2_yesIsLeft, dv_ok (by decide), l2, oRem_nI ha (by decide) (by decide)]
  by_cases q : a % 2 = 0
  · rw [q, if_pos nI_0]; rfl
  · rw [if_neg (nI_ne0 (by omega) (by omega)), decide_eq_false q]; rfl
/-! the other's cuts -/
theorem sm_one (a c : Nat) : ∀ n, sm (fun i => if i = a then c else 0) n = if a < n then c else 0 := by
  intro n
  induction n with
  | zero => rfl
  | succ n ih =>
    show sm (fun i => if i = a then c else 0) n + (if n = a then c else 0) = _
    rw [ih]
    by_cases q : n = a
    · rw [if_pos q, if_neg (by omega), if_pos (by omega), Nat.zero_add]
    · rw [if_neg q, Nat.add_zero]
      by_cases q2 : a < n
      · rw [if_pos q2, if_pos (by omega)]
      · rw [if_neg q2, if_neg (by omega)]
theorem pc_step {y s a : Nat} (ha : a < 7) (hs : s.testBit a = false) : pc 7 (y &&& (s ||| 2 ^ a)) = pc 7 (y &&& s) + (y.testBit a).toNat := by
  have := sm_one a (y.testBit a).toNat 7
  rw [if_pos ha] at this
  unfold pc
  rw [← this, ← sm_add]
  refine sm_congr fun i _ => ?_
  rw [Nat.testBit_and, Nat.testBit_and, Nat.testBit_or, Nat.testBit_two_pow]
  by_cases q : i = a
  · subst q
    rw [hs, if_pos rfl]
    simp
  · rw [if_neg q]
    have q' : ¬ a = i := fun e => q e.symm
    simp [q']
theorem pc_andn (y s : Nat) : pc 7 (andn y s) + pc 7 (y &&& s) = pc 7 y := by
  unfold pc
  rw [← sm_add]
  refine sm_congr fun i _ => ?_
  rw [andn_bit, Nat.testBit_and]
  cases y.testBit i <;> cases s.testBit i <;> rfl
theorem vt_split {y n : Nat} (hd : y &&& n = 0) : vt y n = pc 7 y + pc 7 n := by
  unfold vt pc
  rw [← sm_add]
  refine sm_congr fun i _ => ?_
  have := congrArg (fun z => z.testBit i) hd
  simp only [Nat.testBit_and, Nat.zero_testBit] at this
  rw [Nat.testBit_or]
  cases hy' : y.testBit i <;> cases hn' : n.testBit i <;> simp_all
theorem pre_no {N : Nat} {r : List Nat} (hr : RowOK N r) {k : Nat} (hk : k < N) : (pre r k).testBit (r.getD k 0) = false := by
  cases hb : (pre r k).testBit (r.getD k 0) with
  | false => rfl
  | true =>
    obtain ⟨j, hj, e⟩ := (pre_bit r k _).mp hb
    exfalso
    have hl := hr.1
    have hn := hr.2.1
    rw [List.getD_eq_getElem?_getD, List.getElem?_eq_getElem (by omega), List.getD_eq_getElem?_getD, List.getElem?_eq_getElem (by omega)] at e
    have := (List.getElem_inj hn).mp (show r[j] = r[k] from e)
    omega
/-- a row is at hand -/
def RH (N : Nat) (r : List Nat) (S : sS) : Prop := ∀ j, j < N → S 56 j = nI (r.getD j 0)
/-- the cut at hand, as one number -/
def CutH (N : Nat) (T : sS) (c : Nat) : Prop := ∃ w p s, T 43 19 = nI w ∧ T 43 20 = nI p ∧ T 43 21 = nI s ∧ s ≤ 1 ∧ p ≤ N ∧ w ≤ 7 ∧ c = 100 * w + 2 * p + s
def cI3 (k : Nat) (y n : Nat) (r : List Nat) (T : sS) : Prop := (k = 0 ∧ T 43 19 = nI 8) ∨ ∃ w p s, T 43 19 = nI w ∧ T 43 20 = nI p ∧ T 43 21 = nI s ∧ s ≤ 1 ∧ w ≤ 7 ∧ 2 * p + s + 1 ≤ 2 * k ∧ bcm y n r k = 100 * w + 2 * p + s
theorem cut_up {k l q y n c : Nat} {r : List Nat} {T : sS} (hk : k ≤ 7) (hl : l ≤ 7) (hq : q ≤ 1) (h : (c = 1000000 ∧ T 43 19 = nI 8) ∨ ∃ w p s, T 43 19 = nI w ∧ T 43 20 = nI p ∧ T 43 21 = nI s ∧ s ≤ 1 ∧ w ≤ 7 ∧ 2 * p + s + 1 ≤ 2 * k + q ∧ c = 100 * w + 2 * p + s) : (T 43 19 ≤ nI l ∧ ∃ w p s, T 43 19 = nI w ∧ T 43 20 = nI p ∧ T 43 21 = nI s ∧ s ≤ 1 ∧ w ≤ 7 ∧ 2 * p + s + 1 ≤ 2 * k + q + 1 ∧ min c (100 * l + 2 * k + q) = 100 * w + 2 * p + s) ∨ (¬ T 43 19 ≤ nI l ∧ min c (100 * l + 2 * k + q) = 100 * l + 2 * k + q) := by
  rcases h with ⟨rfl, e⟩ | ⟨w, p, s, e1, e2, e3, h1, h2, h3, rfl⟩
  · right
    rw [e]
    exact ⟨nI_ge (by omega) (by decide), by omega⟩
  · by_cases q1 : w ≤ l
    · left
      exact ⟨by rw [e1]; exact nI_le q1 (by omega), w, p, s, e1, e2, e3, h1, h2, by omega, by omega⟩
    · right
      exact ⟨by rw [e1]; exact nI_ge (by omega) (by omega), by omega⟩
theorem findCut_ok {N y n : Nat} {r : List Nat} (hr : RowOK N r) (hN : N ≤ 7) (hy : y < 2 ^ N) (hn : n < 2 ^ N) (hd : y &&& n = 0) (X : sX) (S : sS) (m1 : S 43 11 = nI N) (hR : RH N r S) : ∃ T, Cal X 179 [.ref 43, .int (nI y), .int (nI n)] S = some (none, T) ∧ fr [] [(43, 19), (43, 20), (43, 21)] S T ∧ CutH N T (bcm y n r (N + 1)) := by
  have h128 := pow_le128 hN
  have hvs := vt_split hd
  have hv7 := vt_le y n
  rw [C_X9_findCut, mbits (by omega), cI_ok, mbits (by omega), cI_ok]
  have wle : ∀ k, pc 7 (n &&& pre r k) + pc 7 y - pc 7 (y &&& pre r k) = wl y n (pre r k) ∧ pc 7 (y &&& pre r k) + pc 7 n - pc 7 (n &&& pre r k) = vt y n - wl y n (pre r k) ∧ pc 7 (y &&& pre r k) ≤ pc 7 y ∧ pc 7 (n &&& pre r k) ≤ pc 7 n := by
    intro k
    have a1 := pc_andn y (pre r k)
    have a2 := pc_andn n (pre r k)
    unfold wl
    rw [Nat.and_comm (pre r k) n]
    omega
  have half : ∀ k, k ≤ N → ∀ T, fr [] [(43, 19), (43, 20), (43, 21)] S T → cI3 k y n r T → ∃ T', fr [] [(43, 19), (43, 20), (43, 21)] S T' ∧ cI3 (k + 1) y n r T' ∧ Run X 179 26 [some (.ref 43), some (.int (nI y)), some (.int (nI n)), some (.int (nI (pc 7 (y &&& pre r k)))), some (.int (nI (pc 7 (n &&& pre r k)))), some (.int (nI (pc 7 y))), some (.int (nI (pc 7 n))), some (.int (nI k)), none, none] [] T = if nI k = nI N then (Run X 179 26 [some (.ref 43), some (.int (nI y)), some (.int (nI n)), some (.int (nI (pc 7 (y &&& pre r k)))), some (.int (nI (pc 7 (n &&& pre r k)))), some (.int (nI (pc 7 y))), some (.int (nI (pc 7 n))), some (.int (nI (k + 1))), none, none] [] T') else ix (nI k) 7 fun j1 => ix (nI k) 7 fun j2 => Run X 179 26 [some (.ref 43), some (.int (nI y)), some (.int (nI n)), some (.int (nI (pc 7 (y &&& pre r k)) + (oShr (nI y) (T' 56 j1) &&& 1))), some (.int (nI (pc 7 (n &&& pre r k)) + (oShr (nI n) (T' 56 j2) &&& 1))), some (.int (nI (pc 7 y))), some (.int (nI (pc 7 n))), some (.int (nI (k + 1))), none, none] [] T' := by
    intro k hk T f hc
    obtain ⟨w1, w2, w3, w4⟩ := wle k
    have hwl := wl_le y n (pre r k)
    have t1 : T 43 11 = nI N := by rw [fr_fld f 43 11 (by decide) (by decide)]; exact m1
    have hc0 : (bcm y n r k = 1000000 ∧ T 43 19 = nI 8) ∨ ∃ w p s, T 43 19 = nI w ∧ T 43 20 = nI p ∧ T 43 21 = nI s ∧ s ≤ 1 ∧ w ≤ 7 ∧ 2 * p + s + 1 ≤ 2 * k + 0 ∧ bcm y n r k = 100 * w + 2 * p + s := by
      rcases hc with ⟨rfl, e⟩ | hc
      · exact Or.inl ⟨rfl, e⟩
      · exact Or.inr hc
    rw [L_X9_findCut_26, t1, if_neg (nI_nlt (by omega) (by omega)), nI_add, pk_sub (by omega), nI_add, pk_sub (by omega), w1, w2, nI_1]
    have W7 : wl y n (pre r k) ≤ 7 := by omega
    have Z7 : vt y n - wl y n (pre r k) ≤ 7 := by omega
    have eb : ∀ w p s, min (min (bcm y n r k) (100 * wl y n (pre r k) + 2 * k)) (100 * (vt y n - wl y n (pre r k)) + 2 * k + 1) = 100 * w + 2 * p + s → bcm y n r (k + 1) = 100 * w + 2 * p + s := fun _ _ _ h => h
    obtain ⟨G, hG⟩ : ∃ G, G = bcm y n r (k + 1) := ⟨_, rfl⟩
    have hGc : ∀ T', ((k + 1 = 0 ∧ T' 43 19 = nI 8) ∨ ∃ w p s, T' 43 19 = nI w ∧ T' 43 20 = nI p ∧ T' 43 21 = nI s ∧ s ≤ 1 ∧ w ≤ 7 ∧ 2 * p + s + 1 ≤ 2 * (k + 1) ∧ G = 100 * w + 2 * p + s) → cI3 (k + 1) y n r T' := fun T' h => by rw [hG] at h; exact h
    rw [← hG] at eb
    generalize wl y n (pre r k) = W at *
    generalize vt y n - W = Z at *
    generalize bcm y n r k = B at *
    clear w1 w2 w3 w4 hwl hvs hv7 hc hG wle
    rcases cut_up (r := r) (y := y) (n := n) (k := k) (l := W) (q := 0) (by omega) W7 (by decide) hc0 with ⟨c1, w, p, s, e1, e2, e3, h1, h2, h3, h4⟩ | ⟨c1, h4⟩
    · rw [if_pos c1]
      rcases cut_up (r := r) (y := y) (n := n) (k := k) (l := Z) (q := 1) (T := T) (by omega) Z7 (by decide) (Or.inr ⟨w, p, s, e1, e2, e3, h1, h2, h3, h4⟩) with ⟨c2, w', p', s', g1, g2, g3, g4, g5, g6, g7⟩ | ⟨c2, g7⟩
      · rw [if_pos c2]
        exact ⟨T, f, hGc _ (Or.inr ⟨w', p', s', g1, g2, g3, g4, g5, by omega, eb _ _ _ g7⟩), rfl⟩
      · rw [if_neg c2]
        exact ⟨up2 (up2 (up2 T 43 19 (nI Z)) 43 20 (nI k)) 43 21 1, fr_upF (fr_upF (fr_upF f (by decide)) (by decide)) (by decide), hGc _ (Or.inr ⟨Z, k, 1, rfl, rfl, rfl, by omega, by omega, by omega, eb _ _ _ g7⟩), rfl⟩
    · rw [if_neg c1]
      rw [Nat.add_zero] at h4
      rw [h4] at eb
      by_cases c2 : W ≤ Z
      · rw [if_pos (nI_le c2 (by omega))]
        exact ⟨up2 (up2 (up2 T 43 19 (nI W)) 43 20 (nI k)) 43 21 0, fr_upF (fr_upF (fr_upF f (by decide)) (by decide)) (by decide), hGc _ (Or.inr ⟨W, k, 0, rfl, rfl, rfl, by omega, by omega, by omega, eb _ _ _ (by omega)⟩), rfl⟩
      · rw [if_neg (nI_ge (by omega) (by omega))]
        exact ⟨up2 (up2 (up2 (up2 (up2 (up2 T 43 19 (nI W)) 43 20 (nI k)) 43 21 0) 43 19 (nI Z)) 43 20 (nI k)) 43 21 1, fr_upF (fr_upF (fr_upF (fr_upF (fr_upF (fr_upF f (by decide)) (by decide)) (by decide)) (by decide)) (by decide)) (by decide), hGc _ (Or.inr ⟨Z, k, 1, rfl, rfl, rfl, by omega, by omega, by omega, eb _ _ _ (by omega)⟩), rfl⟩
  obtain ⟨T1, ⟨a1, a2⟩, e1⟩ := loop_P (F := fun k T => Run X 179 26 [some (.ref 43), some (.int (nI y)), some (.int (nI n)), some (.int (nI (pc 7 (y &&& pre r k)))), some (.int (nI (pc 7 (n &&& pre r k)))), some (.int (nI (pc 7 y))), some (.int (nI (pc 7 n))), some (.int (nI k)), none, none] [] T) (P := fun k T => fr [] [(43, 19), (43, 20), (43, 21)] S T ∧ cI3 k y n r T) N (by
    intro k hk T ⟨b1, b2⟩
    obtain ⟨T', c1, c2, c3⟩ := half k (by omega) T b1 b2
    refine ⟨T', ⟨c1, c2⟩, ?_⟩
    have hrk := row_at_lt hr hk
    have t56 : T' 56 k = nI (r.getD k 0) := by rw [fr_cell c1 56 (by decide) (by decide)]; exact hR k hk
    have hno := pre_no hr hk
    refine Eq.trans c3 ?_
    rw [if_neg (by rw [nI_eq (by omega) (by omega)]; omega), ix_nI (by omega) (by decide), ix_nI (by omega) (by decide), t56, sbit (by omega) (by omega), sbit (by omega) (by omega), ← bI_nI, ← bI_nI, nI_add, nI_add, ← pc_step (by omega) hno, ← pc_step (by omega) hno]
    rfl) 0 (Nat.zero_le _) (up2 S 43 19 8) ⟨fr_upF fr_rfl (by decide), Or.inl ⟨rfl, rfl⟩⟩
  obtain ⟨T2, c1, c2, c3⟩ := half N (Nat.le_refl _) T1 a1 a2
  refine ⟨T2, ?_, c1, ?_⟩
  · have z : ∀ x, pc 7 (x &&& pre r 0) = 0 := by
      intro x
      show pc 7 (x &&& 0) = 0
      rw [Nat.and_zero]
      decide
    have e1' := e1
    simp only [z] at e1'
    refine Eq.trans e1' (Eq.trans c3 ?_)
    rw [if_pos rfl, L_X9_findCut_26, fr_fld c1 43 11 (by decide) (by decide), m1, if_pos (nI_lt (by omega) (by omega))]
  · rcases c2 with ⟨q, _⟩ | ⟨w, p, s, q1, q2, q3, q4, q5, q6, q7⟩
    · omega
    · exact ⟨w, p, s, q1, q2, q3, q4, by omega, q5, q7⟩
theorem wrongOf_ok {N y n : Nat} {r : List Nat} (hr : RowOK N r) (hN : N ≤ 7) (hy : y < 2 ^ N) (hn : n < 2 ^ N) (hd : y &&& n = 0) (X : sX) (S : sS) (m1 : S 43 11 = nI N) (hR : RH N r S) : ∃ T, Cal X 180 [.ref 43, .int (nI y), .int (nI n)] S = some (some (.int (nI (ctw y n r))), T) ∧ fr [] [(43, 19), (43, 20), (43, 21)] S T ∧ CutH N T (bcm y n r (N + 1)) := by
  obtain ⟨T, e, f, c⟩ := findCut_ok hr hN hy hn hd X S m1 hR
  refine ⟨T, ?_, f, c⟩
  rw [C_X9_wrongOf, e, cV_ok]
  obtain ⟨w, p, s, q1, q2, q3, q4, q5, q6, q7⟩ := c
  have := bcm_ctw (y := y) (n := n) hr.1 hN
  rw [q1, show w = ctw y n r by omega]
