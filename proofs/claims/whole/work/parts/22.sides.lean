/-! the class's tables of sides -/
theorem l_m1 : (nI 0 : Int32) - 1 = -1 := rfl
theorem minI_nI {a b : Nat} (ha : a < 2 ^ 31) (hb : b < 2 ^ 31) : minI (nI a) (nI b) = nI (min a b) := by
  unfold minI
  by_cases h : b < a
  · rw [if_pos ((nI_ltI hb ha).mpr h), Nat.min_eq_right (by omega)]
  · rw [if_neg (fun q => h ((nI_ltI hb ha).mp q)), Nat.min_eq_left (by omega)]
theorem pc24_7 {k : Nat} (h : k < 128) : pc 24 k = pc 7 k := by
  unfold pc
  rw [show (24 : Nat) = 7 + 17 from rfl, sm_split]
  have : sm (fun i => (k.testBit (7 + i)).toNat) 17 = 0 := by
    rw [← sm_zero 17]
    refine sm_congr fun i _ => ?_
    rw [Nat.testBit_lt_two_pow (Nat.lt_of_lt_of_le h (show 128 ≤ 2 ^ (7 + i) from Nat.pow_le_pow_right (by decide : 0 < 2) (by omega : 7 ≤ 7 + i)))]
    rfl
  omega
theorem bitc {k : Nat} (h : k < 128) (X : sX) (S : sS) : Cal X 230 [.int (nI k)] S = some (some (.int (nI (pc 7 k))), S) := by
  rw [swar (by omega), pc24_7 h]
theorem pc_le (n k : Nat) : pc n k ≤ n := by
  have := sm_le (f := fun i => (k.testBit i).toNat) (n := n) (b := 1) (fun i _ => by cases k.testBit i <;> decide)
  unfold pc
  omega
/-- who is wrong, if the members of `set` are where yes is -/
def wl (y n set : Nat) : Nat := pc 7 (set &&& n) + pc 7 (andn y set)
def vt (y n : Nat) : Nat := pc 7 (y ||| n)
def lst (y n set : Nat) : Nat := min (wl y n set) (vt y n - wl y n set)
theorem wl_le (y n set : Nat) : wl y n set ≤ vt y n := by
  unfold wl vt pc
  rw [← sm_add]
  have key : ∀ (f g : Nat → Nat) (m : Nat), (∀ i, f i ≤ g i) → sm f m ≤ sm g m := by
    intro f g m h
    induction m with
    | zero => exact Nat.le_refl _
    | succ m ih => exact Nat.add_le_add ih (h m)
  refine key _ _ 7 fun i => ?_
  rw [andn_bit, Nat.testBit_and, Nat.testBit_or]
  cases set.testBit i <;> cases y.testBit i <;> cases n.testBit i <;> decide
theorem lst_le (y n set : Nat) : lst y n set ≤ 3 := by
  have h1 := pc_le 7 (y ||| n)
  have h2 := wl_le y n set
  unfold lst vt at *
  omega
theorem and_lt7 {a : Nat} (b : Nat) (h : a < 128) : a &&& b < 128 := Nat.lt_of_le_of_lt Nat.and_le_left h
theorem or_lt7 {a b : Nat} (ha : a < 128) (hb : b < 128) : a ||| b < 128 := Nat.or_lt_two_pow (n := 7) ha hb
theorem andn_lt7 {a : Nat} (b : Nat) (h : a < 128) : andn a b < 128 := by
  refine Nat.lt_pow_two_of_testBit (n := 7) _ fun i hi => ?_
  rw [andn_bit, Nat.testBit_lt_two_pow (Nat.lt_of_lt_of_le h (Nat.pow_le_pow_right (by decide : 0 < 2) hi))]
  rfl
theorem pow_le128 {N : Nat} (h : N ≤ 7) : 2 ^ N ≤ 128 := Nat.pow_le_pow_right (by decide : 0 < 2) h
/-- what the class holds of members and votes -/
def HD (N V : Nat) (S : sS) : Prop := S 1 0 = nI N ∧ N ≤ 7 ∧ S 1 1 = nI V ∧ V ≤ 24 ∧ ∀ v, v < V → nv (S 8 v) < 2 ^ N ∧ nv (S 9 v) < 2 ^ N ∧ nv (S 8 v) &&& nv (S 9 v) = 0
theorem HD_off {N V : Nat} {S S' : sS} {L : List Nat} (h : HD N V S) (ho : off L S S') (h1 : 1 ∉ L := by decide) (h8 : 8 ∉ L := by decide) (h9 : 9 ∉ L := by decide) : HD N V S' := by
  unfold HD
  rw [ho 1 h1, ho 8 h8, ho 9 h9]
  exact h
theorem isVote_ok {N V : Nat} {S : sS} (h : HD N V S) {v : Nat} (hv : v < V) (X : sX) : Cal X 21 [.ref 1, .int (nI v)] S = some (some (.int 1), S) := by
  obtain ⟨h1, h2, h3, h4, h5⟩ := h
  rw [C_X1_isVote, if_neg (nI_pos (by omega)), h3, if_neg (nI_ge hv (by omega))]
theorem yesOf_ok {N V : Nat} {S : sS} (h : HD N V S) {v : Nat} (hv : v < V) (X : sX) : Cal X 38 [.ref 1, .int (nI v)] S = some (some (.int (S 8 v)), S) := by
  rw [C_X1_yesOf, isVote_ok h hv, cI_ok, if_neg (by decide), ix_nI (by have := h.2.2.2.1; omega) (by decide)]
theorem noOf_ok {N V : Nat} {S : sS} (h : HD N V S) {v : Nat} (hv : v < V) (X : sX) : Cal X 39 [.ref 1, .int (nI v)] S = some (some (.int (S 9 v)), S) := by
  rw [C_X1_noOf, isVote_ok h hv, cI_ok, if_neg (by decide), ix_nI (by have := h.2.2.2.1; omega) (by decide)]
/-- the wrong ones of a vote, if the members of `set` are on one side -/
def lsv (S : sS) (set v : Nat) : Nat := lst (nv (S 8 v)) (nv (S 9 v)) set
def mkS (S : sS) (V t set : Nat) : Nat := mk (fun v => decide (t ≤ lsv S set v)) V
theorem nI_lt_lit {m k : Nat} (hm : m < 2 ^ 31) (hk : k < 2 ^ 31) : (nI m < nI k) = (m < k) := propext (nI_ltI hm hk)
theorem fillSet_ok {N V : Nat} {S : sS} (h : HD N V S) {set : Nat} (hs : set < 128) (X : sX) : Cal X 101 [.ref 25, .int (nI set)] S = some (none, up2 (up2 (up2 S 26 set (nI (mkS S V 1 set))) 27 set (nI (mkS S V 2 set))) 28 set (nI (mkS S V 3 set))) := by
  obtain ⟨h1, h2, h3, h4, h5⟩ := id h
  rw [C_X7_fillSet]
  have key := loop_eq (F := fun k => Run X 101 10 [some (.ref 25), some (.int (nI set)), some (.int (nI (mk (fun v => decide (1 ≤ lsv S set v)) k))), some (.int (nI (mk (fun v => decide (2 ≤ lsv S set v)) k))), some (.int (nI (mk (fun v => decide (3 ≤ lsv S set v)) k))), some (.int (nI k)), none, none, none, none] [] S) V 0 (fun k _ hk => ?_) (Nat.zero_le _)
  · refine Eq.trans key ?_
    rw [L_X7_fillSet_10, C_X1_votes, cI_ok, h3, if_pos (nI_le (Nat.le_refl V) (by omega)), ix_nI hs (by decide), ix_nI hs (by decide), ix_nI hs (by decide)]
    rfl
  · show Run X 101 10 _ [] S = Run X 101 10 _ [] S
    obtain ⟨g1, g2, g3⟩ := h5 k hk
    obtain ⟨y, hy⟩ : ∃ y, nv (S 8 k) = y := ⟨_, rfl⟩
    obtain ⟨n, hn⟩ := (⟨_, rfl⟩ : ∃ n, nv (S 9 k) = n)
    have e8 : S 8 k = nI y := by rw [← hy, nI_nv]
    have e9 : S 9 k = nI n := by rw [← hn, nI_nv]
    have hl : lsv S set k = lst y n set := by unfold lsv; rw [hy, hn]
    have hN := pow_le128 h2
    replace g1 : nv (S 8 k) < 128 := by omega
    replace g2 : nv (S 9 k) < 128 := by omega
    rw [hy] at g1 g3
    rw [hn] at g2 g3
    have hw := wl_le y n set
    have hv := pc_le 7 (y ||| n)
    have e10 : minI (nI (pc 7 (set &&& n)) + nI (pc 7 (andn y set))) (nI (pc 7 (y ||| n)) - (nI (pc 7 (set &&& n)) + nI (pc 7 (andn y set)))) = nI (lst y n set) := by
      unfold wl vt at hw
      rw [nI_add, pk_sub hw, minI_nI (by omega) (by omega)]
      rfl
    rw [L_X7_fillSet_10, C_X1_votes, cI_ok, h3, if_neg (nI_ge hk (by omega)), yesOf_ok h hk, cI_ok, noOf_ok h hk, cI_ok, e8, e9, and_nI, bitc (and_lt7 n hs), cI_ok, andNot_nI, bitc (andn_lt7 set g1), cI_ok, or_nI, bitc (or_lt7 g1 g2), cI_ok, e10]
    have hb := lst_le y n set
    have es : ∀ t, mk (fun v => decide (t ≤ lsv S set v)) (k + 1) = mk (fun v => decide (t ≤ lsv S set v)) k ||| (bif decide (t ≤ lst y n set) then 2 ^ k else 0) := fun t => by rw [← hl]; rfl
    rw [es, es, es]
    rw [l1, oShl_1 (by omega), nI_add, l0, l2, l3]
    rcases (show lst y n set = 0 ∨ lst y n set = 1 ∨ lst y n set = 2 ∨ lst y n set = 3 by omega) with q | q | q | q <;> rw [q] <;> simp only [nI_lt_lit (show 0 < 2 ^ 31 by decide) (show 1 < 2 ^ 31 by decide), nI_lt_lit (show 0 < 2 ^ 31 by decide) (show 2 < 2 ^ 31 by decide), nI_lt_lit (show 0 < 2 ^ 31 by decide) (show 3 < 2 ^ 31 by decide), nI_lt_lit (show 1 < 2 ^ 31 by decide) (show 1 < 2 ^ 31 by decide), nI_lt_lit (show 1 < 2 ^ 31 by decide) (show 2 < 2 ^ 31 by decide), nI_lt_lit (show 1 < 2 ^ 31 by decide) (show 3 < 2 ^ 31 by decide), nI_lt_lit (show 2 < 2 ^ 31 by decide) (show 1 < 2 ^ 31 by decide), nI_lt_lit (show 2 < 2 ^ 31 by decide) (show 2 < 2 ^ 31 by decide), nI_lt_lit (show 2 < 2 ^ 31 by decide) (show 3 < 2 ^ 31 by decide), nI_lt_lit (show 3 < 2 ^ 31 by decide) (show 1 < 2 ^ 31 by decide), nI_lt_lit (show 3 < 2 ^ 31 by decide) (show 2 < 2 ^ 31 by decide), nI_lt_lit (show 3 < 2 ^ 31 by decide) (show 3 < 2 ^ 31 by decide)] <;> simp [or_nI]
/-- the tables hold what the votes say -/
def SOK (N V : Nat) (S : sS) : Prop := ∀ set, set < 2 ^ N → S 26 set = nI (mkS S V 1 set) ∧ S 27 set = nI (mkS S V 2 set) ∧ S 28 set = nI (mkS S V 3 set)
theorem lsv_off {S S' : sS} {L : List Nat} (ho : off L S S') (h8 : 8 ∉ L := by decide) (h9 : 9 ∉ L := by decide) : lsv S' = lsv S := by
  funext set v
  unfold lsv
  rw [ho 8 h8, ho 9 h9]
theorem mkS_off {S S' : sS} {L : List Nat} (ho : off L S S') (h8 : 8 ∉ L := by decide) (h9 : 9 ∉ L := by decide) : mkS S' = mkS S := by
  funext V t set
  unfold mkS
  rw [lsv_off ho h8 h9]
theorem everyone_ok {N V : Nat} {S : sS} (h : HD N V S) (X : sX) : Cal X 25 [.ref 1] S = some (some (.int (nI (2 ^ N - 1))), S) := by
  have h2 := h.2.1
  have h3 : 1 ≤ 2 ^ N := Nat.one_le_two_pow
  rw [C_X1_everyone, h.1, l1, oShl_1 (by omega), pk_sub h3]
/-- refresh: the tables hold; nothing else changes but the mark -/
theorem refresh_ok {N V : Nat} {S : sS} (h : HD N V S) (hf : S 25 4 = 0 ∨ (S 25 4 = 1 ∧ SOK N V S)) (X : sX) : ∃ S', Cal X 94 [.ref 25] S = some (none, S') ∧ off [25, 26, 27, 28] S S' ∧ (∀ j, j ≠ 4 → S' 25 j = S 25 j) ∧ S' 25 4 = 1 ∧ SOK N V S' := by
  rw [C_X7_refresh]
  rcases hf with hf | ⟨hf, hS⟩
  · rw [if_pos hf]
    have hN := pow_le128 h.2.1
    have h1N : 1 ≤ 2 ^ N := Nat.one_le_two_pow
    have step : ∀ k, k < 2 ^ N → ∀ T, (off [26, 27, 28] S T ∧ HD N V T ∧ ∀ set, set < k → T 26 set = nI (mkS S V 1 set) ∧ T 27 set = nI (mkS S V 2 set) ∧ T 28 set = nI (mkS S V 3 set)) → ∃ T', (off [26, 27, 28] S T' ∧ HD N V T' ∧ ∀ set, set < k + 1 → T' 26 set = nI (mkS S V 1 set) ∧ T' 27 set = nI (mkS S V 2 set) ∧ T' 28 set = nI (mkS S V 3 set)) ∧ Run X 94 10 [some (.ref 25), some (.int (nI k))] [] T = Run X 94 10 [some (.ref 25), some (.int (nI (k + 1)))] [] T' := by
      intro k hk T hT
      obtain ⟨b1, b2, b3⟩ := hT
      have hm := mkS_off b1
      refine ⟨up2 (up2 (up2 T 26 k (nI (mkS T V 1 k))) 27 k (nI (mkS T V 2 k))) 28 k (nI (mkS T V 3 k)), ⟨?_, ?_, ?_⟩, ?_⟩
      · exact off_up2 (off_up2 (off_up2 b1 (by decide)) (by decide)) (by decide)
      · exact HD_off (L := [26, 27, 28]) b2 (off_up2 (off_up2 (off_up2 off_rfl (by decide)) (by decide)) (by decide))
      · intro set hset
        rw [up2_ne _ _ _ (show 26 ≠ 28 by decide), up2_ne _ _ _ (show 26 ≠ 27 by decide), up2_at, up2_ne _ _ _ (show 27 ≠ 28 by decide), up2_at, up2_ne _ _ _ (show 27 ≠ 26 by decide), up2_at, up2_ne _ _ _ (show 28 ≠ 27 by decide), up2_ne _ _ _ (show 28 ≠ 26 by decide)]
        by_cases hq : set = k
        · subst hq
          rw [upd_at, upd_at, upd_at, hm]
          exact ⟨rfl, rfl, rfl⟩
        · rw [upd_ne _ _ hq, upd_ne _ _ hq, upd_ne _ _ hq]
          exact b3 set (by omega)
      · show Run X 94 10 _ [] T = Run X 94 10 _ [] _
        rw [L_X7_refresh_10, l128, if_neg (nI_ge (by omega) (by omega)), everyone_ok b2, cI_ok, if_neg (nI_nlt (by omega) (by omega)), fillSet_ok b2 (by omega), cV_ok, nI_1]
    obtain ⟨S1, ⟨a1, a2, a3⟩, e1⟩ := loop_P (F := fun k T => Run X 94 10 [some (.ref 25), some (.int (nI k))] [] T) (P := fun k T => off [26, 27, 28] S T ∧ HD N V T ∧ ∀ set, set < k → T 26 set = nI (mkS S V 1 set) ∧ T 27 set = nI (mkS S V 2 set) ∧ T 28 set = nI (mkS S V 3 set)) (2 ^ N) step 0 (Nat.zero_le _) S ⟨off_rfl, h, fun _ h => by omega⟩
    rw [l0]
    have e2 : Run X 94 10 [some (.ref 25), some (.int (nI (2 ^ N)))] [] S1 = some (none, up2 S1 25 4 1) := by
      rw [L_X7_refresh_10]
      by_cases hq : 128 ≤ 2 ^ N
      · rw [l128, if_pos (nI_le hq (by omega))]
      · rw [l128, if_neg (nI_ge (by omega) (by omega)), everyone_ok a2, cI_ok, if_pos (nI_lt (by omega) (by omega))]
    refine ⟨up2 S1 25 4 1, e1.trans e2, off_up2 (off_mono a1 (by decide)) (by decide), fun j hj => ?_, ?_, fun set hset => ?_⟩
    · rw [up2_at, upd_ne _ _ hj, a1 25 (by decide)]
    · rw [up2_at, upd_at]
    · rw [up2_ne _ _ _ (by decide), up2_ne _ _ _ (by decide), up2_ne _ _ _ (by decide)]
      have hm : mkS (up2 S1 25 4 1) = mkS S := by
        have o1 : off [25, 26, 27, 28] S (up2 S1 25 4 1) := off_up2 (off_mono a1 (by decide)) (by decide)
        exact mkS_off o1
      rw [hm]
      exact a3 set hset
  · rw [if_neg (by rw [hf]; decide)]
    exact ⟨S, rfl, off_rfl, fun _ _ => rfl, hf, hS⟩
