/-! moves -/
theorem sas (a b c d : Int32) : (a - b) + (c - d) = (a + c) - (b + d) := by
  have h : ((a - b) + (c - d)) + (b + d) = a + c := by
    rw [Int32.add_assoc, ← Int32.add_assoc (c - d) b d, Int32.add_comm (c - d) b, Int32.add_assoc b (c - d) d, Int32.sub_add_cancel, ← Int32.add_assoc, Int32.sub_add_cancel]
  rw [← h, Int32.add_sub_cancel]
theorem keyI {B A c : Nat} (hB : B ≤ 100) (hA : A ≤ 100) (hc : c ≤ 99999) : (((nI B - nI A) * 100000 + 100000) - 1) - nI c = nI (100000 * B + 99999 - c) - nI (100000 * A) := by
  apply Int32.toBitVec_inj.mp
  apply BitVec.eq_of_toNat_eq
  show ((((BitVec.ofNat 32 B - BitVec.ofNat 32 A) * BitVec.ofNat 32 100000 + BitVec.ofNat 32 100000) - BitVec.ofNat 32 1) - BitVec.ofNat 32 c).toNat = (BitVec.ofNat 32 (100000 * B + 99999 - c) - BitVec.ofNat 32 (100000 * A)).toNat
  simp only [BitVec.toNat_sub, BitVec.toNat_add, BitVec.toNat_mul, BitVec.toNat_ofNat]
  omega
theorem max_sub {K P Q : Nat} (hK : K < 2 ^ 30) (hP : P < 2 ^ 30) (hQ : Q < 2 ^ 30) : maxI (nI K) (nI P - nI Q) = nI (max K (P - Q)) := by
  by_cases q : Q ≤ P
  · rw [pk_sub q, maxI_nI (by omega) (by omega)]
  · unfold maxI
    have h1 := pk_sneg (a := P) (b := Q) hQ (by omega)
    have h2 := nI_pos' (n := K) (by omega)
    rw [if_neg (Int32.not_lt.mpr (Int32.le_of_lt (Int32.lt_of_lt_of_le h1 h2))), show P - Q = 0 by omega, Nat.max_eq_left (Nat.zero_le _)]
theorem gd_take (r : List Nat) {i j : Nat} (h : j < i) : (r.take i).getD j 0 = r.getD j 0 := by
  rw [List.getD_eq_getElem?_getD, List.getElem?_take, if_pos h, ← List.getD_eq_getElem?_getD]
theorem gd_drop (r : List Nat) (i j : Nat) : (r.drop i).getD j 0 = r.getD (i + j) 0 := by
  rw [List.getD_eq_getElem?_getD, List.getElem?_drop, ← List.getD_eq_getElem?_getD]
def otR (r : List Nat) (f : Nat) : List Nat := r.take f ++ r.drop (f + 1)
def mvR (r : List Nat) (f p : Nat) : List Nat := (otR r f).take p ++ r.getD f 0 :: (otR r f).drop p
theorem otR_len {r : List Nat} {f : Nat} (h : f < r.length) : (otR r f).length = r.length - 1 := by
  unfold otR
  rw [List.length_append, List.length_take, List.length_drop]
  omega
theorem otR_gd {r : List Nat} {f c : Nat} (h : f < r.length) : (otR r f).getD c 0 = if c < f then r.getD c 0 else r.getD (c + 1) 0 := by
  unfold otR
  have hl : (r.take f).length = f := by rw [List.length_take]; omega
  by_cases q : c < f
  · rw [if_pos q, gd_l _ _ (by rw [hl]; exact q), gd_take _ q]
  · rw [if_neg q, gd_r _ _ (by rw [hl]; omega), hl, gd_drop, show f + 1 + (c - f) = c + 1 by omega]
theorem mvR_gd {r : List Nat} {f p n : Nat} (h : f < r.length) (hp : p < r.length) : (mvR r f p).getD n 0 = if n < p then (otR r f).getD n 0 else if n = p then r.getD f 0 else (otR r f).getD (n - 1) 0 := by
  unfold mvR
  have hl : ((otR r f).take p).length = p := by rw [List.length_take, otR_len h]; omega
  by_cases q : n < p
  · rw [if_pos q, gd_l _ _ (by rw [hl]; exact q), gd_take _ q]
  · rw [if_neg q, gd_r _ _ (by rw [hl]; omega), hl]
    by_cases q2 : n = p
    · rw [if_pos q2, q2, Nat.sub_self]
      rfl
    · rw [if_neg q2]
      obtain ⟨d, hd⟩ : ∃ d, n - p = d + 1 := ⟨n - p - 1, by omega⟩
      rw [hd]
      show ((otR r f).drop p).getD d 0 = _
      rw [gd_drop, show p + d = n - 1 by omega]
theorem mvR_ok {N : Nat} {r : List Nat} (hr : RowOK N r) {f p : Nat} (hf : f < N) : RowOK N (mvR r f p) := by
  have hl := hr.1
  have e : r = r.take f ++ r.getD f 0 :: r.drop (f + 1) := by
    rw [List.getD_eq_getElem?_getD, List.getElem?_eq_getElem (by omega), Option.getD_some, ← List.drop_eq_getElem_cons (by omega), List.take_append_drop]
  have p1 : List.Perm r (r.getD f 0 :: otR r f) := by
    unfold otR
    refine List.Perm.trans (List.Perm.of_eq e) ?_
    exact List.perm_middle
  have p2 : List.Perm (mvR r f p) (r.getD f 0 :: otR r f) := by
    unfold mvR
    refine List.Perm.trans List.perm_middle ?_
    rw [List.take_append_drop]
  have p3 : List.Perm (mvR r f p) r := p2.trans p1.symm
  exact ⟨by rw [p3.length_eq]; exact hl, p3.nodup_iff.mpr hr.2.1, fun a ha => hr.2.2 a (p3.mem_iff.mp ha)⟩
/-- the wrong of the votes of a year and later; of that year -/
def ys (S : sS) (V : Nat) (r : List Nat) (y : Nat) : Nat := sm (fun v => if y ≤ nv (S 7 v) then ctw (nv (S 8 v)) (nv (S 9 v)) r else 0) V
def ye (S : sS) (V : Nat) (r : List Nat) (y : Nat) : Nat := sm (fun v => if nv (S 7 v) = y then ctw (nv (S 8 v)) (nv (S 9 v)) r else 0) V
theorem ys_e (S : sS) (V : Nat) (r : List Nat) (y : Nat) : ys S V r y = ys S V r (y + 1) + ye S V r y := by
  unfold ys ye
  rw [← sm_add]
  refine sm_congr fun v _ => ?_
  by_cases q1 : nv (S 7 v) = y
  · rw [if_pos (by omega), if_neg (by omega), if_pos q1, Nat.zero_add]
  · by_cases q2 : y ≤ nv (S 7 v)
    · rw [if_pos q2, if_pos (by omega), if_neg q1, Nat.add_zero]
    · rw [if_neg q2, if_neg (by omega), if_neg q1]
theorem ys_le {V : Nat} (hV : V ≤ 24) (S : sS) (r : List Nat) (y : Nat) : ys S V r y ≤ 72 := by
  have := sm_le (f := fun v => if y ≤ nv (S 7 v) then ctw (nv (S 8 v)) (nv (S 9 v)) r else 0) (n := V) (b := 3) (fun v _ => by
    show (if y ≤ nv (S 7 v) then ctw (nv (S 8 v)) (nv (S 9 v)) r else 0) ≤ 3
    by_cases q : y ≤ nv (S 7 v)
    · rw [if_pos q]; exact ctw_le _ _ _
    · rw [if_neg q]; exact Nat.zero_le _)
  unfold ys
  omega
theorem ys_100 {V : Nat} {S : sS} (h : ∀ v, v < V → nv (S 7 v) < 100) (r : List Nat) : ys S V r 100 = 0 := by
  unfold ys
  refine Eq.trans (sm_congr (g := fun _ => 0) fun v hv => ?_) (sm_zero V)
  have := h v hv
  rw [if_neg (by omega)]
def ky (S : sS) (V : Nat) (r : List Nat) (f p y : Nat) : Nat := (100000 * ys S V r y + 99999 - (10000 * r.getD f 0 + 100 * y + p)) - 100000 * ys S V (mvR r f p) y
/-- the greatest of them all -/
def Mx (C : Nat → Prop) (K : Nat) : Prop := 99999 ≤ K ∧ (∀ k, C k → k ≤ K) ∧ (K = 99999 ∨ C K)
theorem Mx_eq {C : Nat → Prop} {K K' : Nat} (h : Mx C K) (h' : Mx C K') : K = K' := by
  obtain ⟨a1, a2, a3⟩ := h
  obtain ⟨b1, b2, b3⟩ := h'
  have h1 : K ≤ K' := by
    rcases a3 with e | e
    · omega
    · exact b2 K e
  have h2 : K' ≤ K := by
    rcases b3 with e | e
    · omega
    · exact a2 K' e
  omega
theorem Mx_add {C C' : Nat → Prop} {K k : Nat} (h : Mx C K) (hC : ∀ x, C' x ↔ C x ∨ x = k) : Mx C' (max K k) := by
  obtain ⟨a1, a2, a3⟩ := h
  refine ⟨by omega, fun x hx => ?_, ?_⟩
  · rcases (hC x).mp hx with q | q
    · have := a2 x q; omega
    · omega
  · by_cases q : k ≤ K
    · rw [Nat.max_eq_left q]
      rcases a3 with e | e
      · exact Or.inl e
      · exact Or.inr ((hC K).mpr (Or.inl e))
    · rw [Nat.max_eq_right (by omega)]
      exact Or.inr ((hC k).mpr (Or.inr rfl))
theorem Mx_iff {C C' : Nat → Prop} {K : Nat} (h : Mx C K) (hC : ∀ x, C' x ↔ C x) : Mx C' K := by
  obtain ⟨a1, a2, a3⟩ := h
  exact ⟨a1, fun k hk => a2 k ((hC k).mp hk), a3.imp id (fun q => (hC K).mpr q)⟩
/-! the class's moves -/
theorem wrongsOf_ok {V : Nat} (hV : V ≤ 24) {S0 S : sS} {r : List Nat} (h5 : S 25 5 = nI (mkW S0 V r 1)) (h6 : S 25 6 = nI (mkW S0 V r 2)) (h7 : S 25 7 = nI (mkW S0 V r 3)) {v : Nat} (hv : v < V) (X : sX) : Cal X 100 [.ref 25, .int (nI v)] S = some (some (.int (nI (ctw (nv (S0 8 v)) (nv (S0 9 v)) r))), S) := by
  have hm := fun t => mkW_lt hV S0 r t
  have hb : ∀ t, (mkW S0 V r t).testBit v = decide (t ≤ ctw (nv (S0 8 v)) (nv (S0 9 v)) r) := by
    intro t
    unfold mkW
    rw [mk_bit, decide_eq_true hv, Bool.true_and]
  have h3 := ctw_le (nv (S0 8 v)) (nv (S0 9 v)) r
  rw [C_X7_wrongsOf, h5, h6, h7, ubit (by have := hm 1; omega) (by omega), ubit (by have := hm 2; omega) (by omega), ubit (by have := hm 3; omega) (by omega), hb, hb, hb, ← bI_nI, ← bI_nI, ← bI_nI, nI_add, nI_add]
  generalize ctw (nv (S0 8 v)) (nv (S0 9 v)) r = c at *
  rcases (show c = 0 ∨ c = 1 ∨ c = 2 ∨ c = 3 by omega) with rfl | rfl | rfl | rfl <;> rfl
theorem falls_c {N V : Nat} {r r' : List Nat} {S0 S : sS} (H : HD N V S) (hS : SOK N V S) (e8 : S 8 = S0 8) (e9 : S 9 = S0 9) (h7 : ∀ v, v < V → S 7 v = nI (nv (S0 7 v)) ∧ nv (S0 7 v) < 100) (hb : ∀ v, v < V → S 39 v = nI (ctw (nv (S0 8 v)) (nv (S0 9 v)) r)) (hr' : RowOK N r') (X : sX) : ∃ S', Cal X 61 [.ref 38, .int (nI (pk r'))] S = some (none, S') ∧ fr [40] [(25, 5), (25, 6), (25, 7)] S S' ∧ ∀ y, y < 100 → S' 40 y = nI (ye S0 V r y) - nI (ye S0 V r' y) := by
  have hV := H.2.2.2.1
  rw [C_X4_noteFalls]
  obtain ⟨S1, ⟨f1, g1⟩, e1⟩ := loop_P (F := fun k T => Run X 61 2 [some (.ref 38), some (.int (nI (pk r'))), some (.int (nI k)), none] [] T) (P := fun k T => fr [40] [(25, 5), (25, 6), (25, 7)] S T ∧ ∀ j, j < k → T 40 j = 0) 100 (by
    intro k hk T ⟨f, g⟩
    refine ⟨up2 T 40 k 0, ⟨fr_upL f (by decide), ?_⟩, ?_⟩
    · intro j hj
      rw [up2_at]
      by_cases q : j = k
      · rw [q, upd_at]
      · rw [upd_ne _ _ q]; exact g j (by omega)
    · show Run X 61 2 _ [] T = Run X 61 2 _ [] _
      rw [L_X4_noteFalls_2, l100, if_neg (nI_ge hk (by decide)), ix_nI hk (by decide), nI_1]) 0 (Nat.zero_le _) S ⟨fr_rfl, fun j hj => absurd hj (Nat.not_lt_zero j)⟩
  have H1 : HD N V S1 := HD_ag (fr_ag f1 (by decide)) H
  have w := walk_ok H1 (SOK_ag (fr_ag f1 (by decide)) hS) hr' X
  have eW : mkW S1 = mkW S0 := by
    funext V r t
    unfold mkW
    rw [fr_cell f1 8 (by decide) (by decide), fr_cell f1 9 (by decide) (by decide), e8, e9]
  rw [eW] at w
  obtain ⟨S2, hS2⟩ : ∃ S2, S2 = set3 S1 (nI (mkW S0 V r' 1)) (nI (mkW S0 V r' 2)) (nI (mkW S0 V r' 3)) := ⟨_, rfl⟩
  rw [← hS2] at w
  have f2 : fr [40] [(25, 5), (25, 6), (25, 7)] S S2 := by rw [hS2]; exact fr_trans f1 (fr_mono (fr_set3 S1 _ _ _) (by decide) (by decide))
  have q5 : S2 25 5 = nI (mkW S0 V r' 1) := by rw [hS2]; exact set3_5 S1 (nI (mkW S0 V r' 1)) (nI (mkW S0 V r' 2)) (nI (mkW S0 V r' 3))
  have q6 : S2 25 6 = nI (mkW S0 V r' 2) := by rw [hS2]; exact set3_6 S1 (nI (mkW S0 V r' 1)) (nI (mkW S0 V r' 2)) (nI (mkW S0 V r' 3))
  have q7 : S2 25 7 = nI (mkW S0 V r' 3) := by rw [hS2]; exact set3_7 S1 (nI (mkW S0 V r' 1)) (nI (mkW S0 V r' 2)) (nI (mkW S0 V r' 3))
  have z40 : ∀ j, j < 100 → S2 40 j = 0 := fun j hj => by
    rw [hS2]
    exact g1 j hj
  obtain ⟨S3, ⟨f3, g3⟩, e3⟩ := loop_P (F := fun k T => Run X 61 31 [some (.ref 38), none, some (.int (nI k)), none] [] T) (P := fun k T => fr [40] [] S2 T ∧ ∀ y, y < 100 → T 40 y = nI (ye S0 k r y) - nI (ye S0 k r' y)) V (by
    intro v hv T ⟨f, g⟩
    have fT : fr [40] [(25, 5), (25, 6), (25, 7)] S T := fr_trans f2 (fr_mono f (by decide) (by decide))
    have HT : HD N V T := HD_ag (fr_ag fT (by decide)) H
    obtain ⟨y1, y2⟩ := h7 v hv
    obtain ⟨yr, hyr⟩ : ∃ yr, yr = nv (S0 7 v) := ⟨_, rfl⟩
    rw [← hyr] at y1 y2
    have t7 : T 7 v = nI yr := by rw [fr_cell fT 7 (by decide) (by decide)]; exact y1
    have t39 : T 39 v = nI (ctw (nv (S0 8 v)) (nv (S0 9 v)) r) := by rw [fr_cell fT 39 (by decide) (by decide)]; exact hb v hv
    have wo := wrongsOf_ok hV (S := T) (S0 := S0) (r := r') (by rw [fr_fld f 25 5 (by decide) (by decide)]; exact q5) (by rw [fr_fld f 25 6 (by decide) (by decide)]; exact q6) (by rw [fr_fld f 25 7 (by decide) (by decide)]; exact q7) hv X
    have es : ∀ x y, ye S0 (v + 1) x y = ye S0 v x y + (if yr = y then ctw (nv (S0 8 v)) (nv (S0 9 v)) x else 0) := fun x y => by rw [hyr]; rfl
    refine ⟨up2 T 40 yr (nI (ye S0 (v + 1) r yr) - nI (ye S0 (v + 1) r' yr)), ⟨fr_upL f (by decide), ?_⟩, ?_⟩
    · intro y hy
      rw [up2_at]
      by_cases q : y = yr
      · rw [q, upd_at]
      · have q' : ¬ yr = y := fun e => q e.symm
        rw [upd_ne _ _ q, es, es, if_neg q', if_neg q', Nat.add_zero, Nat.add_zero]
        exact g y hy
    · show Run X 61 31 _ [] T = Run X 61 31 _ [] _
      rw [L_X4_noteFalls_31, C_X1_votes, cI_ok, HT.2.2.1, if_neg (nI_ge hv (by omega)), l24, if_neg (nI_ge (by omega) (by decide)), yearOf_ok HT hv, cI_ok, t7, if_neg (nI_pos (by omega)), l100, if_neg (nI_ge y2 (by decide)), ix_nI y2 (by decide), ix_nI (by omega) (by decide), wo, cI_ok, ix_nI y2 (by decide), t39, g yr y2, sas, nI_add, nI_add, nI_1, es, es, if_pos rfl, if_pos rfl]) 0 (Nat.zero_le _) S2 ⟨fr_rfl, fun y hy => by
      rw [z40 y hy]
      have : ∀ x, ye S0 0 x y = 0 := fun x => rfl
      rw [this, this]
      decide⟩
  refine ⟨S3, ?_, fr_trans f2 (fr_mono f3 (by decide) (by decide)), g3⟩
  refine Eq.trans e1 ?_
  show Run X 61 2 _ [] S1 = _
  rw [L_X4_noteFalls_2, l100, if_pos (nI_le (Nat.le_refl _) (by decide)), w, cV_ok]
  refine Eq.trans e3 ?_
  show Run X 61 31 _ [] S3 = _
  have s1 : S3 1 1 = nI V := by rw [fr_fld f3 1 1 (by decide) (by decide), fr_fld f2 1 1 (by decide) (by decide)]; exact H.2.2.1
  rw [L_X4_noteFalls_31, C_X1_votes, cI_ok, s1, if_pos (nI_le (Nat.le_refl _) (by omega))]
theorem try_c {N V f p K : Nat} {r : List Nat} {S0 S : sS} (H : HD N V S) (hS : SOK N V S) (e8 : S 8 = S0 8) (e9 : S 9 = S0 9) (h7 : ∀ v, v < V → S 7 v = nI (nv (S0 7 v)) ∧ nv (S0 7 v) < 100) (hb : ∀ v, v < V → S 39 v = nI (ctw (nv (S0 8 v)) (nv (S0 9 v)) r)) (hr : RowOK N r) (hf : f < N) (hp : p < N) (hK : S 38 4 = nI K) {C : Nat → Prop} (hM : Mx C K) (hKl : K < 10000000) (X : sX) : ∃ S' K', Cal X 60 [.ref 38, .int (nI (r.getD f 0)), .int (nI p), .int (nI (pk (mvR r f p)))] S = some (none, S') ∧ fr [40] [(25, 5), (25, 6), (25, 7), (38, 4)] S S' ∧ S' 38 4 = nI K' ∧ K' < 10000000 ∧ Mx (fun x => C x ∨ ∃ y, y < 100 ∧ x = ky S0 V r f p y) K' := by
  have hN := H.2.1
  have hV := H.2.2.2.1
  have hm := row_at_lt hr hf
  obtain ⟨S1, e1, f1, g1⟩ := falls_c H hS e8 e9 h7 hb (mvR_ok hr hf (p := p)) X
  rw [C_X4_tryMove, e1, cV_ok]
  have kb : ∀ y, ky S0 V r f p y < 10000000 := by
    intro y
    have := ys_le hV S0 r y
    unfold ky
    omega
  have key : ∀ d y, y + 1 = d → y < 100 → ∀ T K C, fr [40] [(25, 5), (25, 6), (25, 7), (38, 4)] S T → T 40 = S1 40 → T 38 4 = nI K → Mx C K → K < 10000000 → ∃ T' K', Run X 60 12 [some (.ref 38), some (.int (nI (r.getD f 0))), some (.int (nI p)), none, some (.int (nI (ys S0 V r (y + 1)) - nI (ys S0 V (mvR r f p) (y + 1)))), some (.int (nI y)), none] [] T = some (none, T') ∧ fr [40] [(25, 5), (25, 6), (25, 7), (38, 4)] S T' ∧ T' 38 4 = nI K' ∧ K' < 10000000 ∧ Mx (fun x => C x ∨ ∃ y', y' ≤ y ∧ x = ky S0 V r f p y') K' := by
    intro d
    induction d with
    | zero => intro y h; omega
    | succ d ih =>
      intro y hd hy T K C fT t40 tK hM hK
      have h1 := ys_le hV S0 r y
      have h2 := ys_le hV S0 (mvR r f p) y
      have efall : nI (ys S0 V r (y + 1)) - nI (ys S0 V (mvR r f p) (y + 1)) + T 40 y = nI (ys S0 V r y) - nI (ys S0 V (mvR r f p) y) := by
        rw [t40, g1 y hy, sas, nI_add, nI_add, ← ys_e, ← ys_e]
      have ekey : maxI (T 38 4) (((((nI (ys S0 V r (y + 1)) - nI (ys S0 V (mvR r f p) (y + 1)) + T 40 y) * 100000) + 100000) - 1) - (((10000 * nI (r.getD f 0)) + (100 * nI y)) + nI p)) = nI (max K (ky S0 V r f p y)) := by
        rw [efall, show (10000 : Int32) = nI 10000 from rfl, l100, pk_mul, pk_mul, nI_add, nI_add, keyI (by omega) (by omega) (by omega), tK, max_sub (by omega) (by omega) (by omega)]
        rfl
      have hM' : Mx (fun x => C x ∨ x = ky S0 V r f p y) (max K (ky S0 V r f p y)) := Mx_add hM (fun x => Iff.rfl)
      have hK' : max K (ky S0 V r f p y) < 10000000 := by have := kb y; omega
      have st1 : Run X 60 12 [some (.ref 38), some (.int (nI (r.getD f 0))), some (.int (nI p)), none, some (.int (nI (ys S0 V r (y + 1)) - nI (ys S0 V (mvR r f p) (y + 1)))), some (.int (nI y)), none] [] T = Run X 60 12 [some (.ref 38), some (.int (nI (r.getD f 0))), some (.int (nI p)), none, some (.int (nI (ys S0 V r y) - nI (ys S0 V (mvR r f p) y))), some (.int (nI y - 1)), none] [] (up2 T 38 4 (nI (max K (ky S0 V r f p y)))) := by
        rw [L_X4_tryMove_12, if_neg (nI_pos (by omega)), ix_nI hy (by decide), ekey, efall, m1_pred]
      rw [st1]
      cases y with
      | zero =>
        refine ⟨up2 T 38 4 (nI (max K (ky S0 V r f p 0))), max K (ky S0 V r f p 0), ?_, fr_upF fT (by decide), rfl, hK', Mx_iff hM' fun x => ?_⟩
        · rw [L_X4_tryMove_12, if_pos (by decide)]
        · constructor
          · rintro (q | ⟨y', h, q⟩)
            · exact Or.inl q
            · rw [show y' = 0 by omega] at q; exact Or.inr q
          · rintro (q | q)
            · exact Or.inl q
            · exact Or.inr ⟨0, Nat.le_refl _, q⟩
      | succ y =>
        obtain ⟨T', K', a1, a2, a3, a4, a5⟩ := ih y (by omega) (by omega) (up2 T 38 4 (nI (max K (ky S0 V r f p (y + 1))))) (max K (ky S0 V r f p (y + 1))) (fun x => C x ∨ x = ky S0 V r f p (y + 1)) (fr_upF fT (by decide)) t40 rfl hM' hK'
        refine ⟨T', K', by rw [nI_pred]; exact a1, a2, a3, a4, Mx_iff a5 fun x => ?_⟩
        constructor
        · rintro (q | ⟨y', h, q⟩)
          · exact Or.inl (Or.inl q)
          · by_cases hy' : y' = y + 1
            · rw [hy'] at q; exact Or.inl (Or.inr q)
            · exact Or.inr ⟨y', by omega, q⟩
        · rintro ((q | q) | ⟨y', h, q⟩)
          · exact Or.inl q
          · exact Or.inr ⟨y + 1, Nat.le_refl _, q⟩
          · exact Or.inr ⟨y', by omega, q⟩
  have h100 : ∀ x, ys S0 V x 100 = 0 := fun x => ys_100 (fun v hv => (h7 v hv).2) x
  obtain ⟨T', K', a1, a2, a3, a4, a5⟩ := key 100 99 rfl (by decide) S1 K C (fr_mono f1 (by decide) (by decide)) rfl (by rw [fr_fld f1 38 4 (by decide) (by decide)]; exact hK) hM hKl
  refine ⟨T', K', ?_, a2, a3, a4, Mx_iff a5 fun x => ?_⟩
  · rw [h100, h100] at a1
    exact a1
  · constructor
    · rintro (q | ⟨y, h, q⟩)
      · exact Or.inl q
      · exact Or.inr ⟨y, by omega, q⟩
    · rintro (q | ⟨y, h, q⟩)
      · exact Or.inl q
      · exact Or.inr ⟨y, by omega, q⟩
/-- all candidates -/
def Cd (S : sS) (N V : Nat) (r : List Nat) (x : Nat) : Prop := ∃ f p y, f < N ∧ p < N ∧ p ≠ f ∧ y < 100 ∧ x = ky S V r f p y
theorem find_c {N V : Nat} {r : List Nat} {S0 S : sS} (H : HD N V S) (hS : SOK N V S) (e8 : S 8 = S0 8) (e9 : S 9 = S0 9) (h7 : ∀ v, v < V → S 7 v = nI (nv (S0 7 v)) ∧ nv (S0 7 v) < 100) (hr : RowOK N r) (X : sX) : ∃ S' K, Cal X 54 [.ref 38, .int (nI (pk r))] S = some (some (.int (bI (decide (100000 ≤ K)))), S') ∧ fr [39, 40] [(25, 5), (25, 6), (25, 7), (38, 4)] S S' ∧ S' 38 4 = nI K ∧ K < 10000000 ∧ Mx (Cd S0 N V r) K := by
  have hN := H.2.1
  have hV := H.2.2.2.1
  have h8 := row_lt8 hr hN
  have hl : r.length ≤ 7 := by rw [hr.1]; exact hN
  have w := walk_ok H hS hr X
  have eW : mkW S = mkW S0 := by
    funext V r t
    unfold mkW
    rw [e8, e9]
  rw [eW] at w
  obtain ⟨S1, hS1⟩ : ∃ S1, S1 = set3 S (nI (mkW S0 V r 1)) (nI (mkW S0 V r 2)) (nI (mkW S0 V r 3)) := ⟨_, rfl⟩
  rw [← hS1] at w
  have f1 : fr [39, 40] [(25, 5), (25, 6), (25, 7), (38, 4)] S S1 := by rw [hS1]; exact fr_mono (fr_set3 S _ _ _) (by decide) (by decide)
  have q5 : S1 25 5 = nI (mkW S0 V r 1) := by rw [hS1]; exact set3_5 S (nI (mkW S0 V r 1)) (nI (mkW S0 V r 2)) (nI (mkW S0 V r 3))
  have q6 : S1 25 6 = nI (mkW S0 V r 2) := by rw [hS1]; exact set3_6 S (nI (mkW S0 V r 1)) (nI (mkW S0 V r 2)) (nI (mkW S0 V r 3))
  have q7 : S1 25 7 = nI (mkW S0 V r 3) := by rw [hS1]; exact set3_7 S (nI (mkW S0 V r 1)) (nI (mkW S0 V r 2)) (nI (mkW S0 V r 3))
  rw [C_X4_find, w, cV_ok]
  obtain ⟨S2, ⟨f2, g2⟩, e2⟩ := loop_P (F := fun k T => Run X 54 10 [some (.ref 38), some (.int (nI (pk r))), some (.int (nI k)), none, none, none] [] T) (P := fun k T => fr [39] [] S1 T ∧ ∀ v, v < k → T 39 v = nI (ctw (nv (S0 8 v)) (nv (S0 9 v)) r)) V (by
    intro v hv T ⟨f, g⟩
    have wo := wrongsOf_ok hV (S := T) (S0 := S0) (r := r) (by rw [fr_fld f 25 5 (by decide) (by decide)]; exact q5) (by rw [fr_fld f 25 6 (by decide) (by decide)]; exact q6) (by rw [fr_fld f 25 7 (by decide) (by decide)]; exact q7) hv X
    have t1 : T 1 1 = nI V := by rw [fr_fld f 1 1 (by decide) (by decide), fr_fld f1 1 1 (by decide) (by decide)]; exact H.2.2.1
    refine ⟨up2 T 39 v (nI (ctw (nv (S0 8 v)) (nv (S0 9 v)) r)), ⟨fr_upL f (by decide), ?_⟩, ?_⟩
    · intro j hj
      rw [up2_at]
      by_cases q : j = v
      · rw [q, upd_at]
      · rw [upd_ne _ _ q]; exact g j (by omega)
    · show Run X 54 10 _ [] T = Run X 54 10 _ [] _
      rw [L_X4_find_10, C_X1_votes, cI_ok, t1, if_neg (nI_ge hv (by omega)), l24, if_neg (nI_ge (by omega) (by decide)), wo, cI_ok, ix_nI (by omega) (by decide), nI_1]) 0 (Nat.zero_le _) S1 ⟨fr_rfl, fun j hj => absurd hj (Nat.not_lt_zero j)⟩
  have t1 : S2 1 1 = nI V := by rw [fr_fld f2 1 1 (by decide) (by decide), fr_fld f1 1 1 (by decide) (by decide)]; exact H.2.2.1
  have e2' : Run X 54 10 [some (.ref 38), some (.int (nI (pk r))), some (.int 0), none, none, none] [] S1 = Run X 54 55 [some (.ref 38), some (.int (nI (pk r))), some (.int 0), none, none, none] [] (up2 S2 38 4 99999) := by
    refine Eq.trans e2 ?_
    show Run X 54 10 _ [] S2 = _
    rw [L_X4_find_10, C_X1_votes, cI_ok, t1, if_pos (nI_le (Nat.le_refl _) (by omega))]
  rw [e2']
  obtain ⟨S3, hS3⟩ : ∃ S3, S3 = up2 S2 38 4 99999 := ⟨_, rfl⟩
  have f3 : fr [39, 40] [(25, 5), (25, 6), (25, 7), (38, 4)] S S3 := by rw [hS3]; exact fr_upF (fr_trans f1 (fr_mono f2 (by decide) (by decide))) (by decide)
  have g3 : ∀ v, v < V → S3 39 v = nI (ctw (nv (S0 8 v)) (nv (S0 9 v)) r) := by rw [hS3]; exact g2
  rw [← hS3]
  obtain ⟨S4, ⟨f4, g4, K, k1, k2, k3⟩, e4⟩ := loop_P (F := fun k T => Run X 54 55 [some (.ref 38), some (.int (nI (pk r))), some (.int (nI k)), none, none, none] [] T) (P := fun k T => fr [39, 40] [(25, 5), (25, 6), (25, 7), (38, 4)] S T ∧ T 39 = S3 39 ∧ ∃ K, T 38 4 = nI K ∧ K < 10000000 ∧ Mx (fun x => ∃ f p y, f < k ∧ p < N ∧ p ≠ f ∧ y < 100 ∧ x = ky S0 V r f p y) K) N (by
    intro fk hfk T ⟨f, g, K, k1, k2, k3⟩
    have tN : T 1 0 = nI N := by rw [fr_fld f 1 0 (by decide) (by decide)]; exact H.1
    have hm := row_at_lt hr hfk
    obtain ⟨T', ⟨f', g', K', k1', k2', k3'⟩, e'⟩ := loop_P (F := fun p U => Run X 54 82 [some (.ref 38), some (.int (nI (pk r))), some (.int (nI fk)), some (.int (nI (r.getD fk 0))), some (.int (nI (pk (otR r fk)))), some (.int (nI p))] [] U) (P := fun q U => fr [39, 40] [(25, 5), (25, 6), (25, 7), (38, 4)] S U ∧ U 39 = S3 39 ∧ ∃ K, U 38 4 = nI K ∧ K < 10000000 ∧ Mx (fun x => (∃ f p y, f < fk ∧ p < N ∧ p ≠ f ∧ y < 100 ∧ x = ky S0 V r f p y) ∨ ∃ p y, p < q ∧ p ≠ fk ∧ y < 100 ∧ x = ky S0 V r fk p y) K) N (by
      intro p hp U ⟨f, g, K, k1, k2, k3⟩
      have uN : U 1 0 = nI N := by rw [fr_fld f 1 0 (by decide) (by decide)]; exact H.1
      by_cases q : p = fk
      · subst q
        refine ⟨U, ⟨f, g, K, k1, k2, Mx_iff k3 fun x => ?_⟩, ?_⟩
        · constructor
          · rintro (h | ⟨p', y, h1, h2, h3⟩)
            · exact Or.inl h
            · exact Or.inr ⟨p', y, by omega, h2, h3⟩
          · rintro (h | ⟨p', y, h1, h2, h3⟩)
            · exact Or.inl h
            · exact Or.inr ⟨p', y, by omega, h2, h3⟩
        · show Run X 54 82 _ [] U = Run X 54 82 _ [] U
          rw [L_X4_find_82, C_X1_members, cI_ok, uN, if_neg (nI_ge hp (by omega)), if_pos rfl, nI_1]
      · have HU : HD N V U := HD_ag (fr_ag f (by decide)) H
        obtain ⟨U', K', a1, a2, a3, a4, a5⟩ := try_c (S0 := S0) (f := fk) (p := p) HU (SOK_ag (fr_ag f (by decide)) hS) ((fr_cell f 8 (by decide) (by decide)).trans e8) ((fr_cell f 9 (by decide) (by decide)).trans e9) (by rw [fr_cell f 7 (by decide) (by decide)]; exact h7) (by rw [g]; exact g3) hr hfk hp k1 k3 k2 X
        refine ⟨U', ⟨fr_trans f (fr_mono a2 (by decide) (by decide)), (fr_cell a2 39 (by decide) (by decide)).trans g, K', a3, a4, Mx_iff a5 fun x => ?_⟩, ?_⟩
        · constructor
          · rintro (h | ⟨p', y, h1, h2, h3, h4⟩)
            · exact Or.inl (Or.inl h)
            · by_cases hq : p' = p
              · rw [hq] at h4; exact Or.inr ⟨y, h3, h4⟩
              · exact Or.inl (Or.inr ⟨p', y, by omega, h2, h3, h4⟩)
          · rintro ((h | ⟨p', y, h1, h2, h3⟩) | ⟨y, h3, h4⟩)
            · exact Or.inl h
            · exact Or.inr ⟨p', y, by omega, h2, h3⟩
            · exact Or.inr ⟨p, y, by omega, q, h3, h4⟩
        · have ol : (otR r fk).length = N - 1 := by rw [otR_len (by rw [hr.1]; exact hfk), hr.1]
          have o8 : ∀ a ∈ otR r fk, a < 8 := by
            intro a ha
            unfold otR at ha
            rcases List.mem_append.mp ha with h | h
            · exact h8 a (List.mem_of_mem_take h)
            · exact h8 a (List.mem_of_mem_drop h)
          have wo := with_ok o8 (by omega) (i := p) (m := r.getD fk 0) (by omega) (by omega) X U
          show Run X 54 82 _ [] U = Run X 54 82 _ [] U'
          rw [L_X4_find_82, C_X1_members, cI_ok, uN, if_neg (nI_ge hp (by omega)), if_neg (by rw [nI_eq (by omega) (by omega)]; exact q), wo, cI_ok, show (otR r fk).take p ++ r.getD fk 0 :: (otR r fk).drop p = mvR r fk p from rfl, a1, cV_ok, nI_1]) 0 (Nat.zero_le _) T ⟨f, g, K, k1, k2, Mx_iff k3 fun x => by
        constructor
        · rintro (h | ⟨p', y, h1, h2, h3, h4⟩)
          · exact h
          · omega
        · intro h; exact Or.inl h⟩
    refine ⟨T', ⟨f', g', K', k1', k2', Mx_iff k3' fun x => ?_⟩, ?_⟩
    · constructor
      · rintro ⟨f, p, y, h1, h2, h3, h4, h5⟩
        by_cases hq : f = fk
        · rw [hq] at h3 h5; exact Or.inr ⟨p, y, h2, h3, h4, h5⟩
        · exact Or.inl ⟨f, p, y, by omega, h2, h3, h4, h5⟩
      · rintro (⟨f, p, y, h1, h2, h3, h4, h5⟩ | ⟨p, y, h2, h3, h4, h5⟩)
        · exact ⟨f, p, y, by omega, h2, h3, h4, h5⟩
        · exact ⟨fk, p, y, by omega, h2, h3, h4, h5⟩
    · have tN' : T' 1 0 = nI N := by rw [fr_fld f' 1 0 (by decide) (by decide)]; exact H.1
      show Run X 54 55 _ [] T = Run X 54 55 _ [] T'
      rw [L_X4_find_55, C_X1_members, cI_ok, tN, if_neg (nI_ge hfk (by omega)), at_ok h8 hl (by omega), cI_ok, without_ok h8 hl (by rw [hr.1]; exact hfk), cI_ok]
      refine Eq.trans e' ?_
      show Run X 54 82 _ [] T' = _
      rw [L_X4_find_82, C_X1_members, cI_ok, tN', if_pos (nI_le (Nat.le_refl _) (by omega)), nI_1]) 0 (Nat.zero_le _) S3 ⟨f3, rfl, 99999, by rw [hS3]; rfl, by decide, Nat.le_refl _, fun k hk => by obtain ⟨f, p, y, h1, _⟩ := hk; omega, Or.inl rfl⟩
  refine ⟨S4, K, ?_, f4, k1, k2, k3⟩
  refine Eq.trans e4 ?_
  show Run X 54 55 _ [] S4 = _
  have tN : S4 1 0 = nI N := by rw [fr_fld f4 1 0 (by decide) (by decide)]; exact H.1
  rw [L_X4_find_55, C_X1_members, cI_ok, tN, if_pos (nI_le (Nat.le_refl _) (by omega)), k1, show (100000 : Int32) = nI 100000 from rfl]
  by_cases q : 100000 ≤ K
  · rw [if_neg (nI_nlt q (by omega)), decide_eq_true q]
    rfl
  · rw [if_pos (nI_lt (by omega) (by omega)), decide_eq_false q]
    rfl
