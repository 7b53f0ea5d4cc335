/-! what a helper's answer tells -/
theorem ix_inv {i : Int32} {n : Nat} {k : Nat → sR} {r : Option Value × sS} (h : ix i n k = some r) : vp_in i n ∧ k i.toNatClampNeg = some r := by
  unfold ix at h
  split at h
  · cases h
  · next q => exact ⟨q, h⟩
theorem ix_eq {i : Int32} {n : Nat} {k : Nat → sR} (h : vp_in i n) : ix i n k = k i.toNatClampNeg := by
  unfold ix
  exact if_neg h
theorem dv_inv {y : Int32} {k : sR} {r : Option Value × sS} (h : dv y k = some r) : ¬ y = 0 ∧ k = some r := by
  unfold dv at h
  split at h
  · cases h
  · next q => exact ⟨q, h⟩
theorem bz_inv {y : Int32} {k : sR} {r : Option Value × sS} (h : bz y k = some r) : y &&& 1 = y ∧ k = some r := by
  unfold bz at h
  split at h
  · next q => exact ⟨q, h⟩
  · cases h
theorem cI_inv {o : sR} {k : Int32 → sS → sR} {r : Option Value × sS} (h : cI o k = some r) : ∃ x S, o = some (some (.int x), S) ∧ k x S = some r := by
  unfold cI at h
  split at h
  · exact ⟨_, _, rfl, h⟩
  · cases h
theorem cV_inv {o : sR} {k : sS → sR} {r : Option Value × sS} (h : cV o k = some r) : ∃ S, o = some (none, S) ∧ k S = some r := by
  unfold cV at h
  split at h
  · exact ⟨_, rfl, h⟩
  · cases h
theorem ldI_inv {ls : sL} {k : Nat} {f : Value → sR} {r : Option Value × sS} (h : ldI ls k f = some r) : ∃ x, nth ls k = some (some (.int x)) ∧ f (.int x) = some r := by
  unfold ldI at h
  split at h
  · next q => exact ⟨_, q, h⟩
  · cases h
theorem ldA_inv {ls : sL} {k : Nat} {f : Value → sR} {r : Option Value × sS} (h : ldA ls k f = some r) : ∃ x, nth ls k = some (some (.ref x)) ∧ f (.ref x) = some r := by
  unfold ldA at h
  split at h
  · next q => exact ⟨_, q, h⟩
  · cases h
theorem ldL_inv {ls : sL} {k : Nat} {f : Value → sR} {r : Option Value × sS} (h : ldL ls k f = some r) : ∃ x, nth ls k = some (some (.long x)) ∧ f (.long x) = some r := by
  unfold ldL at h
  split at h
  · next q => exact ⟨_, q, h⟩
  · cases h
theorem stoL_inv {ls : sL} {k : Nat} {v : Value} {f : sL → sR} {r : Option Value × sS} (h : stoL ls k v f = some r) : k < ls.length ∧ (∀ n, k = n + 1 → isL (nth ls n) = false) ∧ f (setL ls k v) = some r := by
  unfold stoL at h
  cases hb : Nat.ble ls.length k with
  | true => rw [hb] at h; cases h
  | false =>
    rw [hb] at h
    have hk : k < ls.length := by
      rcases Nat.lt_or_ge k ls.length with q | q
      · exact q
      · rw [Nat.ble_eq_true_of_le q] at hb; cases hb
    cases k with
    | zero => exact ⟨hk, (fun n e => by cases e), h⟩
    | succ n =>
      refine ⟨hk, ?_⟩
      cases hl : isL (nth ls n) with
      | true =>
        have h' : (bif isL (nth ls n) then none else f (setL ls (n + 1) v)) = some r := h
        rw [hl] at h'
        cases h'
      | false =>
        have h' : (bif isL (nth ls n) then none else f (setL ls (n + 1) v)) = some r := h
        rw [hl] at h'
        exact ⟨fun m e => by cases e; exact hl, h'⟩
theorem stoL_eq {ls : sL} {k : Nat} {v : Value} {f : sL → sR} (hk : k < ls.length) (hl : ∀ n, k = n + 1 → isL (nth ls n) = false) : stoL ls k v f = f (setL ls k v) := by
  unfold stoL
  have hb : Nat.ble ls.length k = false := by
    cases hb : Nat.ble ls.length k with
    | true => exact absurd (Nat.le_of_ble_eq_true hb) (by omega)
    | false => rfl
  rw [hb]
  cases k with
  | zero => rfl
  | succ n =>
    show (bif isL (nth ls n) then none else f (setL ls (n + 1) v)) = _
    rw [hl n rfl]
    rfl
theorem bi2_inv {st : sK} {op : Int32 → Int32 → Int32} {f : sK → sR} {r : Option Value × sS} (h : bi2 st op f = some r) : ∃ x y st', st = .int y :: .int x :: st' ∧ f (.int (op x y) :: st') = some r := by
  unfold bi2 at h
  split at h
  · exact ⟨_, _, _, rfl, h⟩
  · cases h
theorem bl2_inv {st : sK} {op : Int64 → Int64 → Int64} {f : sK → sR} {r : Option Value × sS} (h : bl2 st op f = some r) : ∃ x y st', st = .long y :: .long x :: st' ∧ f (.long (op x y) :: st') = some r := by
  unfold bl2 at h
  split at h
  · exact ⟨_, _, _, rfl, h⟩
  · cases h
theorem bs2_inv {st : sK} {op : Int64 → Int32 → Int64} {f : sK → sR} {r : Option Value × sS} (h : bs2 st op f = some r) : ∃ x y st', st = .int y :: .long x :: st' ∧ f (.long (op x y) :: st') = some r := by
  unfold bs2 at h
  split at h
  · exact ⟨_, _, _, rfl, h⟩
  · cases h
theorem mmx_inv {st : sK} {op : Int32 → Int32 → Int32} {f : sK → sR} {r : Option Value × sS} (h : mmx st op f = some r) : ∃ x y st', st = .int y :: .int x :: st' ∧ catS st' ≤ 8 ∧ f (.int (op x y) :: st') = some r := by
  unfold mmx at h
  split at h
  · next y x st' =>
    cases hb : Nat.ble (catS st') 8 with
    | true => rw [hb] at h; exact ⟨_, _, _, rfl, Nat.le_of_ble_eq_true hb, h⟩
    | false => rw [hb] at h; cases h
  · cases h
theorem mmx_eq {x y : Int32} {st' : sK} {op : Int32 → Int32 → Int32} {f : sK → sR} (h : catS st' ≤ 8) : mmx (.int y :: .int x :: st') op f = f (.int (op x y) :: st') := by
  unfold mmx
  simp only [Nat.ble_eq_true_of_le h, cond]
theorem getF_inv {lay : List sQ} {S : sS} {k ci j : Nat} {f : Value → sR} {r : Option Value × sS} (h : getF lay S k ci j f = some r) : ∃ fs, nth lay k = some (.inr (ci, fs)) ∧ ((nth fs j = some none ∧ f (.int (S k j)) = some r) ∨ ∃ q, nth fs j = some (some q) ∧ f (.ref q) = some r) := by
  unfold getF at h
  split at h
  · next c fs hq =>
    cases hb : Nat.beq c ci with
    | false => rw [hb] at h; cases h
    | true =>
      rw [hb] at h
      have hc : c = ci := Nat.eq_of_beq_eq_true hb
      subst hc
      refine ⟨fs, hq, ?_⟩
      dsimp only [cond] at h
      split at h
      · next q => exact Or.inl ⟨q, h⟩
      · next q => exact Or.inr ⟨_, q, h⟩
      · cases h
  · cases h
theorem getF_eq0 {lay : List sQ} {S : sS} {k ci j : Nat} {f : Value → sR} {fs : List (Option Nat)} (h : nth lay k = some (.inr (ci, fs))) (h2 : nth fs j = some none) : getF lay S k ci j f = f (.int (S k j)) := by
  unfold getF
  simp only [h, Nat.beq_refl, cond, h2]
theorem getF_eq1 {lay : List sQ} {S : sS} {k ci j q : Nat} {f : Value → sR} {fs : List (Option Nat)} (h : nth lay k = some (.inr (ci, fs))) (h2 : nth fs j = some (some q)) : getF lay S k ci j f = f (.ref q) := by
  unfold getF
  simp only [h, Nat.beq_refl, cond, h2]
theorem putF_inv {lay : List sQ} {S : sS} {k ci j : Nat} {v : Int32} {f : sS → sR} {r : Option Value × sS} (h : putF lay S k ci j v f = some r) : ∃ fs, nth lay k = some (.inr (ci, fs)) ∧ nth fs j = some none ∧ f (up2 S k j v) = some r := by
  unfold putF at h
  split at h
  · next c fs hq =>
    cases hb : Nat.beq c ci with
    | false => rw [hb] at h; cases h
    | true =>
      rw [hb] at h
      have hc : c = ci := Nat.eq_of_beq_eq_true hb
      subst hc
      refine ⟨fs, hq, ?_⟩
      dsimp only [cond] at h
      split at h
      · next q => exact ⟨q, h⟩
      · cases h
  · cases h
theorem putF_eq {lay : List sQ} {S : sS} {k ci j : Nat} {v : Int32} {f : sS → sR} {fs : List (Option Nat)} (h : nth lay k = some (.inr (ci, fs))) (h2 : nth fs j = some none) : putF lay S k ci j v f = f (up2 S k j v) := by
  unfold putF
  simp only [h, Nat.beq_refl, cond, h2]
theorem getA_inv {lay : List sQ} {X : sX} {S : sS} {k : Nat} {i : Int32} {f : Value → sR} {r : Option Value × sS} (h : getA lay X S k i f = some r) : (∃ n, nth lay k = some (.inl n) ∧ vp_in i n ∧ f (.int (S k i.toNatClampNeg)) = some r) ∨ ((∀ n, nth lay k ≠ some (.inl n)) ∧ k = scrR ∧ vp_in i X.1 ∧ f (.int (X.2 i.toNatClampNeg)) = some r) := by
  unfold getA at h
  split at h
  · next n hq =>
    obtain ⟨h1, h2⟩ := ix_inv h
    exact Or.inl ⟨n, hq, h1, h2⟩
  · next hq =>
    cases hb : Nat.beq k scrR with
    | false => rw [hb] at h; cases h
    | true =>
      rw [hb] at h
      dsimp only [cond] at h
      obtain ⟨h1, h2⟩ := ix_inv h
      exact Or.inr ⟨fun n e => hq n e, Nat.eq_of_beq_eq_true hb, h1, h2⟩
theorem getA_eq {lay : List sQ} {X : sX} {S : sS} {k n : Nat} {i : Int32} {f : Value → sR} (h : nth lay k = some (.inl n)) (h2 : vp_in i n) : getA lay X S k i f = f (.int (S k i.toNatClampNeg)) := by
  unfold getA
  simp only [h]
  exact ix_eq h2
theorem getA_eqX {lay : List sQ} {X : sX} {S : sS} {k : Nat} {i : Int32} {f : Value → sR} (h : ∀ n, nth lay k ≠ some (.inl n)) (hk : k = scrR) (h2 : vp_in i X.1) : getA lay X S k i f = f (.int (X.2 i.toNatClampNeg)) := by
  unfold getA
  split
  · next n hq => exact absurd hq (h n)
  · subst hk
    rw [Nat.beq_refl]
    dsimp only [cond]
    exact ix_eq h2
theorem putA_inv {lay : List sQ} {S : sS} {k : Nat} {i v : Int32} {f : sS → sR} {r : Option Value × sS} (h : putA lay S k i v f = some r) : ∃ n, nth lay k = some (.inl n) ∧ vp_in i n ∧ f (up2 S k i.toNatClampNeg v) = some r := by
  unfold putA at h
  split at h
  · next n hq =>
    obtain ⟨h1, h2⟩ := ix_inv h
    exact ⟨n, hq, h1, h2⟩
  · cases h
theorem putA_eq {lay : List sQ} {S : sS} {k n : Nat} {i v : Int32} {f : sS → sR} (h : nth lay k = some (.inl n)) (h2 : vp_in i n) : putA lay S k i v f = f (up2 S k i.toNatClampNeg v) := by
  unfold putA
  simp only [h]
  exact ix_eq h2
theorem lenA_inv {lay : List sQ} {X : sX} {k : Nat} {f : Value → sR} {r : Option Value × sS} (h : lenA lay X k f = some r) : (∃ n, nth lay k = some (.inl n) ∧ f (.int (Int32.ofNat n)) = some r) ∨ ((∀ n, nth lay k ≠ some (.inl n)) ∧ k = scrR ∧ f (.int (Int32.ofNat X.1)) = some r) := by
  unfold lenA at h
  split at h
  · next n hq => exact Or.inl ⟨n, hq, h⟩
  · next hq =>
    cases hb : Nat.beq k scrR with
    | false => rw [hb] at h; cases h
    | true =>
      rw [hb] at h
      exact Or.inr ⟨fun n e => hq n e, Nat.eq_of_beq_eq_true hb, h⟩
theorem lenA_eq {lay : List sQ} {X : sX} {k n : Nat} {f : Value → sR} (h : nth lay k = some (.inl n)) : lenA lay X k f = f (.int (Int32.ofNat n)) := by
  unfold lenA
  simp only [h]
theorem lenA_eqX {lay : List sQ} {X : sX} {k : Nat} {f : Value → sR} (h : ∀ n, nth lay k ≠ some (.inl n)) (hk : k = scrR) : lenA lay X k f = f (.int (Int32.ofNat X.1)) := by
  unfold lenA
  split
  · next n hq => exact absurd hq (h n)
  · subst hk
    rw [Nat.beq_refl]
    rfl
theorem cpyA_inv {lay : List sQ} {S : sS} {a b : Nat} {n : Int32} {f : sS → sR} {r : Option Value × sS} (h : cpyA lay S a b n f = some r) : ∃ n1, nth lay a = some (.inl n1) ∧ nth lay b = some (.inl n1) ∧ n = Int32.ofNat n1 ∧ n1 < 1000 ∧ f (upA S b (fun j => if j < n1 then S a j else S b j)) = some r := by
  unfold cpyA at h
  split at h
  · next n1 n2 h1 h2 =>
    split at h
    · next q =>
      obtain ⟨q1, q2, q3⟩ := q
      subst q1
      exact ⟨n1, h1, h2, q2, q3, h⟩
    · cases h
  · cases h
theorem cpyA_eq {lay : List sQ} {S : sS} {a b n1 : Nat} {n : Int32} {f : sS → sR} (h1 : nth lay a = some (.inl n1)) (h2 : nth lay b = some (.inl n1)) (h3 : n = Int32.ofNat n1) (h4 : n1 < 1000) : cpyA lay S a b n f = f (upA S b (fun j => if j < n1 then S a j else S b j)) := by
  unfold cpyA
  simp only [h1, h2]
  exact if_pos ⟨trivial, h3, h4⟩
theorem rcv_inv {lay : List sQ} {ci : Nat} {as : List Value} {f : sR} {r : Option Value × sS} (h : rcv lay ci as f = some r) : (∃ k fs as', as = .ref k :: as' ∧ nth lay k = some (.inr (ci, fs))) ∧ f = some r := by
  unfold rcv at h
  split at h
  · split at h
    · next c fs hq =>
      cases hb : Nat.beq c ci with
      | false => rw [hb] at h; cases h
      | true =>
        rw [hb] at h
        have hc : c = ci := Nat.eq_of_beq_eq_true hb
        subst hc
        exact ⟨⟨_, _, _, rfl, hq⟩, h⟩
    · cases h
  · cases h
theorem rcv_eq {lay : List sQ} {ci k : Nat} {as' : List Value} {fs : List (Option Nat)} {f : sR} (h : nth lay k = some (.inr (ci, fs))) : rcv lay ci (.ref k :: as') f = f := by
  unfold rcv
  simp only [h, Nat.beq_refl, cond]
theorem call_inv {C : Nat → List Value → sS → sR} {a1 a2 kd : Nat} {st : sK} {S : sS} {chk : List Value → sR → sR} {f : sK → sS → sR} {r : Option Value × sS} (h : call C a1 a2 kd st S chk f = some r) : ∃ as st', pops a2 st [] = some (as, st') ∧ catS st' ≤ 8 ∧ chk as (bif Nat.beq kd 0 then cV (C a1 as S) (fun S' => f st' S') else cI (C a1 as S) (fun r S' => f (.int r :: st') S')) = some r := by
  unfold call at h
  split at h
  · next as st' q =>
    cases hb : Nat.ble (catS st') 8 with
    | true => rw [hb] at h; exact ⟨_, _, q, Nat.le_of_ble_eq_true hb, h⟩
    | false => rw [hb] at h; cases h
  · cases h
theorem call_eq {C : Nat → List Value → sS → sR} {a1 a2 kd : Nat} {st st' : sK} {S : sS} {chk : List Value → sR → sR} {f : sK → sS → sR} {as : List Value} (h1 : pops a2 st [] = some (as, st')) (h2 : catS st' ≤ 8) : call C a1 a2 kd st S chk f = chk as (bif Nat.beq kd 0 then cV (C a1 as S) (fun S' => f st' S') else cI (C a1 as S) (fun r S' => f (.int r :: st') S')) := by
  unfold call
  simp only [h1, Nat.ble_eq_true_of_le h2, cond]
theorem swc_inv {go : sT → sR} {x : Int32} {r : Option Value × sS} : ∀ (ks : List Int32) (ts : List sT) (d : sT), swc go x ks ts d = some r → ∃ t, go t = some r ∧ ∀ g : sT → sR, swc g x ks ts d = g t := by
  intro ks
  induction ks with
  | nil => intro ts d h; exact ⟨d, h, fun g => rfl⟩
  | cons k ks ih =>
    intro ts d h
    cases ts with
    | nil => exact ⟨d, h, fun g => rfl⟩
    | cons t ts =>
      by_cases hx : x = k
      · refine ⟨t, ?_, fun g => ?_⟩
        · have h' : (if x = k then go t else swc go x ks ts d) = some r := h
          rwa [if_pos hx] at h'
        · show (if x = k then g t else swc g x ks ts d) = _
          rw [if_pos hx]
      · have h' : (if x = k then go t else swc go x ks ts d) = some r := h
        rw [if_neg hx] at h'
        obtain ⟨t', h1, h2⟩ := ih ts d h'
        refine ⟨t', h1, fun g => ?_⟩
        show (if x = k then g t else swc g x ks ts d) = _
        rw [if_neg hx]
        exact h2 g
/-! from some fuel on -/
def Ev (P : Nat → Prop) : Prop := ∃ k, ∀ n, k ≤ n → P n
theorem Ev.imp {P Q : Nat → Prop} (h : Ev P) (f : ∀ n, P n → Q n) : Ev Q := ⟨h.choose, fun n hn => f n (h.choose_spec n hn)⟩
theorem Ev.and {P Q : Nat → Prop} (h : Ev P) (h2 : Ev Q) : Ev (fun n => P n ∧ Q n) := by
  obtain ⟨a, ha⟩ := h
  obtain ⟨b, hb⟩ := h2
  exact ⟨max a b, fun n hn => ⟨ha n (by omega), hb n (by omega)⟩⟩
theorem Ev.all {P : Nat → Prop} (h : ∀ n, P n) : Ev P := ⟨0, fun n _ => h n⟩
theorem Ev.shift {P : Nat → Prop} (h : Ev P) : Ev (fun n => match n with | 0 => False | m + 1 => P m) := by
  obtain ⟨a, ha⟩ := h
  refine ⟨a + 1, fun n hn => ?_⟩
  cases n with
  | zero => omega
  | succ m => exact ha m (by omega)
theorem call_ev {C : Nat → List Value → sS → sR} {Cn : Nat → Nat → List Value → sS → sR} (hC : ∀ mi as S r, C mi as S = some r → Ev (fun n => Cn n mi as S = some r)) {a1 kd : Nat} {S : sS} {as : List Value} {st' : sK} {f : sK → sS → sR} {fn : Nat → sK → sS → sR} {r : Option Value × sS} (hf : ∀ st S, f st S = some r → Ev (fun n => fn n st S = some r))
    (h : (bif Nat.beq kd 0 then cV (C a1 as S) (fun S' => f st' S') else cI (C a1 as S) (fun r S' => f (.int r :: st') S')) = some r) : Ev (fun n => (bif Nat.beq kd 0 then cV (Cn n a1 as S) (fun S' => fn n st' S') else cI (Cn n a1 as S) (fun r S' => fn n (.int r :: st') S')) = some r) := by
  cases hb : Nat.beq kd 0 with
  | true =>
    rw [hb] at h
    obtain ⟨S', h1, h2⟩ := cV_inv h
    refine ((hC _ _ _ _ h1).and (hf _ _ h2)).imp fun n q => ?_
    show cV (Cn n a1 as S) (fun S' => fn n st' S') = some r
    rw [q.1]
    exact q.2
  | false =>
    rw [hb] at h
    obtain ⟨x, S', h1, h2⟩ := cI_inv h
    refine ((hC _ _ _ _ h1).and (hf _ _ h2)).imp fun n q => ?_
    show cI (Cn n a1 as S) (fun r S' => fn n (.int r :: st') S') = some r
    rw [q.1]
    exact q.2
set_option maxHeartbeats 4000000 in
theorem stepI_ev {lay : List sQ} {inf : Nat → Nat × Nat} {X : sX} {go : sT → sL → sK → sS → sR} {gn : Nat → sT → sL → sK → sS → sR} {C : Nat → List Value → sS → sR} {Cn : Nat → Nat → List Value → sS → sR}
    (hgo : ∀ t ls st S r, go t ls st S = some r → Ev (fun n => gn n t ls st S = some r)) (hC : ∀ mi as S r, C mi as S = some r → Ev (fun n => Cn n mi as S = some r))
    (e : sE) (ls : sL) (st : sK) (S : sS) (r : Option Value × sS) (h : stepI lay inf X go C e ls st S = some r) : Ev (fun n => stepI lay inf X (gn n) (Cn n) e ls st S = some r) := by
  obtain ⟨ins, nx, tg, a1, a2, a3, cst, lc, ks⟩ := e
  cases ins with
  | iconst _ => exact hgo _ _ _ _ _ h
  | bipush _ => exact hgo _ _ _ _ _ h
  | sipush _ => exact hgo _ _ _ _ _ h
  | ldc _ => exact hgo _ _ _ _ _ h
  | ldc_w _ => exact hgo _ _ _ _ _ h
  | ldc2_w _ => exact hgo _ _ _ _ _ h
  | iload k =>
    dsimp only [stepI] at h ⊢
    obtain ⟨x, h1, h2⟩ := ldI_inv h
    refine (hgo _ _ _ _ _ h2).imp fun n q => ?_
    simp only [ldI, h1]
    exact q
  | iload_n k =>
    dsimp only [stepI] at h ⊢
    obtain ⟨x, h1, h2⟩ := ldI_inv h
    refine (hgo _ _ _ _ _ h2).imp fun n q => ?_
    simp only [ldI, h1]
    exact q
  | aload_n k =>
    dsimp only [stepI] at h ⊢
    obtain ⟨x, h1, h2⟩ := ldA_inv h
    refine (hgo _ _ _ _ _ h2).imp fun n q => ?_
    simp only [ldA, h1]
    exact q
  | lload_n k =>
    dsimp only [stepI] at h ⊢
    obtain ⟨x, h1, h2⟩ := ldL_inv h
    refine (hgo _ _ _ _ _ h2).imp fun n q => ?_
    simp only [ldL, h1]
    exact q
  | istore k =>
    dsimp only [stepI] at h ⊢
    split at h
    · next x st' =>
      obtain ⟨h1, h2, h3⟩ := stoL_inv h
      refine (hgo _ _ _ _ _ h3).imp fun n q => ?_
      exact (stoL_eq h1 h2).trans q
    · cases h
  | istore_n k =>
    dsimp only [stepI] at h ⊢
    split at h
    · next x st' =>
      obtain ⟨h1, h2, h3⟩ := stoL_inv h
      refine (hgo _ _ _ _ _ h3).imp fun n q => ?_
      exact (stoL_eq h1 h2).trans q
    · cases h
  | iinc k c =>
    dsimp only [stepI] at h ⊢
    cases hq : nth ls k with
    | none => rw [hq] at h; cases h
    | some o =>
      cases o with
      | none => rw [hq] at h; cases h
      | some v =>
        cases v with
        | int x =>
          rw [hq] at h
          obtain ⟨h1, h2, h3⟩ := stoL_inv h
          refine (hgo _ _ _ _ _ h3).imp fun n q => ?_
          exact (stoL_eq h1 h2).trans q
        | _ => rw [hq] at h; cases h
  | iadd => dsimp only [stepI] at h ⊢; obtain ⟨x, y, st', rfl, h2⟩ := bi2_inv h; exact hgo _ _ _ _ _ h2
  | isub => dsimp only [stepI] at h ⊢; obtain ⟨x, y, st', rfl, h2⟩ := bi2_inv h; exact hgo _ _ _ _ _ h2
  | imul => dsimp only [stepI] at h ⊢; obtain ⟨x, y, st', rfl, h2⟩ := bi2_inv h; exact hgo _ _ _ _ _ h2
  | iand => dsimp only [stepI] at h ⊢; obtain ⟨x, y, st', rfl, h2⟩ := bi2_inv h; exact hgo _ _ _ _ _ h2
  | ior => dsimp only [stepI] at h ⊢; obtain ⟨x, y, st', rfl, h2⟩ := bi2_inv h; exact hgo _ _ _ _ _ h2
  | ixor => dsimp only [stepI] at h ⊢; obtain ⟨x, y, st', rfl, h2⟩ := bi2_inv h; exact hgo _ _ _ _ _ h2
  | ishl => dsimp only [stepI] at h ⊢; obtain ⟨x, y, st', rfl, h2⟩ := bi2_inv h; exact hgo _ _ _ _ _ h2
  | ishr => dsimp only [stepI] at h ⊢; obtain ⟨x, y, st', rfl, h2⟩ := bi2_inv h; exact hgo _ _ _ _ _ h2
  | iushr => dsimp only [stepI] at h ⊢; obtain ⟨x, y, st', rfl, h2⟩ := bi2_inv h; exact hgo _ _ _ _ _ h2
  | land => dsimp only [stepI] at h ⊢; obtain ⟨x, y, st', rfl, h2⟩ := bl2_inv h; exact hgo _ _ _ _ _ h2
  | lor => dsimp only [stepI] at h ⊢; obtain ⟨x, y, st', rfl, h2⟩ := bl2_inv h; exact hgo _ _ _ _ _ h2
  | lshl => dsimp only [stepI] at h ⊢; obtain ⟨x, y, st', rfl, h2⟩ := bs2_inv h; exact hgo _ _ _ _ _ h2
  | lshr => dsimp only [stepI] at h ⊢; obtain ⟨x, y, st', rfl, h2⟩ := bs2_inv h; exact hgo _ _ _ _ _ h2
  | lushr => dsimp only [stepI] at h ⊢; obtain ⟨x, y, st', rfl, h2⟩ := bs2_inv h; exact hgo _ _ _ _ _ h2
  | idiv =>
    dsimp only [stepI] at h ⊢
    split at h
    · obtain ⟨h1, h2⟩ := dv_inv h
      refine (hgo _ _ _ _ _ h2).imp fun n q => ?_
      exact (if_neg h1).trans q
    · cases h
  | irem =>
    dsimp only [stepI] at h ⊢
    split at h
    · obtain ⟨h1, h2⟩ := dv_inv h
      refine (hgo _ _ _ _ _ h2).imp fun n q => ?_
      exact (if_neg h1).trans q
    · cases h
  | ineg =>
    dsimp only [stepI] at h ⊢
    split at h
    · exact hgo _ _ _ _ _ h
    · cases h
  | i2l =>
    dsimp only [stepI] at h ⊢
    split at h
    · exact hgo _ _ _ _ _ h
    · cases h
  | l2i =>
    dsimp only [stepI] at h ⊢
    split at h
    · exact hgo _ _ _ _ _ h
    · cases h
  | dup =>
    dsimp only [stepI] at h ⊢
    split at h
    · exact hgo _ _ _ _ _ h
    · exact hgo _ _ _ _ _ h
    · cases h
  | dup2 =>
    dsimp only [stepI] at h ⊢
    split at h
    · exact hgo _ _ _ _ _ h
    · cases h
  | pop =>
    dsimp only [stepI] at h ⊢
    split at h
    · exact hgo _ _ _ _ _ h
    · cases h
  | goto _ =>
    dsimp only [stepI] at h ⊢
    split at h
    · exact hgo _ _ _ _ _ h
    · cases h
  | if_icmp c _ =>
    dsimp only [stepI] at h ⊢
    split at h
    · cases c <;> dsimp only at h ⊢ <;> split at h <;> (next q => refine (hgo _ _ _ _ _ h).imp fun n z => ?_; first | exact (if_pos q).trans z | exact (if_neg q).trans z)
    · cases h
  | ifCond c _ =>
    dsimp only [stepI] at h ⊢
    split at h
    · cases c <;> dsimp only at h ⊢ <;> split at h <;> (next q => refine (hgo _ _ _ _ _ h).imp fun n z => ?_; first | exact (if_pos q).trans z | exact (if_neg q).trans z)
    · cases h
  | tableswitch _ _ _ _ =>
    dsimp only [stepI] at h ⊢
    split at h
    · obtain ⟨t, h1, h2⟩ := swc_inv _ _ _ h
      refine (hgo _ _ _ _ _ h1).imp fun n q => ?_
      exact (h2 _).trans q
    · cases h
  | lookupswitch _ _ =>
    dsimp only [stepI] at h ⊢
    split at h
    · obtain ⟨t, h1, h2⟩ := swc_inv _ _ _ h
      refine (hgo _ _ _ _ _ h1).imp fun n q => ?_
      exact (h2 _).trans q
    · cases h
  | getfield _ =>
    dsimp only [stepI] at h ⊢
    split at h
    · obtain ⟨fs, h1, h2 | ⟨q, h2⟩⟩ := getF_inv h
      · exact (hgo _ _ _ _ _ h2.2).imp fun n z => (getF_eq0 h1 h2.1).trans z
      · exact (hgo _ _ _ _ _ h2.2).imp fun n z => (getF_eq1 h1 h2.1).trans z
    · cases h
  | putfield _ =>
    dsimp only [stepI] at h ⊢
    split at h
    · split at h
      · obtain ⟨fs, h1, h2, h3⟩ := putF_inv h
        exact (hgo _ _ _ _ _ h3).imp fun n z => (putF_eq h1 h2).trans z
      · obtain ⟨hz, h⟩ := bz_inv h
        obtain ⟨fs, h1, h2, h3⟩ := putF_inv h
        exact (hgo _ _ _ _ _ h3).imp fun n z => (if_pos hz).trans ((putF_eq h1 h2).trans z)
    · cases h
  | iaload =>
    dsimp only [stepI] at h ⊢
    split at h
    · rcases getA_inv h with ⟨n, h1, h2, h3⟩ | ⟨h1, h2, h3, h4⟩
      · exact (hgo _ _ _ _ _ h3).imp fun n z => (getA_eq h1 h2).trans z
      · exact (hgo _ _ _ _ _ h4).imp fun n z => (getA_eqX h1 h2 h3).trans z
    · cases h
  | iastore =>
    dsimp only [stepI] at h ⊢
    split at h
    · obtain ⟨n, h1, h2, h3⟩ := putA_inv h
      exact (hgo _ _ _ _ _ h3).imp fun n z => (putA_eq h1 h2).trans z
    · cases h
  | arraylength =>
    dsimp only [stepI] at h ⊢
    split at h
    · rcases lenA_inv h with ⟨n, h1, h2⟩ | ⟨h1, h2, h3⟩
      · exact (hgo _ _ _ _ _ h2).imp fun n z => (lenA_eq h1).trans z
      · exact (hgo _ _ _ _ _ h3).imp fun n z => (lenA_eqX h1 h2).trans z
    · cases h
  | invokevirtual _ =>
    dsimp only [stepI] at h ⊢
    obtain ⟨as, st', h1, hz, h2⟩ := call_inv h
    obtain ⟨⟨k, fs, as', rfl, h3⟩, h4⟩ := rcv_inv h2
    refine (call_ev (f := fun st' S' => go nx ls st' S') (fn := fun n st' S' => gn n nx ls st' S') hC (fun st S hh => hgo _ _ _ _ _ hh) h4).imp fun n z => ?_
    exact (call_eq h1 hz).trans ((rcv_eq h3).trans z)
  | invokestatic _ =>
    dsimp only [stepI] at h ⊢
    split at h
    · obtain ⟨as, st', h1, hz, h2⟩ := call_inv h
      refine (call_ev (f := fun st' S' => go nx ls st' S') (fn := fun n st' S' => gn n nx ls st' S') hC (fun st S hh => hgo _ _ _ _ _ hh) h2).imp fun n z => ?_
      exact (call_eq h1 hz).trans z
    · split at h
      · split at h
        · split at h
          · next q =>
            obtain ⟨n1, h1, h2, h3, h4, h5⟩ := cpyA_inv h
            exact (hgo _ _ _ _ _ h5).imp fun n z => (if_pos q).trans ((cpyA_eq h1 h2 h3 h4).trans z)
          · cases h
        · cases h
      · obtain ⟨x, y, st', rfl, h1, h2⟩ := mmx_inv h
        exact (hgo _ _ _ _ _ h2).imp fun n z => (mmx_eq h1).trans z
      · obtain ⟨x, y, st', rfl, h1, h2⟩ := mmx_inv h
        exact (hgo _ _ _ _ _ h2).imp fun n z => (mmx_eq h1).trans z
  | ireturn => exact Ev.all fun n => h
  | return_ => exact Ev.all fun n => h
  | _ => cases h
theorem seg_ev {lay : List sQ} {inf : Nat → Nat × Nat} {X : sX} {K : Nat → sL → sK → sS → sR} {Kn : Nat → Nat → sL → sK → sS → sR} {C : Nat → List Value → sS → sR} {Cn : Nat → Nat → List Value → sS → sR} {cod : Nat → Option sE}
    (hK : ∀ t ls st S r, K t ls st S = some r → Ev (fun n => Kn n t ls st S = some r)) (hC : ∀ mi as S r, C mi as S = some r → Ev (fun n => Cn n mi as S = some r)) :
    ∀ (f pc : Nat) (ls : sL) (st : sK) (S : sS) (r : Option Value × sS), seg lay inf X K C cod f pc ls st S = some r → Ev (fun n => seg lay inf X (Kn n) (Cn n) cod f pc ls st S = some r) := by
  intro f
  induction f with
  | zero => intro pc ls st S r h; cases h
  | succ f ih =>
    intro pc ls st S r h
    cases hc : cod pc with
    | none => simp only [seg, hc] at h; cases h
    | some e =>
      simp only [seg, hc] at h ⊢
      refine stepI_ev (fun t ls st S r h => ?_) hC e ls st S r h
      obtain ⟨t1, t2⟩ := t
      cases t2 with
      | none => exact ih _ _ _ _ _ h
      | some kp => exact hK _ _ _ _ _ h
theorem bif_ev {b : Bool} {o : sR} {on : Nat → sR} {r : Option Value × sS} (h : (bif b then o else none) = some r) (f : o = some r → Ev (fun n => on n = some r)) : Ev (fun n => (bif b then on n else none) = some r) := by
  cases b with
  | true => exact f h
  | false => cases h
section RUN
variable (lay : List sQ) (inf : Nat → Nat × Nat) (mL : Nat → Nat) (cod : Nat → Nat → Option sE) (X : sX)
theorem runN_up : ∀ (n mi pc : Nat) (ls : sL) (st : sK) (S : sS) (r : Option Value × sS), runN lay inf mL cod X n mi pc ls st S = some r → Ev (fun k => runN lay inf mL cod X k mi pc ls st S = some r) := by
  intro n
  induction n with
  | zero => intro mi pc ls st S r h; cases h
  | succ n ih =>
    intro mi pc ls st S r h
    have h2 := seg_ev (Kn := fun k => runN lay inf mL cod X k mi) (Cn := fun k mi' as S' => bif Nat.ble (catS as) (mL mi') then runN lay inf mL cod X k mi' 0 (padL (mL mi') (entL as)) [] S' else none) (fun t ls st S r h => ih _ _ _ _ _ _ h) (fun mi' as S r h => bif_ev h (fun h => ih _ _ _ _ _ _ h)) 4000 pc ls st S r h
    exact h2.shift.imp fun k hk => by
      cases k with
      | zero => exact hk.elim
      | succ k => exact hk
theorem runN_one {n m mi pc : Nat} {ls : sL} {st : sK} {S : sS} {r r' : Option Value × sS} (h : runN lay inf mL cod X n mi pc ls st S = some r) (h' : runN lay inf mL cod X m mi pc ls st S = some r') : r = r' := by
  obtain ⟨a, ha⟩ := runN_up lay inf mL cod X _ _ _ _ _ _ _ h
  obtain ⟨b, hb⟩ := runN_up lay inf mL cod X _ _ _ _ _ _ _ h'
  have h1 := ha (max a b) (by omega)
  have h2 := hb (max a b) (by omega)
  exact Option.some.inj (h1.symm.trans h2)
noncomputable def RunG (mi pc : Nat) (ls : sL) (st : sK) (S : sS) : sR :=
  haveI := Classical.propDecidable (∃ n r, runN lay inf mL cod X n mi pc ls st S = some r)
  if h : ∃ n r, runN lay inf mL cod X n mi pc ls st S = some r then some h.choose_spec.choose else none
theorem RunG_iff (mi pc : Nat) (ls : sL) (st : sK) (S : sS) (r : Option Value × sS) : RunG lay inf mL cod X mi pc ls st S = some r ↔ ∃ n, runN lay inf mL cod X n mi pc ls st S = some r := by
  unfold RunG
  split
  · next h =>
    have h1 := h.choose_spec.choose_spec
    constructor
    · intro e
      cases e
      exact ⟨_, h1⟩
    · rintro ⟨n, hn⟩
      rw [runN_one lay inf mL cod X h1 hn]
  · next h =>
    constructor
    · intro e; cases e
    · rintro ⟨n, hn⟩
      exact absurd ⟨n, r, hn⟩ h
noncomputable def CalG (mi : Nat) (as : List Value) (S : sS) : sR := bif Nat.ble (catS as) (mL mi) then RunG lay inf mL cod X mi 0 (padL (mL mi) (entL as)) [] S else none
theorem RunG_ev {mi pc : Nat} {ls : sL} {st : sK} {S : sS} {r : Option Value × sS} (h : RunG lay inf mL cod X mi pc ls st S = some r) : Ev (fun n => runN lay inf mL cod X n mi pc ls st S = some r) := by
  obtain ⟨n, hn⟩ := (RunG_iff lay inf mL cod X mi pc ls st S r).mp h
  exact runN_up lay inf mL cod X _ _ _ _ _ _ _ hn
theorem RunG_eq (mi pc : Nat) (ls : sL) (st : sK) (S : sS) : RunG lay inf mL cod X mi pc ls st S = seg lay inf X (RunG lay inf mL cod X mi) (CalG lay inf mL cod X) (cod mi) 4000 pc ls st S := by
  have a : ∀ r, RunG lay inf mL cod X mi pc ls st S = some r → seg lay inf X (RunG lay inf mL cod X mi) (CalG lay inf mL cod X) (cod mi) 4000 pc ls st S = some r := by
    intro r h
    obtain ⟨n, hn⟩ := (RunG_iff lay inf mL cod X mi pc ls st S r).mp h
    cases n with
    | zero => cases hn
    | succ n =>
      have h2 := seg_ev (Kn := fun _ => RunG lay inf mL cod X mi) (Cn := fun _ => CalG lay inf mL cod X) (fun t ls st S r h => Ev.all fun _ => (RunG_iff lay inf mL cod X mi t ls st S r).mpr ⟨n, h⟩) (fun mi' as S r h => bif_ev h (fun h => Ev.all fun _ => (RunG_iff lay inf mL cod X mi' 0 _ [] S r).mpr ⟨n, h⟩)) 4000 pc ls st S r hn
      exact h2.choose_spec _ (Nat.le_refl _)
  have b : ∀ r, seg lay inf X (RunG lay inf mL cod X mi) (CalG lay inf mL cod X) (cod mi) 4000 pc ls st S = some r → RunG lay inf mL cod X mi pc ls st S = some r := by
    intro r h
    have h2 := seg_ev (Kn := fun k => runN lay inf mL cod X k mi) (Cn := fun k mi' as S' => bif Nat.ble (catS as) (mL mi') then runN lay inf mL cod X k mi' 0 (padL (mL mi') (entL as)) [] S' else none) (fun t ls st S r h => RunG_ev lay inf mL cod X h) (fun mi' as S r h => bif_ev h (fun h => RunG_ev lay inf mL cod X h)) 4000 pc ls st S r h
    obtain ⟨k, hk⟩ := h2
    exact (RunG_iff lay inf mL cod X mi pc ls st S r).mpr ⟨k + 1, hk k (Nat.le_refl _)⟩
  cases h1 : RunG lay inf mL cod X mi pc ls st S with
  | some r => exact (a r h1).symm
  | none =>
    cases h2 : seg lay inf X (RunG lay inf mL cod X mi) (CalG lay inf mL cod X) (cod mi) 4000 pc ls st S with
    | none => rfl
    | some r =>
      have := b r h2
      rw [h1] at this
      cases this
end RUN
