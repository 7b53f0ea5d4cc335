/-! the machine's steps are the JVM's -/
def cv (adr : Nat → Nat) : Value → Value
  | .ref k => .ref (adr k)
  | v => v
def cvL (adr : Nat → Nat) : Nat → sL → List (Nat × Value)
  | _, [] => []
  | i, none :: l => cvL adr (i + 1) l
  | i, some v :: l => (i, cv adr v) :: cvL adr (i + 1) l
theorem cv_cat (adr : Nat → Nat) (v : Value) : (cv adr v).category = v.category := by cases v <;> rfl
theorem catS_map (adr : Nat → Nat) : ∀ st : sK, ((st.map (cv adr)).map fun v => v.category).sum = catS st
  | [] => rfl
  | v :: l => by
    show ((cv adr v).category + ((l.map (cv adr)).map fun v => v.category).sum) = v.category + catS l
    rw [catS_map adr l, cv_cat]
theorem cvL_mem (adr : Nat → Nat) : ∀ (l : sL) (i j : Nat) (w : Value), (j, w) ∈ cvL adr i l ↔ ∃ n v, j = i + n ∧ nth l n = some (some v) ∧ w = cv adr v := by
  intro l
  induction l with
  | nil => intro i j w; constructor
           · intro h; cases h
           · rintro ⟨n, v, -, h, -⟩; cases n <;> cases h
  | cons a l ih =>
    intro i j w
    cases a with
    | none =>
      show (j, w) ∈ cvL adr (i + 1) l ↔ _
      rw [ih]
      constructor
      · rintro ⟨n, v, h1, h2, h3⟩
        exact ⟨n + 1, v, by omega, h2, h3⟩
      · rintro ⟨n, v, h1, h2, h3⟩
        cases n with
        | zero => cases h2
        | succ n => exact ⟨n, v, by omega, h2, h3⟩
    | some u =>
      show (j, w) ∈ (i, cv adr u) :: cvL adr (i + 1) l ↔ _
      rw [List.mem_cons, ih]
      constructor
      · rintro (h | ⟨n, v, h1, h2, h3⟩)
        · cases h
          exact ⟨0, u, rfl, rfl, rfl⟩
        · exact ⟨n + 1, v, by omega, h2, h3⟩
      · rintro ⟨n, v, h1, h2, h3⟩
        cases n with
        | zero =>
          cases h2
          subst h3
          exact Or.inl (by rw [h1]; rfl)
        | succ n => exact Or.inr ⟨n, v, by omega, h2, h3⟩
theorem cvL_at {adr : Nat → Nat} {ls : Array Slot} {nL : Nat} {l : sL} (h : lv_has ls nL (cvL adr 0 l)) {k : Nat} {v : Value} (hk : nth l k = some (some v)) : ls[k]? = some (.val (cv adr v)) :=
  h.2.2 (k, cv adr v) ((cvL_mem adr l 0 k _).mpr ⟨k, v, by omega, hk, rfl⟩)
theorem lv_mono {ls : Array Slot} {nL : Nat} {l l' : List (Nat × Value)} (h : lv_has ls nL l) (hl : ∀ q ∈ l', q ∈ l) : lv_has ls nL l' := ⟨h.1, h.2.1, fun q hq => h.2.2 q (hl q hq)⟩
theorem nth_setL : ∀ (l : sL) (k n : Nat) (v : Value), nth (setL l k v) n = if n = k ∧ k < l.length then some (some v) else nth l n := by
  intro l
  induction l with
  | nil => intro k n v; cases n <;> simp [setL, nth]
  | cons a l ih =>
    intro k n v
    cases k with
    | zero =>
      cases n with
      | zero => simp [setL, nth]
      | succ n => simp [setL, nth]
    | succ k =>
      cases n with
      | zero => simp [setL, nth]
      | succ n => simp [setL, nth, ih]
theorem isL_cat {o : Option (Option Value)} (h : isL o = false) (adr : Nat → Nat) (v : Value) (ho : o = some (some v)) : ((cv adr v).category == 2) = false := by
  subst ho
  cases v <;> first | rfl | cases h
theorem cvL_set {adr : Nat → Nat} {ls : Array Slot} {nL : Nat} {l : sL} {k : Nat} {v : Value} (hk : k < l.length) (hl : ∀ n, k = n + 1 → isL (nth l n) = false) (h : lv_has ls nL ((k, cv adr v) :: (cvL adr 0 l).filter (fun q => !(q.1 == k) && !(q.1 + 1 == k && q.2.category == 2)))) : lv_has ls nL (cvL adr 0 (setL l k v)) := by
  refine lv_mono h ?_
  rintro ⟨j, w⟩ hq
  obtain ⟨n, u, h1, h2, h3⟩ := (cvL_mem adr _ 0 j w).mp hq
  have hj : j = n := by omega
  subst hj
  rw [nth_setL] at h2
  by_cases hjk : j = k
  · rw [if_pos ⟨hjk, hk⟩] at h2
    cases h2
    subst hjk; subst h3
    exact List.mem_cons_self
  · rw [if_neg (fun q => hjk q.1)] at h2
    refine List.mem_cons_of_mem _ (List.mem_filter.mpr ⟨(cvL_mem adr l 0 j w).mpr ⟨j, u, by omega, h2, h3⟩, ?_⟩)
    have e1 : (j == k) = false := by simpa using hjk
    by_cases hj1 : j + 1 = k
    · have h4 := isL_cat (hl j hj1.symm) adr u h2
      subst h3
      simp only [e1, h4]
      simp
    · have e2 : (j + 1 == k) = false := by simpa using hj1
      simp only [e1, e2]
      simp
theorem nth_msk : ∀ (bs : List Bool) (l : sL) (n : Nat) (v : Value), nth (msk bs l) n = some (some v) → nth l n = some (some v) := by
  intro bs
  induction bs with
  | nil => intro l n v h; cases n <;> cases h
  | cons b bs ih =>
    intro l n v h
    cases l with
    | nil => cases n <;> cases h
    | cons a l =>
      cases n with
      | zero =>
        cases b with
        | true => exact h
        | false => cases h
      | succ n => exact ih l n v h
theorem cvL_msk {adr : Nat → Nat} {ls : Array Slot} {nL : Nat} {l : sL} (bs : List Bool) (h : lv_has ls nL (cvL adr 0 l)) : lv_has ls nL (cvL adr 0 (msk bs l)) := by
  refine lv_mono h ?_
  rintro ⟨j, w⟩ hq
  obtain ⟨n, u, h1, h2, h3⟩ := (cvL_mem adr _ 0 j w).mp hq
  exact (cvL_mem adr l 0 j w).mpr ⟨n, u, h1, nth_msk _ _ _ _ h2, h3⟩
theorem pops_spec : ∀ (n : Nat) (st : sK) (acc as : List Value) (st' : sK), pops n st acc = some (as, st') → ∃ xs, st = xs ++ st' ∧ xs.length = n ∧ as = xs.reverse ++ acc := by
  intro n
  induction n with
  | zero => intro st acc as st' h; cases h; exact ⟨[], rfl, rfl, rfl⟩
  | succ n ih =>
    intro st acc as st' h
    cases st with
    | nil => cases h
    | cons v st =>
      obtain ⟨xs, h1, h2, h3⟩ := ih _ _ _ _ h
      exact ⟨v :: xs, by rw [h1]; rfl, by simp [h2], by rw [h3]; simp⟩
/-! the cells -/
def fldW (adr : Nat → Nat) (f : Nat → Int32) : Nat → List (Option Nat) → List Value
  | _, [] => []
  | j, none :: l => .int (f j) :: fldW adr f (j + 1) l
  | j, some r :: l => .ref (adr r) :: fldW adr f (j + 1) l
def entW (adr : Nat → Nat) (cA : ClassId) (S : sS) (k : Nat) : sQ → va_E
  | .inl n => .inl (cA, n, .inl (S k))
  | .inr (ci, fs) => .inr (ci, fldW adr (S k) 0 fs)
def wldA (adr : Nat → Nat) (cA : ClassId) (S : sS) : Nat → List sQ → va_W
  | _, [] => []
  | k, q :: l => (adr k, entW adr cA S k q) :: wldA adr cA S (k + 1) l
def wld (lay : List sQ) (adr : Nat → Nat) (cA : ClassId) (S : sS) : va_W := wldA adr cA S 0 lay
theorem nth_get {α : Type} : ∀ (l : List α) (n : Nat), nth l n = l[n]?
  | [], n => by cases n <;> rfl
  | a :: l, 0 => rfl
  | a :: l, n + 1 => by rw [List.getElem?_cons_succ]; exact nth_get l n
theorem fldW_get (adr : Nat → Nat) (f : Nat → Int32) : ∀ (l : List (Option Nat)) (j n : Nat), (fldW adr f j l)[n]? = (nth l n).map (fun o => match o with | none => .int (f (j + n)) | some r => .ref (adr r)) := by
  intro l
  induction l with
  | nil => intro j n; cases n <;> rfl
  | cons a l ih =>
    intro j n
    cases a with
    | none =>
      cases n with
      | zero => rfl
      | succ n =>
        show (Value.int (f j) :: fldW adr f (j + 1) l)[n + 1]? = _
        rw [List.getElem?_cons_succ, ih]
        show _ = (nth l n).map _
        rw [show j + 1 + n = j + (n + 1) by omega]
    | some r =>
      cases n with
      | zero => rfl
      | succ n =>
        show (Value.ref (adr r) :: fldW adr f (j + 1) l)[n + 1]? = _
        rw [List.getElem?_cons_succ, ih]
        show _ = (nth l n).map _
        rw [show j + 1 + n = j + (n + 1) by omega]
theorem fldW_len (adr : Nat → Nat) (f : Nat → Int32) : ∀ (l : List (Option Nat)) (j : Nat), (fldW adr f j l).length = l.length := by
  intro l
  induction l with
  | nil => intro j; rfl
  | cons a l ih => intro j; cases a <;> simp [fldW, ih]
theorem wldA_get (adr : Nat → Nat) (cA : ClassId) (S : sS) : ∀ (l : List sQ) (k n : Nat), (wldA adr cA S k l)[n]? = (nth l n).map (fun q => (adr (k + n), entW adr cA S (k + n) q)) := by
  intro l
  induction l with
  | nil => intro k n; cases n <;> rfl
  | cons a l ih =>
    intro k n
    cases n with
    | zero => rfl
    | succ n =>
      show ((adr k, entW adr cA S k a) :: wldA adr cA S (k + 1) l)[n + 1]? = _
      rw [List.getElem?_cons_succ, ih]
      show _ = (nth l n).map _
      rw [show k + 1 + n = k + (n + 1) by omega]
theorem wld_get (lay : List sQ) (adr : Nat → Nat) (cA : ClassId) (S : sS) (n : Nat) : (wld lay adr cA S)[n]? = (nth lay n).map (fun q => (adr n, entW adr cA S n q)) := by
  unfold wld
  rw [wldA_get]
  simp
theorem wld_arr {lay : List sQ} {adr : Nat → Nat} {cA : ClassId} {S : sS} {k n : Nat} (h : nth lay k = some (.inl n)) : (wld lay adr cA S)[k]? = some (adr k, .inl (cA, n, .inl (S k))) := by
  rw [wld_get, h]; rfl
theorem wld_obj {lay : List sQ} {adr : Nat → Nat} {cA : ClassId} {S : sS} {k ci : Nat} {fs : List (Option Nat)} (h : nth lay k = some (.inr (ci, fs))) : (wld lay adr cA S)[k]? = some (adr k, .inr (ci, fldW adr (S k) 0 fs)) := by
  rw [wld_get, h]; rfl
theorem up2_at (S : sS) (k j : Nat) (v : Int32) : up2 S k j v k = upd (S k) j v := by
  unfold up2
  rw [Nat.beq_refl]
  rfl
theorem up2_ne (S : sS) {k i : Nat} (j : Nat) (v : Int32) (h : i ≠ k) : up2 S k j v i = S i := by
  unfold up2
  cases hb : Nat.beq i k with
  | true => exact absurd (Nat.eq_of_beq_eq_true hb) h
  | false => rfl
theorem upA_at (S : sS) (k : Nat) (f : Nat → Int32) : upA S k f k = f := by
  unfold upA
  rw [Nat.beq_refl]
  rfl
theorem upA_ne (S : sS) {k i : Nat} (f : Nat → Int32) (h : i ≠ k) : upA S k f i = S i := by
  unfold upA
  cases hb : Nat.beq i k with
  | true => exact absurd (Nat.eq_of_beq_eq_true hb) h
  | false => rfl
theorem entW_eq (adr : Nat → Nat) (cA : ClassId) {S S' : sS} {k : Nat} (h : S' k = S k) (q : sQ) : entW adr cA S' k q = entW adr cA S k q := by
  cases q with
  | inl n => simp only [entW, h]
  | inr o => simp only [entW, h]
theorem wld_set {lay : List sQ} {adr : Nat → Nat} {cA : ClassId} {S S' : sS} {k : Nat} {q : sQ} (hq : nth lay k = some q) (e : va_E) (he : entW adr cA S' k q = e) (ho : ∀ i, i ≠ k → S' i = S i) : (wld lay adr cA S).set k (adr k, e) = wld lay adr cA S' := by
  refine List.ext_getElem? fun i => ?_
  by_cases hik : i = k
  · subst hik
    have h1 := wld_get lay adr cA S i
    rw [hq] at h1
    have hl := (List.getElem?_eq_some_iff.mp h1).1
    rw [List.getElem?_set_self hl, wld_get, hq, ← he]
    rfl
  · rw [List.getElem?_set_ne (Ne.symm hik), wld_get, wld_get]
    cases hn : nth lay i with
    | none => rfl
    | some x => simp only [Option.map_some, entW_eq adr cA (ho i hik)]
theorem wld_putA {lay : List sQ} {adr : Nat → Nat} {cA : ClassId} {S : sS} {k n j : Nat} {v : Int32} (h : nth lay k = some (.inl n)) : (wld lay adr cA S).set k (adr k, .inl (cA, n, .inl (upd (S k) j v))) = wld lay adr cA (up2 S k j v) :=
  wld_set h _ (by simp only [entW, up2_at]) (fun i hi => up2_ne S j v hi)
theorem fldW_set (adr : Nat → Nat) (f : Nat → Int32) {fs : List (Option Nat)} {j : Nat} {v : Int32} (h : nth fs j = some none) : fldW adr (upd f j v) 0 fs = (fldW adr f 0 fs).set j (.int v) := by
  refine List.ext_getElem? fun i => ?_
  have hl : j < (fldW adr f 0 fs).length := by
    rw [fldW_len]
    rw [nth_get] at h
    exact (List.getElem?_eq_some_iff.mp h).1
  by_cases hij : i = j
  · subst hij
    rw [List.getElem?_set_self hl, fldW_get, h]
    simp [upd]
  · rw [List.getElem?_set_ne (Ne.symm hij), fldW_get, fldW_get]
    cases hn : nth fs i with
    | none => rfl
    | some o =>
      cases o with
      | none => simp [upd, hij]
      | some r => rfl
theorem wld_putF {lay : List sQ} {adr : Nat → Nat} {cA : ClassId} {S : sS} {k ci j : Nat} {fs : List (Option Nat)} {v : Int32} (h : nth lay k = some (.inr (ci, fs))) (h2 : nth fs j = some none) : (wld lay adr cA S).set k (adr k, .inr (ci, (fldW adr (S k) 0 fs).set j (.int v))) = wld lay adr cA (up2 S k j v) :=
  wld_set h _ (by simp only [entW, up2_at, fldW_set adr (S k) h2]) (fun i hi => up2_ne S j v hi)
theorem wld_cpy {lay : List sQ} {adr : Nat → Nat} {cA : ClassId} {S : sS} {a b n : Nat} (h : nth lay b = some (.inl n)) : (wld lay adr cA S).set b (adr b, .inl (cA, n, .inl (va_cpy (S a) (S b) 0 0 n))) = wld lay adr cA (upA S b (fun j => if j < n then S a j else S b j)) := by
  refine wld_set h _ ?_ (fun i hi => upA_ne S _ hi)
  simp only [entW, upA_at]
  refine congrArg (fun z => Sum.inl (cA, n, Sum.inl z)) (funext fun j => ?_)
  simp [va_cpy]
theorem wld_D (lay : List sQ) (adr : Nat → Nat) (cA : ClassId) (S : sS) {A : Nat → Prop} (hinj : ∀ i j, i < lay.length → j < lay.length → adr i = adr j → i = j) (hA : ∀ i, i < lay.length → A (adr i)) : va_D A (wld lay adr cA S) := by
  have key : ∀ (i : Nat) (p : Nat × va_E), (wld lay adr cA S)[i]? = some p → i < lay.length ∧ p.1 = adr i := by
    intro i p h
    rw [wld_get, nth_get] at h
    cases hn : lay[i]? with
    | none => rw [hn] at h; cases h
    | some x => rw [hn] at h; cases h; exact ⟨(List.getElem?_eq_some_iff.mp hn).1, rfl⟩
  refine ⟨fun i j p q hi hj hpq => ?_, fun i p hi => ?_⟩
  · obtain ⟨a1, a2⟩ := key i p hi
    obtain ⟨b1, b2⟩ := key j q hj
    exact hinj i j a1 b1 (by rw [← a2, ← b2]; exact hpq)
  · obtain ⟨a1, a2⟩ := key i p hi
    rw [a2]
    exact hA i a1
/-! switches -/
def tswOK (pc : Nat) : List Int32 → List sT → Int → List Int → Bool
  | [], [], _, [] => true
  | k :: ks, t :: ts, lo, o :: os => decide (k.toInt = lo) && decide ((pc : Int) + o = (t.1 : Int)) && tswOK pc ks ts (lo + 1) os
  | _, _, _, _ => false
theorem tsw_go {pc : Nat} {x : Int32} {r : Option Value × sS} {go : sT → sR} : ∀ (ks : List Int32) (ts : List sT) (lo : Int) (os : List Int) (d : sT), tswOK pc ks ts lo os = true → swc go x ks ts d = some r →
    (∃ (j : Nat) (o : Int) (t : sT), go t = some r ∧ os[j]? = some o ∧ x.toInt = lo + j ∧ (pc : Int) + o = (t.1 : Int)) ∨ ((x.toInt < lo ∨ lo + os.length ≤ x.toInt) ∧ go d = some r) := by
  intro ks
  induction ks with
  | nil =>
    intro ts lo os d h hs
    cases ts with
    | nil =>
      cases os with
      | nil => exact Or.inr ⟨by simp; omega, hs⟩
      | cons o os => cases h
    | cons t ts => cases h
  | cons k ks ih =>
    intro ts lo os d h hs
    cases ts with
    | nil => cases h
    | cons t ts =>
      cases os with
      | nil => cases h
      | cons o os =>
        simp only [tswOK, Bool.and_eq_true, decide_eq_true_eq] at h
        obtain ⟨⟨h1, h2⟩, h3⟩ := h
        have hs' : (if x = k then go t else swc go x ks ts d) = some r := hs
        by_cases hx : x = k
        · rw [if_pos hx] at hs'
          exact Or.inl ⟨0, o, t, hs', rfl, by rw [hx, h1]; simp, h2⟩
        · rw [if_neg hx] at hs'
          have hne : ¬ x.toInt = lo := lv_neT hx h1
          rcases ih ts (lo + 1) os d h3 hs' with ⟨j, o', t', g1, g2, g3, g4⟩ | ⟨g1, g2⟩
          · exact Or.inl ⟨j + 1, o', t', g1, g2, by rw [g3]; omega, g4⟩
          · refine Or.inr ⟨?_, g2⟩
            rw [List.length_cons]
            omega
def lswOK (pc : Nat) : List Int32 → List sT → List (Int × Int) → Bool
  | [], [], [] => true
  | k :: ks, t :: ts, p :: ps => decide (k.toInt = p.1) && decide ((pc : Int) + p.2 = (t.1 : Int)) && lswOK pc ks ts ps
  | _, _, _ => false
theorem lsw_go {pc : Nat} {x : Int32} {r : Option Value × sS} {go : sT → sR} {dflt : Int} {d : sT} (hd : (pc : Int) + dflt = (d.1 : Int)) : ∀ (ks : List Int32) (ts : List sT) (ps : List (Int × Int)), lswOK pc ks ts ps = true → swc go x ks ts d = some r →
    ∃ t : sT, go t = some r ∧ (pc : Int) + Op.lookupswitch.offset ps dflt x.toInt = (t.1 : Int) := by
  intro ks
  induction ks with
  | nil =>
    intro ts ps h hs
    cases ts with
    | nil =>
      cases ps with
      | nil => exact ⟨d, hs, by rw [Op.lookupswitch.offset_nil]; exact hd⟩
      | cons o os => cases h
    | cons t ts => cases h
  | cons k ks ih =>
    intro ts ps h hs
    cases ts with
    | nil => cases h
    | cons t ts =>
      cases ps with
      | nil => cases h
      | cons q ps =>
        obtain ⟨a, o⟩ := q
        simp only [lswOK, Bool.and_eq_true, decide_eq_true_eq] at h
        obtain ⟨⟨h1, h2⟩, h3⟩ := h
        have hs' : (if x = k then go t else swc go x ks ts d) = some r := hs
        by_cases hx : x = k
        · rw [if_pos hx] at hs'
          refine ⟨t, hs', ?_⟩
          rw [Op.lookupswitch.offset_cons, if_pos (by rw [hx]; first | exact h1 | exact h1.symm)]
          exact h2
        · rw [if_neg hx] at hs'
          obtain ⟨t', g1, g2⟩ := ih ts ps h3 hs'
          exact ⟨t', g1, by rw [lv_osw hx h1]; exact g2⟩
/-! what is asked of a row of code -/
section CHK
variable (WT : List Cond) (inf : Nat → Nat × Nat) (mL : Nat → Nat) (mN : Nat → MethodName) (mB : Nat → ByteArray) (mR : Nat → Option FieldType) (mH : Nat → Nat) (mV : Nat → Bool)
def dec1 (bs : ByteArray) (pc : Nat) (ins : Instr) (n nx : Nat) : Bool := decide (decode bs pc = .ok (ins, n)) && decide (nx = pc + n)
def wdAt (k : Nat) (w : Cond) : Bool := decide (nth WT k = some w)
def jmp1 (pc : Nat) (off : Int) : List sT → Bool
  | [t] => decide ((pc : Int) + off = (t.1 : Int))
  | _ => false
def fldOK (own : String) (i a1 a2 a3 : Nat) : Bool := match nth vwCl a1 with
  | some (C, T, N) => decide (a2 < N) && decide ((T a2).1 = C) && wdAt WT a3 (.fieldLink own i C (T a2).2.1 (T a2).2.2.1)
  | none => false
def putOK (a1 a2 : Nat) (tg : List sT) : Bool := match nth vwCl a1 with
  | some (_, T, _) => decide ((T a2).2.2.2 = false) && (match tg with | [] => decide ((T a2).2.2.1 = "I") | _ => decide ((T a2).2.2.1 = "Z"))
  | none => false
def calOK (mi a1 : Nat) : Bool := decide (mH a1 + 1 ≤ mH mi) && decide (mL a1 + 19 ≤ 40)
def chkE (mi pc : Nat) (e : sE) : Bool := match e with
  | (ins, nx, tg, a1, a2, a3, cst, lc, ks) => match ins with
    | .iconst n => dec1 (mB mi) pc (.iconst n) 1 nx.1 && decide (Int32.ofInt n = cst)
    | .bipush n => dec1 (mB mi) pc (.bipush n) 2 nx.1 && decide ((Int8.ofInt n).toInt32 = cst)
    | .sipush n => dec1 (mB mi) pc (.sipush n) 3 nx.1 && decide ((Int16.ofInt n).toInt32 = cst)
    | .ldc i => dec1 (mB mi) pc (.ldc i) 2 nx.1 && wdAt WT a3 (.constant (mN mi).cls i cst)
    | .ldc_w i => dec1 (mB mi) pc (.ldc_w i) 3 nx.1 && wdAt WT a3 (.constant (mN mi).cls i cst)
    | .ldc2_w i => dec1 (mB mi) pc (.ldc2_w i) 3 nx.1 && wdAt WT a3 (.constantLong (mN mi).cls i lc)
    | .iload k => dec1 (mB mi) pc (.iload k) 2 nx.1
    | .iload_n k => dec1 (mB mi) pc (.iload_n k) 1 nx.1
    | .aload_n k => dec1 (mB mi) pc (.aload_n k) 1 nx.1
    | .lload_n k => dec1 (mB mi) pc (.lload_n k) 1 nx.1
    | .istore k => dec1 (mB mi) pc (.istore k) 2 nx.1 && decide (k < mL mi)
    | .istore_n k => dec1 (mB mi) pc (.istore_n k) 1 nx.1 && decide (k.val < mL mi)
    | .iinc k n => dec1 (mB mi) pc (.iinc k n) 3 nx.1 && decide (Int32.ofInt n = cst) && decide (k < mL mi)
    | .iadd => dec1 (mB mi) pc .iadd 1 nx.1
    | .isub => dec1 (mB mi) pc .isub 1 nx.1
    | .imul => dec1 (mB mi) pc .imul 1 nx.1
    | .iand => dec1 (mB mi) pc .iand 1 nx.1
    | .ior => dec1 (mB mi) pc .ior 1 nx.1
    | .ixor => dec1 (mB mi) pc .ixor 1 nx.1
    | .ishl => dec1 (mB mi) pc .ishl 1 nx.1
    | .ishr => dec1 (mB mi) pc .ishr 1 nx.1
    | .iushr => dec1 (mB mi) pc .iushr 1 nx.1
    | .idiv => dec1 (mB mi) pc .idiv 1 nx.1
    | .irem => dec1 (mB mi) pc .irem 1 nx.1
    | .ineg => dec1 (mB mi) pc .ineg 1 nx.1
    | .i2l => dec1 (mB mi) pc .i2l 1 nx.1
    | .l2i => dec1 (mB mi) pc .l2i 1 nx.1
    | .land => dec1 (mB mi) pc .land 1 nx.1
    | .lor => dec1 (mB mi) pc .lor 1 nx.1
    | .lshl => dec1 (mB mi) pc .lshl 1 nx.1
    | .lshr => dec1 (mB mi) pc .lshr 1 nx.1
    | .lushr => dec1 (mB mi) pc .lushr 1 nx.1
    | .dup => dec1 (mB mi) pc .dup 1 nx.1
    | .dup2 => dec1 (mB mi) pc .dup2 1 nx.1
    | .pop => dec1 (mB mi) pc .pop 1 nx.1
    | .goto off => dec1 (mB mi) pc (.goto off) 3 nx.1 && jmp1 pc off tg
    | .if_icmp c off => dec1 (mB mi) pc (.if_icmp c off) 3 nx.1 && jmp1 pc off tg
    | .ifCond c off => dec1 (mB mi) pc (.ifCond c off) 3 nx.1 && jmp1 pc off tg
    | .tableswitch df lo hi offs => decide (decode (mB mi) pc = .ok (.tableswitch df lo hi offs, nx.1 - pc)) && (match tg with
      | d :: ts => decide ((pc : Int) + df = (d.1 : Int)) && decide (hi + 1 = lo + offs.toList.length) && tswOK pc ks ts lo offs.toList
      | [] => false)
    | .lookupswitch df ps => decide (decode (mB mi) pc = .ok (.lookupswitch df ps, nx.1 - pc)) && (match tg with
      | d :: ts => decide ((pc : Int) + df = (d.1 : Int)) && (ps.toList.zip (ps.toList.drop 1)).all (fun (a, next) => a.1 < next.1) && lswOK pc ks ts ps.toList
      | [] => false)
    | .getfield i => dec1 (mB mi) pc (.getfield i) 3 nx.1 && fldOK WT (mN mi).cls i a1 a2 a3
    | .putfield i => dec1 (mB mi) pc (.putfield i) 3 nx.1 && fldOK WT (mN mi).cls i a1 a2 a3 && putOK a1 a2 tg
    | .iaload => dec1 (mB mi) pc .iaload 1 nx.1
    | .iastore => dec1 (mB mi) pc .iastore 1 nx.1
    | .arraylength => dec1 (mB mi) pc .arraylength 1 nx.1
    | .invokevirtual i => dec1 (mB mi) pc (.invokevirtual i) 3 nx.1 && wdAt WT a3 (.methodLink (mN mi).cls i (mN a1)) && calOK mL mH mi a1 && mV a1 && decide ((parseMethodDescriptor (mN a1).desc).map (fun d => d.parameters.length + 1) = some a2)
    | .invokestatic i => dec1 (mB mi) pc (.invokestatic i) 3 nx.1 && (match tg with
      | [] => (wdAt WT a3 (.methodLink (mN mi).cls i (mN a1)) || wdAt WT a3 (.methodLinkNest (mN mi).cls i (mN a1) "GalleryRows")) && calOK mL mH mi a1 && !mV a1 && decide ((parseMethodDescriptor (mN a1).desc).map (fun d => d.parameters.length) = some a2)
      | t :: _ => (match t.1 with
        | 0 => wdAt WT a3 (.methodLink (mN mi).cls i arraycopyName) && decide (1 ≤ mH mi)
        | 1 => wdAt WT a3 (.methodLink (mN mi).cls i Lib.Math.min.name) && decide (1 ≤ mH mi)
        | _ => wdAt WT a3 (.methodLink (mN mi).cls i Lib.Math.max.name) && decide (1 ≤ mH mi)))
    | .ireturn => dec1 (mB mi) pc .ireturn 1 nx.1 && (bif Nat.beq a1 0 then decide (mR mi = some .int) else decide (mR mi = some .boolean))
    | .return_ => dec1 (mB mi) pc .return_ 1 nx.1 && decide (mR mi = none)
    | _ => false
end CHK
