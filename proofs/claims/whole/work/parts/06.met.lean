/-! every run of the small machine is a contract -/
theorem lg_cat (adr : Nat → Nat) : ∀ as : List Value, (lg_sl (as.map (cv adr))).length = catS as := by
  intro as
  induction as with
  | nil => rfl
  | cons v l ih =>
    have h : lg_sl ((v :: l).map (cv adr)) = (if (cv adr v).category = 2 then [Slot.val (cv adr v), .second] else [.val (cv adr v)]) ++ lg_sl (l.map (cv adr)) := by simp [lg_sl]
    rw [h, List.length_append, ih]
    cases v <;> rfl
theorem cvL_pad0 (adr : Nat → Nat) : ∀ (n i : Nat), cvL adr i (padL n []) = [] := by
  intro n
  induction n with
  | zero => intro i; rfl
  | succ n ih => intro i; exact ih (i + 1)
theorem cvL_ent (adr : Nat → Nat) : ∀ (as : List Value) (n i : Nat) (q : Nat × Value), q ∈ cvL adr i (padL n (entL as)) → q ∈ lv_args i (as.map (cv adr)) := by
  intro as
  induction as with
  | nil =>
    intro n i q h
    have h' : q ∈ cvL adr i (padL n []) := h
    rw [cvL_pad0] at h'
    cases h'
  | cons v l ih =>
    have two : ∀ (u : Value) (n i : Nat) (q : Nat × Value), (cv adr u).category = 2 → q ∈ cvL adr i (padL n (some u :: none :: entL l)) → q ∈ lv_args i ((u :: l).map (cv adr)) := by
      intro u n i q hc h
      show q ∈ (i, cv adr u) :: lv_args (if (cv adr u).category = 2 then i + 2 else i + 1) (l.map (cv adr))
      rw [if_pos hc]
      cases n with
      | zero => cases h
      | succ n =>
        rcases List.mem_cons.mp h with h | h
        · rw [h]; exact List.mem_cons_self
        · cases n with
          | zero => cases h
          | succ n => exact List.mem_cons_of_mem _ (ih n (i + 2) q h)
    have one : ∀ (u : Value) (n i : Nat) (q : Nat × Value), ¬ (cv adr u).category = 2 → q ∈ cvL adr i (padL n (some u :: entL l)) → q ∈ lv_args i ((u :: l).map (cv adr)) := by
      intro u n i q hc h
      show q ∈ (i, cv adr u) :: lv_args (if (cv adr u).category = 2 then i + 2 else i + 1) (l.map (cv adr))
      rw [if_neg hc]
      cases n with
      | zero => cases h
      | succ n =>
        rcases List.mem_cons.mp h with h | h
        · rw [h]; exact List.mem_cons_self
        · exact List.mem_cons_of_mem _ (ih n (i + 1) q h)
    intro n i q h
    cases v with
    | long x => exact two (.long x) n i q rfl h
    | double x => exact two (.double x) n i q rfl h
    | int x => exact one (.int x) n i q (fun z => by cases z) h
    | float x => exact one (.float x) n i q (fun z => by cases z) h
    | null => exact one .null n i q (fun z => by cases z) h
    | ref x => exact one (.ref x) n i q (fun z => by cases z) h
    | retAddr x => exact one (.retAddr x) n i q (fun z => by cases z) h
section MET
variable {lay : List sQ} {inf : Nat → Nat × Nat} {mL : Nat → Nat} {mN : Nat → MethodName} {mB : Nat → ByteArray} {mR : Nat → Option FieldType} {mH : Nat → Nat} {mV : Nat → Bool} {WT WS nw : List Cond} {D : va_G} {adr : Nat → Nat} {cA : ClassId} {b : Nat} {X : sX} {cod : Nat → Nat → Option sE} {top : Nat}
/-- a frame, given its callees' contracts -/
theorem run_sound {p : Program} {l : Launch} {e : Env} {R : Room} {s : State} {m : MethodId} {args : Array Value} {below : List Frame} {meth : Method} {c : Code} {cells slots : Nat} {Q : State → Prop} {A0 : Nat → Prop} {H0 : Heap} {mi : Nat}
    (hT : TabOK mR WT WS nw) (hM : ∀ k, mH k + 1 ≤ top → MOK inf mL mN mB mR mV WS k) (hcm : ∀ pc en, cod mi pc = some en → chkE WT mL mN mB mR mH mV mi pc en = true) (hmi : mH mi ≤ top)
    (F : FrmOK mL mN mB mH nw WS lay D adr cA b X p R s m args c cells slots A0 H0 mi) (r : Option Value × sS)
    (hret : ∀ (pc : Nat) (ls : Array Slot) (v : Int32) (H : Heap) (locs : List Loc), decode (mB mi) pc = .ok (.ireturn, 1) → (∃ ty, mR mi = some ty ∧ narrow ty (.int v) = .int v) → r.1 = some (.int v) → va_P D vwCl (wld lay adr cA r.2) H → va_S A0 H0 H locs → W p l e R s m args below meth c H locs cells slots Q (F0 m pc ls [.int v]))
    (hretv : ∀ (pc : Nat) (ls : Array Slot) (H : Heap) (locs : List Loc), decode (mB mi) pc = .ok (.return_, 1) → mR mi = none → r.1 = none → va_P D vwCl (wld lay adr cA r.2) H → va_S A0 H0 H locs → W p l e R s m args below meth c H locs cells slots Q (F0 m pc ls []))
    (N : Nat) (hmet : ∀ k, k < N → ∀ mi' as S r', mH mi' + 1 ≤ top → catS as ≤ mL mi' → runN lay inf mL cod X k mi' 0 (padL (mL mi') (entL as)) [] S = some r' → MetS lay nw WS mL mN mB mR mH D adr cA b X l mi' as S r') :
    ∀ (n : Nat), n ≤ N → ∀ (pc : Nat) (ls : sL) (st : sK) (S : sS), runN lay inf mL cod X n mi pc ls st S = some r → ∀ (H : Heap) (locs : List Loc) (sl : Array Slot), va_P D vwCl (wld lay adr cA S) H → va_S A0 H0 H locs → lv_has sl (mL mi) (cvL adr 0 ls) → W p l e R s m args below meth c H locs cells slots Q (F0 m pc sl (st.map (cv adr))) := by
  intro n
  induction n with
  | zero => intro _ pc ls st S h; cases h
  | succ n ih =>
    intro hn pc ls st S h
    refine seg_sound hT (fun k _ hk => hM k (by omega)) F hcm r hret hretv (fun mi' as S r' h1 h2 h3 => ?_) (fun pc ls st S h => ih (by omega) pc ls st S h) 4000 pc ls st S h
    cases hb : Nat.ble (catS as) (mL mi') with
    | true =>
      rw [hb] at h3
      exact hmet n (by omega) mi' as S r' (by omega) (Nat.le_of_ble_eq_true hb) h3
    | false => rw [hb] at h3; cases h3
theorem met_all (hT : TabOK mR WT WS nw) (hM : ∀ k, mH k + 1 ≤ top → MOK inf mL mN mB mR mV WS k) (hcod : ∀ k, mH k + 1 ≤ top → ∀ pc en, cod k pc = some en → chkE WT mL mN mB mR mH mV k pc en = true)
    (hsc : adr scrR = b) (hbA : ¬ A1 lay adr b) (hinj : ∀ i j, i < lay.length → j < lay.length → adr i = adr j → i = j) (l : Launch) :
    ∀ (N : Nat) (mi : Nat) (as : List Value) (S : sS) (r : Option Value × sS), mH mi + 1 ≤ top → catS as ≤ mL mi → runN lay inf mL cod X N mi 0 (padL (mL mi) (entL as)) [] S = some r → MetS lay nw WS mL mN mB mR mH D adr cA b X l mi as S r := by
  intro N
  induction N using Nat.strongRecOn with
  | ind N ih =>
    intro mi as S r hmi hcat h
    obtain ⟨w1, w2, w3, w4, w5, w6, w7⟩ := hM mi hmi
    refine Met.ofW (cc := mB mi) (maxL := mL mi) (ret := mR mi) w4 rfl ?_
    intro p e s m args below meth c s₁ B hml hv
    obtain ⟨rfl, hP, hK, hX, hbl, hnw⟩ := hv
    have hx := B.exec
    have hb := B.bytes
    have hr := B.returns
    have hts := atoms_spec (ws := wsG WS mN mB mL mR mi) B.pre
    have hown : s.vm.findClass (mN mi).cls = some m.cls := findClass_of_methodNamed B.named
    have hlocks := B.notSynchronized
    have F : FrmOK mL mN mB mH nw WS lay D adr cA b X p (headSpec (wsG WS mN mB mL mR mi) (rmH mH mi)).room s m (as.map (cv adr)).toArray c 0 0 (A1 lay adr) s.heap mi :=
      ⟨⟨hx, hb, hml, hown, fun w hw => hts w (List.mem_cons_of_mem _ hw)⟩, hK, hX, hbl, hbA, hsc, hnw, ⟨Nat.le_refl _, Nat.le_refl _⟩, ⟨Nat.le_refl _, Nat.le_refl _⟩, fun k hk => ⟨k, hk, rfl⟩, hinj⟩
    have hlv := lv_entry (as.map (cv adr)) (n := mL mi) (by rw [lg_cat]; exact hcat)
    rw [lg_entry_eq]
    generalize (lg_sl (as.map (cv adr)) ++ List.replicate (mL mi - (lg_sl (as.map (cv adr))).length) Slot.unset).toArray = ls at hlv ⊢
    have fin : ∀ (oc : Outcome) (H : Heap) (t : State), oc = .returned r.1 → t.heap = H → s.WarmedH t.vm → va_P D vwCl (wld lay adr cA r.2) H → va_F (A1 lay adr) s t → Qr lay nw D adr cA b X r (as.map (cv adr)).toArray s oc t := by
      intro oc H t ho ht hW hPt hF
      refine ⟨⟨ho, by rw [ht]; exact hPt, va_K.moved hW.alike hK, va_X.moved hW.alike (hX.kept (hF.2 b hbl hbA)), Nat.lt_of_lt_of_le hbl hF.1, fun w hw => ?_⟩, hF⟩
      obtain ⟨a, i, y, hh, rfl⟩ := hT.2.1 w hw
      exact va_Nw.warmM hW (hnw _ hw)
    refine run_sound hT hM (hcod mi hmi) (by omega) F r ?_ ?_ N (fun k hk mi' as S r' h1 h2 h3 => ih k hk mi' as S r' h1 h2 h3) N (Nat.le_refl _) 0 _ [] S h s.heap [] ls hP va_S.rf (lv_mono hlv (fun q hq => cvL_ent adr as _ 0 q hq))
    · intro pc ls v H locs hd ⟨ty, h1, h2⟩ h3 hPH hSH
      exact W.zret hx hb (hr.trans h1) h2 (fun t ht hW => fin _ H t (by rw [h3]) ht hW hPH (hSH.F ht)) hSH.2.2 hd
    · intro pc ls H locs hd h1 h3 hPH hSH
      exact W.vret hx hb (hr.trans h1) (fun t ht hW => fin _ H t (by rw [h3]) ht hW hPH (hSH.F ht)) hSH.2.2 hd
end MET
