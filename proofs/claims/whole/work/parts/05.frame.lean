/-! one frame: straight on by seg -/
def rmH (mH : Nat → Nat) (k : Nat) : Room := { frames := mH k, cells := 0, slots := 0, locals := 40 * mH k }
def wsG (WS : List Cond) (mN : Nat → MethodName) (mB : Nat → ByteArray) (mL : Nat → Nat) (mR : Nat → Option FieldType) (k : Nat) : List Cond := .code (mN k) (mB k) (mL k) (mR k) :: WS
/-- the world as a method finds it: the cells, the classes, the script, the nest mates' links -/
def wC (lay : List sQ) (nw : List Cond) (D : va_G) (adr : Nat → Nat) (cA : ClassId) (b : Nat) (X : sX) (S : sS) (U : State) : Prop :=
  va_P D vwCl (wld lay adr cA S) U.heap ∧ va_K D vwCl [(cA, .int)] U ∧ va_X b X.1 X.2 U U.heap ∧ b < U.heap.size ∧ ∀ w ∈ nw, va_Nw w U
def A1 (lay : List sQ) (adr : Nat → Nat) : Nat → Prop := fun q => ∃ k, k < lay.length ∧ q = adr k
def Qr (lay : List sQ) (nw : List Cond) (D : va_G) (adr : Nat → Nat) (cA : ClassId) (b : Nat) (X : sX) (r : Option Value × sS) : Array Value → State → Outcome → State → Prop := fun _ st oc t =>
  (oc = .returned r.1 ∧ wC lay nw D adr cA b X r.2 t) ∧ va_F (A1 lay adr) st t
def MetS (lay : List sQ) (nw WS : List Cond) (mL : Nat → Nat) (mN : Nat → MethodName) (mB : Nat → ByteArray) (mR : Nat → Option FieldType) (mH : Nat → Nat) (D : va_G) (adr : Nat → Nat) (cA : ClassId) (b : Nat) (X : sX) (l : Launch) (mi : Nat) (as : List Value) (S : sS) (r : Option Value × sS) : Prop :=
  Met l (mN mi) (wsG WS mN mB mL mR mi) (rmH mH mi) (va_Pc (as.map (cv adr)) (wC lay nw D adr cA b X S)) (Qr lay nw D adr cA b X r) 0 0 (A1 lay adr)
section FRM
variable {p : Program} {l : Launch} {e : Env} {R : Room} {s : State} {m : MethodId} {args : Array Value} {below : List Frame} {meth : Method} {c : Code} {H : Heap} {locs : List Loc} {cells slots : Nat} {Q : State → Prop}
theorem call_go {pc : Nat} {ls : Array Slot} {st0 rest : List Value} {A0 A1 : Nat → Prop} {H0 : Heap} {free : Addr → Prop} {v : Option Value} {B : State → Prop}
    (hr : va_Run p l e R s m args below meth c H locs cells slots 0 0 (F0 m pc ls st0) rest (fun st oc t => (oc = .returned v ∧ B t) ∧ va_F A1 st t) free) (hS : va_S A0 H0 H locs) (hA : ∀ q, A1 q → A0 q) (hf : ∀ q, free q → A0 q)
    (kk : ∀ (t : State) (H1 : Heap) (locs1 : List Loc), t.heap = H1 → B t → va_S A0 H0 H1 locs1 → W p l e R s m args below meth c H1 locs1 cells slots Q (F0 m (pc + 3) ls (v.toList ++ rest))) : W p l e R s m args below meth c H locs cells slots Q (F0 m pc ls st0) := by
  intro T hT X
  obtain ⟨v', st₀, t, T', L, h0, X', hL, e1, e2, ⟨⟨hv, hb⟩, hz, hk⟩, st⟩ := hr T hT X
  cases hv
  rw [h0] at hz hk
  obtain ⟨t2, a1, b1⟩ := kk t T'.heap (locs ++ L) e1.symm hb
    ⟨Nat.le_trans hS.1 (by rw [e1]; exact hz), fun q h1 h2 => by rw [e1, hk q (Nat.lt_of_lt_of_le h1 hS.1) (fun z => h2 (hA q z))]; exact hS.2.1 q h1 h2, fun q hq => by
      rcases List.mem_append.mp hq with h | h
      · exact hS.2.2 q h
      · exact hf _ (hL q h)⟩ T' rfl X'
  exact ⟨t2, st t2 a1, b1⟩
variable {lay : List sQ} {inf : Nat → Nat × Nat} {mL : Nat → Nat} {mN : Nat → MethodName} {mB : Nat → ByteArray} {mR : Nat → Option FieldType} {mH : Nat → Nat} {mV : Nat → Bool} {WT WS nw : List Cond} {D : va_G} {adr : Nat → Nat} {cA : ClassId} {b : Nat} {X : sX}
/-- what the tables of methods and classes hold -/
def TabOK (mR : Nat → Option FieldType) (WT WS nw : List Cond) : Prop :=
  (∀ w ∈ WT, (∃ a i y h, w = .methodLinkNest a i y h) → w ∈ nw) ∧
  (∀ w ∈ nw, ∃ a i y h, w = .methodLinkNest a i y h) ∧
  (∀ w ∈ WS, goodWord w = true) ∧
  (∀ w ∈ WT, goodWord w = true → w ∈ WS) ∧
  (∀ (ci : Nat) (C : String) (T : u_T) (N : Nat), vwCl[ci]? = some (C, T, N) → (∀ w ∈ u_ws C T N, w ∈ WS) ∧ (∀ a, a < N → ∀ b, b < N → a ≠ b → (T a).2.1 ≠ (T b).2.1) ∧ ∃ ty : Nat → FieldType, ∀ k, k < N → parseFieldDescriptor (T k).2.2.1 = some (ty k)) ∧
  (∀ k, mR k = none ∨ mR k = some .int ∨ mR k = some .boolean) ∧
  (.native arraycopyName ∈ WS ∧ .static arraycopyName ∈ WS ∧ .initialized "java/lang/System" ∈ WS) ∧
  (.static Lib.Math.min.name ∈ WS ∧ .static Lib.Math.max.name ∈ WS ∧ .initialized "java/lang/Math" ∈ WS ∧ .code Lib.Math.min.name Lib.Math.min.code 2 (some .int) ∈ WS ∧ .code Lib.Math.max.name Lib.Math.max.code 2 (some .int) ∈ WS)
/-- what a called method's words are -/
def MOK (inf : Nat → Nat × Nat) (mL : Nat → Nat) (mN : Nat → MethodName) (mB : Nat → ByteArray) (mR : Nat → Option FieldType) (mV : Nat → Bool) (WS : List Cond) (k : Nat) : Prop :=
  .code (mN k) (mB k) (mL k) (mR k) ∈ WS ∧ .initialized (mN k).cls ∈ WS ∧ ((mN k).cls ≠ "java/lang/invoke/MethodHandle" ∧ (mN k).cls ≠ "java/lang/invoke/VarHandle") ∧ plainName (mN k).cls = true ∧ ((inf k).1 = 0 ↔ mR k = none) ∧
  (mV k = true → .instanceMethod (mN k) ∈ WS ∧ .selects (mN k).cls (mN k) (mN k) ∈ WS ∧ ∃ (T : u_T) (N : Nat), vwCl[(inf k).2]? = some ((mN k).cls, T, N)) ∧ (mV k = false → .static (mN k) ∈ WS)
theorem wC_moved {S : sS} {u U : State} (hvm : u.vm.Alike U.vm) (hh : u.heap = U.heap) (hn : ∀ w ∈ nw, va_Nw w u → va_Nw w U) (h : wC lay nw D adr cA b X S u) : wC lay nw D adr cA b X S U := by
  obtain ⟨h1, h2, h3, h4, h5⟩ := h
  refine ⟨by rw [← hh]; exact h1, va_K.moved hvm h2, ?_, by rw [← hh]; exact h4, fun w hw => hn w hw (h5 w hw)⟩
  rw [← hh]
  exact va_X.moved hvm h3
theorem wC_blind (hT : TabOK mR WT WS nw) {S : sS} {av : List Value} : FrameBlind (va_Pc av (wC lay nw D adr cA b X S)) := by
  intro a U g mk q
  refine ⟨q.1, wC_moved (u := U) (U := U.calling g mk a) (Vm.Alike.refl U.vm) rfl (fun w hw hz => ?_) q.2⟩
  obtain ⟨a', i, y, h, rfl⟩ := hT.2.1 w hw
  exact va_Nw.same rfl rfl hz
/-- what stands fast while a frame runs -/
def FrmOK (mL : Nat → Nat) (mN : Nat → MethodName) (mB : Nat → ByteArray) (mH : Nat → Nat) (nw WS : List Cond) (lay : List sQ) (D : va_G) (adr : Nat → Nat) (cA : ClassId) (b : Nat) (X : sX) (p : Program) (R : Room) (s : State) (m : MethodId) (args : Array Value) (c : Code) (cells slots : Nat) (A0 : Nat → Prop) (H0 : Heap) (mi : Nat) : Prop :=
  (p.tables.exec = Jvm.exec ∧ c.code = mB mi ∧ c.maxLocals = mL mi ∧ s.vm.findClass (mN mi).cls = some m.cls ∧ ∀ w ∈ WS, w.before args s = true) ∧
  va_K D vwCl [(cA, .int)] s ∧ va_X b X.1 X.2 s H0 ∧ b < H0.size ∧ ¬ A0 b ∧ adr scrR = b ∧ (∀ w ∈ nw, va_Nw w s) ∧
  (mH mi ≤ R.frames ∧ 40 * mH mi ≤ R.locals) ∧ (cells ≤ R.cells ∧ slots ≤ R.slots) ∧ (∀ k, k < lay.length → A0 (adr k)) ∧ (∀ i j, i < lay.length → j < lay.length → adr i = adr j → i = j)
theorem dec1_spec {bs : ByteArray} {pc : Nat} {ins : Instr} {n nx : Nat} (h : dec1 bs pc ins n nx = true) : decode bs pc = .ok (ins, n) ∧ nx = pc + n := by
  simp only [dec1, Bool.and_eq_true, decide_eq_true_eq] at h
  exact h
theorem wdAt_spec {k : Nat} {w : Cond} (h : wdAt WT k w = true) : w ∈ WT := by
  simp only [wdAt, decide_eq_true_eq, nth_get] at h
  exact List.mem_of_getElem? h
theorem jmp1_spec {pc : Nat} {off : Int} {tg : List sT} (h : jmp1 pc off tg = true) : ∃ t, tg = [t] ∧ (pc : Int) + off = (t.1 : Int) := by
  unfold jmp1 at h
  split at h
  · exact ⟨_, rfl, by simpa using h⟩
  · cases h
theorem fldOK_spec {own : String} {i a1 a2 a3 : Nat} (h : fldOK WT own i a1 a2 a3 = true) : ∃ (C : String) (T : u_T) (N : Nat), vwCl[a1]? = some (C, T, N) ∧ a2 < N ∧ (T a2).1 = C ∧ Cond.fieldLink own i C (T a2).2.1 (T a2).2.2.1 ∈ WT := by
  unfold fldOK at h
  split at h
  · next C T N hq =>
    simp only [Bool.and_eq_true, decide_eq_true_eq] at h
    rw [nth_get] at hq
    exact ⟨C, T, N, hq, h.1.1, h.1.2, wdAt_spec h.2⟩
  · cases h
theorem bz_fits {v : Int32} (h : v &&& 1 = v) : narrow .boolean (.int v) = .int v ∧ fits .boolean (.int v) = true := by
  have h1 : narrow .boolean (.int v) = .int v := by show Value.int (v &&& 1) = _; rw [h]
  refine ⟨h1, ?_⟩
  have h2 := fits_narrow_boolean v
  rwa [h1] at h2
set_option maxHeartbeats 8000000 in
theorem seg_sound {A0 : Nat → Prop} {H0 : Heap} {mi : Nat} (hT : TabOK mR WT WS nw) (hM : ∀ k, mL k + 19 ≤ 40 → mH k + 1 ≤ mH mi → MOK inf mL mN mB mR mV WS k) (F : FrmOK mL mN mB mH nw WS lay D adr cA b X p R s m args c cells slots A0 H0 mi)
    {cod : Nat → Option sE} (hcod : ∀ pc en, cod pc = some en → chkE WT mL mN mB mR mH mV mi pc en = true) {K : Nat → sL → sK → sS → sR} {C : Nat → List Value → sS → sR} (r : Option Value × sS)
    (hret : ∀ (pc : Nat) (ls : Array Slot) (v : Int32) (H : Heap) (locs : List Loc), decode (mB mi) pc = .ok (.ireturn, 1) → (∃ ty, mR mi = some ty ∧ narrow ty (.int v) = .int v) → r.1 = some (.int v) → va_P D vwCl (wld lay adr cA r.2) H → va_S A0 H0 H locs → W p l e R s m args below meth c H locs cells slots Q (F0 m pc ls [.int v]))
    (hretv : ∀ (pc : Nat) (ls : Array Slot) (H : Heap) (locs : List Loc), decode (mB mi) pc = .ok (.return_, 1) → mR mi = none → r.1 = none → va_P D vwCl (wld lay adr cA r.2) H → va_S A0 H0 H locs → W p l e R s m args below meth c H locs cells slots Q (F0 m pc ls []))
    (hC : ∀ mi' as S r', mH mi' + 1 ≤ mH mi → mL mi' + 19 ≤ 40 → C mi' as S = some r' → MetS lay nw WS mL mN mB mR mH D adr cA b X l mi' as S r')
    (hK : ∀ pc ls st S, K pc ls st S = some r → ∀ (H : Heap) (locs : List Loc) (sl : Array Slot), va_P D vwCl (wld lay adr cA S) H → va_S A0 H0 H locs → lv_has sl (mL mi) (cvL adr 0 ls) → W p l e R s m args below meth c H locs cells slots Q (F0 m pc sl (st.map (cv adr)))) :
    ∀ (f pc : Nat) (ls : sL) (st : sK) (S : sS), seg lay inf X K C cod f pc ls st S = some r → ∀ (H : Heap) (locs : List Loc) (sl : Array Slot), va_P D vwCl (wld lay adr cA S) H → va_S A0 H0 H locs → lv_has sl (mL mi) (cvL adr 0 ls) → W p l e R s m args below meth c H locs cells slots Q (F0 m pc sl (st.map (cv adr))) := by
  obtain ⟨⟨hx, hb, hml, hown, hts⟩, hKK, hX, hbl, hbA, hab, hnw, ⟨hrf, hrl⟩, ⟨hcl, hsl⟩, hAk, hinj⟩ := F
  intro f
  induction f with
  | zero => intro pc ls st S h; cases h
  | succ f ih =>
    intro pc ls st S h H locs sl hP hS hl
    cases hc : cod pc with
    | none => simp only [seg, hc] at h; cases h
    | some en =>
      simp only [seg, hc] at h
      have hck := hcod pc en hc
      generalize hgo : (fun (t : sT) (ls : sL) (st : sK) (S : sS) => (match t.2 with
        | none => seg lay inf X K C cod f t.1 ls st S
        | some kp => K t.1 (msk kp ls) st S)) = go at h
      have gs : ∀ (t : sT) (ls : sL) (st : sK) (S : sS), go t ls st S = some r → ∀ (H : Heap) (locs : List Loc) (sl : Array Slot), va_P D vwCl (wld lay adr cA S) H → va_S A0 H0 H locs → lv_has sl (mL mi) (cvL adr 0 ls) → W p l e R s m args below meth c H locs cells slots Q (F0 m t.1 sl (st.map (cv adr))) := by
        intro t ls st S h H locs sl hP hS hl
        rw [← hgo] at h
        obtain ⟨t1, t2⟩ := t
        cases t2 with
        | none => exact ih _ _ _ _ h H locs sl hP hS hl
        | some kp => exact hK _ _ _ _ h H locs sl hP hS (cvL_msk kp hl)
      clear hgo hc
      have hwd : ∀ w ∈ WT, goodWord w = true → w.before args s = true := fun w h1 h2 => hts w (hT.2.2.2.1 w h1 h2)
      have hDD : ∀ S : sS, va_D A0 (wld lay adr cA S) := fun S => wld_D lay adr cA S hinj hAk
      have FLT : ∀ {fs : List (Option Nat)} {f : Nat → Int32} {j : Nat}, nth fs j = some none → j < (fldW adr f 0 fs).length := fun h2 => by rw [fldW_len]; rw [nth_get] at h2; exact (List.getElem?_eq_some_iff.mp h2).1
      have A1A0 : ∀ q, A1 lay adr q → A0 q := by
        rintro q ⟨k, hk, rfl⟩
        exact hAk k hk
      have WCU : ∀ {U : State}, U.heap = H → s.WarmedH U.vm → wC lay nw D adr cA b X S U := by
        intro U hU hW
        refine ⟨by rw [hU]; exact hP, va_K.moved hW.alike hKK, ?_, by rw [hU]; exact Nat.lt_of_lt_of_le hbl hS.1, fun w hw => ?_⟩
        · rw [hU]
          exact va_X.moved hW.alike (hX.kept (hS.2.1 b hbl hbA))
        · obtain ⟨a, i, y, hh, rfl⟩ := hT.2.1 w hw
          exact va_Nw.warmM hW (hnw _ hw)
      obtain ⟨ins, nx, tg, a1, a2, a3, cst, lc, ks⟩ := en
      cases ins with
      | iconst n =>
        simp only [chkE, Bool.and_eq_true, decide_eq_true_eq] at hck
        dsimp only [stepI] at h
        obtain ⟨hd, hnx⟩ := dec1_spec hck.1
        have g := gs _ _ _ _ h H locs sl hP hS hl
        rw [hnx] at g
        exact lv_iconst hx hb hd hck.2 g
      | bipush n =>
        simp only [chkE, Bool.and_eq_true, decide_eq_true_eq] at hck
        dsimp only [stepI] at h
        obtain ⟨hd, hnx⟩ := dec1_spec hck.1
        have g := gs _ _ _ _ h H locs sl hP hS hl
        rw [hnx] at g
        exact lv_bipush hx hb hd hck.2 g
      | sipush n =>
        simp only [chkE, Bool.and_eq_true, decide_eq_true_eq] at hck
        dsimp only [stepI] at h
        obtain ⟨hd, hnx⟩ := dec1_spec hck.1
        have g := gs _ _ _ _ h H locs sl hP hS hl
        rw [hnx] at g
        exact lv_sipush hx hb hd hck.2 g
      | ldc n =>
        simp only [chkE, Bool.and_eq_true, decide_eq_true_eq] at hck
        dsimp only [stepI] at h
        obtain ⟨hd, hnx⟩ := dec1_spec hck.1
        have g := gs _ _ _ _ h H locs sl hP hS hl
        rw [hnx] at g
        exact lv_ldc hx hb hown (hwd _ (wdAt_spec hck.2) rfl) hd g
      | ldc_w n =>
        simp only [chkE, Bool.and_eq_true, decide_eq_true_eq] at hck
        dsimp only [stepI] at h
        obtain ⟨hd, hnx⟩ := dec1_spec hck.1
        have g := gs _ _ _ _ h H locs sl hP hS hl
        rw [hnx] at g
        exact lv_ldcw hx hb hown (hwd _ (wdAt_spec hck.2) rfl) hd g
      | ldc2_w n =>
        simp only [chkE, Bool.and_eq_true, decide_eq_true_eq] at hck
        dsimp only [stepI] at h
        obtain ⟨hd, hnx⟩ := dec1_spec hck.1
        have g := gs _ _ _ _ h H locs sl hP hS hl
        rw [hnx] at g
        exact lv_ldc2 hx hb hown (hwd _ (wdAt_spec hck.2) rfl) hd g
      | iload k =>
        simp only [chkE, Bool.and_eq_true, decide_eq_true_eq] at hck
        dsimp only [stepI] at h
        obtain ⟨hd, hnx⟩ := dec1_spec hck
        obtain ⟨x, h1, h2⟩ := ldI_inv h
        have g := gs _ _ _ _ h2 H locs sl hP hS hl
        rw [hnx] at g
        exact lv_iload hx hb hd (cvL_at hl h1) g
      | iload_n k =>
        simp only [chkE, Bool.and_eq_true, decide_eq_true_eq] at hck
        dsimp only [stepI] at h
        obtain ⟨hd, hnx⟩ := dec1_spec hck
        obtain ⟨x, h1, h2⟩ := ldI_inv h
        have g := gs _ _ _ _ h2 H locs sl hP hS hl
        rw [hnx] at g
        exact lv_iload_n hx hb hd rfl (cvL_at hl h1) g
      | aload_n k =>
        simp only [chkE, Bool.and_eq_true, decide_eq_true_eq] at hck
        dsimp only [stepI] at h
        obtain ⟨hd, hnx⟩ := dec1_spec hck
        obtain ⟨x, h1, h2⟩ := ldA_inv h
        have g := gs _ _ _ _ h2 H locs sl hP hS hl
        rw [hnx] at g
        exact lv_aload_n hx hb hd rfl (cvL_at hl h1) g
      | lload_n k =>
        simp only [chkE, Bool.and_eq_true, decide_eq_true_eq] at hck
        dsimp only [stepI] at h
        obtain ⟨hd, hnx⟩ := dec1_spec hck
        obtain ⟨x, h1, h2⟩ := ldL_inv h
        have g := gs _ _ _ _ h2 H locs sl hP hS hl
        rw [hnx] at g
        exact lv_lload_n hx hb hd rfl (cvL_at hl h1) g
      | istore k =>
        simp only [chkE, Bool.and_eq_true, decide_eq_true_eq] at hck
        dsimp only [stepI] at h
        obtain ⟨hd, hnx⟩ := dec1_spec hck.1
        split at h
        · next x st' =>
          obtain ⟨h1, h2, h3⟩ := stoL_inv h
          have hkl := hck.2
          refine lv_istore hx hb hd hl hkl rfl (fun sl' hl' => ?_)
          have g := gs _ _ _ _ h3 H locs sl' hP hS (cvL_set (v := .int x) h1 h2 hl')
          rw [hnx] at g
          exact g
        · cases h
      | istore_n k =>
        simp only [chkE, Bool.and_eq_true, decide_eq_true_eq] at hck
        dsimp only [stepI] at h
        obtain ⟨hd, hnx⟩ := dec1_spec hck.1
        split at h
        · next x st' =>
          obtain ⟨h1, h2, h3⟩ := stoL_inv h
          have hkl := hck.2
          refine lv_istore_n hx hb hd rfl hl hkl rfl (fun sl' hl' => ?_)
          have g := gs _ _ _ _ h3 H locs sl' hP hS (cvL_set (v := .int x) h1 h2 hl')
          rw [hnx] at g
          exact g
        · cases h
      | iinc k n =>
        simp only [chkE, Bool.and_eq_true, decide_eq_true_eq] at hck
        dsimp only [stepI] at h
        obtain ⟨⟨hd0, hci⟩, hkl⟩ := hck
        obtain ⟨hd, hnx⟩ := dec1_spec hd0
        split at h
        · next x hq =>
          obtain ⟨h1, h2, h3⟩ := stoL_inv h
          obtain ⟨k0, hk0⟩ := List.getElem?_of_mem ((cvL_mem adr ls 0 k (.int x)).mpr ⟨k, .int x, by omega, hq, rfl⟩)
          refine lv_iinc hx hb hd hl hk0 (v := x + cst) (by rw [hci]) hkl rfl (fun sl' hl' => ?_)
          have g := gs _ _ _ _ h3 H locs sl' hP hS (cvL_set (v := .int (x + cst)) h1 h2 hl')
          rw [hnx] at g
          exact g
        · cases h
      | iadd =>
        simp only [chkE, Bool.and_eq_true, decide_eq_true_eq] at hck
        dsimp only [stepI] at h
        obtain ⟨hd, hnx⟩ := dec1_spec hck
        obtain ⟨x, y, st', rfl, h2⟩ := bi2_inv h
        have g := gs _ _ _ _ h2 H locs sl hP hS hl
        rw [hnx] at g
        exact lv_iadd hx hb hd g
      | isub =>
        simp only [chkE, Bool.and_eq_true, decide_eq_true_eq] at hck
        dsimp only [stepI] at h
        obtain ⟨hd, hnx⟩ := dec1_spec hck
        obtain ⟨x, y, st', rfl, h2⟩ := bi2_inv h
        have g := gs _ _ _ _ h2 H locs sl hP hS hl
        rw [hnx] at g
        exact lv_isub hx hb hd g
      | imul =>
        simp only [chkE, Bool.and_eq_true, decide_eq_true_eq] at hck
        dsimp only [stepI] at h
        obtain ⟨hd, hnx⟩ := dec1_spec hck
        obtain ⟨x, y, st', rfl, h2⟩ := bi2_inv h
        have g := gs _ _ _ _ h2 H locs sl hP hS hl
        rw [hnx] at g
        exact lv_imul hx hb hd g
      | iand =>
        simp only [chkE, Bool.and_eq_true, decide_eq_true_eq] at hck
        dsimp only [stepI] at h
        obtain ⟨hd, hnx⟩ := dec1_spec hck
        obtain ⟨x, y, st', rfl, h2⟩ := bi2_inv h
        have g := gs _ _ _ _ h2 H locs sl hP hS hl
        rw [hnx] at g
        exact lv_iand hx hb hd g
      | ior =>
        simp only [chkE, Bool.and_eq_true, decide_eq_true_eq] at hck
        dsimp only [stepI] at h
        obtain ⟨hd, hnx⟩ := dec1_spec hck
        obtain ⟨x, y, st', rfl, h2⟩ := bi2_inv h
        have g := gs _ _ _ _ h2 H locs sl hP hS hl
        rw [hnx] at g
        exact lv_ior hx hb hd g
      | ixor =>
        simp only [chkE, Bool.and_eq_true, decide_eq_true_eq] at hck
        dsimp only [stepI] at h
        obtain ⟨hd, hnx⟩ := dec1_spec hck
        obtain ⟨x, y, st', rfl, h2⟩ := bi2_inv h
        have g := gs _ _ _ _ h2 H locs sl hP hS hl
        rw [hnx] at g
        exact lv_ixor hx hb hd g
      | ishl =>
        simp only [chkE, Bool.and_eq_true, decide_eq_true_eq] at hck
        dsimp only [stepI] at h
        obtain ⟨hd, hnx⟩ := dec1_spec hck
        obtain ⟨x, y, st', rfl, h2⟩ := bi2_inv h
        have g := gs _ _ _ _ h2 H locs sl hP hS hl
        rw [hnx] at g
        exact lv_ishl hx hb hd g
      | ishr =>
        simp only [chkE, Bool.and_eq_true, decide_eq_true_eq] at hck
        dsimp only [stepI] at h
        obtain ⟨hd, hnx⟩ := dec1_spec hck
        obtain ⟨x, y, st', rfl, h2⟩ := bi2_inv h
        have g := gs _ _ _ _ h2 H locs sl hP hS hl
        rw [hnx] at g
        exact lv_ishr hx hb hd g
      | iushr =>
        simp only [chkE, Bool.and_eq_true, decide_eq_true_eq] at hck
        dsimp only [stepI] at h
        obtain ⟨hd, hnx⟩ := dec1_spec hck
        obtain ⟨x, y, st', rfl, h2⟩ := bi2_inv h
        have g := gs _ _ _ _ h2 H locs sl hP hS hl
        rw [hnx] at g
        exact lv_iushr hx hb hd rfl g
      | land =>
        simp only [chkE, Bool.and_eq_true, decide_eq_true_eq] at hck
        dsimp only [stepI] at h
        obtain ⟨hd, hnx⟩ := dec1_spec hck
        obtain ⟨x, y, st', rfl, h2⟩ := bl2_inv h
        have g := gs _ _ _ _ h2 H locs sl hP hS hl
        rw [hnx] at g
        exact lv_land hx hb hd g
      | lor =>
        simp only [chkE, Bool.and_eq_true, decide_eq_true_eq] at hck
        dsimp only [stepI] at h
        obtain ⟨hd, hnx⟩ := dec1_spec hck
        obtain ⟨x, y, st', rfl, h2⟩ := bl2_inv h
        have g := gs _ _ _ _ h2 H locs sl hP hS hl
        rw [hnx] at g
        exact lv_lor hx hb hd g
      | lshl =>
        simp only [chkE, Bool.and_eq_true, decide_eq_true_eq] at hck
        dsimp only [stepI] at h
        obtain ⟨hd, hnx⟩ := dec1_spec hck
        obtain ⟨x, y, st', rfl, h2⟩ := bs2_inv h
        have g := gs _ _ _ _ h2 H locs sl hP hS hl
        rw [hnx] at g
        exact lv_lshl hx hb hd rfl g
      | lshr =>
        simp only [chkE, Bool.and_eq_true, decide_eq_true_eq] at hck
        dsimp only [stepI] at h
        obtain ⟨hd, hnx⟩ := dec1_spec hck
        obtain ⟨x, y, st', rfl, h2⟩ := bs2_inv h
        have g := gs _ _ _ _ h2 H locs sl hP hS hl
        rw [hnx] at g
        exact lv_lshr hx hb hd rfl g
      | lushr =>
        simp only [chkE, Bool.and_eq_true, decide_eq_true_eq] at hck
        dsimp only [stepI] at h
        obtain ⟨hd, hnx⟩ := dec1_spec hck
        obtain ⟨x, y, st', rfl, h2⟩ := bs2_inv h
        have g := gs _ _ _ _ h2 H locs sl hP hS hl
        rw [hnx] at g
        exact lv_lushr hx hb hd rfl g
      | idiv =>
        simp only [chkE, Bool.and_eq_true, decide_eq_true_eq] at hck
        dsimp only [stepI] at h
        obtain ⟨hd, hnx⟩ := dec1_spec hck
        split at h
        · obtain ⟨h1, h2⟩ := dv_inv h
          have g := gs _ _ _ _ h2 H locs sl hP hS hl
          rw [hnx] at g
          exact lv_idiv hx hb hd h1 g
        · cases h
      | irem =>
        simp only [chkE, Bool.and_eq_true, decide_eq_true_eq] at hck
        dsimp only [stepI] at h
        obtain ⟨hd, hnx⟩ := dec1_spec hck
        split at h
        · obtain ⟨h1, h2⟩ := dv_inv h
          have g := gs _ _ _ _ h2 H locs sl hP hS hl
          rw [hnx] at g
          exact lv_irem hx hb hd h1 g
        · cases h
      | ineg =>
        simp only [chkE, Bool.and_eq_true, decide_eq_true_eq] at hck
        dsimp only [stepI] at h
        obtain ⟨hd, hnx⟩ := dec1_spec hck
        split at h
        ·
          have g := gs _ _ _ _ h H locs sl hP hS hl
          rw [hnx] at g
          exact lv_ineg hx hb hd g
        · cases h
      | i2l =>
        simp only [chkE, Bool.and_eq_true, decide_eq_true_eq] at hck
        dsimp only [stepI] at h
        obtain ⟨hd, hnx⟩ := dec1_spec hck
        split at h
        ·
          have g := gs _ _ _ _ h H locs sl hP hS hl
          rw [hnx] at g
          exact lv_i2l hx hb hd rfl g
        · cases h
      | l2i =>
        simp only [chkE, Bool.and_eq_true, decide_eq_true_eq] at hck
        dsimp only [stepI] at h
        obtain ⟨hd, hnx⟩ := dec1_spec hck
        split at h
        ·
          have g := gs _ _ _ _ h H locs sl hP hS hl
          rw [hnx] at g
          exact lv_l2i hx hb hd rfl g
        · cases h
      | pop =>
        simp only [chkE, Bool.and_eq_true, decide_eq_true_eq] at hck
        dsimp only [stepI] at h
        obtain ⟨hd, hnx⟩ := dec1_spec hck
        split at h
        ·
          have g := gs _ _ _ _ h H locs sl hP hS hl
          rw [hnx] at g
          exact lv_pop hx hb hd rfl g
        · cases h
      | dup =>
        simp only [chkE, Bool.and_eq_true, decide_eq_true_eq] at hck
        dsimp only [stepI] at h
        obtain ⟨hd, hnx⟩ := dec1_spec hck
        split at h
        ·
          have g := gs _ _ _ _ h H locs sl hP hS hl
          rw [hnx] at g
          exact lv_dup hx hb hd rfl g
        ·
          have g := gs _ _ _ _ h H locs sl hP hS hl
          rw [hnx] at g
          exact lv_dup hx hb hd rfl g
        · cases h
      | dup2 =>
        simp only [chkE, Bool.and_eq_true, decide_eq_true_eq] at hck
        dsimp only [stepI] at h
        obtain ⟨hd, hnx⟩ := dec1_spec hck
        split at h
        ·
          have g := gs _ _ _ _ h H locs sl hP hS hl
          rw [hnx] at g
          exact lv_dup2_11 hx hb hd rfl rfl g
        · cases h
      | goto off =>
        simp only [chkE, Bool.and_eq_true, decide_eq_true_eq] at hck
        dsimp only [stepI] at h
        obtain ⟨hd, hnx⟩ := dec1_spec hck.1
        obtain ⟨t, rfl, ht⟩ := jmp1_spec hck.2
        exact lv_goto hx hb hd ht (gs _ _ _ _ h H locs sl hP hS hl)
      | if_icmp c off =>
        simp only [chkE, Bool.and_eq_true, decide_eq_true_eq] at hck
        dsimp only [stepI] at h
        obtain ⟨hd, hnx⟩ := dec1_spec hck.1
        obtain ⟨t, rfl, ht⟩ := jmp1_spec hck.2
        split at h
        · next e1 =>
          cases e1
          cases c
          case eq =>
            dsimp only at h
            refine lv_icmp_eq hx hb hd ht (fun q => ?_) (fun q => ?_)
            · rw [if_pos q] at h
              exact gs _ _ _ _ h H locs sl hP hS hl
            · rw [if_neg q] at h
              have g := gs _ _ _ _ h H locs sl hP hS hl
              rw [hnx] at g
              exact g
          case ne =>
            dsimp only at h
            refine lv_icmp_ne hx hb hd ht (fun q => ?_) (fun q => ?_)
            · rw [if_neg q] at h
              exact gs _ _ _ _ h H locs sl hP hS hl
            · rw [if_pos q] at h
              have g := gs _ _ _ _ h H locs sl hP hS hl
              rw [hnx] at g
              exact g
          case lt =>
            dsimp only at h
            refine lv_icmp_lt hx hb hd ht (fun q => ?_) (fun q => ?_)
            · rw [if_pos q] at h
              exact gs _ _ _ _ h H locs sl hP hS hl
            · rw [if_neg q] at h
              have g := gs _ _ _ _ h H locs sl hP hS hl
              rw [hnx] at g
              exact g
          case ge =>
            dsimp only at h
            refine lv_icmp_ge hx hb hd ht (fun q => ?_) (fun q => ?_)
            · rw [if_pos q] at h
              exact gs _ _ _ _ h H locs sl hP hS hl
            · rw [if_neg q] at h
              have g := gs _ _ _ _ h H locs sl hP hS hl
              rw [hnx] at g
              exact g
          case gt =>
            dsimp only at h
            refine lv_icmp_gt hx hb hd ht (fun q => ?_) (fun q => ?_)
            · rw [if_pos q] at h
              exact gs _ _ _ _ h H locs sl hP hS hl
            · rw [if_neg q] at h
              have g := gs _ _ _ _ h H locs sl hP hS hl
              rw [hnx] at g
              exact g
          case le =>
            dsimp only at h
            refine lv_icmp_le hx hb hd ht (fun q => ?_) (fun q => ?_)
            · rw [if_pos q] at h
              exact gs _ _ _ _ h H locs sl hP hS hl
            · rw [if_neg q] at h
              have g := gs _ _ _ _ h H locs sl hP hS hl
              rw [hnx] at g
              exact g
        · cases h
      | ifCond c off =>
        simp only [chkE, Bool.and_eq_true, decide_eq_true_eq] at hck
        dsimp only [stepI] at h
        obtain ⟨hd, hnx⟩ := dec1_spec hck.1
        obtain ⟨t, rfl, ht⟩ := jmp1_spec hck.2
        split at h
        · next e1 =>
          cases e1
          cases c
          case eq =>
            dsimp only at h
            refine lv_if_eq hx hb hd ht (fun q => ?_) (fun q => ?_)
            · rw [if_pos q] at h
              exact gs _ _ _ _ h H locs sl hP hS hl
            · rw [if_neg q] at h
              have g := gs _ _ _ _ h H locs sl hP hS hl
              rw [hnx] at g
              exact g
          case ne =>
            dsimp only at h
            refine lv_if_ne hx hb hd ht (fun q => ?_) (fun q => ?_)
            · rw [if_neg q] at h
              exact gs _ _ _ _ h H locs sl hP hS hl
            · rw [if_pos q] at h
              have g := gs _ _ _ _ h H locs sl hP hS hl
              rw [hnx] at g
              exact g
          case lt =>
            dsimp only at h
            refine lv_if_lt hx hb hd ht (fun q => ?_) (fun q => ?_)
            · rw [if_pos q] at h
              exact gs _ _ _ _ h H locs sl hP hS hl
            · rw [if_neg q] at h
              have g := gs _ _ _ _ h H locs sl hP hS hl
              rw [hnx] at g
              exact g
          case ge =>
            dsimp only at h
            refine lv_if_ge hx hb hd ht (fun q => ?_) (fun q => ?_)
            · rw [if_pos q] at h
              exact gs _ _ _ _ h H locs sl hP hS hl
            · rw [if_neg q] at h
              have g := gs _ _ _ _ h H locs sl hP hS hl
              rw [hnx] at g
              exact g
          case gt =>
            dsimp only at h
            refine lv_if_gt hx hb hd ht (fun q => ?_) (fun q => ?_)
            · rw [if_pos q] at h
              exact gs _ _ _ _ h H locs sl hP hS hl
            · rw [if_neg q] at h
              have g := gs _ _ _ _ h H locs sl hP hS hl
              rw [hnx] at g
              exact g
          case le =>
            dsimp only at h
            refine lv_if_le hx hb hd ht (fun q => ?_) (fun q => ?_)
            · rw [if_pos q] at h
              exact gs _ _ _ _ h H locs sl hP hS hl
            · rw [if_neg q] at h
              have g := gs _ _ _ _ h H locs sl hP hS hl
              rw [hnx] at g
              exact g
        · cases h
      | tableswitch df lo hi offs =>
        simp only [chkE, Bool.and_eq_true, decide_eq_true_eq] at hck
        dsimp only [stepI] at h
        obtain ⟨hd, hk⟩ := hck
        split at h
        · next d ts x st' =>
          simp only [Bool.and_eq_true, decide_eq_true_eq] at hk
          obtain ⟨⟨k1, k2⟩, k3⟩ := hk
          rcases tsw_go _ _ _ _ _ k3 h with ⟨j, o, t, g1, g2, g3, g4⟩ | ⟨g1, g2⟩
          · have hj : j < offs.toList.length := (List.getElem?_eq_some_iff.mp g2).1
            refine lv_tableIn hx hb hd (off := o) (tgt := t.1) (by omega) (by omega) ?_ g4 (gs _ _ _ _ g1 H locs sl hP hS hl)
            rw [← Array.getElem?_toList, show (x.toInt - lo).toNat = j by omega]
            exact g2
          · exact lv_tableOut hx hb hd (tgt := d.1) (by omega) k1 (gs _ _ _ _ g2 H locs sl hP hS hl)
        · cases h
      | lookupswitch df ps =>
        simp only [chkE, Bool.and_eq_true, decide_eq_true_eq] at hck
        dsimp only [stepI] at h
        obtain ⟨hd, hk⟩ := hck
        split at h
        · next d ts x st' =>
          simp only [Bool.and_eq_true, decide_eq_true_eq] at hk
          obtain ⟨⟨k1, k2⟩, k3⟩ := hk
          obtain ⟨t, g1, g2⟩ := lsw_go k1 _ _ _ k3 h
          exact lv_lookup hx hb hd k2 rfl g2 (gs _ _ _ _ g1 H locs sl hP hS hl)
        · cases h
      | getfield i =>
        simp only [chkE, Bool.and_eq_true, decide_eq_true_eq] at hck
        dsimp only [stepI] at h
        obtain ⟨hd, hnx⟩ := dec1_spec hck.1
        obtain ⟨CC, T, N, k1, k2, k3, k4⟩ := fldOK_spec hck.2
        split at h
        · next k st' =>
          obtain ⟨fs, h1, h2 | ⟨q, h2⟩⟩ := getF_inv h
          · have g := gs _ _ _ _ h2.2 H locs sl hP hS hl
            rw [hnx] at g
            exact va_get hx hb hts (hT.2.2.2.2.1 a1 CC T N k1).1 hown hKK hP k (wld_obj h1) k1 a2 k2 (hwd _ k4 rfl) (by rw [k3]; exact fun _ h9 => h9) (by rw [fldW_get, h2.1]; show some (Value.int (S k (0 + a2))) = _; rw [Nat.zero_add]; rfl) hd g
          · have g := gs _ _ _ _ h2.2 H locs sl hP hS hl
            rw [hnx] at g
            exact va_get hx hb hts (hT.2.2.2.2.1 a1 CC T N k1).1 hown hKK hP k (wld_obj h1) k1 a2 k2 (hwd _ k4 rfl) (by rw [k3]; exact fun _ h9 => h9) (by rw [fldW_get, h2.1]; rfl) hd g
        · cases h
      | putfield i =>
        simp only [chkE, Bool.and_eq_true, decide_eq_true_eq] at hck
        dsimp only [stepI] at h
        obtain ⟨hd, hnx⟩ := dec1_spec hck.1.1
        obtain ⟨CC, T, N, k1, k2, k3, k4⟩ := fldOK_spec hck.1.2
        obtain ⟨m1, m2, ty, m3⟩ := hT.2.2.2.2.1 a1 CC T N k1
        have hpo := hck.2
        unfold putOK at hpo
        rw [nth_get, k1] at hpo
        split at h
        · next v k st' =>
          cases tg with
          | nil =>
            simp only [Bool.and_eq_true, decide_eq_true_eq] at hpo
            obtain ⟨fs, h1, h2, h3⟩ := putF_inv h
            have hty : parseFieldDescriptor (T a2).2.2.1 = some .int := by rw [hpo.2]; decide +kernel
            refine va_put hx hb hts m1 ty m3 m2 hown hKK hP (hDD S) hS k (wld_obj h1) k1 a2 k2 (hwd _ k4 rfl) (by rw [k3]; exact fun _ h9 => h9) hpo.1 hty rfl rfl (FLT h2) hd (fun H1 locs1 hP1 _ hS1 => ?_)
            have hP2 : va_P D vwCl ((wld lay adr cA S).set k (adr k, .inr (a1, (fldW adr (S k) 0 fs).set a2 (.int v)))) H1 := hP1
            rw [wld_putF h1 h2] at hP2
            have g := gs _ _ _ _ h3 H1 locs1 sl hP2 hS1 hl
            rw [hnx] at g
            exact g
          | cons t ts =>
            simp only [Bool.and_eq_true, decide_eq_true_eq] at hpo
            obtain ⟨hzz, h⟩ := bz_inv h
            obtain ⟨fs, h1, h2, h3⟩ := putF_inv h
            have hty : parseFieldDescriptor (T a2).2.2.1 = some .boolean := by rw [hpo.2]; decide +kernel
            refine va_put hx hb hts m1 ty m3 m2 hown hKK hP (hDD S) hS k (wld_obj h1) k1 a2 k2 (hwd _ k4 rfl) (by rw [k3]; exact fun _ h9 => h9) hpo.1 hty (bz_fits hzz).1 (bz_fits hzz).2 (FLT h2) hd (fun H1 locs1 hP1 _ hS1 => ?_)
            have hP2 : va_P D vwCl ((wld lay adr cA S).set k (adr k, .inr (a1, (fldW adr (S k) 0 fs).set a2 (.int v)))) H1 := hP1
            rw [wld_putF h1 h2] at hP2
            have g := gs _ _ _ _ h3 H1 locs1 sl hP2 hS1 hl
            rw [hnx] at g
            exact g
        · cases h
      | iaload =>
        simp only [chkE, Bool.and_eq_true, decide_eq_true_eq] at hck
        dsimp only [stepI] at h
        obtain ⟨hd, hnx⟩ := dec1_spec hck
        split at h
        · next i k st' =>
          rcases getA_inv h with ⟨n, h1, h2, h3⟩ | ⟨h1, h2, h3, h4⟩
          · have g := gs _ _ _ _ h3 H locs sl hP hS hl
            rw [hnx] at g
            exact va_iald hx hb hKK hP k 0 (wld_arr h1) rfl h2 hd g
          · have g := gs _ _ _ _ h4 H locs sl hP hS hl
            rw [hnx] at g
            subst h2
            rw [List.map_cons, List.map_cons, show cv adr (.ref scrR) = .ref b from congrArg Value.ref hab]
            exact va_sld hx hb hX hbl hbA hS h3 hd g
        · cases h
      | arraylength =>
        simp only [chkE, Bool.and_eq_true, decide_eq_true_eq] at hck
        dsimp only [stepI] at h
        obtain ⟨hd, hnx⟩ := dec1_spec hck
        split at h
        · next k st' =>
          rcases lenA_inv h with ⟨n, h1, h3⟩ | ⟨h1, h2, h4⟩
          · have g := gs _ _ _ _ h3 H locs sl hP hS hl
            rw [hnx] at g
            exact va_alen hx hb hKK hP k 0 (wld_arr h1) rfl rfl hd g
          · have g := gs _ _ _ _ h4 H locs sl hP hS hl
            rw [hnx] at g
            subst h2
            rw [List.map_cons, show cv adr (.ref scrR) = .ref b from congrArg Value.ref hab]
            exact va_slen hx hb hX hbl hbA hS hd g
        · cases h
      | iastore =>
        simp only [chkE, Bool.and_eq_true, decide_eq_true_eq] at hck
        dsimp only [stepI] at h
        obtain ⟨hd, hnx⟩ := dec1_spec hck
        split at h
        · next v i k st' =>
          obtain ⟨n, h1, h2, h3⟩ := putA_inv h
          refine va_iast hx hb hKK hP (hDD S) hS k 0 (wld_arr h1) rfl h2 hd (fun H1 locs1 hP1 _ hS1 => ?_)
          rw [wld_putA h1] at hP1
          have g := gs _ _ _ _ h3 H1 locs1 sl hP1 hS1 hl
          rw [hnx] at g
          exact g
        · cases h
      | invokevirtual i =>
        simp only [chkE, Bool.and_eq_true, decide_eq_true_eq] at hck
        dsimp only [stepI] at h
        obtain ⟨⟨⟨⟨k1, k2⟩, k3⟩, k4⟩, k5⟩ := hck
        obtain ⟨hd, hnx⟩ := dec1_spec k1
        simp only [calOK, Bool.and_eq_true, decide_eq_true_eq] at k3
        obtain ⟨as, st', h1, hz, h2⟩ := call_inv h
        obtain ⟨⟨k, fs, as', rfl, h3⟩, h4⟩ := rcv_inv h2
        obtain ⟨xs, e1, e2, e3⟩ := pops_spec _ _ _ _ _ h1
        have exs : xs = as'.reverse ++ [.ref k] := by have := congrArg List.reverse e3; simpa using this.symm
        obtain ⟨w1, w2, w3, w4, w5, w6, w7⟩ := hM a1 k3.2 k3.1
        obtain ⟨w61, w62, T, N, w63⟩ := w6 k4
        have hlink := hwd _ (wdAt_spec k2) rfl
        have hGG : GoodIn WS (wsV (mN mi).cls i (mN a1).cls (mN a1) (wsG WS mN mB mL mR a1)) := by
          intro w hw
          have hw' : w ∈ WS := by
            simp only [wsV, wsG, List.cons_append, List.nil_append, List.mem_cons] at hw
            rcases hw with rfl | rfl | rfl | rfl | rfl | hw
            · exact hT.2.2.2.1 _ (wdAt_spec k2) rfl
            · exact w61
            · exact w62
            · exact w2
            · exact w1
            · exact hw
          exact ⟨hw', good_of_word (hT.2.2.1 w hw')⟩
        have hroom : (rmH mH a1).frames + 1 ≤ R.frames ∧ 8 + (mL a1 + 11) + (rmH mH a1).locals ≤ R.locals := by show mH a1 + 1 ≤ _ ∧ 8 + (mL a1 + 11) + 40 * mH a1 ≤ _; omega
        cases hp9 : parseMethodDescriptor (mN a1).desc with
        | none => rw [hp9] at k5; cases k5
        | some d9 =>
          rw [hp9] at k5
          have k5' : d9.parameters.length + 1 = a2 := Option.some.inj k5
          have hcw : CallW R s args (mN mi).cls (mN a1).cls i (mN a1) (mB a1) (mL a1) (mR a1) (wsG WS mN mB mL mR a1) (rmH mH a1) 0 0 as'.length := cwV as'.length hts hGG rfl rfl rfl ⟨rfl, w3.1, w3.2, by rw [hp9]; show some d9.parameters.length = _; rw [exs] at e2; simp at e2; congr 1; omega⟩ hroom
          have hrec := va_recv hKK hP w63 (wld_obj h3)
          have hpre : PreV s H (mN a1).cls (adr k) (va_Pc ((Value.ref k :: as').map (cv adr)) (wC lay nw D adr cA b X S)) (as'.map (cv adr)) := ⟨wC_blind hT, hrec, fun U hU hW => ⟨rfl, WCU hU hW⟩⟩
          have est : st.map (cv adr) = (as'.map (cv adr)).reverse ++ .ref (adr k) :: st'.map (cv adr) := by rw [e1, exs]; simp [cv]
          have hrun : ∀ r', C a1 (.ref k :: as') S = some r' → va_Run p l e R s m args below meth c H locs cells slots 0 0 (F0 m pc sl (st.map (cv adr))) (st'.map (cv adr)) (Qr lay nw D adr cA b X r' (Value.ref (adr k) :: as'.map (cv adr)).toArray) (A1 lay adr) := fun r' hr' => va_runV (Ts := WS) ⟨hx, hb, hml, hown, hts⟩ (hC a1 _ S r' k3.1 k3.2 hr') hcw hpre rfl (by simp) hl.1 est (lv_room (by rw [catS_map]; exact hz)) hd ⟨hcl, hsl⟩
          skip
          cases hkd : Nat.beq (inf a1).1 0 with
          | true =>
            rw [hkd] at h4
            obtain ⟨S', h5, h6⟩ := cV_inv h4
            refine call_go (v := none) (hrun _ h5) hS A1A0 A1A0 (fun t H1 locs1 e9 hB hS1 => ?_)
            have hP1 := hB.1
            rw [e9] at hP1
            have g := gs _ _ _ _ h6 H1 locs1 sl hP1 hS1 hl
            rw [hnx] at g
            exact g
          | false =>
            rw [hkd] at h4
            obtain ⟨x, S', h5, h6⟩ := cI_inv h4
            refine call_go (v := some (.int x)) (hrun _ h5) hS A1A0 A1A0 (fun t H1 locs1 e9 hB hS1 => ?_)
            have hP1 := hB.1
            rw [e9] at hP1
            have g := gs _ _ _ _ h6 H1 locs1 sl hP1 hS1 hl
            rw [hnx] at g
            exact g
      | invokestatic i =>
        simp only [chkE, Bool.and_eq_true, decide_eq_true_eq] at hck
        dsimp only [stepI] at h
        obtain ⟨k1, k2⟩ := hck
        obtain ⟨hd, hnx⟩ := dec1_spec k1
        split at h
        · simp only [Bool.and_eq_true, Bool.or_eq_true, Bool.not_eq_true', decide_eq_true_eq] at k2
          obtain ⟨⟨⟨k2, k3⟩, k4⟩, k5⟩ := k2
          simp only [calOK, Bool.and_eq_true, decide_eq_true_eq] at k3
          obtain ⟨as, st', h1, hz, h2⟩ := call_inv h
          obtain ⟨xs, e1, e2, e3⟩ := pops_spec _ _ _ _ _ h1
          have exs : xs = as.reverse := by rw [e3]; simp
          obtain ⟨w1, w2, w3, w4, w5, w6, w7⟩ := hM a1 k3.2 k3.1
          have w71 := w7 k4
          have hG0 : GoodIn WS (wsG WS mN mB mL mR a1) := by
            intro w hw
            have hw' : w ∈ WS := by
              simp only [wsG, List.mem_cons] at hw
              rcases hw with rfl | hw
              · exact w1
              · exact hw
            exact ⟨hw', good_of_word (hT.2.2.1 w hw')⟩
          have hroom : (rmH mH a1).frames + 1 ≤ R.frames ∧ 8 + (mL a1 + 11) + (rmH mH a1).locals ≤ R.locals := by show mH a1 + 1 ≤ _ ∧ 8 + (mL a1 + 11) + 40 * mH a1 ≤ _; omega
          have hlen9 : as.length = a2 := by rw [exs] at e2; simpa using e2
          have hpre : PreS s H (va_Pc (as.map (cv adr)) (wC lay nw D adr cA b X S)) (as.map (cv adr)) := ⟨wC_blind hT, fun U hU hW => ⟨rfl, WCU hU hW⟩⟩
          have est : st.map (cv adr) = (as.map (cv adr)).reverse ++ st'.map (cv adr) := by rw [e1, exs]; simp
          have hrun : ∀ r', C a1 as S = some r' → va_Run p l e R s m args below meth c H locs cells slots 0 0 (F0 m pc sl (st.map (cv adr))) (st'.map (cv adr)) (Qr lay nw D adr cA b X r' (as.map (cv adr)).toArray) (A1 lay adr) := by
            intro r' hr'
            rcases k2 with k2 | k2
            · have hGG : GoodIn WS (va_wsS (mN mi).cls i (mN a1) (wsG WS mN mB mL mR a1)) := by
                intro w hw
                have hw' : w ∈ WS := by
                  simp only [va_wsS, wsG, List.cons_append, List.nil_append, List.mem_cons] at hw
                  rcases hw with rfl | rfl | rfl | rfl | hw
                  · exact hT.2.2.2.1 _ (wdAt_spec k2) rfl
                  · exact w71
                  · exact w2
                  · exact w1
                  · exact hw
                exact ⟨hw', good_of_word (hT.2.2.1 w hw')⟩
              exact va_runS (Ts := WS) ⟨hx, hb, hml, hown, hts⟩ (hC a1 _ S r' k3.1 k3.2 hr') (va_cwS a2 hts hGG rfl rfl rfl ⟨w3.1, w3.2, k5⟩ hroom) hpre rfl (by rw [List.length_map]; exact hlen9) hl.1 est (lv_room (by rw [catS_map]; exact hz)) hd ⟨hcl, hsl⟩
            · have hnn := hnw _ (hT.1 _ (wdAt_spec k2) ⟨_, _, _, _, rfl⟩)
              exact va_runSN (Ts := WS) ⟨hx, hb, hml, hown, hts⟩ (hC a1 _ S r' k3.1 k3.2 hr') ⟨va_cnB a2 hts hG0 rfl rfl rfl hnn (hts _ w2) ⟨w3.1, w3.2, k5⟩ hroom, hts _ w71, trivial⟩ hpre rfl (by rw [List.length_map]; exact hlen9) hl.1 est (lv_room (by rw [catS_map]; exact hz)) hd ⟨hcl, hsl⟩
          cases hkd : Nat.beq (inf a1).1 0 with
          | true =>
            rw [hkd] at h2
            obtain ⟨S', h5, h6⟩ := cV_inv h2
            refine call_go (v := none) (hrun _ h5) hS A1A0 A1A0 (fun t H1 locs1 e9 hB hS1 => ?_)
            have hP1 := hB.1
            rw [e9] at hP1
            have g := gs _ _ _ _ h6 H1 locs1 sl hP1 hS1 hl
            rw [hnx] at g
            exact g
          | false =>
            rw [hkd] at h2
            obtain ⟨x, S', h5, h6⟩ := cI_inv h2
            refine call_go (v := some (.int x)) (hrun _ h5) hS A1A0 A1A0 (fun t H1 locs1 e9 hB hS1 => ?_)
            have hP1 := hB.1
            rw [e9] at hP1
            have g := gs _ _ _ _ h6 H1 locs1 sl hP1 hS1 hl
            rw [hnx] at g
            exact g
        · split at h
          · next e9 =>
            simp only [e9] at k2
            split at h
            · split at h
              · next hpq =>
                obtain ⟨rfl, rfl⟩ := hpq
                obtain ⟨n1, h1, h2, h3, h4, h5⟩ := cpyA_inv h
                simp only [Bool.and_eq_true, decide_eq_true_eq] at k2
                subst h3
                have hnn : (Int32.ofNat n1).toNatClampNeg = n1 := nI_clamp (by omega)
                refine va_copyi hx hb (hml.trans hl.1.symm) hown (hwd _ (wdAt_spec k2.1) rfl) (hts _ hT.2.2.2.2.2.2.1.1) (hts _ hT.2.2.2.2.2.2.1.2.1) (hts _ hT.2.2.2.2.2.2.1.2.2) hKK hP (hDD S) hS _ _ 0 0 (wld_arr h1) (wld_arr h2) rfl rfl rfl (by decide) (by decide) (nI_pos (by omega)) (by rw [hnn]; show 0 + n1 ≤ n1; omega) (by rw [hnn]; show 0 + n1 ≤ n1; omega) (fun i _ => rfl) (by omega) (by show 0 + (nativeFrameWords "java/lang/System" "arraycopy" 5 + 11) ≤ _; rw [show nativeFrameWords "java/lang/System" "arraycopy" 5 = 7 by decide]; omega) hd (fun H1 locs1 hP1 _ hS1 => ?_)
                rw [hnn] at hP1
                have hP2 : va_P D vwCl ((wld lay adr cA S).set _ (_, .inl (cA, n1, .inl (va_cpy (S _) (S _) 0 0 n1)))) H1 := hP1
                rw [wld_cpy h2] at hP2
                have g := gs _ _ _ _ h5 H1 locs1 sl hP2 hS1 hl
                rw [hnx] at g
                exact g
              · cases h
            · cases h
          · obtain ⟨x, y, st', rfl, h1, h2⟩ := mmx_inv h
            rename_i e9
            simp only [e9] at k2
            simp only [Bool.and_eq_true, decide_eq_true_eq] at k2
            obtain ⟨m1, m2, m3, m4, m5⟩ := hT.2.2.2.2.2.2.2
            have g := gs _ _ _ _ h2 H locs sl hP hS hl
            rw [hnx] at g
            exact va_mmin hx hb (hml.trans hl.1.symm) hown (hwd _ (wdAt_spec k2.1) rfl) (hts _ m1) (hts _ m3) (hts _ m4) (by omega) (by rw [catS_map]; omega) hcl hsl hd g
          · obtain ⟨x, y, st', rfl, h1, h2⟩ := mmx_inv h
            simp only [Bool.and_eq_true, decide_eq_true_eq] at k2
            obtain ⟨m1, m2, m3, m4, m5⟩ := hT.2.2.2.2.2.2.2
            have g := gs _ _ _ _ h2 H locs sl hP hS hl
            rw [hnx] at g
            exact va_mmax hx hb (hml.trans hl.1.symm) hown (hwd _ (wdAt_spec k2.1) rfl) (hts _ m2) (hts _ m3) (hts _ m5) (by omega) (by rw [catS_map]; omega) hcl hsl hd g
      | ireturn =>
        simp only [chkE, Bool.and_eq_true, decide_eq_true_eq] at hck
        dsimp only [stepI] at h
        obtain ⟨k1, k2⟩ := hck
        obtain ⟨hd, hnx⟩ := dec1_spec k1
        split at h
        · next v =>
          cases hb1 : Nat.beq a1 0 with
          | true =>
            rw [hb1] at h k2
            simp only [cond, decide_eq_true_eq] at h k2
            cases h
            exact hret pc sl v H locs hd ⟨.int, k2, rfl⟩ rfl hP hS
          | false =>
            rw [hb1] at h k2
            simp only [cond, decide_eq_true_eq] at h k2
            obtain ⟨hzz, h⟩ := bz_inv h
            cases h
            exact hret pc sl v H locs hd ⟨.boolean, k2, (bz_fits hzz).1⟩ rfl hP hS
        · cases h
      | return_ =>
        simp only [chkE, Bool.and_eq_true, decide_eq_true_eq] at hck
        dsimp only [stepI] at h
        obtain ⟨k1, k2⟩ := hck
        obtain ⟨hd, hnx⟩ := dec1_spec k1
        split at h
        · cases h
          exact hretv pc sl H locs hd k2 rfl hP hS
        · cases h
      | _ => cases h
end FRM
