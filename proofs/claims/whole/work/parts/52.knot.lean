theorem isKn_ag {S S' : sS} (e8 : S' 8 = S 8) (e9 : S' 9 = S 9) : isKn S' = isKn S := by
  funext N L
  unfold isKn
  rw [e8, e9]
theorem knA_ag {S S' : sS} (e8 : S' 8 = S 8) (e9 : S' 9 = S 9) : knA S' = knA S := by
  funext N V k
  unfold knA
  rw [isKn_ag e8 e9]
theorem isKnot_m {N V K set : Nat} {T : sS} {L : List Nat} (hN : N ≤ 7) (hV : V ≤ 24) (Q : QOK N V K T) (hL : ∀ v ∈ L, v < V) (hs : ∀ v, set.testBit v = true ↔ v ∈ L) (X : sX) : (isKn T N L → Cal X 199 [.ref 43, .int (nI set)] T = some (some (.int 1), T)) ∧ (¬ isKn T N L → Cal X 199 [.ref 43, .int (nI set)] T = some (some (.int 0), T)) := by
  obtain ⟨-, -, -, q4, q5⟩ := Q
  have hlen := KL_len N (by omega)
  have hset : set < 2 ^ 24 := lt_pow_iff.mpr fun i hi => by have := hL i ((hs i).mp hi); omega
  obtain ⟨wh, hwh⟩ : ∃ wh : Nat → Nat, wh = fun i => mk (fun v => decide (ctw (nv (T 8 v)) (nv (T 9 v)) ((KL N).getD i []) = 0)) V := ⟨_, rfl⟩
  have hw : ∀ i, i < (KL N).length → T 58 i = nI (wh i) := fun i hi => by rw [hwh]; exact q5 i hi
  have hwl : ∀ i, wh i < 2 ^ 24 := fun i => by rw [hwh]; exact Nat.lt_of_lt_of_le (mk_lt _ V) (Nat.pow_le_pow_right (by decide) hV)
  have hwb : ∀ i v, (wh i).testBit v = true ↔ v < V ∧ ctw (nv (T 8 v)) (nv (T 9 v)) ((KL N).getD i []) = 0 := by
    intro i v
    rw [hwh]
    show (mk _ V).testBit v = true ↔ _
    rw [mk_bit, Bool.and_eq_true, decide_eq_true_eq, decide_eq_true_eq]
  have he : ∀ i, (nI (wh i) &&& nI set = nI set) ↔ ∀ v ∈ L, ctw (nv (T 8 v)) (nv (T 9 v)) ((KL N).getD i []) = 0 := by
    intro i
    rw [and_nI, nI_eq (Nat.lt_of_le_of_lt Nat.and_le_left (Nat.lt_of_lt_of_le (hwl i) (by decide))) (by omega)]
    constructor
    · intro h v hv
      have := congrArg (fun z => z.testBit v) h
      simp only [Nat.testBit_and, (hs v).mpr hv, Bool.and_true] at this
      exact ((hwb i v).mp this).2
    · intro h
      apply Nat.eq_of_testBit_eq
      intro v
      rw [Nat.testBit_and]
      cases hb : set.testBit v with
      | false => rw [Bool.and_false]
      | true =>
        have hv := (hs v).mp hb
        rw [(hwb i v).mpr ⟨hL v hv, h v hv⟩]
        rfl
  rw [C_X9_isKnot]
  have lp := loop_ex (F := fun i => Run X 199 2 [some (.ref 43), some (.int (nI set)), some (.int (nI i))] [] T) (P := fun i => ∀ v ∈ L, ctw (nv (T 8 v)) (nv (T 9 v)) ((KL N).getD i []) = 0) (r := some (some (.int 0), T)) (e := some (some (.int 1), T)) (KL N).length (by
    intro i hi hp
    show Run X 199 2 _ [] T = _
    rw [L_X9_isKnot_2, q4, if_neg (nI_ge hi (by omega)), ix_nI (by omega) (by decide), hw i hi, if_pos ((he i).mpr hp)]) (by
    intro i hi hp
    show Run X 199 2 _ [] T = Run X 199 2 _ [] T
    rw [L_X9_isKnot_2, q4, if_neg (nI_ge hi (by omega)), ix_nI (by omega) (by decide), hw i hi, if_neg (fun z => hp ((he i).mp z)), nI_1]) (by
    show Run X 199 2 _ [] T = _
    rw [L_X9_isKnot_2, q4, if_pos (nI_le (Nat.le_refl _) (by omega))])
  constructor
  · intro hk
    refine lp.2 fun i hi hp => ?_
    obtain ⟨v, hv, hpos⟩ := hk _ (KL_get hi)
    have := hp v hv
    omega
  · intro hk
    refine lp.1 ?_
    apply Classical.byContradiction
    intro hn
    apply hk
    intro r hr
    obtain ⟨i, hi, e⟩ := List.getElem_of_mem hr
    have eg : (KL N).getD i [] = r := by rw [List.getD_eq_getElem?_getD, List.getElem?_eq_getElem hi, Option.getD_some, e]
    apply Classical.byContradiction
    intro hno
    refine hn ⟨i, hi, fun v hv => ?_⟩
    rw [eg]
    apply Classical.byContradiction
    intro hne
    exact hno ⟨v, hv, by omega⟩
theorem bit3 {a b c v : Nat} : (2 ^ c ||| 2 ^ b ||| 2 ^ a).testBit v = true ↔ v ∈ [c, b, a] := by
  rw [Nat.testBit_or, Bool.or_eq_true, bit2, Nat.testBit_two_pow, decide_eq_true_eq]
  simp only [List.mem_cons, List.not_mem_nil, or_false]
  constructor
  · rintro ((h | h) | h)
    · exact Or.inr (Or.inl h)
    · exact Or.inl h
    · exact Or.inr (Or.inr h.symm)
  · rintro (h | h | h)
    · exact Or.inl (Or.inr h)
    · exact Or.inl (Or.inl h)
    · exact Or.inr h.symm
theorem bit2' {b c v : Nat} : (2 ^ c ||| 2 ^ b).testBit v = true ↔ v ∈ [c, b] := by
  rw [Nat.or_comm]
  exact bit2
theorem knot_m {N V K k : Nat} {T : sS} (hN : N ≤ 7) (hV : V ≤ 24) (t12 : T 43 12 = nI V) (Q : QOK N V K T) (hk : knA T N V k) (X : sX) : Run X 200 6 [some (.ref 43), some (.int 0), none, none] [] T = some (some (.int (if k = 0 then -9 else nI k)), T) := by
  have hs1 : ∀ v, v < V → ¬ isKn T N [v] := by
    rcases hk with ⟨_, h, _⟩ | ⟨v, u, _, _, _, _, h, _⟩ | ⟨v, u, w, _, _, _, _, _, h, _⟩ <;> exact h
  have run1 : Run X 200 6 [some (.ref 43), some (.int 0), none, none] [] T = Run X 200 36 [some (.ref 43), some (.int 0), none, none] [] T := by
    have run := loop_eq (F := fun v => Run X 200 6 [some (.ref 43), some (.int (nI v)), none, none] [] T) V 0 (by
      intro v _ hv
      have im := (isKnot_m (L := [v]) hN hV Q (fun x hx => by rw [List.mem_singleton.mp hx]; exact hv) (fun x => bit1) X).2 (hs1 v hv)
      show Run X 200 6 _ [] T = Run X 200 6 _ [] T
      rw [L_X9_knot_6, t12, if_neg (nI_ge hv (by omega)), show oShl 1 (nI v) = nI (2 ^ v) from oShl_1 (by omega), im, cI_ok, if_pos rfl, nI_1]) (Nat.zero_le _)
    refine Eq.trans run ?_
    rw [L_X9_knot_6, t12, if_pos (nI_le (Nat.le_refl _) (by omega))]
  have im2 := fun v u (hv : v < V) (hu : u < v) => isKnot_m (L := [v, u]) (set := 2 ^ v ||| 2 ^ u) hN hV Q (fun x hx => by
    rcases List.mem_cons.mp hx with h | h
    · rw [h]; exact hv
    · rw [List.mem_singleton.mp h]; omega) (fun x => bit2') X
  have st2 : ∀ v u, v < V → u < v → Run X 200 46 [some (.ref 43), some (.int (nI v)), some (.int (nI u)), none] [] T = cI (Cal X 199 [.ref 43, .int (nI (2 ^ v ||| 2 ^ u))] T) fun r2 S1 => if r2 = 0 then (Run X 200 46 [some (.ref 43), some (.int (nI v)), some (.int (nI (u + 1))), none] [] S1) else some (some (.int (nI (2 ^ v ||| 2 ^ u))), S1) := by
    intro v u hv hu
    rw [L_X9_knot_46, if_neg (nI_ge hu (by omega)), show oShl 1 (nI v) = nI (2 ^ v) from oShl_1 (by omega), show oShl 1 (nI u) = nI (2 ^ u) from oShl_1 (by omega), or_nI, nI_1]
  have skip2 : ∀ v u, v < V → u < v → ¬ isKn T N [v, u] → Run X 200 46 [some (.ref 43), some (.int (nI v)), some (.int (nI u)), none] [] T = Run X 200 46 [some (.ref 43), some (.int (nI v)), some (.int (nI (u + 1))), none] [] T := by
    intro v u hv hu hno
    rw [st2 v u hv hu, (im2 v u hv hu).2 hno, cI_ok, if_pos rfl]
  have row2 : ∀ v, v < V → (∀ u, u < v → ¬ isKn T N [v, u]) → Run X 200 36 [some (.ref 43), some (.int (nI v)), none, none] [] T = Run X 200 36 [some (.ref 43), some (.int (nI (v + 1))), none, none] [] T := by
    intro v hv hno
    have run := loop_eq (F := fun u => Run X 200 46 [some (.ref 43), some (.int (nI v)), some (.int (nI u)), none] [] T) v 0 (fun u _ hu => skip2 v u hv hu (hno u hu)) (Nat.zero_le _)
    rw [L_X9_knot_36, t12, if_neg (nI_ge hv (by omega))]
    refine Eq.trans run ?_
    rw [L_X9_knot_46, if_pos (nI_le (Nat.le_refl _) (by omega)), nI_1]
  rw [run1]
  have end2 : (∀ v u, v < V → u < v → ¬ isKn T N [v, u]) → Run X 200 36 [some (.ref 43), some (.int 0), none, none] [] T = Run X 200 87 [some (.ref 43), some (.int 0), none, none] [] T := by
    intro hno
    have run := loop_eq (F := fun v => Run X 200 36 [some (.ref 43), some (.int (nI v)), none, none] [] T) V 0 (fun v _ hv => row2 v hv (fun u hu => hno v u hv hu)) (Nat.zero_le _)
    refine Eq.trans run ?_
    rw [L_X9_knot_36, t12, if_pos (nI_le (Nat.le_refl _) (by omega))]
  have im3 := fun v u w (hv : v < V) (hu : u < v) (hw : w < u) => isKnot_m (L := [v, u, w]) (set := 2 ^ v ||| 2 ^ u ||| 2 ^ w) hN hV Q (fun x hx => by
    simp only [List.mem_cons, List.not_mem_nil, or_false] at hx
    rcases hx with h | h | h <;> omega) (fun x => bit3) X
  have st3 : ∀ v u w, v < V → u < v → w < u → Run X 200 104 [some (.ref 43), some (.int (nI v)), some (.int (nI u)), some (.int (nI w))] [] T = cI (Cal X 199 [.ref 43, .int (nI (2 ^ v ||| 2 ^ u ||| 2 ^ w))] T) fun r2 S1 => if r2 = 0 then (Run X 200 104 [some (.ref 43), some (.int (nI v)), some (.int (nI u)), some (.int (nI (w + 1)))] [] S1) else some (some (.int (nI (2 ^ v ||| 2 ^ u ||| 2 ^ w))), S1) := by
    intro v u w hv hu hw
    rw [L_X9_knot_104, if_neg (nI_ge hw (by omega)), show oShl 1 (nI v) = nI (2 ^ v) from oShl_1 (by omega), show oShl 1 (nI u) = nI (2 ^ u) from oShl_1 (by omega), show oShl 1 (nI w) = nI (2 ^ w) from oShl_1 (by omega), or_nI, or_nI, nI_1]
  have skip3 : ∀ v u w, v < V → u < v → w < u → ¬ isKn T N [v, u, w] → Run X 200 104 [some (.ref 43), some (.int (nI v)), some (.int (nI u)), some (.int (nI w))] [] T = Run X 200 104 [some (.ref 43), some (.int (nI v)), some (.int (nI u)), some (.int (nI (w + 1)))] [] T := by
    intro v u w hv hu hw hno
    rw [st3 v u w hv hu hw, (im3 v u w hv hu hw).2 hno, cI_ok, if_pos rfl]
  have row3 : ∀ v u, v < V → u < v → (∀ w, w < u → ¬ isKn T N [v, u, w]) → Run X 200 97 [some (.ref 43), some (.int (nI v)), some (.int (nI u)), none] [] T = Run X 200 97 [some (.ref 43), some (.int (nI v)), some (.int (nI (u + 1))), none] [] T := by
    intro v u hv hu hno
    have run := loop_eq (F := fun w => Run X 200 104 [some (.ref 43), some (.int (nI v)), some (.int (nI u)), some (.int (nI w))] [] T) u 0 (fun w _ hw => skip3 v u w hv hu hw (hno w hw)) (Nat.zero_le _)
    rw [L_X9_knot_97, if_neg (nI_ge hu (by omega))]
    refine Eq.trans run ?_
    rw [L_X9_knot_104, if_pos (nI_le (Nat.le_refl _) (by omega)), nI_1]
  have blk3 : ∀ v, v < V → (∀ u w, u < v → w < u → ¬ isKn T N [v, u, w]) → Run X 200 87 [some (.ref 43), some (.int (nI v)), none, none] [] T = Run X 200 87 [some (.ref 43), some (.int (nI (v + 1))), none, none] [] T := by
    intro v hv hno
    have run := loop_eq (F := fun u => Run X 200 97 [some (.ref 43), some (.int (nI v)), some (.int (nI u)), none] [] T) v 0 (fun u _ hu => row3 v u hv hu (fun w hw => hno u w hu hw)) (Nat.zero_le _)
    rw [L_X9_knot_87, t12, if_neg (nI_ge hv (by omega))]
    refine Eq.trans run ?_
    rw [L_X9_knot_97, if_pos (nI_le (Nat.le_refl _) (by omega)), nI_1]
  rcases hk with ⟨rfl, _, h2, h3⟩ | ⟨v, u, rfl, hv, hu, hkn, _, hmin⟩ | ⟨v, u, w, rfl, hv, hu, hw, hkn, _, h2, hmin⟩
  · rw [end2 h2, if_pos rfl]
    have run := loop_eq (F := fun v => Run X 200 87 [some (.ref 43), some (.int (nI v)), none, none] [] T) V 0 (fun v _ hv => blk3 v hv (fun u w hu hw => h3 v u w hv hu hw)) (Nat.zero_le _)
    refine Eq.trans run ?_
    rw [L_X9_knot_87, t12, if_pos (nI_le (Nat.le_refl _) (by omega))]
  · have hne : ¬ 2 ^ v ||| 2 ^ u = 0 := by
      intro h
      have := congrArg (fun z => z.testBit v) h
      simp only [Nat.zero_testBit] at this
      rw [bit2'.mpr List.mem_cons_self] at this
      cases this
    rw [if_neg hne]
    have run := loop_eq (F := fun v => Run X 200 36 [some (.ref 43), some (.int (nI v)), none, none] [] T) v 0 (fun i _ hi => row2 i (by omega) (fun u' hu' => hmin i u' hu' (Or.inl hi))) (Nat.zero_le _)
    have runu := loop_eq (F := fun u => Run X 200 46 [some (.ref 43), some (.int (nI v)), some (.int (nI u)), none] [] T) u 0 (fun i _ hi => skip2 v i hv (by omega) (hmin v i (by omega) (Or.inr ⟨rfl, hi⟩))) (Nat.zero_le _)
    refine Eq.trans run ?_
    rw [L_X9_knot_36, t12, if_neg (nI_ge hv (by omega))]
    refine Eq.trans runu ?_
    rw [st2 v u hv hu, (im2 v u hv hu).1 hkn, cI_ok, if_neg (by decide)]
  · have hne : ¬ 2 ^ v ||| 2 ^ u ||| 2 ^ w = 0 := by
      intro h
      have := congrArg (fun z => z.testBit v) h
      simp only [Nat.zero_testBit] at this
      rw [bit3.mpr List.mem_cons_self] at this
      cases this
    rw [end2 h2, if_neg hne]
    have run := loop_eq (F := fun v => Run X 200 87 [some (.ref 43), some (.int (nI v)), none, none] [] T) v 0 (fun i _ hi => blk3 i (by omega) (fun u' w' hu' hw' => hmin i u' w' hu' hw' (Or.inl hi))) (Nat.zero_le _)
    have runu := loop_eq (F := fun u => Run X 200 97 [some (.ref 43), some (.int (nI v)), some (.int (nI u)), none] [] T) u 0 (fun i _ hi => row3 v i hv (by omega) (fun w' hw' => hmin v i w' (by omega) hw' (Or.inr ⟨rfl, Or.inl hi⟩))) (Nat.zero_le _)
    have runw := loop_eq (F := fun w => Run X 200 104 [some (.ref 43), some (.int (nI v)), some (.int (nI u)), some (.int (nI w))] [] T) w 0 (fun i _ hi => skip3 v u i hv hu (by omega) (hmin v u i hu (by omega) (Or.inr ⟨rfl, Or.inr ⟨rfl, hi⟩⟩))) (Nat.zero_le _)
    refine Eq.trans run ?_
    rw [L_X9_knot_87, t12, if_neg (nI_ge hv (by omega))]
    refine Eq.trans runu ?_
    rw [L_X9_knot_97, if_neg (nI_ge hu (by omega))]
    refine Eq.trans runw ?_
    rw [st3 v u w hv hu hw, (im3 v u w hv hu hw).1 hkn, cI_ok, if_neg (by decide)]
theorem c_knot {S : sS} (R : Rel S) (X : sX) : Two (Cal X 119 [.ref 0] S) (fun S => Cal X 200 [.ref 43] S) := by
  obtain ⟨N, V, K, H, B, E, I, A, C, M⟩ := id R
  have hN := H.1.2.1
  have hV := H.1.2.2.2.1
  obtain ⟨S1, e, f, F, C1⟩ := judgeRows_ok H C X
  have f1 : fr Ls Fs S S1 := fr_mono f (by decide) (by decide)
  have H1 := HH_sc f1 H
  have M1 : RM N V K S1 := RM_ag (fr_ag f (by decide)) M
  obtain ⟨c1, c2, c3, c4, c5⟩ := id C1
  obtain ⟨k, S2, hk24, e2, f2, C2, hk⟩ : ∃ k S2, k < 2 ^ 24 ∧ Cal X 69 [.ref 29] S1 = some (some (.int (nI k)), S2) ∧ fr [] [(29, 13), (29, 16)] S1 S2 ∧ RC N V K S2 ∧ knA S1 N V k := by
    rcases c5 with h | ⟨h, k, hk24, hk, hkn⟩
    · obtain ⟨k, hk24, ek, hkn⟩ := findKnot_ok (S0 := S1) H1.1 H1 F rfl X
      refine ⟨k, up2 (up2 S1 29 16 (nI k)) 29 13 1, hk24, ?_, fr_upF (fr_upF fr_rfl (by decide)) (by decide), ?_, hkn⟩
      · rw [C_X5_knotted, if_pos h, ek, cI_ok]
      · have f2 : fr [] [(29, 13), (29, 16)] S1 (up2 (up2 S1 29 16 (nI k)) 29 13 1) := fr_upF (fr_upF fr_rfl (by decide)) (by decide)
        refine ⟨c1.imp id (fun ⟨p, q⟩ => ⟨p, SOK_ag (fr_ag f2 (by decide)) q⟩), c2.imp id (fun ⟨M, p, q, r⟩ => ⟨M, p, q, LOK_ag (fr_ag f2 (by decide)) r⟩), c3.imp id (fun ⟨p, q, r⟩ => ⟨p, q, JOK_ag (fr_ag f2 (by decide)) r⟩), c4.imp id (fun ⟨p, q, r⟩ => ⟨p, q, BOK_ag (fr_ag f2 (by decide)) r⟩), Or.inr ⟨rfl, k, hk24, rfl, ?_⟩⟩
        rw [knA_ag (S := S1) (S' := up2 (up2 S1 29 16 (nI k)) 29 13 1) rfl rfl]
        exact hkn
    · refine ⟨k, S1, hk24, ?_, fr_rfl, C1, hkn⟩
      rw [C_X5_knotted, if_neg (by rw [h]; decide), hk]
  have fS2 : fr Ls Fs S S2 := fr_trans f1 (fr_mono f2 (by decide) (by decide))
  obtain ⟨T, e3, f3, fA, Q, MT⟩ := find_m fS2 (HH_sc fS2 H) (RM_ag (fr_ag f2 (by decide)) M1) X
  have hkT : knA T N V k := by
    rw [knA_ag (S := S1) ((fr_cell f3 8 (by decide) (by decide)).trans (fr_cell f2 8 (by decide) (by decide))) ((fr_cell f3 9 (by decide) (by decide)).trans (fr_cell f2 9 (by decide) (by decide)))]
    exact hk
  have km := knot_m hN hV (HH_sc fA H).2.2.2.2.1 Q hkT X
  refine two_sc (a := if k = 0 then -9 else nI k) (S1 := S2) (S2 := T) R H ?_ ?_ fA (RC_x (fr_mono f3 (by decide) (by decide)) C2) MT
  · rw [C_X8_knot, e, cV_ok, e2, cI_ok]
    by_cases h0 : k = 0
    · rw [h0, if_pos nI_0, if_pos rfl]
    · rw [if_neg (nI_ne0 (by omega) (by omega)), if_neg h0]
  · show Cal X 200 _ S2 = _
    rw [C_X9_knot, e3, cV_ok]
    exact km
