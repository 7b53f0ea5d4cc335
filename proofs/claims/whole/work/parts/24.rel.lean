/-! frames: what a call leaves as it was -/
def fr (L : List Nat) (F : List (Nat × Nat)) (S S' : sS) : Prop := ∀ c j, c ∉ L → (c, j) ∉ F → S' c j = S c j
theorem fr_rfl {L : List Nat} {F : List (Nat × Nat)} {S : sS} : fr L F S S := fun _ _ _ _ => rfl
theorem fr_trans {L : List Nat} {F : List (Nat × Nat)} {S S' S'' : sS} (h : fr L F S S') (h' : fr L F S' S'') : fr L F S S'' := fun c j hc hj => (h' c j hc hj).trans (h c j hc hj)
theorem fr_upL {L : List Nat} {F : List (Nat × Nat)} {S S' : sS} {k j : Nat} {v : Int32} (h : fr L F S S') (hk : k ∈ L) : fr L F S (up2 S' k j v) := fun c i hc hi => by
  rw [up2_ne S' j v (fun e => hc (by rw [e]; exact hk))]
  exact h c i hc hi
theorem fr_upF {L : List Nat} {F : List (Nat × Nat)} {S S' : sS} {k j : Nat} {v : Int32} (h : fr L F S S') (hk : (k, j) ∈ F) : fr L F S (up2 S' k j v) := fun c i hc hi => by
  by_cases hck : c = k
  · subst hck
    rw [up2_at, upd_ne]
    · exact h c i hc hi
    · rintro rfl
      exact hi hk
  · rw [up2_ne S' j v hck]
    exact h c i hc hi
theorem fr_upA {L : List Nat} {F : List (Nat × Nat)} {S S' : sS} {k : Nat} {f : Nat → Int32} (h : fr L F S S') (hk : k ∈ L) : fr L F S (upA S' k f) := fun c i hc hi => by
  rw [upA_ne S' f (fun e => hc (by rw [e]; exact hk))]
  exact h c i hc hi
theorem fr_mono {L L' : List Nat} {F F' : List (Nat × Nat)} {S S' : sS} (h : fr L F S S') (hl : ∀ c ∈ L, c ∈ L') (hf : ∀ p ∈ F, p ∈ F' ∨ p.1 ∈ L') : fr L' F' S S' := fun c j hc hj => h c j (fun q => hc (hl c q)) (fun q => (hf _ q).elim hj hc)
theorem fr_cell {L : List Nat} {F : List (Nat × Nat)} {S S' : sS} (h : fr L F S S') (c : Nat) (hc : c ∉ L) (hf : ∀ p ∈ F, p.1 ≠ c) : S' c = S c := funext fun j => h c j hc (fun q => hf _ q rfl)
theorem fr_fld {L : List Nat} {F : List (Nat × Nat)} {S S' : sS} (h : fr L F S S') (c j : Nat) (hc : c ∉ L) (hf : (c, j) ∉ F) : S' c j = S c j := h c j hc hf
theorem fr_off {L : List Nat} {S S' : sS} (h : off L S S') : fr L [] S S' := fun c _ hc _ => by rw [h c hc]
def ag (cs : List Nat) (fs : List (Nat × Nat)) (S S' : sS) : Prop := (∀ c ∈ cs, S' c = S c) ∧ ∀ p ∈ fs, S' p.1 p.2 = S p.1 p.2
theorem fr_ag {L cs : List Nat} {F fs : List (Nat × Nat)} {S S' : sS} (h : fr L F S S') (hb : (∀ c ∈ cs, c ∉ L ∧ ∀ p ∈ F, p.1 ≠ c) ∧ ∀ p ∈ fs, p.1 ∉ L ∧ p ∉ F) : ag cs fs S S' := ⟨fun c hc => fr_cell h c (hb.1 c hc).1 (hb.1 c hc).2, fun p hp => h p.1 p.2 (hb.2 p hp).1 (hb.2 p hp).2⟩
theorem ag_rfl {cs : List Nat} {fs : List (Nat × Nat)} {S : sS} : ag cs fs S S := ⟨fun _ _ => rfl, fun _ _ => rfl⟩
theorem ag_trans {cs : List Nat} {fs : List (Nat × Nat)} {S S' S'' : sS} (h : ag cs fs S S') (h' : ag cs fs S' S'') : ag cs fs S S'' := ⟨fun c hc => (h'.1 c hc).trans (h.1 c hc), fun p hp => (h'.2 p hp).trans (h.2 p hp)⟩
theorem ag_mono {cs cs' : List Nat} {fs fs' : List (Nat × Nat)} {S S' : sS} (h : ag cs fs S S') (hc : ∀ c ∈ cs', c ∈ cs) (hf : ∀ p ∈ fs', p ∈ fs ∨ p.1 ∈ cs) : ag cs' fs' S S' := ⟨fun c q => h.1 c (hc c q), fun p q => (hf p q).elim (fun e => h.2 p e) (fun e => by rw [h.1 _ e])⟩
/-! all rows of the members, in their order -/
def ext (N : Nat) : Nat → List Nat → List (List Nat)
  | 0, p => [p]
  | k + 1, p => (List.range N).flatMap (fun m => bif p.contains m then [] else ext N k (p ++ [m]))
def allR (N : Nat) : List (List Nat) := ext N N []
def isK (N : Nat) (r : List Nat) : Bool := Nat.blt N 2 || Nat.blt (r.getD 0 0) (r.getD (N - 1) 0)
def KL (N : Nat) : List (List Nat) := (allR N).filter (isK N)
/-- WRONG of all votes in a row -/
def tw (S : sS) (V : Nat) (r : List Nat) : Nat := sm (fun v => ctw (nv (S 8 v)) (nv (S 9 v)) r) V
/-- what is held, by the other's record: member and neighbour, or -1 -/
def ho1 (N : Nat) (a b : Int32) (r : List Nat) : Prop := (b = -1 ∧ (nI (r.getD 0 0) = a ∨ nI (r.getD (N - 1) 0) = a)) ∨ (b ≠ -1 ∧ ∃ i, i + 1 < N ∧ ((nI (r.getD i 0) = a ∧ nI (r.getD (i + 1) 0) = b) ∨ (nI (r.getD i 0) = b ∧ nI (r.getD (i + 1) 0) = a)))
noncomputable def hok (N K : Nat) (S : sS) (r : List Nat) : Bool := @decide (∀ k, k < K → ho1 N (S 51 k) (S 52 k) r) (Classical.propDecidable _)
theorem hok_iff {N K : Nat} {S : sS} {r : List Nat} : hok N K S r = true ↔ ∀ k, k < K → ho1 N (S 51 k) (S 52 k) r := by
  unfold hok
  exact @decide_eq_true_iff _ (Classical.propDecidable _)
def bstep (w : List Nat → Nat) (ok : List Nat → Bool) (b : Nat × List (List Nat)) (r : List Nat) : Nat × List (List Nat) := bif ok r && Nat.ble (w r) b.1 then (w r, (bif Nat.blt (w r) b.1 then [] else b.2) ++ [r]) else b
noncomputable def bst (N V K : Nat) (S : sS) : Nat × List (List Nat) := (KL N).foldl (bstep (tw S V) (hok N K S)) (1000000, [])
/-! the relation of both -/
def hd (N : Nat) (a b l m : Int32) : Prop := ∃ p, p < N ∧ a = nI p ∧ ((b = -1 ∧ l = -1 ∧ m = nI p) ∨ ∃ q, q < N ∧ q ≠ p ∧ b = nI q ∧ l = nI (min p q) ∧ m = nI (max p q))
def HH (N V K : Nat) (S : sS) : Prop := HD N V S ∧ S 1 2 = nI K ∧ K ≤ 10 ∧ S 43 11 = nI N ∧ S 43 12 = nI V ∧ S 43 13 = nI K ∧ (∀ m, m < N → S 45 m = S 2 m ∧ S 46 m = S 3 m ∧ S 47 m = S 4 m ∧ ∃ x y, x < 5 ∧ y < 5 ∧ S 5 m = nI x ∧ S 53 m = nI x ∧ S 6 m = nI y ∧ S 54 m = nI y) ∧ (∀ v, v < V → S 49 v = S 8 v ∧ S 50 v = S 9 v ∧ ∃ y, y < 100 ∧ S 7 v = nI y ∧ S 48 v = nI y) ∧ (∀ k, k < K → hd N (S 51 k) (S 52 k) (S 10 k) (S 11 k))
def RB (S : sS) : Prop := ∃ L, L ≤ 90 ∧ S 23 2 = nI L ∧ S 43 16 = nI L ∧ ∀ j, j < L → ∃ t, t < 256 ∧ S 24 j = nI t ∧ S 55 j = nI t
def imS (S : sS) : sS := fun c => match c with
  | 1 => S 12
  | 2 => S 13
  | 3 => S 14
  | 4 => S 15
  | 5 => S 16
  | 6 => S 17
  | 7 => S 18
  | 8 => S 19
  | 9 => S 20
  | 10 => S 21
  | 11 => S 22
  | 43 => fun j => S 64 (116 + j)
  | 45 => S 64
  | 46 => fun j => S 64 (7 + j)
  | 47 => fun j => S 64 (14 + j)
  | 48 => fun j => S 64 (21 + j)
  | 49 => fun j => S 64 (45 + j)
  | 50 => fun j => S 64 (69 + j)
  | 51 => fun j => S 64 (93 + j)
  | 52 => fun j => S 64 (103 + j)
  | 53 => fun j => S 64 (113 + j)
  | 54 => fun j => S 64 (120 + j)
  | _ => fun _ => 0
def RI (S : sS) : Prop := S 43 43 = S 0 2 ∧ (S 0 2 = 0 ∨ S 0 2 = 1 ∧ ∃ N V K, HH N V K (imS S))
def RA (N : Nat) (S : sS) : Prop := ∃ h : List Nat, h.Nodup ∧ (∀ a ∈ h, a < N) ∧ S 0 9 = nI (pk h) ∧ S 0 10 = nI h.length ∧ S 43 28 = nI h.length ∧ ∀ j, j < h.length → S 59 j = nI (h.getD j 0)
def LOK (M : Nat) (S : sS) : Prop := S 29 9 = nI (KL M).length ∧ ∀ i, i < (KL M).length → S 30 i = nI (pk ((KL M).getD i []))
def JOK (N V : Nat) (S : sS) : Prop := ∀ i, i < (KL N).length → S 31 i = nI (mkW S V ((KL N).getD i []) 1) ∧ S 32 i = nI (mkW S V ((KL N).getD i []) 2) ∧ S 33 i = nI (mkW S V ((KL N).getD i []) 3)
def BOK (N V K : Nat) (S : sS) : Prop := S 29 14 = nI (bst N V K S).2.length ∧ S 29 15 = nI (bst N V K S).1 ∧ ∀ i, i < (bst N V K S).2.length → S 34 i = nI (pk ((bst N V K S).2.getD i []))
/-- no row has none wrong by all votes of the set -/
def isKn (S : sS) (N : Nat) (L : List Nat) : Prop := ∀ r ∈ KL N, ∃ v ∈ L, 0 < ctw (nv (S 8 v)) (nv (S 9 v)) r
/-- the number is that of the knot (0: none) -/
def knA (S : sS) (N V k : Nat) : Prop := (k = 0 ∧ (∀ v, v < V → ¬ isKn S N [v]) ∧ (∀ v u, v < V → u < v → ¬ isKn S N [v, u]) ∧ ∀ v u w, v < V → u < v → w < u → ¬ isKn S N [v, u, w])
  ∨ (∃ v u, k = 2 ^ v ||| 2 ^ u ∧ v < V ∧ u < v ∧ isKn S N [v, u] ∧ (∀ v, v < V → ¬ isKn S N [v]) ∧ (∀ v' u', u' < v' → (v' < v ∨ v' = v ∧ u' < u) → ¬ isKn S N [v', u']))
  ∨ (∃ v u w, k = 2 ^ v ||| 2 ^ u ||| 2 ^ w ∧ v < V ∧ u < v ∧ w < u ∧ isKn S N [v, u, w] ∧ (∀ v, v < V → ¬ isKn S N [v]) ∧ (∀ v u, v < V → u < v → ¬ isKn S N [v, u]) ∧ (∀ v' u' w', u' < v' → w' < u' → (v' < v ∨ v' = v ∧ (u' < u ∨ u' = u ∧ w' < w)) → ¬ isKn S N [v', u', w']))
def KOK (N V : Nat) (S : sS) : Prop := ∃ k, k < 2 ^ 24 ∧ S 29 16 = nI k ∧ knA S N V k
def RC (N V K : Nat) (S : sS) : Prop := (S 25 4 = 0 ∨ S 25 4 = 1 ∧ SOK N V S) ∧ (S 29 10 = -1 ∨ ∃ M, M ≤ 7 ∧ S 29 10 = nI M ∧ LOK M S) ∧ (S 29 11 = 0 ∨ S 29 11 = 1 ∧ S 29 10 = nI N ∧ JOK N V S) ∧ (S 29 12 = 0 ∨ S 29 12 = 1 ∧ S 29 11 = 1 ∧ BOK N V K S) ∧ (S 29 13 = 0 ∨ S 29 13 = 1 ∧ KOK N V S)
def QOK (N V K : Nat) (S : sS) : Prop := S 43 24 = nI (bst N V K S).2.length ∧ ((bst N V K S).2 ≠ [] → S 43 25 = nI (bst N V K S).1) ∧ (∀ i, i < (bst N V K S).2.length → ∀ j, j < N → S 57 (7 * i + j) = nI (((bst N V K S).2.getD i []).getD j 0)) ∧ S 43 26 = nI (KL N).length ∧ ∀ i, i < (KL N).length → S 58 i = nI (mk (fun v => decide (ctw (nv (S 8 v)) (nv (S 9 v)) ((KL N).getD i []) = 0)) V)
def RM (N V K : Nat) (S : sS) : Prop := S 43 14 = 1 ∨ S 43 14 = 0 ∧ QOK N V K S
def Rel (S : sS) : Prop := ∃ N V K, HH N V K S ∧ RB S ∧ S 44 = S 42 ∧ RI S ∧ RA N S ∧ RC N V K S ∧ RM N V K S
def Two (o : sR) (f : sS → sR) : Prop := ∃ a S1 S2, o = some (some (.int a), S1) ∧ f S1 = some (some (.int a), S2) ∧ Rel S2
/-! each of them stands on its cells alone -/
abbrev cH : List Nat := [2, 3, 4, 5, 6, 7, 8, 9, 10, 11, 45, 46, 47, 48, 49, 50, 51, 52, 53, 54]
abbrev fH : List (Nat × Nat) := [(1, 0), (1, 1), (1, 2), (43, 11), (43, 12), (43, 13)]
theorem HD_ag {N V : Nat} {S S' : sS} (h : ag [8, 9] [(1, 0), (1, 1)] S S') (hh : HD N V S) : HD N V S' := by
  unfold HD
  rw [h.1 8 (by decide), h.1 9 (by decide), h.2 (1, 0) (by decide), h.2 (1, 1) (by decide)]
  exact hh
theorem HH_ag {N V K : Nat} {S S' : sS} (h : ag cH fH S S') (hh : HH N V K S) : HH N V K S' := by
  obtain ⟨a, b⟩ := hh
  refine ⟨HD_ag (ag_mono h (by decide) (by decide)) a, ?_⟩
  rw [h.1 2 (by decide), h.1 3 (by decide), h.1 4 (by decide), h.1 5 (by decide), h.1 6 (by decide), h.1 7 (by decide), h.1 8 (by decide), h.1 9 (by decide), h.1 10 (by decide), h.1 11 (by decide), h.1 45 (by decide), h.1 46 (by decide), h.1 47 (by decide), h.1 48 (by decide), h.1 49 (by decide), h.1 50 (by decide), h.1 51 (by decide), h.1 52 (by decide), h.1 53 (by decide), h.1 54 (by decide), h.2 (1, 2) (by decide), h.2 (43, 11) (by decide), h.2 (43, 12) (by decide), h.2 (43, 13) (by decide)]
  exact b
theorem RB_ag {S S' : sS} (h : ag [24, 55] [(23, 2), (43, 16)] S S') (hh : RB S) : RB S' := by
  unfold RB
  rw [h.1 24 (by decide), h.1 55 (by decide), h.2 (23, 2) (by decide), h.2 (43, 16) (by decide)]
  exact hh
abbrev cI_ : List Nat := [12, 13, 14, 15, 16, 17, 18, 19, 20, 21, 22, 64]
theorem imS_ag {S S' : sS} (h : ag cI_ [] S S') : imS S' = imS S := by
  unfold imS
  rw [h.1 12 (by decide), h.1 13 (by decide), h.1 14 (by decide), h.1 15 (by decide), h.1 16 (by decide), h.1 17 (by decide), h.1 18 (by decide), h.1 19 (by decide), h.1 20 (by decide), h.1 21 (by decide), h.1 22 (by decide), h.1 64 (by decide)]
theorem RI_ag {S S' : sS} (h : ag cI_ [(0, 2), (43, 43)] S S') (hh : RI S) : RI S' := by
  unfold RI
  rw [imS_ag (ag_mono h (by decide) (by decide)), h.2 (0, 2) (by decide), h.2 (43, 43) (by decide)]
  exact hh
theorem RA_ag {N : Nat} {S S' : sS} (h : ag [59] [(0, 9), (0, 10), (43, 28)] S S') (hh : RA N S) : RA N S' := by
  unfold RA
  rw [h.1 59 (by decide), h.2 (0, 9) (by decide), h.2 (0, 10) (by decide), h.2 (43, 28) (by decide)]
  exact hh
theorem tw_ag {S S' : sS} (h : ag [8, 9] [] S S') : tw S' = tw S := by
  funext V r
  unfold tw
  rw [h.1 8 (by decide), h.1 9 (by decide)]
theorem hok_ag {N K : Nat} {S S' : sS} (h : ag [51, 52] [] S S') : hok N K S' = hok N K S := by
  funext r
  unfold hok
  rw [h.1 51 (by decide), h.1 52 (by decide)]
theorem bst_ag {N V K : Nat} {S S' : sS} (h : ag [8, 9, 51, 52] [] S S') : bst N V K S' = bst N V K S := by
  unfold bst
  rw [tw_ag (ag_mono h (by decide) (by decide)), hok_ag (ag_mono h (by decide) (by decide))]
theorem mkW_ag {S S' : sS} (h : ag [8, 9] [] S S') : mkW S' = mkW S := by
  funext V r t
  unfold mkW
  rw [h.1 8 (by decide), h.1 9 (by decide)]
theorem SOK_ag {N V : Nat} {S S' : sS} (h : ag [8, 9, 26, 27, 28] [] S S') (hh : SOK N V S) : SOK N V S' := by
  unfold SOK mkS lsv at *
  rw [h.1 8 (by decide), h.1 9 (by decide), h.1 26 (by decide), h.1 27 (by decide), h.1 28 (by decide)]
  exact hh
theorem LOK_ag {M : Nat} {S S' : sS} (h : ag [30] [(29, 9)] S S') (hh : LOK M S) : LOK M S' := by
  unfold LOK
  rw [h.1 30 (by decide), h.2 (29, 9) (by decide)]
  exact hh
theorem JOK_ag {N V : Nat} {S S' : sS} (h : ag [8, 9, 31, 32, 33] [] S S') (hh : JOK N V S) : JOK N V S' := by
  unfold JOK
  rw [h.1 31 (by decide), h.1 32 (by decide), h.1 33 (by decide), mkW_ag (ag_mono h (by decide) (by decide))]
  exact hh
theorem BOK_ag {N V K : Nat} {S S' : sS} (h : ag [8, 9, 51, 52, 34] [(29, 14), (29, 15)] S S') (hh : BOK N V K S) : BOK N V K S' := by
  unfold BOK
  rw [h.1 34 (by decide), h.2 (29, 14) (by decide), h.2 (29, 15) (by decide), bst_ag (ag_mono h (by decide) (by decide))]
  exact hh
theorem KOK_ag {N V : Nat} {S S' : sS} (h : ag [8, 9] [(29, 16)] S S') (hh : KOK N V S) : KOK N V S' := by
  unfold KOK knA isKn at *
  rw [h.1 8 (by decide), h.1 9 (by decide), h.2 (29, 16) (by decide)]
  exact hh
theorem RC_ag {N V K : Nat} {S S' : sS} (h : ag [8, 9, 51, 52, 26, 27, 28, 30, 31, 32, 33, 34] [(25, 4), (29, 9), (29, 10), (29, 11), (29, 12), (29, 13), (29, 14), (29, 15), (29, 16)] S S') (hh : RC N V K S) : RC N V K S' := by
  obtain ⟨a, b, c, d, e⟩ := hh
  unfold RC
  rw [h.2 (25, 4) (by decide), h.2 (29, 10) (by decide), h.2 (29, 11) (by decide), h.2 (29, 12) (by decide), h.2 (29, 13) (by decide)]
  exact ⟨a.imp id (fun ⟨p, q⟩ => ⟨p, SOK_ag (ag_mono h (by decide) (by decide)) q⟩), b.imp id (fun ⟨M, p, q, r⟩ => ⟨M, p, q, LOK_ag (ag_mono h (by decide) (by decide)) r⟩), c.imp id (fun ⟨p, q, r⟩ => ⟨p, q, JOK_ag (ag_mono h (by decide) (by decide)) r⟩), d.imp id (fun ⟨p, q, r⟩ => ⟨p, q, BOK_ag (ag_mono h (by decide) (by decide)) r⟩), e.imp id (fun ⟨p, q⟩ => ⟨p, KOK_ag (ag_mono h (by decide) (by decide)) q⟩)⟩
theorem QOK_ag {N V K : Nat} {S S' : sS} (h : ag [8, 9, 51, 52, 57, 58] [(43, 24), (43, 25), (43, 26)] S S') (hh : QOK N V K S) : QOK N V K S' := by
  unfold QOK
  rw [bst_ag (ag_mono h (by decide) (by decide)), h.1 57 (by decide), h.1 58 (by decide), h.1 8 (by decide), h.1 9 (by decide), h.2 (43, 24) (by decide), h.2 (43, 25) (by decide), h.2 (43, 26) (by decide)]
  exact hh
theorem RM_ag {N V K : Nat} {S S' : sS} (h : ag [8, 9, 51, 52, 57, 58] [(43, 14), (43, 24), (43, 25), (43, 26)] S S') (hh : RM N V K S) : RM N V K S' := by
  unfold RM
  rw [h.2 (43, 14) (by decide)]
  exact hh.imp id (fun ⟨p, q⟩ => ⟨p, QOK_ag (ag_mono h (by decide) (by decide)) q⟩)
