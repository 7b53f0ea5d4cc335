/-! the other goes from row to row -/
def swp (r : List Nat) (i j : Nat) : List Nat := (r.set i (r.getD j 0)).set j (r.getD i 0)
def scI (r : List Nat) : Nat → Option Nat
  | 0 => none
  | k + 1 => if r.getD k 0 ≤ r.getD (k + 1) 0 then some k else scI r k
def scJ (r : List Nat) (p : Nat) : Nat → Nat
  | 0 => 0
  | k + 1 => if p ≤ r.getD (k + 1) 0 then k + 1 else scJ r p k
def rvs : Nat → List Nat → Nat → Nat → List Nat
  | 0, r, _, _ => r
  | f + 1, r, a, b => if b ≤ a then r else rvs f (swp r a b) (a + 1) (b - 1)
def nxt (N : Nat) (r : List Nat) : Option (List Nat) := match scI r (N - 1) with
  | none => none
  | some i => some (rvs 4 (swp r i (scJ r (r.getD i 0) (N - 1))) (i + 1) (N - 1))
def lEq : List Nat → List Nat → Bool
  | [], [] => true
  | a :: l, b :: l' => Nat.beq a b && lEq l l'
  | _, _ => false
theorem lEq_eq : ∀ l l', lEq l l' = true → l = l' := by
  intro l
  induction l with
  | nil =>
    intro l' h
    cases l' with
    | nil => rfl
    | cons b l' => cases h
  | cons a l ih =>
    intro l' h
    cases l' with
    | nil => cases h
    | cons b l' =>
      have h' : (Nat.beq a b && lEq l l') = true := h
      rw [Bool.and_eq_true] at h'
      rw [Nat.eq_of_beq_eq_true h'.1, ih l' h'.2]
def isNx (N : Nat) (r : List Nat) (l : List (List Nat)) : Bool := match nxt N r, l with
  | none, [] => true
  | some r', s :: _ => lEq r' s
  | _, _ => false
def chk (N : Nat) : List (List Nat) → Bool
  | [] => true
  | r :: l => isNx N r l && chk N l
def chkH (N : Nat) : Bool := match allR N with
  | [] => false
  | r :: _ => lEq r (List.range N)
set_option maxRecDepth 100000 in
theorem chk_all : ∀ N, N < 8 → (chkH N && chk N (allR N)) = true := by decide +kernel
