/-! A small machine over the claim's own instructions: its world is a fixed list of cells; what a cell holds at a place is an int; references are numbers of cells. -/
abbrev sS : Type := Nat → Nat → Int32
abbrev sL : Type := List (Option Value)
abbrev sK : Type := List Value
abbrev sR : Type := Option (Option Value × sS)
abbrev sX : Type := Nat × (Nat → Int32)
abbrev sT : Type := Nat × Option (List Bool)
abbrev sE : Type := Instr × sT × List sT × Nat × Nat × Nat × Int32 × Int64 × List Int32
abbrev sQ : Type := Nat ⊕ (Nat × List (Option Nat))
def nth {α : Type} : List α → Nat → Option α
  | [], _ => none
  | a :: _, 0 => some a
  | _ :: l, n + 1 => nth l n
def up2 (S : sS) (k j : Nat) (v : Int32) : sS := fun i => bif Nat.beq i k then upd (S k) j v else S i
def upA (S : sS) (k : Nat) (f : Nat → Int32) : sS := fun i => bif Nat.beq i k then f else S i
/-- the script's number as a reference -/
def scrR : Nat := 999
def ix (i : Int32) (n : Nat) (k : Nat → sR) : sR := if i < 0 ∨ n ≤ i.toNatClampNeg then none else k i.toNatClampNeg
def dv (y : Int32) (k : sR) : sR := if y = 0 then none else k
def bz (v : Int32) (k : sR) : sR := if v &&& 1 = v then k else none
def cI (o : sR) (k : Int32 → sS → sR) : sR := match o with
  | some (some (.int r), S) => k r S
  | _ => none
def cV (o : sR) (k : sS → sR) : sR := match o with
  | some (none, S) => k S
  | _ => none
def msk : List Bool → sL → sL
  | b :: bs, v :: vs => (bif b then v else none) :: msk bs vs
  | _, _ => []
def setL : sL → Nat → Value → sL
  | [], _, _ => []
  | _ :: l, 0, v => some v :: l
  | a :: l, n + 1, v => a :: setL l n v
def pops : Nat → sK → List Value → Option (List Value × sK)
  | 0, st, acc => some (acc, st)
  | n + 1, v :: st, acc => pops n st (v :: acc)
  | _ + 1, [], _ => none
def entL : List Value → sL
  | [] => []
  | .long x :: l => some (.long x) :: none :: entL l
  | .double x :: l => some (.double x) :: none :: entL l
  | v :: l => some v :: entL l
def padL : Nat → sL → sL
  | 0, _ => []
  | n + 1, [] => none :: padL n []
  | n + 1, v :: l => v :: padL n l
def swc (go : sT → sR) (x : Int32) : List Int32 → List sT → sT → sR
  | k :: ks, t :: ts, d => if x = k then go t else swc go x ks ts d
  | _, _, d => go d
def isL : Option (Option Value) → Bool
  | some (some (.long _)) => true
  | some (some (.double _)) => true
  | _ => false
def catS : sK → Nat
  | [] => 0
  | v :: l => v.category + catS l
/-- a store into a local variable: not behind a long's first half -/
def stoL (ls : sL) (k : Nat) (v : Value) (f : sL → sR) : sR :=
  bif Nat.ble ls.length k then none else match k with
  | 0 => f (setL ls 0 v)
  | n + 1 => bif isL (nth ls n) then none else f (setL ls (n + 1) v)
def ldI (ls : sL) (k : Nat) (f : Value → sR) : sR := match nth ls k with
  | some (some (.int x)) => f (.int x)
  | _ => none
def ldA (ls : sL) (k : Nat) (f : Value → sR) : sR := match nth ls k with
  | some (some (.ref x)) => f (.ref x)
  | _ => none
def ldL (ls : sL) (k : Nat) (f : Value → sR) : sR := match nth ls k with
  | some (some (.long x)) => f (.long x)
  | _ => none
def bi2 (st : sK) (op : Int32 → Int32 → Int32) (f : sK → sR) : sR := match st with
  | .int y :: .int x :: st => f (.int (op x y) :: st)
  | _ => none
def bl2 (st : sK) (op : Int64 → Int64 → Int64) (f : sK → sR) : sR := match st with
  | .long y :: .long x :: st => f (.long (op x y) :: st)
  | _ => none
def bs2 (st : sK) (op : Int64 → Int32 → Int64) (f : sK → sR) : sR := match st with
  | .int y :: .long x :: st => f (.long (op x y) :: st)
  | _ => none
def oShl (x y : Int32) : Int32 := x <<< (y &&& 31)
def oShr (x y : Int32) : Int32 := x >>> (y &&& 31)
def oUshr (x y : Int32) : Int32 := (x.toUInt32 >>> (y.toUInt32 &&& Int32.toUInt32 31)).toInt32
def oLshl (x : Int64) (y : Int32) : Int64 := x <<< (y.toInt64 &&& 63)
def oLshr (x : Int64) (y : Int32) : Int64 := x >>> (y.toInt64 &&& 63)
def oLushr (x : Int64) (y : Int32) : Int64 := (x.toUInt64 >>> (y.toInt64.toUInt64 &&& Int64.toUInt64 63)).toInt64
def minI (x y : Int32) : Int32 := if y < x then y else x
def maxI (x y : Int32) : Int32 := if x < y then y else x
def mmx (st : sK) (op : Int32 → Int32 → Int32) (f : sK → sR) : sR := match st with
  | .int y :: .int x :: st => bif Nat.ble (catS st) 8 then f (.int (op x y) :: st) else none
  | _ => none
def oRem (x y : Int32) : Int32 := x - x / y * y
def getF (lay : List sQ) (S : sS) (k ci j : Nat) (f : Value → sR) : sR := match nth lay k with
  | some (.inr (c, fs)) => bif Nat.beq c ci then (match nth fs j with
    | some none => f (.int (S k j))
    | some (some r) => f (.ref r)
    | none => none) else none
  | _ => none
def putF (lay : List sQ) (S : sS) (k ci j : Nat) (v : Int32) (f : sS → sR) : sR := match nth lay k with
  | some (.inr (c, fs)) => bif Nat.beq c ci then (match nth fs j with
    | some none => f (up2 S k j v)
    | _ => none) else none
  | _ => none
def getA (lay : List sQ) (X : sX) (S : sS) (k : Nat) (i : Int32) (f : Value → sR) : sR := match nth lay k with
  | some (.inl n) => ix i n (fun j => f (.int (S k j)))
  | _ => bif Nat.beq k scrR then ix i X.1 (fun j => f (.int (X.2 j))) else none
def putA (lay : List sQ) (S : sS) (k : Nat) (i v : Int32) (f : sS → sR) : sR := match nth lay k with
  | some (.inl n) => ix i n (fun j => f (up2 S k j v))
  | _ => none
def lenA (lay : List sQ) (X : sX) (k : Nat) (f : Value → sR) : sR := match nth lay k with
  | some (.inl n) => f (.int (Int32.ofNat n))
  | _ => bif Nat.beq k scrR then f (.int (Int32.ofNat X.1)) else none
/-- a copy of a whole row onto another, both of n places -/
def cpyA (lay : List sQ) (S : sS) (a b : Nat) (n : Int32) (f : sS → sR) : sR := match nth lay a, nth lay b with
  | some (.inl n1), some (.inl n2) => if n1 = n2 ∧ n = Int32.ofNat n1 ∧ n1 < 1000 then f (upA S b (fun j => if j < n1 then S a j else S b j)) else none
  | _, _ => none
/-- the receiver is a cell of the class that the callee is of -/
def rcv (lay : List sQ) (ci : Nat) (as : List Value) (f : sR) : sR := match as with
  | .ref k :: _ => (match nth lay k with
    | some (.inr (c, _)) => bif Nat.beq c ci then f else none
    | _ => none)
  | _ => none
/-- a call: which method (a1), how many operands (a2); of methods: its number of locals, its kind of answer (0 none, 1 int), its class -/
def call (C : Nat → List Value → sS → sR) (a1 a2 kd : Nat) (st : sK) (S : sS) (chk : List Value → sR → sR) (f : sK → sS → sR) : sR := match pops a2 st [] with
  | some (as, st') => bif Nat.ble (catS st') 8 then chk as (bif Nat.beq kd 0 then cV (C a1 as S) (fun S' => f st' S') else cI (C a1 as S) (fun r S' => f (.int r :: st') S')) else none
  | none => none
/-- one instruction: where it goes on -/
def stepI (lay : List sQ) (inf : Nat → Nat × Nat) (X : sX) (go : sT → sL → sK → sS → sR) (C : Nat → List Value → sS → sR) (e : sE) (ls : sL) (st : sK) (S : sS) : sR := match e with
  | (ins, nx, tg, a1, a2, _, cst, lc, ks) => match ins with
    | .iconst _ => go nx ls (.int cst :: st) S
    | .bipush _ => go nx ls (.int cst :: st) S
    | .sipush _ => go nx ls (.int cst :: st) S
    | .ldc _ => go nx ls (.int cst :: st) S
    | .ldc_w _ => go nx ls (.int cst :: st) S
    | .ldc2_w _ => go nx ls (.long lc :: st) S
    | .iload k => ldI ls k (fun v => go nx ls (v :: st) S)
    | .iload_n k => ldI ls k.val (fun v => go nx ls (v :: st) S)
    | .aload_n k => ldA ls k.val (fun v => go nx ls (v :: st) S)
    | .lload_n k => ldL ls k.val (fun v => go nx ls (v :: st) S)
    | .istore k => (match st with | .int x :: st' => stoL ls k (.int x) (fun ls' => go nx ls' st' S) | _ => none)
    | .istore_n k => (match st with | .int x :: st' => stoL ls k.val (.int x) (fun ls' => go nx ls' st' S) | _ => none)
    | .iinc k _ => (match nth ls k with | some (some (.int x)) => stoL ls k (.int (x + cst)) (fun ls' => go nx ls' st S) | _ => none)
    | .iadd => bi2 st (fun x y => x + y) (fun st' => go nx ls st' S)
    | .isub => bi2 st (fun x y => x - y) (fun st' => go nx ls st' S)
    | .imul => bi2 st (fun x y => x * y) (fun st' => go nx ls st' S)
    | .iand => bi2 st (fun x y => x &&& y) (fun st' => go nx ls st' S)
    | .ior => bi2 st (fun x y => x ||| y) (fun st' => go nx ls st' S)
    | .ixor => bi2 st (fun x y => x ^^^ y) (fun st' => go nx ls st' S)
    | .ishl => bi2 st oShl (fun st' => go nx ls st' S)
    | .ishr => bi2 st oShr (fun st' => go nx ls st' S)
    | .iushr => bi2 st oUshr (fun st' => go nx ls st' S)
    | .idiv => (match st with | .int y :: .int x :: st' => dv y (go nx ls (.int (x / y) :: st') S) | _ => none)
    | .irem => (match st with | .int y :: .int x :: st' => dv y (go nx ls (.int (oRem x y) :: st') S) | _ => none)
    | .ineg => (match st with | .int x :: st' => go nx ls (.int (-x) :: st') S | _ => none)
    | .i2l => (match st with | .int x :: st' => go nx ls (.long x.toInt64 :: st') S | _ => none)
    | .l2i => (match st with | .long x :: st' => go nx ls (.int x.toInt32 :: st') S | _ => none)
    | .land => bl2 st (fun x y => x &&& y) (fun st' => go nx ls st' S)
    | .lor => bl2 st (fun x y => x ||| y) (fun st' => go nx ls st' S)
    | .lshl => bs2 st oLshl (fun st' => go nx ls st' S)
    | .lshr => bs2 st oLshr (fun st' => go nx ls st' S)
    | .lushr => bs2 st oLushr (fun st' => go nx ls st' S)
    | .dup => (match st with | .int x :: st' => go nx ls (.int x :: .int x :: st') S | .ref x :: st' => go nx ls (.ref x :: .ref x :: st') S | _ => none)
    | .dup2 => (match st with | .int y :: .ref x :: st' => go nx ls (.int y :: .ref x :: .int y :: .ref x :: st') S | _ => none)
    | .pop => (match st with | .int _ :: st' => go nx ls st' S | _ => none)
    | .goto _ => (match tg with | [t] => go t ls st S | _ => none)
    | .if_icmp c _ => (match tg, st with
      | [t], .int y :: .int x :: st' => (match c with
        | .eq => if x = y then go t ls st' S else go nx ls st' S
        | .ne => if x = y then go nx ls st' S else go t ls st' S
        | .lt => if x < y then go t ls st' S else go nx ls st' S
        | .ge => if y ≤ x then go t ls st' S else go nx ls st' S
        | .gt => if y < x then go t ls st' S else go nx ls st' S
        | .le => if x ≤ y then go t ls st' S else go nx ls st' S)
      | _, _ => none)
    | .ifCond c _ => (match tg, st with
      | [t], .int x :: st' => (match c with
        | .eq => if x = 0 then go t ls st' S else go nx ls st' S
        | .ne => if x = 0 then go nx ls st' S else go t ls st' S
        | .lt => if x < 0 then go t ls st' S else go nx ls st' S
        | .ge => if 0 ≤ x then go t ls st' S else go nx ls st' S
        | .gt => if 0 < x then go t ls st' S else go nx ls st' S
        | .le => if x ≤ 0 then go t ls st' S else go nx ls st' S)
      | _, _ => none)
    | .tableswitch _ _ _ _ => (match tg, st with | d :: ts, .int x :: st' => swc (fun t => go t ls st' S) x ks ts d | _, _ => none)
    | .lookupswitch _ _ => (match tg, st with | d :: ts, .int x :: st' => swc (fun t => go t ls st' S) x ks ts d | _, _ => none)
    | .getfield _ => (match st with | .ref k :: st' => getF lay S k a1 a2 (fun v => go nx ls (v :: st') S) | _ => none)
    | .putfield _ => (match st with | .int v :: .ref k :: st' => (match tg with
        | [] => putF lay S k a1 a2 v (fun S' => go nx ls st' S')
        | _ => bz v (putF lay S k a1 a2 v (fun S' => go nx ls st' S'))) | _ => none)
    | .iaload => (match st with | .int i :: .ref k :: st' => getA lay X S k i (fun v => go nx ls (v :: st') S) | _ => none)
    | .iastore => (match st with | .int v :: .int i :: .ref k :: st' => putA lay S k i v (fun S' => go nx ls st' S') | _ => none)
    | .arraylength => (match st with | .ref k :: st' => lenA lay X k (fun v => go nx ls (v :: st') S) | _ => none)
    | .invokevirtual _ => call C a1 a2 (inf a1).1 st S (fun as r => rcv lay (inf a1).2 as r) (fun st' S' => go nx ls st' S')
    | .invokestatic _ => (match tg with
      | [] => call C a1 a2 (inf a1).1 st S (fun _ r => r) (fun st' S' => go nx ls st' S')
      | t :: _ => (match t.1 with
        | 0 => (match st with | [.int n, .int p, .ref b, .int q, .ref a] => if p = 0 ∧ q = 0 then cpyA lay S a b n (fun S' => go nx ls [] S') else none | _ => none)
        | 1 => mmx st minI (fun st' => go nx ls st' S)
        | _ => mmx st maxI (fun st' => go nx ls st' S)))
    | .ireturn => (match st with | [.int v] => (bif Nat.beq a1 0 then some (some (.int v), S) else bz v (some (some (.int v), S))) | _ => none)
    | .return_ => (match st with | [] => some (none, S) | _ => none)
    | _ => none
/-- straight on to the next cut, call or end -/
def seg (lay : List sQ) (inf : Nat → Nat × Nat) (X : sX) (K : Nat → sL → sK → sS → sR) (C : Nat → List Value → sS → sR) (cod : Nat → Option sE) : Nat → Nat → sL → sK → sS → sR
  | 0, _, _, _, _ => none
  | f + 1, pc, ls, st, S => match cod pc with
    | none => none
    | some e => stepI lay inf X (fun t ls st S => match t.2 with
      | none => seg lay inf X K C cod f t.1 ls st S
      | some kp => K t.1 (msk kp ls) st S) C e ls st S
/-- runs, by fuel: a cut or a call costs one -/
def runN (lay : List sQ) (inf : Nat → Nat × Nat) (mL : Nat → Nat) (cod : Nat → Nat → Option sE) (X : sX) : Nat → Nat → Nat → sL → sK → sS → sR
  | 0, _, _, _, _, _ => none
  | n + 1, mi, pc, ls, st, S => seg lay inf X (runN lay inf mL cod X n mi) (fun mi' as S' => bif Nat.ble (catS as) (mL mi') then runN lay inf mL cod X n mi' 0 (padL (mL mi') (entL as)) [] S' else none) (cod mi) 4000 pc ls st S
