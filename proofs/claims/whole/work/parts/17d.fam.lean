/-! FAMILIES: both ways of gathering them, on numbers -/
def cW (r : Nat → Nat) (set : Nat) : Nat → Nat
  | 0 => set
  | x + 1 => if bitN set x = true then cW r set x ||| r x else cW r set x
def cF (r : Nat → Nat) (n : Nat) : Nat → Nat → Nat
  | 0, set => set
  | k + 1, set => if cW r set n = set then set else cF r n k (cW r set n)
def mS (r : Nat → Nat) (set x : Nat) : Nat := if bitN set x = true then set ||| r x else set
def mX (r : Nat → Nat) (set : Nat) : Nat → Nat
  | 0 => set
  | x + 1 => mS r (mX r set x) x
def mT (r : Nat → Nat) (n set : Nat) : Nat → Nat
  | 0 => set
  | t + 1 => mX r (mT r n set t) n
def Kb (a b c d e f g h i j : Bool) (x y : Nat) : Bool := match x, y with
  | 0, 1 => a
  | 1, 0 => a
  | 0, 2 => b
  | 2, 0 => b
  | 0, 3 => c
  | 3, 0 => c
  | 0, 4 => d
  | 4, 0 => d
  | 1, 2 => e
  | 2, 1 => e
  | 1, 3 => f
  | 3, 1 => f
  | 1, 4 => g
  | 4, 1 => g
  | 2, 3 => h
  | 3, 2 => h
  | 2, 4 => i
  | 4, 2 => i
  | 3, 4 => j
  | 4, 3 => j
  | _, _ => false
def rw5 (a b c d e f g h i j : Bool) (n x : Nat) : Nat := bset (Kb a b c d e f g h i j x) n
set_option maxRecDepth 100000 in
theorem fam1 : ∀ q, q < 1 → cF (rw5 false false false false false false false false false false 1) 1 1 (2 ^ q) = mT (rw5 false false false false false false false false false false 1) 1 (2 ^ q) 5 := by decide +kernel
set_option maxRecDepth 100000 in
theorem fam2 : ∀ a : Bool, ∀ q, q < 2 → cF (rw5 a false false false false false false false false false 2) 2 2 (2 ^ q) = mT (rw5 a false false false false false false false false false 2) 2 (2 ^ q) 5 := by decide +kernel
set_option maxRecDepth 100000 in
theorem fam3 : ∀ a b e : Bool, ∀ q, q < 3 → cF (rw5 a b false false e false false false false false 3) 3 3 (2 ^ q) = mT (rw5 a b false false e false false false false false 3) 3 (2 ^ q) 5 := by decide +kernel
set_option maxRecDepth 100000 in
theorem fam4 : ∀ a b c e f h : Bool, ∀ q, q < 4 → cF (rw5 a b c false e f false h false false 4) 4 4 (2 ^ q) = mT (rw5 a b c false e f false h false false 4) 4 (2 ^ q) 5 := by decide +kernel
set_option maxRecDepth 100000 in
theorem fam5 : ∀ a b c d e f g h i j : Bool, ∀ q, q < 5 → cF (rw5 a b c d e f g h i j 5) 5 5 (2 ^ q) = mT (rw5 a b c d e f g h i j 5) 5 (2 ^ q) 5 := by decide +kernel
