/-! THE REFERENCE: orders, one after the other -/
def fk (p : Nat → Nat) : Nat → Option Nat
  | 0 => none
  | m + 1 => if p (m + 1) < p m then fk p m else some m
def fe (p : Nat → Nat) (x : Nat) : Nat → Nat
  | 0 => 0
  | e + 1 => if p (e + 1) < x then fe p x e else e + 1
def swp (p : Nat → Nat) (a b : Nat) : Nat → Nat := fun j => if j = b then p a else if j = a then p b else p j
def rv : Nat → (Nat → Nat) → Nat → Nat → (Nat → Nat)
  | 0, p, _, _ => p
  | t + 1, p, lo, hi => if lo < hi then rv t (swp p lo hi) (lo + 1) (hi - 1) else p
def nxP (n : Nat) (p : Nat → Nat) : Option (Nat → Nat) := match fk p (n - 1) with
  | none => none
  | some k => some (rv 6 (swp p k (fe p (p k) (n - 1))) (k + 1) (n - 1))
def lexP (fc : Nat) : Nat → Nat → List (List Nat)
  | 0, _ => [[]]
  | m + 1, s => (List.range fc).flatMap (fun k => if bitN s k = 1 then (lexP fc m (clr s k)).map (fun r => k :: r) else [])
def gt (l : List Nat) : Nat → Nat := fun j => l.getD j 0
def chO (n : Nat) : List (List Nat) → Bool
  | [] => true
  | a :: r => (match r with
    | [] => (nxP n (gt a)).isNone
    | b :: _ => match nxP n (gt a) with
      | none => false
      | some p => (List.range n).all (fun j => p j == gt b j)) && chO n r
def okO (n : Nat) (L : List (List Nat)) : Bool := L.all (fun l => (List.range n).all (fun j => decide (gt l j < n)))
theorem chO_all : ∀ n, n < 7 → chO n (lexP n n (2 ^ n - 1)) = true := by decide +kernel
theorem okO_all : ∀ n, n < 7 → okO n (lexP n n (2 ^ n - 1)) = true := by decide +kernel
def hdO (n : Nat) (L : List (List Nat)) : Bool := match L with
  | [] => false
  | a :: _ => (List.range n).all (fun j => gt a j == j)
theorem hdO_all : ∀ n, n < 7 → hdO n (lexP n n (2 ^ n - 1)) = true := by decide +kernel
