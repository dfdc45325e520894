/-! tokens, of bytes f of which there are n -/
def isb (x : Int32) : Bool := decide (x = 32) || decide (x = 10)
def isl (x : Int32) : Bool := decide (97 ≤ x) && decide (x ≤ 122)
def isd (x : Int32) : Bool := decide (48 ≤ x) && decide (x ≤ 57)
/-- from h on, as long as P holds -/
def ru (P : Int32 → Bool) (f : Nat → Int32) (n : Nat) : Nat → Nat → Nat
  | 0, h => h
  | k + 1, h => if h < n then (if P (f h) = true then ru P f n k (h + 1) else h) else h
def run (P : Int32 → Bool) (f : Nat → Int32) (n h : Nat) : Nat := ru P f n (n - h) h
theorem run_le (P : Int32 → Bool) (f : Nat → Int32) (n : Nat) : ∀ k h, h ≤ ru P f n k h
  | 0, h => Nat.le_refl h
  | k + 1, h => by
    unfold ru
    split
    · split
      · exact Nat.le_of_succ_le (run_le P f n k (h + 1))
      · exact Nat.le_refl h
    · exact Nat.le_refl h
