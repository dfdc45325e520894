/-! tokens, of bytes f of which there are n -/
def isb (x : Int32) : Bool := decide (x = 32) || decide (x = 10)
def isl (x : Int32) : Bool := decide (97 ≤ x) && decide (x ≤ 122)
def isd (x : Int32) : Bool := decide (48 ≤ x) && decide (x ≤ 57)
/-- from h on, as long as P holds -/
def ru (P : Int32 → Bool) (f : Nat → Int32) (n : Nat) : Nat → Nat → Nat
  | 0, h => h
  | k + 1, h => if h < n then (if P (f h) = true then ru P f n k (h + 1) else h) else h
def run (P : Int32 → Bool) (f : Nat → Int32) (n h : Nat) : Nat := ru P f n (n - h) h
theorem run_le (P : Int32 → Bool) (f : Nat → Int32) (n : Nat) : ∀ k h, h ≤ ru P f n k h
  | 0, h => Nat.le_refl h
  | k + 1, h => by
    unfold ru
    split
    · split
      · exact Nat.le_of_succ_le (run_le P f n k (h + 1))
      · exact Nat.le_refl h
    · exact Nat.le_refl h
theorem ru_stop (P : Int32 → Bool) (f : Nat → Int32) (n : Nat) : ∀ k h, n - h ≤ k → h ≤ n → ru P f n k h ≤ n ∧ (ru P f n k h < n → P (f (ru P f n k h)) = false) ∧ ∀ j, h ≤ j → j < ru P f n k h → j < n ∧ P (f j) = true
  | 0, h, hk, hn => ⟨hn, fun c => by unfold ru at c; omega, fun j h1 h2 => by unfold ru at h2; omega⟩
  | k + 1, h, hk, hn => by
    unfold ru
    by_cases c : h < n
    · rw [if_pos c]
      cases hP : P (f h) with
      | true =>
        rw [if_pos rfl]
        obtain ⟨a, b, d⟩ := ru_stop P f n k (h + 1) (by omega) (by omega)
        refine ⟨a, b, fun j h1 h2 => ?_⟩
        by_cases e : j = h
        · subst e
          exact ⟨c, hP⟩
        · exact d j (by omega) h2
      | false =>
        rw [if_neg (by decide)]
        exact ⟨hn, fun _ => hP, fun j h1 h2 => absurd h2 (by omega)⟩
    · rw [if_neg c]
      exact ⟨hn, fun c2 => absurd c2 c, fun j h1 h2 => absurd h2 (by omega)⟩
theorem run_stop (P : Int32 → Bool) (f : Nat → Int32) (n h : Nat) (hn : h ≤ n) : h ≤ run P f n h ∧ run P f n h ≤ n ∧ (run P f n h < n → P (f (run P f n h)) = false) ∧ ∀ j, h ≤ j → j < run P f n h → j < n ∧ P (f j) = true :=
  ⟨run_le P f n _ h, ru_stop P f n (n - h) h (Nat.le_refl _) hn⟩
