/-! tokens, of bytes f of which there are n -/
def isb (x : Int32) : Bool := decide (x = 32) || decide (x = 10)
def isl (x : Int32) : Bool := decide (97 ≤ x) && decide (x ≤ 122)
def isd (x : Int32) : Bool := decide (48 ≤ x) && decide (x ≤ 57)
/-- from h on, as long as P holds -/
def ru (P : Int32 → Bool) (f : Nat → Int32) (n : Nat) : Nat → Nat → Nat
  | 0, h => h
  | k + 1, h => if h < n then (if P (f h) = true then ru P f n k (h + 1) else h) else h
def run (P : Int32 → Bool) (f : Nat → Int32) (n h : Nat) : Nat := ru P f n (n - h) h
theorem run_le (P : Int32 → Bool) (f : Nat → Int32) (n : Nat) : ∀ k h, h ≤ ru P f n k h
  | 0, h => Nat.le_refl h
  | k + 1, h => by
    unfold ru
    split
    · split
      · exact Nat.le_of_succ_le (run_le P f n k (h + 1))
      · exact Nat.le_refl h
    · exact Nat.le_refl h
theorem ru_stop (P : Int32 → Bool) (f : Nat → Int32) (n : Nat) : ∀ k h, n - h ≤ k → h ≤ n → ru P f n k h ≤ n ∧ (ru P f n k h < n → P (f (ru P f n k h)) = false) ∧ ∀ j, h ≤ j → j < ru P f n k h → j < n ∧ P (f j) = true
  | 0, h, hk, hn => ⟨hn, fun c => by unfold ru at c; omega, fun j h1 h2 => by unfold ru at h2; omega⟩
  | k + 1, h, hk, hn => by
    unfold ru
    by_cases c : h < n
    · rw [if_pos c]
      cases hP : P (f h) with
      | true =>
        rw [if_pos rfl]
        obtain ⟨a, b, d⟩ := ru_stop P f n k (h + 1) (by omega) (by omega)
        refine ⟨a, b, fun j h1 h2 => ?_⟩
        by_cases e : j = h
        · subst e
          exact ⟨c, hP⟩
        · exact d j (by omega) h2
      | false =>
        rw [if_neg (by decide)]
        exact ⟨hn, fun _ => hP, fun j h1 h2 => absurd h2 (by omega)⟩
    · rw [if_neg c]
      exact ⟨hn, fun c2 => absurd c2 c, fun j h1 h2 => absurd h2 (by omega)⟩
theorem run_stop (P : Int32 → Bool) (f : Nat → Int32) (n h : Nat) (hn : h ≤ n) : h ≤ run P f n h ∧ run P f n h ≤ n ∧ (run P f n h < n → P (f (run P f n h)) = false) ∧ ∀ j, h ≤ j → j < run P f n h → j < n ∧ P (f j) = true :=
  ⟨run_le P f n _ h, ru_stop P f n (n - h) h (Nat.le_refl _) hn⟩
def wl (f : Nat → Int32) (s e : Nat) : List Int32 := (List.range (e - s)).map (fun i => f (s + i))
/-- what a word is -/
def wsort (l : List Int32) : Int32 :=
  if l = [116, 97, 107, 101, 115] then 3 else if l = [112, 117, 116, 115] then 4 else if l = [102, 101, 101, 108, 115] then 5
  else if l = [111, 114] then 6 else if l = [97, 110, 100] then 7 else if l = [110, 111, 116] then 8
  else if l = [99, 114, 111, 115, 115, 105, 110, 103] then 10 else if l = [106, 97, 114] then 11 else if l = [110, 117, 109, 98, 101, 114] then 12
  else if l = [121, 101, 97, 114] then 13 else if l = [109, 111, 111, 100] then 14 else if l = [101, 97, 116, 101, 110] then 15 else 1
def ssort (x : Int32) : Int32 := if x = 40 ∨ x = 41 ∨ x = 59 ∨ x = 43 ∨ x = 45 ∨ x = 42 ∨ x = 60 ∨ x = 61 then x else 1
def num (f : Nat → Int32) (s : Nat) : Nat → Int32
  | 0 => 0
  | k + 1 => num f s k * 10 + f (s + k) - 48
/-- the token behind h: sort, worth, place, end -/
def tkb (f : Nat → Int32) (n h : Nat) : Nat := run isb f n h
def tke (f : Nat → Int32) (n s : Nat) : Nat := if isl (f s) = true then run isl f n s else if isd (f s) = true then run isd f n s else s + 1
def tks (f : Nat → Int32) (s e : Nat) : Int32 := if isl (f s) = true then wsort (wl f s e) else if isd (f s) = true then (if e - s > 4 then 1 else 2) else ssort (f s)
def tk (f : Nat → Int32) (n h : Nat) : Int32 × Int32 × Nat × Nat :=
  if n ≤ tkb f n h then (0, 0, n, n)
  else (tks f (tkb f n h) (tke f n (tkb f n h)), num f (tkb f n h) (tke f n (tkb f n h) - tkb f n h), tkb f n h, tke f n (tkb f n h))
