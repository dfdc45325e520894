/-! the reading of a text, pure: from a place (the end of the token before) a fault's place, or a code and the next place -/
abbrev pR : Type := Nat ⊕ (List Int32 × Nat)
abbrev pF : Type := Nat → pR
def pso (f : Nat → Int32) (n h : Nat) : Int32 := (tk f n h).1
def pwo (f : Nat → Int32) (n h : Nat) : Int32 := (tk f n h).2.1
def ppl (f : Nat → Int32) (n h : Nat) : Nat := (tk f n h).2.2.1
def pen (f : Nat → Int32) (n h : Nat) : Nat := (tk f n h).2.2.2
def pbd (r : pR) (k : List Int32 → Nat → pR) : pR := match r with
  | .inl x => .inl x
  | .inr (c, h) => k c h
def plp (f : Nat → Int32) (n : Nat) (P : Int32 → Option Int32) (F : pF) : Nat → List Int32 → Nat → pR
  | 0, c, h => .inr (c, h)
  | k + 1, c, h => match P (pso f n h) with
    | some s => pbd (F (pen f n h)) (fun d h2 => plp f n P F k (c ++ d ++ [s]) h2)
    | none => .inr (c, h)
def pch (f : Nat → Int32) (n : Nat) (P : Int32 → Option Int32) (F : pF) : pF := fun h => pbd (F h) (fun c h2 => plp f n P F 160 c h2)
def pno (f : Nat → Int32) (n : Nat) (b : Bool) (N F : pF) : pF := fun h =>
  if pso f n h = 8 then (if b = true then pbd (N (pen f n h)) (fun c h2 => .inr (c ++ [-8], h2)) else .inl (ppl f n h))
  else pbd (F h) (fun c h2 =>
    if pso f n h2 = 60 then pbd (F (pen f n h2)) (fun d h3 => .inr (c ++ d ++ [-11], h3))
    else if pso f n h2 = 61 then pbd (F (pen f n h2)) (fun d h3 => .inr (c ++ d ++ [-12], h3))
    else .inr (c, h2))
def pon (f : Nat → Int32) (n : Nat) (b : Bool) (O N : pF) : pF := fun h =>
  if pso f n h = 40 then (if b = true then pbd (O (pen f n h)) (fun c h2 => if pso f n h2 = 41 then .inr (c, pen f n h2) else .inl (ppl f n h2)) else .inl (ppl f n h))
  else if pso f n h = 45 then (if b = true then pbd (N (pen f n h)) (fun c h2 => .inr (c ++ [-7], h2)) else .inl (ppl f n h))
  else if pso f n h = 2 then .inr ([pwo f n h], pen f n h)
  else if 10 ≤ pso f n h ∧ pso f n h ≤ 15 then .inr ([-1 - (pso f n h - 10)], pen f n h)
  else .inl (ppl f n h)
def Pterm (s : Int32) : Option Int32 := if s = 42 then some (-15) else none
def Psum (s : Int32) : Option Int32 := if s = 43 then some (-13) else if s = 45 then some (-14) else none
def Pand (s : Int32) : Option Int32 := if s = 7 then some (-10) else none
def Por (s : Int32) : Option Int32 := if s = 6 then some (-9) else none
def pup (f : Nat → Int32) (n : Nat) (b : Bool) (G : pF × pF × pF) : pF × pF × pF :=
  (pch f n Por (pch f n Pand (pno f n b G.2.1 (pch f n Psum (pch f n Pterm (pon f n b G.1 G.2.2))))), pno f n b G.2.1 (pch f n Psum (pch f n Pterm (pon f n b G.1 G.2.2))), pon f n b G.1 G.2.2)
/-- or, not, one, by how many may still be opened, and one -/
def pgl (f : Nat → Int32) (n : Nat) : Nat → pF × pF × pF
  | 0 => (fun _ => .inl 0, fun _ => .inl 0, fun _ => .inl 0)
  | 0 + 1 => pup f n false (fun _ => .inl 0, fun _ => .inl 0, fun _ => .inl 0)
  | k + 2 => pup f n true (pgl f n (k + 1))
def ppt (f : Nat → Int32) (n : Nat) (k : Int32) (h : Nat) : pR :=
  if pso f n h = k then pbd ((pgl f n 6).1 (pen f n h)) (fun c h2 => if pso f n h2 = 59 then .inr (c, pen f n h2) else .inl (ppl f n h2)) else .inl (ppl f n h)
def ptx (f : Nat → Int32) (n : Nat) : Nat ⊕ (List Int32 × List Int32 × List Int32) := match ppt f n 3 0 with
  | .inl x => .inl x
  | .inr (c0, h0) => match ppt f n 4 h0 with
    | .inl x => .inl x
    | .inr (c1, h1) => match ppt f n 5 h1 with
      | .inl x => .inl x
      | .inr (c2, h2) => if pso f n h2 = 0 then .inr (c0, c1, c2) else .inl (ppl f n h2)
/-! of tokens -/
section TK
variable {f : Nat → Int32} {n h : Nat}
theorem tkb_b (hh : h ≤ n) : h ≤ tkb f n h ∧ tkb f n h ≤ n := by
  obtain ⟨a, b, _⟩ := run_stop isb f n h hh
  exact ⟨a, b⟩
theorem tke_b {s : Nat} (hs : s < n) : s < tke f n s ∧ tke f n s ≤ n := by
  unfold tke
  have one : ∀ P : Int32 → Bool, P (f s) = true → s < run P f n s ∧ run P f n s ≤ n := by
    intro P hP
    obtain ⟨a, b, c, _⟩ := run_stop P f n s (by omega)
    refine ⟨?_, b⟩
    rcases Nat.lt_or_ge s (run P f n s) with h | h
    · exact h
    · have e : run P f n s = s := by omega
      rw [e] at c
      have := c hs
      rw [hP] at this
      exact absurd this (by decide)
  split
  · rename_i h1
    exact one _ h1
  · split
    · rename_i h1
      exact one _ h1
    · omega
theorem ite_ne {p : Prop} [Decidable p] {a b k : Int32} (ha : a ≠ k) (hb : b ≠ k) : (if p then a else b) ≠ k := by
  by_cases c : p
  · rw [if_pos c]
    exact ha
  · rw [if_neg c]
    exact hb
theorem wsort_ne0 (l : List Int32) : wsort l ≠ 0 :=
  ite_ne (by decide) (ite_ne (by decide) (ite_ne (by decide) (ite_ne (by decide) (ite_ne (by decide) (ite_ne (by decide) (ite_ne (by decide) (ite_ne (by decide) (ite_ne (by decide) (ite_ne (by decide) (ite_ne (by decide) (ite_ne (by decide) (by decide))))))))))))
theorem ssort_ne0 (x : Int32) : ssort x ≠ 0 := by
  unfold ssort
  split
  · rename_i hx
    rcases hx with rfl | rfl | rfl | rfl | rfl | rfl | rfl | rfl <;> decide
  · decide
theorem tks_ne0 (s e : Nat) : tks f s e ≠ 0 := by
  unfold tks
  split
  · exact wsort_ne0 _
  · split
    · split <;> decide
    · exact ssort_ne0 _
theorem tk_end (c : n ≤ tkb f n h) : pso f n h = 0 ∧ ppl f n h = n ∧ pen f n h = n := by
  unfold pso ppl pen tk
  rw [if_pos c]
  exact ⟨rfl, rfl, rfl⟩
theorem tk_in (c : ¬ n ≤ tkb f n h) : pso f n h = tks f (tkb f n h) (tke f n (tkb f n h)) ∧ ppl f n h = tkb f n h ∧ pen f n h = tke f n (tkb f n h) ∧ pwo f n h = num f (tkb f n h) (tke f n (tkb f n h) - tkb f n h) := by
  unfold pso ppl pen pwo tk
  rw [if_neg c]
  exact ⟨rfl, rfl, rfl, rfl⟩
theorem ppl_b (hh : h ≤ n) : h ≤ ppl f n h ∧ ppl f n h ≤ n := by
  by_cases c : n ≤ tkb f n h
  · rw [(tk_end c).2.1]
    exact ⟨hh, Nat.le_refl _⟩
  · rw [(tk_in c).2.1]
    exact tkb_b hh
theorem pen_b (hh : h ≤ n) : h ≤ pen f n h ∧ pen f n h ≤ n := by
  by_cases c : n ≤ tkb f n h
  · rw [(tk_end c).2.2]
    exact ⟨hh, Nat.le_refl _⟩
  · rw [(tk_in c).2.2.1]
    have := tke_b (f := f) (n := n) (s := tkb f n h) (by omega)
    have := tkb_b (f := f) hh
    omega
theorem pso_in (c : pso f n h ≠ 0) : ¬ n ≤ tkb f n h := fun e => c (tk_end e).1
theorem pen_lt (hh : h ≤ n) (c : pso f n h ≠ 0) : h < pen f n h := by
  have c := pso_in c
  rw [(tk_in c).2.2.1]
  have := tke_b (f := f) (n := n) (s := tkb f n h) (by omega)
  have := tkb_b (f := f) hh
  omega
end TK
/-! what a code says -/
theorem vl_of {nm : Nat → Int32} {c : List Int32} {v : Int32} (h : ev nm c [] = [v]) : vl nm c = v := by
  unfold vl
  rw [h]
  rfl
theorem es_bin (nm : Nat → Int32) {s : Int32} (hs : s < -8) (x y : Int32) (st : List Int32) : es nm s (y :: x :: st) = jn s x y :: st := by
  unfold es
  rw [if_pos (Int32.lt_trans hs (by decide)), if_neg (fun e => by subst e; exact absurd hs (by decide)), if_neg (fun e => by subst e; exact absurd hs (by decide))]
  rfl
theorem cw_bin {c d : List Int32} {s : Int32} (hs : s < -8) (hc : cw c) (hd : cw d) : cw (c ++ d ++ [s]) ∧ ∀ nm, vl nm (c ++ d ++ [s]) = jn s (vl nm c) (vl nm d) := by
  have h : ∀ nm st, ev nm (c ++ d ++ [s]) st = jn s (vl nm c) (vl nm d) :: st := by
    intro nm st
    rw [ev_app, ev_app, hc.1, hd.1]
    show es nm s (vl nm d :: vl nm c :: st) = _
    exact es_bin nm hs _ _ _
  have h2 : ∀ nm, vl nm (c ++ d ++ [s]) = jn s (vl nm c) (vl nm d) := fun nm => vl_of (h nm [])
  refine ⟨⟨fun nm st => by rw [h, h2], fun k => ?_⟩, h2⟩
  rw [hg_app, hg_app, hc.2]
  show (hg d (k + 1)).bind (hg [s]) = some (k + 1)
  rw [hd.2]
  show hg [s] (k + 1 + 1) = some (k + 1)
  unfold hg
  rw [if_pos (Int32.lt_trans hs (by decide)), if_neg (fun e => by subst e; exact absurd hs (by decide)), if_neg (fun e => by subst e; exact absurd hs (by decide)), if_pos (by omega)]
  rfl
theorem cw_neg {c : List Int32} (hc : cw c) : cw (c ++ [-7]) ∧ ∀ nm, vl nm (c ++ [-7]) = -(vl nm c) := by
  have h : ∀ nm st, ev nm (c ++ [-7]) st = (-(vl nm c)) :: st := by
    intro nm st
    rw [ev_app, hc.1]
    rfl
  have h2 : ∀ nm, vl nm (c ++ [-7]) = -(vl nm c) := fun nm => vl_of (h nm [])
  refine ⟨⟨fun nm st => by rw [h, h2], fun k => ?_⟩, h2⟩
  rw [hg_app, hc.2]
  show hg [-7] (k + 1) = some (k + 1)
  unfold hg
  rw [if_pos (by decide), if_pos rfl, if_pos (by omega)]
  rfl
theorem cw_not {c : List Int32} (hc : cw c) : cw (c ++ [-8]) ∧ ∀ nm, vl nm (c ++ [-8]) = if vl nm c = 0 then 1 else 0 := by
  have h : ∀ nm st, ev nm (c ++ [-8]) st = (if vl nm c = 0 then 1 else 0) :: st := by
    intro nm st
    rw [ev_app, hc.1]
    rfl
  have h2 : ∀ nm, vl nm (c ++ [-8]) = if vl nm c = 0 then 1 else 0 := fun nm => vl_of (h nm [])
  refine ⟨⟨fun nm st => by rw [h, h2], fun k => ?_⟩, h2⟩
  rw [hg_app, hc.2]
  show hg [-8] (k + 1) = some (k + 1)
  unfold hg
  rw [if_pos (by decide), if_neg (by decide), if_pos rfl, if_pos (by omega)]
  rfl
theorem cw_one {s : Int32} (hs : -6 ≤ s) : cw [s] ∧ ∀ nm, vl nm [s] = if s < 0 then it nm 6 (-1 - s) else s := by
  have h : ∀ nm st, ev nm [s] st = (if s < 0 then it nm 6 (-1 - s) else s) :: st := by
    intro nm st
    show es nm s st = _
    unfold es
    rw [if_neg (Int32.not_lt.mpr hs)]
  have h2 : ∀ nm, vl nm [s] = if s < 0 then it nm 6 (-1 - s) else s := fun nm => vl_of (h nm [])
  refine ⟨⟨fun nm st => by rw [h, h2], fun k => ?_⟩, h2⟩
  unfold hg
  rw [if_neg (Int32.not_lt.mpr hs)]
  rfl
