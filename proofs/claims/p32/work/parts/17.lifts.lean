/-! answers: the shapes of what a run ends with; switches -/
def Qi (Q : Int32 → ri_H → Prop) : Option Value → ri_H → Prop := fun v S => ∃ r, v = some (.int r) ∧ Q r S
def Ql (Q : Int64 → ri_H → Prop) : Option Value → ri_H → Prop := fun v S => ∃ r, v = some (.long r) ∧ Q r S
def Qv (Q : ri_H → Prop) : Option Value → ri_H → Prop := fun v S => v = none ∧ Q S
def Qr (Q : Option Nat → ri_H → Prop) : Option Value → ri_H → Prop := fun v S => ∃ o, v = some (ri_refn o) ∧ Q o S
theorem i32_ofInt {z : Int} (h1 : -2147483648 ≤ z) (h2 : z ≤ 2147483647) : (Int32.ofInt z).toInt = z := Int32.toInt_ofInt_of_le (by simpa using h1) (by simp; omega)
theorem ri_swc (x : Int32) (lo : Int) (n : Nat) (h1 : -2147483648 ≤ lo) (h2 : lo + n ≤ 2147483647 ∧ 1 ≤ n) : (x < Int32.ofInt lo ∨ Int32.ofInt (lo + n - 1) < x) ∨ ∃ i : Nat, i < n ∧ x = Int32.ofInt (lo + i) := by
  by_cases c1 : x.toInt < lo
  · refine Or.inl (Or.inl (Int32.lt_iff_toInt_lt.mpr ?_))
    rw [i32_ofInt h1 (by omega)]
    exact c1
  · by_cases c2 : lo + n - 1 < x.toInt
    · refine Or.inl (Or.inr (Int32.lt_iff_toInt_lt.mpr ?_))
      rw [i32_ofInt (by omega) (by omega)]
      exact c2
    · refine Or.inr ⟨(x.toInt - lo).toNat, by omega, ?_⟩
      apply Int32.toInt_inj.mp
      rw [i32_ofInt (by omega) (by omega)]
      omega
theorem ri_tgt_out (x : Int32) {pc : Nat} {d lo hi : Int} {offs : List Int} (c : x < Int32.ofInt lo ∨ Int32.ofInt hi < x) (h1 : -2147483648 ≤ lo ∧ lo ≤ 2147483647) (h2 : -2147483648 ≤ hi ∧ hi ≤ 2147483647) : ri_tgt pc d lo hi offs x = ((pc : Int) + d).toNat := by
  unfold ri_tgt
  rw [if_pos]
  rcases c with c | c
  · left
    have := Int32.lt_iff_toInt_lt.mp c
    rw [i32_ofInt h1.1 h1.2] at this
    exact this
  · right
    have := Int32.lt_iff_toInt_lt.mp c
    rw [i32_ofInt h2.1 h2.2] at this
    exact this
