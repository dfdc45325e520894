/-! the model's world in the same shape; what stays and what changes there -/
theorem ri_wl_2 (S : ri_H) (k j : Nat) (v : Int64) (i : Nat) : (ri_wl S k j v).2 k i = if i = j then v else S.2 k i := by
  show cond (Nat.beq k k) (cond (Nat.beq i j) v (S.2 k i)) (S.2 k i) = _
  rw [Nat.beq_refl]
  by_cases e : i = j
  · subst e
    rw [if_pos rfl, Nat.beq_refl]
    rfl
  · rw [if_neg e]
    have : Nat.beq i j = false := by
      rw [← Bool.not_eq_true]
      intro e2
      exact e (Nat.eq_of_beq_eq_true e2)
    rw [this]
    rfl
theorem ri_wl_o (S : ri_H) {c k : Nat} (j : Nat) (v : Int64) (h : c ≠ k) : (ri_wl S k j v).2 c = S.2 c := by
  have : Nat.beq c k = false := by
    rw [← Bool.not_eq_true]
    intro e
    exact h (Nat.eq_of_beq_eq_true e)
  funext i
  show cond (Nat.beq c k) _ (S.2 c i) = S.2 c i
  rw [this]
  rfl
