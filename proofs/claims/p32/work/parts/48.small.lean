/-! small things of the faces -/
theorem wi_1 {j n : Nat} (h : j < n) (hn : n < 2 ^ 31) : wi (nI j) (nI n) = 1 := by
  unfold wi
  rw [if_neg (nI_pos (by omega)), if_neg (nI_ge h hn)]
theorem wi_d (a : Int32) {n : Nat} (hn : n < 2 ^ 31) : (∃ j, j < n ∧ a = nI j ∧ wi a (nI n) = 1) ∨ (wi a (nI n) = 0 ∧ ∀ j, j < n → a ≠ nI j) := by
  by_cases c : wi a (nI n) = 0
  · refine Or.inr ⟨c, fun j hj e => ?_⟩
    rw [e, wi_1 hj hn] at c
    exact absurd c (by decide)
  · obtain ⟨j, hj, e⟩ := wi_k hn c
    have e : a = nI j := e
    exact Or.inl ⟨j, hj, e, by rw [e, wi_1 hj hn]⟩
section SM
variable {S : ri_H} {Q : Int32 → ri_H → Prop} {x : Int32}
theorem nI_inj {a b : Nat} (ha : a < 2 ^ 31) (hb : b < 2 ^ 31) (h : nI a = nI b) : a = b := (nI_eq ha hb).mp h
end SM
/-! tastes -/
