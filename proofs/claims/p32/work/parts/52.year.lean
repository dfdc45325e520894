/-! force, year, spoon, count -/
section FORCE
variable {a b : Int32} {S : ri_H} {Q : Int32 → Int32 → ri_H → Prop}
theorem yr_10 (τ : Int32 → Int32 → List Int32) (t : Int32) (g : Nat → Nat → Int32) : p_yr τ t g 0 10 = g 0 10 + 1 := by
  unfold p_yr p_ny
  rw [gset_s, pk_us, p_yl_0]
theorem yr_o (τ : Int32 → Int32 → List Int32) (t : Int32) (g : Nat → Nat → Int32) {j : Nat} (h : j ≠ 10) : p_yr τ t g 0 j = g 0 j := by
  unfold p_yr p_ny
  rw [gset_s, pk_un h, p_yl_0]
theorem mood_b {v : Int32} : -99 ≤ (hd v (-99) 99).toInt ∧ (hd v (-99) 99).toInt ≤ 99 := by
  have h := hd_int v (-99) 99 (by decide)
  have e1 : (-99 : Int32).toInt = -99 := rfl
  have e2 : (99 : Int32).toInt = 99 := rfl
  rw [e1, e2] at h
  rw [h]
  split
  · omega
  · split <;> omega
end FORCE
