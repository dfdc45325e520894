/-! worlds written to -/
def CW : List Nat := [10, 11, 12, 13, 14, 15, 16, 17, 4, 18, 19, 20, 21, 22, 23, 24, 25, 26, 27, 46, 47, 48, 49]
theorem gw_wi {S : ri_H} {w o j : Nat} {v : Int32} (ho : o ≠ 0) (hj : j < gsz o) : gw (ri_wi S (w + o) j v) w = gset (gw S w) o (upd (gw S w o) j v) := by
  rw [ri_wi_wr, gw_wr _ _ _ _ ho, gw_p _ _ ho]
  congr 1
  funext i
  unfold nz upd
  by_cases e : i = j
  · subst e
    simp [hj]
  · simp [e]
section GWD
variable {T : Nat} {g : Nat → Nat → Int32} {j v : Nat}
theorem gwd_1 (h : gwd T g) (hv : v < 12) : gwd T (gset g 1 (upd (g 1) j (nI v))) := by
  obtain ⟨⟨k0, k1, k2, k3, k4, k5, k6, k7⟩, hy, hr⟩ := h
  exact ⟨⟨k0, rg_upd k1 hv, k2, k3, k4, k5, k6, k7⟩, hy, hr⟩
theorem gwd_2 (h : gwd T g) (hv : v < 1000) : gwd T (gset g 2 (upd (g 2) j (nI v))) := by
  obtain ⟨⟨k0, k1, k2, k3, k4, k5, k6, k7⟩, hy, hr⟩ := h
  exact ⟨⟨k0, k1, rg_upd k2 hv, k3, k4, k5, k6, k7⟩, hy, hr⟩
theorem gwd_3 (h : gwd T g) (hv : v < 6) : gwd T (gset g 3 (upd (g 3) j (nI v))) := by
  obtain ⟨⟨k0, k1, k2, k3, k4, k5, k6, k7⟩, hy, hr⟩ := h
  exact ⟨⟨k0, k1, k2, rg_upd k3 hv, k4, k5, k6, k7⟩, hy, hr⟩
theorem gwd_4 (h : gwd T g) (hv : v < 10) : gwd T (gset g 4 (upd (g 4) j (nI v))) := by
  obtain ⟨⟨k0, k1, k2, k3, k4, k5, k6, k7⟩, hy, hr⟩ := h
  exact ⟨⟨k0, k1, k2, k3, rg_upd k4 hv, k5, k6, k7⟩, hy, hr⟩
theorem gwd_5 (h : gwd T g) (hv : v < 12) : gwd T (gset g 5 (upd (g 5) j (nI v))) := by
  obtain ⟨⟨k0, k1, k2, k3, k4, k5, k6, k7⟩, hy, hr⟩ := h
  exact ⟨⟨k0, k1, k2, k3, k4, rg_upd k5 hv, k6, k7⟩, hy, hr⟩
theorem gwd_6 (h : gwd T g) {x : Int32} (hv : -99 ≤ x.toInt ∧ x.toInt ≤ 99) : gwd T (gset g 6 (upd (g 6) j x)) := by
  obtain ⟨⟨k0, k1, k2, k3, k4, k5, k6, k7⟩, hy, hr⟩ := h
  refine ⟨⟨k0, k1, k2, k3, k4, k5, fun p hp => ?_, k7⟩, hy, hr⟩
  show -99 ≤ (upd (g 6) j x p).toInt ∧ (upd (g 6) j x p).toInt ≤ 99
  unfold upd
  by_cases e : p = j
  · rw [if_pos e]
    exact hv
  · rw [if_neg e]
    exact k6 p hp
theorem gwd_7 (h : gwd T g) (hv : v < 1000) : gwd T (gset g 7 (upd (g 7) j (nI v))) := by
  obtain ⟨⟨k0, k1, k2, k3, k4, k5, k6, k7⟩, hy, hr⟩ := h
  exact ⟨⟨k0, k1, k2, k3, k4, k5, k6, rg_upd k7 hv⟩, hy, hr⟩
theorem gwd_y (h : gwd T g) (hv : v ≤ 999) : gwd T (gset g 0 (upd (g 0) 10 (nI v))) := by
  obtain ⟨⟨k0, k⟩, hy, hr⟩ := h
  exact ⟨⟨k0, k⟩, ⟨v, hv, rfl⟩, hr⟩
theorem gwd_r (h : gwd T g) (hv : v < T) : gwd T (gset g 0 (upd (g 0) 11 (nI v))) := by
  obtain ⟨⟨k0, k⟩, hy, hr⟩ := h
  exact ⟨⟨k0, k⟩, hy, ⟨v, hv, rfl⟩⟩
theorem gwd_l (h : gwd T g) (hv : v ≤ 5) : gwd T (gset g 0 (upd (g 0) 9 (nI v))) := by
  obtain ⟨⟨k0, k⟩, hy, hr⟩ := h
  exact ⟨⟨⟨v, hv, rfl⟩, k⟩, hy, hr⟩
end GWD
/-! set -/
