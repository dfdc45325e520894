/-! life, feed, text, force, year, spoon -/
section LIFE
variable {a b g : Int32} {S : ri_H} {T : Nat} {τ : Int32 → Int32 → List Int32}
theorem gwd_com {g : Nat → Nat → Int32} (h : gwd T g) {L k u c : Nat} (hL : L < 5) (l9 : g 0 9 = nI L) (hk : k < 6) (hu : u < 10) (hc : c < 12) : gwd T (p_com g (nI k) (nI u) (nI c)) := by
  unfold p_com
  rw [l9, pu_nI _ _ hL (by decide), pu_nI _ _ hL (by decide), pu_nI _ _ hL (by decide), pu_nI _ _ hL (by decide), pu_nI _ _ hL (by decide), nI_1]
  have h1 := gwd_3 (j := L) h hk
  have h2 := gwd_4 (j := L) h1 hu
  have h3 := gwd_5 (j := L) h2 hc
  have h4 := gwd_6 (j := L) h3 (x := 0) (by decide)
  have h5 := gwd_7 (j := L) h4 (v := 0) (by decide)
  exact gwd_l h5 (v := L + 1) (by omega)
end LIFE
