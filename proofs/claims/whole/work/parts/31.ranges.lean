/-! ranges; how the model finds its places -/
def rg (f : Nat → Int32) (n m : Nat) : Prop := ∀ j, j < n → ∃ v, v < m ∧ f j = nI v
def gok (g : Nat → Nat → Int32) : Prop := (∃ L, L ≤ 5 ∧ g 0 9 = nI L) ∧ rg (g 1) 24 12 ∧ rg (g 2) 24 1000 ∧ rg (g 3) 5 6 ∧ rg (g 4) 5 10 ∧ rg (g 5) 5 12 ∧ (∀ p, p < 5 → -99 ≤ (g 6 p).toInt ∧ (g 6 p).toInt ≤ 99) ∧ rg (g 7) 5 1000
theorem x5_0 (p : Nat) : (5 : Int32) * nI p = nI (5 * p) := pk_mul 5 p
theorem x5_1 (p : Nat) : (5 : Int32) * nI p + 1 = nI (5 * p + 1) := by rw [x5_0, nI_1]
theorem x5_2 (p : Nat) : (5 : Int32) * nI p + 2 = nI (5 * p + 2) := by rw [x5_0]; exact nI_add _ 2
theorem x5_3 (p : Nat) : (5 : Int32) * nI p + 3 = nI (5 * p + 3) := by rw [x5_0]; exact nI_add _ 3
theorem x5_4 (p : Nat) : (5 : Int32) * nI p + 4 = nI (5 * p + 4) := by rw [x5_0]; exact nI_add _ 4
theorem x2_0 (p : Nat) : (2 : Int32) * nI p = nI (2 * p) := pk_mul 2 p
theorem x2_1 (p : Nat) : (2 : Int32) * nI p + 1 = nI (2 * p + 1) := by rw [x2_0, nI_1]
theorem it_nI (f : Nat → Int32) {n i : Nat} (hi : i < n) (hn : n < 2 ^ 31) : it f n (nI i) = f i := by
  unfold it
  rw [if_neg (nI_pos (by omega)), if_neg (show ¬ Int32.ofNat n ≤ nI i from nI_ge hi hn), nI_clamp (by omega)]
theorem pu_nI (f : Nat → Int32) {n i : Nat} (v : Int32) (hi : i < n) (hn : n < 2 ^ 31) : pu n f (nI i) v = upd f i v := by
  unfold pu
  rw [if_neg (nI_pos (by omega)), if_neg (show ¬ Int32.ofNat n ≤ nI i from nI_ge hi hn), nI_clamp (by omega)]
section GM
variable {S : ri_H} {p : Nat}
theorem gm_9 : S.1 50 11 = gm S 0 9 := rfl
theorem gm_10 : S.1 50 7 = gm S 0 10 := rfl
theorem gm_11 : S.1 50 4 = gm S 0 11 := rfl
theorem gm_1 {k : Nat} (h : k < 24) : S.1 54 k = gm S 1 k := (if_pos h).symm
theorem gm_2 {k : Nat} (h : k < 24) : S.1 55 k = gm S 2 k := (if_pos h).symm
theorem gm_3 (h : p < 5) : S.1 56 (5 * p + 4) = gm S 3 p := (if_pos h).symm
theorem gm_4 (h : p < 5) : S.1 56 (5 * p) = gm S 4 p := (if_pos h).symm
theorem gm_5 (h : p < 5) : S.1 56 (5 * p + 1) = gm S 5 p := (if_pos h).symm
theorem gm_6 (h : p < 5) : S.1 56 (5 * p + 2) = gm S 6 p := (if_pos h).symm
theorem gm_7 (h : p < 5) : S.1 56 (5 * p + 3) = gm S 7 p := (if_pos h).symm
theorem w114_ok {Q : Int32 → ri_H → Prop} (h : p < 5) (hQ : Q (gm S 5 p) S) : w114 (nI p) S Q := by
  unfold w114
  rw [x5_1, nI_clamp (by omega), gm_5 h]
  exact ⟨vp_in_nI (by omega) (by decide), hQ⟩
end GM
theorem hd_int (v a b : Int32) (hab : a ≤ b) : (hd v a b).toInt = if v.toInt ≤ a.toInt then a.toInt else if b.toInt ≤ v.toInt then b.toInt else v.toInt := by
  have h0 := Int32.le_iff_toInt_le.mp hab
  unfold hd
  by_cases c1 : v < b
  · rw [if_pos c1]
    have c1' := Int32.lt_iff_toInt_lt.mp c1
    by_cases c2 : a < v
    · have c2' := Int32.lt_iff_toInt_lt.mp c2
      rw [if_pos c2, if_neg (by omega), if_neg (by omega)]
    · have c2' : ¬ a.toInt < v.toInt := fun h => c2 (Int32.lt_iff_toInt_lt.mpr h)
      rw [if_neg c2, if_pos (by omega)]
  · rw [if_neg c1]
    have c1' : ¬ v.toInt < b.toInt := fun h => c1 (Int32.lt_iff_toInt_lt.mpr h)
    by_cases c2 : a < b
    · have c2' := Int32.lt_iff_toInt_lt.mp c2
      rw [if_pos c2, if_neg (by omega), if_pos (by omega)]
    · have c2' : ¬ a.toInt < b.toInt := fun h => c2 (Int32.lt_iff_toInt_lt.mpr h)
      rw [if_neg c2]
      split
      · rfl
      · split
        · omega
        · omega
theorem w103_ok {Q : Int32 → ri_H → Prop} {S : ri_H} {v a b : Int32} (hab : a ≤ b) (hQ : Q (hd v a b) S) : w103 v a b S Q := by
  unfold w103
  have h0 := hd_int v a b hab
  have h1 := Int32.le_iff_toInt_le.mp hab
  refine ⟨fun c => ⟨fun c2 => ?_, fun c2 => ?_⟩, fun c => ?_⟩
  · have c' := Int32.le_iff_toInt_le.mp c
    have c2' := Int32.le_iff_toInt_le.mp c2
    have : hd v a b = v := Int32.toInt_inj.mp (by rw [h0]; split <;> (try split) <;> omega)
    rw [this] at hQ
    exact hQ
  · have c' := Int32.le_iff_toInt_le.mp c
    have c2' : ¬ v.toInt ≤ b.toInt := fun h => c2 (Int32.le_iff_toInt_le.mpr h)
    have : hd v a b = b := Int32.toInt_inj.mp (by rw [h0]; split <;> (try split) <;> omega)
    rw [this] at hQ
    exact hQ
  · have c' : ¬ a.toInt ≤ v.toInt := fun h => c (Int32.le_iff_toInt_le.mpr h)
    have : hd v a b = a := Int32.toInt_inj.mp (by rw [h0]; split <;> (try split) <;> omega)
    rw [this] at hQ
    exact hQ
