/-! ranges; how the model finds its places -/
def rg (f : Nat → Int32) (n m : Nat) : Prop := ∀ j, j < n → ∃ v, v < m ∧ f j = nI v
def gok (g : Nat → Nat → Int32) : Prop := (∃ L, L ≤ 5 ∧ g 0 9 = nI L) ∧ rg (g 1) 24 12 ∧ rg (g 2) 24 1000 ∧ rg (g 3) 5 6 ∧ rg (g 4) 5 10 ∧ rg (g 5) 5 12 ∧ (∀ p, p < 5 → -99 ≤ (g 6 p).toInt ∧ (g 6 p).toInt ≤ 99) ∧ rg (g 7) 5 1000
theorem x5_0 (p : Nat) : (5 : Int32) * nI p = nI (5 * p) := pk_mul 5 p
theorem x5_1 (p : Nat) : (5 : Int32) * nI p + 1 = nI (5 * p + 1) := by rw [x5_0, nI_1]
theorem x2_0 (p : Nat) : (2 : Int32) * nI p = nI (2 * p) := pk_mul 2 p
theorem x2_1 (p : Nat) : (2 : Int32) * nI p + 1 = nI (2 * p + 1) := by rw [x2_0, nI_1]
theorem it_nI (f : Nat → Int32) {n i : Nat} (hi : i < n) (hn : n < 2 ^ 31) : it f n (nI i) = f i := by
  unfold it
  rw [if_neg (nI_pos (by omega)), if_neg (show ¬ Int32.ofNat n ≤ nI i from nI_ge hi hn), nI_clamp (by omega)]
theorem pu_nI (f : Nat → Int32) {n i : Nat} (v : Int32) (hi : i < n) (hn : n < 2 ^ 31) : pu n f (nI i) v = upd f i v := by
  unfold pu
  rw [if_neg (nI_pos (by omega)), if_neg (show ¬ Int32.ofNat n ≤ nI i from nI_ge hi hn), nI_clamp (by omega)]
theorem hd_int (v a b : Int32) (hab : a ≤ b) : (hd v a b).toInt = if v.toInt ≤ a.toInt then a.toInt else if b.toInt ≤ v.toInt then b.toInt else v.toInt := by
  have h0 := Int32.le_iff_toInt_le.mp hab
  unfold hd
  by_cases c1 : v < b
  · rw [if_pos c1]
    have c1' := Int32.lt_iff_toInt_lt.mp c1
    by_cases c2 : a < v
    · have c2' := Int32.lt_iff_toInt_lt.mp c2
      rw [if_pos c2, if_neg (by omega), if_neg (by omega)]
    · have c2' : ¬ a.toInt < v.toInt := fun h => c2 (Int32.lt_iff_toInt_lt.mpr h)
      rw [if_neg c2, if_pos (by omega)]
  · rw [if_neg c1]
    have c1' : ¬ v.toInt < b.toInt := fun h => c1 (Int32.lt_iff_toInt_lt.mpr h)
    by_cases c2 : a < b
    · have c2' := Int32.lt_iff_toInt_lt.mp c2
      rw [if_pos c2, if_neg (by omega), if_pos (by omega)]
    · have c2' : ¬ a.toInt < b.toInt := fun h => c2 (Int32.lt_iff_toInt_lt.mpr h)
      rw [if_neg c2]
      split
      · rfl
      · split
        · omega
        · omega
