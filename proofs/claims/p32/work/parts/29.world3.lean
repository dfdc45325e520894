/-! worlds: who are at, all jars, one comes, a road closes, one world becomes another -/
def p_whol (g : Nat → Nat → Int32) (x : Int32) : Nat → Int32
  | 0 => 0
  | k + 1 => if it (g 5) 5 (nI k) = x then p_whol g x k ||| bt (nI k) else p_whol g x k
def p_who (g : Nat → Nat → Int32) (x : Int32) : Int32 := p_whol g x (g 0 9).toNatClampNeg
def p_sum (f : Nat → Int32) : Nat → Int32
  | 0 => 0
  | k + 1 => p_sum f k + f k
def p_all (g : Nat → Nat → Int32) : Int32 := p_sum (g 2) 24
def p_com (g : Nat → Nat → Int32) (a b x : Int32) : Nat → Nat → Int32 :=
  gset (gset (gset (gset (gset (gset g 3 (pu 5 (g 3) (g 0 9) a)) 4 (pu 5 (g 4) (g 0 9) b)) 5 (pu 5 (g 5) (g 0 9) x)) 6 (pu 5 (g 6) (g 0 9) 0)) 7 (pu 5 (g 7) (g 0 9) 0)) 0 (upd (g 0) 9 (g 0 9 + 1))
section WORLD
variable {w : Nat} {S : ri_H}
theorem w36_loop {Q : Int32 → ri_H → Prop} {x : Int32} {L : Nat} (hL : gw S w 0 9 = nI L) (hL2 : L < 2 ^ 31) (hQ : Q (p_whol (gw S w) x L) S) : ∀ (d k : Nat), k + d = L → w36_l4 w Q (d + 1) x (p_whol (gw S w) x k) (nI k) S
  | 0, k, hk => by
    have hk' : k = L := hk
    subst hk'
    unfold w36_l4
    rw [gw_0 S w 9 (by decide), hL]
    exact ⟨fun _ => hQ, fun c => absurd (nI_le (Nat.le_refl _) hL2) c⟩
  | d + 1, k, hk => by
    unfold w36_l4 w36_b31
    rw [gw_0 S w 9 (by decide), hL, gw_it S w 5 5 rfl (by decide), nI_1]
    have := w36_loop hL hL2 hQ d (k + 1) (by omega)
    unfold p_whol at this
    refine ⟨fun c => absurd c (nI_ge (by omega) hL2), fun _ => ⟨fun c => ?_, fun c => ?_⟩⟩
    · rw [if_neg c] at this
      exact this
    · rw [if_pos (Decidable.not_not.mp c)] at this
      exact this
theorem w36_ok {Q : Int32 → ri_H → Prop} {x : Int32} {L : Nat} (hL : gw S w 0 9 = nI L) (hL2 : L < 2 ^ 31) (hQ : Q (p_who (gw S w) x) S) : w36 w x S Q := by
  unfold p_who at hQ
  rw [hL, nI_clamp hL2] at hQ
  exact ⟨L + 1, w36_loop hL hL2 hQ L 0 (by omega)⟩
theorem gw_2 {k : Nat} (hk : k < 24) : S.1 (w + 2) k = gw S w 2 k := by
  rw [gw_p _ _ (by decide)]
  unfold nz
  rw [if_pos (show k < gsz 2 from hk)]
theorem w37_loop {Q : Int32 → ri_H → Prop} (hQ : Q (p_all (gw S w)) S) : ∀ (d k : Nat), k + d = 24 → w37_l4 w Q (d + 1) (p_sum (gw S w 2) k) (nI k) S
  | 0, k, hk => by
    have hk' : k = 24 := hk
    subst hk'
    unfold w37_l4
    exact ⟨fun _ => hQ, fun c => absurd (by decide) c⟩
  | d + 1, k, hk => by
    unfold w37_l4
    rw [nI_1, nI_clamp (by omega), gw_2 (by omega)]
    refine ⟨fun c => absurd c (nI_ge (a := k) (b := 24) (by omega) (by decide)), fun _ => ⟨vp_in_nI (by omega) (by decide), ?_⟩⟩
    exact w37_loop hQ d (k + 1) (by omega)
theorem w37_ok {Q : Int32 → ri_H → Prop} (hQ : Q (p_all (gw S w)) S) : w37 w S Q := ⟨25, w37_loop hQ 24 0 rfl⟩
theorem w35_ok {Q : Int32 → ri_H → Prop} {a b x : Int32} (h1 : gw S w 0 9 < 5 → ∀ S', ag [w, w + 3, w + 4, w + 5, w + 6, w + 7] S S' → gw S' w = p_com (gw S w) a b x → Q (gw S w 0 9) S') (h2 : ¬ gw S w 0 9 < 5 → Q (-4) S) : w35 w a b x S Q := by
  unfold w35
  rw [gw_0 S w 9 (by decide)]
  refine ⟨fun c => h1 c _ (ag_wi (ag_wr (ag_wr (ag_wr (ag_wr (ag_wr (ag_refl _ _) ?_) ?_) ?_) ?_) ?_) ?_) ?_, h2⟩
  · simp
  · simp
  · simp
  · simp
  · simp
  · simp
  · rw [gw_wi0 _ w 9 _ (by decide), gw_wr _ w 7 _ (by decide), gw_wr _ w 6 _ (by decide), gw_wr _ w 5 _ (by decide), gw_wr _ w 4 _ (by decide), gw_wr _ w 3 _ (by decide), gw_pu S w 3 5 rfl (by decide), gw_pu S w 4 5 rfl (by decide), gw_pu S w 5 5 rfl (by decide), gw_pu S w 6 5 rfl (by decide), gw_pu S w 7 5 rfl (by decide)]
    rfl
theorem nz_cpr (n : Nat) (f g : Nat → Int32) : nz n (cpr n f g) = nz n f := by
  funext j
  unfold nz cpr
  by_cases h : j < n
  · rw [if_pos h, if_pos h, if_pos h]
  · rw [if_neg h, if_neg h]
theorem w33_ok {o : Nat} (ho : w = 10 ∧ o = 28 ∨ w = 19 ∧ o = 10 ∨ w = 28 ∧ o = 10) {Q : ri_H → Prop} (hQ : ∀ S', ag [w, w + 1, w + 2, w + 3, w + 4, w + 5, w + 6, w + 7] S S' → gw S' w = gw S o → Q S') : w33 w o S Q := by
  unfold w33
  refine hQ _ (ag_wi (ag_wi (ag_wi (ag_wr (ag_wr (ag_wr (ag_wr (ag_wr (ag_wr (ag_wr (ag_refl _ _) ?_) ?_) ?_) ?_) ?_) ?_) ?_) ?_) ?_) ?_) ?_
  · simp
  · simp
  · simp
  · simp
  · simp
  · simp
  · simp
  · simp
  · simp
  · simp
  · rw [gw_wi0 _ w 11 _ (by decide), gw_wi0 _ w 10 _ (by decide), gw_wi0 _ w 9 _ (by decide), gw_wr _ w 7 _ (by decide), gw_wr _ w 6 _ (by decide), gw_wr _ w 5 _ (by decide), gw_wr _ w 4 _ (by decide), gw_wr _ w 3 _ (by decide), gw_wr _ w 2 _ (by decide), gw_wr _ w 1 _ (by decide)]
    funext o'
    match o' with
    | 0 =>
      funext j
      simp only [gset_s, gw_z]
      unfold upd
      by_cases h1 : j = 11
      · subst h1
        simp
      · by_cases h2 : j = 10
        · subst h2
          simp
        · by_cases h3 : j = 9
          · subst h3
            simp
          · have : ¬ (9 ≤ j ∧ j ≤ 11) := by omega
            simp [gset, gw_z, h1, h2, h3, this]
    | 1 => exact (nz_cpr 24 _ _).trans (gw_p S o (o := 1) (by decide)).symm
    | 2 => exact (nz_cpr 24 _ _).trans (gw_p S o (o := 2) (by decide)).symm
    | 3 => exact (nz_cpr 5 _ _).trans (gw_p S o (o := 3) (by decide)).symm
    | 4 => exact (nz_cpr 5 _ _).trans (gw_p S o (o := 4) (by decide)).symm
    | 5 => exact (nz_cpr 5 _ _).trans (gw_p S o (o := 5) (by decide)).symm
    | 6 => exact (nz_cpr 5 _ _).trans (gw_p S o (o := 6) (by decide)).symm
    | 7 => exact (nz_cpr 5 _ _).trans (gw_p S o (o := 7) (by decide)).symm
    | n + 8 =>
      have hz : ∀ v, gw S v (n + 8) = fun _ => 0 := by
        intro v
        rw [gw_p _ _ (by omega)]
        have : gsz (n + 8) = 0 := by
          unfold gsz
          rw [if_neg (by omega), if_neg (by omega), if_neg (by omega)]
        rw [this]
        funext j
        unfold nz
        rw [if_neg (by omega)]
      rw [hz o, gset_o _ _ (by omega), gset_o _ _ (by omega), gset_o _ _ (by omega), gset_o _ _ (by omega), gset_o _ _ (by omega), gset_o _ _ (by omega), gset_o _ _ (by omega), gset_o _ _ (by omega), gset_o _ _ (by omega), gset_o _ _ (by omega), hz w]
end WORLD
