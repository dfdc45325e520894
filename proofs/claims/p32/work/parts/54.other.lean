/-! otherwise, meet -/
def p_t (one : Int32) (kk i : Nat) : Int32 := if i = kk then one else -1
def yro (τ : Int32 → Int32 → List Int32) (g : Nat → Nat → Int32) (one : Int32) (kk : Nat) : Nat → Nat → Nat → Int32
  | 0 => g
  | i + 1 => p_yr τ (p_t one kk i) (yro τ g one kk i)
theorem yro_o (τ : Int32 → Int32 → List Int32) (g : Nat → Nat → Int32) (one : Int32) (kk : Nat) {j : Nat} (h : j ≠ 10) : ∀ k, yro τ g one kk k 0 j = g 0 j
  | 0 => rfl
  | k + 1 => (yr_o τ _ (yro τ g one kk k) h).trans (yro_o τ g one kk h k)
theorem gok_yro {τ : Int32 → Int32 → List Int32} {g : Nat → Nat → Int32} {one : Int32} {kk : Nat} (hg : gok g) : ∀ k, gok (yro τ g one kk k)
  | 0 => hg
  | k + 1 => gok_yr (gok_yro hg k)
section OTHER
variable {a b g : Int32} {S S0 : ri_H} {T : Nat} {τ : Int32 → Int32 → List Int32}
theorem l47_ok {Q : Int32 → ri_H → Prop} {g0 : Nat → Nat → Int32} {n kk : Nat} {one : Int32} (hn : n ≤ 40) (hkk : kk < n) (h : rT T τ S0) (hg : gwd T g0) (hQ : ∀ S', ag CX S0 S' → Q (it (yro τ g0 one kk n 5) 5 one) S') : ∀ d k S, k + d = n → ag CX S0 S → gw S 19 = yro τ g0 one kk k → w57_l47 Q (d + 1) one (nI n) (nI kk) (nI k) S
  | 0, k, S, hk, a, e => by
    have hk' : k = n := hk
    subst hk'
    unfold w57_l47
    rw [gw_it S 19 5 5 rfl (by decide), e]
    exact ⟨fun _ => hQ S a, fun c => absurd (nI_le (Nat.le_refl _) (by omega)) c⟩
  | d + 1, k, S, hk, a, e => by
    unfold w57_l47 w57_b68
    rw [nI_1]
    have step : w39 19 (p_t one kk k) S (fun S2 => w57_l47 Q (d + 1) one (nI n) (nI kk) (nI (k + 1)) S2) := by
      obtain ⟨⟨⟨L, hL, eL⟩, _⟩, _, r, hr, er⟩ := id hg
      have e9 : gw S 19 0 9 = nI L := by rw [e, yro_o _ _ _ _ (by decide)]; exact eL
      have e11 : gw S 19 0 11 = nI r := by rw [e, yro_o _ _ _ _ (by decide)]; exact er
      refine w39_ok (Or.inr rfl) e9 (by omega) (by rw [e11]; exact tc_ag2 h a hr) (fun S' a' e' => ?_)
      exact l47_ok hn hkk h hg hQ d (k + 1) S' (by omega) (ag_tr a (ag_mo a' (by decide))) (by rw [e', e]; rfl)
    unfold p_t at step
    refine ⟨fun c => absurd c (nI_ge (by omega) (by omega)), fun _ => ⟨fun c => ?_, fun c => ?_⟩⟩
    · rw [if_neg (fun q => c (by rw [q]))] at step
      exact step
    · rw [if_pos (nI_inj (by omega) (by omega) (Decidable.not_not.mp c))] at step
      exact step
/-! meet -/
end OTHER
