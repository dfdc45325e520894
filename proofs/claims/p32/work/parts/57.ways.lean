/-! ways, as numbers -/
def upn (f : Nat → Nat) (k x : Nat) : Nat → Nat := fun j => if j = k then x else f j
def p_to (g : Nat → Nat → Int32) (k : Nat) : Nat := (g 1 k).toNatClampNeg
def p_wa (g : Nat → Nat → Int32) (v : Nat → Nat) : Nat → Nat → Nat
  | 0 => fun _ => 0
  | k + 1 => upn (p_wa g v k) (p_to g k) (p_wa g v k (p_to g k) + v (k / 2))
def p_ws (g : Nat → Nat → Int32) (fr : Nat) : Nat → Nat → Nat
  | 0 => fun j => if j = fr then 1 else 0
  | n + 1 => p_wa g (p_ws g fr n) 24
def tot (v : Nat → Nat) : Nat := v 0 + v 1 + v 2 + v 3 + v 4 + v 5 + v 6 + v 7 + v 8 + v 9 + v 10 + v 11
theorem tot_up (v : Nat → Nat) (x : Nat) : ∀ t, t < 12 → tot (upn v t (v t + x)) = tot v + x
  | 0, _ => by simp [tot, upn]; omega
  | 1, _ => by simp [tot, upn]; omega
  | 2, _ => by simp [tot, upn]; omega
  | 3, _ => by simp [tot, upn]; omega
  | 4, _ => by simp [tot, upn]; omega
  | 5, _ => by simp [tot, upn]; omega
  | 6, _ => by simp [tot, upn]; omega
  | 7, _ => by simp [tot, upn]; omega
  | 8, _ => by simp [tot, upn]; omega
  | 9, _ => by simp [tot, upn]; omega
  | 10, _ => by simp [tot, upn]; omega
  | 11, _ => by simp [tot, upn]; omega
  | t + 12, h => absurd h (by omega)
theorem tot_le (v : Nat → Nat) : ∀ t, t < 12 → v t ≤ tot v
  | 0, _ => by unfold tot; omega
  | 1, _ => by unfold tot; omega
  | 2, _ => by unfold tot; omega
  | 3, _ => by unfold tot; omega
  | 4, _ => by unfold tot; omega
  | 5, _ => by unfold tot; omega
  | 6, _ => by unfold tot; omega
  | 7, _ => by unfold tot; omega
  | 8, _ => by unfold tot; omega
  | 9, _ => by unfold tot; omega
  | 10, _ => by unfold tot; omega
  | 11, _ => by unfold tot; omega
  | t + 12, h => absurd h (by omega)
def smh (v : Nat → Nat) : Nat → Nat
  | 0 => 0
  | k + 1 => smh v k + v (k / 2)
theorem smh_24 (v : Nat → Nat) : smh v 24 = 2 * tot v := by
  simp [smh, tot]
  omega
section WAYS
variable {g : Nat → Nat → Int32}
theorem to_lt (h1 : rg (g 1) 24 12) {k : Nat} (hk : k < 24) : p_to g k < 12 ∧ g 1 k = nI (p_to g k) := by
  obtain ⟨c, hc, e⟩ := h1 k hk
  unfold p_to
  rw [e, nI_clamp (by omega)]
  exact ⟨hc, rfl⟩
theorem tot_wa (h1 : rg (g 1) 24 12) (v : Nat → Nat) : ∀ k, k ≤ 24 → tot (p_wa g v k) = smh v k
  | 0, _ => rfl
  | k + 1, hk => by
    show tot (upn (p_wa g v k) (p_to g k) (p_wa g v k (p_to g k) + v (k / 2))) = smh v k + v (k / 2)
    rw [tot_up _ _ _ (to_lt h1 (by omega)).1, tot_wa h1 v k (by omega)]
theorem tot_ws (h1 : rg (g 1) 24 12) {fr : Nat} (hf : fr < 12) : ∀ n, tot (p_ws g fr n) = 2 ^ n
  | 0 => by
    have := tot_up (fun _ => 0) 1 fr hf
    have e : upn (fun _ => 0) fr ((fun _ => 0) fr + 1) = p_ws g fr 0 := rfl
    rw [e] at this
    rw [this]
    rfl
  | n + 1 => by
    show tot (p_wa g (p_ws g fr n) 24) = _
    rw [tot_wa h1 _ 24 (Nat.le_refl _), smh_24, tot_ws h1 hf n, Nat.pow_succ]
    omega
theorem ws_le (h1 : rg (g 1) 24 12) {fr t n : Nat} (hf : fr < 12) (ht : t < 12) (hn : n ≤ 30) : p_ws g fr n t ≤ 2 ^ 30 := by
  have a := tot_le (p_ws g fr n) t ht
  rw [tot_ws h1 hf] at a
  exact Nat.le_trans a (Nat.pow_le_pow_right (by decide) hn)
end WAYS
/-! Euclid -/
def eu : Nat → Nat → Nat → Nat
  | 0, a, _ => a
  | f + 1, a, b => if b = 0 then a else eu f b (a % b)
def ed : Nat → Nat → Nat → Prop
  | 0, _, b => b = 0
  | f + 1, a, b => b = 0 ∨ ed f b (a % b)
theorem ed_mono : ∀ f a b d, ed f a b → ed (f + d) a b
  | 0, a, b, d, h => by
    have h : b = 0 := h
    subst h
    cases d with
    | zero => exact rfl
    | succ d =>
      rw [Nat.zero_add]
      exact Or.inl rfl
  | f + 1, a, b, d, h => by
    rw [show f + 1 + d = (f + d) + 1 by omega]
    rcases h with h | h
    · exact Or.inl h
    · exact Or.inr (ed_mono f _ _ d h)
theorem ed_log : ∀ L a b, b < 2 ^ L → ed (2 * L + 1) a b
  | 0, a, b, h => by
    have : b = 0 := by
      have : (2 : Nat) ^ 0 = 1 := rfl
      omega
    exact Or.inl this
  | L + 1, a, b, h => by
    by_cases hb : b = 0
    · exact Or.inl hb
    · refine Or.inr ?_
      by_cases hr : a % b = 0
      · rw [hr]
        have q := ed_mono 0 b 0 (2 * (L + 1)) rfl
        rw [Nat.zero_add] at q
        exact q
      · rw [show 2 * (L + 1) = (2 * L + 1) + 1 by omega]
        refine Or.inr (ed_log L _ _ ?_)
        have h1 : a % b < b := Nat.mod_lt _ (by omega)
        have h2 : b % (a % b) < a % b := Nat.mod_lt _ (by omega)
        have h3 : b % (a % b) ≤ b - (a % b) := by
          rw [Nat.mod_eq_sub_mod (by omega)]
          exact Nat.mod_le _ _
        have h4 : 2 ^ (L + 1) = 2 * 2 ^ L := by
          rw [Nat.pow_succ]
          omega
        omega
theorem eu_pos : ∀ f a b, ed f a b → 0 < a ∨ 0 < b → 0 < eu f a b
  | 0, a, b, h, hp => by
    have h : b = 0 := h
    show 0 < a
    omega
  | f + 1, a, b, h, hp => by
    unfold eu
    by_cases hb : b = 0
    · rw [if_pos hb]
      omega
    · rw [if_neg hb]
      rcases h with h | h
      · exact absurd h hb
      · exact eu_pos f b (a % b) h (Or.inl (by omega))
theorem eu_le : ∀ f a b, eu f a b ≤ a ∨ eu f a b ≤ b
  | 0, a, b => Or.inl (Nat.le_refl _)
  | f + 1, a, b => by
    unfold eu
    by_cases hb : b = 0
    · rw [if_pos hb]
      exact Or.inl (Nat.le_refl _)
    · rw [if_neg hb]
      have h1 : a % b < b := Nat.mod_lt _ (by omega)
      rcases eu_le f b (a % b) with h | h
      · exact Or.inr h
      · exact Or.inr (by omega)
section LOW
variable {S : ri_H} {Q : Int64 → ri_H → Prop}
theorem l9_ok : ∀ f i a b, i + f = 200 → a < 2 ^ 31 → b < 2 ^ 31 → Q (lN (eu f a b)) S → w85_l9 Q (f + 1) (lN a) (lN b) (nI i) S
  | 0, i, a, b, hi, ha, hb, hQ => by
    have hi' : i = 200 := hi
    subst hi'
    unfold w85_l9
    exact ⟨fun _ => hQ, fun c => absurd (show (200 : Int32) ≤ nI 200 by decide) c⟩
  | f + 1, i, a, b, hi, ha, hb, hQ => by
    unfold w85_l9
    rw [lg_cmp_eq, nI_1]
    unfold eu at hQ
    refine ⟨fun c => absurd c (nI_ge (b := 200) (by omega) (by decide)), fun _ => ⟨fun c => ?_, fun c => ?_⟩⟩
    · have c' : b = 0 := (pk_lEQ (b := 0) (by omega) (by decide)).mp c
      rw [if_pos c'] at hQ
      exact hQ
    · have c' : b ≠ 0 := fun e => c (by rw [e]; rfl)
      rw [if_neg c'] at hQ
      refine ⟨c, ?_⟩
      rw [pk_lRem (by omega) (by omega) (by omega)]
      have := Nat.mod_lt a (show 0 < b by omega)
      exact l9_ok f (i + 1) b (a % b) (by omega) hb (by omega) hQ
/-- in lowest terms -/
def p_low (A B : Nat) (g : Int32) : Int64 := if g = 0 then lN (A / eu 200 A B) else lN (B / eu 200 A B)
theorem ed200 (A : Nat) {B : Nat} (hB : B < 2 ^ 31) : ed 200 A B := by
  have := ed_mono _ _ _ 137 (ed_log 31 A B hB)
  exact this
theorem low_c {A B : Nat} {g : Int32} (hA : A < 2 ^ 31) (hB : B < 2 ^ 31) (hB1 : 1 ≤ B) (hQ : Q (p_low A B g) S) : w84 (lN A) (lN B) g S Q := by
  unfold w84 w85
  have hp := eu_pos 200 A B (ed200 A hB) (Or.inr (by omega))
  have hl : eu 200 A B < 2 ^ 31 := by
    rcases eu_le 200 A B with h | h <;> omega
  have hne : ¬ lN (eu 200 A B) = 0 := fun e => by
    have := (pk_lEQ (b := 0) (by omega) (by decide)).mp e
    omega
  refine ⟨201, l9_ok 200 0 A B rfl hA hB ?_⟩
  unfold p_low at hQ
  unfold w84_b17
  rw [lg_cmp_eq]
  refine ⟨fun c => ⟨fun _ => ⟨hne, ?_⟩, fun c2 => absurd hne c2⟩, fun c => ⟨fun _ => ⟨hne, ?_⟩, fun c2 => absurd hne c2⟩⟩
  · rw [if_neg c] at hQ
    rw [pk_lDiv (by omega) hp (by omega)]
    exact hQ
  · rw [if_pos (Decidable.not_not.mp c)] at hQ
    rw [pk_lDiv (by omega) hp (by omega)]
    exact hQ
end LOW
/-! ways: the class, the model -/
theorem half_lt {k : Nat} (hk : k < 24) : k / 2 < 12 := by omega
theorem h2 {k : Nat} (hk : k < 24) : nI k / 2 = nI (k / 2) := pk_div (d := 2) (by omega) (by decide) (by decide)
theorem add_lN (a b : Nat) : lN a + lN b = lN (a + b) := lN_add a b
section CW
variable {S S0 : ri_H} {g : Nat → Nat → Int32}
theorem l95_ok {Q : ri_H → Prop} {v : Nat → Nat} (hQ : ∀ S', ag CX S0 S' → (∀ j, j < 12 → S'.2 46 j = lN (v j)) → Q S') : ∀ d k S, k + d = 12 → ag CX S0 S → (∀ j, j < 12 → S.2 47 j = lN (v j)) → (∀ j, j < k → S.2 46 j = lN (v j)) → w81_l95 Q (d + 1) (nI k) S
  | 0, k, S, hk, a, h1, h2 => by
    have hk' : k = 12 := hk
    subst hk'
    unfold w81_l95
    exact ⟨fun _ => hQ S a h2, fun c => absurd (show (12 : Int32) ≤ nI 12 by decide) c⟩
  | d + 1, k, S, hk, a, h1, h2 => by
    unfold w81_l95
    rw [nI_clamp (by omega), nI_1]
    have c12 : ¬ (12 : Int32) ≤ nI k := nI_ge (b := 12) (by omega) (by decide)
    refine ⟨fun c => absurd c c12, fun _ => ⟨fun c => absurd c c12, fun _ => ⟨vp_in_nI (by omega) (by decide), vp_in_nI (by omega) (by decide), ?_⟩⟩⟩
    refine l95_ok hQ d (k + 1) _ (by omega) (ag_wl a (by decide)) (fun j hj => ?_) (fun j hj => ?_)
    · rw [ri_wl_o _ _ _ (by decide)]
      exact h1 j hj
    · rw [ri_wl_2]
      by_cases e : j = k
      · subst e
        rw [if_pos rfl]
        exact h1 j (by omega)
      · rw [if_neg e]
        exact h2 j (by omega)
theorem l26w_ok {Q : ri_H → Prop} {v : Nat → Nat} (h1 : rg (g 1) 24 12) (hg : gw S0 10 = g) (hQ : ∀ S', ag CX S0 S' → (∀ j, j < 12 → S'.2 46 j = lN (p_wa g v 24 j)) → Q S') : ∀ d k S, k + d = 24 → ag CX S0 S → (∀ j, j < 12 → S.2 46 j = lN (v j)) → (∀ j, j < 12 → S.2 47 j = lN (p_wa g v k j)) → w81_l26 Q (d + 1) (nI k) S
  | 0, k, S, hk, a, h3, h4 => by
    have hk' : k = 24 := hk
    subst hk'
    unfold w81_l26
    exact ⟨fun _ => ⟨13, l95_ok hQ 12 0 S rfl a h4 (fun j hj => absurd hj (Nat.not_lt_zero j))⟩, fun c => absurd (show (24 : Int32) ≤ nI 24 by decide) c⟩
  | d + 1, k, S, hk, a, h3, h4 => by
    unfold w81_l26 w81_b87
    have hk24 : k < 24 := by omega
    obtain ⟨t1, t2⟩ := to_lt h1 hk24
    have eg : gw S 10 = g := by rw [gw_ag a (in8 (by decide)), hg]
    have hh := half_lt hk24
    rw [gw_it S 10 1 24 rfl (by decide), eg, it_nI _ hk24 (by decide), t2, h2 hk24, nI_clamp (n := p_to g k) (by omega), nI_clamp (n := k / 2) (by omega), nI_1, show wi (nI (p_to g k)) 12 = 1 from wi_1 (n := 12) t1 (by decide), show wi (nI (k / 2)) 12 = 1 from wi_1 (n := 12) hh (by decide), h3 _ hh, h4 _ t1, add_lN]
    refine ⟨fun c => absurd c (nI_ge (b := 24) hk24 (by decide)), fun _ => ⟨fun c => absurd c (by decide), fun _ => ⟨fun c => absurd c (by decide), fun _ => ⟨vp_in_nI t1 (by decide), vp_in_nI hh (by decide), vp_in_nI t1 (by decide), ?_⟩⟩⟩⟩
    refine l26w_ok h1 hg hQ d (k + 1) _ (by omega) (ag_wl a (by decide)) (fun j hj => ?_) (fun j hj => ?_)
    · rw [ri_wl_o _ _ _ (by decide)]
      exact h3 j hj
    · rw [ri_wl_2]
      show _ = lN (if j = p_to g k then p_wa g v k (p_to g k) + v (k / 2) else p_wa g v k j)
      by_cases e : j = p_to g k
      · rw [if_pos e, if_pos e]
      · rw [if_neg e, if_neg e]
        exact h4 j hj
theorem w81_ok {Q : ri_H → Prop} {v : Nat → Nat} (h1 : rg (g 1) 24 12) (hg : gw S0 10 = g) (a : ag CX S0 S) (h3 : ∀ j, j < 12 → S.2 46 j = lN (v j)) (hQ : ∀ S', ag CX S0 S' → (∀ j, j < 12 → S'.2 46 j = lN (p_wa g v 24 j)) → Q S') : w81 S Q := by
  have loop : ∀ d k S, k + d = 12 → ag CX S0 S → (∀ j, j < 12 → S.2 46 j = lN (v j)) → (∀ j, j < k → S.2 47 j = lN 0) → w81_l2 Q (d + 1) (nI k) S := by
    intro d
    induction d with
    | zero =>
      intro k S hk a h3 h4
      have hk' : k = 12 := hk
      subst hk'
      unfold w81_l2
      exact ⟨fun _ => ⟨25, l26w_ok h1 hg hQ 24 0 S rfl a h3 h4⟩, fun c => absurd (show (12 : Int32) ≤ nI 12 by decide) c⟩
    | succ d ih =>
      intro k S hk a h3 h4
      unfold w81_l2
      rw [nI_clamp (by omega), nI_1]
      refine ⟨fun c => absurd c (nI_ge (b := 12) (by omega) (by decide)), fun _ => ⟨vp_in_nI (by omega) (by decide), ?_⟩⟩
      refine ih (k + 1) _ (by omega) (ag_wl a (by decide)) (fun j hj => ?_) (fun j hj => ?_)
      · rw [ri_wl_o _ _ _ (by decide)]
        exact h3 j hj
      · rw [ri_wl_2]
        by_cases e : j = k
        · rw [if_pos e]
          rfl
        · rw [if_neg e]
          exact h4 j (by omega)
  exact ⟨13, loop 12 0 S rfl a h3 (fun j hj => absurd hj (Nat.not_lt_zero j))⟩
theorem w80_ok {Q : Int64 → ri_H → Prop} {fr t n : Nat} (hf : fr < 12) (ht : t < 12) (hn : n ≤ 30) (h1 : rg (g 1) 24 12) (hg : gw S0 10 = g) (hQ : ∀ S', ag CX S0 S' → Q (lN (p_ws g fr n t)) S') : w80 (nI fr) (nI t) (nI n) S0 Q := by
  have years : ∀ d k S, k + d = n → ag CX S0 S → (∀ j, j < 12 → S.2 46 j = lN (p_ws g fr k j)) → w80_l40 Q (d + 1) (nI t) (nI n) (nI k) S := by
    intro d
    induction d with
    | zero =>
      intro k S hk a h3
      have hk' : k = n := hk
      subst hk'
      unfold w80_l40
      rw [show wi (nI t) 12 = 1 from wi_1 (n := 12) ht (by decide), nI_clamp (by omega), h3 t ht]
      exact ⟨fun _ => ⟨fun c => absurd c (by decide), fun _ => ⟨vp_in_nI ht (by decide), hQ S a⟩⟩, fun c => absurd (nI_le (Nat.le_refl _) (by omega)) c⟩
    | succ d ih =>
      intro k S hk a h3
      unfold w80_l40
      rw [nI_1]
      exact ⟨fun c => absurd c (nI_ge (by omega) (by omega)), fun _ => w81_ok h1 hg a h3 (fun S' a' h' => ih (k + 1) S' (by omega) a' h')⟩
  have init : ∀ d k S, k + d = 12 → ag CX S0 S → (∀ j, j < k → S.2 46 j = lN (p_ws g fr 0 j)) → w80_l3 Q (d + 1) (nI fr) (nI t) (nI n) (nI k) S := by
    intro d
    induction d with
    | zero =>
      intro k S hk a h3
      have hk' : k = 12 := hk
      subst hk'
      unfold w80_l3
      exact ⟨fun _ => ⟨n + 1, years n 0 S (by omega) a h3⟩, fun c => absurd (show (12 : Int32) ≤ nI 12 by decide) c⟩
    | succ d ih =>
      intro k S hk a h3
      unfold w80_l3 w80_b30
      rw [nI_clamp (n := k) (by omega), nI_1]
      have go : ∀ v : Int64, v = lN (if k = fr then 1 else 0) → w80_l3 Q (d + 1) (nI fr) (nI t) (nI n) (nI (k + 1)) (ri_wl S 46 k v) := by
        intro v ev
        refine ih (k + 1) _ (by omega) (ag_wl a (by decide)) (fun j hj => ?_)
        rw [ri_wl_2]
        by_cases e : j = k
        · subst e
          rw [if_pos rfl]
          exact ev
        · rw [if_neg e]
          exact h3 j (by omega)
      refine ⟨fun c => absurd c (nI_ge (b := 12) (by omega) (by decide)), fun _ => ⟨fun c => ⟨vp_in_nI (by omega) (by decide), go _ ?_⟩, fun c => ⟨vp_in_nI (by omega) (by decide), go _ ?_⟩⟩⟩
      · rw [if_neg (fun e => c (by rw [e]))]
        rfl
      · rw [if_pos (nI_inj (by omega) (by omega) (Decidable.not_not.mp c))]
        rfl
  exact ⟨13, init 12 0 S0 rfl (ag_refl _ _) (fun j hj => absurd hj (Nat.not_lt_zero j))⟩
end CW
