/-! lives -/
section LVF
variable {x y z : Int32} {S : ri_H} {T : Nat}
/-- one comes: what is answered, and the world then -/
def lvf (x y z : Int32) (g : Nat → Nat → Int32) : Int32 × (Nat → Nat → Int32) :=
  if wi x 6 = 0 ∨ wi y 10 = 0 ∨ wi z 12 = 0 then (-2, g) else if g 0 9 < 5 then (g 0 9, p_com g x y z) else (-4, g)
theorem lvf_0 {g : Nat → Nat → Int32} (h : wi x 6 = 0 ∨ wi y 10 = 0 ∨ wi z 12 = 0) : lvf x y z g = (-2, g) := by
  unfold lvf
  rw [if_pos h]
theorem lvf_1 {g : Nat → Nat → Int32} (h1 : wi x 6 = 1) (h2 : wi y 10 = 1) (h3 : wi z 12 = 1) (h : g 0 9 < 5) : lvf x y z g = (g 0 9, p_com g x y z) := by
  unfold lvf
  rw [h1, h2, h3, if_neg (by decide), if_pos h]
theorem lvf_2 {g : Nat → Nat → Int32} (h1 : wi x 6 = 1) (h2 : wi y 10 = 1) (h3 : wi z 12 = 1) (h : ¬ g 0 9 < 5) : lvf x y z g = (-4, g) := by
  unfold lvf
  rw [h1, h2, h3, if_neg (by decide), if_neg h]
theorem c_lf {Q : Int32 → ri_H → Prop} (hQ : ∀ S1, ag CW S S1 → gw S1 10 = (lvf x y z (gw S 10)).2 → Q (lvf x y z (gw S 10)).1 S1) : w48 x y z S Q := by
  unfold w48
  have z0 : wi x 6 = 0 ∨ wi y 10 = 0 ∨ wi z 12 = 0 → Q (-2) S := by
    intro h
    have e := lvf_0 (g := gw S 10) h
    have := hQ S (ag_refl _ _) (by rw [e])
    rw [e] at this
    exact this
  refine ⟨fun c => z0 (Or.inl c), fun c1 => ⟨fun c => z0 (Or.inr (Or.inl c)), fun c2 => ⟨fun c3 => ?_, fun c => z0 (Or.inr (Or.inr (Decidable.not_not.mp c)))⟩⟩⟩
  have h1 : wi x 6 = 1 := by
    rcases wi_d x (n := 6) (by decide) with ⟨_, _, _, h⟩ | ⟨h, _⟩
    · exact h
    · exact absurd h c1
  have h2 : wi y 10 = 1 := by
    rcases wi_d y (n := 10) (by decide) with ⟨_, _, _, h⟩ | ⟨h, _⟩
    · exact h
    · exact absurd h c2
  have h3 : wi z 12 = 1 := by
    rcases wi_d z (n := 12) (by decide) with ⟨_, _, _, h⟩ | ⟨h, _⟩
    · exact h
    · exact absurd h c3
  refine w35_ok (fun hlt S1 a1 e1 => ?_) (fun hge => ?_)
  · have e := lvf_1 h1 h2 h3 hlt
    have := hQ S1 (ag_mo a1 (by decide)) (by rw [e]; exact e1)
    rw [e] at this
    exact this
  · have e := lvf_2 h1 h2 h3 hge
    have := hQ S (ag_refl _ _) (by rw [e])
    rw [e] at this
    exact this
theorem lvf_wd {g : Nat → Nat → Int32} (h : gwd T g) : gwd T (lvf x y z g).2 := by
  rcases wi_d x (n := 6) (by decide) with ⟨k, hk, e1, h1⟩ | ⟨h1, _⟩
  · rcases wi_d y (n := 10) (by decide) with ⟨u, hu, e2, h2⟩ | ⟨h2, _⟩
    · rcases wi_d z (n := 12) (by decide) with ⟨c, hc, e3, h3⟩ | ⟨h3, _⟩
      · by_cases hl : g 0 9 < 5
        · rw [lvf_1 h1 h2 h3 hl]
          obtain ⟨L, hL, l9⟩ := h.1.1
          rw [l9] at hl
          have hL5 : L < 5 := (nI_ltI (b := 5) (by omega) (by decide)).mp hl
          rw [e1, e2, e3]
          exact gwd_com h hL5 l9 hk hu hc
        · rw [lvf_2 h1 h2 h3 hl]
          exact h
      · rw [lvf_0 (Or.inr (Or.inr h3))]
        exact h
    · rw [lvf_0 (Or.inr (Or.inl h2))]
      exact h
  · rw [lvf_0 (Or.inl h1)]
    exact h
theorem m_lf {Q : Int32 → ri_H → Prop} (h : gwd T (gm S)) (hQ : ∀ S1, am [56] [11] S S1 → gm S1 = (lvf x y z (gm S)).2 → Q (lvf x y z (gm S)).1 S1) : w111 x y z S Q := by
  have z0 : wi x 6 = 0 ∨ wi y 10 = 0 ∨ wi z 12 = 0 → Q (-2) S := by
    intro h
    have e := lvf_0 (g := gm S) h
    have := hQ S (am_refl _ _ _) (by rw [e])
    rw [e] at this
    exact this
  rcases wi_d x (n := 6) (by decide) with ⟨k, hk, e1, h1⟩ | ⟨h1, hne⟩
  · rcases wi_d y (n := 10) (by decide) with ⟨u, hu, e2, h2⟩ | ⟨h2, hne⟩
    · rcases wi_d z (n := 12) (by decide) with ⟨c, hc, e3, h3⟩ | ⟨h3, hne⟩
      · obtain ⟨L, hL, l9⟩ := h.1.1
        have l : S.1 50 11 = nI L := by rw [gm_9]; exact l9
        subst e1
        subst e2
        subst e3
        refine lm_in hk hu hc ?_
        by_cases hl : gm S 0 9 < 5
        · have e := lvf_1 h1 h2 h3 hl
          rw [e] at hQ
          rw [l9] at hl
          have hL5 : L < 5 := (nI_ltI (b := 5) (by omega) (by decide)).mp hl
          rw [l, x5_1, x5_2, x5_3, x5_4, x5_0, nI_clamp (by omega), nI_clamp (by omega), nI_clamp (by omega), nI_clamp (by omega), nI_clamp (by omega), nI_1, nI_pred]
          refine ⟨fun _ => ⟨vp_in_nI (by omega) (by decide), vp_in_nI (by omega) (by decide), vp_in_nI (by omega) (by decide), vp_in_nI (by omega) (by decide), vp_in_nI (by omega) (by decide), ?_⟩, fun c => absurd (Decidable.not_not.mp c) (fun e => ?_)⟩
          · have gg := life_g S hL5 l k u c
            rw [Nat.add_zero] at gg
            have := hQ _ (am_f (am_wi (am_wi (am_wi (am_wi (am_wi (am_refl _ _ _) (by decide) (by decide)) (by decide) (by decide)) (by decide) (by decide)) (by decide) (by decide)) (by decide) (by decide)) (by decide)) gg
            rw [l9] at this
            exact this
          · have := nI_inj (b := 5) (by omega) (by decide) e
            omega
        · have e := lvf_2 h1 h2 h3 hl
          rw [e] at hQ
          rw [l9] at hl
          have hL5 : L = 5 := by
            rcases Nat.lt_or_ge L 5 with q | q
            · exact absurd (nI_lt q (by decide)) hl
            · omega
          rw [l]
          subst hL5
          exact ⟨fun c => absurd rfl c, fun _ => hQ S (am_refl _ _ _) rfl⟩
      · subst e1
        subst e2
        exact w102_n (m := 5) (by decide) (by decide) (fun _ _ _ => ⟨fun c => absurd c (by decide), fun _ => w102_n (m := 9) (by decide) (by decide) (fun _ _ _ => ⟨fun c => absurd c (by decide), fun _ => w105_ok (fun j hj e => absurd e (hne j hj)) (fun _ => ⟨fun c => absurd rfl c, fun _ => z0 (Or.inr (Or.inr h3))⟩)⟩) (fun h => absurd rfl (h u hu))⟩) (fun h => absurd rfl (h k hk))
    · subst e1
      exact w102_n (m := 5) (by decide) (by decide) (fun _ _ _ => ⟨fun c => absurd c (by decide), fun _ => w102_n (m := 9) (by decide) (by decide) (fun j hj e => absurd e (hne j hj)) (fun _ => ⟨fun _ => z0 (Or.inr (Or.inl h2)), fun c => absurd rfl c⟩)⟩) (fun h => absurd rfl (h k hk))
  · exact w102_n (m := 5) (by decide) (by decide) (fun j hj e => absurd e (hne j hj)) (fun _ => ⟨fun _ => z0 (Or.inl h1), fun c => absurd rfl c⟩)
end LVF
section LIVES
variable {a b g d : Int32} {S S0 : ri_H} {T : Nat} {τ : Int32 → Int32 → List Int32}
/-- what follows from the rows of a sheet, one after another -/
def lvl (v : Nat → Int32) (i z : Nat) : Nat → Nat → Int32 → (Nat → Nat → Int32) → Int32 × (Nat → Nat → Int32)
  | 0, _, c, g => (c, g)
  | e + 1, k, c, g => if i + 3 * k + 3 ≤ z then lvl v i z e (k + 1) (if (lvf (v (i + 3 * k)) (v (i + 3 * k + 1)) (v (i + 3 * k + 2)) g).1 < 0 then c else c + 1) (lvf (v (i + 3 * k)) (v (i + 3 * k + 1)) (v (i + 3 * k + 2)) g).2 else (-12, g)
theorem lvl_wd {v : Nat → Int32} {i z : Nat} : ∀ (e k : Nat) (c : Int32) (g : Nat → Nat → Int32), gwd T g → gwd T (lvl v i z e k c g).2
  | 0, _, _, _, h => h
  | e + 1, k, c, g, h => by
    unfold lvl
    by_cases q : i + 3 * k + 3 ≤ z
    · rw [if_pos q]
      exact lvl_wd e (k + 1) _ _ (lvf_wd h)
    · rw [if_neg q]
      exact h
def lb (k : Nat) (K : Int32 → Int32 → Int32 → Int32 → ri_H → Prop) (Q : Int32 → ri_H → Prop) (x3 x4 x6 x7 : Int32) (S : ri_H) : Prop := ((x4 ≤ x7 → Q x6 S) ∧ (¬ (x4 ≤ x7) → w26 k (x3 + ((3 : Int32) * x7)) (3 : Int32) S (fun (r4 : Int32) (S3 : ri_H) => ((¬ r4 = 0 → w48 (it (S3.1 (k + 1)) 40 (x3 + ((3 : Int32) * x7))) (it (S3.1 (k + 1)) 40 ((x3 + ((3 : Int32) * x7)) + (1 : Int32))) (it (S3.1 (k + 1)) 40 ((x3 + ((3 : Int32) * x7)) + (2 : Int32))) S3 (fun (r6 : Int32) (S5 : ri_H) => ((r6 < 0 → K x3 x4 x6 (x7 + 1) S5) ∧ (¬ (r6 < 0) → K x3 x4 (x6 + (1 : Int32)) (x7 + 1) S5)))) ∧ (¬ (¬ r4 = 0) → Q (-12 : Int32) S3)))))
theorem x3k (i k : Nat) : nI i + (3 : Int32) * nI k = nI (i + 3 * k) := by
  rw [show (3 : Int32) * nI k = nI (3 * k) from pk_mul 3 k, nI_add]
theorem lc_ok {Q : Int32 → ri_H → Prop} {s i z n : Nat} (hs : s < 4) (hi : i ≤ 40) (hz : z ≤ 40) (hn : n ≤ 5) {L : Nat → Int32 → Int32 → Int32 → Int32 → ri_H → Prop} (hL : ∀ n x3 x4 x6 x7 S, lb (38 + 2 * s) (L n) Q x3 x4 x6 x7 S → L (n + 1) x3 x4 x6 x7 S) (e2 : S0.1 (38 + 2 * s) 2 = nI z) {v : Nat → Int32} (ev : ∀ j, j < z → S0.1 (39 + 2 * s) j = v j) : ∀ (e k : Nat) (c : Int32) (S : ri_H), k + e = n → ag CW S0 S → (∀ S', ag CW S0 S' → gw S' 10 = (lvl v i z e k c (gw S 10)).2 → Q (lvl v i z e k c (gw S 10)).1 S') → L (e + 1) (nI i) (nI n) c (nI k) S
  | 0, k, c, S, hk, a, hQ => by
    have hk' : k = n := hk
    subst hk'
    refine hL _ _ _ _ _ _ ?_
    exact ⟨fun _ => hQ S a rfl, fun c => absurd (nI_le (Nat.le_refl _) (by omega)) c⟩
  | e + 1, k, c, S, hk, a, hQ => by
    refine hL _ _ _ _ _ _ ?_
    unfold lb
    rw [x3k, nI_1 k]
    have n38 : 38 + 2 * s ∉ CW := by simp [CW]; omega
    have n39 : 39 + 2 * s ∉ CW := by simp [CW]; omega
    have f2 : S.1 (38 + 2 * s) 2 = nI z := by rw [(a _ n38).1]; exact e2
    refine ⟨fun q => absurd q (nI_ge (by omega) (by omega)), fun _ => w26_ok hz f2 (fun i' n' ei en hin => ⟨fun _ => ?_, fun q => absurd (by decide) q⟩) (fun hb => ⟨fun q => absurd rfl q, fun _ => ?_⟩)⟩
    · have q1 : i' = i + 3 * k := by
        have : i' ≤ 40 := by omega
        exact (nI_inj (by omega) (by omega) ei).symm
      have q2 : n' = 3 := (nI_inj (a := 3) (by decide) (by omega) en).symm
      have hlt : i + 3 * k + 3 ≤ z := by omega
      have e39 : 38 + 2 * s + 1 = 39 + 2 * s := by omega
      have hv : ∀ j, j < z → S.1 (39 + 2 * s) j = v j := fun j hj => by rw [(a _ n39).1]; exact ev j hj
      have hQ2 := hQ
      unfold lvl at hQ2
      rw [if_pos hlt] at hQ2
      rw [e39, nI_1 (i + 3 * k), show nI (i + 3 * k) + 2 = nI (i + 3 * k + 2) from nI_add _ 2, it_nI _ (by omega) (by decide), it_nI _ (by omega) (by decide), it_nI _ (by omega) (by decide), hv _ (by omega), hv _ (by omega), hv _ (by omega)]
      refine c_lf (fun S1 a1 g1 => ?_)
      by_cases r0 : (lvf (v (i + 3 * k)) (v (i + 3 * k + 1)) (v (i + 3 * k + 2)) (gw S 10)).1 < 0
      · rw [if_pos r0, ← g1] at hQ2
        exact ⟨fun _ => lc_ok hs hi hz hn hL e2 ev e (k + 1) c S1 (by omega) (ag_tr a a1) hQ2, fun q => absurd r0 q⟩
      · rw [if_neg r0, ← g1] at hQ2
        exact ⟨fun q => absurd q r0, fun _ => lc_ok hs hi hz hn hL e2 ev e (k + 1) (c + 1) S1 (by omega) (ag_tr a a1) hQ2⟩
    · have hge : ¬ i + 3 * k + 3 ≤ z := by
        intro q
        rcases hb (i + 3 * k) 3 rfl rfl with w | w | w <;> omega
      have hQ2 := hQ S a
      unfold lvl at hQ2
      rw [if_neg hge] at hQ2
      exact hQ2 rfl
theorem lmo_ok {Q : Int32 → ri_H → Prop} {s i z n : Nat} (hs : s < 4) (hi : i ≤ 40) (hz : z ≤ 40) (hn : n ≤ 5) (e2 : S0.1 68 s = nI z) {v : Nat → Int32} (ev : ∀ j, j < z → S0.1 69 (40 * s + j) = v j) : ∀ (e k : Nat) (c : Int32) (S : ri_H), k + e = n → gwd T (gm S) → am [56] [11] S0 S → (∀ S', am [56] [11] S0 S' → gm S' = (lvl v i z e k c (gm S)).2 → Q (lvl v i z e k c (gm S)).1 S') → w203_l75 Q (e + 1) (nI s) (nI i) (nI n) c (nI k) S
  | 0, k, c, S, hk, hw, a, hQ => by
    have hk' : k = n := hk
    subst hk'
    unfold w203_l75
    exact ⟨fun _ => hQ S a rfl, fun c => absurd (nI_le (Nat.le_refl _) (by omega)) c⟩
  | e + 1, k, c, S, hk, hw, a, hQ => by
    unfold w203_l75 w203_b158
    have f2 : S.1 68 s = nI z := by rw [(a.1 68 (by decide) (by decide)).1]; exact e2
    rw [x40, x3k, nI_1 k, nI_1 (40 * s + i + 3 * k), show nI (40 * s + i + 3 * k) + 2 = nI (40 * s + i + 3 * k + 2) from nI_add _ 2, nI_clamp (n := s) (by omega), f2, nI_clamp (by omega), nI_clamp (by omega), nI_clamp (by omega), show (3 : Int32) * nI k = nI (3 * k) from pk_mul 3 k]
    have sz : (nI z - nI (3 * k) - 3).toInt = (z : Int) - (3 * k : Nat) - 3 := by
      rw [Int32.toInt_sub, sub_int (by omega) (by omega), show (3 : Int32).toInt = 3 from rfl]
      exact Int.bmod_eq_of_le (by omega) (by omega)
    refine ⟨fun q => absurd q (nI_ge (by omega) (by omega)), fun _ => ⟨fun q => absurd q (nI_pos (by omega)), fun _ => ⟨vp_in_nI hs (by decide), fun q => ?_, fun q => ?_⟩⟩⟩
    · have hlt : i + 3 * k + 3 ≤ z := by
        have := Int32.le_iff_toInt_le.mp q
        rw [sz, nI_toInt (by omega)] at this
        omega
      have hv : ∀ j, j < z → S.1 69 (40 * s + j) = v j := fun j hj => by rw [(a.1 69 (by decide) (by decide)).1]; exact ev j hj
      have v0 : S.1 69 (40 * s + i + 3 * k) = v (i + 3 * k) := by rw [Nat.add_assoc]; exact hv _ (by omega)
      have v1 : S.1 69 (40 * s + i + 3 * k + 1) = v (i + 3 * k + 1) := by
        rw [show 40 * s + i + 3 * k + 1 = 40 * s + (i + 3 * k + 1) by omega]
        exact hv _ (by omega)
      have v2 : S.1 69 (40 * s + i + 3 * k + 2) = v (i + 3 * k + 2) := by
        rw [show 40 * s + i + 3 * k + 2 = 40 * s + (i + 3 * k + 2) by omega]
        exact hv _ (by omega)
      have hQ2 := hQ
      unfold lvl at hQ2
      rw [if_pos hlt] at hQ2
      refine ⟨vp_in_nI (by omega) (by decide), vp_in_nI (by omega) (by decide), vp_in_nI (by omega) (by decide), ?_⟩
      rw [v0, v1, v2]
      refine m_lf hw (fun S1 a1 g1 => ?_)
      have w1 : gwd T (gm S1) := by
        rw [g1]
        exact lvf_wd hw
      by_cases r0 : (lvf (v (i + 3 * k)) (v (i + 3 * k + 1)) (v (i + 3 * k + 2)) (gm S)).1 < 0
      · rw [if_pos r0, ← g1] at hQ2
        rw [Int32.add_zero]
        exact ⟨fun _ => lmo_ok hs hi hz hn e2 ev e (k + 1) c S1 (by omega) w1 (am_tr a a1) hQ2, fun q => absurd r0 q⟩
      · rw [if_neg r0, ← g1] at hQ2
        exact ⟨fun q => absurd q r0, fun _ => lmo_ok hs hi hz hn e2 ev e (k + 1) (c + 1) S1 (by omega) w1 (am_tr a a1) hQ2⟩
    · have hge : ¬ i + 3 * k + 3 ≤ z := by
        intro w
        apply q
        rw [Int32.le_iff_toInt_le, sz, nI_toInt (by omega)]
        omega
      have hQ2 := hQ S a
      unfold lvl at hQ2
      rw [if_neg hge] at hQ2
      exact hQ2 rfl
def c74 (b g d : Int32) (S : ri_H) (Q : Int32 → ri_H → Prop) (L : Nat → Int32 → Int32 → Int32 → Int32 → ri_H → Prop) (k : Nat) : Prop := (((wi b (3 : Int32)) = 0 → Q (-2 : Int32) S) ∧ (¬ (wi b (3 : Int32)) = 0 → ((d < 0 → Q (-2 : Int32) S) ∧ (¬ (d < 0) → ((d ≤ (5 : Int32) → w22 k S (fun (r2 : Int32) (S1 : ri_H) => ((r2 = 0 → (((S1.1 k 1) = b → ∃ nn, L nn g d (0 : Int32) (0 : Int32) S1) ∧ (¬ (S1.1 k 1) = b → Q (-13 : Int32) S1))) ∧ (¬ (r2 = 0) → Q (-11 : Int32) S1)))) ∧ (¬ (d ≤ (5 : Int32)) → Q (-2 : Int32) S))))))
theorem pick5 {P0 P1 P2 P3 X : Prop} {a : Int32} {s : Nat} (hs : s < 4) (ha : a = nI s) (h0 : s = 0 → P0) (h1 : s = 1 → P1) (h2 : s = 2 → P2) (h3 : s = 3 → P3) : (a = 0 → P0) ∧ (a = 1 → P1) ∧ (a = 2 → P2) ∧ (a = 3 → P3) ∧ (wi a 4 = 0 → X) := by
  subst ha
  refine ⟨fun c => h0 (nI_inj (b := 0) (by omega) (by decide) c), fun c => h1 (nI_inj (b := 1) (by omega) (by decide) c), fun c => h2 (nI_inj (b := 2) (by omega) (by decide) c), fun c => h3 (nI_inj (b := 3) (by omega) (by decide) c), fun c => ?_⟩
  exact absurd ((wi_1 (n := 4) hs (by decide)).symm.trans c) (by decide)
theorem d74 {Q : Int32 → Int32 → ri_H → Prop} {s : Nat} (hs : s < 4) (h : RR S) (hQ : ∀ r S', RR S' → Q r r S') {L : Nat → Int32 → Int32 → Int32 → Int32 → ri_H → Prop} (hL : ∀ n x3 x4 x6 x7 S, lb (38 + 2 * s) (L n) (fun r S1 => w203 (nI s) b g d S1 (fun r2 S2 => Q r r2 S2)) x3 x4 x6 x7 S → L (n + 1) x3 x4 x6 x7 S) : c74 b g d S (fun r S1 => w203 (nI s) b g d S1 (fun r2 S2 => Q r r2 S2)) L (38 + 2 * s) := by
  have h0 := h
  obtain ⟨T, τ, h⟩ := h
  unfold c74
  have M1 : ∀ (S1 : ri_H) (K : Int32 → ri_H → Prop), (∀ t, t < 3 → b = nI t → ∀ n, n ≤ 5 → d = nI n → (vp_in (nI s) 4 ∧ (((S1.1 66 s) = 0 → w203_b57 K (nI s) g d S1) ∧ (¬ (S1.1 66 s) = 0 → (vp_in (nI s) 4 ∧ (((S1.1 67 s) = b → w203_b57 K (nI s) g d S1) ∧ (¬ (S1.1 67 s) = b → K (-13 : Int32) S1))))))) → ((∀ t, t < 3 → b ≠ nI t) ∨ (∀ n, n ≤ 5 → d ≠ nI n) → K (-2) S1) → w203 (nI s) b g d S1 K := by
    intro S1 K k1 k2
    unfold w203
    rw [nI_clamp (n := s) (by omega)]
    refine w199_ok (fun _ _ _ => ⟨fun c => absurd c (by decide), fun _ => w102_n (m := 2) (by decide) (by decide) (fun t ht et => ⟨fun c => absurd c (by decide), fun _ => w102_n (m := 5) (by decide) (by decide) (fun n hn en => ⟨fun _ => k1 t ht et n (by omega) en, fun c => absurd (by decide) c⟩) (fun hh => ⟨fun c => absurd rfl c, fun _ => k2 (Or.inr (fun n hn => hh n (by omega)))⟩)⟩) (fun hh => ⟨fun _ => k2 (Or.inl hh), fun c => absurd rfl c⟩)⟩) (fun hh => absurd rfl (hh s hs))
  rcases wi_d b (n := 3) (by decide) with ⟨t, ht, rfl, hw⟩ | ⟨hw, hne⟩
  · have hw : wi (nI t) 3 = 1 := hw
    rw [hw]
    refine ⟨fun c => absurd c (by decide), fun _ => ⟨fun c => ?_, fun c => ⟨fun c2 => ?_, fun c2 => ?_⟩⟩⟩
    · exact M1 S _ (fun _ _ _ n hn en => absurd c (by rw [en]; exact nI_pos (by omega))) (fun _ => hQ _ _ h0)
    · obtain ⟨n, hn, rfl⟩ := nI_of2 (x := d) (M := 5) (n := 5) rfl c c2
      rcases h.2.2.2.2 s hs with ⟨e1, e2⟩ | ⟨t', z, ht', hz, e1, e2, e3, e4, e5, e6⟩
      · refine w22_ok (fun c => absurd e1 c) (fun _ => ⟨fun c => absurd c (by decide), fun _ => ?_⟩)
        refine M1 S _ (fun _ _ _ _ _ _ => ⟨vp_in_nI hs (by decide), fun _ => ?_, fun c => absurd e2 c⟩) (fun hh => ?_)
        · unfold w203_b57
          rw [nI_clamp (n := s) (by omega)]
          exact ⟨vp_in_nI hs (by decide), fun c => absurd e2 c, fun _ => hQ _ _ h0⟩
        · rcases hh with hh | hh
          · exact absurd rfl (hh t ht)
          · exact absurd rfl (hh n hn)
      · refine w22_ok (fun _ => ⟨fun _ => ?_, fun c => absurd rfl c⟩) (fun c => absurd (e1.symm.trans c) (nt_m1 (by omega)))
        have n3 : ¬ S.1 66 s = 0 := by rw [e3]; decide
        refine ⟨fun ct => ?_, fun ct => M1 S _ (fun _ _ _ _ _ _ => ⟨vp_in_nI hs (by decide), fun c => absurd c n3, fun _ => ⟨vp_in_nI hs (by decide), fun c => absurd ?_ ct, fun _ => hQ _ _ h0⟩⟩) (fun hh => ?_)⟩
        · -- both go through the rows
          have hm : ∀ (S1 : ri_H) (K : Int32 → ri_H → Prop), S1.1 66 = S.1 66 → S1.1 67 = S.1 67 → (∃ nn, w203_l75 K nn (nI s) g (nI n) 0 0 S1) → w203 (nI s) (nI t) g (nI n) S1 K := by
            intro S1 K q1 q2 q3
            refine M1 S1 K (fun _ _ _ _ _ _ => ⟨vp_in_nI hs (by decide), fun c => absurd c (by rw [q1]; exact n3), fun _ => ⟨vp_in_nI hs (by decide), fun _ => ?_, fun c => absurd (by rw [q2, e4, ← e1]; exact ct) c⟩⟩) (fun hh => ?_)
            · unfold w203_b57
              rw [nI_clamp (n := s) (by omega), q1]
              exact ⟨vp_in_nI hs (by decide), fun _ => q3, fun c => absurd n3 c⟩
            · rcases hh with hh | hh
              · exact absurd rfl (hh t ht)
              · exact absurd rfl (hh n hn)
          by_cases hg : ∃ i, i ≤ 40 ∧ g = nI i
          · obtain ⟨i, hi, rfl⟩ := hg
            refine ⟨n + 1, lc_ok hs hi hz hn hL e2 (v := fun j => S.1 69 (40 * s + j)) e6 n 0 0 S (by omega) (ag_refl _ _) (fun S1 a1 g1 => ?_)⟩
            have gg : gm S1 = gm S := gm_ag a1 (by decide)
            refine hm S1 _ (a1 66 (by decide)).1 (a1 67 (by decide)).1 ⟨n + 1, lmo_ok (T := T) hs hi hz hn (by rw [(a1 68 (by decide)).1]; exact e5) (v := fun j => S.1 69 (40 * s + j)) (fun j _ => by rw [(a1 69 (by decide)).1]) n 0 0 S1 (by omega) (by rw [gg]; exact h.1.2) (am_refl _ _ _) (fun S2 a2 g2 => ?_)⟩
            rw [gg, ← R_w h] at g2 ⊢
            refine hQ _ _ ⟨T, τ, R_wr h a1 (am_mo a2 (by decide) (by decide)) ?_ ?_⟩
            · rw [g2, ← g1]
              exact gw_am (X := [56]) (F := [11]) (by decide) a2 (in8 (by decide))
            · rw [g2]
              refine lvl_wd _ _ _ _ ?_
              rw [R_w h]
              exact h.1.2
          · cases n with
            | zero =>
              refine ⟨1, hL _ _ _ _ _ _ ⟨fun _ => hm S _ rfl rfl ⟨1, ?_⟩, fun c => absurd (by decide) c⟩⟩
              unfold w203_l75
              exact ⟨fun _ => hQ _ _ h0, fun c => absurd (by decide) c⟩
            | succ n =>
              have ng : ¬ (nI (n + 1) ≤ 0) := nI_ge (a := 0) (by omega) (by omega)
              have fin : w203 (nI s) (nI t) g (nI (n + 1)) S (fun r2 S2 => Q (-12) r2 S2) := by
                refine hm S _ rfl rfl ⟨1, ?_⟩
                unfold w203_l75
                rw [nI_clamp (n := s) (by omega), e5]
                refine ⟨fun c => absurd c ng, fun _ => ⟨fun _ => hQ _ _ h0, fun cg => ⟨vp_in_nI hs (by decide), fun c => ?_, fun _ => hQ _ _ h0⟩⟩⟩
                obtain ⟨i, hi, rfl⟩ := nI_of cg
                exfalso
                have q := Int32.le_iff_toInt_le.mp c
                rw [show (3 : Int32) * 0 = 0 by decide, Int32.sub_zero, show (nI z - 3).toInt = (z : Int) - (3 : Nat) from sub_int (by omega) (by decide), nI_toInt hi] at q
                exact hg ⟨i, by omega, rfl⟩
              refine ⟨1, hL _ _ _ _ _ _ ⟨fun c => absurd c ng, fun _ => ?_⟩⟩
              rw [show (3 : Int32) * 0 = 0 by decide, Int32.add_zero]
              exact w26_ok hz e2 (fun i' n' ei en hin => absurd ⟨i', by omega, ei⟩ hg) (fun hb => ⟨fun q => absurd rfl q, fun _ => fin⟩)
        · rw [e1, ← e4]
          exact c
        · rcases hh with hh | hh
          · exact absurd rfl (hh t ht)
          · exact absurd rfl (hh n hn)
    · exact M1 S _ (fun _ _ _ n hn en => absurd (by rw [en]; exact nI_le (b := 5) hn (by decide)) c2) (fun _ => hQ _ _ h0)
  · have hw : wi b 3 = 0 := hw
    exact ⟨fun _ => M1 S _ (fun t ht et => absurd et (hne t ht)) (fun _ => hQ _ _ h0), fun c => absurd hw c⟩
theorem f_lives {Q : Int32 → Int32 → ri_H → Prop} (h : RR S) (hQ : ∀ r S', RR S' → Q r r S') : w74 a b g d S (fun r S1 => w203 a b g d S1 (fun r2 S2 => Q r r2 S2)) := by
  rcases wi_d a (n := 4) (by decide) with ⟨s, hs, ea, hw⟩ | ⟨hw, hne⟩
  · subst ea
    refine pick5 hs rfl (fun e => ?_) (fun e => ?_) (fun e => ?_) (fun e => ?_)
    · subst e
      refine d74 (s := 0) (L := w74_l63 (fun r S1 => w203 (nI 0) b g d S1 (fun r2 S2 => Q r r2 S2))) (by decide) h hQ (fun n x3 x4 x6 x7 S hh => ?_)
      unfold w74_l63
      exact hh
    · subst e
      refine d74 (s := 1) (L := w74_l63a (fun r S1 => w203 (nI 1) b g d S1 (fun r2 S2 => Q r r2 S2))) (by decide) h hQ (fun n x3 x4 x6 x7 S hh => ?_)
      unfold w74_l63a
      exact hh
    · subst e
      refine d74 (s := 2) (L := w74_l63b (fun r S1 => w203 (nI 2) b g d S1 (fun r2 S2 => Q r r2 S2))) (by decide) h hQ (fun n x3 x4 x6 x7 S hh => ?_)
      unfold w74_l63b
      exact hh
    · subst e
      refine d74 (s := 3) (L := w74_l63c (fun r S1 => w203 (nI 3) b g d S1 (fun r2 S2 => Q r r2 S2))) (by decide) h hQ (fun n x3 x4 x6 x7 S hh => ?_)
      unfold w74_l63c
      exact hh
  · have fin : w203 a b g d S (fun r2 S2 => Q (-2) r2 S2) := w199_ok (fun j hj e => absurd e (hne j hj)) (fun _ => ⟨fun _ => hQ _ _ h, fun c => absurd rfl c⟩)
    exact ⟨fun c => absurd c (hne 0 (by decide)), fun c => absurd c (hne 1 (by decide)), fun c => absurd c (hne 2 (by decide)), fun c => absurd c (hne 3 (by decide)), fun _ => fin⟩
end LIVES
