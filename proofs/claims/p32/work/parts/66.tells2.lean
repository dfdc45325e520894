/-! tells, the class -/
section TELC
variable {a b g : Int32} {S : ri_H} {T : Nat} {τ : Int32 → Int32 → List Int32}
/-- which row of the world is supposed -/
def SP (w o j p : Nat) : Prop := (w = 1 ∧ o = 3 ∧ j = p) ∨ (w = 2 ∧ o = 4 ∧ j = p) ∨ (w = 3 ∧ o = 5 ∧ j = p) ∨ (w = 4 ∧ o = 6 ∧ j = p) ∨ (w = 5 ∧ o = 6 ∧ j = p) ∨ (w = 6 ∧ o = 0 ∧ j = 11)
theorem w93_0 {Q : Int32 → ri_H → Prop} {v : Int32} (hQ : Q a S) : w93 a 0 v S Q :=
  ⟨fun _ => hQ, fun c => absurd c (by decide), fun c => absurd c (by decide), fun c => absurd c (by decide), fun c => absurd c (by decide), fun c => absurd c (by decide), fun c => absurd c (by decide), fun c => absurd c (by decide)⟩
theorem w93_7 {Q : Int32 → ri_H → Prop} {v : Int32} (hQ : Q v S) : w93 a 7 v S Q :=
  ⟨fun c => absurd c (by decide), fun c => absurd c (by decide), fun c => absurd c (by decide), fun c => absurd c (by decide), fun c => absurd c (by decide), fun c => absurd c (by decide), fun c => absurd c (by decide), fun _ => hQ⟩
theorem sup_c {o p : Nat} (ho : o ≠ 0) (hz : gsz o = 5) (hp : p < 5) (v : Int32) : gw (ri_wr S (19 + o) (pu 5 (S.1 (19 + o)) (nI p) v)) 19 = sup (gw S 19) o p v := by
  rw [gw_wr S 19 o _ ho, gw_pu S 19 o 5 hz ho, pu_nI _ _ hp (by decide)]
  rfl
theorem w93_s {Q : Int32 → ri_H → Prop} {w o j p : Nat} {v : Int32} (hw : SP w o j p) (hp : p < 5) (hQ : ∀ S', ag CX S S' → gw S' 19 = sup (gw S 19) o j v → Q (nI p) S') : w93 (nI p) (nI w) v S Q := by
  rcases hw with ⟨rfl, rfl, rfl⟩ | ⟨rfl, rfl, rfl⟩ | ⟨rfl, rfl, rfl⟩ | ⟨rfl, rfl, rfl⟩ | ⟨rfl, rfl, rfl⟩ | ⟨rfl, rfl, rfl⟩
  · exact ⟨fun c => absurd c (by decide), fun _ => hQ _ (ag_wr (ag_refl _ _) (by decide)) (sup_c (o := 3) (by decide) rfl hp v), fun c => absurd c (by decide), fun c => absurd c (by decide), fun c => absurd c (by decide), fun c => absurd c (by decide), fun c => absurd c (by decide), fun c => absurd c (by decide)⟩
  · exact ⟨fun c => absurd c (by decide), fun c => absurd c (by decide), fun _ => hQ _ (ag_wr (ag_refl _ _) (by decide)) (sup_c (o := 4) (by decide) rfl hp v), fun c => absurd c (by decide), fun c => absurd c (by decide), fun c => absurd c (by decide), fun c => absurd c (by decide), fun c => absurd c (by decide)⟩
  · exact ⟨fun c => absurd c (by decide), fun c => absurd c (by decide), fun c => absurd c (by decide), fun _ => hQ _ (ag_wr (ag_refl _ _) (by decide)) (sup_c (o := 5) (by decide) rfl hp v), fun c => absurd c (by decide), fun c => absurd c (by decide), fun c => absurd c (by decide), fun c => absurd c (by decide)⟩
  · exact ⟨fun c => absurd c (by decide), fun c => absurd c (by decide), fun c => absurd c (by decide), fun c => absurd c (by decide), fun _ => hQ _ (ag_wr (ag_refl _ _) (by decide)) (sup_c (o := 6) (by decide) rfl hp v), fun c => absurd c (by decide), fun c => absurd c (by decide), fun c => absurd c (by decide)⟩
  · exact ⟨fun c => absurd c (by decide), fun c => absurd c (by decide), fun c => absurd c (by decide), fun c => absurd c (by decide), fun c => absurd c (by decide), fun _ => hQ _ (ag_wr (ag_refl _ _) (by decide)) (sup_c (o := 6) (by decide) rfl hp v), fun c => absurd c (by decide), fun c => absurd c (by decide)⟩
  · exact ⟨fun c => absurd c (by decide), fun c => absurd c (by decide), fun c => absurd c (by decide), fun c => absurd c (by decide), fun c => absurd c (by decide), fun c => absurd c (by decide), fun _ => hQ _ (ag_wi (ag_refl _ _) (by decide)) (gw_wi0 _ 19 11 _ (by decide)), fun c => absurd c (by decide)⟩
theorem l24_ok {Q : Int32 → ri_H → Prop} {s z : Nat} {g' : Nat → Nat → Int32} {who : Int32} {L r : Nat} (hs : s < 4) (h : rT T τ S) (hz : z ≤ 40) (e2 : S.1 (38 + 2 * s) 2 = nI z) (hL : L ≤ 5) (e9 : g' 0 9 = nI L) (hr : r < T) (e11 : g' 0 11 = nI r) : ∀ e k S', k + e = z → ag CX S S' → gw S' 19 = yrs τ g' k → (∀ S'', ag CX S S'' → Q (fo τ g' (fun i => S.1 (39 + 2 * s) i) who e k) S'') → w92_l24 (38 + 2 * s) Q (e + 1) who (nI k) S'
  | 0, k, S', hk, a, hg, hQ => by
    have hk' : k = z := hk
    subst hk'
    unfold w92_l24
    have n38 : S'.1 (38 + 2 * s) = S.1 (38 + 2 * s) := (a _ (by simp [CX]; omega)).1
    rw [n38, e2]
    exact ⟨fun _ => hQ S' a, fun c => absurd (nI_le (Nat.le_refl _) (by omega)) c⟩
  | e + 1, k, S', hk, a, hg, hQ => by
    unfold w92_l24
    have n38 : S'.1 (38 + 2 * s) = S.1 (38 + 2 * s) := (a _ (by simp [CX]; omega)).1
    rw [n38, e2, nI_1]
    refine ⟨fun c => absurd c (nI_ge (by omega) (by omega)), fun _ => ⟨fun c => absurd c (nI_ge (b := 40) (by omega) (by decide)), fun _ => ?_⟩⟩
    refine w39_ok (Or.inr rfl) (by rw [hg, yrs_o _ _ (by decide)]; exact e9) (by omega) (by rw [hg, yrs_o _ _ (by decide), e11]; exact tc_ag2 h a hr) (fun S1 a1 g1 => ?_)
    have a2 : ag CX S S1 := ag_tr a (ag_mo a1 (by decide))
    have y1 : gw S1 19 = yrs τ g' (k + 1) := by
      rw [g1, hg]
      rfl
    have e39 : 38 + 2 * s + 1 = 39 + 2 * s := by omega
    have n39 : S1.1 (39 + 2 * s) = S.1 (39 + 2 * s) := (a2 _ (by simp [CX]; omega)).1
    rw [gw_it S1 19 5 5 rfl (by decide), y1, e39, n39, nI_clamp (n := k) (by omega)]
    unfold fo at hQ
    refine ⟨vp_in_nI (by omega) (by decide), fun c => ?_, fun c => ?_⟩
    · rw [if_pos c] at hQ
      exact l24_ok hs h hz e2 hL e9 hr e11 e (k + 1) S1 (by omega) a2 y1 hQ
    · rw [if_neg c] at hQ
      exact hQ S1 a2
theorem w92_ok {Q : Int32 → ri_H → Prop} {s z : Nat} {g' : Nat → Nat → Int32} {v who : Int32} (hs : s < 4) (h : R T τ S) (hz : z ≤ 40) (e2 : S.1 (38 + 2 * s) 2 = nI z) (hg : gwd T g') (hsup : ∀ (S1 : ri_H) (K : Int32 → ri_H → Prop), gw S1 19 = gm S → (∀ S', ag CX S1 S' → gw S' 19 = g' → K who S') → w93 a b v S1 K) (hQ : ∀ S', ag CX S S' → Q (fo τ g' (fun i => S.1 (39 + 2 * s) i) who z 0) S') : w92 (38 + 2 * s) a b v S Q := by
  obtain ⟨⟨⟨L, hL, e9⟩, _⟩, _, r, hr, e11⟩ := hg
  unfold w92
  refine w33_t (fun S1 a1 g1 => hsup S1 _ (by rw [g1]; exact R_w h) (fun S2 a2 g2 => ⟨z + 1, ?_⟩))
  exact l24_ok hs h.2.1 hz e2 hL e9 hr e11 z 0 S2 (by omega) (ag_tr a1 a2) g2 hQ
theorem l6b_ok {Q : Int32 → ri_H → Prop} {F : Nat → Int32} {N k : Nat} (hN : N < 2 ^ 31) (hF : ∀ j, j < N → ∀ (S1 : ri_H) (K : Int32 → ri_H → Prop), ag CX S S1 → (∀ S', ag CX S S' → K (F j) S') → w92 k a b (nI j) S1 K) (hQ : ∀ S', ag CX S S' → Q (bA F N) S') : ∀ e j S1, j + e = N → ag CX S S1 → w90_l6 k Q (e + 1) a b (nI N) (bA F j) (nI j) S1
  | 0, j, S1, hj, a1 => by
    have hj' : j = N := hj
    subst hj'
    unfold w90_l6
    exact ⟨fun _ => hQ S1 a1, fun c => absurd (nI_le (Nat.le_refl _) hN) c⟩
  | e + 1, j, S1, hj, a1 => by
    unfold w90_l6 w90_b36
    rw [nI_1]
    refine ⟨fun c => absurd c (nI_ge (by omega) hN), fun _ => hF j (by omega) S1 _ a1 (fun S2 a2 => ?_)⟩
    have ih := l6b_ok hN hF hQ e (j + 1) S2 (by omega) a2
    unfold bA at ih
    refine ⟨fun c => ?_, fun c => ?_⟩
    · rw [if_neg c] at ih
      exact ih
    · rw [if_pos (Decidable.not_not.mp c)] at ih
      exact ih
theorem md_int {j : Nat} (hj : j ≤ 200) : (nI j + -99).toInt = (j : Int) - 99 := by
  rw [Int32.toInt_add, nI_toInt (by omega), show (-99 : Int32).toInt = -99 by rfl]
  exact Int.bmod_eq_of_le (by omega) (by omega)
theorem md_1 (j : Nat) : nI j + -99 + 1 = nI (j + 1) + -99 := by
  rw [Int32.add_assoc, Int32.add_comm (-99) 1, ← Int32.add_assoc, nI_1]
theorem w31_l28_ok {Q : Int32 → ri_H → Prop} {r n : Nat} {f : Nat → Int32} (hr : r < 6) (hn : n ≤ 160) (hf : ∀ j, j < n → S.1 2 (160 * r + j) = f j) (hQ : ∀ v, (v = 0 → ∀ j, j < n → f j ≠ -5) → Q v S) : ∀ e j, j + e = n → (∀ i, i < j → f i ≠ -5) → w31_l28 Q (e + 1) (-5) (nI (160 * r + n)) (nI (160 * r + j)) S
  | 0, j, hj, h => by
    have hj' : j = n := hj
    subst hj'
    unfold w31_l28
    exact ⟨fun _ => hQ 0 (fun _ => h), fun _ => ⟨fun _ => hQ 0 (fun _ => h), fun c => absurd (nI_le (Nat.le_refl _) (by omega)) c⟩⟩
  | e + 1, j, hj, h => by
    unfold w31_l28
    rw [nI_clamp (n := 160 * r + j) (by omega), hf j (by omega), nI_1]
    refine ⟨fun c => absurd c (nI_pos (by omega)), fun _ => ⟨fun c => absurd c (nI_ge (by omega) (by omega)), fun _ => ⟨fun c => absurd c (nI_ge (b := 960) (by omega) (by decide)), fun _ => ⟨vp_in_nI (by omega) (by decide), fun c => ?_, fun _ => hQ 1 (fun e => absurd e (by decide))⟩⟩⟩⟩
    refine w31_l28_ok hr hn hf hQ e (j + 1) (by omega) (fun i hi => ?_)
    by_cases q : i = j
    · rw [q]
      exact c
    · exact h i (by omega)
theorem w31_ok {Q : Int32 → ri_H → Prop} {r : Nat} {c0 c1 c2 : List Int32} (hr : r < 6) (h : ttx S r c0 c1 c2) (hQ : ∀ v, (v = 0 → no5 c0 ∧ no5 c1) → Q v S) : w31 (nI r) (-5) S Q := by
  obtain ⟨h0, h1, h2, h3, hc, hl, _⟩ := h
  rw [app_len] at hl hc
  unfold w31
  have z0 : it (S.1 3) 24 (nI r * 4) = nI (160 * r + 0) := by
    have e : nI r * 4 = nI (4 * r) := by
      have e : nI r * 4 = nI (r * 4) := pk_mul r 4
      rw [e, Nat.mul_comm]
    rw [e, it_nI _ (by omega) (by decide)]
    exact h0
  have z2 : it (S.1 3) 24 (nI r * 4 + 2) = nI (160 * r + (c0.length + c1.length)) := by
    have e : nI r * 4 + 2 = nI (4 * r + 2) := k4i (b := 2) hr (by decide)
    rw [e, it_nI _ (by omega) (by decide), h2, Nat.add_assoc]
  rw [z0, z2]
  refine ⟨c0.length + c1.length + 1, w31_l28_ok (f := fun j => (c0 ++ (c1 ++ c2)).getD j 0) hr (by omega) (fun j hj => hc j (by omega)) (fun v hv => hQ v (fun e => ?_)) (c0.length + c1.length) 0 (by omega) (fun i hi => absurd hi (Nat.not_lt_zero i))⟩
  have hv := hv e
  constructor
  · intro s hs
    obtain ⟨i, hi, ei⟩ := List.mem_iff_getElem.mp hs
    have := hv i (by omega)
    rw [getD_app1 hi] at this
    rw [← ei]
    intro q
    apply this
    rw [← q]
    simp [hi]
  · intro s hs
    obtain ⟨i, hi, ei⟩ := List.mem_iff_getElem.mp hs
    have := hv (c0.length + i) (by omega)
    rw [getD_app2 (by omega), getD_app1 (by omega)] at this
    rw [← ei]
    intro q
    apply this
    rw [← q, show c0.length + i - c0.length = i by omega]
    simp [hi]
def p_md (F : Nat → Int32) (w : Int32) : Int32 := if w = 4 then nI (cA F 199) else lf F (-99) 199 0
theorem l32_ok {Q : Int32 → ri_H → Prop} {F : Nat → Int32} {k : Nat} {x4 : Int32} (hF : ∀ j, j < 199 → ∀ (S1 : ri_H) (K : Int32 → ri_H → Prop), ag CX S S1 → (∀ S', ag CX S S' → K (F j) S') → w92 k a b (nI j + -99) S1 K) (hx : x4 = 0 → (∀ j, j < 99 → F j = F 0) ∧ ∀ j, 99 ≤ j → j < 199 → F j = F 99) (hQ : ∀ S', ag CX S S' → Q (p_md F b) S') : ∀ e j x5 x7 S1, j + e = 199 → ag CX S S1 → (1 ≤ j → x5 = if F (j - 1) = -1 then 1 else 0) → (cA F j = 0 → lf F (-99) (199 - j) j = lf F (-99) 199 0 ∧ x7 = -100) → (cA F j ≠ 0 → x7 = lf F (-99) 199 0) → w91_l32 k Q (e + 1) a b x4 x5 (nI (cA F j)) x7 (nI j + -99) S1
  | 0, j, x5, x7, S1, hj, a1, h5, h6, h7 => by
    have hj' : j = 199 := hj
    subst hj'
    unfold w91_l32
    have hq := hQ S1 a1
    unfold p_md at hq
    refine ⟨fun _ => ⟨fun c => ?_, fun c => ?_⟩, fun c => absurd (by decide) c⟩
    · rw [if_neg c] at hq
      have : x7 = lf F (-99) 199 0 := by
        by_cases z : cA F 199 = 0
        · obtain ⟨q1, q2⟩ := h6 z
          rw [q2, ← q1]
          rfl
        · exact h7 z
      rw [this]
      exact hq
    · rw [if_pos (Decidable.not_not.mp c)] at hq
      exact hq
  | e + 1, j, x5, x7, S1, hj, a1, h5, h6, h7 => by
    have mj : (nI j + -99).toInt = (j : Int) - 99 := md_int (by omega)
    have hle := cA_le F j
    have ce : cA F (j + 1) = cA F j + (if F j = -1 then 1 else 0) := rfl
    have go : ∀ (y5 : Int32) (S2 : ri_H), ag CX S S2 → (y5 = if F j = -1 then 1 else 0) → w91_b76 k (fun x2 x3 x4 x5 x6 x7 x8 S => w91_l32 k Q (e + 1) x2 x3 x4 x5 x6 x7 x8 S) Q a b x4 y5 (nI (cA F j)) x7 (nI j + -99) S2 := by
      intro y5 S2 a2 hy
      unfold w91_b76 w91_b93 w91_b98
      rw [md_1, nI_1]
      by_cases c : F j = -1
      · rw [if_pos c] at hy ce
        subst hy
        refine ⟨fun q => absurd q (by decide), fun _ => ⟨fun q => ?_, fun q => ?_⟩⟩
        · have z : cA F j ≠ 0 := fun e0 => q (by rw [e0]; rfl)
          have ih := l32_ok hF hx hQ e (j + 1) 1 x7 S2 (by omega) a2 (fun _ => by rw [Nat.add_sub_cancel, if_pos c]) (fun z2 => by omega) (fun _ => h7 z)
          rw [ce] at ih
          exact ih
        · have z : cA F j = 0 := nI_inj (b := 0) (by omega) (by decide) (Decidable.not_not.mp q)
          obtain ⟨q1, q2⟩ := h6 z
          have ih := l32_ok hF hx hQ e (j + 1) 1 (nI j + -99) S2 (by omega) a2 (fun _ => by rw [Nat.add_sub_cancel, if_pos c]) (fun z2 => by omega) (fun _ => by
            rw [← q1, show 199 - j = (198 - j) + 1 by omega]
            unfold lf
            rw [if_pos c])
          rw [ce] at ih
          exact ih
      · rw [if_neg c] at hy ce
        subst hy
        refine ⟨fun _ => ?_, fun q => absurd rfl q⟩
        have ih := l32_ok hF hx hQ e (j + 1) 0 x7 S2 (by omega) a2 (fun _ => by rw [Nat.add_sub_cancel, if_neg c]) (fun z2 => by
          rw [ce, Nat.add_zero] at z2
          obtain ⟨q1, q2⟩ := h6 z2
          refine ⟨?_, q2⟩
          rw [← q1, show 199 - j = (199 - (j + 1)) + 1 by omega]
          conv => rhs; unfold lf
          rw [if_neg c]) (fun z2 => h7 (by rw [ce, Nat.add_zero] at z2; exact z2))
        rw [ce, Nat.add_zero] at ih
        exact ih
    have b56 : w91_b56 k (fun x2 x3 x4 x5 x6 x7 x8 S => w91_l32 k Q (e + 1) x2 x3 x4 x5 x6 x7 x8 S) Q a b x4 (nI (cA F j)) x7 (nI j + -99) S1 := by
      unfold w91_b56 w91_b74
      refine hF j (by omega) S1 _ a1 (fun S2 a2 => ⟨fun c => go 0 S2 a2 (by rw [if_neg c]), fun c => go 1 S2 a2 (by rw [if_pos (Decidable.not_not.mp c)])⟩)
    unfold w91_l32
    refine ⟨fun c => absurd (Int32.lt_iff_toInt_lt.mp c) (by rw [mj, show (99 : Int32).toInt = 99 from rfl]; omega), fun _ => ⟨fun _ => b56, fun c4 => ⟨fun _ => b56, fun c1 => ⟨fun c2 => go x5 S1 a1 ?_, fun _ => b56⟩⟩⟩⟩
    obtain ⟨x1, x2⟩ := hx (Decidable.not_not.mp c4)
    have j0 : j ≠ 0 := by
      intro e0
      subst e0
      exact c1 rfl
    have j99 : j ≠ 99 := by
      intro e0
      subst e0
      exact c2 (by decide)
    rw [h5 (by omega)]
    have : F (j - 1) = F j := by
      rcases Nat.lt_or_ge j 99 with q | q
      · rw [x1 (j - 1) (by omega), x1 j q]
      · rw [x2 (j - 1) (by omega) (by omega), x2 j q (by omega)]
    rw [this]
theorem w91_ok {Q : Int32 → ri_H → Prop} {F : Nat → Int32} {k r : Nat} {c0 c1 c2 : List Int32} (hr : r < 6) (ht : ttx S r c0 c1 c2) (er : S.1 10 11 = nI r) (hF : ∀ j, j < 199 → ∀ (S1 : ri_H) (K : Int32 → ri_H → Prop), ag CX S S1 → (∀ S', ag CX S S' → K (F j) S') → w92 k a b (nI j + -99) S1 K) (hx : no5 c0 → no5 c1 → (∀ j, j < 99 → F j = F 0) ∧ ∀ j, 99 ≤ j → j < 199 → F j = F 99) (hQ : ∀ S', ag CX S S' → Q (p_md F b) S') : w91 k a b S Q := by
  unfold w91
  rw [er]
  refine w31_ok hr ht (fun v hv => ⟨200, ?_⟩)
  exact l32_ok hF (fun e => hx (hv e).1 (hv e).2) hQ 199 0 0 (-100) S (by omega) (ag_refl _ _) (fun h => absurd h (by omega)) (fun _ => ⟨rfl, rfl⟩) (fun h => absurd rfl h)
end TELC
