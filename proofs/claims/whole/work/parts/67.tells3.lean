/-! tells, the model -/
section TELM
variable {S S0 : ri_H} {T : Nat} {τ : Int32 → Int32 → List Int32}
theorem l9b_ok {Q : Int32 → ri_H → Prop} {s p z : Nat} (hs : s < 4) (hp : p < 5) (hz : z ≤ 40) (hm : mt S0 τ (gm S0 0 11)) (hg : gok (gm S0)) (e68 : S0.1 68 s = nI z) : ∀ e k S, k + e = z → mw τ S0 S k → (∀ S', am MX MF S0 S' → gm S' = gm S0 → Q (fo τ (gm S0) (fun i => S0.1 69 (40 * s + i)) (nI p) e k) S') → w189_l9 Q (e + 1) (nI s) (nI p) (-1) (nI k) S
  | 0, k, S, hk, h, hQ => by
    have hk' : k = z := hk
    subst hk'
    unfold w189_l9
    rw [nI_clamp (n := s) (by omega), (h.1.1 68 (by decide) (by decide)).1, e68]
    exact ⟨vp_in_nI hs (by decide), fun _ => w175_m h.1 h.2.1 (fun S' _ a e => hQ S' a e), fun c => absurd (nI_le (Nat.le_refl _) (by omega)) c⟩
  | e + 1, k, S, hk, h, hQ => by
    unfold w189_l9
    rw [nI_clamp (n := s) (by omega), (h.1.1 68 (by decide) (by decide)).1, e68]
    refine ⟨vp_in_nI hs (by decide), fun c => absurd c (nI_ge (by omega) (by omega)), fun _ => ⟨fun c => absurd rfl c, fun _ => w171_m hm hg h (fun S1 h1 => w114_m hp h1 ?_)⟩⟩
    rw [x40, nI_clamp (n := 40 * s + k) (by omega), (h1.1.1 69 (by decide) (by decide)).1]
    unfold w189_b55
    rw [nI_1]
    unfold fo at hQ
    refine ⟨vp_in_nI (by omega) (by decide), fun c => ?_, fun c => ?_⟩
    · rw [if_neg c] at hQ
      have fin : w189_b62 Q (nI k) S1 := w175_m h1.1 h1.2.1 (fun S' _ a e => hQ S' a e)
      unfold w189_l9
      rw [nI_clamp (n := s) (by omega), (h1.1.1 68 (by decide) (by decide)).1, e68]
      exact ⟨vp_in_nI hs (by decide), fun _ => fin, fun _ => ⟨fun _ => fin, fun c => absurd (Decidable.not_not.mp c) (nt_m1 (by omega))⟩⟩
    · rw [if_pos (Decidable.not_not.mp c)] at hQ
      exact l9b_ok hs hp hz hm hg e68 e (k + 1) S1 (by omega) h1 hQ
theorem w189_ok {Q : Int32 → ri_H → Prop} {s p z : Nat} (hs : s < 4) (hp : p < 5) (hz : z ≤ 40) (hm : mt S τ (gm S 0 11)) (hg : gok (gm S)) (e68 : S.1 68 s = nI z) (hQ : ∀ S', am MX MF S S' → gm S' = gm S → Q (fo τ (gm S) (fun i => S.1 69 (40 * s + i)) (nI p) z 0) S') : w189 (nI s) (nI p) S Q :=
  w174_m (τ := τ) (fun S1 h1 => ⟨z + 1, l9b_ok hs hp hz hm hg e68 z 0 S1 (by omega) h1 hQ⟩)
theorem l4b_ok {Q : Int32 → ri_H → Prop} {s z L : Nat} {F : Nat → Int32} (hs : s < 4) (hz : z ≤ 40) (hL : L ≤ 5) (l : S0.1 50 11 = nI L) (hm : mt S0 τ (gm S0 0 11)) (hg : gok (gm S0)) (e68 : S0.1 68 s = nI z) (hF : F = fun j => fo τ (gm S0) (fun i => S0.1 69 (40 * s + i)) (nI j) z 0) (hQ : ∀ S', am MX MF S0 S' → gm S' = gm S0 → Q (bA F L) S') : ∀ e j S, j + e = L → am MX MF S0 S → gm S = gm S0 → w190_l4 Q (e + 1) (nI s) (bA F j) (nI j) S
  | 0, j, S, hj, a, g => by
    have hj' : j = L := hj
    subst hj'
    unfold w190_l4
    rw [gm_9, g, ← gm_9, l]
    exact ⟨fun _ => hQ S a g, fun c => absurd (nI_le (Nat.le_refl _) (by omega)) c⟩
  | e + 1, j, S, hj, a, g => by
    unfold w190_l4 w190_b28
    rw [gm_9, g, ← gm_9, l, nI_1]
    have e69 : S.1 69 = S0.1 69 := (a.1 69 (by decide) (by decide)).1
    refine ⟨fun c => absurd c (nI_ge (by omega) (by omega)), fun _ => w189_ok (τ := τ) hs (by omega) hz (by rw [g]; exact mt_am hm a (by decide) (by decide)) (by rw [g]; exact hg) (by rw [(a.1 68 (by decide) (by decide)).1]; exact e68) (fun S2 a2 g2 => ?_)⟩
    have a3 := am_tr a a2
    have g3 := g2.trans g
    have ih := l4b_ok hs hz hL l hm hg e68 hF hQ e (j + 1) S2 (by omega) a3 g3
    have ef : fo τ (gm S) (fun i => S.1 69 (40 * s + i)) (nI j) z 0 = F j := by rw [hF, g, e69]
    rw [ef]
    unfold bA at ih
    refine ⟨fun c => ?_, fun c => ?_⟩
    · rw [if_neg c] at ih
      rw [sh0 j (by omega), or0]
      exact ih
    · rw [if_pos (Decidable.not_not.mp c)] at ih
      rw [sh1_bt (by omega)]
      exact ih
/-- which row of the model's world is laid -/
def MP (fl o j p : Nat) : Prop := (fl = 7 ∧ o = 3 ∧ j = p) ∨ (fl = 3 ∧ o = 4 ∧ j = p) ∨ (fl = 4 ∧ o = 5 ∧ j = p) ∨ (fl = 5 ∧ o = 6 ∧ j = p) ∨ (fl = 8 ∧ o = 0 ∧ j = 11)
theorem w110_ok {Q : ri_H → Prop} {fl o j p : Nat} {v : Int32} (h : MP fl o j p) (hp : p < 5) (hQ : ∀ S', am [56] [4] S S' → gm S' = sup (gm S) o j v → Q S') : w110 (nI fl) (nI p) v S Q := by
  unfold w110
  rcases h with ⟨rfl, rfl, rfl⟩ | ⟨rfl, rfl, rfl⟩ | ⟨rfl, rfl, rfl⟩ | ⟨rfl, rfl, rfl⟩ | ⟨rfl, rfl, rfl⟩
  · refine ⟨fun _ => ⟨fun _ => ⟨fun _ => ⟨fun c => absurd c (by decide), fun _ => ?_⟩, fun c => absurd (show ¬ nI 7 = (2 : Int32) by decide) c⟩, fun c => absurd (show ¬ nI 7 = (1 : Int32) by decide) c⟩, fun c => absurd (show ¬ nI 7 = 0 by decide) c⟩
    rw [x5_k j 7 (by decide), nI_clamp (by omega)]
    exact ⟨vp_in_nI (by omega) (by decide), hQ _ (am_wi (am_refl _ _ _) (by decide) (by decide)) (gm_row4 S hp v)⟩
  · refine ⟨fun _ => ⟨fun _ => ⟨fun _ => ⟨fun c => absurd c (by decide), fun _ => ?_⟩, fun c => absurd (show ¬ nI 3 = (2 : Int32) by decide) c⟩, fun c => absurd (show ¬ nI 3 = (1 : Int32) by decide) c⟩, fun c => absurd (show ¬ nI 3 = 0 by decide) c⟩
    rw [x5_k j 3 (by decide), nI_clamp (by omega)]
    exact ⟨vp_in_nI (by omega) (by decide), hQ _ (am_wi (am_refl _ _ _) (by decide) (by decide)) (gm_row0 S hp v)⟩
  · refine ⟨fun _ => ⟨fun _ => ⟨fun _ => ⟨fun c => absurd c (by decide), fun _ => ?_⟩, fun c => absurd (show ¬ nI 4 = (2 : Int32) by decide) c⟩, fun c => absurd (show ¬ nI 4 = (1 : Int32) by decide) c⟩, fun c => absurd (show ¬ nI 4 = 0 by decide) c⟩
    rw [x5_k j 4 (by decide), nI_clamp (by omega)]
    exact ⟨vp_in_nI (by omega) (by decide), hQ _ (am_wi (am_refl _ _ _) (by decide) (by decide)) (gm_row1 S hp v)⟩
  · refine ⟨fun _ => ⟨fun _ => ⟨fun _ => ⟨fun c => absurd c (by decide), fun _ => ?_⟩, fun c => absurd (show ¬ nI 5 = (2 : Int32) by decide) c⟩, fun c => absurd (show ¬ nI 5 = (1 : Int32) by decide) c⟩, fun c => absurd (show ¬ nI 5 = 0 by decide) c⟩
    rw [x5_k j 5 (by decide), nI_clamp (by omega)]
    exact ⟨vp_in_nI (by omega) (by decide), hQ _ (am_wi (am_refl _ _ _) (by decide) (by decide)) (gm_row2 S hp v)⟩
  · exact ⟨fun _ => ⟨fun _ => ⟨fun _ => ⟨fun _ => hQ _ (am_f (am_refl _ _ _) (by decide)) (gm_f4 S v), fun c => absurd (by decide) c⟩, fun c => absurd (show ¬ nI 8 = (2 : Int32) by decide) c⟩, fun c => absurd (show ¬ nI 8 = (1 : Int32) by decide) c⟩, fun c => absurd (show ¬ nI 8 = 0 by decide) c⟩
theorem m112 {Q : Int32 → ri_H → Prop} {fl o j p L : Nat} (h : MP fl o j p) (h8 : fl ≠ 8) (hL : L ≤ 5) (l : S.1 50 11 = nI L) (hp : p < L) (hQ : Q (gm S o j) S) : w112 (nI p) (nI fl) S Q := by
  rcases h with ⟨rfl, rfl, rfl⟩ | ⟨rfl, rfl, rfl⟩ | ⟨rfl, rfl, rfl⟩ | ⟨rfl, rfl, rfl⟩ | ⟨rfl, rfl, rfl⟩
  · refine tm_in (by decide) (isOf_o hL l (by decide) (by decide) (fun _ _ _ => ⟨fun _ => ⟨fun _ => ⟨fun c => absurd c (by decide), fun _ => ?_⟩, fun c => absurd (by decide) c⟩, fun c => absurd (by decide) c⟩) (fun hn => absurd rfl (hn j hp)))
    rw [x5_k j 7 (by decide), nI_clamp (by omega), row_4 (by omega)]
    exact ⟨vp_in_nI (by omega) (by decide), hQ⟩
  · refine tm_in (by decide) (isOf_o hL l (by decide) (by decide) (fun _ _ _ => ⟨fun _ => ⟨fun _ => ⟨fun c => absurd c (by decide), fun _ => ?_⟩, fun c => absurd (by decide) c⟩, fun c => absurd (by decide) c⟩) (fun hn => absurd rfl (hn j hp)))
    rw [x5_k j 3 (by decide), nI_clamp (by omega), row_0 (by omega)]
    exact ⟨vp_in_nI (by omega) (by decide), hQ⟩
  · refine tm_in (by decide) (isOf_o hL l (by decide) (by decide) (fun _ _ _ => ⟨fun _ => ⟨fun _ => ⟨fun c => absurd c (by decide), fun _ => ?_⟩, fun c => absurd (by decide) c⟩, fun c => absurd (by decide) c⟩) (fun hn => absurd rfl (hn j hp)))
    rw [x5_k j 4 (by decide), nI_clamp (by omega), row_1 (by omega)]
    exact ⟨vp_in_nI (by omega) (by decide), hQ⟩
  · refine tm_in (by decide) (isOf_o hL l (by decide) (by decide) (fun _ _ _ => ⟨fun _ => ⟨fun _ => ⟨fun c => absurd c (by decide), fun _ => ?_⟩, fun c => absurd (by decide) c⟩, fun c => absurd (by decide) c⟩) (fun hn => absurd rfl (hn j hp)))
    rw [x5_k j 5 (by decide), nI_clamp (by omega), row_2 (by omega)]
    exact ⟨vp_in_nI (by omega) (by decide), hQ⟩
  · exact absurd rfl h8
theorem vv_1 (k : Nat) (lo : Int32) : nI (k + 1) + lo - 1 = nI k + lo := by
  have e : nI (k + 1) + lo = nI k + lo + 1 := by
    rw [← nI_1, Int32.add_assoc, Int32.add_comm 1 lo, ← Int32.add_assoc]
  rw [e]
  exact Int32.add_sub_cancel _ _
theorem or3 (x b t : Int32) : x ||| (b ||| t) = x ||| t ||| b := by
  rw [Int32.or_comm b t, Int32.or_assoc]
theorem x8_1 (x : Int32) (c : Nat) : x + 1 + nI c = x + nI (c + 1) := by
  rw [← nI_1, Int32.add_assoc, Int32.add_comm 1 (nI c)]
def p_an (F : Nat → Int32) (lo : Int32) (N : Nat) (x3 : Int32) : Int32 := if x3 = 4 then nI (cA F N) else if x3 = 5 then lf F lo N 0 else bA F N
theorem l220_ok {Q : Int32 → ri_H → Prop} {s p z N fl o j : Nat} {lo x3 : Int32} {F : Nat → Int32} (hs : s < 4) (hp : p < 5) (hz : z ≤ 40) (hT : rT T τ S0) (hg : gwd T (gm S0)) (e68 : S0.1 68 s = nI z) (hmp : MP fl o j p) (hlo : (fl = 5 ∧ lo = -99) ∨ (fl ≠ 5 ∧ lo = 0)) (hN : N ≤ 199) (hN0 : lo = 0 → N ≤ 12) (h3 : ¬ x3 = 4 → ¬ x3 = 5 → lo = 0) (hV : ∀ k, k < N → gwd T (sup (gm S0) o j (nI k + lo))) (hF : F = fun k => fo τ (sup (gm S0) o j (nI k + lo)) (fun i => S0.1 69 (40 * s + i)) (nI p) z 0) (hQ : ∀ S', am MX MF S0 S' → gm S' = gm S0 → Q (p_an F lo N x3) S') : ∀ k x7 x8 x9 S, k ≤ N → x8 + nI (cA F k) = nI (cA F N) → x9 = lf F lo (N - k) k → (lo = 0 → x7 ||| bA F k = bA F N) → am MX MF S0 S → (∀ v, sup (gm S) o j v = sup (gm S0) o j v) → w191_l220 Q (k + 1) (nI s) (nI p) x3 (nI fl) (gm S0 o j) x7 x8 x9 (nI k + lo - 1) S
  | 0, x7, x8, x9, S, hk, h8, h9, h7, a, hv => by
    have main : ∀ K : Int32 → Int32 → Int32 → Int32 → Int32 → Int32 → Int32 → Int32 → Int32 → ri_H → Prop, ∀ lo', nI 0 + lo - 1 < lo' → w191_b234 K Q (nI s) (nI p) x3 (nI fl) (gm S0 o j) x7 x8 x9 (nI 0 + lo - 1) lo' (nI 0 + lo - 1) S := by
      intro K lo' hl
      unfold w191_b234
      refine ⟨fun _ => w110_ok hmp hp (fun S1 a1 g1 => ?_), fun c => absurd hl c⟩
      have a2 : am MX MF S0 S1 := am_tr a (am_mo a1 (by decide) (by decide))
      have g2 : gm S1 = gm S0 := by rw [g1, hv, sup_self]
      have hq := hQ S1 a2 g2
      unfold p_an at hq
      refine ⟨fun c4 => ⟨fun c5 => ?_, fun c5 => ?_⟩, fun c4 => ?_⟩
      · rw [if_neg c4, if_neg c5] at hq
        have := h7 (h3 c4 c5)
        rw [show bA F 0 = 0 from rfl, or0] at this
        rw [this]
        exact hq
      · rw [if_neg c4, if_pos (Decidable.not_not.mp c5)] at hq
        rw [h9]
        exact hq
      · rw [if_pos (Decidable.not_not.mp c4)] at hq
        rw [show cA F 0 = 0 from rfl, show nI 0 = 0 from rfl, Int32.add_zero] at h8
        rw [h8]
        exact hq
    unfold w191_l220
    rcases hlo with ⟨e1, e2⟩ | ⟨e1, e2⟩
    · subst e1
      subst e2
      exact ⟨fun c => absurd rfl c, fun _ => main _ _ (by decide)⟩
    · subst e2
      have hfl : fl < 2 ^ 31 := by
        rcases hmp with h | h | h | h | h <;> omega
      exact ⟨fun _ => main _ _ (by decide), fun c => absurd (nI_inj (b := 5) hfl (by decide) (Decidable.not_not.mp c)) e1⟩
  | k + 1, x7, x8, x9, S, hk, h8, h9, h7, a, hv => by
    rw [vv_1]
    have main : ∀ lo', ¬ nI k + lo < lo' → w191_b234 (fun x1 x2 x3 x4 x5 x7 x8 x9 x10 S => w191_l220 Q (k + 1) x1 x2 x3 x4 x5 x7 x8 x9 x10 S) Q (nI s) (nI p) x3 (nI fl) (gm S0 o j) x7 x8 x9 (nI k + lo) lo' (nI k + lo) S := by
      intro lo' hl
      unfold w191_b234
      refine ⟨fun c => absurd c hl, fun _ => w110_ok hmp hp (fun S1 a1 g1 => ?_)⟩
      have a2 : am MX MF S0 S1 := am_tr a (am_mo a1 (by decide) (by decide))
      have g2 : gm S1 = sup (gm S0) o j (nI k + lo) := by rw [g1, hv]
      have hw := hV k (by omega)
      have hm : mt S1 τ (gm S1 0 11) := by
        obtain ⟨_, _, r, hr, er⟩ := hw
        rw [g2, er]
        exact mt_am (mt_of_R hT hr) a2 (by decide) (by decide)
      refine w189_ok (τ := τ) hs hp hz hm (by rw [g2]; exact hw.1) (by rw [(a2.1 68 (by decide) (by decide)).1]; exact e68) (fun S2 a3 g3 => ?_)
      have a4 : am MX MF S0 S2 := am_tr a2 a3
      have g4 : ∀ v, sup (gm S2) o j v = sup (gm S0) o j v := fun v => by rw [g3, g2, sup_sup]
      have ef : fo τ (gm S1) (fun i => S1.1 69 (40 * s + i)) (nI p) z 0 = F k := by
        rw [hF, g2, (a2.1 69 (by decide) (by decide)).1]
      rw [ef]
      have ce : cA F (k + 1) = cA F k + (if F k = -1 then 1 else 0) := rfl
      have be : bA F (k + 1) = if F k = -1 then bA F k ||| bt (nI k) else bA F k := rfl
      have le : lf F lo (N - k) k = if F k = -1 then nI k + lo else lf F lo (N - (k + 1)) (k + 1) := by
        rw [show N - k = (N - (k + 1)) + 1 by omega]
        rfl
      have em : nI k + lo + -1 = nI k + lo - 1 := (Int32.sub_eq_add_neg _ _).symm
      unfold w191_b279 w191_b289
      rw [em]
      refine ⟨fun c => ?_, fun c => ?_⟩
      · rw [if_neg c] at ce be le
        rw [ce] at h8
        rw [be] at h7
        exact l220_ok hs hp hz hT hg e68 hmp hlo hN hN0 h3 hV hF hQ k x7 x8 x9 S2 (by omega) h8 (h9.trans le.symm) h7 a4 g4
      · rw [if_pos (Decidable.not_not.mp c)] at ce be le
        rw [ce, ← x8_1] at h8
        rw [be] at h7
        refine w102_n (m := 11) (by decide) (by decide) (fun i hi ei => ⟨fun c => absurd c (by decide), fun _ => ?_⟩) (fun hh => ⟨fun _ => ?_, fun c => absurd rfl c⟩)
        · refine l220_ok hs hp hz hT hg e68 hmp hlo hN hN0 h3 hV hF hQ k _ (x8 + 1) _ S2 (by omega) h8 le.symm (fun e0 => ?_) a4 g4
          subst e0
          rw [Int32.add_zero] at ei ⊢
          rw [sh1_bt (show k < 31 by have := hN0 rfl; omega), ← or3]
          exact h7 rfl
        · refine l220_ok hs hp hz hT hg e68 hmp hlo hN hN0 h3 hV hF hQ k _ (x8 + 1) _ S2 (by omega) h8 le.symm (fun e0 => ?_) a4 g4
          subst e0
          refine absurd (Int32.add_zero _) (hh k ?_)
          have := hN0 rfl
          omega
    unfold w191_l220
    rcases hlo with ⟨e1, e2⟩ | ⟨e1, e2⟩
    · subst e1
      subst e2
      refine ⟨fun c => absurd rfl c, fun _ => main _ (fun c => ?_)⟩
      have := Int32.lt_iff_toInt_lt.mp c
      rw [md_int (by omega), show (-99 : Int32).toInt = -99 by rfl] at this
      omega
    · subst e2
      have hfl : fl < 2 ^ 31 := by
        rcases hmp with h | h | h | h | h <;> omega
      refine ⟨fun _ => main _ (fun c => ?_), fun c => absurd (nI_inj (b := 5) hfl (by decide) (Decidable.not_not.mp c)) e1⟩
      rw [Int32.add_zero] at c
      exact nI_pos (by omega) c
theorem w191_b204_ok {Q : Int32 → ri_H → Prop} {s p z N fl o j : Nat} {lo x3 st : Int32} {F : Nat → Int32} (hs : s < 4) (hp : p < 5) (hz : z ≤ 40) (hT : rT T τ S) (hg : gwd T (gm S)) (e68 : S.1 68 s = nI z) (hmp : MP fl o j p) (hlo : (fl = 5 ∧ lo = -99) ∨ (fl ≠ 5 ∧ lo = 0)) (hN : N ≤ 199) (hN0 : lo = 0 → N ≤ 12) (h3 : ¬ x3 = 4 → ¬ x3 = 5 → lo = 0) (hV : ∀ k, k < N → gwd T (sup (gm S) o j (nI k + lo))) (hF : F = fun k => fo τ (sup (gm S) o j (nI k + lo)) (fun i => S.1 69 (40 * s + i)) (nI p) z 0) (hst : st = nI N + lo - 1) (hQ : ∀ S', am MX MF S S' → gm S' = gm S → Q (p_an F lo N x3) S') : w191_b204 Q (nI s) (nI p) x3 (nI fl) (gm S o j) st S := by
  subst hst
  unfold w191_b204
  exact ⟨N + 1, l220_ok hs hp hz hT hg e68 hmp hlo hN hN0 h3 hV hF hQ N 0 0 (-100) S (Nat.le_refl _) (Int32.zero_add _) (by rw [Nat.sub_self]; rfl) (fun _ => by rw [Int32.or_comm, or0]) (am_refl _ _ _) (fun _ => rfl)⟩
end TELM
