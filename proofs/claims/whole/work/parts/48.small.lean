/-! small things of the faces -/
theorem wi_1 {j n : Nat} (h : j < n) (hn : n < 2 ^ 31) : wi (nI j) (nI n) = 1 := by
  unfold wi
  rw [if_neg (nI_pos (by omega)), if_neg (nI_ge h hn)]
theorem wi_d (a : Int32) {n : Nat} (hn : n < 2 ^ 31) : (∃ j, j < n ∧ a = nI j ∧ wi a (nI n) = 1) ∨ (wi a (nI n) = 0 ∧ ∀ j, j < n → a ≠ nI j) := by
  by_cases c : wi a (nI n) = 0
  · refine Or.inr ⟨c, fun j hj e => ?_⟩
    rw [e, wi_1 hj hn] at c
    exact absurd c (by decide)
  · obtain ⟨j, hj, e⟩ := wi_k hn c
    have e : a = nI j := e
    exact Or.inl ⟨j, hj, e, by rw [e, wi_1 hj hn]⟩
section SM
variable {S : ri_H} {Q : Int32 → ri_H → Prop} {x : Int32}
theorem w102_g (lo hi : Int32) (h1 : lo ≤ x → x ≤ hi → Q 1 S) (h0 : ¬ (lo ≤ x ∧ x ≤ hi) → Q 0 S) : w102 x.toInt64 lo.toInt64 hi.toInt64 S Q := by
  unfold w102
  rw [lg_cmp_lt, lg_cmp_gt, wd_lt, wd_lt]
  refine ⟨fun c => h0 (fun h => absurd c (Int32.not_lt.mpr h.1)), fun c => ⟨fun c2 => h0 (fun h => absurd c2 (Int32.not_lt.mpr h.2)), fun c2 => h1 (Int32.not_lt.mp c) (Int32.not_lt.mp c2)⟩⟩
theorem w102_n {m : Nat} {g : Int64} (hm : m < 2 ^ 31) (hg : g = (nI m).toInt64) (h1 : ∀ j, j < m + 1 → x = nI j → Q 1 S) (h0 : (∀ j, j < m + 1 → x ≠ nI j) → Q 0 S) : w102 x.toInt64 0 g S Q := by
  subst hg
  refine w102_g 0 (nI m) (fun a b => ?_) (fun h => h0 (fun j hj e => h ?_))
  · obtain ⟨j, hj, e⟩ := nI_of2 (nI_toInt hm) (Int32.not_lt.mpr a) b
    exact h1 j (by omega) e
  · rw [e]
    exact ⟨nI_pos' (by omega), nI_le (by omega) hm⟩
theorem w104_ok {L : Nat} (hL : L ≤ 5) (e : S.1 50 11 = nI L) (h1 : ∀ p, p < L → x = nI p → Q 1 S) (h0 : (∀ p, p < L → x ≠ nI p) → Q 0 S) : w104 x S Q := by
  unfold w104
  rw [e]
  cases L with
  | zero =>
    have e1 : nI 0 - 1 = -1 := by decide
    rw [e1]
    refine w102_g 0 (-1) (fun a b => ?_) (fun _ => ⟨Or.inl rfl, h0 (fun p hp => absurd hp (Nat.not_lt_zero p))⟩)
    have := Int32.le_trans a b
    exact absurd this (by decide)
  | succ L =>
    rw [nI_pred]
    exact w102_n (by omega) rfl (fun j hj e => ⟨Or.inr rfl, h1 j hj e⟩) (fun h => ⟨Or.inl rfl, h0 h⟩)
theorem w105_ok (h1 : ∀ j, j < 12 → x = nI j → Q 1 S) (h0 : (∀ j, j < 12 → x ≠ nI j) → Q 0 S) : w105 x S Q :=
  w102_n (m := 11) (by decide) (by decide) (fun j hj e => ⟨Or.inr rfl, h1 j hj e⟩) (fun h => ⟨Or.inl rfl, h0 h⟩)
theorem w106_ok (h1 : ∀ j, j < 24 → x = nI j → Q 1 S) (h0 : (∀ j, j < 24 → x ≠ nI j) → Q 0 S) : w106 x S Q :=
  w102_n (m := 23) (by decide) (by decide) (fun j hj e => ⟨Or.inr rfl, h1 j hj e⟩) (fun h => ⟨Or.inl rfl, h0 h⟩)
theorem nI_inj {a b : Nat} (ha : a < 2 ^ 31) (hb : b < 2 ^ 31) (h : nI a = nI b) : a = b := (nI_eq ha hb).mp h
end SM
section RF
variable {T : Nat} {τ : Int32 → Int32 → List Int32} {S S1 : ri_H}
theorem R_L (h : R T τ S) : ∃ L, L ≤ 5 ∧ S.1 10 9 = nI L ∧ S.1 50 11 = nI L ∧ gm S 0 9 = nI L := by
  obtain ⟨L, hL, e⟩ := h.1.2.1.1
  refine ⟨L, hL, ?_, e, e⟩
  rw [gw_0 S 10 9 (by decide), h.1.1]
  exact e
theorem R_w (h : R T τ S) : gw S 10 = gm S := h.1.1
theorem R_ok (h : R T τ S) : gok (gm S) := h.1.2.1
theorem R_tc (h : R T τ S) : tc S τ (gw S 10 0 11) := by
  obtain ⟨r, hr, e⟩ := h.1.2.2.2
  rw [R_w h, e]
  exact tc_of h.2.1 hr
theorem R_mt (h : R T τ S) : mt S τ (gm S 0 11) := by
  obtain ⟨r, hr, e⟩ := h.1.2.2.2
  rw [e]
  exact mt_of_R h.2.1 hr
theorem R_c (h : R T τ S) (a : ag CX S S1) : R T τ S1 := R_q h a (am_refl _ _ _) rfl
theorem c_gm (a : ag CX S S1) : gm S1 = gm S := gm_ag a (by decide)
theorem am_F1 {S2 : ri_H} (a : am [] F1 S1 S2) : am MX MF S1 S2 := am_mo a (by decide) (by decide)
theorem R_F1 {S2 : ri_H} (h : R T τ S1) (a : am [] F1 S1 S2) : R T τ S2 := R_q h (ag_refl _ _) (am_F1 a) (gm_F1 a)
end RF
/-! tastes -/
theorem f_tastes {a b : Int32} {S : ri_H} {Q : Int32 → Int32 → ri_H → Prop} (h : RR S) (hQ : ∀ r S', RR S' → Q r r S') : w50 a b S (fun r S1 => w168 a b S1 (fun r2 S2 => Q r r2 S2)) := by
  have h0 := h
  obtain ⟨T, τ, h⟩ := h
  obtain ⟨L, hL, l1, l2, l3⟩ := R_L h
  unfold w50 w168
  rw [l1]
  rcases wi_d a (n := L) (by omega) with ⟨p, hp, rfl, hw⟩ | ⟨hw, hne⟩
  · rw [hw]
    refine ⟨fun c => absurd c (by decide), fun _ => ?_⟩
    rcases wi_d b (n := 24) (by decide) with ⟨k, hk, rfl, hw2⟩ | ⟨hw2, hne2⟩
    · refine ⟨fun _ => w42_ok (Or.inl rfl) (R_tc h) (fun S1 a1 => ?_), fun c => absurd (by rw [show wi (nI k) 24 = 1 from hw2]; decide) c⟩
      have a1 : ag CX S S1 := ag_mo a1 (by decide)
      have h1 := R_c h a1
      obtain ⟨L', hL', l1', l2', l3'⟩ := R_L h1
      have g1 := c_gm a1
      have eL : L' = L := nI_inj (by omega) (by omega) (by rw [← l3', g1, l3])
      subst eL
      refine w104_ok hL l2' (fun p' _ e => ⟨fun c => absurd c (by decide), fun _ => w106_ok (fun k' _ e2 => ⟨fun c => absurd c (by decide), fun _ => w167_ok (by omega) hk (R_mt h1) (fun S2 a2 => ?_)⟩) (fun hn => absurd rfl (hn k hk))⟩) (fun hn => absurd rfl (hn p hp))
      rw [g1, ← R_w h]
      exact hQ _ _ ⟨T, τ, R_F1 h1 a2⟩
    · refine ⟨fun c => absurd (show wi b 24 = 0 from hw2) c, fun _ => ?_⟩
      exact w104_ok hL l2 (fun p' _ e => ⟨fun c => absurd c (by decide), fun _ => w106_ok (fun k' hk' e2 => absurd e2 (hne2 k' hk')) (fun _ => ⟨fun _ => hQ _ _ h0, fun c => absurd rfl c⟩)⟩) (fun hn => absurd rfl (hn p hp))
  · refine ⟨fun _ => w104_ok hL l2 (fun p hp e => absurd e (hne p hp)) (fun _ => ⟨fun _ => hQ _ _ h0, fun c => absurd rfl c⟩), fun c => absurd hw c⟩

