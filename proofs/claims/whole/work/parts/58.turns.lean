/-! turns, likely, drawn, chance -/
section TURNS
variable {a b g d : Int32} {S : ri_H} {Q : Int64 → Int64 → ri_H → Prop} {T : Nat} {τ : Int32 → Int32 → List Int32}
theorem sh1L : ∀ n, n < 31 → (1 : Int64) <<< ((nI n).toInt64 &&& 63) = lN (2 ^ n) := by decide +kernel
theorem R_58 (h : R T τ S) {S' : ri_H} (b : am W58 [] S S') : RR S' :=
  ⟨T, τ, R_q h (ag_refl _ _) (am_mo b (by decide) (by decide)) (W58_gm b)⟩
theorem f_turns (h : RR S) (hQ : ∀ r S', RR S' → Q r r S') : w58 a b g S (fun r S1 => w179 a b g S1 (fun r2 S2 => Q r r2 S2)) := by
  have h0 := h
  obtain ⟨T, τ, h⟩ := h
  have bad : ((∀ j, j < 12 → a ≠ nI j) ∨ (∀ j, j < 12 → b ≠ nI j) ∨ (∀ j, j < 31 → g ≠ nI j)) → w179 a b g S (fun r2 S2 => Q (-4611686018427387904) r2 S2) := by
    intro hb
    unfold w179 w179_b36
    refine w105_ok (fun j hj ea => ⟨fun c => absurd c (by decide), fun _ => w105_ok (fun i hi eb => ⟨fun c => absurd c (by decide), fun _ => w102_n (m := 30) (by decide) (by decide) (fun n hn eg => ?_) (fun _ => ⟨fun _ => hQ _ _ h0, fun c => absurd rfl c⟩)⟩) (fun _ => ⟨fun _ => hQ _ _ h0, fun c => absurd rfl c⟩)⟩) (fun _ => ⟨fun _ => hQ _ _ h0, fun c => absurd rfl c⟩)
    rcases hb with q | q | q
    · exact absurd ea (q j hj)
    · exact absurd eb (q i hi)
    · exact absurd eg (q n hn)
  unfold w58 w58_b28
  rcases wi_d a (n := 12) (by decide) with ⟨fr, hf, rfl, hw⟩ | ⟨hw, hne⟩
  · rcases wi_d b (n := 12) (by decide) with ⟨t, ht, rfl, hw2⟩ | ⟨hw2, hne2⟩
    · have hw : wi (nI fr) 12 = 1 := hw
      have hw2 : wi (nI t) 12 = 1 := hw2
      rw [hw, hw2]
      refine ⟨fun c => absurd c (by decide), fun _ => ⟨fun c => absurd c (by decide), fun _ => ⟨fun c => bad (Or.inr (Or.inr (fun n hn e => nI_pos (n := n) (by omega) (by rw [← e]; exact c)))), fun c => ⟨fun c2 => ?_, fun c2 => bad (Or.inr (Or.inr (fun n hn e => c2 (by rw [e]; exact nI_le (b := 30) (by omega) (by decide)))))⟩⟩⟩⟩
      obtain ⟨n, hn, rfl⟩ := nI_of2 (x := g) (M := 30) (n := 30) rfl c c2
      refine w80_ok (g := gm S) hf ht hn (R_ok h).2.1 (R_w h) (fun S1 a1 => ?_)
      have h1 := R_c h a1
      have g1 := c_gm a1
      show w179 (nI fr) (nI t) (nI n) S1 (fun r2 S2 => Q (lN (p_ws (gm S) fr n t)) r2 S2)
      unfold w179
      exact w105_ok (fun _ _ _ => ⟨fun c => absurd c (by decide), fun _ => w105_ok (fun _ _ _ => ⟨fun c => absurd c (by decide), fun _ => w102_n (m := 30) (by decide) (by decide) (fun _ _ _ => ⟨fun c => absurd c (by decide), fun _ => w178_ok (g := gm S) hf ht hn (R_ok h).2.1 g1 (fun S2 a2 => hQ _ _ (R_58 h1 a2))⟩) (fun hh => absurd rfl (hh n (by omega)))⟩) (fun hh => absurd rfl (hh t ht))⟩) (fun hh => absurd rfl (hh fr hf))
    · have hw : wi (nI fr) 12 = 1 := hw
      have hw2 : wi b 12 = 0 := hw2
      rw [hw, hw2]
      exact ⟨fun c => absurd c (by decide), fun _ => ⟨fun _ => bad (Or.inr (Or.inl hne2)), fun c => absurd rfl c⟩⟩
  · have hw : wi a 12 = 0 := hw
    rw [hw]
    exact ⟨fun _ => bad (Or.inl hne), fun c => absurd rfl c⟩
theorem f_likely (h : RR S) (hQ : ∀ r S', RR S' → Q r r S') : w59 a b g d S (fun r S1 => w181 a b g d S1 (fun r2 S2 => Q r r2 S2)) := by
  have h0 := h
  obtain ⟨T, τ, h⟩ := h
  have bad : ((∀ j, j < 12 → a ≠ nI j) ∨ (∀ j, j < 12 → b ≠ nI j) ∨ (∀ j, j < 31 → g ≠ nI j) ∨ (∀ j, j < 2 → d ≠ nI j)) → w181 a b g d S (fun r2 S2 => Q (-4611686018427387904) r2 S2) := by
    intro hb
    unfold w181 w181_b37
    refine w105_ok (fun j hj ea => ⟨fun c => absurd c (by decide), fun _ => w105_ok (fun i hi eb => ⟨fun c => absurd c (by decide), fun _ => w102_n (m := 30) (by decide) (by decide) (fun n hn eg => ⟨fun c => absurd c (by decide), fun _ => w102_n (m := 1) (by decide) (by decide) (fun w hw ed => ?_) (fun _ => ⟨fun c => absurd rfl c, fun _ => hQ _ _ h0⟩)⟩) (fun _ => ⟨fun _ => hQ _ _ h0, fun c => absurd rfl c⟩)⟩) (fun _ => ⟨fun _ => hQ _ _ h0, fun c => absurd rfl c⟩)⟩) (fun _ => ⟨fun _ => hQ _ _ h0, fun c => absurd rfl c⟩)
    rcases hb with q | q | q | q
    · exact absurd ea (q j hj)
    · exact absurd eb (q i hi)
    · exact absurd eg (q n hn)
    · exact absurd ed (q w hw)
  unfold w59 w59_b37
  rcases wi_d a (n := 12) (by decide) with ⟨fr, hf, rfl, hw⟩ | ⟨hw, hne⟩
  · rcases wi_d b (n := 12) (by decide) with ⟨t, ht, rfl, hw2⟩ | ⟨hw2, hne2⟩
    · have hw : wi (nI fr) 12 = 1 := hw
      have hw2 : wi (nI t) 12 = 1 := hw2
      rw [hw, hw2]
      refine ⟨fun c => absurd c (by decide), fun _ => ⟨fun c => absurd c (by decide), fun _ => ⟨fun c => bad (Or.inr (Or.inr (Or.inl (fun n hn e => nI_pos (n := n) (by omega) (by rw [← e]; exact c))))), fun c => ⟨fun c2 => bad (Or.inr (Or.inr (Or.inl (fun n hn e => ?_)))), fun c2 => ?_⟩⟩⟩⟩
      · rw [e] at c2
        have := (nI_ltI (a := 30) (by decide) (by omega)).mp c2
        omega
      · obtain ⟨n, hn, rfl⟩ := nI_of2 (x := g) (M := 30) (n := 30) rfl c (Int32.not_lt.mp c2)
        rcases wi_d d (n := 2) (by decide) with ⟨w, hw3, rfl, hw4⟩ | ⟨hw4, hne4⟩
        · have hw4 : wi (nI w) 2 = 1 := hw4
          rw [hw4]
          refine ⟨fun _ => w80_ok (g := gm S) hf ht hn (R_ok h).2.1 (R_w h) (fun S1 a1 => ?_), fun c => absurd (by decide) c⟩
          have hA : p_ws (gm S) fr n t < 2 ^ 31 := by
            have := ws_le (R_ok h).2.1 hf ht hn
            omega
          have hB : 2 ^ n < 2 ^ 31 := Nat.pow_lt_pow_right (by decide) (by omega)
          have hB1 : 1 ≤ 2 ^ n := Nat.one_le_two_pow
          rw [sh1L n (by omega)]
          refine low_c hA hB hB1 ?_
          have h1 := R_c h a1
          have g1 := c_gm a1
          show w181 (nI fr) (nI t) (nI n) (nI w) S1 (fun r2 S2 => Q (p_low (p_ws (gm S) fr n t) (2 ^ n) (nI w)) r2 S2)
          unfold w181
          rw [sh1L n (by omega)]
          exact w105_ok (fun _ _ _ => ⟨fun c => absurd c (by decide), fun _ => w105_ok (fun _ _ _ => ⟨fun c => absurd c (by decide), fun _ => w102_n (m := 30) (by decide) (by decide) (fun _ _ _ => ⟨fun c => absurd c (by decide), fun _ => w102_n (m := 1) (by decide) (by decide) (fun _ _ _ => ⟨fun _ => w178_ok (g := gm S) hf ht hn (R_ok h).2.1 g1 (fun S2 a2 => low_m hA hB hB1 (hQ _ _ (R_58 h1 a2))), fun c => absurd (by decide) c⟩) (fun hh => absurd rfl (hh w hw3))⟩) (fun hh => absurd rfl (hh n (by omega)))⟩) (fun hh => absurd rfl (hh t ht))⟩) (fun hh => absurd rfl (hh fr hf))
        · have hw4 : wi d 2 = 0 := hw4
          rw [hw4]
          exact ⟨fun c => absurd rfl c, fun _ => bad (Or.inr (Or.inr (Or.inr hne4)))⟩
    · have hw : wi (nI fr) 12 = 1 := hw
      have hw2 : wi b 12 = 0 := hw2
      rw [hw, hw2]
      exact ⟨fun c => absurd c (by decide), fun _ => ⟨fun _ => bad (Or.inr (Or.inl hne2)), fun c => absurd rfl c⟩⟩
  · have hw : wi a 12 = 0 := hw
    rw [hw]
    exact ⟨fun _ => bad (Or.inl hne), fun c => absurd rfl c⟩
end TURNS
/-! by lot -/
def p_bit (z : Int32) : Int32 := ((z).toUInt32 >>> (((9 : Int32)).toUInt32 &&& Int32.toUInt32 31)).toInt32 - ((z).toUInt32 >>> (((9 : Int32)).toUInt32 &&& Int32.toUInt32 31)).toInt32 / (2 : Int32) * (2 : Int32)
def p_dz (z : Int32) : Nat → Int32
  | 0 => z
  | k + 1 => p_dz z k * 1103515245 + 12345
def p_da (g : Nat → Nat → Int32) (z c : Int32) : Nat → Int32
  | 0 => c
  | k + 1 => it (g 1) 24 (2 * p_da g z c k + p_bit (p_dz z (k + 1)))
theorem i32_nI (x : Int32) : x = nI x.toBitVec.toNat := by
  apply Int32.toBitVec_inj.mp
  apply BitVec.eq_of_toNat_eq
  rw [pk_tn x.toBitVec.isLt]
theorem p_bit_01 (z : Int32) : ∃ i, i ≤ 1 ∧ p_bit z = nI i := by
  unfold p_bit
  have e := pk_ushr z (9 : Int32) 9 (by decide)
  have hlt : z.toBitVec.toNat < 2 ^ 32 := z.toBitVec.isLt
  have en := i32_nI (z.toUInt32 >>> (((9 : Int32)).toUInt32 &&& Int32.toUInt32 31)).toInt32
  rw [e] at en
  rw [en, rem2 _ (by omega)]
  exact ⟨_, by omega, rfl⟩
section DRAWN
variable {a b g : Int32} {S : ri_H} {T : Nat} {τ : Int32 → Int32 → List Int32}
theorem da_lt {g : Nat → Nat → Int32} (h1 : rg (g 1) 24 12) {z : Int32} {c : Nat} (hc : c < 12) : ∀ k, ∃ c', c' < 12 ∧ p_da g z (nI c) k = nI c'
  | 0 => ⟨c, hc, rfl⟩
  | k + 1 => by
    obtain ⟨c', hc', e⟩ := da_lt h1 (z := z) hc k
    obtain ⟨i, hi, ei⟩ := p_bit_01 (p_dz z (k + 1))
    obtain ⟨v, hv, ev⟩ := h1 (2 * c' + i) (by omega)
    refine ⟨v, hv, ?_⟩
    show it (g 1) 24 (2 * p_da g z (nI c) k + p_bit (p_dz z (k + 1))) = _
    rw [e, ei, x2_0, nI_add, it_nI _ (by omega) (by decide), ev]
theorem l19_ok {Q : Int32 → ri_H → Prop} {z c : Int32} {n : Nat} (hn : n ≤ 40) (hQ : Q (p_da (gw S 10) z c n) S) : ∀ d k, k + d = n → w89_l19 Q (d + 1) (nI n) (p_da (gw S 10) z c k) (p_dz z k) (nI k) S
  | 0, k, hk => by
    have hk' : k = n := hk
    subst hk'
    unfold w89_l19
    exact ⟨fun _ => hQ, fun c => absurd (nI_le (Nat.le_refl _) (by omega)) c⟩
  | d + 1, k, hk => by
    unfold w89_l19
    rw [nI_1]
    refine ⟨fun c => absurd c (nI_ge (by omega) (by omega)), fun _ e1 he => ?_⟩
    rw [he, gw_it S 10 1 24 rfl (by decide)]
    exact l19_ok hn hQ d (k + 1) (by omega)
theorem w89_ok {Q : Int32 → ri_H → Prop} {z one : Int32} {n : Nat} (hn : n ≤ 40) (hQ : Q (p_da (gw S 10) z (it (gw S 10 5) 5 one) n) S) : w89 z one (nI n) S Q := by
  unfold w89
  rw [gw_it S 10 5 5 rfl (by decide)]
  exact ⟨n + 1, l19_ok hn hQ n 0 (by omega)⟩
theorem l13_ok {Q : Int32 → ri_H → Prop} {z : Int32} {c n : Nat} (h1 : rg (gm S 1) 24 12) (hc : c < 12) (hn : n ≤ 40) (hQ : Q (p_da (gm S) z (nI c) n) S) : ∀ d k, k + d = n → w193_l13 Q (d + 1) (nI n) (p_dz z k) (p_da (gm S) z (nI c) k) (nI k) S
  | 0, k, hk => by
    have hk' : k = n := hk
    subst hk'
    unfold w193_l13
    exact ⟨fun _ => hQ, fun c => absurd (nI_le (Nat.le_refl _) (by omega)) c⟩
  | d + 1, k, hk => by
    unfold w193_l13
    rw [nI_1]
    have ih := l13_ok h1 hc hn hQ d (k + 1) (by omega)
    obtain ⟨c', hc', e⟩ := da_lt h1 (z := z) hc k
    obtain ⟨i, hi, ei⟩ := p_bit_01 (p_dz z (k + 1))
    have ex : (2 : Int32) * p_da (gm S) z (nI c) k + p_bit (p_dz z (k + 1)) = nI (2 * c' + i) := by rw [e, ei, x2_0, nI_add]
    have ed : p_da (gm S) z (nI c) (k + 1) = gm S 1 (2 * c' + i) := by
      show it (gm S 1) 24 (2 * p_da (gm S) z (nI c) k + p_bit (p_dz z (k + 1))) = _
      rw [ex, it_nI _ (by omega) (by decide)]
    refine ⟨fun c => absurd c (nI_ge (by omega) (by omega)), fun _ => ⟨?_, fun e3 he => ?_⟩⟩
    · show vp_in ((2 : Int32) * p_da (gm S) z (nI c) k + p_bit (p_dz z (k + 1))) 24
      rw [ex]
      exact vp_in_nI (by omega) (by decide)
    · have he : e3 = S.1 54 ((2 : Int32) * p_da (gm S) z (nI c) k + p_bit (p_dz z (k + 1))).toNatClampNeg := he
      rw [ex, nI_clamp (by omega), gm_1 (by omega), ← ed] at he
      rw [he]
      exact ih
theorem w193_ok {Q : Int32 → ri_H → Prop} {z : Int32} {p n : Nat} (hg : gok (gm S)) (hp : p < 5) (hn : n ≤ 40) (hQ : Q (p_da (gm S) z (it (gm S 5) 5 (nI p)) n) S) : w193 z (nI p) (nI n) S Q := by
  unfold w193
  obtain ⟨c, hc, e⟩ := hg.2.2.2.2.2.1 p hp
  rw [it_nI _ hp (by decide), e] at hQ
  refine w114_ok hp ⟨n + 1, ?_⟩
  rw [e]
  exact l13_ok hg.2.1 hc hn hQ n 0 (by omega)
theorem f_drawn {Q : Int32 → Int32 → ri_H → Prop} (h : RR S) (hQ : ∀ r S', RR S' → Q r r S') : w66 a b g S (fun r S1 => w194 a b g S1 (fun r2 S2 => Q r r2 S2)) := by
  have h0 := h
  obtain ⟨T, τ, h⟩ := h
  obtain ⟨L, hL, l1, l2, l3⟩ := R_L h
  have bad : ((∀ p, p < L → b ≠ nI p) ∨ (∀ n, n < 41 → g ≠ nI n)) → w194 a b g S (fun r2 S2 => Q (-2) r2 S2) := by
    intro hb
    unfold w194
    refine w104_ok hL l2 (fun p hp ep => ⟨fun c => absurd c (by decide), fun _ => w102_n (m := 40) (by decide) (by decide) (fun n hn en => ?_) (fun _ => ⟨fun _ => hQ _ _ h0, fun c => absurd rfl c⟩)⟩) (fun _ => ⟨fun _ => hQ _ _ h0, fun c => absurd rfl c⟩)
    rcases hb with q | q
    · exact absurd ep (q p hp)
    · exact absurd en (q n hn)
  unfold w66
  rw [l1]
  rcases wi_d b (n := L) (by omega) with ⟨p, hp, rfl, hw⟩ | ⟨hw, hne⟩
  · rw [hw]
    refine ⟨fun c => absurd c (by decide), fun _ => ⟨fun c => bad (Or.inr (fun n hn e => nI_pos (n := n) (by omega) (by rw [← e]; exact c))), fun c => ⟨fun c2 => ?_, fun c2 => bad (Or.inr (fun n hn e => c2 (by rw [e]; exact nI_le (b := 40) (by omega) (by decide))))⟩⟩⟩
    obtain ⟨n, hn, rfl⟩ := nI_of2 (x := g) (M := 40) (n := 40) rfl c c2
    refine w89_ok hn ?_
    show w194 a (nI p) (nI n) S (fun r2 S2 => Q (p_da (gw S 10) a (it (gw S 10 5) 5 (nI p)) n) r2 S2)
    unfold w194
    refine w104_ok hL l2 (fun _ _ _ => ⟨fun c => absurd c (by decide), fun _ => w102_n (m := 40) (by decide) (by decide) (fun _ _ _ => ⟨fun c => absurd c (by decide), fun _ => w193_ok (R_ok h) (by omega) hn ?_⟩) (fun hh => absurd rfl (hh n (by omega)))⟩) (fun hh => absurd rfl (hh p hp))
    rw [R_w h]
    exact hQ _ _ h0
  · rw [hw]
    exact ⟨fun _ => bad (Or.inl hne), fun c => absurd rfl c⟩
/-- of so many seeds so many hit -/
def p_ch (g : Nat → Nat → Int32) (z at1 to : Int32) : Nat → Nat
  | 0 => 0
  | k + 1 => p_ch g z at1 to k + (if p_da g (z + nI k) at1 8 = to then 1 else 0)
theorem p_ch_le (g : Nat → Nat → Int32) (z at1 to : Int32) : ∀ k, p_ch g z at1 to k ≤ k
  | 0 => Nat.le_refl _
  | k + 1 => by
    have := p_ch_le g z at1 to k
    unfold p_ch
    split <;> omega
theorem f_chance {d q : Int32} {Q : Int64 → Int64 → ri_H → Prop} (h : RR S) (hQ : ∀ r S', RR S' → Q r r S') : w67 a b g d q S (fun r S1 => w195 a b g d q S1 (fun r2 S2 => Q r r2 S2)) := by
  have h0 := h
  obtain ⟨T, τ, h⟩ := h
  obtain ⟨L, hL, l1, l2, l3⟩ := R_L h
  have bad : ((∀ n, 1 ≤ n → n ≤ 40 → b ≠ nI n) ∨ (∀ p, p < L → g ≠ nI p) ∨ (∀ j, j < 12 → d ≠ nI j) ∨ (∀ j, j < 2 → q ≠ nI j)) → w195 a b g d q S (fun r2 S2 => Q (-4611686018427387904) r2 S2) := by
    intro hb
    unfold w195 w195_b39
    refine w102_g (nI 1) (nI 40) (fun q1 q2 => ⟨fun c => absurd c (by decide), fun _ => w104_ok hL l2 (fun p hp ep => ⟨fun c => absurd c (by decide), fun _ => w105_ok (fun j hj ed => ⟨fun c => absurd c (by decide), fun _ => w102_n (m := 1) (by decide) (by decide) (fun w hw eq => ?_) (fun _ => ⟨fun c => absurd rfl c, fun _ => hQ _ _ h0⟩)⟩) (fun _ => ⟨fun _ => hQ _ _ h0, fun c => absurd rfl c⟩)⟩) (fun _ => ⟨fun _ => hQ _ _ h0, fun c => absurd rfl c⟩)⟩) (fun _ => ⟨fun _ => hQ _ _ h0, fun c => absurd rfl c⟩)
    obtain ⟨n, hn, en⟩ := nI_of2 (x := b) (M := nI 40) (n := 40) rfl (fun c => absurd (Int32.le_trans q1 (Int32.le_of_lt c)) (by decide)) q2
    have hn1 : 1 ≤ n := by
      rw [en] at q1
      exact (nI_leI (a := 1) (by decide) (by omega)).mp q1
    rcases hb with z | z | z | z
    · exact absurd en (z n hn1 hn)
    · exact absurd ep (z p hp)
    · exact absurd ed (z j hj)
    · exact absurd eq (z w hw)
  unfold w67 w67_b41
  rw [l1]
  refine ⟨fun c => bad (Or.inl (fun n hn1 hn e => ?_)), fun c => ⟨fun c2 => bad (Or.inl (fun n hn1 hn e => ?_)), fun c2 => ?_⟩⟩
  · rw [e] at c
    have := (nI_ltI (b := 1) (by omega) (by decide)).mp c
    omega
  · rw [e] at c2
    have := (nI_ltI (a := 40) (by decide) (by omega)).mp c2
    omega
  · obtain ⟨n, hn, rfl⟩ := nI_of2 (x := b) (M := 40) (n := 40) rfl (fun z => c (Int32.lt_trans z (by decide))) (Int32.not_lt.mp c2)
    have hn1 : 1 ≤ n := by
      rcases Nat.lt_or_ge n 1 with z | z
      · exact absurd (nI_lt (b := 1) z (by decide)) c
      · exact z
    rcases wi_d g (n := L) (by omega) with ⟨p, hp, rfl, hw⟩ | ⟨hw, hne⟩
    · rcases wi_d d (n := 12) (by decide) with ⟨t, ht, rfl, hw2⟩ | ⟨hw2, hne2⟩
      · have hw2 : wi (nI t) 12 = 1 := hw2
        rw [hw, hw2]
        refine ⟨fun c => absurd c (by decide), fun _ => ⟨fun c => absurd c (by decide), fun _ => ?_⟩⟩
        rcases wi_d q (n := 2) (by decide) with ⟨w, hw3, rfl, hw4⟩ | ⟨hw4, hne4⟩
        · have hw4 : wi (nI w) 2 = 1 := hw4
          rw [hw4]
          refine ⟨fun _ => ⟨n + 1, ?_⟩, fun c => absurd (by decide) c⟩
          have hA : p_ch (gm S) a (it (gm S 5) 5 (nI p)) (nI t) n < 2 ^ 31 := by
            have := p_ch_le (gm S) a (it (gm S 5) 5 (nI p)) (nI t) n
            omega
          have eB : (nI n).toInt64 = lN n := nI_l (by omega)
          have cl : ∀ (K : Int64 → ri_H → Prop), K (p_low (p_ch (gm S) a (it (gm S 5) 5 (nI p)) (nI t) n) n (nI w)) S → ∀ e k, k + e = n → w67_l51 K (e + 1) a (nI n) (nI p) (nI t) (nI w) (lN (p_ch (gm S) a (it (gm S 5) 5 (nI p)) (nI t) k)) (nI k) S := by
            intro K hK e
            induction e with
            | zero =>
              intro k hk
              have hk' : k = n := hk
              subst hk'
              unfold w67_l51
              rw [eB]
              exact ⟨fun _ => low_c hA (by omega) hn1 hK, fun c => absurd (nI_le (Nat.le_refl _) (by omega)) c⟩
            | succ e ih =>
              intro k hk
              unfold w67_l51 w67_b79
              refine ⟨fun c => absurd c (nI_ge (by omega) (by omega)), fun _ => w89_ok (n := 8) (by decide) ?_⟩
              rw [nI_1, R_w h]
              have ih := ih (k + 1) (by omega)
              unfold p_ch at ih
              refine ⟨fun c => ?_, fun c => ?_⟩
              · rw [if_neg c] at ih
                exact ih
              · rw [if_pos (Decidable.not_not.mp c)] at ih
                rw [lN_1]
                exact ih
          have ml : ∀ (K : Int64 → ri_H → Prop), K (p_low (p_ch (gm S) a (it (gm S 5) 5 (nI p)) (nI t) n) n (nI w)) S → ∀ e k, k + e = n → w195_l49 K (e + 1) a (nI n) (nI p) (nI t) (nI w) (lN (p_ch (gm S) a (it (gm S 5) 5 (nI p)) (nI t) k)) (nI k) S := by
            intro K hK e
            induction e with
            | zero =>
              intro k hk
              have hk' : k = n := hk
              subst hk'
              unfold w195_l49
              rw [eB]
              exact ⟨fun _ => low_m hA (by omega) hn1 hK, fun c => absurd (nI_le (Nat.le_refl _) (by omega)) c⟩
            | succ e ih =>
              intro k hk
              unfold w195_l49 w195_b78
              refine ⟨fun c => absurd c (nI_ge (by omega) (by omega)), fun _ => w193_ok (n := 8) (R_ok h) (by omega) (by decide) ?_⟩
              rw [nI_1]
              have ih := ih (k + 1) (by omega)
              unfold p_ch at ih
              refine ⟨fun c => ?_, fun c => ?_⟩
              · rw [if_neg c] at ih
                rw [show lN (p_ch (gm S) a (it (gm S 5) 5 (nI p)) (nI t) k) + 0 = lN (p_ch (gm S) a (it (gm S 5) 5 (nI p)) (nI t) k + 0) from lN_add _ 0]
                exact ih
              · rw [if_pos (Decidable.not_not.mp c)] at ih
                rw [lN_1]
                exact ih
          refine cl _ ?_ n 0 (by omega)
          show w195 a (nI n) (nI p) (nI t) (nI w) S (fun r2 S2 => Q (p_low (p_ch (gm S) a (it (gm S 5) 5 (nI p)) (nI t) n) n (nI w)) r2 S2)
          unfold w195
          exact w102_g (nI 1) (nI 40) (fun _ _ => ⟨fun c => absurd c (by decide), fun _ => w104_ok hL l2 (fun _ _ _ => ⟨fun c => absurd c (by decide), fun _ => w105_ok (fun _ _ _ => ⟨fun c => absurd c (by decide), fun _ => w102_n (m := 1) (by decide) (by decide) (fun _ _ _ => ⟨fun _ => ⟨n + 1, ml _ (hQ _ _ h0) n 0 (by omega)⟩, fun c => absurd (by decide) c⟩) (fun hh => absurd rfl (hh w hw3))⟩) (fun hh => absurd rfl (hh t ht))⟩) (fun hh => absurd rfl (hh p hp))⟩) (fun hh => absurd ⟨nI_le hn1 (by omega), nI_le hn (by decide)⟩ hh)
        · have hw4 : wi q 2 = 0 := hw4
          rw [hw4]
          exact ⟨fun c => absurd rfl c, fun _ => bad (Or.inr (Or.inr (Or.inr hne4)))⟩
      · have hw2 : wi d 12 = 0 := hw2
        rw [hw, hw2]
        exact ⟨fun c => absurd c (by decide), fun _ => ⟨fun _ => bad (Or.inr (Or.inr (Or.inl hne2))), fun c => absurd rfl c⟩⟩
    · rw [hw]
      exact ⟨fun _ => bad (Or.inr (Or.inl hne)), fun c => absurd rfl c⟩
end DRAWN
