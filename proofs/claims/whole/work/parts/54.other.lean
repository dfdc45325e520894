/-! otherwise, meet -/
def p_t (one : Int32) (kk i : Nat) : Int32 := if i = kk then one else -1
def yro (τ : Int32 → Int32 → List Int32) (g : Nat → Nat → Int32) (one : Int32) (kk : Nat) : Nat → Nat → Nat → Int32
  | 0 => g
  | i + 1 => p_yr τ (p_t one kk i) (yro τ g one kk i)
theorem yro_o (τ : Int32 → Int32 → List Int32) (g : Nat → Nat → Int32) (one : Int32) (kk : Nat) {j : Nat} (h : j ≠ 10) : ∀ k, yro τ g one kk k 0 j = g 0 j
  | 0 => rfl
  | k + 1 => (yr_o τ _ (yro τ g one kk k) h).trans (yro_o τ g one kk h k)
theorem gok_yro {τ : Int32 → Int32 → List Int32} {g : Nat → Nat → Int32} {one : Int32} {kk : Nat} (hg : gok g) : ∀ k, gok (yro τ g one kk k)
  | 0 => hg
  | k + 1 => gok_yr (gok_yro hg k)
section OTHER
variable {a b g : Int32} {S S0 : ri_H} {T : Nat} {τ : Int32 → Int32 → List Int32}
theorem l47_ok {Q : Int32 → ri_H → Prop} {g0 : Nat → Nat → Int32} {n kk : Nat} {one : Int32} (hn : n ≤ 40) (hkk : kk < n) (h : rT T τ S0) (hg : gwd T g0) (hQ : ∀ S', ag CX S0 S' → Q (it (yro τ g0 one kk n 5) 5 one) S') : ∀ d k S, k + d = n → ag CX S0 S → gw S 19 = yro τ g0 one kk k → w57_l47 Q (d + 1) one (nI n) (nI kk) (nI k) S
  | 0, k, S, hk, a, e => by
    have hk' : k = n := hk
    subst hk'
    unfold w57_l47
    rw [gw_it S 19 5 5 rfl (by decide), e]
    exact ⟨fun _ => hQ S a, fun c => absurd (nI_le (Nat.le_refl _) (by omega)) c⟩
  | d + 1, k, S, hk, a, e => by
    unfold w57_l47 w57_b68
    rw [nI_1]
    have step : w39 19 (p_t one kk k) S (fun S2 => w57_l47 Q (d + 1) one (nI n) (nI kk) (nI (k + 1)) S2) := by
      obtain ⟨⟨⟨L, hL, eL⟩, _⟩, _, r, hr, er⟩ := id hg
      have e9 : gw S 19 0 9 = nI L := by rw [e, yro_o _ _ _ _ (by decide)]; exact eL
      have e11 : gw S 19 0 11 = nI r := by rw [e, yro_o _ _ _ _ (by decide)]; exact er
      refine w39_ok (Or.inr rfl) e9 (by omega) (by rw [e11]; exact tc_ag2 h a hr) (fun S' a' e' => ?_)
      exact l47_ok hn hkk h hg hQ d (k + 1) S' (by omega) (ag_tr a (ag_mo a' (by decide))) (by rw [e', e]; rfl)
    unfold p_t at step
    refine ⟨fun c => absurd c (nI_ge (by omega) (by omega)), fun _ => ⟨fun c => ?_, fun c => ?_⟩⟩
    · rw [if_neg (fun q => c (by rw [q]))] at step
      exact step
    · rw [if_pos (nI_inj (by omega) (by omega) (Decidable.not_not.mp c))] at step
      exact step
theorem xor_1 {x : Int32} (h : b01 x) : x ^^^ 1 = 1 - x := by
  rcases h with rfl | rfl <;> rfl
theorem xor_0 {x : Int32} (h : b01 x) : x ^^^ 0 = x := by
  rcases h with rfl | rfl <;> rfl
/-- a year of the model, in which one may be turned -/
theorem l52_ok {Q : Int32 → ri_H → Prop} {K : Int32 → Int32 → Int32 → Int32 → ri_H → Prop} {g0 : Nat → Nat → Int32} {n kk i p L : Nat} (hp : p < 5) (hL : L ≤ 5) (hi : i < 2 ^ 31) (hkk : kk < 2 ^ 31) (hm : mt S0 τ (gm S0 0 11)) (hg : gok g0) (h9 : g0 0 9 = nI L) (h11 : g0 0 11 = gm S0 0 11) (hK : ∀ S', am MY (7 :: F1) S0 S' → asd S0 S' → gm S' = p_yr τ (p_t (nI p) kk i) g0 → K (nI p) (nI n) (nI kk) (nI (i + 1)) S') : ∀ d k S, k + d = L → am MY (7 :: F1) S0 S → asd S0 S → gm S = p_yl τ (p_t (nI p) kk i) g0 k → w177_l52 K Q (d + 1) (nI p) (nI n) (nI kk) (nI i) (nI k) S := by
  intro d
  induction d with
  | zero =>
    intro k S hk a s e
    have hk' : k = L := hk
    subst hk'
    unfold w177_l52
    have e11 : S.1 50 11 = nI k := by rw [gm_9, e, p_yl_0, h9]
    rw [e11, nI_1]
    refine ⟨fun _ => hK _ (am_f a (by decide)) ?_ ?_, fun c => absurd (nI_le (Nat.le_refl _) (by omega)) c⟩
    · obtain ⟨s1, s2, s3⟩ := s
      unfold asd
      rw [ri_wi_o _ _ _ (by decide)]
      exact ⟨s1, s2, s3⟩
    · rw [gm_ny, gm_10, e]
      unfold p_yr p_ny
      rw [h9, nI_clamp (by omega)]
  | succ d ih =>
    intro k S hk a s e
    unfold w177_l52 w177_b80 w177_b81
    have e11 : S.1 50 11 = nI L := by rw [gm_9, e, p_yl_0, h9]
    rw [e11, nI_1 k]
    have hk5 : k < 5 := by omega
    have hge : ¬ nI L ≤ nI k := nI_ge (by omega) (by omega)
    have nm1 : ¬ nI k = -1 := fun q => nI_pos (n := k) (by omega) (by rw [q]; decide)
    have gk : gok (p_yl τ (p_t (nI p) kk i) g0 k) := gok_yl hg k (by omega)
    have go : ∀ bb : Int32, b01 bb → (p_tk τ (p_yl τ (p_t (nI p) kk i) g0 k) (nI k) ^^^ bb = p_rt τ (p_yl τ (p_t (nI p) kk i) g0 k) (p_t (nI p) kk i) (nI k)) → w170 (nI k) bb S (fun S11 => w177_l52 K Q (d + 1) (nI p) (nI n) (nI kk) (nI i) (nI (k + 1)) S11) := by
      intro bb hb eb
      refine w170_ok (τ := τ) hk5 (by rw [e]; exact gk.2.2.1) (by rw [e]; exact gk.2.2.2.2.1) (by rw [e]; exact gk.2.2.2.2.2.1) hb (by rw [e, p_yl_0, h11]; exact mt_am hm a (by decide) (by decide)) (fun S' a' e' => ?_)
      refine ih (k + 1) S' (by omega) (am_tr a (am_mo a' (by decide) (by decide))) ?_ ?_
      · obtain ⟨s1, s2, s3⟩ := s
        unfold asd
        rw [(a'.1 57 (by decide) (by decide)).1]
        exact ⟨s1, s2, s3⟩
      · rw [e', e, eb]
        show _ = p_y1 τ (p_yl τ (p_t (nI p) kk i) g0 k) (nI k) (p_rt τ (p_yl τ (p_t (nI p) kk i) g0 k) (p_t (nI p) kk i) (nI k))
        rfl
    have tk := p_tk_01 (τ := τ) hk5 gk.2.2.2.2.1
    have no : p_rt τ (p_yl τ (p_t (nI p) kk i) g0 k) (p_t (nI p) kk i) (nI k) = (if nI k = p_t (nI p) kk i then 1 - p_tk τ (p_yl τ (p_t (nI p) kk i) g0 k) (nI k) else p_tk τ (p_yl τ (p_t (nI p) kk i) g0 k) (nI k)) := rfl
    refine ⟨fun c => absurd c hge, fun _ => ⟨fun c => go 0 (Or.inl rfl) ?_, fun c => ⟨fun c2 => go 0 (Or.inl rfl) ?_, fun c2 => go 1 (Or.inr rfl) ?_⟩⟩⟩
    · rw [xor_0 tk, no, if_neg]
      unfold p_t
      split
      · exact c
      · exact nm1
    · rw [xor_0 tk, no, if_neg]
      unfold p_t
      rw [if_neg (fun q => c2 (by rw [q]))]
      exact nm1
    · rw [xor_1 tk, no, if_pos]
      unfold p_t
      rw [if_pos (nI_inj hi hkk (Decidable.not_not.mp c2))]
      exact Decidable.not_not.mp c
theorem l43_ok {Q : Int32 → ri_H → Prop} {n kk p L : Nat} (hn : n ≤ 40) (hkk : kk < n) (hp : p < 5) (hL : L ≤ 5) (h9 : gm S0 0 9 = nI L) (hm : mt S0 τ (gm S0 0 11)) (hg : gok (gm S0)) (hQ : ∀ S', am MX MF S0 S' → gm S' = gm S0 → Q (it (yro τ (gm S0) (nI p) kk n 5) 5 (nI p)) S') : ∀ d k S, k + d = n → am MY (7 :: F1) S0 S → asd S0 S → gm S = yro τ (gm S0) (nI p) kk k → w177_l43 Q (d + 1) (nI p) (nI n) (nI kk) (nI k) S
  | 0, k, S, hk, a, s, e => by
    have hk' : k = n := hk
    subst hk'
    unfold w177_l43
    refine ⟨fun _ => w114_ok hp (w175_m a s (fun S' _ a' e' => ?_)), fun c => absurd (nI_le (Nat.le_refl _) (by omega)) c⟩
    rw [e, ← it_nI (yro τ (gm S0) (nI p) kk k 5) hp (by decide)]
    exact hQ S' a' e'
  | d + 1, k, S, hk, a, s, e => by
    unfold w177_l43
    refine ⟨fun c => absurd c (nI_ge (by omega) (by omega)), fun _ => ⟨L + 1, ?_⟩⟩
    refine l52_ok (g0 := yro τ (gm S0) (nI p) kk k) (i := k) hp hL (by omega) (by omega) hm (gok_yro hg k) (by rw [yro_o _ _ _ _ (by decide)]; exact h9) (yro_o _ _ _ _ (by decide) _) (fun S' a' s' e' => ?_) L 0 S (by omega) a s e
    exact l43_ok hn hkk hp hL h9 hm hg hQ d (k + 1) S' (by omega) a' s' e'
theorem f_otherwise {Q : Int32 → Int32 → ri_H → Prop} (h : RR S) (hQ : ∀ r S', RR S' → Q r r S') : w57 a b g S (fun r S1 => w177 a b g S1 (fun r2 S2 => Q r r2 S2)) := by
  have h0 := h
  obtain ⟨T, τ, h⟩ := h
  obtain ⟨L, hL, l1, l2, l3⟩ := R_L h
  -- the model, where something isn't as told
  have bad : ((∀ p, p < L → a ≠ nI p) ∨ (∀ n, 1 ≤ n → n ≤ 40 → b ≠ nI n) ∨ (∀ n kk, 1 ≤ n → n ≤ 40 → b = nI n → kk < n → g ≠ nI kk)) → w177 a b g S (fun r2 S2 => Q (-2) r2 S2) := by
    intro hbad
    unfold w177
    refine w104_ok hL l2 (fun p hp ep => ⟨fun c => absurd c (by decide), fun _ => w102_g (nI 1) (nI 40) (fun q1 q2 => ⟨fun c => absurd c (by decide), fun _ => ?_⟩) (fun _ => ⟨fun _ => hQ _ _ h0, fun c => absurd rfl c⟩)⟩) (fun _ => ⟨fun _ => hQ _ _ h0, fun c => absurd rfl c⟩)
    obtain ⟨n, hn, en⟩ := nI_of2 (x := b) (M := nI 40) (n := 40) rfl (fun c => absurd (Int32.le_trans q1 (Int32.le_of_lt c)) (by decide)) q2
    have hn1 : 1 ≤ n := by
      rw [en] at q1
      exact (nI_leI (a := 1) (by decide) (by omega)).mp q1
    rw [en, show nI n - 1 = nI (n - 1) from pk_sub (b := 1) hn1]
    refine w102_n (m := n - 1) (by omega) rfl (fun kk hkk ek => ?_) (fun _ => ⟨fun c => absurd rfl c, fun _ => hQ _ _ h0⟩)
    rcases hbad with q | q | q
    · exact absurd ep (q p hp)
    · exact absurd en (q n hn1 hn)
    · exact absurd ek (q n kk hn1 hn en (by omega))
  unfold w57
  rw [l1]
  rcases wi_d a (n := L) (by omega) with ⟨p, hp, rfl, hw⟩ | ⟨hw, hne⟩
  · rw [hw]
    refine ⟨fun c => absurd c (by decide), fun _ => ⟨fun c => bad (Or.inr (Or.inl (fun n hn1 hn e => ?_))), fun c => ⟨fun c2 => bad (Or.inr (Or.inl (fun n hn1 hn e => ?_))), fun c2 => ?_⟩⟩⟩
    · rw [e] at c
      have := (nI_ltI (b := 1) (by omega) (by decide)).mp c
      omega
    · rw [e] at c2
      have := (nI_ltI (a := 40) (by decide) (by omega)).mp c2
      omega
    · obtain ⟨n, hn, rfl⟩ := nI_of2 (x := b) (M := 40) (n := 40) rfl (fun q => c (Int32.lt_trans q (by decide))) (Int32.not_lt.mp c2)
      have hn1 : 1 ≤ n := by
        rcases Nat.lt_or_ge n 1 with q | q
        · exact absurd (nI_lt (b := 1) q (by decide)) c
        · exact q
      rcases wi_d g (n := n) (by omega) with ⟨kk, hkk, rfl, hw2⟩ | ⟨hw2, hne2⟩
      · rw [hw2]
        refine ⟨fun _ => w33_t (fun S1 a1 e1 => ⟨n + 1, ?_⟩), fun c => absurd (by decide) c⟩
        refine l47_ok hn hkk h.2.1 (g0 := gw S 10) (by rw [R_w h]; exact h.1.2) (fun S2 a2 => ?_) n 0 S1 (by omega) a1 e1
        have h2 := R_c h a2
        have g2 := c_gm a2
        have l2' : S2.1 50 11 = nI L := by rw [gm_9, g2]; exact l3
        show w177 (nI p) (nI n) (nI kk) S2 (fun r2 S3 => Q (it (yro τ (gw S 10) (nI p) kk n 5) 5 (nI p)) r2 S3)
        unfold w177
        refine w104_ok hL l2' (fun _ _ _ => ⟨fun c => absurd c (by decide), fun _ => w102_g (nI 1) (nI 40) (fun _ _ => ⟨fun c => absurd c (by decide), fun _ => ?_⟩) (fun hh => absurd ⟨nI_le hn1 (by omega), nI_le hn (by decide)⟩ hh)⟩) (fun hh => absurd rfl (hh p hp))
        rw [show nI n - 1 = nI (n - 1) from pk_sub (b := 1) hn1]
        refine w102_n (m := n - 1) (by omega) rfl (fun _ _ _ => ⟨fun _ => w174_m (τ := τ) (fun S3 m3 => ⟨n + 1, ?_⟩), fun c => absurd (by decide) c⟩) (fun hh => absurd rfl (hh kk (by omega)))
        refine l43_ok hn hkk (by omega) hL (by rw [g2]; exact l3) (R_mt h2) (R_ok h2) (fun S4 a4 e4 => ?_) n 0 S3 (by omega) m3.1 m3.2.1 m3.2.2
        rw [g2, ← R_w h]
        exact hQ _ _ ⟨T, τ, R_q h2 (ag_refl _ _) a4 e4⟩
      · rw [hw2]
        refine ⟨fun c => absurd rfl c, fun _ => bad (Or.inr (Or.inr (fun n' kk hn1' hn' e hkk ek => ?_)))⟩
        have := nI_inj (by omega) (by omega) e
        subst this
        exact hne2 kk hkk ek
  · rw [hw]
    exact ⟨fun _ => bad (Or.inl hne), fun c => absurd rfl c⟩
/-! meet -/
def p_meet (τ : Int32 → Int32 → List Int32) (g : Nat → Nat → Int32) (x y : Int32) : Nat → Nat → Int32
  | 0, _ => -1
  | f + 1, k => if it (yrs τ g k 5) 5 x = it (yrs τ g k 5) 5 y then nI k else p_meet τ g x y f (k + 1)
theorem l43c_ok {Q : Int32 → ri_H → Prop} {g0 : Nat → Nat → Int32} {x y : Int32} (h : rT T τ S0) (hg : gwd T g0) : ∀ d k S, k + d = 61 → tw τ g0 S0 S k → (∀ S', ag CX S0 S' → Q (p_meet τ g0 x y d k) S') → w61_l43 Q (d + 1) x y (nI k) S
  | 0, k, S, hk, ht, hQ => by
    have hk' : k = 61 := hk
    subst hk'
    unfold w61_l43
    exact ⟨fun _ => hQ S ht.1, fun c => absurd (show (60 : Int32) < nI 61 by decide) c⟩
  | d + 1, k, S, hk, ht, hQ => by
    unfold w61_l43
    rw [gw_it S 19 5 5 rfl (by decide), gw_it S 19 5 5 rfl (by decide), ht.2, nI_1]
    unfold p_meet at hQ
    refine ⟨fun c => absurd c (nI_nlt (b := k) (a := 60) (by omega) (by decide) |> fun _ q => by
      have := (nI_ltI (a := 60) (b := k) (by decide) (by omega)).mp q
      omega), fun _ => ⟨fun c => w39_t h hg ht (fun S' ht' => l43c_ok h hg d (k + 1) S' (by omega) ht' (fun S2 a2 => ?_)), fun c => ?_⟩⟩
    · have := hQ S2 a2
      rw [if_neg c] at this
      exact this
    · have := hQ S ht.1
      rw [if_pos (Decidable.not_not.mp c)] at this
      exact this
theorem l30_ok {Q : Int32 → ri_H → Prop} {p q : Nat} (hp : p < 5) (hq : q < 5) (hm : mt S0 τ (gm S0 0 11)) (hg : gok (gm S0)) : ∀ d k S, k + d = 61 → mw τ S0 S k → (∀ S', am MX MF S0 S' → gm S' = gm S0 → Q (p_meet τ (gm S0) (nI p) (nI q) d k) S') → w183_l30 Q (d + 1) (nI p) (nI q) (nI k) S
  | 0, k, S, hk, ht, hQ => by
    have hk' : k = 61 := hk
    subst hk'
    unfold w183_l30 w183_b59
    refine ⟨fun _ => w175_m ht.1 ht.2.1 (fun S' _ a e => ⟨fun c => absurd c (by decide), fun _ => hQ S' a e⟩), fun c => absurd (show (60 : Int32) < nI 61 by decide) c⟩
  | d + 1, k, S, hk, ht, hQ => by
    unfold w183_l30 w183_b59
    rw [nI_1]
    unfold p_meet at hQ
    have n60 : ¬ 60 < nI k := fun c => by
      have := (nI_ltI (a := 60) (b := k) (by decide) (by omega)).mp c
      omega
    refine ⟨fun c => absurd c n60, fun _ => w114_m hp ht (w114_m hq ht ⟨fun c => w175_m ht.1 ht.2.1 (fun S' _ a e => ⟨fun _ => ?_, fun c2 => absurd (Int32.not_lt.mp n60) c2⟩), fun c => w171_m hm hg ht (fun S' ht' => l30_ok hp hq hm hg d (k + 1) S' (by omega) ht' (fun S2 a2 e2 => ?_))⟩)⟩
    · have := hQ S' a e
      rw [if_pos c] at this
      exact this
    · have := hQ S2 a2 e2
      rw [if_neg c] at this
      exact this
theorem f_meet {Q : Int32 → Int32 → ri_H → Prop} (h : RR S) (hQ : ∀ r S', RR S' → Q r r S') : w61 a b S (fun r S1 => w183 a b S1 (fun r2 S2 => Q r r2 S2)) := by
  have h0 := h
  obtain ⟨T, τ, h⟩ := h
  obtain ⟨L, hL, l1, l2, l3⟩ := R_L h
  unfold w61
  rw [l1]
  rcases wi_d a (n := L) (by omega) with ⟨p, hp, rfl, hw⟩ | ⟨hw, hne⟩
  · rcases wi_d b (n := L) (by omega) with ⟨q, hq, rfl, hw2⟩ | ⟨hw2, hne2⟩
    · rw [hw, hw2]
      refine ⟨fun c => absurd c (by decide), fun _ => ⟨fun c => absurd c (by decide), fun _ => ⟨fun c => w33_t (fun S1 a1 e1 => ⟨62, ?_⟩), fun c => ?_⟩⟩⟩
      · refine l43c_ok (g0 := gw S 10) h.2.1 (by rw [R_w h]; exact h.1.2) 61 0 S1 rfl ⟨a1, e1⟩ (fun S2 a2 => ?_)
        have h2 := R_c h a2
        have g2 := c_gm a2
        have l2' : S2.1 50 11 = nI L := by rw [gm_9, g2]; exact l3
        show w183 (nI p) (nI q) S2 (fun r2 S3 => Q (p_meet τ (gw S 10) (nI p) (nI q) 61 0) r2 S3)
        unfold w183
        refine w104_ok hL l2' (fun _ _ _ => ⟨fun c => absurd c (by decide), fun _ => w104_ok hL l2' (fun _ _ _ => ⟨fun c => absurd c (by decide), fun _ => ⟨fun _ => w174_m (τ := τ) (fun S3 m3 => ⟨62, ?_⟩), fun c2 => absurd c c2⟩⟩) (fun hh => absurd rfl (hh q hq))⟩) (fun hh => absurd rfl (hh p hp))
        refine l30_ok (by omega) (by omega) (R_mt h2) (R_ok h2) 61 0 S3 rfl m3 (fun S4 a4 e4 => ?_)
        rw [g2, ← R_w h]
        exact hQ _ _ ⟨T, τ, R_q h2 (ag_refl _ _) a4 e4⟩
      · exact w104_ok hL l2 (fun _ _ _ => ⟨fun c => absurd c (by decide), fun _ => w104_ok hL l2 (fun _ _ _ => ⟨fun c => absurd c (by decide), fun _ => ⟨fun c2 => absurd c2 c, fun _ => hQ _ _ h0⟩⟩) (fun hh => absurd rfl (hh q hq))⟩) (fun hh => absurd rfl (hh p hp))
    · rw [hw, hw2]
      refine ⟨fun c => absurd c (by decide), fun _ => ⟨fun _ => ?_, fun c => absurd rfl c⟩⟩
      exact w104_ok hL l2 (fun _ _ _ => ⟨fun c => absurd c (by decide), fun _ => w104_ok hL l2 (fun j hj e => absurd e (hne2 j hj)) (fun _ => ⟨fun _ => hQ _ _ h0, fun c => absurd rfl c⟩)⟩) (fun hh => absurd rfl (hh p hp))
  · rw [hw]
    refine ⟨fun _ => ?_, fun c => absurd rfl c⟩
    exact w104_ok hL l2 (fun j hj e => absurd e (hne j hj)) (fun _ => ⟨fun _ => hQ _ _ h0, fun c => absurd rfl c⟩)
end OTHER
