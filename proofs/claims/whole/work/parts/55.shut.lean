/-! shut -/
def p_jb (τ : Int32 → Int32 → List Int32) (g : Nat → Nat → Int32) (n : Nat) : Int32 := p_all (yrs τ g n)
def p_sh (τ : Int32 → Int32 → List Int32) (g : Nat → Nat → Int32) (n : Nat) : Nat → Int32 × Int32
  | 0 => (-1, p_jb τ g n)
  | c + 1 => if p_jb τ (p_clo g (nI c)) n ≤ (p_sh τ g n c).2 then p_sh τ g n c else (nI c, p_jb τ (p_clo g (nI c)) n)
theorem gwd_clo {T : Nat} {g : Nat → Nat → Int32} (h : gwd T g) {c : Nat} (hc : c < 12) : gwd T (p_clo g (nI c)) := by
  obtain ⟨⟨k0, k1, k2, k3, k4, k5, k6, k7⟩, hy, hr⟩ := h
  refine ⟨⟨k0, fun j hj => ?_, k2, k3, k4, k5, k6, k7⟩, hy, hr⟩
  show ∃ v, v < 12 ∧ (if j < 24 ∧ g 1 j = nI c then nI c + 1 - (nI c + 1) / 12 * 12 else g 1 j) = nI v
  by_cases q : j < 24 ∧ g 1 j = nI c
  · rw [if_pos q, nI_1, show nI (c + 1) - nI (c + 1) / 12 * 12 = nI ((c + 1) % 12) from pk_rem (d := 12) (by omega) (by decide) (by decide)]
    exact ⟨(c + 1) % 12, Nat.mod_lt _ (by decide), rfl⟩
  · rw [if_neg q]
    exact k1 j hj
section SHUT
variable {a b : Int32} {S S0 : ri_H} {T : Nat} {τ : Int32 → Int32 → List Int32}
theorem l26_ok {Q : Int32 → ri_H → Prop} {g0 : Nat → Nat → Int32} {n : Nat} (hn : n ≤ 40) (h : rT T τ S0) (hg : gwd T g0) (hQ : ∀ S', ag CX S0 S' → Q (p_jb τ g0 n) S') : ∀ d k S, k + d = n → tw τ g0 S0 S k → w86_l26 Q (d + 1) (nI n) (nI k) S
  | 0, k, S, hk, ht => by
    have hk' : k = n := hk
    subst hk'
    unfold w86_l26
    refine ⟨fun _ => w37_ok ?_, fun c => absurd (nI_le (Nat.le_refl _) (by omega)) c⟩
    rw [ht.2]
    exact hQ S ht.1
  | d + 1, k, S, hk, ht => by
    unfold w86_l26
    rw [nI_1]
    exact ⟨fun c => absurd c (nI_ge (by omega) (by omega)), fun _ => w39_t h hg ht (fun S' ht' => l26_ok hn h hg hQ d (k + 1) S' (by omega) ht')⟩
theorem w86_n {Q : Int32 → ri_H → Prop} {n : Nat} (hn : n ≤ 40) (h : R T τ S0) (a : ag CX S0 S) (hQ : ∀ S', ag CX S0 S' → Q (p_jb τ (gm S0) n) S') : w86 (nI n) (-1) S Q := by
  have h1 := R_c h a
  refine w33_t (fun S1 a1 e1 => ⟨fun _ => ⟨n + 1, ?_⟩, fun c => absurd rfl c⟩)
  have e : gm S = gm S0 := c_gm a
  exact l26_ok (S0 := S) (g0 := gm S0) hn h1.2.1 h.1.2 (fun S' a' => hQ S' (ag_tr a a')) n 0 S1 (by omega) ⟨a1, by rw [e1, R_w h1, e]; rfl⟩
theorem w86_c {Q : Int32 → ri_H → Prop} {n c : Nat} (hn : n ≤ 40) (hc : c < 12) (h : R T τ S0) (a : ag CX S0 S) (hQ : ∀ S', ag CX S0 S' → Q (p_jb τ (p_clo (gm S0) (nI c)) n) S') : w86 (nI n) (nI c) S Q := by
  have h1 := R_c h a
  have nm1 : ¬ nI c = -1 := fun q => nI_pos (n := c) (by omega) (by rw [q]; decide)
  refine w33_t (fun S1 a1 e1 => ⟨fun q => absurd q nm1, fun _ => w38_ok (fun S2 a2 e2 => ⟨n + 1, ?_⟩)⟩)
  have e : gm S = gm S0 := c_gm a
  have a12 : ag CX S S2 := ag_tr a1 (ag_mo a2 (by decide))
  exact l26_ok (S0 := S) (g0 := p_clo (gm S0) (nI c)) hn h1.2.1 (gwd_clo h.1.2 hc) (fun S' a' => hQ S' (ag_tr a a')) n 0 S2 (by omega) ⟨a12, by rw [e2, e1, R_w h1, e]; rfl⟩
theorem l34_ok {Q : Int32 → ri_H → Prop} {n : Nat} (hn : n ≤ 40) (h : R T τ S0) (hQ : ∀ S', ag CX S0 S' → Q (if b = 0 then (p_sh τ (gm S0) n 12).1 else (p_sh τ (gm S0) n 12).2) S') : ∀ d k S, k + d = 12 → ag CX S0 S → w62_l34 Q (d + 1) (nI n) b (p_sh τ (gm S0) n k).1 (p_sh τ (gm S0) n k).2 (nI k) S
  | 0, k, S, hk, a => by
    have hk' : k = 12 := hk
    subst hk'
    unfold w62_l34
    refine ⟨fun _ => ⟨fun c => ?_, fun c => ?_⟩, fun c => absurd (show (12 : Int32) ≤ nI 12 by decide) c⟩
    · have := hQ S a
      rw [if_neg c] at this
      exact this
    · have := hQ S a
      rw [if_pos (Decidable.not_not.mp c)] at this
      exact this
  | d + 1, k, S, hk, a => by
    unfold w62_l34 w62_b64
    rw [nI_1]
    refine ⟨fun c => absurd c (nI_ge (b := 12) (by omega) (by decide)), fun _ => w86_c hn (by omega) h a (fun S' a' => ?_)⟩
    have ih := l34_ok hn h hQ d (k + 1) S' (by omega) a'
    unfold p_sh at ih
    refine ⟨fun c => ?_, fun c => ?_⟩
    · rw [if_pos c] at ih
      exact ih
    · rw [if_neg c] at ih
      exact ih
/-! the model -/
theorem w184_ok {Q : Int32 → ri_H → Prop} {n : Nat} (hn : n ≤ 40) (hm : mt S0 τ (gm S0 0 11)) (hg : gok (gm S0)) (hQ : ∀ S', am MX MF S0 S' → (∀ c, c = 54 ∨ c = 62 → S'.1 c = S0.1 c) → gm S' = gm S0 → Q (p_jb τ (gm S0) n) S') : w184 (nI n) S0 Q := by
  refine w174_m (τ := τ) (fun S1 m1 => ⟨n + 1, ?_⟩)
  have loop : ∀ d k S, k + d = n → mw τ S0 S k → w184_l6 Q (d + 1) (nI n) (nI k) S := by
    intro d
    induction d with
    | zero =>
      intro k S hk ht
      have hk' : k = n := hk
      subst hk'
      unfold w184_l6
      refine ⟨fun _ => w169_ok (w175_m ht.1 ht.2.1 (fun S' a2 a e => ?_)), fun c => absurd (nI_le (Nat.le_refl _) (by omega)) c⟩
      rw [ht.2.2]
      refine hQ S' a (fun c hc => ?_) e
      rcases hc with rfl | rfl
      · rw [(a2.1 54 (by decide) (by decide)).1, (ht.1.1 54 (by decide) (by decide)).1]
      · rw [(a2.1 62 (by decide) (by decide)).1, (ht.1.1 62 (by decide) (by decide)).1]
    | succ d ih =>
      intro k S hk ht
      unfold w184_l6
      rw [nI_1]
      exact ⟨fun c => absurd c (nI_ge (by omega) (by omega)), fun _ => w171_m hm hg ht (fun S' ht' => ih (k + 1) S' (by omega) ht')⟩
  exact loop n 0 S1 (by omega) m1
/-- where the roads lead is written anew -/
theorem gm_54 {S S1 : ri_H} {f : Nat → Int32} (a : am MX MF S S1) (h55 : gset (gm S1) 1 (gm S 1) = gm S) (h54 : ∀ j, j < 24 → S1.1 54 j = f j) : gm S1 = gset (gm S) 1 (nz 24 f) := by
  have e1 : gm S1 1 = nz 24 f := by
    funext j
    show nz 24 (S1.1 54) j = nz 24 f j
    unfold nz
    by_cases c : j < 24
    · rw [if_pos c, if_pos c, h54 j c]
    · rw [if_neg c, if_neg c]
  funext o
  unfold gset at h55 ⊢
  by_cases c : o = 1
  · rw [if_pos c, c, e1]
  · rw [if_neg c]
    have := congrFun h55 o
    rw [if_neg c] at this
    exact this
/-- a state of shut: all but where the roads lead is as it was -/
def shS (S0 S : ri_H) : Prop := am MX MF S0 S ∧ (∀ j, j < 24 → S.1 62 j = S0.1 54 j) ∧ gset (gm S) 1 (gm S0 1) = gm S0
theorem shS_54 {S0 S : ri_H} (h : shS S0 S) {k : Nat} (hk : k < 24) {v : Int32} : shS S0 (ri_wi S 54 k v) := by
  refine ⟨am_wi h.1 (by decide) (by decide), fun j hj => ?_, ?_⟩
  · rw [ri_wi_o _ _ _ (by decide)]
    exact h.2.1 j hj
  · rw [gm_wi54 _ hk, ← h.2.2]
    funext o
    unfold gset
    by_cases c : o = 1
    · rw [if_pos c, if_pos c, if_pos rfl]
    · rw [if_neg c, if_neg c, if_neg c]
theorem l152_ok {Q : Int32 → ri_H → Prop} {x2 x3 x4 : Int32} (hQ : ∀ S', am MX MF S0 S' → gm S' = gm S0 → Q (if x2 = 0 then x3 else x4) S') : ∀ d k S, k + d = 24 → shS S0 S → (∀ j, j < k → S.1 54 j = S0.1 54 j) → w185_l152 Q (d + 1) x2 x3 x4 (nI k) S
  | 0, k, S, hk, hs, h1 => by
    have hk' : k = 24 := hk
    subst hk'
    unfold w185_l152
    have e : gm S = gm S0 := by
      rw [gm_54 (f := S0.1 54) hs.1 hs.2.2 h1]
      funext o
      unfold gset
      by_cases c : o = 1
      · rw [if_pos c, c]
        rfl
      · rw [if_neg c]
    have q := hQ S hs.1 e
    refine ⟨fun _ => ⟨fun c => ?_, fun c => ?_⟩, fun c => absurd (show (24 : Int32) ≤ nI 24 by decide) c⟩
    · rw [if_neg c] at q
      exact q
    · rw [if_pos (Decidable.not_not.mp c)] at q
      exact q
  | d + 1, k, S, hk, hs, h1 => by
    unfold w185_l152
    rw [nI_clamp (n := k) (by omega), nI_1]
    refine ⟨fun c => absurd c (nI_ge (b := 24) (by omega) (by decide)), fun _ => ⟨vp_in_nI (by omega) (by decide), vp_in_nI (by omega) (by decide), ?_⟩⟩
    refine l152_ok hQ d (k + 1) _ (by omega) (shS_54 hs (by omega)) (fun j hj => ?_)
    rw [ri_wi_1]
    by_cases e : j = k
    · subst e
      rw [pk_us]
      exact hs.2.1 j (by omega)
    · rw [pk_un e]
      exact h1 j (by omega)
theorem sh_mt {T : Nat} (h : R T τ S0) (hs : shS S0 S) : mt S τ (gm S 0 11) := by
  have e : gm S 0 11 = gm S0 0 11 := by
    rw [← hs.2.2]
    rfl
  rw [e]
  exact mt_am (R_mt h) hs.1 (by decide) (by decide)
theorem l73_ok {Q : Int32 → ri_H → Prop} {K : Int32 → Int32 → Int32 → Int32 → Int32 → ri_H → Prop} {n c : Nat} {x2 x3 x4 : Int32} (hn : n ≤ 40) (hc : c < 12) (h : R T τ S0) (hK : ∀ S', shS S0 S' → (p_jb τ (p_clo (gm S0) (nI c)) n ≤ x4 → K (nI n) x2 x3 x4 (nI (c + 1)) S') ∧ (¬ p_jb τ (p_clo (gm S0) (nI c)) n ≤ x4 → K (nI n) x2 (nI c) (p_jb τ (p_clo (gm S0) (nI c)) n) (nI (c + 1)) S')) : ∀ d k S, k + d = 24 → shS S0 S → (∀ j, j < k → S.1 54 j = p_clo (gm S0) (nI c) 1 j) → w185_l73 K Q (d + 1) (nI n) x2 x3 x4 (nI c) (nI k) S := by
  intro d
  induction d with
  | zero =>
    intro k S hk hs h1
    have hk' : k = 24 := hk
    subst hk'
    unfold w185_l73 w185_b143
    rw [nI_1]
    have e : gm S = p_clo (gm S0) (nI c) := by
      rw [gm_54 (f := p_clo (gm S0) (nI c) 1) hs.1 hs.2.2 h1]
      funext o
      unfold p_clo gset
      by_cases q : o = 1
      · rw [if_pos q, if_pos q]
        funext j
        show nz 24 (fun j => if j < 24 ∧ gm S0 1 j = nI c then nI c + 1 - (nI c + 1) / 12 * 12 else gm S0 1 j) j = _
        unfold nz
        by_cases hj : j < 24
        · rw [if_pos hj]
        · rw [if_neg hj, if_neg (fun q => hj q.1)]
          show (0 : Int32) = nz 24 (S0.1 54) j
          unfold nz
          rw [if_neg hj]
      · rw [if_neg q, if_neg q]
    refine ⟨fun _ => w184_ok hn (sh_mt h hs) (by rw [e]; exact (gwd_clo h.1.2 hc).1) (fun S' a' e62 e' => ?_), fun q => absurd (show (24 : Int32) ≤ nI 24 by decide) q⟩
    rw [e]
    refine hK S' ⟨am_tr hs.1 a', fun j hj => ?_, ?_⟩
    · rw [e62 62 (Or.inr rfl)]
      exact hs.2.1 j hj
    · rw [e']
      exact hs.2.2
  | succ d ih =>
    intro k S hk hs h1
    unfold w185_l73 w185_b115
    rw [nI_clamp (n := k) (by omega), nI_1 k]
    have hk24 : k < 24 := by omega
    have e62 : S.1 62 k = gm S0 1 k := by rw [hs.2.1 k hk24, gm_1 hk24]
    rw [e62]
    have nx : ∀ v : Int32, v = p_clo (gm S0) (nI c) 1 k → w185_l73 K Q (d + 1) (nI n) x2 x3 x4 (nI c) (nI (k + 1)) (ri_wi S 54 k v) := by
      intro v ev
      refine ih (k + 1) _ (by omega) (shS_54 hs hk24) (fun j hj => ?_)
      rw [ri_wi_1]
      by_cases e : j = k
      · subst e
        rw [pk_us]
        exact ev
      · rw [pk_un e]
        exact h1 j (by omega)
    refine ⟨fun q => absurd q (nI_ge (b := 24) hk24 (by decide)), fun _ => ⟨vp_in_nI hk24 (by decide), fun q => ⟨vp_in_nI hk24 (by decide), vp_in_nI hk24 (by decide), nx _ ?_⟩, fun q => ⟨vp_in_nI hk24 (by decide), nx _ ?_⟩⟩⟩
    · show gm S0 1 k = (if k < 24 ∧ gm S0 1 k = nI c then nI c + 1 - (nI c + 1) / 12 * 12 else gm S0 1 k)
      rw [if_neg (fun z => q z.2)]
    · show _ = (if k < 24 ∧ gm S0 1 k = nI c then nI c + 1 - (nI c + 1) / 12 * 12 else gm S0 1 k)
      rw [if_pos ⟨hk24, Decidable.not_not.mp q⟩]
theorem l63_ok {Q : Int32 → ri_H → Prop} {n : Nat} (hn : n ≤ 40) (h : R T τ S0) (hQ : ∀ S', am MX MF S0 S' → gm S' = gm S0 → Q (if b = 0 then (p_sh τ (gm S0) n 12).1 else (p_sh τ (gm S0) n 12).2) S') : ∀ d k S, k + d = 12 → shS S0 S → w185_l63 Q (d + 1) (nI n) b (p_sh τ (gm S0) n k).1 (p_sh τ (gm S0) n k).2 (nI k) S
  | 0, k, S, hk, hs => by
    have hk' : k = 12 := hk
    subst hk'
    unfold w185_l63
    exact ⟨fun _ => ⟨25, l152_ok hQ 24 0 S rfl hs (fun j hj => absurd hj (Nat.not_lt_zero j))⟩, fun c => absurd (show (12 : Int32) ≤ nI 12 by decide) c⟩
  | d + 1, k, S, hk, hs => by
    unfold w185_l63
    refine ⟨fun c => absurd c (nI_ge (b := 12) (by omega) (by decide)), fun _ => ⟨25, ?_⟩⟩
    refine l73_ok hn (by omega) h (fun S' hs' => ?_) 24 0 S rfl hs (fun j hj => absurd hj (Nat.not_lt_zero j))
    have ih := l63_ok hn h hQ d (k + 1) S' (by omega) hs'
    unfold p_sh at ih
    refine ⟨fun c => ?_, fun c => ?_⟩
    · rw [if_pos c] at ih
      exact ih
    · rw [if_neg c] at ih
      exact ih
theorem l27_ok {Q : Int32 → ri_H → Prop} {n : Nat} (hn : n ≤ 40) (h : R T τ S0) (hQ : ∀ S', am MX MF S0 S' → gm S' = gm S0 → Q (if b = 0 then (p_sh τ (gm S0) n 12).1 else (p_sh τ (gm S0) n 12).2) S') : ∀ d k S, k + d = 24 → am [62] [] S0 S → (∀ j, j < k → S.1 62 j = S0.1 54 j) → w185_l27 Q (d + 1) (nI n) b (nI k) S
  | 0, k, S, hk, a, h1 => by
    have hk' : k = 24 := hk
    subst hk'
    unfold w185_l27
    have g1 : gm S = gm S0 := gm_am a (by decide) (by decide) (by decide) (by decide) (by decide) (by decide)
    have a1 : am MX MF S0 S := am_mo a (by decide) (by decide)
    refine ⟨fun _ => w184_ok hn (by rw [g1]; exact mt_am (R_mt h) a (by decide) (by decide)) (by rw [g1]; exact R_ok h) (fun S' a' e62 e' => ⟨13, ?_⟩), fun c => absurd (show (24 : Int32) ≤ nI 24 by decide) c⟩
    rw [g1]
    refine l63_ok hn h hQ 12 0 S' rfl ⟨am_tr a1 a', fun j hj => ?_, ?_⟩
    · rw [e62 62 (Or.inr rfl)]
      exact h1 j hj
    · rw [e', g1]
      funext o
      unfold gset
      by_cases c : o = 1
      · rw [if_pos c, c]
      · rw [if_neg c]
  | d + 1, k, S, hk, a, h1 => by
    unfold w185_l27
    rw [nI_clamp (n := k) (by omega), nI_1]
    refine ⟨fun c => absurd c (nI_ge (b := 24) (by omega) (by decide)), fun _ => ⟨vp_in_nI (by omega) (by decide), vp_in_nI (by omega) (by decide), ?_⟩⟩
    refine l27_ok hn h hQ d (k + 1) _ (by omega) (am_wi a (by decide) (by decide)) (fun j hj => ?_)
    rw [ri_wi_1]
    by_cases e : j = k
    · subst e
      rw [pk_us, (a.1 54 (by decide) (by decide)).1]
    · rw [pk_un e]
      exact h1 j (by omega)
theorem f_shut {Q : Int32 → Int32 → ri_H → Prop} (h : RR S) (hQ : ∀ r S', RR S' → Q r r S') : w62 a b S (fun r S1 => w185 a b S1 (fun r2 S2 => Q r r2 S2)) := by
  have h0 := h
  obtain ⟨T, τ, h⟩ := h
  have bad : ((∀ n, n < 41 → a ≠ nI n) ∨ (∀ w, w < 2 → b ≠ nI w)) → w185 a b S (fun r2 S2 => Q (-2) r2 S2) := by
    intro hbad
    unfold w185
    refine w102_n (m := 40) (by decide) (by decide) (fun n hn en => ⟨fun c => absurd c (by decide), fun _ => w102_n (m := 1) (by decide) (by decide) (fun w hw ew => ?_) (fun _ => ⟨fun c => absurd rfl c, fun _ => hQ _ _ h0⟩)⟩) (fun _ => ⟨fun _ => hQ _ _ h0, fun c => absurd rfl c⟩)
    rcases hbad with q | q
    · exact absurd en (q n hn)
    · exact absurd ew (q w hw)
  unfold w62
  refine ⟨fun c => bad (Or.inl (fun n hn e => nI_pos (n := n) (by omega) (by rw [← e]; exact c))), fun c => ⟨fun c2 => bad (Or.inl (fun n hn e => ?_)), fun c2 => ?_⟩⟩
  · rw [e] at c2
    have := (nI_ltI (a := 40) (by decide) (by omega)).mp c2
    omega
  · obtain ⟨n, hn, rfl⟩ := nI_of2 (x := a) (M := 40) (n := 40) rfl c (Int32.not_lt.mp c2)
    rcases wi_d b (n := 2) (by decide) with ⟨w, hw, rfl, hw2⟩ | ⟨hw2, hne2⟩
    · have hw2 : wi (nI w) 2 = 1 := hw2
      rw [hw2]
      refine ⟨fun _ => w86_n hn h (ag_refl _ _) (fun S1 a1 => ⟨13, ?_⟩), fun c => absurd (by decide) c⟩
      refine l34_ok hn h (fun S2 a2 => ?_) 12 0 S1 rfl a1
      have h2 := R_c h a2
      have g2 := c_gm a2
      show w185 (nI n) (nI w) S2 (fun r2 S3 => Q (if nI w = 0 then (p_sh τ (gm S) n 12).1 else (p_sh τ (gm S) n 12).2) r2 S3)
      unfold w185
      refine w102_n (m := 40) (by decide) (by decide) (fun _ _ _ => ⟨fun c => absurd c (by decide), fun _ => w102_n (m := 1) (by decide) (by decide) (fun _ _ _ => ⟨fun _ => ⟨25, ?_⟩, fun c => absurd (by decide) c⟩) (fun hh => absurd rfl (hh w hw))⟩) (fun hh => absurd rfl (hh n (by omega)))
      refine l27_ok hn h2 (fun S4 a4 e4 => ?_) 24 0 S2 rfl (am_refl _ _ _) (fun j hj => absurd hj (Nat.not_lt_zero j))
      rw [g2]
      exact hQ _ _ ⟨T, τ, R_q h2 (ag_refl _ _) a4 e4⟩
    · have hw2 : wi b 2 = 0 := hw2
      rw [hw2]
      exact ⟨fun c => absurd rfl c, fun _ => bad (Or.inr hne2)⟩
end SHUT
