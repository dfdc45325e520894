/-! fewest: costs, as numbers -/
def les (u : Nat → Nat) (j x : Nat) : Nat → Nat := upn u j (if x < u j then x else u j)
def p_mj (g : Nat → Nat → Int32) (r v : Nat → Nat) : Nat → Nat → Nat
  | 0 => fun _ => 1000
  | k + 1 => les (p_mj g r v k) (p_to g k) (v (k / 2) + (if r (k / 2) = k % 2 then 0 else 1))
def wld (g : Nat → Nat → Int32) (y p c : Nat) : Nat → Nat → Int32 := gset (gset g 0 (upd (g 0) 10 (nI y))) 5 (upd (g 5) p (nI c))
def p_rr (τ : Int32 → Int32 → List Int32) (g : Nat → Nat → Int32) (y p c : Nat) : Nat := (p_tk τ (wld g y p c) (nI p)).toNatClampNeg
def p_fw (τ : Int32 → Int32 → List Int32) (g : Nat → Nat → Int32) (y p c0 : Nat) : Nat → Nat → Nat
  | 0 => fun j => if j = c0 then 0 else 1000
  | t + 1 => p_mj g (p_rr τ g (y + t) p) (p_fw τ g y p c0 t) 24
def enc (x : Nat) : Int32 := if x = 1000 then -1 else nI x
theorem les_self {u : Nat → Nat} {j x : Nat} (h : ¬ x < u j) : les u j x = u := by
  funext i
  unfold les upn
  rw [if_neg h]
  by_cases e : i = j
  · rw [if_pos e, e]
  · rw [if_neg e]
theorem mn_comm (m x y : Nat) : (if y < (if x < m then x else m) then y else (if x < m then x else m)) = (if x < (if y < m then y else m) then x else (if y < m then y else m)) := by
  by_cases c1 : x < m <;> by_cases c2 : y < m <;> by_cases c3 : y < x <;> by_cases c4 : x < y <;> simp [c1, c2, c3, c4] <;> omega
theorem mn_le (x a : Nat) : (if x < a then x else a) ≤ a := by
  split <;> omega
theorem les_comm (u : Nat → Nat) (a b x y : Nat) : les (les u a x) b y = les (les u b y) a x := by
  funext i
  by_cases hab : a = b
  · subst hab
    unfold les upn
    by_cases e : i = a
    · subst e
      simp only [if_pos rfl]
      exact mn_comm (u i) x y
    · simp only [if_neg e]
  · unfold les upn
    by_cases e : i = a
    · subst e
      simp only [if_pos rfl, if_neg hab]
    · by_cases e2 : i = b
      · subst e2
        simp only [if_pos rfl, if_neg e]
      · simp only [if_neg e, if_neg e2]
theorem mj_le (g : Nat → Nat → Int32) (r v : Nat → Nat) : ∀ k j, p_mj g r v k j ≤ 1000
  | 0, _ => Nat.le_refl _
  | k + 1, j => by
    have ih := mj_le g r v k
    show les (p_mj g r v k) (p_to g k) (v (k / 2) + (if r (k / 2) = k % 2 then 0 else 1)) j ≤ 1000
    unfold les upn
    by_cases e : j = p_to g k
    · rw [if_pos e]
      exact Nat.le_trans (mn_le _ _) (ih (p_to g k))
    · rw [if_neg e]
      exact ih j
def bnd (t : Nat) (v : Nat → Nat) : Prop := ∀ j, v j = 1000 ∨ v j ≤ t
theorem mj_bnd {g : Nat → Nat → Int32} {r v : Nat → Nat} {t : Nat} (hv : bnd t v) : ∀ k, bnd (t + 1) (p_mj g r v k)
  | 0, _ => Or.inl rfl
  | k + 1, j => by
    have ih := mj_bnd (g := g) (r := r) hv k
    have le := mj_le g r v k (p_to g k)
    show les (p_mj g r v k) (p_to g k) (v (k / 2) + (if r (k / 2) = k % 2 then 0 else 1)) j = 1000 ∨ les (p_mj g r v k) (p_to g k) (v (k / 2) + (if r (k / 2) = k % 2 then 0 else 1)) j ≤ t + 1
    unfold les upn
    by_cases e : j = p_to g k
    · rw [if_pos e]
      have h1 := ih (p_to g k)
      have h2 := hv (k / 2)
      by_cases c : (v (k / 2) + if r (k / 2) = k % 2 then 0 else 1) < p_mj g r v k (p_to g k)
      · rw [if_pos c]
        right
        split <;> rename_i c2 <;> (try rw [if_pos c2] at c) <;> (try rw [if_neg c2] at c) <;> omega
      · rw [if_neg c]
        exact h1
    · rw [if_neg e]
      exact ih j
theorem fw_bnd (τ : Int32 → Int32 → List Int32) (g : Nat → Nat → Int32) (y p c0 : Nat) : ∀ t, bnd t (p_fw τ g y p c0 t)
  | 0, j => by
    show (if j = c0 then 0 else 1000) = 1000 ∨ (if j = c0 then 0 else 1000) ≤ 0
    by_cases e : j = c0
    · rw [if_pos e]
      exact Or.inr (Nat.le_refl _)
    · rw [if_neg e]
      exact Or.inl rfl
  | t + 1, j => mj_bnd (fw_bnd τ g y p c0 t) 24 j
/-- a crossing, both roads -/
theorem mj_2 (g : Nat → Nat → Int32) (r v : Nat → Nat) (c : Nat) : p_mj g r v (2 * (c + 1)) = les (les (p_mj g r v (2 * c)) (p_to g (2 * c)) (v c + (if r c = 0 then 0 else 1))) (p_to g (2 * c + 1)) (v c + (if r c = 1 then 0 else 1)) := by
  show p_mj g r v (2 * c + 1 + 1) = _
  have e1 : (2 * c + 1) / 2 = c := by omega
  have e2 : (2 * c + 1) % 2 = 1 := by omega
  have e3 : 2 * c / 2 = c := by omega
  have e4 : 2 * c % 2 = 0 := by omega
  show les (les (p_mj g r v (2 * c)) (p_to g (2 * c)) (v (2 * c / 2) + (if r (2 * c / 2) = 2 * c % 2 then 0 else 1))) (p_to g (2 * c + 1)) (v ((2 * c + 1) / 2) + (if r ((2 * c + 1) / 2) = (2 * c + 1) % 2 then 0 else 1)) = _
  rw [e1, e2, e3, e4]
theorem mj_skip {g : Nat → Nat → Int32} {r v : Nat → Nat} {c : Nat} (h : v c = 1000) : p_mj g r v (2 * (c + 1)) = p_mj g r v (2 * c) := by
  rw [mj_2, h]
  have a := mj_le g r v (2 * c) (p_to g (2 * c))
  rw [les_self (u := p_mj g r v (2 * c)) (j := p_to g (2 * c)) (by omega)]
  have b := mj_le g r v (2 * c) (p_to g (2 * c + 1))
  exact les_self (by omega)
theorem rr_01 {τ : Int32 → Int32 → List Int32} {g : Nat → Nat → Int32} {y p c : Nat} (hp : p < 5) (h4 : rg (g 4) 5 10) : p_rr τ g y p c ≤ 1 ∧ p_tk τ (wld g y p c) (nI p) = nI (p_rr τ g y p c) := by
  have h : b01 (p_tk τ (wld g y p c) (nI p)) := p_tk_01 hp h4
  unfold p_rr
  rcases h with e | e
  · rw [e]
    decide
  · rw [e]
    decide
/-- a world that is g but for the year and where one is -/
def wl2 (g : Nat → Nat → Int32) (y p : Nat) (G : Nat → Nat → Int32) : Prop := G 0 10 = nI y ∧ (∀ j, j ≠ 10 → G 0 j = g 0 j) ∧ (∀ j, j ≠ p → G 5 j = g 5 j) ∧ ∀ o, o ≠ 0 → o ≠ 5 → G o = g o
theorem wl2_wld {g G : Nat → Nat → Int32} {y p c : Nat} (h : wl2 g y p G) : gset G 5 (upd (G 5) p (nI c)) = wld g y p c := by
  obtain ⟨h1, h2, h3, h4⟩ := h
  funext o
  unfold wld gset
  by_cases e5 : o = 5
  · rw [if_pos e5, if_pos e5]
    funext j
    unfold upd
    by_cases e : j = p
    · rw [if_pos e, if_pos e]
    · rw [if_neg e, if_neg e]
      exact h3 j e
  · rw [if_neg e5, if_neg e5]
    by_cases e0 : o = 0
    · rw [if_pos e0, e0]
      funext j
      unfold upd
      by_cases e : j = 10
      · rw [if_pos e, e]
        exact h1
      · rw [if_neg e]
        exact h2 j e
    · rw [if_neg e0]
      exact h4 o e0 e5
theorem wl2_of_wld {g : Nat → Nat → Int32} {y p c : Nat} : wl2 g y p (wld g y p c) := by
  refine ⟨?_, fun j hj => ?_, fun j hj => ?_, fun o h0 h5 => ?_⟩
  · show upd (g 0) 10 (nI y) 10 = nI y
    exact pk_us
  · show upd (g 0) 10 (nI y) j = g 0 j
    exact pk_un hj
  · show upd (g 5) p (nI c) j = g 5 j
    exact pk_un hj
  · unfold wld
    rw [gset_o _ _ h5, gset_o _ _ h0]
theorem wl2_y {g G : Nat → Nat → Int32} {y p : Nat} (h : wl2 g y p G) : wl2 g (y + 1) p (gset G 0 (upd (G 0) 10 (G 0 10 + 1))) := by
  obtain ⟨h1, h2, h3, h4⟩ := h
  refine ⟨?_, fun j hj => ?_, h3, fun o h0 h5 => ?_⟩
  · show upd (G 0) 10 (G 0 10 + 1) 10 = _
    rw [pk_us, h1, nI_1]
  · show upd (G 0) 10 (G 0 10 + 1) j = _
    rw [pk_un hj]
    exact h2 j hj
  · rw [gset_o _ _ h0]
    exact h4 o h0 h5
section FEWC
variable {S S0 : ri_H} {T : Nat} {τ : Int32 → Int32 → List Int32}
theorem enc_m1 {x : Nat} (hx : x ≤ 1000) : enc x = -1 ↔ x = 1000 := by
  unfold enc
  by_cases c : x = 1000
  · rw [if_pos c]
    exact ⟨fun _ => c, fun _ => rfl⟩
  · rw [if_neg c]
    exact ⟨fun e => absurd e (fun e => nI_pos (n := x) (by omega) (by rw [e]; decide)), fun e => absurd e c⟩
theorem w83_ok {Q : ri_H → Prop} {u : Nat → Nat} {t x : Nat} (ht : t < 12) (hx : x < 1000) (hu : ∀ j, u j ≤ 1000) (h49 : ∀ j, j < 12 → S.1 49 j = enc (u j)) (hQ : ∀ S', ag [49] S S' → (∀ j, j < 12 → S'.1 49 j = enc (les u t x j)) → Q S') : w83 (nI t) (nI x) S Q := by
  unfold w83 w83_b19
  rw [it_nI _ ht (by decide), h49 t ht, pu_nI _ _ ht (by decide)]
  have wr : x < u t → Q (ri_wr S 49 (upd (S.1 49) t (nI x))) := by
    intro c
    refine hQ _ (ag_wr (ag_refl _ _) (by decide)) (fun j hj => ?_)
    rw [ri_wr_1]
    unfold les upn
    by_cases e : j = t
    · rw [e, pk_us, if_pos rfl, if_pos c]
      unfold enc
      rw [if_neg (by omega)]
    · rw [pk_un e, if_neg e]
      exact h49 j hj
  refine ⟨fun c => wr ?_, fun c => ⟨fun c2 => ?_, fun c2 => wr ?_⟩⟩
  · have := (enc_m1 (hu t)).mp c
    omega
  · have ne : u t ≠ 1000 := fun e => c ((enc_m1 (hu t)).mpr e)
    unfold enc at c2
    rw [if_neg ne] at c2
    have := (nI_leI (by have := hu t; omega) (by omega)).mp c2
    refine hQ S (ag_refl _ _) (fun j hj => ?_)
    rw [les_self (by omega)]
    exact h49 j hj
  · have ne : u t ≠ 1000 := fun e => c ((enc_m1 (hu t)).mpr e)
    unfold enc at c2
    rw [if_neg ne] at c2
    rcases Nat.lt_or_ge x (u t) with q | q
    · exact q
    · exact absurd (nI_le q (by omega)) c2
/-- a year of costs, the class -/
theorem w82_ok {Q : ri_H → Prop} {g : Nat → Nat → Int32} {v : Nat → Nat} {y p t : Nat} (hp : p < 5) (hy : y < 2 ^ 30) (ht30 : t ≤ 30) (h : rT T τ S0) (hg : gwd T g) (hv : bnd t v) (a : ag CX S0 S) (hw : wl2 g y p (gw S 19)) (h48 : ∀ j, j < 12 → S.1 48 j = enc (v j)) (hQ : ∀ S', ag CX S0 S' → wl2 g y p (gw S' 19) → (∀ j, j < 12 → S'.1 48 j = enc (p_mj g (p_rr τ g y p) v 24 j)) → Q S') : w82 (nI p) S Q := by
  obtain ⟨k0, k1, k2, k3, k4, k5, k6, k7⟩ := hg.1
  obtain ⟨r, hr, er⟩ := hg.2.2
  have vle : ∀ j, v j ≤ 1000 := fun j => by
    have := hv j
    omega
  have loop : ∀ d c S, c + d = 12 → ag CX S0 S → wl2 g y p (gw S 19) → (∀ j, j < 12 → S.1 48 j = enc (v j)) → (∀ j, j < 12 → S.1 49 j = enc (p_mj g (p_rr τ g y p) v (2 * c) j)) → w82_l10 Q (d + 1) (nI p) (nI c) S := by
    intro d
    induction d with
    | zero =>
      intro c S hc a hw h48 h49
      have hc' : c = 12 := hc
      subst hc'
      unfold w82_l10
      refine ⟨fun _ => hQ _ (ag_wr a (by decide)) ?_ (fun j hj => ?_), fun c => absurd (show (12 : Int32) ≤ nI 12 by decide) c⟩
      · rw [gw_ag (ag_wr (ag_refl [48] S) (by decide)) (in8 (by decide))]
        exact hw
      · rw [ri_wr_1]
        unfold cpr
        rw [if_pos hj]
        exact h49 j hj
    | succ d ih =>
      intro c S hc a hw h48 h49
      unfold w82_l10 w82_b98
      have hc12 : c < 12 := by omega
      rw [it_nI _ hc12 (by decide), h48 c hc12, nI_1]
      refine ⟨fun q => absurd q (nI_ge (b := 12) hc12 (by decide)), fun _ => ⟨fun q => ?_, fun q => ?_⟩⟩
      · have e := (enc_m1 (vle c)).mp q
        refine ih (c + 1) S (by omega) a hw h48 (fun j hj => ?_)
        rw [mj_skip e]
        exact h49 j hj
      · have ne : v c ≠ 1000 := fun e => q ((enc_m1 (vle c)).mpr e)
        have vc : v c ≤ t := by
          rcases hv c with e | e
          · exact absurd e ne
          · exact e
        have ev : enc (v c) = nI (v c) := by
          unfold enc
          rw [if_neg ne]
        rw [ev, pu_nI _ _ hp (by decide), nI_1 (v c)]
        have a1 : ag CX S0 (ri_wr S 24 (upd (S.1 24) p (nI c))) := ag_wr a (by decide)
        have e1 : gw (ri_wr S 24 (upd (S.1 24) p (nI c))) 19 = wld g y p c := by
          rw [← ri_wi_wr, gw_wi (w := 19) (o := 5) (by decide) hp, wl2_wld hw]
        have e11 : gw (ri_wr S 24 (upd (S.1 24) p (nI c))) 19 0 11 = nI r := by
          rw [e1]
          show upd (g 0) 10 (nI y) 11 = nI r
          rw [pk_un (by decide)]
          exact er
        refine w40_ok (Or.inr rfl) (by rw [e11]; exact tc_ag2 h a1 hr) (fun S1 b1 => ?_)
        obtain ⟨r1, r2⟩ := rr_01 (τ := τ) (g := g) (y := y) (p := p) (c := c) hp k4
        rw [e1, r2]
        have b2 : ag [27, 4, 24] S S1 := ag_tr (ag_wr (ag_refl _ _) (by decide)) (ag_mo b1 (by decide))
        have e2 : gw S1 19 = wld g y p c := by rw [gw_a4 (Or.inr rfl) b1, e1]
        have f48 : ∀ j, j < 12 → S1.1 48 j = enc (v j) := fun j hj => by
          rw [(b2 48 (by decide)).1]
          exact h48 j hj
        have f49 : ∀ j, j < 12 → S1.1 49 j = enc (p_mj g (p_rr τ g y p) v (2 * c) j) := fun j hj => by
          rw [(b2 49 (by decide)).1]
          exact h49 j hj
        have a3 : ag CX S0 S1 := ag_tr a (ag_mo b2 (by decide))
        obtain ⟨ta, ta2⟩ := to_lt k1 (k := 2 * c + p_rr τ g y p c) (by omega)
        obtain ⟨tb, tb2⟩ := to_lt k1 (k := 2 * c + 1 - p_rr τ g y p c) (by omega)
        have g1e : gw S1 19 1 = g 1 := by
          rw [e2]
          rfl
        have i1 : it (S1.1 20) 24 (2 * nI c + nI (p_rr τ g y p c)) = nI (p_to g (2 * c + p_rr τ g y p c)) := by
          rw [x2_0, nI_add, gw_it S1 19 1 24 rfl (by decide), g1e, it_nI _ (by omega) (by decide), ta2]
        rw [i1]
        have mle : ∀ j, p_mj g (p_rr τ g y p) v (2 * c) j ≤ 1000 := mj_le g (p_rr τ g y p) v (2 * c)
        refine w83_ok (u := p_mj g (p_rr τ g y p) v (2 * c)) ta (by omega) mle f49 (fun S3 b3 h3 => ?_)
        have i2 : it (S3.1 20) 24 (2 * nI c + 1 - nI (p_rr τ g y p c)) = nI (p_to g (2 * c + 1 - p_rr τ g y p c)) := by
          rw [x2_1, pk_sub (by omega), gw_it S3 19 1 24 rfl (by decide), gw_ag b3 (in8 (by decide)), g1e, it_nI _ (by omega) (by decide), tb2]
        rw [i2]
        have mle2 : ∀ j, les (p_mj g (p_rr τ g y p) v (2 * c)) (p_to g (2 * c + p_rr τ g y p c)) (v c) j ≤ 1000 := fun j => by
          unfold les upn
          have := mle (p_to g (2 * c + p_rr τ g y p c))
          have := mle j
          split
          · split <;> omega
          · omega
        refine w83_ok tb (by omega) mle2 h3 (fun S4 b4 h4 => ?_)
        have b34 : ag [49] S1 S4 := ag_tr b3 b4
        refine ih (c + 1) S4 (by omega) (ag_tr a3 (ag_mo b34 (by decide))) ?_ (fun j hj => ?_) (fun j hj => ?_)
        · rw [gw_ag b34 (in8 (by decide)), e2]
          exact wl2_of_wld
        · rw [(b34 48 (by decide)).1]
          exact f48 j hj
        · rw [h4 j hj, mj_2]
          rcases (show p_rr τ g y p c = 0 ∨ p_rr τ g y p c = 1 by omega) with z | z
          · rw [z]
            rfl
          · rw [z, les_comm]
            rfl
  refine ⟨13, loop 12 0 _ rfl (ag_wr a (by decide)) ?_ (fun j hj => ?_) (fun j hj => ?_)⟩
  · rw [gw_ag (ag_wr (ag_refl [49] S) (by decide)) (in8 (by decide))]
    exact hw
  · rw [ri_wr_o _ _ (by decide)]
    exact h48 j hj
  · rw [ri_wr_1]
    unfold fil
    rw [if_pos hj]
    rfl
theorem l74_ok {Q : Int32 → ri_H → Prop} {g : Nat → Nat → Int32} {y p c0 t n : Nat} (hp : p < 5) (hy : y ≤ 999) (ht : t < 12) (hn : n ≤ 30) (h : rT T τ S0) (hg : gwd T g) (hQ : ∀ S', ag CX S0 S' → Q (enc (p_fw τ g y p c0 n t)) S') : ∀ d k S, k + d = n → ag CX S0 S → wl2 g (y + k) p (gw S 19) → (∀ j, j < 12 → S.1 48 j = enc (p_fw τ g y p c0 k j)) → w60_l74 Q (d + 1) (nI p) (nI t) (nI n) (nI k) S
  | 0, k, S, hk, a, hw, h48 => by
    have hk' : k = n := hk
    subst hk'
    unfold w60_l74
    rw [it_nI _ ht (by decide), h48 t ht]
    exact ⟨fun _ => hQ S a, fun c => absurd (nI_le (Nat.le_refl _) (by omega)) c⟩
  | d + 1, k, S, hk, a, hw, h48 => by
    unfold w60_l74
    rw [nI_1]
    refine ⟨fun c => absurd c (nI_ge (by omega) (by omega)), fun _ => w82_ok hp (by omega) (by omega) h hg (fw_bnd τ g y p c0 k) a hw h48 (fun S2 a2 w2 h2 => ?_)⟩
    refine l74_ok hp hy ht hn h hg hQ d (k + 1) _ (by omega) (ag_wi a2 (by decide)) ?_ (fun j hj => ?_)
    · rw [gw_0 S2 19 10 (by decide), gw_wi0 _ 19 10 _ (by decide)]
      exact wl2_y w2
    · rw [ri_wi_o _ _ _ (by decide)]
      exact h2 j hj
end FEWC
