/-! worlds: puts, feels, eats, a year -/
def p_mx (r : Int32) : Int32 := if 0 < r then r else 0
def p_pt (τ : Int32 → Int32 → List Int32) (g : Nat → Nat → Int32) (one : Int32) : Int32 :=
  if it (g 3) 5 one = 5 then 0 else
    hd (if it (g 3) 5 one = 1 then 2 * p_mx (tl τ (g 0 11) 1 (p_nm g one (p_bj g (it (g 5) 5 one))))
      else if it (g 3) 5 one = 2 then p_mx (tl τ (g 0 11) 1 (p_nm g one (p_bj g (it (g 5) 5 one)))) + 1
      else if it (g 3) 5 one = 3 then 2 * p_mx (tl τ (g 0 11) 1 (p_nm g one (p_bj g (it (g 5) 5 one)))) + it (g 4) 5 one
      else if it (g 3) 5 one = 4 then (p_mx (tl τ (g 0 11) 1 (p_nm g one (p_bj g (it (g 5) 5 one)))) + 1) / 2
      else p_mx (tl τ (g 0 11) 1 (p_nm g one (p_bj g (it (g 5) 5 one))))) 0 99
def p_tn (g : Nat → Nat → Int32) (one v : Int32) : Int32 := if it (g 7) 5 one < 3 then v else -v
def p_fk (g : Nat → Nat → Int32) (one v : Int32) : Int32 :=
  if it (g 3) 5 one = 1 then p_mx v
  else if it (g 3) 5 one = 2 then p_tn g one v
  else if it (g 3) 5 one = 3 then 2 * p_mx v
  else if it (g 3) 5 one = 4 then p_tn g one v + it (g 4) 5 one
  else if it (g 3) 5 one = 5 then 0
  else v
def p_fl (τ : Int32 → Int32 → List Int32) (g : Nat → Nat → Int32) (one jar : Int32) : Int32 := p_fk g one (tl τ (g 0 11) 2 (p_nm g one (it (g 2) 24 jar)))
theorem gw_pu (S : ri_H) (w o n : Nat) (hn : gsz o = n) (ho : o ≠ 0) (i v : Int32) : nz (gsz o) (pu n (S.1 (w + o)) i v) = pu n (gw S w o) i v := by
  have : n < 2 ^ 31 := by
    subst hn
    unfold gsz
    split
    · decide
    · split
      · decide
      · split <;> decide
  rw [hn, nz_pu n _ _ _ this, gw_p _ _ ho, hn]
theorem not_out {x : Int32} {a b k : Int32} (h : x = k) (hk : ¬ (k < a ∨ b < k)) : ¬ (x < a ∨ b < x) := by
  subst h
  exact hk
section WORLD
variable {w : Nat} {one jar : Int32} {S : ri_H} {Q : Int32 → ri_H → Prop} {τ : Int32 → Int32 → List Int32}
theorem w41_ok (hw : w = 10 ∨ w = 19) (ht : tc S τ (gw S w 0 11)) (hQ : ∀ S', ag [w + 8, 4] S S' → Q (p_pt τ (gw S w) one) S') : w41 w one S Q := by
  unfold w41
  rw [gw_it S w 3 5 rfl (by decide), gw_it S w 5 5 rfl (by decide)]
  unfold p_pt at hQ
  refine ⟨fun c5 => ?_, fun c5 => ?_⟩
  · rw [if_neg c5] at hQ
    refine w44_ok ?_
    rw [gw_0 S w 11 (by decide)]
    refine tell_nms hw ht.2.1 (fun S' h => ?_)
    have hg := gw_a4 hw h
    have hq := hQ S' h
    rw [gw_it S' w 4 5 rfl (by decide), hg]
    unfold w41_b119
    refine ⟨fun c => ?_, fun c => ?_, fun c => ?_, fun c => ?_, fun c => ?_⟩
    · rw [if_neg (fun e => not_out e (by decide) c), if_neg (fun e => not_out e (by decide) c), if_neg (fun e => not_out e (by decide) c), if_neg (fun e => not_out e (by decide) c)] at hq
      exact hq
    · rw [if_pos c] at hq
      intro e he
      subst he
      exact hq
    · rw [c, if_neg (by decide), if_pos rfl] at hq
      intro e he
      subst he
      exact hq
    · rw [c, if_neg (by decide), if_neg (by decide), if_pos rfl] at hq
      intro e he
      subst he
      exact hq
    · rw [c, if_neg (by decide), if_neg (by decide), if_neg (by decide), if_pos rfl] at hq
      intro e he
      subst he
      exact hq
  · rw [if_pos (Decidable.not_not.mp c5)] at hQ
    exact hQ S (ag_refl _ _)
theorem w42_b44_ok (v : Int32) (hQ : Q (p_fk (gw S w) one v) S) : w42_b44 w Q one v (p_tn (gw S w) one v) S := by
  unfold w42_b44
  rw [gw_it S w 3 5 rfl (by decide), gw_it S w 4 5 rfl (by decide)]
  unfold p_fk at hQ
  refine ⟨fun c => ?_, fun c => ?_, fun c => ?_, fun c => ?_, fun c => ?_, fun c => ?_⟩
  · rw [if_neg (fun e => not_out e (by decide) c), if_neg (fun e => not_out e (by decide) c), if_neg (fun e => not_out e (by decide) c), if_neg (fun e => not_out e (by decide) c), if_neg (fun e => not_out e (by decide) c)] at hQ
    exact hQ
  · rw [if_pos c] at hQ
    exact hQ
  · rw [c, if_neg (by decide), if_pos rfl] at hQ
    exact hQ
  · rw [c, if_neg (by decide), if_neg (by decide), if_pos rfl] at hQ
    exact hQ
  · rw [c, if_neg (by decide), if_neg (by decide), if_neg (by decide), if_pos rfl] at hQ
    exact hQ
  · rw [c, if_neg (by decide), if_neg (by decide), if_neg (by decide), if_neg (by decide), if_pos rfl] at hQ
    exact hQ
theorem w42_ok (hw : w = 10 ∨ w = 19) (ht : tc S τ (gw S w 0 11)) (hQ : ∀ S', ag [w + 8, 4] S S' → Q (p_fl τ (gw S w) one jar) S') : w42 w one jar S Q := by
  unfold w42
  rw [gw_it S w 2 24 rfl (by decide), gw_0 S w 11 (by decide)]
  refine tell_nms hw ht.2.2 (fun S' h => ?_)
  have hg := gw_a4 hw h
  have hq := hQ S' h
  unfold p_fl at hq
  rw [← hg] at hq ⊢
  rw [gw_it S' w 7 5 rfl (by decide)]
  have := w42_b44_ok _ hq
  unfold p_tn at this
  refine ⟨fun c => ?_, fun c => ?_⟩
  · rw [if_pos c] at this
    exact this
  · rw [if_neg c] at this
    exact this
end WORLD
def p_min (x : Int32) : Int32 := if x < 999 then x else 999
def p_mood (τ : Int32 → Int32 → List Int32) (g : Nat → Nat → Int32) (one jar : Int32) : Int32 := hd (it (g 6) 5 one + p_fl τ g one jar) (-99) 99
def p_eat (τ : Int32 → Int32 → List Int32) (g : Nat → Nat → Int32) (one jar : Int32) : Nat → Nat → Int32 :=
  gset (gset (gset g 6 (pu 5 (g 6) one (p_mood τ g one jar))) 7 (pu 5 (g 7) one (p_min (it (g 7) 5 one + 1)))) 2 (pu 24 (g 2) jar (it (g 2) 24 jar - 1))
def p_y1 (τ : Int32 → Int32 → List Int32) (g : Nat → Nat → Int32) (one road : Int32) : Nat → Nat → Int32 :=
  gset (gset g 2 (pu 24 (g 2) (2 * it (g 5) 5 one + 1 - road) (p_min (it (g 2) 24 (2 * it (g 5) 5 one + 1 - road) + p_pt τ g one)))) 5 (pu 5 (g 5) one (it (g 1) 24 (2 * it (g 5) 5 one + road)))
def p_rt (τ : Int32 → Int32 → List Int32) (g : Nat → Nat → Int32) (t one : Int32) : Int32 := if one = t then 1 - p_tk τ g one else p_tk τ g one
def p_yl (τ : Int32 → Int32 → List Int32) (t : Int32) (g : Nat → Nat → Int32) : Nat → Nat → Nat → Int32
  | 0 => g
  | k + 1 => p_y1 τ (p_yl τ t g k) (nI k) (p_rt τ (p_yl τ t g k) t (nI k))
def p_ny (g : Nat → Nat → Int32) : Nat → Nat → Int32 := gset g 0 (upd (g 0) 10 (g 0 10 + 1))
def p_yr (τ : Int32 → Int32 → List Int32) (t : Int32) (g : Nat → Nat → Int32) : Nat → Nat → Int32 := p_ny (p_yl τ t g (g 0 9).toNatClampNeg)
theorem p_y1_0 (τ : Int32 → Int32 → List Int32) (g : Nat → Nat → Int32) (one r : Int32) : p_y1 τ g one r 0 = g 0 := rfl
theorem p_yl_0 (τ : Int32 → Int32 → List Int32) (t : Int32) (g : Nat → Nat → Int32) : ∀ k, p_yl τ t g k 0 = g 0
  | 0 => rfl
  | k + 1 => (p_y1_0 τ _ _ _).trans (p_yl_0 τ t g k)
section WORLD
variable {w : Nat} {one jar : Int32} {S : ri_H} {τ : Int32 → Int32 → List Int32}
theorem w43_ok {Q : Int32 → ri_H → Prop} (hw : w = 10 ∨ w = 19) (ht : tc S τ (gw S w 0 11)) (hQ : ∀ S', ag [w + 8, 4, w + 6, w + 7, w + 2] S S' → gw S' w = p_eat τ (gw S w) one jar → Q (p_mood τ (gw S w) one jar) S') : w43 w one jar S Q := by
  unfold w43
  refine w42_ok hw ht (fun S' h => ?_)
  have hg := gw_a4 hw h
  rw [gw_it S w 6 5 rfl (by decide), gw_it S' w 7 5 rfl (by decide), gw_it S' w 2 24 rfl (by decide)]
  refine hQ _ (ag_wr (ag_wr (ag_wr (ag_mo h ?_) ?_) ?_) ?_) ?_
  · intro c hc
    simp at hc ⊢
    omega
  · simp
  · simp
  · simp
  · rw [gw_wr _ w 2 _ (by decide), gw_wr _ w 7 _ (by decide), gw_wr _ w 6 _ (by decide), gw_pu S' w 2 24 rfl (by decide), gw_pu S' w 6 5 rfl (by decide), gw_pu S' w 7 5 rfl (by decide), hg]
    rfl
theorem w39_b30_ok {K : Int32 → Int32 → ri_H → Prop} {Q : ri_H → Prop} {t road : Int32} (hw : w = 10 ∨ w = 19) (ht : tc S τ (gw S w 0 11)) (hK : ∀ S', ag [w + 8, 4, w + 2, w + 5] S S' → gw S' w = p_y1 τ (gw S w) one road → K t (one + 1) S') : w39_b30 w K Q t one road S := by
  unfold w39_b30
  refine w41_ok hw ht (fun S' h e he => ?_)
  have hg := gw_a4 hw h
  subst he
  rw [gw_it S' w 5 5 rfl (by decide), gw_it S' w 2 24 rfl (by decide), gw_it S' w 1 24 rfl (by decide)]
  refine hK _ (ag_wr (ag_wr (ag_mo h ?_) ?_) ?_) ?_
  · intro c hc
    simp at hc ⊢
    omega
  · simp
  · simp
  · rw [gw_wr _ w 5 _ (by decide), gw_wr _ w 2 _ (by decide), gw_pu S' w 2 24 rfl (by decide), gw_pu S' w 5 5 rfl (by decide), hg]
    rfl
theorem w39_loop {Q : ri_H → Prop} {t : Int32} (hw : w = 10 ∨ w = 19) (g : Nat → Nat → Int32) (L : Nat) (hL : g 0 9 = nI L) (hL2 : L < 2 ^ 31) (ht : tc S τ (g 0 11)) (hQ : ∀ S', ag [w + 8, 4, w + 2, w + 5, w] S S' → gw S' w = p_yr τ t g → Q S') : ∀ (d k : Nat) (S' : ri_H), k + d = L → ag [w + 8, 4, w + 2, w + 5, w] S S' → gw S' w = p_yl τ t g k → w39_l2 w Q (d + 1) t (nI k) S'
  | 0, k, S', hk, ha, hg => by
    have hk' : k = L := hk
    subst hk'
    unfold w39_l2
    have h9 : S'.1 w 9 = nI k := by
      rw [gw_0 S' w 9 (by decide), hg, p_yl_0, hL]
    refine ⟨fun _ => ?_, fun c => absurd (by rw [h9]; exact nI_le (Nat.le_refl _) hL2) c⟩
    refine hQ _ (ag_wi ha (by simp)) ?_
    rw [gw_wi0 _ w 10 _ (by decide), gw_0 S' w 10 (by decide), hg]
    unfold p_yr p_ny
    rw [hL, nI_clamp hL2]
  | d + 1, k, S', hk, ha, hg => by
    unfold w39_l2
    have h9 : S'.1 w 9 = nI L := by
      rw [gw_0 S' w 9 (by decide), hg, p_yl_0, hL]
    have ht' : tc S' τ (gw S' w 0 11) := by
      rw [hg, p_yl_0]
      exact tc_ag ha (by simp <;> omega) (by simp <;> omega) ht
    have step : ∀ road S2, ag [w + 8, 4] S' S2 → road = p_rt τ (gw S' w) t (nI k) → w39_b30 w (fun x1 x2 S => w39_l2 w Q (d + 1) x1 x2 S) Q t (nI k) road S2 := by
      intro road S2 h2 hr
      have hg2 := gw_a4 hw h2
      refine w39_b30_ok hw (by rw [hg2]; exact tc_ag h2 (by simp <;> omega) (by simp <;> omega) ht') (fun S3 h3 e3 => ?_)
      rw [nI_1]
      refine w39_loop hw g L hL hL2 ht hQ d (k + 1) S3 (by omega) (ag_tr ha (ag_tr (ag_mo h2 ?_) (ag_mo h3 ?_))) ?_
      · intro c hc
        simp at hc ⊢
        omega
      · intro c hc
        simp at hc ⊢
        omega
      · rw [e3, hg2, hr, hg]
        rfl
    refine ⟨fun c => absurd c (by rw [h9]; exact nI_ge (by omega) hL2), fun _ => ⟨fun c => w40_ok hw ht' (fun S2 h2 => step _ S2 h2 ?_), fun c => w40_ok hw ht' (fun S2 h2 => step _ S2 h2 ?_)⟩⟩
    · unfold p_rt
      rw [if_neg c]
    · unfold p_rt
      rw [if_pos (Decidable.not_not.mp c)]
theorem w39_ok {Q : ri_H → Prop} {t : Int32} (hw : w = 10 ∨ w = 19) {L : Nat} (hL : gw S w 0 9 = nI L) (hL2 : L < 2 ^ 31) (ht : tc S τ (gw S w 0 11)) (hQ : ∀ S', ag [w + 8, 4, w + 2, w + 5, w] S S' → gw S' w = p_yr τ t (gw S w) → Q S') : w39 w t S Q :=
  ⟨L + 1, w39_loop hw (gw S w) L hL hL2 ht hQ L 0 S (by omega) (ag_refl _ _) rfl⟩
end WORLD
