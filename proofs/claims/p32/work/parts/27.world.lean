/-! worlds: what the methods say, as functions; the methods do say it -/
def tcp (S : ri_H) (c : List Int32) (a b : Int32) : Prop := ∃ i till, it (S.1 3) 24 (a * 4 + b) = nI i ∧ it (S.1 3) 24 (a * 4 + b + 1) = nI till ∧ (∀ j, j < c.length → S.1 2 (i + j) = c.getD j 0) ∧ i + c.length = till ∧ till ≤ 960 ∧ c.length ≤ 160 ∧ cw c
def tc (S : ri_H) (τ : Int32 → Int32 → List Int32) (a : Int32) : Prop := tcp S (τ a 0) a 0 ∧ tcp S (τ a 1) a 1 ∧ tcp S (τ a 2) a 2
def tl (τ : Int32 → Int32 → List Int32) (a b : Int32) (nm : Nat → Int32) : Int32 := hd (vl nm (τ a b)) (-99) 99
theorem tcp_ag {X : List Nat} {S S' : ri_H} {c : List Int32} {a b : Int32} (h : ag X S S') (h2 : 2 ∉ X) (h3 : 3 ∉ X) (ht : tcp S c a b) : tcp S' c a b := by
  unfold tcp at ht ⊢
  rw [(h 2 h2).1, (h 3 h3).1]
  exact ht
theorem tc_ag {X : List Nat} {S S' : ri_H} {τ : Int32 → Int32 → List Int32} {a : Int32} (h : ag X S S') (h2 : 2 ∉ X) (h3 : 3 ∉ X) (ht : tc S τ a) : tc S' τ a :=
  ⟨tcp_ag h h2 h3 ht.1, tcp_ag h h2 h3 ht.2.1, tcp_ag h h2 h3 ht.2.2⟩
theorem sp_tell' (q : Nat) (hq : q ≠ 2 ∧ q ≠ 4) {a b : Int32} {S : ri_H} {Q : Int32 → ri_H → Prop} {nm : Nat → Int32} {τ : Int32 → Int32 → List Int32} (ht : tcp S (τ a b) a b) (hnm : ∀ k, it (S.1 q) 6 k = it nm 6 k) (hQ : ∀ S', ag [4] S S' → Q (tl τ a b nm) S') : w30 q a b S Q := by
  obtain ⟨i, till, h1, h2, h3, h4, h5, h6, h7⟩ := ht
  exact sp_tell q hq (τ a b) i till h1 h2 h3 h4 h5 h6 h7 hnm hQ
def p_bj (g : Nat → Nat → Int32) (x : Int32) : Int32 := it (g 2) 24 (2 * x) + it (g 2) 24 (2 * x + 1)
def p_nm (g : Nat → Nat → Int32) (one jar : Int32) : Nat → Int32 := fun j => if j = 5 then it (g 7) 5 one else if j = 4 then it (g 6) 5 one else if j = 3 then g 0 10 else if j = 2 then it (g 4) 5 one else if j = 1 then jar else if j = 0 then it (g 5) 5 one else 0
theorem nms_ag (S : ri_H) (w : Nat) (a b : Int32) : ag [w + 8] S (nms S w a b) := by
  unfold nms
  exact ag_wi (ag_wi (ag_wi (ag_wi (ag_wi (ag_wi (ag_refl _ _) (List.mem_singleton.mpr rfl)) (List.mem_singleton.mpr rfl)) (List.mem_singleton.mpr rfl)) (List.mem_singleton.mpr rfl)) (List.mem_singleton.mpr rfl)) (List.mem_singleton.mpr rfl)
theorem it_eq {f f' : Nat → Int32} {n : Nat} (hn : n < 2 ^ 31) (h : ∀ j, j < n → f j = f' j) (i : Int32) : it f n i = it f' n i := by
  unfold it
  split
  · rfl
  · split
    · rfl
    · rename_i h1 h2
      rcases pk_ix i hn with h0 | h0 | ⟨j, hj, rfl⟩
      · exact absurd h0 h1
      · exact absurd h0 h2
      · rw [nI_clamp (by omega), h j hj]
theorem nms_it (S : ri_H) (w : Nat) (a b : Int32) (k : Int32) : it ((nms S w a b).1 (w + 8)) 6 k = it (p_nm (gw S w) a b) 6 k := by
  refine it_eq (by decide) (fun j hj => ?_) k
  unfold nms p_nm
  simp only [ri_wi_1]
  rw [← gw_it S w 7 5 rfl (by decide), ← gw_it S w 6 5 rfl (by decide), ← gw_it S w 5 5 rfl (by decide), ← gw_it S w 4 5 rfl (by decide), ← gw_0 S w 10 (by decide)]
  match j, hj with
  | 0, _ => rfl
  | 1, _ => rfl
  | 2, _ => rfl
  | 3, _ => rfl
  | 4, _ => rfl
  | 5, _ => rfl
  | j + 6, h => exact absurd h (by omega)
def p_r2 (g : Nat → Nat → Int32) (one x : Int32) : Int32 := if it (g 3) 5 one = 3 then (if 0 ≤ it (g 6) 5 one then x else 1 - x) else x
def p_r1 (g : Nat → Nat → Int32) (one x : Int32) : Int32 := if it (g 3) 5 one = 0 then x else if it (g 5) 5 one = it (g 4) 5 one then 1 else x
def p_tk (τ : Int32 → Int32 → List Int32) (g : Nat → Nat → Int32) (one : Int32) : Int32 :=
  if it (g 3) 5 one = 5 then it (g 4) 5 one - it (g 4) 5 one / 2 * 2
  else if it (g 3) 5 one = 4 ∧ g 0 10 - g 0 10 / 3 * 3 = 0 then 0
  else if it (g 3) 5 one = 2 ∨ it (g 3) 5 one = 4 then (if it (g 2) 24 (2 * it (g 5) 5 one) ≤ it (g 2) 24 (2 * it (g 5) 5 one + 1) then 0 else 1)
  else p_r2 g one (p_r1 g one (if tl τ (g 0 11) 0 (p_nm g one (p_bj g (it (g 5) 5 one))) - tl τ (g 0 11) 0 (p_nm g one (p_bj g (it (g 5) 5 one))) / 2 * 2 = 0 then 0 else 1))
theorem gw_a4 {S S' : ri_H} {w : Nat} (hw : w = 10 ∨ w = 19) (h : ag [w + 8, 4] S S') : gw S' w = gw S w :=
  gw_ag h (fun o ho => by simp; omega)
section WORLD
variable {w : Nat} (hw : w = 10 ∨ w = 19) {one : Int32} {S : ri_H} {Q : Int32 → ri_H → Prop} {τ : Int32 → Int32 → List Int32}
theorem w40_b144_ok (x : Int32) (hQ : Q (p_r2 (gw S w) one x) S) : w40_b144 w Q one (it (gw S w 3) 5 one) x S := by
  unfold w40_b144
  rw [gw_it S w 6 5 rfl (by decide)]
  unfold p_r2 at hQ
  refine ⟨fun c => ?_, fun c => ?_⟩
  · rw [if_neg c] at hQ
    exact hQ
  · rw [if_pos (Decidable.not_not.mp c)] at hQ
    refine ⟨fun c => ?_, fun c => ?_⟩
    · rw [if_pos c] at hQ
      exact hQ
    · rw [if_neg c] at hQ
      exact hQ
theorem w40_b123_ok (x : Int32) (hQ : Q (p_r2 (gw S w) one (p_r1 (gw S w) one x)) S) : w40_b123 w Q one (it (gw S w 3) 5 one) (it (gw S w 5) 5 one) x S := by
  unfold w40_b123
  rw [gw_it S w 4 5 rfl (by decide)]
  unfold p_r1 at hQ
  refine ⟨fun c => ?_, fun c => ⟨fun c2 => ?_, fun c2 => ?_⟩⟩
  · rw [if_pos c] at hQ
    exact w40_b144_ok x hQ
  · rw [if_neg c, if_neg c2] at hQ
    exact w40_b144_ok x hQ
  · rw [if_neg c, if_pos (Decidable.not_not.mp c2)] at hQ
    exact w40_b144_ok 1 hQ
theorem w40_b60_ok (x : Int32) (hQ : Q (if it (gw S w 2) 24 (2 * x) ≤ it (gw S w 2) 24 (2 * x + 1) then 0 else 1) S) : w40_b60 w Q x S := by
  unfold w40_b60
  rw [gw_it S w 2 24 rfl (by decide), gw_it S w 2 24 rfl (by decide)]
  refine ⟨fun c => ?_, fun c => ?_⟩
  · rw [if_pos c] at hQ
    exact hQ
  · rw [if_neg c] at hQ
    exact hQ
theorem tell_nms (hw : w = 10 ∨ w = 19) {x jar b : Int32} (ht : tcp S (τ x b) x b) (hQ : ∀ S', ag [w + 8, 4] S S' → Q (tl τ x b (p_nm (gw S w) one jar)) S') : w30 (w + 8) x b (nms S w one jar) Q := by
  refine sp_tell' (w + 8) (by omega) (tcp_ag (nms_ag S w one jar) (by simp <;> omega) (by simp <;> omega) ht) (fun k => nms_it S w one jar k) (fun S' h => ?_)
  exact hQ S' (ag_tr (ag_mo (nms_ag S w one jar) (fun c hc => List.mem_cons.mpr (Or.inl (List.mem_singleton.mp hc)))) (ag_mo h (fun c hc => List.mem_cons_of_mem _ hc)))
theorem w44_ok {x : Int32} (hQ : Q (p_bj (gw S w) x) S) : w44 w x S Q := by
  unfold w44
  rw [gw_it S w 2 24 rfl (by decide), gw_it S w 2 24 rfl (by decide)]
  exact hQ
theorem w40_ok (hw : w = 10 ∨ w = 19) (ht : tc S τ (gw S w 0 11)) (hQ : ∀ S', ag [w + 8, 4] S S' → Q (p_tk τ (gw S w) one) S') : w40 w one S Q := by
  unfold w40
  rw [gw_it S w 3 5 rfl (by decide), gw_it S w 4 5 rfl (by decide), gw_it S w 5 5 rfl (by decide), gw_0 S w 10 (by decide)]
  unfold p_tk at hQ
  have main : ¬ it (gw S w 3) 5 one = 5 → ¬ (it (gw S w 3) 5 one = 4 ∧ gw S w 0 10 - gw S w 0 10 / 3 * 3 = 0) → w40_b50 w Q one (it (gw S w 3) 5 one) (it (gw S w 5) 5 one) S := by
    intro c5 c4
    rw [if_neg c5, if_neg c4] at hQ
    unfold w40_b50
    refine ⟨fun c => ?_, fun c => ⟨fun c' => ?_, fun c' => ?_⟩⟩
    · rw [if_pos (Or.inl c)] at hQ
      exact w40_b60_ok _ (hQ S (ag_refl _ _))
    · rw [if_neg (fun h => h.elim c c')] at hQ
      refine w44_ok ?_
      rw [gw_0 S w 11 (by decide)]
      refine tell_nms hw ht.1 (fun S' h => ?_)
      have hg := gw_a4 hw h
      have hq := hQ S' h
      rw [← hg] at hq
      refine ⟨fun c => ?_, fun c => ?_⟩
      · rw [← hg] at c ⊢
        rw [if_neg c] at hq
        exact w40_b123_ok 1 hq
      · rw [← hg] at c ⊢
        rw [if_pos (Decidable.not_not.mp c)] at hq
        exact w40_b123_ok 0 hq
    · rw [if_pos (Or.inr (Decidable.not_not.mp c'))] at hQ
      exact w40_b60_ok _ (hQ S (ag_refl _ _))
  refine ⟨fun c5 => ⟨fun c4 => main c5 (fun h => c4 h.1), fun c4 => ⟨fun cy => main c5 (fun h => cy h.2), fun cy => ?_⟩⟩, fun c5 => ?_⟩
  · rw [if_neg c5, if_pos ⟨Decidable.not_not.mp c4, Decidable.not_not.mp cy⟩] at hQ
    exact hQ S (ag_refl _ _)
  · rw [if_pos (Decidable.not_not.mp c5)] at hQ
    exact hQ S (ag_refl _ _)
end WORLD
