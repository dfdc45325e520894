/-! worlds: puts, feels, eats, a year -/
def p_mx (r : Int32) : Int32 := if 0 < r then r else 0
def p_pt (τ : Int32 → Int32 → List Int32) (g : Nat → Nat → Int32) (one : Int32) : Int32 :=
  if it (g 3) 5 one = 5 then 0 else
    hd (if it (g 3) 5 one = 1 then 2 * p_mx (tl τ (g 0 11) 1 (p_nm g one (p_bj g (it (g 5) 5 one))))
      else if it (g 3) 5 one = 2 then p_mx (tl τ (g 0 11) 1 (p_nm g one (p_bj g (it (g 5) 5 one)))) + 1
      else if it (g 3) 5 one = 3 then 2 * p_mx (tl τ (g 0 11) 1 (p_nm g one (p_bj g (it (g 5) 5 one)))) + it (g 4) 5 one
      else if it (g 3) 5 one = 4 then (p_mx (tl τ (g 0 11) 1 (p_nm g one (p_bj g (it (g 5) 5 one)))) + 1) / 2
      else p_mx (tl τ (g 0 11) 1 (p_nm g one (p_bj g (it (g 5) 5 one))))) 0 99
def p_tn (g : Nat → Nat → Int32) (one v : Int32) : Int32 := if it (g 7) 5 one < 3 then v else -v
def p_fk (g : Nat → Nat → Int32) (one v : Int32) : Int32 :=
  if it (g 3) 5 one = 1 then p_mx v
  else if it (g 3) 5 one = 2 then p_tn g one v
  else if it (g 3) 5 one = 3 then 2 * p_mx v
  else if it (g 3) 5 one = 4 then p_tn g one v + it (g 4) 5 one
  else if it (g 3) 5 one = 5 then 0
  else v
def p_fl (τ : Int32 → Int32 → List Int32) (g : Nat → Nat → Int32) (one jar : Int32) : Int32 := p_fk g one (tl τ (g 0 11) 2 (p_nm g one (it (g 2) 24 jar)))
theorem gw_pu (S : ri_H) (w o n : Nat) (hn : gsz o = n) (ho : o ≠ 0) (i v : Int32) : nz (gsz o) (pu n (S.1 (w + o)) i v) = pu n (gw S w o) i v := by
  have : n < 2 ^ 31 := by
    subst hn
    unfold gsz
    split
    · decide
    · split
      · decide
      · split <;> decide
  rw [hn, nz_pu n _ _ _ this, gw_p _ _ ho, hn]
theorem not_out {x : Int32} {a b k : Int32} (h : x = k) (hk : ¬ (k < a ∨ b < k)) : ¬ (x < a ∨ b < x) := by
  subst h
  exact hk
section WORLD
variable {w : Nat} {one jar : Int32} {S : ri_H} {Q : Int32 → ri_H → Prop} {τ : Int32 → Int32 → List Int32}
theorem w41_ok (hw : w = 10 ∨ w = 19) (ht : tc S τ (gw S w 0 11)) (hQ : ∀ S', ag [w + 8, 4] S S' → Q (p_pt τ (gw S w) one) S') : w41 w one S Q := by
  unfold w41
  rw [gw_it S w 3 5 rfl (by decide), gw_it S w 5 5 rfl (by decide)]
  unfold p_pt at hQ
  refine ⟨fun c5 => ?_, fun c5 => ?_⟩
  · rw [if_neg c5] at hQ
    refine w44_ok ?_
    rw [gw_0 S w 11 (by decide)]
    refine tell_nms hw ht.2.1 (fun S' h => ?_)
    have hg := gw_a4 hw h
    have hq := hQ S' h
    rw [gw_it S' w 4 5 rfl (by decide), hg]
    unfold w41_b119
    refine ⟨fun c => ?_, fun c => ?_, fun c => ?_, fun c => ?_, fun c => ?_⟩
    · rw [if_neg (fun e => not_out e (by decide) c), if_neg (fun e => not_out e (by decide) c), if_neg (fun e => not_out e (by decide) c), if_neg (fun e => not_out e (by decide) c)] at hq
      exact hq
    · rw [if_pos c] at hq
      intro e he
      subst he
      exact hq
    · rw [c, if_neg (by decide), if_pos rfl] at hq
      intro e he
      subst he
      exact hq
    · rw [c, if_neg (by decide), if_neg (by decide), if_pos rfl] at hq
      intro e he
      subst he
      exact hq
    · rw [c, if_neg (by decide), if_neg (by decide), if_neg (by decide), if_pos rfl] at hq
      intro e he
      subst he
      exact hq
  · rw [if_pos (Decidable.not_not.mp c5)] at hQ
    exact hQ S (ag_refl _ _)
theorem w42_b44_ok (v : Int32) (hQ : Q (p_fk (gw S w) one v) S) : w42_b44 w Q one v (p_tn (gw S w) one v) S := by
  unfold w42_b44
  rw [gw_it S w 3 5 rfl (by decide), gw_it S w 4 5 rfl (by decide)]
  unfold p_fk at hQ
  refine ⟨fun c => ?_, fun c => ?_, fun c => ?_, fun c => ?_, fun c => ?_, fun c => ?_⟩
  · rw [if_neg (fun e => not_out e (by decide) c), if_neg (fun e => not_out e (by decide) c), if_neg (fun e => not_out e (by decide) c), if_neg (fun e => not_out e (by decide) c), if_neg (fun e => not_out e (by decide) c)] at hQ
    exact hQ
  · rw [if_pos c] at hQ
    exact hQ
  · rw [c, if_neg (by decide), if_pos rfl] at hQ
    exact hQ
  · rw [c, if_neg (by decide), if_neg (by decide), if_pos rfl] at hQ
    exact hQ
  · rw [c, if_neg (by decide), if_neg (by decide), if_neg (by decide), if_pos rfl] at hQ
    exact hQ
  · rw [c, if_neg (by decide), if_neg (by decide), if_neg (by decide), if_neg (by decide), if_pos rfl] at hQ
    exact hQ
theorem w42_ok (hw : w = 10 ∨ w = 19) (ht : tc S τ (gw S w 0 11)) (hQ : ∀ S', ag [w + 8, 4] S S' → Q (p_fl τ (gw S w) one jar) S') : w42 w one jar S Q := by
  unfold w42
  rw [gw_it S w 2 24 rfl (by decide), gw_0 S w 11 (by decide)]
  refine tell_nms hw ht.2.2 (fun S' h => ?_)
  have hg := gw_a4 hw h
  have hq := hQ S' h
  unfold p_fl at hq
  rw [← hg] at hq ⊢
  rw [gw_it S' w 7 5 rfl (by decide)]
  have := w42_b44_ok _ hq
  unfold p_tn at this
  refine ⟨fun c => ?_, fun c => ?_⟩
  · rw [if_pos c] at this
    exact this
  · rw [if_neg c] at this
    exact this
end WORLD
