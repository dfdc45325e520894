/-! the model's world in the same shape; what stays and what changes there -/
def am (X F : List Nat) (S S' : ri_H) : Prop := (∀ c, c ∉ X → c ≠ 50 → S'.1 c = S.1 c ∧ S'.2 c = S.2 c) ∧ ∀ j, j ∉ F → S'.1 50 j = S.1 50 j ∧ S'.2 50 j = S.2 50 j
theorem am_refl (X F : List Nat) (S : ri_H) : am X F S S := ⟨fun _ _ _ => ⟨rfl, rfl⟩, fun _ _ => ⟨rfl, rfl⟩⟩
theorem am_tr {X F : List Nat} {S S1 S2 : ri_H} (h : am X F S S1) (h2 : am X F S1 S2) : am X F S S2 :=
  ⟨fun c hc h5 => ⟨(h2.1 c hc h5).1.trans (h.1 c hc h5).1, (h2.1 c hc h5).2.trans (h.1 c hc h5).2⟩, fun j hj => ⟨(h2.2 j hj).1.trans (h.2 j hj).1, (h2.2 j hj).2.trans (h.2 j hj).2⟩⟩
theorem am_mo {X F Y G : List Nat} {S S' : ri_H} (h : am X F S S') (hX : ∀ c, c ∈ X → c ∈ Y) (hF : ∀ c, c ∈ F → c ∈ G) : am Y G S S' :=
  ⟨fun c hc h5 => h.1 c (fun hx => hc (hX c hx)) h5, fun j hj => h.2 j (fun hx => hj (hF j hx))⟩
theorem am_wr {X F : List Nat} {S S' : ri_H} {k : Nat} {f : Nat → Int32} (h : am X F S S') (hk : k ∈ X) (h5 : k ≠ 50) : am X F S (ri_wr S' k f) :=
  ⟨fun c hc e => ⟨(ri_wr_o S' f (fun e2 => by subst e2; exact hc hk)).trans (h.1 c hc e).1, (h.1 c hc e).2⟩, fun j hj => ⟨(congrFun (ri_wr_o S' f (fun e => h5 e.symm)) j).trans (h.2 j hj).1, (h.2 j hj).2⟩⟩
theorem am_wi {X F : List Nat} {S S' : ri_H} {k j : Nat} {v : Int32} (h : am X F S S') (hk : k ∈ X) (h5 : k ≠ 50) : am X F S (ri_wi S' k j v) := by
  rw [ri_wi_wr]
  exact am_wr h hk h5
theorem am_f {X F : List Nat} {S S' : ri_H} {j : Nat} {v : Int32} (h : am X F S S') (hj : j ∈ F) : am X F S (ri_wi S' 50 j v) := by
  refine ⟨fun c hc e => ⟨(ri_wi_o S' j v e).trans (h.1 c hc e).1, (h.1 c hc e).2⟩, fun i hi => ⟨?_, (h.2 i hi).2⟩⟩
  rw [ri_wi_1]
  unfold upd
  rw [if_neg (fun e => by subst e; exact hi hj)]
  exact (h.2 i hi).1
theorem ri_wl_2 (S : ri_H) (k j : Nat) (v : Int64) (i : Nat) : (ri_wl S k j v).2 k i = if i = j then v else S.2 k i := by
  show cond (Nat.beq k k) (cond (Nat.beq i j) v (S.2 k i)) (S.2 k i) = _
  rw [Nat.beq_refl]
  by_cases e : i = j
  · subst e
    rw [if_pos rfl, Nat.beq_refl]
    rfl
  · rw [if_neg e]
    have : Nat.beq i j = false := by
      rw [← Bool.not_eq_true]
      intro e2
      exact e (Nat.eq_of_beq_eq_true e2)
    rw [this]
    rfl
theorem ri_wl_o (S : ri_H) {c k : Nat} (j : Nat) (v : Int64) (h : c ≠ k) : (ri_wl S k j v).2 c = S.2 c := by
  have : Nat.beq c k = false := by
    rw [← Bool.not_eq_true]
    intro e
    exact h (Nat.eq_of_beq_eq_true e)
  funext i
  show cond (Nat.beq c k) _ (S.2 c i) = S.2 c i
  rw [this]
  rfl
theorem am_fl {X F : List Nat} {S S' : ri_H} {j : Nat} {v : Int64} (h : am X F S S') (hj : j ∈ F) : am X F S (ri_wl S' 50 j v) := by
  refine ⟨fun c hc e => ⟨(h.1 c hc e).1, (ri_wl_o S' j v e).trans (h.1 c hc e).2⟩, fun i hi => ⟨(h.2 i hi).1, ?_⟩⟩
  rw [ri_wl_2, if_neg (fun e => by subst e; exact hi hj)]
  exact (h.2 i hi).2
theorem am_wl {X F : List Nat} {S S' : ri_H} {k j : Nat} {v : Int64} (h : am X F S S') (hk : k ∈ X) (h5 : k ≠ 50) : am X F S (ri_wl S' k j v) := by
  refine ⟨fun c hc e => ⟨(h.1 c hc e).1, (ri_wl_o S' j v (fun e2 => by subst e2; exact hc hk)).trans (h.1 c hc e).2⟩, fun i hi => ⟨(h.2 i hi).1, ?_⟩⟩
  exact (congrFun (ri_wl_o S' j v (fun e => h5 e.symm)) i).trans (h.2 i hi).2
def gm (S : ri_H) : Nat → Nat → Int32 := fun o =>
  if o = 0 then (fun j => if j = 9 then S.1 50 11 else if j = 10 then S.1 50 7 else if j = 11 then S.1 50 4 else 0)
  else if o = 1 then nz 24 (S.1 54) else if o = 2 then nz 24 (S.1 55)
  else if o = 3 then nz 5 (fun p => S.1 56 (5 * p + 4)) else if o = 4 then nz 5 (fun p => S.1 56 (5 * p))
  else if o = 5 then nz 5 (fun p => S.1 56 (5 * p + 1)) else if o = 6 then nz 5 (fun p => S.1 56 (5 * p + 2))
  else if o = 7 then nz 5 (fun p => S.1 56 (5 * p + 3)) else fun _ => 0
theorem gm_am {X F : List Nat} {S S' : ri_H} (h : am X F S S') (h54 : 54 ∉ X) (h55 : 55 ∉ X) (h56 : 56 ∉ X) (h4 : 4 ∉ F) (h7 : 7 ∉ F) (h11 : 11 ∉ F) : gm S' = gm S := by
  unfold gm
  rw [(h.1 54 h54 (by decide)).1, (h.1 55 h55 (by decide)).1, (h.1 56 h56 (by decide)).1, (h.2 4 h4).1, (h.2 7 h7).1, (h.2 11 h11).1]
