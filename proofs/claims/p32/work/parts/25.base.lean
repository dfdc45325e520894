/-! what stays and what changes; worlds as rows -/
def ag (X : List Nat) (S S' : ri_H) : Prop := ∀ c, c ∉ X → S'.1 c = S.1 c ∧ S'.2 c = S.2 c
theorem ag_refl (X : List Nat) (S : ri_H) : ag X S S := fun _ _ => ⟨rfl, rfl⟩
theorem ag_tr {X : List Nat} {S S1 S2 : ri_H} (h : ag X S S1) (h2 : ag X S1 S2) : ag X S S2 := fun c hc => ⟨(h2 c hc).1.trans (h c hc).1, (h2 c hc).2.trans (h c hc).2⟩
theorem ag_mo {X Y : List Nat} {S S' : ri_H} (h : ag X S S') (hXY : ∀ c, c ∈ X → c ∈ Y) : ag Y S S' := fun c hc => h c (fun hx => hc (hXY c hx))
theorem ri_wr_1 (S : ri_H) (k : Nat) (f : Nat → Int32) : (ri_wr S k f).1 k = f := by
  show cond (Nat.beq k k) f (S.1 k) = f
  rw [Nat.beq_refl]
  rfl
theorem ri_wr_o (S : ri_H) {c k : Nat} (f : Nat → Int32) (h : c ≠ k) : (ri_wr S k f).1 c = S.1 c := by
  show cond (Nat.beq c k) f (S.1 c) = S.1 c
  have : Nat.beq c k = false := by
    rw [← Bool.not_eq_true]
    intro e
    exact h (Nat.eq_of_beq_eq_true e)
  rw [this]
  rfl
theorem ri_wi_1 (S : ri_H) (k j : Nat) (v : Int32) : (ri_wi S k j v).1 k = upd (S.1 k) j v := by
  rw [ri_wi_wr, ri_wr_1]
theorem ri_wi_o (S : ri_H) {c k : Nat} (j : Nat) (v : Int32) (h : c ≠ k) : (ri_wi S k j v).1 c = S.1 c := by
  rw [ri_wi_wr, ri_wr_o _ _ h]
theorem ag_wr {X : List Nat} {S S' : ri_H} {k : Nat} {f : Nat → Int32} (h : ag X S S') (hk : k ∈ X) : ag X S (ri_wr S' k f) := fun c hc =>
  ⟨(ri_wr_o S' f (fun e => by subst e; exact hc hk)).trans (h c hc).1, (h c hc).2⟩
theorem ag_wi {X : List Nat} {S S' : ri_H} {k j : Nat} {v : Int32} (h : ag X S S') (hk : k ∈ X) : ag X S (ri_wi S' k j v) := by
  rw [ri_wi_wr]
  exact ag_wr h hk
theorem ag_wl {X : List Nat} {S S' : ri_H} {k j : Nat} {v : Int64} (h : ag X S S') (hk : k ∈ X) : ag X S (ri_wl S' k j v) := by
  intro c hc
  refine ⟨(h c hc).1, ?_⟩
  rw [← (h c hc).2]
  have : Nat.beq c k = false := by
    rw [← Bool.not_eq_true]
    intro e
    exact hc (Nat.eq_of_beq_eq_true e ▸ hk)
  funext i
  show cond (Nat.beq c k) _ (S'.2 c i) = S'.2 c i
  rw [this]
  rfl
def nz (n : Nat) (f : Nat → Int32) : Nat → Int32 := fun j => if j < n then f j else 0
def gsz (o : Nat) : Nat := if o = 1 then 24 else if o = 2 then 24 else if o < 8 then 5 else 0
def gw (S : ri_H) (w : Nat) : Nat → Nat → Int32 := fun o => if o = 0 then (fun j => if 9 ≤ j ∧ j ≤ 11 then S.1 w j else 0) else nz (gsz o) (S.1 (w + o))
def gset (g : Nat → Nat → Int32) (o : Nat) (f : Nat → Int32) : Nat → Nat → Int32 := fun o' => if o' = o then f else g o'
theorem it_nz (n : Nat) (f : Nat → Int32) (hn : n < 2 ^ 31) (i : Int32) : it (nz n f) n i = it f n i := by
  unfold it
  split
  · rfl
  · split
    · rfl
    · rename_i h1 h2
      rcases pk_ix i hn with h | h | ⟨j, hj, rfl⟩
      · exact absurd h h1
      · exact absurd h h2
      · unfold nz
        rw [nI_clamp (by omega), if_pos hj]
theorem nz_pu (n : Nat) (f : Nat → Int32) (i v : Int32) (hn : n < 2 ^ 31) : nz n (pu n f i v) = pu n (nz n f) i v := by
  unfold pu
  split
  · rfl
  · split
    · rfl
    · rename_i h1 h2
      rcases pk_ix i hn with h | h | ⟨j, hj, rfl⟩
      · exact absurd h h1
      · exact absurd h h2
      · rw [nI_clamp (by omega)]
        funext k
        unfold nz upd
        by_cases hk : k = j
        · subst hk
          rw [if_pos hj]
          simp
        · simp [hk]
theorem gw_z (S : ri_H) (w : Nat) : gw S w 0 = fun j => if 9 ≤ j ∧ j ≤ 11 then S.1 w j else 0 := rfl
theorem gw_p (S : ri_H) (w : Nat) {o : Nat} (h : o ≠ 0) : gw S w o = nz (gsz o) (S.1 (w + o)) := by
  unfold gw
  rw [if_neg h]
theorem gset_s (g : Nat → Nat → Int32) (o : Nat) (f : Nat → Int32) : gset g o f o = f := by
  unfold gset
  rw [if_pos rfl]
theorem gset_o (g : Nat → Nat → Int32) {o o' : Nat} (f : Nat → Int32) (h : o' ≠ o) : gset g o f o' = g o' := by
  unfold gset
  rw [if_neg h]
theorem gw_wr (S : ri_H) (w o : Nat) (f : Nat → Int32) (ho : o ≠ 0) : gw (ri_wr S (w + o) f) w = gset (gw S w) o (nz (gsz o) f) := by
  funext o'
  by_cases h0 : o' = 0
  · subst h0
    rw [gset_o _ _ (fun h => ho h.symm), gw_z, gw_z, ri_wr_o _ _ (by omega)]
  · rw [gw_p _ _ h0]
    by_cases h1 : o' = o
    · subst h1
      rw [gset_s, ri_wr_1]
    · rw [gset_o _ _ h1, gw_p _ _ h0, ri_wr_o _ _ (by omega)]
theorem gw_wi0 (S : ri_H) (w j : Nat) (v : Int32) (hj : 9 ≤ j ∧ j ≤ 11) : gw (ri_wi S w j v) w = gset (gw S w) 0 (upd (gw S w 0) j v) := by
  funext o'
  by_cases h0 : o' = 0
  · subst h0
    rw [gset_s, gw_z, gw_z, ri_wi_1]
    funext i
    unfold upd
    by_cases hi : i = j
    · subst hi
      rw [if_pos hj]
      simp
    · simp [hi]
  · rw [gset_o _ _ h0, gw_p _ _ h0, gw_p _ _ h0, ri_wi_o _ _ _ (by omega)]
theorem gw_ag {X : List Nat} {S S' : ri_H} {w : Nat} (h : ag X S S') (hX : ∀ o, o < 8 → w + o ∉ X) : gw S' w = gw S w := by
  funext o
  unfold gw
  by_cases h0 : o = 0
  · subst h0
    rw [if_pos rfl, if_pos rfl, (h w (hX 0 (by omega))).1]
  · rw [if_neg h0, if_neg h0]
    by_cases h1 : o < 8
    · rw [(h (w + o) (hX o h1)).1]
    · have : gsz o = 0 := by
        unfold gsz
        rw [if_neg (by omega), if_neg (by omega), if_neg h1]
      rw [this]
      funext j
      unfold nz
      rw [if_neg (by omega), if_neg (by omega)]
theorem gw_it (S : ri_H) (w o n : Nat) (hn : gsz o = n) (ho : o ≠ 0) (i : Int32) : it (S.1 (w + o)) n i = it (gw S w o) n i := by
  unfold gw
  rw [if_neg ho, hn, it_nz]
  subst hn
  unfold gsz
  split
  · decide
  · split
    · decide
    · split <;> decide
theorem gw_0 (S : ri_H) (w j : Nat) (hj : 9 ≤ j ∧ j ≤ 11) : S.1 w j = gw S w 0 j := by
  unfold gw
  rw [if_pos rfl, if_pos hj]
