/-! rows of ints, any of them: item, putItem, fill, copyRow -/
def rowk (k n : Nat) : Prop := Nat.beq k 3000 = false ∧ True ∧ ri_lay k = .inr (.inl (.int, n))
def it (f : Nat → Int32) (n : Nat) (i : Int32) : Int32 := if i < 0 then 0 else if Int32.ofNat n ≤ i then 0 else f i.toNatClampNeg
def pu (n : Nat) (f : Nat → Int32) (i v : Int32) : Nat → Int32 := if i < 0 then f else if Int32.ofNat n ≤ i then f else upd f i.toNatClampNeg v
def fil (n : Nat) (v : Int32) (f : Nat → Int32) : Nat → Int32 := fun j => if j < n then v else f j
def cpr (n : Nat) (f g : Nat → Int32) : Nat → Int32 := fun j => if j < n then f j else g j
theorem ri_go_one {E : ri_E} {fr : ri_F} {S : ri_H} {x : (Bool × (ri_F × ri_H) × (ri_F × ri_H)) ⊕ ((Nat × List Value × ri_F × ri_H) ⊕ (Nat × Option Value × ri_H))} (h : ri_step E fr S = some (.inr x)) : ri_go E 1 fr S = some (.inr x) := by
  unfold ri_go
  rw [h]
theorem ri_len_row {E : ri_E} {k n : Nat} (hk : rowk k n) : ri_len E k = some n := by
  obtain ⟨h1, h2, h3⟩ := hk
  unfold ri_len
  rw [h1, h3]
  rfl
theorem ri_wr_self (S : ri_H) (k : Nat) : ri_wr S k (S.1 k) = S := by
  obtain ⟨a, b⟩ := S
  unfold ri_wr
  congr 1
  funext j
  cases h : Nat.beq j k with
  | true =>
    have := Nat.eq_of_beq_eq_true h
    subst this
    rfl
  | false => rfl
theorem ri_wi_wr (S : ri_H) (k j : Nat) (v : Int32) : ri_wi S k j v = ri_wr S k (upd (S.1 k) j v) := by
  unfold ri_wr ri_wi
  congr 1
  funext a
  cases h : Nat.beq a k with
  | true =>
    have := Nat.eq_of_beq_eq_true h
    subst this
    funext b
    show cond true (cond (Nat.beq b j) v (S.1 a b)) (S.1 a b) = upd (S.1 a) j v b
    unfold upd
    by_cases hb : b = j
    · subst hb
      simp
    · have : Nat.beq b j = false := by
        rw [← Bool.not_eq_true]
        intro e
        exact hb (Nat.eq_of_beq_eq_true e)
      rw [this, if_neg hb]
      rfl
  | false => rfl
theorem ri_wr_wr (S : ri_H) (k : Nat) (f g : Nat → Int32) : ri_wr (ri_wr S k f) k g = ri_wr S k g := by
  unfold ri_wr
  congr 1
  funext a
  cases h : Nat.beq a k with
  | true => rfl
  | false =>
    show cond (Nat.beq a k) f (S.1 a) = S.1 a
    rw [h]
    rfl
theorem ri_aldv_ref {k : Nat} (h : Nat.beq k 4000 = false) : ri_aldv (some (.ref k)) = some (.ref k) := by
  show cond (Nat.beq k 4000) none (some (Value.ref k)) = some (Value.ref k)
  rw [h]
  rfl
theorem ri_vin {i : Int32} {n : Nat} (hn : n < 2 ^ 31) (h1 : ¬ i < 0) (h2 : ¬ Int32.ofNat n ≤ i) : vp_in i n := by
  rcases pk_ix i hn with h | h | ⟨j, hj, rfl⟩
  · exact absurd h h1
  · exact absurd h h2
  · exact vp_in_nI hj hn
theorem sp_item {E : ri_E} {S : ri_H} {Q : Option Value → ri_H → Prop} (k n : Nat) (i : Int32) (hk : rowk k n) (hn : n < 2 ^ 31) (h : Q (some (.int (it (S.1 k) n i))) S) : ri_A E 0 (ri_en mX4_item [.ref k, .int i]) S Q := by
  have hlen := ri_len_row (E := E) hk
  obtain ⟨k1, k2, k3⟩ := hk
  refine A_br (i < 0) (r1 := ((98, 16, [some (.ref k), some (.int i)], []), S)) (r2 := ((98, 4, [some (.ref k), some (.int i)], []), S)) 2 rfl (fun c1 => ?_) (fun c1 => ?_)
  · unfold it at h
    rw [if_pos c1] at h
    exact A_ret 2 (m := 98) (v := some (.int 0)) (S' := S) rfl rfl h
  · have e4000 : Nat.beq k 4000 = false := by
      have hkk := (ri_lay_inr k3).1
      exact ri_ne4000 hkk
    have ea : ri_aldv (some (.ref k)) = some (.ref k) := ri_aldv_ref e4000
    refine A_nx 1 (fr' := (98, 5, [some (.ref k), some (.int i)], [.int i])) (S' := S) rfl ?_
    refine ri_A.step (fr' := (98, 6, [some (.ref k), some (.int i)], [.ref k, .int i])) (S' := S) (by show ri_ld 98 6 _ _ S (ri_aldv (some (.ref k))) = _; rw [ea]; rfl) ?_
    refine ri_A.step (fr' := (98, 7, [some (.ref k), some (.int i)], [.int (Int32.ofNat n), .int i])) (S' := S) (by show ri_alen E 98 7 _ S [.ref k, .int i] = _; simp only [ri_alen, hlen]; rfl) ?_
    refine A_br (Int32.ofNat n ≤ i) (r1 := ((98, 16, [some (.ref k), some (.int i)], []), S)) (r2 := ((98, 10, [some (.ref k), some (.int i)], []), S)) 1 rfl (fun c2 => ?_) (fun c2 => ?_)
    · unfold it at h
      rw [if_neg c1, if_pos c2] at h
      exact A_ret 2 (m := 98) (v := some (.int 0)) (S' := S) rfl rfl h
    · unfold it at h
      rw [if_neg c1, if_neg c2] at h
      refine ri_A.step (fr' := (98, 11, [some (.ref k), some (.int i)], [.ref k])) (S' := S) (by show ri_ld 98 11 _ _ S (ri_aldv (some (.ref k))) = _; rw [ea]; rfl) ?_
      refine A_nx 1 (fr' := (98, 12, [some (.ref k), some (.int i)], [.int i, .ref k])) (S' := S) rfl ?_
      refine A_ix i n (r1 := ((98, 13, [some (.ref k), some (.int i)], [.int (S.1 k i.toNatClampNeg)]), S)) (r2 := ((1000000, 0, [], []), S)) 1 (ri_go_one (by show ri_ial E 98 13 _ S [.int i, .ref k] = _; simp only [ri_ial, k1, k2, k3, ri_rd]; rfl)) (ri_vin hn c1 c2) ?_
      exact A_ret 2 (m := 98) (v := some (.int (S.1 k i.toNatClampNeg))) (S' := S) rfl rfl h
theorem sp_putItem {E : ri_E} {S : ri_H} {Q : Option Value → ri_H → Prop} (k n : Nat) (i v : Int32) (hk : rowk k n) (hn : n < 2 ^ 31) (h : Q none (ri_wr S k (pu n (S.1 k) i v))) : ri_A E 0 (ri_en mX4_putItem [.ref k, .int i, .int v]) S Q := by
  have hlen := ri_len_row (E := E) hk
  obtain ⟨k1, k2, k3⟩ := hk
  refine A_br (i < 0) (r1 := ((99, 14, [some (.ref k), some (.int i), some (.int v)], []), S)) (r2 := ((99, 4, [some (.ref k), some (.int i), some (.int v)], []), S)) 2 rfl (fun c1 => ?_) (fun c1 => ?_)
  · unfold pu at h
    rw [if_pos c1, ri_wr_self] at h
    exact A_ret 1 (m := 99) (v := none) (S' := S) rfl rfl h
  · have e4000 : Nat.beq k 4000 = false := by
      have hkk := (ri_lay_inr k3).1
      exact ri_ne4000 hkk
    have ea : ri_aldv (some (.ref k)) = some (.ref k) := ri_aldv_ref e4000
    refine A_nx 1 (fr' := (99, 5, [some (.ref k), some (.int i), some (.int v)], [.int i])) (S' := S) rfl ?_
    refine ri_A.step (fr' := (99, 6, [some (.ref k), some (.int i), some (.int v)], [.ref k, .int i])) (S' := S) (by show ri_ld 99 6 _ _ S (ri_aldv (some (.ref k))) = _; rw [ea]; rfl) ?_
    refine ri_A.step (fr' := (99, 7, [some (.ref k), some (.int i), some (.int v)], [.int (Int32.ofNat n), .int i])) (S' := S) (by show ri_alen E 99 7 _ S [.ref k, .int i] = _; simp only [ri_alen, hlen]; rfl) ?_
    refine A_br (Int32.ofNat n ≤ i) (r1 := ((99, 14, [some (.ref k), some (.int i), some (.int v)], []), S)) (r2 := ((99, 10, [some (.ref k), some (.int i), some (.int v)], []), S)) 1 rfl (fun c2 => ?_) (fun c2 => ?_)
    · unfold pu at h
      rw [if_neg c1, if_pos c2, ri_wr_self] at h
      exact A_ret 1 (m := 99) (v := none) (S' := S) rfl rfl h
    · unfold pu at h
      rw [if_neg c1, if_neg c2, ← ri_wi_wr] at h
      refine ri_A.step (fr' := (99, 11, [some (.ref k), some (.int i), some (.int v)], [.ref k])) (S' := S) (by show ri_ld 99 11 _ _ S (ri_aldv (some (.ref k))) = _; rw [ea]; rfl) ?_
      refine A_nx 2 (fr' := (99, 13, [some (.ref k), some (.int i), some (.int v)], [.int v, .int i, .ref k])) (S' := S) rfl ?_
      refine A_ix i n (r1 := ((99, 14, [some (.ref k), some (.int i), some (.int v)], []), ri_wi S k i.toNatClampNeg v)) (r2 := ((1000000, 0, [], []), S)) 1 (ri_go_one (by show ri_ias 99 14 _ S [.int v, .int i, .ref k] = _; simp only [ri_ias, k3]; rfl)) (ri_vin hn c1 c2) ?_
      exact A_ret 1 (m := 99) (v := none) (S' := ri_wi S k i.toNatClampNeg v) rfl rfl h
theorem fil_step (S : ri_H) (k i n : Nat) (v : Int32) : ri_wi (ri_wr S k (fil i v (S.1 k))) k i v = ri_wr S k (fil (i + 1) v (S.1 k)) := by
  rw [ri_wi_wr, ri_wr_wr, ri_wr_eq]
  congr 1
  funext j
  unfold upd fil
  by_cases h1 : j = i
  · rw [if_pos h1, if_pos (by omega)]
  · rw [if_neg h1]
    by_cases h2 : j < i
    · rw [if_pos h2, if_pos (by omega)]
    · rw [if_neg h2, if_neg (by omega)]
theorem sp_fill {E : ri_E} {S : ri_H} {Q : Option Value → ri_H → Prop} (k n : Nat) (v : Int32) (hk : rowk k n) (hn : n < 2 ^ 31) (h : Q none (ri_wr S k (fil n v (S.1 k)))) : ri_A E 0 (ri_en mX4_fill [.ref k, .int v]) S Q := by
  have hlen := ri_len_row (E := E) hk
  obtain ⟨k1, k2, k3⟩ := hk
  have e4000 : Nat.beq k 4000 = false := ri_ne4000 (ri_lay_inr k3).1
  have ea : ri_aldv (some (.ref k)) = some (.ref k) := ri_aldv_ref e4000
  have loop : ∀ (m i : Nat), i + m = n → ri_A E 0 (100, 2, [some (.ref k), some (.int v), some (.int (nI i))], []) (ri_wr S k (fil i v (S.1 k))) Q := by
    intro m
    induction m with
    | zero =>
      intro i hi
      have e : i = n := by omega
      subst e
      refine A_nx 1 (fr' := (100, 3, [some (.ref k), some (.int v), some (.int (nI i))], [.int (nI i)])) (S' := ri_wr S k (fil i v (S.1 k))) rfl ?_
      refine ri_A.step (fr' := (100, 4, [some (.ref k), some (.int v), some (.int (nI i))], [.ref k, .int (nI i)])) (S' := ri_wr S k (fil i v (S.1 k))) (by show ri_ld 100 4 _ _ _ (ri_aldv (some (.ref k))) = _; rw [ea]; rfl) ?_
      refine ri_A.step (fr' := (100, 5, [some (.ref k), some (.int v), some (.int (nI i))], [.int (Int32.ofNat i), .int (nI i)])) (S' := ri_wr S k (fil i v (S.1 k))) (by show ri_alen E 100 5 _ _ [.ref k, .int (nI i)] = _; simp only [ri_alen, hlen]; rfl) ?_
      refine A_br (Int32.ofNat i ≤ nI i) (r1 := ((100, 18, [some (.ref k), some (.int v), some (.int (nI i))], []), ri_wr S k (fil i v (S.1 k)))) (r2 := ((100, 8, [some (.ref k), some (.int v), some (.int (nI i))], []), ri_wr S k (fil i v (S.1 k)))) 1 rfl (fun c => ?_) (fun c => absurd (nI_le (Nat.le_refl i) hn) c)
      exact A_ret 1 (m := 100) (v := none) (S' := ri_wr S k (fil i v (S.1 k))) rfl rfl h
    | succ m ih =>
      intro i hi
      have hlt : i < n := by omega
      have c2 : ¬ Int32.ofNat n ≤ nI i := nI_ge hlt hn
      refine A_nx 1 (fr' := (100, 3, [some (.ref k), some (.int v), some (.int (nI i))], [.int (nI i)])) (S' := ri_wr S k (fil i v (S.1 k))) rfl ?_
      refine ri_A.step (fr' := (100, 4, [some (.ref k), some (.int v), some (.int (nI i))], [.ref k, .int (nI i)])) (S' := ri_wr S k (fil i v (S.1 k))) (by show ri_ld 100 4 _ _ _ (ri_aldv (some (.ref k))) = _; rw [ea]; rfl) ?_
      refine ri_A.step (fr' := (100, 5, [some (.ref k), some (.int v), some (.int (nI i))], [.int (Int32.ofNat n), .int (nI i)])) (S' := ri_wr S k (fil i v (S.1 k))) (by show ri_alen E 100 5 _ _ [.ref k, .int (nI i)] = _; simp only [ri_alen, hlen]; rfl) ?_
      refine A_br (Int32.ofNat n ≤ nI i) (r1 := ((100, 18, [some (.ref k), some (.int v), some (.int (nI i))], []), ri_wr S k (fil i v (S.1 k)))) (r2 := ((100, 8, [some (.ref k), some (.int v), some (.int (nI i))], []), ri_wr S k (fil i v (S.1 k)))) 1 rfl (fun c => absurd c c2) (fun c => ?_)
      refine ri_A.step (fr' := (100, 9, [some (.ref k), some (.int v), some (.int (nI i))], [.ref k])) (S' := ri_wr S k (fil i v (S.1 k))) (by show ri_ld 100 9 _ _ _ (ri_aldv (some (.ref k))) = _; rw [ea]; rfl) ?_
      refine A_nx 2 (fr' := (100, 11, [some (.ref k), some (.int v), some (.int (nI i))], [.int v, .int (nI i), .ref k])) (S' := ri_wr S k (fil i v (S.1 k))) rfl ?_
      refine A_ix (nI i) n (r1 := ((100, 12, [some (.ref k), some (.int v), some (.int (nI i))], []), ri_wi (ri_wr S k (fil i v (S.1 k))) k (nI i).toNatClampNeg v)) (r2 := ((1000000, 0, [], []), ri_wr S k (fil i v (S.1 k)))) 1 (ri_go_one (by show ri_ias 100 12 _ _ [.int v, .int (nI i), .ref k] = _; simp only [ri_ias, k3]; rfl)) (vp_in_nI hlt hn) ?_
      dsimp only
      rw [nI_clamp (by omega), fil_step S k i n v]
      refine A_nx 2 (fr' := (100, 2, [some (.ref k), some (.int v), some (.int (nI i + 1))], [])) (S' := ri_wr S k (fil (i + 1) v (S.1 k))) rfl ?_
      rw [nI_1]
      exact ih (i + 1) (by omega)
  have h0 := loop n 0 (by omega)
  rw [show fil 0 v (S.1 k) = S.1 k by funext j; unfold fil; rw [if_neg (by omega)], ri_wr_self] at h0
  exact A_nx 2 (fr' := (100, 2, [some (.ref k), some (.int v), some (.int (nI 0))], [])) (S' := S) rfl h0
theorem cpr_step (S : ri_H) (f t i : Nat) (hft : f ≠ t) : ri_wi (ri_wr S t (cpr i (S.1 f) (S.1 t))) t i ((ri_wr S t (cpr i (S.1 f) (S.1 t))).1 f i) = ri_wr S t (cpr (i + 1) (S.1 f) (S.1 t)) := by
  rw [ri_wi_wr, ri_wr_wr, ri_wr_eq, ri_wr_ne hft]
  congr 1
  funext j
  unfold upd cpr
  by_cases h1 : j = i
  · rw [if_pos h1, if_pos (by omega), h1]
  · rw [if_neg h1]
    by_cases h2 : j < i
    · rw [if_pos h2, if_pos (by omega)]
    · rw [if_neg h2, if_neg (by omega)]
theorem sp_copyRow {E : ri_E} {S : ri_H} {Q : Option Value → ri_H → Prop} (f k n : Nat) (hf : rowk f n) (hk : rowk k n) (hn : n < 2 ^ 31) (hfk : f ≠ k) (h : Q none (ri_wr S k (cpr n (S.1 f) (S.1 k)))) : ri_A E 0 (ri_en mX4_copyRow [.ref f, .ref k]) S Q := by
  have hlen := ri_len_row (E := E) hk
  have hlenf := ri_len_row (E := E) hf
  obtain ⟨k1, k2, k3⟩ := hk
  obtain ⟨f1, f2, f3⟩ := hf
  have e4000 : Nat.beq k 4000 = false := ri_ne4000 (ri_lay_inr k3).1
  have ea : ri_aldv (some (.ref k)) = some (.ref k) := ri_aldv_ref e4000
  have e4001 : Nat.beq f 4000 = false := ri_ne4000 (ri_lay_inr f3).1
  have eb : ri_aldv (some (.ref f)) = some (.ref f) := ri_aldv_ref e4001
  have loop : ∀ (m i : Nat), i + m = n → ri_A E 0 (101, 2, [some (.ref f), some (.ref k), some (.int (nI i))], []) (ri_wr S k (cpr i (S.1 f) (S.1 k))) Q := by
    intro m
    induction m with
    | zero =>
      intro i hi
      have e : i = n := by omega
      subst e
      refine A_nx 1 (fr' := (101, 3, [some (.ref f), some (.ref k), some (.int (nI i))], [.int (nI i)])) (S' := ri_wr S k (cpr i (S.1 f) (S.1 k))) rfl ?_
      refine ri_A.step (fr' := (101, 4, [some (.ref f), some (.ref k), some (.int (nI i))], [.ref f, .int (nI i)])) (S' := ri_wr S k (cpr i (S.1 f) (S.1 k))) (by show ri_ld 101 4 _ _ _ (ri_aldv (some (.ref f))) = _; rw [eb]; rfl) ?_
      refine ri_A.step (fr' := (101, 5, [some (.ref f), some (.ref k), some (.int (nI i))], [.int (Int32.ofNat i), .int (nI i)])) (S' := ri_wr S k (cpr i (S.1 f) (S.1 k))) (by show ri_alen E 101 5 _ _ [.ref f, .int (nI i)] = _; simp only [ri_alen, hlenf]; rfl) ?_
      refine A_br (Int32.ofNat i ≤ nI i) (r1 := ((101, 26, [some (.ref f), some (.ref k), some (.int (nI i))], []), ri_wr S k (cpr i (S.1 f) (S.1 k)))) (r2 := ((101, 8, [some (.ref f), some (.ref k), some (.int (nI i))], []), ri_wr S k (cpr i (S.1 f) (S.1 k)))) 1 rfl (fun c => ?_) (fun c => absurd (nI_le (Nat.le_refl i) hn) c)
      exact A_ret 1 (m := 101) (v := none) (S' := ri_wr S k (cpr i (S.1 f) (S.1 k))) rfl rfl h
    | succ m ih =>
      intro i hi
      have hlt : i < n := by omega
      have c2 : ¬ Int32.ofNat n ≤ nI i := nI_ge hlt hn
      refine A_nx 1 (fr' := (101, 3, [some (.ref f), some (.ref k), some (.int (nI i))], [.int (nI i)])) (S' := ri_wr S k (cpr i (S.1 f) (S.1 k))) rfl ?_
      refine ri_A.step (fr' := (101, 4, [some (.ref f), some (.ref k), some (.int (nI i))], [.ref f, .int (nI i)])) (S' := ri_wr S k (cpr i (S.1 f) (S.1 k))) (by show ri_ld 101 4 _ _ _ (ri_aldv (some (.ref f))) = _; rw [eb]; rfl) ?_
      refine ri_A.step (fr' := (101, 5, [some (.ref f), some (.ref k), some (.int (nI i))], [.int (Int32.ofNat n), .int (nI i)])) (S' := ri_wr S k (cpr i (S.1 f) (S.1 k))) (by show ri_alen E 101 5 _ _ [.ref f, .int (nI i)] = _; simp only [ri_alen, hlenf]; rfl) ?_
      refine A_br (Int32.ofNat n ≤ nI i) (r1 := ((101, 26, [some (.ref f), some (.ref k), some (.int (nI i))], []), ri_wr S k (cpr i (S.1 f) (S.1 k)))) (r2 := ((101, 8, [some (.ref f), some (.ref k), some (.int (nI i))], []), ri_wr S k (cpr i (S.1 f) (S.1 k)))) 1 rfl (fun c => absurd c c2) (fun c => ?_)
      refine A_nx 1 (fr' := (101, 9, [some (.ref f), some (.ref k), some (.int (nI i))], [.int (nI i)])) (S' := ri_wr S k (cpr i (S.1 f) (S.1 k))) rfl ?_
      refine ri_A.step (fr' := (101, 10, [some (.ref f), some (.ref k), some (.int (nI i))], [.ref k, .int (nI i)])) (S' := ri_wr S k (cpr i (S.1 f) (S.1 k))) (by show ri_ld 101 10 _ _ _ (ri_aldv (some (.ref k))) = _; rw [ea]; rfl) ?_
      refine ri_A.step (fr' := (101, 11, [some (.ref f), some (.ref k), some (.int (nI i))], [.int (Int32.ofNat n), .int (nI i)])) (S' := ri_wr S k (cpr i (S.1 f) (S.1 k))) (by show ri_alen E 101 11 _ _ [.ref k, .int (nI i)] = _; simp only [ri_alen, hlen]; rfl) ?_
      refine A_br (Int32.ofNat n ≤ nI i) (r1 := ((101, 26, [some (.ref f), some (.ref k), some (.int (nI i))], []), ri_wr S k (cpr i (S.1 f) (S.1 k)))) (r2 := ((101, 14, [some (.ref f), some (.ref k), some (.int (nI i))], []), ri_wr S k (cpr i (S.1 f) (S.1 k)))) 1 rfl (fun c => absurd c c2) (fun c => ?_)
      refine ri_A.step (fr' := (101, 15, [some (.ref f), some (.ref k), some (.int (nI i))], [.ref k])) (S' := ri_wr S k (cpr i (S.1 f) (S.1 k))) (by show ri_ld 101 15 _ _ _ (ri_aldv (some (.ref k))) = _; rw [ea]; rfl) ?_
      refine A_nx 1 (fr' := (101, 16, [some (.ref f), some (.ref k), some (.int (nI i))], [.int (nI i), .ref k])) (S' := ri_wr S k (cpr i (S.1 f) (S.1 k))) rfl ?_
      refine ri_A.step (fr' := (101, 17, [some (.ref f), some (.ref k), some (.int (nI i))], [.ref f, .int (nI i), .ref k])) (S' := ri_wr S k (cpr i (S.1 f) (S.1 k))) (by show ri_ld 101 17 _ _ _ (ri_aldv (some (.ref f))) = _; rw [eb]; rfl) ?_
      refine A_nx 1 (fr' := (101, 18, [some (.ref f), some (.ref k), some (.int (nI i))], [.int (nI i), .ref f, .int (nI i), .ref k])) (S' := ri_wr S k (cpr i (S.1 f) (S.1 k))) rfl ?_
      refine A_ix (nI i) n (r1 := ((101, 19, [some (.ref f), some (.ref k), some (.int (nI i))], [.int ((ri_wr S k (cpr i (S.1 f) (S.1 k))).1 f (nI i).toNatClampNeg), .int (nI i), .ref k]), ri_wr S k (cpr i (S.1 f) (S.1 k)))) (r2 := ((1000000, 0, [], []), ri_wr S k (cpr i (S.1 f) (S.1 k)))) 1 (ri_go_one (by show ri_ial E 101 19 _ _ [.int (nI i), .ref f, .int (nI i), .ref k] = _; simp only [ri_ial, f1, f2, f3, ri_rd]; rfl)) (vp_in_nI hlt hn) ?_
      refine A_ix (nI i) n (r1 := ((101, 20, [some (.ref f), some (.ref k), some (.int (nI i))], []), ri_wi (ri_wr S k (cpr i (S.1 f) (S.1 k))) k (nI i).toNatClampNeg ((ri_wr S k (cpr i (S.1 f) (S.1 k))).1 f (nI i).toNatClampNeg))) (r2 := ((1000000, 0, [], []), ri_wr S k (cpr i (S.1 f) (S.1 k)))) 1 (ri_go_one (by show ri_ias 101 20 _ _ [.int _, .int (nI i), .ref k] = _; simp only [ri_ias, k3]; rfl)) (vp_in_nI hlt hn) ?_
      dsimp only
      rw [nI_clamp (by omega), cpr_step S f k i hfk]
      refine A_nx 2 (fr' := (101, 2, [some (.ref f), some (.ref k), some (.int (nI i + 1))], [])) (S' := ri_wr S k (cpr (i + 1) (S.1 f) (S.1 k))) rfl ?_
      rw [nI_1]
      exact ih (i + 1) (by omega)
  have h0 := loop n 0 (by omega)
  rw [show cpr 0 (S.1 f) (S.1 k) = S.1 k by funext j; unfold cpr; rw [if_neg (by omega)], ri_wr_self] at h0
  refine A_nx 2 (fr' := (101, 2, [some (.ref f), some (.ref k), some (.int (nI 0))], [])) (S' := S) rfl h0
