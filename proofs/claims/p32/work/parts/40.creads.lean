/-! the class reads: what holds on the way -/
def cfr (S S' : ri_H) : Prop := ag [1, 2, 5] S S' ∧ (∀ j, j ≠ 6 → j ≠ 7 → S'.1 5 j = S.1 5 j) ∧ ∀ j, j ≠ 4 → S'.1 1 j = S.1 1 j
def cR (w : Nat) (S S' : ri_H) : Prop := cfr S S' ∧ ∀ j, j < w → S'.1 2 j = S.1 2 j
def cS (f : Nat → Int32) (n m : Nat) (S : ri_H) (i w : Nat) : Prop := ctk f n m S ∧ i ≤ m ∧ S.1 5 6 = nI i ∧ S.1 5 7 = -1 ∧ S.1 1 4 = nI w ∧ w + (n - hs f n i) ≤ 960
def cM (f : Nat → Int32) (n m : Nat) (S0 : ri_H) (i0 w sl : Nat) (c : List Int32) (S : ri_H) (i : Nat) : Prop := cR w S0 S ∧ cS f n m S i (w + c.length) ∧ (∀ j, j < c.length → S.1 2 (w + j) = c.getD j 0) ∧ c.length + sl + hs f n i0 ≤ hs f n i
def cFl (f : Nat → Int32) (n : Nat) (S0 : ri_H) (i0 w sl x : Nat) (S : ri_H) (w' : Nat) : Prop := cR w S0 S ∧ S.1 5 7 = nI x ∧ x ≤ n ∧ S.1 1 4 = nI w' ∧ w ≤ w' ∧ w' + sl ≤ w + (n - hs f n i0)
def CRp (f : Nat → Int32) (n m : Nat) (r : pR) (S0 : ri_H) (i0 w : Nat) (Q : ri_H → Prop) : Prop := (∀ x S' w', r = .inl x → cFl f n S0 i0 w 0 x S' w' → Q S') ∧ ∀ c S' i', r = .inr (c, hs f n i') → cM f n m S0 i0 w 0 c S' i' → Q S'
def CR (f : Nat → Int32) (n m : Nat) (F : pF) (C : ri_H → (ri_H → Prop) → Prop) : Prop := ∀ S i w Q, cS f n m S i w → CRp f n m (F (hs f n i)) S i w Q → C S Q
def CB (C : ri_H → (ri_H → Prop) → Prop) : Prop := ∀ S Q, ¬ S.1 5 7 = -1 → Q S → C S Q
theorem ctk_ag {f : Nat → Int32} {n m : Nat} {S S' : ri_H} {X : List Nat} (h : ctk f n m S) (ha : ag X S S') (h7 : 7 ∉ X) (h8 : 8 ∉ X) (h9 : 9 ∉ X) : ctk f n m S' := by
  unfold ctk ctg at h ⊢
  rw [(ha 7 h7).1, (ha 8 h8).1, (ha 9 h9).1]
  exact h
theorem cfr_refl (S : ri_H) : cfr S S := ⟨ag_refl _ _, fun _ _ _ => rfl, fun _ _ => rfl⟩
theorem cfr_tr {S S1 S2 : ri_H} (h : cfr S S1) (h2 : cfr S1 S2) : cfr S S2 := ⟨ag_tr h.1 h2.1, fun j a b => (h2.2.1 j a b).trans (h.2.1 j a b), fun j a => (h2.2.2 j a).trans (h.2.2 j a)⟩
theorem cfr_56 {S S' : ri_H} {v : Int32} (h : cfr S S') : cfr S (ri_wi S' 5 6 v) := by
  refine ⟨ag_wi h.1 (by decide), fun j a b => ?_, fun j a => ?_⟩
  · rw [ri_wi_1, pk_un a]
    exact h.2.1 j a b
  · rw [ri_wi_o _ _ _ (by decide)]
    exact h.2.2 j a
theorem cfr_57 {S S' : ri_H} {v : Int32} (h : cfr S S') : cfr S (ri_wi S' 5 7 v) := by
  refine ⟨ag_wi h.1 (by decide), fun j a b => ?_, fun j a => ?_⟩
  · rw [ri_wi_1, pk_un b]
    exact h.2.1 j a b
  · rw [ri_wi_o _ _ _ (by decide)]
    exact h.2.2 j a
def wrt (S : ri_H) (w : Nat) (a : Int32) : ri_H := ri_wi (ri_wr S 2 (upd (S.1 2) w a)) 1 4 (nI (w + 1))
theorem wrt_1 {S : ri_H} {w : Nat} {a : Int32} : (wrt S w a).1 1 = upd (S.1 1) 4 (nI (w + 1)) := by
  unfold wrt
  rw [ri_wi_1, ri_wr_o _ _ (by decide)]
theorem wrt_2 {S : ri_H} {w : Nat} {a : Int32} : (wrt S w a).1 2 = upd (S.1 2) w a := by
  unfold wrt
  rw [ri_wi_o _ _ _ (by decide), ri_wr_1]
theorem wrt_5 {S : ri_H} {w : Nat} {a : Int32} : (wrt S w a).1 5 = S.1 5 := by
  unfold wrt
  rw [ri_wi_o _ _ _ (by decide), ri_wr_o _ _ (by decide)]
theorem cfr_wrt {S S' : ri_H} {w : Nat} {a : Int32} (h : cfr S S') : cfr S (wrt S' w a) := by
  refine ⟨ag_wi (ag_wr h.1 (by decide)) (by decide), fun j p q => ?_, fun j p => ?_⟩
  · rw [wrt_5]
    exact h.2.1 j p q
  · rw [wrt_1, pk_un p]
    exact h.2.2 j p
theorem w28_ok {S : ri_H} {Q : ri_H → Prop} {w : Nat} {a : Int32} (h4 : S.1 1 4 = nI w) (hw : w < 960) (hQ : Q (wrt S w a)) : w28 a S Q := by
  unfold w28
  rw [h4, pu_nI _ _ hw (by decide), nI_1]
  exact hQ
section CS
variable {f : Nat → Int32} {n m : Nat} {S0 S : ri_H} {i0 w sl i x w' : Nat} {c : List Int32} {a : Int32} {Q : ri_H → Prop}
theorem getD_app1 {c d : List Int32} {j : Nat} (h : j < c.length) : (c ++ d).getD j 0 = c.getD j 0 := by
  rw [List.getD_eq_getElem?_getD, List.getD_eq_getElem?_getD, List.getElem?_append_left h]
theorem getD_app2 {c d : List Int32} {j : Nat} (h : c.length ≤ j) : (c ++ d).getD j 0 = d.getD (j - c.length) 0 := by
  rw [List.getD_eq_getElem?_getD, List.getD_eq_getElem?_getD, List.getElem?_append_right h]
theorem cM_0 (h : cS f n m S i w) : cM f n m S i w 0 [] S i :=
  ⟨⟨cfr_refl _, fun _ _ => rfl⟩, h, fun j hj => absurd hj (Nat.not_lt_zero j), by simp⟩
theorem cM_0' (h : cM f n m S0 i0 w sl c S i) : cM f n m S0 i0 w 0 c S i := ⟨h.1, h.2.1, h.2.2.1, by have := h.2.2.2; omega⟩
theorem cFl_0' (h : cFl f n S0 i0 w sl x S w') : cFl f n S0 i0 w 0 x S w' := ⟨h.1, h.2.1, h.2.2.1, h.2.2.2.1, h.2.2.2.2.1, by have := h.2.2.2.2.2; omega⟩
/-- a token on -/
theorem cM_nx (h : cM f n m S0 i0 w sl c S i) (p0 : pso f n (hs f n i) ≠ 0) (p1 : pso f n (hs f n i) ≠ 1) : cM f n m S0 i0 w (sl + 1) c (ri_wi S 5 6 (nI (i + 1))) (i + 1) := by
  obtain ⟨⟨h1, h1'⟩, ⟨h2, h3, h4, h5, h6, h7⟩, h8, h9⟩ := h
  have hm : i ≠ m := by
    intro e
    subst e
    rcases h2.2.2.2 with q | q
    · exact p0 q
    · exact p1 q
  have hl : hs f n i < hs f n (i + 1) := pen_lt (hs_b i) p0
  refine ⟨⟨cfr_56 h1, fun j hj => ?_⟩, ⟨ctk_ag h2 (ag_wi (ag_refl [5] _) (by decide)) (by decide) (by decide) (by decide), by omega, ?_, ?_, ?_, by omega⟩, fun j hj => ?_, by omega⟩
  · rw [ri_wi_o _ _ _ (by decide)]
    exact h1' j hj
  · rw [ri_wi_1, pk_us]
  · rw [ri_wi_1, pk_un (by decide)]
    exact h5
  · rw [ri_wi_o _ _ _ (by decide)]
    exact h6
  · rw [ri_wi_o _ _ _ (by decide)]
    exact h8 j hj
/-- a step more is written -/
theorem cM_wr (h : cM f n m S0 i0 w (sl + 1) c S i) (hw : w + (n - hs f n i0) ≤ 960) : w + c.length < 960 ∧ cM f n m S0 i0 w sl (c ++ [a]) (wrt S (w + c.length) a) i := by
  obtain ⟨⟨h1, h1'⟩, ⟨h2, h3, h4, h5, h6, h7⟩, h8, h9⟩ := h
  have hb := hs_b (f := f) (n := n) i
  refine ⟨by omega, ⟨cfr_wrt h1, fun j hj => ?_⟩, ⟨ctk_ag h2 (X := [1, 2, 5]) (cfr_wrt (cfr_refl S)).1 (by decide) (by decide) (by decide), h3, ?_, ?_, ?_, ?_⟩, fun j hj => ?_, ?_⟩
  · rw [wrt_2, pk_un (by omega)]
    exact h1' j hj
  · rw [wrt_5]
    exact h4
  · rw [wrt_5]
    exact h5
  · rw [wrt_1, pk_us]
    simp [Nat.add_assoc]
  · simp
    omega
  · rw [wrt_2]
    simp at hj
    by_cases e : j = c.length
    · subst e
      rw [pk_us, getD_app2 (Nat.le_refl _)]
      simp
    · rw [pk_un (by omega), getD_app1 (by omega)]
      exact h8 j (by omega)
  · simp
    omega
theorem cFl_wr (h : cFl f n S0 i0 w (sl + 1) x S w') (hw : w + (n - hs f n i0) ≤ 960) : w' < 960 ∧ cFl f n S0 i0 w sl x (wrt S w' a) (w' + 1) := by
  obtain ⟨⟨h1, h1'⟩, h2, h3, h4, h5, h6⟩ := h
  refine ⟨by omega, ⟨cfr_wrt h1, fun j hj => ?_⟩, ?_, h3, ?_, by omega, by omega⟩
  · rw [wrt_2, pk_un (by omega)]
    exact h1' j hj
  · rw [wrt_5]
    exact h2
  · rw [wrt_1, pk_us]
theorem cFl_bad (h : cFl f n S0 i0 w sl x S w') (hn : n ≤ 160) : ¬ S.1 5 7 = -1 := by
  rw [h.2.1]
  have := h.2.2.1
  intro e
  exact nI_pos (n := x) (by omega) (by rw [e]; decide)
theorem cM_wr' (h : cM f n m S0 i0 w (sl + 1) c S i) (hw : w + (n - hs f n i0) ≤ 960) (hQ : ∀ S', cM f n m S0 i0 w sl (c ++ [a]) S' i → Q S') : w28 a S Q := by
  obtain ⟨k1, k2⟩ := cM_wr (a := a) h hw
  exact w28_ok h.2.1.2.2.2.2.1 k1 (hQ _ k2)
theorem cFl_wr' (h : cFl f n S0 i0 w (sl + 1) x S w') (hw : w + (n - hs f n i0) ≤ 960) (hQ : ∀ S' w', cFl f n S0 i0 w sl x S' w' → Q S') : w28 a S Q := by
  obtain ⟨k1, k2⟩ := cFl_wr (a := a) h hw
  exact w28_ok h.2.2.2.1 k1 (hQ _ _ k2)
/-- a reader called on the way -/
theorem cM_call {F : pF} {C : ri_H → (ri_H → Prop) → Prop} (hC : CR f n m F C) (hF : pgd n F) (h : cM f n m S0 i0 w sl c S i) (h1 : ∀ x S' w', F (hs f n i) = .inl x → cFl f n S0 i0 w sl x S' w' → Q S') (h2 : ∀ d S' i', F (hs f n i) = .inr (d, hs f n i') → cM f n m S0 i0 w sl (c ++ d) S' i' → Q S') : C S Q := by
  obtain ⟨⟨k1, k1'⟩, k2, k3, k4⟩ := h
  have hb := hs_b (f := f) (n := n) i
  refine hC S i _ Q k2 ⟨fun x S' w' e hf => ?_, fun d S' i' e hm => ?_⟩
  · obtain ⟨⟨g1, g1'⟩, g2, g3, g4, g5, g6⟩ := hf
    exact h1 x S' w' e ⟨⟨cfr_tr k1 g1, fun j hj => (g1' j (by omega)).trans (k1' j hj)⟩, g2, g3, g4, by omega, by omega⟩
  · obtain ⟨⟨g1, g1'⟩, g2, g3, g4⟩ := hm
    obtain ⟨a1, a2, a3, a4⟩ := hF _ _ _ hb e
    refine h2 d S' i' e ⟨⟨cfr_tr k1 g1, fun j hj => (g1' j (by omega)).trans (k1' j hj)⟩, ?_, fun j hj => ?_, ?_⟩
    · have e2 : w + (c ++ d).length = w + c.length + d.length := by simp; omega
      rw [e2]
      exact g2
    · simp at hj
      by_cases q : j < c.length
      · rw [getD_app1 q, g1' (w + j) (by omega)]
        exact k3 j q
      · have e3 : w + j = w + c.length + (j - c.length) := by omega
        rw [getD_app2 (by omega), e3]
        exact g3 _ (by omega)
    · simp
      omega
/-- the token at hand -/
theorem w12_ok {Q : Int32 → ri_H → Prop} (hn : n ≤ 160) (h : cS f n m S i w) (hQ : Q (pso f n (hs f n i)) S) : w12 S Q := by
  unfold w12
  obtain ⟨h1, h2, h3, h4, h5, h6⟩ := h
  rw [h3, it_nI _ (show i < 161 by have := h1.1; omega) (by decide), (h1.2.1 i h2).1]
  exact ⟨fun c => absurd h4 c, fun _ => hQ⟩
theorem w12_bad {Q : Int32 → ri_H → Prop} (h : ¬ S.1 5 7 = -1) (hQ : Q 1 S) : w12 S Q := ⟨fun _ => hQ, fun c => absurd h c⟩
theorem w13_ok {Q : Int32 → ri_H → Prop} (hn : n ≤ 160) (h : cS f n m S i w) (h1 : pso f n (hs f n i) = a → Q 1 (ri_wi S 5 6 (nI (i + 1)))) (h0 : pso f n (hs f n i) ≠ a → Q 0 S) : w13 a S Q := by
  unfold w13
  refine w12_ok hn h ⟨fun c => ?_, fun c => h0 c⟩
  rw [h.2.2.1, nI_1]
  exact h1 c
theorem w13_bad {Q : Int32 → ri_H → Prop} (h : ¬ S.1 5 7 = -1) (ha : ¬ 1 = a) (hQ : Q 0 S) : w13 a S Q := by
  unfold w13
  exact w12_bad h ⟨fun c => absurd c ha, fun _ => hQ⟩
theorem w15_bad (h : ¬ S.1 5 7 = -1) (hQ : Q S) : w15 a S Q := ⟨fun _ => hQ, fun c => absurd h c⟩
/-- a fault at a token -/
theorem w15_ok (hn : n ≤ 160) {S' : ri_H} {j : Nat} (h : cM f n m S0 i0 w sl c S i) (hj : j ≤ m) (h9 : S'.1 9 = S.1 9) (h14 : S'.1 1 = S.1 1) (h57 : S'.1 5 7 = -1) (hc : cR w S0 S') (hQ : ∀ S2 w', cFl f n S0 i0 w sl (ppl f n (hs f n j)) S2 w' → Q S2) : w15 (nI j) S' Q := by
  unfold w15
  obtain ⟨h1, h2, h3, h4⟩ := h
  have hb := hs_b (f := f) (n := n) i
  rw [h9, it_nI _ (show j < 161 by have := h2.1.1; omega) (by decide), (h2.1.2.1 j hj).2.2]
  refine ⟨fun q => absurd h57 q, fun _ => hQ _ (w + c.length) ⟨⟨cfr_57 hc.1, fun j hj => ?_⟩, ?_, (ppl_b (hs_b j)).2, ?_, by omega, by omega⟩⟩
  · rw [ri_wi_o _ _ _ (by decide)]
    exact hc.2 j hj
  · rw [ri_wi_1, pk_us]
  · rw [ri_wi_o _ _ _ (by decide), h14]
    exact h2.2.2.2.2.1
theorem w15_at (hn : n ≤ 160) (h : cM f n m S0 i0 w sl c S i) (hQ : ∀ S2 w', cFl f n S0 i0 w sl (ppl f n (hs f n i)) S2 w' → Q S2) : w15 (S.1 5 6) S Q := by
  rw [h.2.1.2.2.1]
  exact w15_ok hn h h.2.1.2.1 rfl rfl h.2.1.2.2.2.1 h.1 hQ
theorem w14_bad (h : ¬ S.1 5 7 = -1) (ha : ¬ 1 = a) (hQ : Q S) : w14 a S Q := by
  unfold w14
  exact w13_bad h ha ⟨fun c => absurd rfl c, fun _ => w15_bad h hQ⟩
theorem w14_ok (hn : n ≤ 160) (h : cM f n m S0 i0 w sl c S i) (ha : a ≠ 1) (h1 : pso f n (hs f n i) = a → ∀ S', S' = ri_wi S 5 6 (nI (i + 1)) → (a ≠ 0 → cM f n m S0 i0 w (sl + 1) c S' (i + 1)) → Q S') (h0 : pso f n (hs f n i) ≠ a → ∀ S2 w', cFl f n S0 i0 w sl (ppl f n (hs f n i)) S2 w' → Q S2) : w14 a S Q := by
  unfold w14
  refine w13_ok hn h.2.1 (fun e => ⟨fun _ => h1 e _ rfl (fun a0 => cM_nx h (by rw [e]; exact a0) (by rw [e]; exact ha)), fun c => absurd (by decide) c⟩) (fun e => ⟨fun c => absurd rfl c, fun _ => w15_at hn h (h0 e)⟩)
end CS
