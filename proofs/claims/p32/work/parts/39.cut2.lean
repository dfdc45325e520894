/-! sorts of tokens, numbers, the tape cut -/
theorem tf1001 : tfact 1001 [116, 97, 107, 101, 115] := by
  unfold tfact
  decide +kernel
theorem tf1002 : tfact 1002 [112, 117, 116, 115] := by
  unfold tfact
  decide +kernel
theorem tf1003 : tfact 1003 [102, 101, 101, 108, 115] := by
  unfold tfact
  decide +kernel
theorem tf1004 : tfact 1004 [111, 114] := by
  unfold tfact
  decide +kernel
theorem tf1005 : tfact 1005 [97, 110, 100] := by
  unfold tfact
  decide +kernel
theorem tf1006 : tfact 1006 [110, 111, 116] := by
  unfold tfact
  decide +kernel
theorem tf1007 : tfact 1007 [99, 114, 111, 115, 115, 105, 110, 103] := by
  unfold tfact
  decide +kernel
theorem tf1008 : tfact 1008 [106, 97, 114] := by
  unfold tfact
  decide +kernel
theorem tf1009 : tfact 1009 [110, 117, 109, 98, 101, 114] := by
  unfold tfact
  decide +kernel
theorem tf1010 : tfact 1010 [121, 101, 97, 114] := by
  unfold tfact
  decide +kernel
theorem tf1011 : tfact 1011 [109, 111, 111, 100] := by
  unfold tfact
  decide +kernel
theorem tf1012 : tfact 1012 [101, 97, 116, 101, 110] := by
  unfold tfact
  decide +kernel
section SORT
variable {S : ri_H} {Q : Int32 → ri_H → Prop} {s e : Nat}
theorem w6n_ok (he : e ≤ 160) (hse : s ≤ e) (hQ : Q (if wl (S.1 6) s e = [99, 114, 111, 115, 115, 105, 110, 103] then 10 else if wl (S.1 6) s e = [106, 97, 114] then 11 else if wl (S.1 6) s e = [110, 117, 109, 98, 101, 114] then 12 else if wl (S.1 6) s e = [121, 101, 97, 114] then 13 else if wl (S.1 6) s e = [109, 111, 111, 100] then 14 else if wl (S.1 6) s e = [101, 97, 116, 101, 110] then 15 else 1) S) : w6_b94 Q (nI s) (nI e) 1 S := by
  unfold w6_b94
  refine ⟨fun _ => ?_, fun c => absurd rfl c⟩
  refine w7_ok tf1007 he hse (fun h => ⟨fun c => absurd c (by decide), fun _ => ?_⟩) (fun h => ⟨fun _ => ?_, fun c => absurd rfl c⟩)
  · rw [if_pos h] at hQ
    exact hQ
  rw [if_neg h] at hQ
  refine w7_ok tf1008 he hse (fun h => ⟨fun c => absurd c (by decide), fun _ => ?_⟩) (fun h => ⟨fun _ => ?_, fun c => absurd rfl c⟩)
  · rw [if_pos h] at hQ
    exact hQ
  rw [if_neg h] at hQ
  refine w7_ok tf1009 he hse (fun h => ⟨fun c => absurd c (by decide), fun _ => ?_⟩) (fun h => ⟨fun _ => ?_, fun c => absurd rfl c⟩)
  · rw [if_pos h] at hQ
    exact hQ
  rw [if_neg h] at hQ
  refine w7_ok tf1010 he hse (fun h => ⟨fun c => absurd c (by decide), fun _ => ?_⟩) (fun h => ⟨fun _ => ?_, fun c => absurd rfl c⟩)
  · rw [if_pos h] at hQ
    exact hQ
  rw [if_neg h] at hQ
  refine w7_ok tf1011 he hse (fun h => ⟨fun c => absurd c (by decide), fun _ => ?_⟩) (fun h => ⟨fun _ => ?_, fun c => absurd rfl c⟩)
  · rw [if_pos h] at hQ
    exact hQ
  rw [if_neg h] at hQ
  refine w7_ok tf1012 he hse (fun h => ⟨fun c => absurd c (by decide), fun _ => ?_⟩) (fun h => ⟨fun _ => ?_, fun c => absurd rfl c⟩)
  · rw [if_pos h] at hQ
    exact hQ
  rw [if_neg h] at hQ
  exact hQ
theorem w6_ok (he : e ≤ 160) (hse : s ≤ e) (hQ : Q (wsort (wl (S.1 6) s e)) S) : w6 (nI s) (nI e) S Q := by
  unfold w6
  unfold wsort at hQ
  refine w7_ok tf1001 he hse (fun h => ⟨fun c => absurd c (by decide), fun _ => ⟨fun c => absurd c (by decide), fun _ => ?_⟩⟩) (fun h => ⟨fun _ => ?_, fun c => absurd rfl c⟩)
  · rw [if_pos h] at hQ
    exact hQ
  rw [if_neg h] at hQ
  refine w7_ok tf1002 he hse (fun h => ⟨fun c => absurd c (by decide), fun _ => ⟨fun c => absurd c (by decide), fun _ => ?_⟩⟩) (fun h => ⟨fun _ => ?_, fun c => absurd rfl c⟩)
  · rw [if_pos h] at hQ
    exact hQ
  rw [if_neg h] at hQ
  refine w7_ok tf1003 he hse (fun h => ⟨fun c => absurd c (by decide), fun _ => ⟨fun c => absurd c (by decide), fun _ => ?_⟩⟩) (fun h => ⟨fun _ => ?_, fun c => absurd rfl c⟩)
  · rw [if_pos h] at hQ
    exact hQ
  rw [if_neg h] at hQ
  refine w7_ok tf1004 he hse (fun h => ⟨fun c => absurd c (by decide), fun _ => ⟨fun c => absurd c (by decide), fun _ => ?_⟩⟩) (fun h => ⟨fun _ => ?_, fun c => absurd rfl c⟩)
  · rw [if_pos h] at hQ
    exact hQ
  rw [if_neg h] at hQ
  refine w7_ok tf1005 he hse (fun h => ⟨fun c => absurd c (by decide), fun _ => ⟨fun c => absurd c (by decide), fun _ => ?_⟩⟩) (fun h => ⟨fun _ => ?_, fun c => absurd rfl c⟩)
  · rw [if_pos h] at hQ
    exact hQ
  rw [if_neg h] at hQ
  refine w7_ok tf1006 he hse (fun h => ⟨fun c => absurd c (by decide), fun _ => ⟨fun c => absurd c (by decide), fun _ => ?_⟩⟩) (fun h => ⟨fun _ => ?_, fun c => absurd rfl c⟩)
  · rw [if_pos h] at hQ
    exact hQ
  rw [if_neg h] at hQ
  exact w6n_ok he hse hQ
theorem w5_ok (he : e ≤ 160) (hse : s < e) (hQ : Q (tks (S.1 6) s e) S) : w5 (nI s) (nI e) S Q := by
  unfold w5
  have hx : it (S.1 6) 160 (nI s) = S.1 6 s := it_nI _ (by omega) (by decide)
  rw [hx]
  unfold tks at hQ
  refine w10_ok (fun h => ⟨fun c => absurd c (by decide), fun _ => ?_⟩) (fun h => ⟨fun _ => ?_, fun c => absurd rfl c⟩)
  · rw [if_pos h] at hQ
    exact w6_ok he (by omega) hQ
  rw [if_neg (by rw [h]; decide)] at hQ
  refine w11_ok (fun h => ⟨fun c => absurd c (by decide), fun _ => ?_⟩) (fun h => ⟨fun _ => ?_, fun c => absurd rfl c⟩)
  · rw [if_pos h] at hQ
    rw [pk_sub (by omega)]
    refine ⟨fun c => ?_, fun c => ?_⟩
    · have c' := (nI_leI (b := 4) (by omega) (by decide)).mp c
      rw [if_neg (by omega)] at hQ
      exact hQ
    · have c' : ¬ e - s ≤ 4 := fun h => c (nI_le (b := 4) h (by decide))
      rw [if_pos (by omega)] at hQ
      exact hQ
  rw [if_neg (by rw [h]; decide)] at hQ
  refine ⟨fun c => ?_, fun c => ?_, fun c => ?_, fun c => ?_, fun c => ?_, fun c => ?_, fun c => ?_, fun c => ?_, fun c => ?_, fun c => ?_, fun c => ?_, fun c => ?_, fun c => ?_, fun c => ?_, fun c => ?_, fun c => ?_, fun c => ?_, fun c => ?_, fun c => ?_, fun c => ?_, fun c => ?_, fun c => ?_, fun c => ?_⟩
  · have e1 : ssort (S.1 6 s) = 1 := by
      unfold ssort
      rw [if_neg]
      intro hx
      rcases hx with h | h | h | h | h | h | h | h <;> (rw [h] at c; exact absurd c (by decide))
    rw [e1] at hQ
    exact hQ
  · rw [show ssort (S.1 6 s) = S.1 6 s by rw [c]; decide] at hQ
    exact hQ
  · rw [show ssort (S.1 6 s) = S.1 6 s by rw [c]; decide] at hQ
    exact hQ
  · rw [show ssort (S.1 6 s) = S.1 6 s by rw [c]; decide] at hQ
    exact hQ
  · rw [show ssort (S.1 6 s) = S.1 6 s by rw [c]; decide] at hQ
    exact hQ
  · rw [show ssort (S.1 6 s) = 1 by rw [c]; decide] at hQ
    exact hQ
  · rw [show ssort (S.1 6 s) = S.1 6 s by rw [c]; decide] at hQ
    exact hQ
  · rw [show ssort (S.1 6 s) = 1 by rw [c]; decide] at hQ
    exact hQ
  · rw [show ssort (S.1 6 s) = 1 by rw [c]; decide] at hQ
    exact hQ
  · rw [show ssort (S.1 6 s) = 1 by rw [c]; decide] at hQ
    exact hQ
  · rw [show ssort (S.1 6 s) = 1 by rw [c]; decide] at hQ
    exact hQ
  · rw [show ssort (S.1 6 s) = 1 by rw [c]; decide] at hQ
    exact hQ
  · rw [show ssort (S.1 6 s) = 1 by rw [c]; decide] at hQ
    exact hQ
  · rw [show ssort (S.1 6 s) = 1 by rw [c]; decide] at hQ
    exact hQ
  · rw [show ssort (S.1 6 s) = 1 by rw [c]; decide] at hQ
    exact hQ
  · rw [show ssort (S.1 6 s) = 1 by rw [c]; decide] at hQ
    exact hQ
  · rw [show ssort (S.1 6 s) = 1 by rw [c]; decide] at hQ
    exact hQ
  · rw [show ssort (S.1 6 s) = 1 by rw [c]; decide] at hQ
    exact hQ
  · rw [show ssort (S.1 6 s) = 1 by rw [c]; decide] at hQ
    exact hQ
  · rw [show ssort (S.1 6 s) = 1 by rw [c]; decide] at hQ
    exact hQ
  · rw [show ssort (S.1 6 s) = S.1 6 s by rw [c]; decide] at hQ
    exact hQ
  · rw [show ssort (S.1 6 s) = S.1 6 s by rw [c]; decide] at hQ
    exact hQ
  · rw [show ssort (S.1 6 s) = S.1 6 s by rw [c]; decide] at hQ
    exact hQ
theorem w8_loop (he : e ≤ 160) (hQ : Q (num (S.1 6) s (e - s)) S) : ∀ d k, s + k + d = e → w8_l5 Q (d + 1) (nI e) (num (S.1 6) s k) (nI (s + k)) S
  | 0, k, hk => by
    unfold w8_l5
    have ek : e - s = k := by omega
    rw [ek] at hQ
    exact ⟨fun _ => hQ, fun c => absurd (nI_le (by omega) (by omega)) c⟩
  | d + 1, k, hk => by
    unfold w8_l5
    refine ⟨fun c => absurd c (nI_ge (by omega) (by omega)), fun _ => ?_⟩
    rw [it_nI _ (show s + k < 160 by omega) (by decide), nI_1]
    exact w8_loop he hQ d (k + 1) (by omega)
theorem w8_ok (he : e ≤ 160) (hse : s ≤ e) (hQ : Q (num (S.1 6) s (e - s)) S) : w8 (nI s) (nI e) S Q :=
  ⟨e - s + 1, w8_loop he hQ (e - s) 0 (by omega)⟩
end SORT
def hs (f : Nat → Int32) (n : Nat) : Nat → Nat
  | 0 => 0
  | i + 1 => pen f n (hs f n i)
/-- the first m tokens and the one at m stand in the rows; none of the first is an end or a faulty one, that one is -/
def ctg (f : Nat → Int32) (n : Nat) (S : ri_H) (i : Nat) : Prop := S.1 7 i = pso f n (hs f n i) ∧ (pso f n (hs f n i) = 2 → S.1 8 i = pwo f n (hs f n i)) ∧ S.1 9 i = nI (ppl f n (hs f n i))
def ctk (f : Nat → Int32) (n m : Nat) (S : ri_H) : Prop := m ≤ 160 ∧ (∀ i, i ≤ m → ctg f n S i) ∧ (∀ i, i < m → pso f n (hs f n i) ≠ 0 ∧ pso f n (hs f n i) ≠ 1) ∧ (pso f n (hs f n m) = 0 ∨ pso f n (hs f n m) = 1)
def cfc (S S' : ri_H) : Prop := ag [5, 7, 8, 9] S S' ∧ ∀ j, j ≠ 5 → S'.1 5 j = S.1 5 j
theorem hs_b {f : Nat → Int32} {n : Nat} : ∀ i, hs f n i ≤ n
  | 0 => Nat.zero_le _
  | i + 1 => (pen_b (hs_b i)).2
def w3S (S : ri_H) (t : Nat) (a b g : Int32) : ri_H := ri_wi (ri_wr (ri_wr (ri_wr S 7 (upd (S.1 7) t a)) 8 (upd (S.1 8) t b)) 9 (upd (S.1 9) t g)) 5 5 (nI (t + 1))
theorem w3_ok {S : ri_H} {Q : ri_H → Prop} {t : Nat} {a b g : Int32} (ht : t ≤ 160) (h5 : S.1 5 5 = nI t) (hQ : Q (w3S S t a b g)) : w3 a b g S Q := by
  unfold w3
  rw [h5, pu_nI _ _ (show t < 161 by omega) (by decide), pu_nI _ _ (show t < 161 by omega) (by decide), pu_nI _ _ (show t < 161 by omega) (by decide), nI_1]
  exact hQ
section W3S
variable {S : ri_H} {t : Nat} {a b g : Int32}
theorem w3S_7 : (w3S S t a b g).1 7 = upd (S.1 7) t a := by
  unfold w3S
  rw [ri_wi_o _ _ _ (by decide), ri_wr_o _ _ (by decide), ri_wr_o _ _ (by decide), ri_wr_1]
theorem w3S_8 : (w3S S t a b g).1 8 = upd (S.1 8) t b := by
  unfold w3S
  rw [ri_wi_o _ _ _ (by decide), ri_wr_o _ _ (by decide), ri_wr_1]
theorem w3S_9 : (w3S S t a b g).1 9 = upd (S.1 9) t g := by
  unfold w3S
  rw [ri_wi_o _ _ _ (by decide), ri_wr_1]
theorem w3S_5 : (w3S S t a b g).1 5 = upd (S.1 5) 5 (nI (t + 1)) := by
  unfold w3S
  rw [ri_wi_1, ri_wr_o _ _ (by decide), ri_wr_o _ _ (by decide), ri_wr_o _ _ (by decide)]
theorem w3S_cfc {S0 : ri_H} (h : cfc S0 S) : cfc S0 (w3S S t a b g) := by
  refine ⟨ag_wi (ag_wr (ag_wr (ag_wr h.1 (by decide)) (by decide)) (by decide)) (by decide), fun j hj => ?_⟩
  rw [w3S_5, pk_un hj]
  exact h.2 j hj
theorem w3S_ctg {f : Nat → Int32} {n i : Nat} (h : ctg f n S i) (hi : i ≠ t) : ctg f n (w3S S t a b g) i := by
  unfold ctg at h ⊢
  rw [w3S_7, w3S_8, w3S_9, pk_un hi, pk_un hi, pk_un hi]
  exact h
end W3S
/-- so far -/
def cti (f : Nat → Int32) (n i : Nat) (S0 S : ri_H) : Prop := S.1 5 5 = nI i ∧ cfc S0 S ∧ ∀ k, k < i → ctg f n S k ∧ pso f n (hs f n k) ≠ 0 ∧ pso f n (hs f n k) ≠ 1
section W2
variable {S0 : ri_H} {Q : ri_H → Prop} {f : Nat → Int32} {n : Nat}
theorem w2_fin0 (hn : S0.1 5 4 = nI n) (hQ : ∀ S' m, cfc S0 S' → ctk f n m S' → Q S') {i : Nat} (hi : i ≤ 160) {S : ri_H} (h : cti f n i S0 S) (hc : n ≤ tkb f n (hs f n i)) : w2_b129 Q S := by
  unfold w2_b129
  obtain ⟨h1, h2, h3⟩ := h
  obtain ⟨e1, e2, e3⟩ := tk_end hc
  refine w3_ok hi h1 (hQ _ i (w3S_cfc h2) ⟨hi, fun k hk => ?_, fun k hk => (h3 k hk).2, Or.inl e1⟩)
  by_cases e : k = i
  · subst e
    unfold ctg
    rw [w3S_7, w3S_8, w3S_9, pk_us, pk_us, pk_us, e1, e2]
    exact ⟨rfl, fun c => absurd c (by decide), (h2.2 4 (by decide)).trans hn⟩
  · exact w3S_ctg (h3 k (by omega)).1 e
theorem w2_fin1 (hn : S0.1 5 4 = nI n) (hQ : ∀ S' m, cfc S0 S' → ctk f n m S' → Q S') {i : Nat} (hi : i < 160) {S : ri_H} (h1 : S.1 5 5 = nI (i + 1)) (h2 : cfc S0 S) (h3 : ∀ k, k < i → ctg f n S k ∧ pso f n (hs f n k) ≠ 0 ∧ pso f n (hs f n k) ≠ 1) (h4 : ctg f n S i) (h5 : pso f n (hs f n i) = 1) : w2_b129 Q S := by
  unfold w2_b129
  refine w3_ok (by omega) h1 (hQ _ i (w3S_cfc h2) ⟨by omega, fun k hk => ?_, fun k hk => (h3 k hk).2, Or.inr h5⟩)
  by_cases e : k = i
  · subst e
    exact w3S_ctg h4 (by omega)
  · exact w3S_ctg (h3 k (by omega)).1 (by omega)
theorem w2_l22_ok {K : Int32 → Int32 → Int32 → ri_H → Prop} {S : ri_H} {x3 : Int32} (hn : n ≤ 160) (h4 : S.1 5 4 = nI n) (h6 : S.1 6 = f) : ∀ k h, n - h ≤ k → h ≤ n → w2_b50 K Q (nI (ru isb f n k h)) x3 S → w2_l22 K Q (k + 1) (nI h) x3 S
  | k, h, hk, hh, hK => by
    unfold w2_l22
    rw [h4, h6]
    refine ⟨fun c => ?_, fun c => ?_⟩
    · have : ¬ h < n := fun q => nI_ge q (by omega) c
      have e : ru isb f n k h = h := by
        cases k with
        | zero => rfl
        | succ k =>
          unfold ru
          rw [if_neg this]
      rw [e] at hK
      exact hK
    · have hlt : h < n := by
        rcases Nat.lt_or_ge h n with q | q
        · exact q
        · exact absurd (nI_le q (by omega)) c
      cases k with
      | zero => omega
      | succ k =>
        unfold ru at hK
        rw [if_pos hlt] at hK
        rw [it_nI _ (show h < 160 by omega) (by decide), nI_1]
        refine w9_ok (fun c => ⟨fun c2 => absurd c2 (by decide), fun _ => ?_⟩) (fun c => ⟨fun _ => ?_, fun c2 => absurd rfl c2⟩)
        · rw [if_pos c] at hK
          exact w2_l22_ok hn h4 h6 k (h + 1) (by omega) (by omega) hK
        · rw [if_neg (by rw [c]; decide)] at hK
          exact hK
theorem w2_loop (hn : n ≤ 160) (h4 : S0.1 5 4 = nI n) (h6 : S0.1 6 = f) (hQ : ∀ S' m, cfc S0 S' → ctk f n m S' → Q S') : ∀ d i S, i + d = 160 → i ≤ hs f n i → cti f n i S0 S → w2_l11 Q (d + 2) (nI (hs f n i)) 1 (nI i) S
  | 0, i, S, hi, hih, h => by
    have hi' : i = 160 := hi
    subst hi'
    unfold w2_l11
    refine ⟨fun _ => w2_fin0 h4 hQ (Nat.le_refl _) h ?_, fun c => absurd (show (160 : Int32) ≤ nI 160 by decide) c⟩
    have := tkb_b (f := f) (hs_b (f := f) (n := n) 160)
    omega
  | d + 1, i, S, hi, hih, h => by
    unfold w2_l11
    refine ⟨fun c => absurd c (nI_ge (a := i) (b := 160) (by omega) (by decide)), fun _ => ⟨fun c => absurd c (by decide), fun _ => ?_⟩⟩
    have hb := hs_b (f := f) (n := n) i
    have g4 : S.1 5 4 = nI n := (h.2.1.2 4 (by decide)).trans h4
    have g6 : S.1 6 = f := ((h.2.1.1 6 (by decide)).1).trans h6
    refine ⟨n - hs f n i + 1, w2_l22_ok hn g4 g6 _ _ (Nat.le_refl _) hb ?_⟩
    have hp := tkb_b (f := f) hb
    show w2_b50 _ Q (nI (tkb f n (hs f n i))) (nI i) S
    unfold w2_b50 w2_b63 w2_b123
    rw [g4, nI_1]
    refine ⟨fun c => ⟨fun _ => ?_, fun c2 => absurd rfl c2⟩, fun c => ⟨fun c2 => absurd c2 (by decide), fun _ => ?_⟩⟩
    · have c' := (nI_leI (by omega) (by omega)).mp c
      unfold w2_l11
      have := w2_fin0 h4 hQ (by omega) h c'
      exact ⟨fun _ => this, fun _ => ⟨fun _ => this, fun c => absurd rfl c⟩⟩
    · have c' : ¬ n ≤ tkb f n (hs f n i) := fun q => c (nI_le q (by omega))
      have he := tke_b (f := f) (n := n) (s := tkb f n (hs f n i)) (by omega)
      obtain ⟨k1, k2, k3, k4⟩ := tk_in c'
      have hnx : hs f n (i + 1) = tke f n (tkb f n (hs f n i)) := k3
      refine w4_ok (n := n) hn (by omega) g4 ?_
      rw [g6]
      refine w5_ok (by omega) he.1 ?_
      rw [g6, ← k1]
      have step : ∀ v : Int32, (pso f n (hs f n i) = 2 → v = pwo f n (hs f n i)) → w2_b104 (fun x1 x2 x3 S => w2_l11 Q (d + 2) x1 x2 x3 S) Q (nI (tkb f n (hs f n i))) (nI i) (nI (tke f n (tkb f n (hs f n i)))) (pso f n (hs f n i)) v (pso f n (hs f n i)) S := by
        intro v hv
        unfold w2_b104
        refine w3_ok (by omega) h.1 ?_
        have good : ctg f n (w3S S i (pso f n (hs f n i)) v (nI (tkb f n (hs f n i)))) i := by
          unfold ctg
          rw [w3S_7, w3S_8, w3S_9, pk_us, pk_us, pk_us, k2]
          exact ⟨rfl, hv, rfl⟩
        have e5 : (w3S S i (pso f n (hs f n i)) v (nI (tkb f n (hs f n i)))).1 5 5 = nI (i + 1) := by
          rw [w3S_5, pk_us]
        unfold w2_b122 w2_b123
        rw [nI_1, ← hnx]
        refine ⟨fun c1 => ?_, fun c1 => ?_⟩
        · have := w2_fin1 h4 hQ (i := i) (by omega) e5 (w3S_cfc h.2.1) (fun k hk => ⟨w3S_ctg (h.2.2 k hk).1 (by omega), (h.2.2 k hk).2⟩) good c1
          unfold w2_l11
          exact ⟨fun _ => this, fun _ => ⟨fun _ => this, fun c => absurd rfl c⟩⟩
        · refine w2_loop hn h4 h6 hQ d (i + 1) _ (by omega) (by rw [hnx]; omega) ⟨e5, w3S_cfc h.2.1, fun k hk => ?_⟩
          by_cases e : k = i
          · subst e
            exact ⟨good, fun e0 => tks_ne0 (f := f) (tkb f n (hs f n k)) (tke f n (tkb f n (hs f n k))) (by rw [← k1]; exact e0), c1⟩
          · exact ⟨w3S_ctg (h.2.2 k (by omega)).1 e, (h.2.2 k (by omega)).2⟩
      refine ⟨fun c2 => step 0 (fun e => absurd e c2), fun c2 => ?_⟩
      refine w8_ok (by omega) (by omega) ?_
      rw [g6, ← k4]
      exact step _ (fun _ => rfl)
theorem w2_ok (hn : n ≤ 160) (h4 : S0.1 5 4 = nI n) (h6 : S0.1 6 = f) (hQ : ∀ S' m, cfc S0 S' → ctk f n m S' → Q S') : w2 S0 Q := by
  refine ⟨162, w2_loop hn h4 h6 hQ 160 0 (ri_wi S0 5 5 0) rfl (Nat.zero_le _) ⟨?_, ⟨ag_wi (ag_refl _ _) (by decide), fun j hj => ?_⟩, fun k hk => absurd hk (Nat.not_lt_zero k)⟩⟩
  · rw [ri_wi_1, pk_us]
    rfl
  · rw [ri_wi_1, pk_un hj]
end W2
