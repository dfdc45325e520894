/-! numbers -/
def numN (f : Nat → Int32) (s : Nat) : Nat → Nat
  | 0 => 0
  | k + 1 => numN f s k * 10 + ((f (s + k)).toInt - 48).toNat
theorem isd_nI {x : Int32} (h : isd x = true) : ∃ d, d ≤ 9 ∧ x = nI (48 + d) := by
  unfold isd at h
  simp only [Bool.and_eq_true, decide_eq_true_eq] at h
  have h1 := Int32.le_iff_toInt_le.mp h.1
  have h2 := Int32.le_iff_toInt_le.mp h.2
  have e1 : (48 : Int32).toInt = 48 := rfl
  have e2 : (57 : Int32).toInt = 57 := rfl
  rw [e1] at h1
  rw [e2] at h2
  obtain ⟨j, hj, e⟩ := nI_b (x := x) (by omega)
  exact ⟨j - 48, by omega, by rw [e, show 48 + (j - 48) = j by omega]⟩
theorem num_nI {f : Nat → Int32} {s : Nat} : ∀ k, k ≤ 4 → (∀ j, j < k → isd (f (s + j)) = true) → num f s k = nI (numN f s k) ∧ numN f s k < 10 ^ k
  | 0, _, _ => ⟨rfl, Nat.one_pos⟩
  | k + 1, hk, hd => by
    obtain ⟨e, hl⟩ := num_nI (f := f) (s := s) k (by omega) (fun j hj => hd j (by omega))
    obtain ⟨d, h9, ed⟩ := isd_nI (hd k (by omega))
    have hp : 10 ^ k ≤ 10 ^ 3 := Nat.pow_le_pow_right (by decide) (by omega)
    have et : ((f (s + k)).toInt - 48).toNat = d := by
      rw [ed, nI_toInt (by omega)]
      omega
    constructor
    · show num f s k * 10 + f (s + k) - 48 = nI (numN f s k * 10 + ((f (s + k)).toInt - 48).toNat)
      rw [et, e, ed]
      have m : nI (numN f s k) * 10 = nI (numN f s k * 10) := pk_mul _ 10
      rw [m, nI_add]
      have m2 : nI (numN f s k * 10 + (48 + d)) - 48 = nI (numN f s k * 10 + (48 + d) - 48) := pk_sub (b := 48) (by omega)
      rw [m2]
      congr 1
      omega
    · show numN f s k * 10 + ((f (s + k)).toInt - 48).toNat < 10 ^ (k + 1)
      rw [et, Nat.pow_succ]
      omega
theorem wsort_ne2 (l : List Int32) : wsort l ≠ 2 :=
  ite_ne (by decide) (ite_ne (by decide) (ite_ne (by decide) (ite_ne (by decide) (ite_ne (by decide) (ite_ne (by decide) (ite_ne (by decide) (ite_ne (by decide) (ite_ne (by decide) (ite_ne (by decide) (ite_ne (by decide) (ite_ne (by decide) (by decide))))))))))))
theorem ssort_ne2 (x : Int32) : ssort x ≠ 2 := by
  unfold ssort
  split
  · rename_i hx
    rcases hx with rfl | rfl | rfl | rfl | rfl | rfl | rfl | rfl <;> decide
  · decide
theorem isd_isl {x : Int32} (h : isd x = true) : isl x = false := by
  cases c : isl x with
  | false => rfl
  | true => rw [isl_isd c] at h; exact absurd h (by decide)
section NUM
variable {f : Nat → Int32} {n h : Nat}
theorem pso_2 (c : pso f n h = 2) : ¬ n ≤ tkb f n h ∧ isd (f (tkb f n h)) = true ∧ tke f n (tkb f n h) - tkb f n h ≤ 4 := by
  have c1 := pso_in (f := f) (n := n) (h := h) (by rw [c]; decide)
  rw [(tk_in c1).1] at c
  refine ⟨c1, ?_⟩
  unfold tks at c
  by_cases hl : isl (f (tkb f n h)) = true
  · rw [if_pos hl] at c
    exact absurd c (wsort_ne2 _)
  · rw [if_neg hl] at c
    by_cases hd : isd (f (tkb f n h)) = true
    · rw [if_pos hd] at c
      refine ⟨hd, ?_⟩
      by_cases h4 : tke f n (tkb f n h) - tkb f n h > 4
      · rw [if_pos h4] at c
        exact absurd c (by decide)
      · omega
    · rw [if_neg hd] at c
      exact absurd c (ssort_ne2 _)
theorem tke_d {s : Nat} (hs : s < n) (hd : isd (f s) = true) : ∀ j, j < tke f n s - s → isd (f (s + j)) = true := by
  intro j hj
  unfold tke at hj
  rw [if_neg (by rw [isd_isl hd]; decide), if_pos hd] at hj
  obtain ⟨_, _, _, a⟩ := run_stop isd f n s (by omega)
  exact (a (s + j) (by omega) (by omega)).2
theorem pwo_nI (c : pso f n h = 2) : pwo f n h = nI (numN f (tkb f n h) (tke f n (tkb f n h) - tkb f n h)) ∧ numN f (tkb f n h) (tke f n (tkb f n h) - tkb f n h) < 10000 := by
  obtain ⟨c1, c2, c3⟩ := pso_2 c
  rw [(tk_in c1).2.2.2]
  obtain ⟨a, b⟩ := num_nI (f := f) (s := tkb f n h) _ c3 (tke_d (by omega) c2)
  refine ⟨a, ?_⟩
  have hp : 10 ^ (tke f n (tkb f n h) - tkb f n h) ≤ 10 ^ 4 := Nat.pow_le_pow_right (by decide) c3
  omega
end NUM
/-! what the readers answer, where they do -/
def pgd (n : Nat) (F : pF) : Prop := ∀ h c h2, h ≤ n → F h = .inr (c, h2) → h < h2 ∧ h2 ≤ n ∧ c.length ≤ h2 - h ∧ cw c
def pP (P : Int32 → Option Int32) : Prop := ∀ s t, P s = some t → s ≠ 0 ∧ t < -8
theorem pbd_inr {r : pR} {k : List Int32 → Nat → pR} {x : List Int32 × Nat} (h : pbd r k = .inr x) : ∃ c h2, r = .inr (c, h2) ∧ k c h2 = .inr x := by
  match r, h with
  | .inl _, h => exact absurd h (by intro e; cases e)
  | .inr (c, h2), h => exact ⟨c, h2, rfl, h⟩
section GD
variable {f : Nat → Int32} {n : Nat}
theorem plp_gd {P : Int32 → Option Int32} {F : pF} (hP : pP P) (hF : pgd n F) : ∀ k c h c2 h2, h ≤ n → plp f n P F k c h = .inr (c2, h2) → cw c → h ≤ h2 ∧ h2 ≤ n ∧ c2.length ≤ c.length + (h2 - h) ∧ cw c2
  | 0, c, h, c2, h2, hh, e, hc => by
    cases e
    exact ⟨Nat.le_refl _, hh, by omega, hc⟩
  | k + 1, c, h, c2, h2, hh, e, hc => by
    unfold plp at e
    cases es : P (pso f n h) with
    | none =>
      rw [es] at e
      cases e
      exact ⟨Nat.le_refl _, hh, by omega, hc⟩
    | some s =>
      rw [es] at e
      obtain ⟨d, h3, e1, e2⟩ := pbd_inr e
      obtain ⟨p1, p2⟩ := hP _ _ es
      have q1 := pen_lt hh p1
      have q2 := pen_b (f := f) hh
      obtain ⟨a1, a2, a3, a4⟩ := hF _ _ _ q2.2 e1
      obtain ⟨b1, b2, b3, b4⟩ := plp_gd hP hF k _ h3 c2 h2 a2 e2 (cw_bin p2 hc a4).1
      refine ⟨by omega, b2, ?_, b4⟩
      simp at b3
      omega
theorem pch_gd {P : Int32 → Option Int32} {F : pF} (hP : pP P) (hF : pgd n F) : pgd n (pch f n P F) := by
  intro h c h2 hh e
  obtain ⟨c1, h1, e1, e2⟩ := pbd_inr e
  obtain ⟨a1, a2, a3, a4⟩ := hF _ _ _ hh e1
  obtain ⟨b1, b2, b3, b4⟩ := plp_gd hP hF 160 c1 h1 c h2 a2 e2 a4
  exact ⟨by omega, b2, by omega, b4⟩
theorem pno_gd {b : Bool} {N F : pF} (hN : pgd n N) (hF : pgd n F) : pgd n (pno f n b N F) := by
  intro h c h2 hh e
  unfold pno at e
  by_cases c8 : pso f n h = 8
  · rw [if_pos c8] at e
    have q1 := pen_lt (f := f) hh (by rw [c8]; decide)
    have q2 := pen_b (f := f) hh
    by_cases hb : b = true
    · rw [if_pos hb] at e
      obtain ⟨c1, h1, e1, e2⟩ := pbd_inr e
      obtain ⟨a1, a2, a3, a4⟩ := hN _ _ _ q2.2 e1
      cases e2
      refine ⟨by omega, a2, ?_, (cw_not a4).1⟩
      simp
      omega
    · rw [if_neg hb] at e
      cases e
  · rw [if_neg c8] at e
    obtain ⟨c1, h1, e1, e2⟩ := pbd_inr e
    obtain ⟨a1, a2, a3, a4⟩ := hF _ _ _ hh e1
    have more : ∀ s : Int32, s < -8 → pso f n h1 ≠ 0 → pbd (F (pen f n h1)) (fun d h3 => .inr (c1 ++ d ++ [s], h3)) = .inr (c, h2) → h < h2 ∧ h2 ≤ n ∧ c.length ≤ h2 - h ∧ cw c := by
      intro s hs c0 e3
      obtain ⟨d, h3, e4, e5⟩ := pbd_inr e3
      have q1 := pen_lt (f := f) a2 c0
      have q2 := pen_b (f := f) a2
      obtain ⟨d1, d2, d3, d4⟩ := hF _ _ _ q2.2 e4
      cases e5
      refine ⟨by omega, d2, ?_, (cw_bin hs a4 d4).1⟩
      simp
      omega
    by_cases c60 : pso f n h1 = 60
    · rw [if_pos c60] at e2
      exact more _ (by decide) (by rw [c60]; decide) e2
    · rw [if_neg c60] at e2
      by_cases c61 : pso f n h1 = 61
      · rw [if_pos c61] at e2
        exact more _ (by decide) (by rw [c61]; decide) e2
      · rw [if_neg c61] at e2
        cases e2
        exact ⟨by omega, a2, by omega, a4⟩
theorem pname {s : Int32} (h : 10 ≤ s ∧ s ≤ 15) : ∃ j : Nat, j < 6 ∧ s = nI (10 + j) ∧ -1 - (s - 10) < 0 ∧ -6 ≤ -1 - (s - 10) ∧ -1 - (-1 - (s - 10)) = nI j := by
  have h1 := Int32.le_iff_toInt_le.mp h.1
  have h2 := Int32.le_iff_toInt_le.mp h.2
  have e1 : (10 : Int32).toInt = 10 := rfl
  have e2 : (15 : Int32).toInt = 15 := rfl
  rw [e1] at h1
  rw [e2] at h2
  obtain ⟨j, hj, e⟩ := nI_b (x := s) (by omega)
  rcases (show j = 10 ∨ j = 11 ∨ j = 12 ∨ j = 13 ∨ j = 14 ∨ j = 15 by omega) with r | r | r | r | r | r
  · subst r; subst e; exact ⟨0, by decide, rfl, by decide, by decide, by decide⟩
  · subst r; subst e; exact ⟨1, by decide, rfl, by decide, by decide, by decide⟩
  · subst r; subst e; exact ⟨2, by decide, rfl, by decide, by decide, by decide⟩
  · subst r; subst e; exact ⟨3, by decide, rfl, by decide, by decide, by decide⟩
  · subst r; subst e; exact ⟨4, by decide, rfl, by decide, by decide, by decide⟩
  · subst r; subst e; exact ⟨5, by decide, rfl, by decide, by decide, by decide⟩
theorem pon_gd {b : Bool} {O N : pF} (hO : pgd n O) (hN : pgd n N) : pgd n (pon f n b O N) := by
  intro h c h2 hh e
  unfold pon at e
  have q2 := pen_b (f := f) hh
  by_cases c40 : pso f n h = 40
  · rw [if_pos c40] at e
    have q1 := pen_lt (f := f) hh (by rw [c40]; decide)
    by_cases hb : b = true
    · rw [if_pos hb] at e
      obtain ⟨c1, h1, e1, e2⟩ := pbd_inr e
      obtain ⟨a1, a2, a3, a4⟩ := hO _ _ _ q2.2 e1
      by_cases c41 : pso f n h1 = 41
      · rw [if_pos c41] at e2
        cases e2
        have q3 := pen_b (f := f) a2
        exact ⟨by omega, q3.2, by omega, a4⟩
      · rw [if_neg c41] at e2
        cases e2
    · rw [if_neg hb] at e
      cases e
  · rw [if_neg c40] at e
    by_cases c45 : pso f n h = 45
    · rw [if_pos c45] at e
      have q1 := pen_lt (f := f) hh (by rw [c45]; decide)
      by_cases hb : b = true
      · rw [if_pos hb] at e
        obtain ⟨c1, h1, e1, e2⟩ := pbd_inr e
        obtain ⟨a1, a2, a3, a4⟩ := hN _ _ _ q2.2 e1
        cases e2
        refine ⟨by omega, a2, ?_, (cw_neg a4).1⟩
        simp
        omega
      · rw [if_neg hb] at e
        cases e
    · rw [if_neg c45] at e
      by_cases c2 : pso f n h = 2
      · rw [if_pos c2] at e
        have q1 := pen_lt (f := f) hh (by rw [c2]; decide)
        obtain ⟨w1, w2⟩ := pwo_nI c2
        cases e
        refine ⟨q1, q2.2, by simp; omega, (cw_one ?_).1⟩
        rw [w1]
        exact Int32.le_trans (by decide) (nI_pos' (by omega))
      · rw [if_neg c2] at e
        by_cases cn : 10 ≤ pso f n h ∧ pso f n h ≤ 15
        · rw [if_pos cn] at e
          have q1 := pen_lt (f := f) hh (fun e0 => by rw [e0] at cn; exact absurd cn.1 (by decide))
          cases e
          obtain ⟨j, _, _, _, h6, _⟩ := pname cn
          exact ⟨q1, q2.2, by simp; omega, (cw_one h6).1⟩
        · rw [if_neg cn] at e
          cases e
theorem pP_term : pP Pterm := by
  intro s t h
  unfold Pterm at h
  split at h
  · rename_i c
    cases h
    subst c
    decide
  · cases h
theorem pP_sum : pP Psum := by
  intro s t h
  unfold Psum at h
  split at h
  · rename_i c
    cases h
    subst c
    decide
  · split at h
    · rename_i c
      cases h
      subst c
      decide
    · cases h
theorem pP_and : pP Pand := by
  intro s t h
  unfold Pand at h
  split at h
  · rename_i c
    cases h
    subst c
    decide
  · cases h
theorem pP_or : pP Por := by
  intro s t h
  unfold Por at h
  split at h
  · rename_i c
    cases h
    subst c
    decide
  · cases h
theorem pgd_no : pgd n (fun _ => .inl 0) := by
  intro h c h2 _ e
  cases e
theorem pup_gd {b : Bool} {G : pF × pF × pF} (h1 : pgd n G.1) (h2 : pgd n G.2.1) (h3 : pgd n G.2.2) : pgd n (pup f n b G).1 ∧ pgd n (pup f n b G).2.1 ∧ pgd n (pup f n b G).2.2 := by
  have a := pon_gd (f := f) (b := b) h1 h3
  have s := pch_gd (f := f) pP_sum (pch_gd (f := f) pP_term a)
  have t := pno_gd (f := f) (b := b) h2 s
  exact ⟨pch_gd pP_or (pch_gd pP_and t), t, a⟩
theorem pgl_gd : ∀ k, pgd n (pgl f n k).1 ∧ pgd n (pgl f n k).2.1 ∧ pgd n (pgl f n k).2.2
  | 0 => ⟨pgd_no, pgd_no, pgd_no⟩
  | 0 + 1 => pup_gd pgd_no pgd_no pgd_no
  | k + 2 => pup_gd (pgl_gd (k + 1)).1 (pgl_gd (k + 1)).2.1 (pgl_gd (k + 1)).2.2
end GD
