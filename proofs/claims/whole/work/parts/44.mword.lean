/-! the model: which token is at hand -/
theorem ite_inv {p : Prop} [Decidable p] {a b k : Int32} (h : (if p then a else b) = k) : (p ∧ a = k) ∨ (¬ p ∧ b = k) := by
  by_cases c : p
  · rw [if_pos c] at h
    exact Or.inl ⟨c, h⟩
  · rw [if_neg c] at h
    exact Or.inr ⟨c, h⟩
theorem wso3 (l : List Int32) : wsort l = 3 ↔ l = [116, 97, 107, 101, 115] := by
  refine ⟨fun h => ?_, fun h => by rw [h]; decide⟩
  unfold wsort at h
  rcases ite_inv h with ⟨e, _⟩ | ⟨_, h⟩
  · exact e
  exact absurd h (ite_ne (by decide) (ite_ne (by decide) (ite_ne (by decide) (ite_ne (by decide) (ite_ne (by decide) (ite_ne (by decide) (ite_ne (by decide) (ite_ne (by decide) (ite_ne (by decide) (ite_ne (by decide) (ite_ne (by decide) (by decide))))))))))))
theorem wso4 (l : List Int32) : wsort l = 4 ↔ l = [112, 117, 116, 115] := by
  refine ⟨fun h => ?_, fun h => by rw [h]; decide⟩
  unfold wsort at h
  rcases ite_inv h with ⟨_, e⟩ | ⟨_, h⟩
  · exact absurd e (by decide)
  rcases ite_inv h with ⟨e, _⟩ | ⟨_, h⟩
  · exact e
  exact absurd h (ite_ne (by decide) (ite_ne (by decide) (ite_ne (by decide) (ite_ne (by decide) (ite_ne (by decide) (ite_ne (by decide) (ite_ne (by decide) (ite_ne (by decide) (ite_ne (by decide) (ite_ne (by decide) (by decide)))))))))))
theorem wso5 (l : List Int32) : wsort l = 5 ↔ l = [102, 101, 101, 108, 115] := by
  refine ⟨fun h => ?_, fun h => by rw [h]; decide⟩
  unfold wsort at h
  rcases ite_inv h with ⟨_, e⟩ | ⟨_, h⟩
  · exact absurd e (by decide)
  rcases ite_inv h with ⟨_, e⟩ | ⟨_, h⟩
  · exact absurd e (by decide)
  rcases ite_inv h with ⟨e, _⟩ | ⟨_, h⟩
  · exact e
  exact absurd h (ite_ne (by decide) (ite_ne (by decide) (ite_ne (by decide) (ite_ne (by decide) (ite_ne (by decide) (ite_ne (by decide) (ite_ne (by decide) (ite_ne (by decide) (ite_ne (by decide) (by decide))))))))))
theorem wso6 (l : List Int32) : wsort l = 6 ↔ l = [111, 114] := by
  refine ⟨fun h => ?_, fun h => by rw [h]; decide⟩
  unfold wsort at h
  rcases ite_inv h with ⟨_, e⟩ | ⟨_, h⟩
  · exact absurd e (by decide)
  rcases ite_inv h with ⟨_, e⟩ | ⟨_, h⟩
  · exact absurd e (by decide)
  rcases ite_inv h with ⟨_, e⟩ | ⟨_, h⟩
  · exact absurd e (by decide)
  rcases ite_inv h with ⟨e, _⟩ | ⟨_, h⟩
  · exact e
  exact absurd h (ite_ne (by decide) (ite_ne (by decide) (ite_ne (by decide) (ite_ne (by decide) (ite_ne (by decide) (ite_ne (by decide) (ite_ne (by decide) (ite_ne (by decide) (by decide)))))))))
theorem wso7 (l : List Int32) : wsort l = 7 ↔ l = [97, 110, 100] := by
  refine ⟨fun h => ?_, fun h => by rw [h]; decide⟩
  unfold wsort at h
  rcases ite_inv h with ⟨_, e⟩ | ⟨_, h⟩
  · exact absurd e (by decide)
  rcases ite_inv h with ⟨_, e⟩ | ⟨_, h⟩
  · exact absurd e (by decide)
  rcases ite_inv h with ⟨_, e⟩ | ⟨_, h⟩
  · exact absurd e (by decide)
  rcases ite_inv h with ⟨_, e⟩ | ⟨_, h⟩
  · exact absurd e (by decide)
  rcases ite_inv h with ⟨e, _⟩ | ⟨_, h⟩
  · exact e
  exact absurd h (ite_ne (by decide) (ite_ne (by decide) (ite_ne (by decide) (ite_ne (by decide) (ite_ne (by decide) (ite_ne (by decide) (ite_ne (by decide) (by decide))))))))
theorem wso8 (l : List Int32) : wsort l = 8 ↔ l = [110, 111, 116] := by
  refine ⟨fun h => ?_, fun h => by rw [h]; decide⟩
  unfold wsort at h
  rcases ite_inv h with ⟨_, e⟩ | ⟨_, h⟩
  · exact absurd e (by decide)
  rcases ite_inv h with ⟨_, e⟩ | ⟨_, h⟩
  · exact absurd e (by decide)
  rcases ite_inv h with ⟨_, e⟩ | ⟨_, h⟩
  · exact absurd e (by decide)
  rcases ite_inv h with ⟨_, e⟩ | ⟨_, h⟩
  · exact absurd e (by decide)
  rcases ite_inv h with ⟨_, e⟩ | ⟨_, h⟩
  · exact absurd e (by decide)
  rcases ite_inv h with ⟨e, _⟩ | ⟨_, h⟩
  · exact e
  exact absurd h (ite_ne (by decide) (ite_ne (by decide) (ite_ne (by decide) (ite_ne (by decide) (ite_ne (by decide) (ite_ne (by decide) (by decide)))))))
theorem wso10 (l : List Int32) : wsort l = 10 ↔ l = [99, 114, 111, 115, 115, 105, 110, 103] := by
  refine ⟨fun h => ?_, fun h => by rw [h]; decide⟩
  unfold wsort at h
  rcases ite_inv h with ⟨_, e⟩ | ⟨_, h⟩
  · exact absurd e (by decide)
  rcases ite_inv h with ⟨_, e⟩ | ⟨_, h⟩
  · exact absurd e (by decide)
  rcases ite_inv h with ⟨_, e⟩ | ⟨_, h⟩
  · exact absurd e (by decide)
  rcases ite_inv h with ⟨_, e⟩ | ⟨_, h⟩
  · exact absurd e (by decide)
  rcases ite_inv h with ⟨_, e⟩ | ⟨_, h⟩
  · exact absurd e (by decide)
  rcases ite_inv h with ⟨_, e⟩ | ⟨_, h⟩
  · exact absurd e (by decide)
  rcases ite_inv h with ⟨e, _⟩ | ⟨_, h⟩
  · exact e
  exact absurd h (ite_ne (by decide) (ite_ne (by decide) (ite_ne (by decide) (ite_ne (by decide) (ite_ne (by decide) (by decide))))))
theorem wso11 (l : List Int32) : wsort l = 11 ↔ l = [106, 97, 114] := by
  refine ⟨fun h => ?_, fun h => by rw [h]; decide⟩
  unfold wsort at h
  rcases ite_inv h with ⟨_, e⟩ | ⟨_, h⟩
  · exact absurd e (by decide)
  rcases ite_inv h with ⟨_, e⟩ | ⟨_, h⟩
  · exact absurd e (by decide)
  rcases ite_inv h with ⟨_, e⟩ | ⟨_, h⟩
  · exact absurd e (by decide)
  rcases ite_inv h with ⟨_, e⟩ | ⟨_, h⟩
  · exact absurd e (by decide)
  rcases ite_inv h with ⟨_, e⟩ | ⟨_, h⟩
  · exact absurd e (by decide)
  rcases ite_inv h with ⟨_, e⟩ | ⟨_, h⟩
  · exact absurd e (by decide)
  rcases ite_inv h with ⟨_, e⟩ | ⟨_, h⟩
  · exact absurd e (by decide)
  rcases ite_inv h with ⟨e, _⟩ | ⟨_, h⟩
  · exact e
  exact absurd h (ite_ne (by decide) (ite_ne (by decide) (ite_ne (by decide) (ite_ne (by decide) (by decide)))))
theorem wso12 (l : List Int32) : wsort l = 12 ↔ l = [110, 117, 109, 98, 101, 114] := by
  refine ⟨fun h => ?_, fun h => by rw [h]; decide⟩
  unfold wsort at h
  rcases ite_inv h with ⟨_, e⟩ | ⟨_, h⟩
  · exact absurd e (by decide)
  rcases ite_inv h with ⟨_, e⟩ | ⟨_, h⟩
  · exact absurd e (by decide)
  rcases ite_inv h with ⟨_, e⟩ | ⟨_, h⟩
  · exact absurd e (by decide)
  rcases ite_inv h with ⟨_, e⟩ | ⟨_, h⟩
  · exact absurd e (by decide)
  rcases ite_inv h with ⟨_, e⟩ | ⟨_, h⟩
  · exact absurd e (by decide)
  rcases ite_inv h with ⟨_, e⟩ | ⟨_, h⟩
  · exact absurd e (by decide)
  rcases ite_inv h with ⟨_, e⟩ | ⟨_, h⟩
  · exact absurd e (by decide)
  rcases ite_inv h with ⟨_, e⟩ | ⟨_, h⟩
  · exact absurd e (by decide)
  rcases ite_inv h with ⟨e, _⟩ | ⟨_, h⟩
  · exact e
  exact absurd h (ite_ne (by decide) (ite_ne (by decide) (ite_ne (by decide) (by decide))))
theorem wso13 (l : List Int32) : wsort l = 13 ↔ l = [121, 101, 97, 114] := by
  refine ⟨fun h => ?_, fun h => by rw [h]; decide⟩
  unfold wsort at h
  rcases ite_inv h with ⟨_, e⟩ | ⟨_, h⟩
  · exact absurd e (by decide)
  rcases ite_inv h with ⟨_, e⟩ | ⟨_, h⟩
  · exact absurd e (by decide)
  rcases ite_inv h with ⟨_, e⟩ | ⟨_, h⟩
  · exact absurd e (by decide)
  rcases ite_inv h with ⟨_, e⟩ | ⟨_, h⟩
  · exact absurd e (by decide)
  rcases ite_inv h with ⟨_, e⟩ | ⟨_, h⟩
  · exact absurd e (by decide)
  rcases ite_inv h with ⟨_, e⟩ | ⟨_, h⟩
  · exact absurd e (by decide)
  rcases ite_inv h with ⟨_, e⟩ | ⟨_, h⟩
  · exact absurd e (by decide)
  rcases ite_inv h with ⟨_, e⟩ | ⟨_, h⟩
  · exact absurd e (by decide)
  rcases ite_inv h with ⟨_, e⟩ | ⟨_, h⟩
  · exact absurd e (by decide)
  rcases ite_inv h with ⟨e, _⟩ | ⟨_, h⟩
  · exact e
  exact absurd h (ite_ne (by decide) (ite_ne (by decide) (by decide)))
theorem wso14 (l : List Int32) : wsort l = 14 ↔ l = [109, 111, 111, 100] := by
  refine ⟨fun h => ?_, fun h => by rw [h]; decide⟩
  unfold wsort at h
  rcases ite_inv h with ⟨_, e⟩ | ⟨_, h⟩
  · exact absurd e (by decide)
  rcases ite_inv h with ⟨_, e⟩ | ⟨_, h⟩
  · exact absurd e (by decide)
  rcases ite_inv h with ⟨_, e⟩ | ⟨_, h⟩
  · exact absurd e (by decide)
  rcases ite_inv h with ⟨_, e⟩ | ⟨_, h⟩
  · exact absurd e (by decide)
  rcases ite_inv h with ⟨_, e⟩ | ⟨_, h⟩
  · exact absurd e (by decide)
  rcases ite_inv h with ⟨_, e⟩ | ⟨_, h⟩
  · exact absurd e (by decide)
  rcases ite_inv h with ⟨_, e⟩ | ⟨_, h⟩
  · exact absurd e (by decide)
  rcases ite_inv h with ⟨_, e⟩ | ⟨_, h⟩
  · exact absurd e (by decide)
  rcases ite_inv h with ⟨_, e⟩ | ⟨_, h⟩
  · exact absurd e (by decide)
  rcases ite_inv h with ⟨_, e⟩ | ⟨_, h⟩
  · exact absurd e (by decide)
  rcases ite_inv h with ⟨e, _⟩ | ⟨_, h⟩
  · exact e
  exact absurd h (ite_ne (by decide) (by decide))
theorem wso15 (l : List Int32) : wsort l = 15 ↔ l = [101, 97, 116, 101, 110] := by
  refine ⟨fun h => ?_, fun h => by rw [h]; decide⟩
  unfold wsort at h
  rcases ite_inv h with ⟨_, e⟩ | ⟨_, h⟩
  · exact absurd e (by decide)
  rcases ite_inv h with ⟨_, e⟩ | ⟨_, h⟩
  · exact absurd e (by decide)
  rcases ite_inv h with ⟨_, e⟩ | ⟨_, h⟩
  · exact absurd e (by decide)
  rcases ite_inv h with ⟨_, e⟩ | ⟨_, h⟩
  · exact absurd e (by decide)
  rcases ite_inv h with ⟨_, e⟩ | ⟨_, h⟩
  · exact absurd e (by decide)
  rcases ite_inv h with ⟨_, e⟩ | ⟨_, h⟩
  · exact absurd e (by decide)
  rcases ite_inv h with ⟨_, e⟩ | ⟨_, h⟩
  · exact absurd e (by decide)
  rcases ite_inv h with ⟨_, e⟩ | ⟨_, h⟩
  · exact absurd e (by decide)
  rcases ite_inv h with ⟨_, e⟩ | ⟨_, h⟩
  · exact absurd e (by decide)
  rcases ite_inv h with ⟨_, e⟩ | ⟨_, h⟩
  · exact absurd e (by decide)
  rcases ite_inv h with ⟨_, e⟩ | ⟨_, h⟩
  · exact absurd e (by decide)
  rcases ite_inv h with ⟨e, _⟩ | ⟨_, h⟩
  · exact e
  exact absurd h (by decide)
def sgn (a : Int32) : Prop := ssort a = a ∧ a ≠ 0 ∧ a ≠ 1 ∧ a ≠ 2 ∧ ∀ l, wsort l ≠ a
theorem sg40 : sgn 40 := ⟨by decide, by decide, by decide, by decide, fun _ => (ite_ne (by decide) (ite_ne (by decide) (ite_ne (by decide) (ite_ne (by decide) (ite_ne (by decide) (ite_ne (by decide) (ite_ne (by decide) (ite_ne (by decide) (ite_ne (by decide) (ite_ne (by decide) (ite_ne (by decide) (ite_ne (by decide) (by decide)))))))))))))⟩
theorem sg41 : sgn 41 := ⟨by decide, by decide, by decide, by decide, fun _ => (ite_ne (by decide) (ite_ne (by decide) (ite_ne (by decide) (ite_ne (by decide) (ite_ne (by decide) (ite_ne (by decide) (ite_ne (by decide) (ite_ne (by decide) (ite_ne (by decide) (ite_ne (by decide) (ite_ne (by decide) (ite_ne (by decide) (by decide)))))))))))))⟩
theorem sg59 : sgn 59 := ⟨by decide, by decide, by decide, by decide, fun _ => (ite_ne (by decide) (ite_ne (by decide) (ite_ne (by decide) (ite_ne (by decide) (ite_ne (by decide) (ite_ne (by decide) (ite_ne (by decide) (ite_ne (by decide) (ite_ne (by decide) (ite_ne (by decide) (ite_ne (by decide) (ite_ne (by decide) (by decide)))))))))))))⟩
theorem sg43 : sgn 43 := ⟨by decide, by decide, by decide, by decide, fun _ => (ite_ne (by decide) (ite_ne (by decide) (ite_ne (by decide) (ite_ne (by decide) (ite_ne (by decide) (ite_ne (by decide) (ite_ne (by decide) (ite_ne (by decide) (ite_ne (by decide) (ite_ne (by decide) (ite_ne (by decide) (ite_ne (by decide) (by decide)))))))))))))⟩
theorem sg45 : sgn 45 := ⟨by decide, by decide, by decide, by decide, fun _ => (ite_ne (by decide) (ite_ne (by decide) (ite_ne (by decide) (ite_ne (by decide) (ite_ne (by decide) (ite_ne (by decide) (ite_ne (by decide) (ite_ne (by decide) (ite_ne (by decide) (ite_ne (by decide) (ite_ne (by decide) (ite_ne (by decide) (by decide)))))))))))))⟩
theorem sg42 : sgn 42 := ⟨by decide, by decide, by decide, by decide, fun _ => (ite_ne (by decide) (ite_ne (by decide) (ite_ne (by decide) (ite_ne (by decide) (ite_ne (by decide) (ite_ne (by decide) (ite_ne (by decide) (ite_ne (by decide) (ite_ne (by decide) (ite_ne (by decide) (ite_ne (by decide) (ite_ne (by decide) (by decide)))))))))))))⟩
theorem sg60 : sgn 60 := ⟨by decide, by decide, by decide, by decide, fun _ => (ite_ne (by decide) (ite_ne (by decide) (ite_ne (by decide) (ite_ne (by decide) (ite_ne (by decide) (ite_ne (by decide) (ite_ne (by decide) (ite_ne (by decide) (ite_ne (by decide) (ite_ne (by decide) (ite_ne (by decide) (ite_ne (by decide) (by decide)))))))))))))⟩
theorem sg61 : sgn 61 := ⟨by decide, by decide, by decide, by decide, fun _ => (ite_ne (by decide) (ite_ne (by decide) (ite_ne (by decide) (ite_ne (by decide) (ite_ne (by decide) (ite_ne (by decide) (ite_ne (by decide) (ite_ne (by decide) (ite_ne (by decide) (ite_ne (by decide) (ite_ne (by decide) (ite_ne (by decide) (by decide)))))))))))))⟩
theorem ssort_self {x : Int32} (h : ssort x ≠ 1) : ssort x = x := by
  unfold ssort at h ⊢
  by_cases c : x = 40 ∨ x = 41 ∨ x = 59 ∨ x = 43 ∨ x = 45 ∨ x = 42 ∨ x = 60 ∨ x = 61
  · rw [if_pos c]
  · rw [if_neg c] at h
    exact absurd rfl h
def mS (f : Nat → Int32) (n fr : Nat) (S : ri_H) (h o : Nat) : Prop := mB f n fr S ∧ h ≤ n ∧ md f n h S ∧ S.1 50 24 = nI o ∧ S.1 50 25 = 0
def PF : List Nat := [20, 21, 22, 23, 24, 25, 26]
def mFl (S0 : ri_H) (x : Nat) (S : ri_H) : Prop := am [] PF S0 S ∧ S.1 50 25 = 1 ∧ S.1 50 26 = nI x
def mM (f : Nat → Int32) (n fr : Nat) (S0 S : ri_H) (h o : Nat) : Prop := am [] PF S0 S ∧ mS f n fr S h o
section WS
variable {f : Nat → Int32} {n fr h o : Nat} {S0 S : ri_H} {Q : Int32 → ri_H → Prop}
/-- the kinds of token, and what the model has of each -/
theorem md_cases (hd : md f n h S) : (n ≤ tkb f n h ∧ pso f n h = 0 ∧ S.1 50 21 = 0) ∨ (¬ n ≤ tkb f n h ∧ isl (f (tkb f n h)) = true ∧ pso f n h = wsort (wl f (tkb f n h) (pen f n h)) ∧ S.1 50 21 = 1 ∧ S.1 50 20 = nI (pen f n h)) ∨ (isl (f (tkb f n h)) = false ∧ pso f n h = 2 ∧ S.1 50 21 = 2 ∧ S.1 50 20 = nI (pen f n h) ∧ S.2 50 23 = lN (numN f (tkb f n h) (pen f n h - tkb f n h))) ∨ (isl (f (tkb f n h)) = false ∧ pso f n h = 1 ∧ S.1 50 21 = 4) ∨ (isl (f (tkb f n h)) = false ∧ pso f n h = f (tkb f n h) ∧ ssort (f (tkb f n h)) = f (tkb f n h) ∧ S.1 50 21 = 3 ∧ S.1 50 20 = nI (pen f n h) ∧ S.2 50 23 = (f (tkb f n h)).toInt64) := by
  obtain ⟨h1, h2, h3⟩ := hd
  by_cases c : n ≤ tkb f n h
  · exact Or.inl ⟨c, (tk_end c).1, h2 c⟩
  · obtain ⟨k1, k2, k3, k4⟩ := tk_in c
    obtain ⟨g1, g2, g3⟩ := h3 c
    have ks : pso f n h = tks f (tkb f n h) (pen f n h) := by rw [k1, k3]
    unfold tks at ks
    cases hl : isl (f (tkb f n h)) with
    | true =>
      rw [hl, if_pos rfl] at ks
      exact Or.inr (Or.inl ⟨c, rfl, ks, g1 hl⟩)
    | false =>
      rw [hl, if_neg (by decide)] at ks
      cases hd : isd (f (tkb f n h)) with
      | true =>
        rw [hd, if_pos rfl] at ks
        obtain ⟨q1, q2, q3⟩ := g2 hd
        by_cases c4 : pen f n h - tkb f n h ≤ 4
        · rw [if_neg (by omega)] at ks
          exact Or.inr (Or.inr (Or.inl ⟨rfl, ks, (q2 c4).1, q1, (q2 c4).2⟩))
        · rw [if_pos (by omega)] at ks
          exact Or.inr (Or.inr (Or.inr (Or.inl ⟨rfl, ks, q3 c4⟩)))
      | false =>
        rw [hd, if_neg (by decide)] at ks
        obtain ⟨q1, q2⟩ := g3 hl hd
        by_cases c1 : ssort (f (tkb f n h)) = 1
        · exact Or.inr (Or.inr (Or.inr (Or.inl ⟨rfl, ks.trans c1, q1 c1⟩)))
        · obtain ⟨p1, p2, p3⟩ := q2 c1
          exact Or.inr (Or.inr (Or.inr (Or.inr ⟨rfl, ks.trans (ssort_self c1), ssort_self c1, p1, p3, p2⟩)))
theorem md_here (hd : md f n h S) (p0 : pso f n h ≠ 0) (p1 : pso f n h ≠ 1) : S.1 50 20 = nI (pen f n h) := by
  rcases md_cases hd with q | q | q | q | q
  · exact absurd q.2.1 p0
  · exact q.2.2.2.2
  · exact q.2.2.2.1
  · exact absurd q.2.1 p1
  · exact q.2.2.2.2.1
theorem w118_bad {Q : ri_H → Prop} (hb : ¬ S.1 50 25 = 0) (hQ : Q S) : w118 S Q := ⟨fun _ => hQ, fun c => absurd hb c⟩
theorem w118_ok {Q : ri_H → Prop} (hm : mM f n fr S0 S h o) (hQ : ∀ S', mFl S0 (ppl f n h) S' → Q S') : w118 S Q := by
  obtain ⟨a, hB, hh, hd, ho, hb⟩ := hm
  refine ⟨fun c => absurd hb c, fun _ => hQ _ ⟨am_f (am_f a (by decide)) (by decide), ?_, ?_⟩⟩
  · rw [ri_wi_1, pk_un (by decide), ri_wi_1, pk_us]
  · rw [ri_wi_1, pk_us]
    exact hd.1
theorem mFl_bad {x : Nat} (hf : mFl S0 x S) : ¬ S.1 50 25 = 0 := by
  rw [hf.2.1]
  decide
theorem w121_bad {a : Int32} (hb : ¬ S.1 50 25 = 0) (hQ : Q 0 S) : w121 a S Q := ⟨fun _ => hQ, fun c => absurd hb c⟩
theorem w121_ok {a : Int32} (ha : sgn a) (hm : mS f n fr S h o) (h1 : pso f n h = a → Q 1 S) (h0 : pso f n h ≠ a → Q 0 S) : w121 a S Q := by
  obtain ⟨hB, hh, hd, ho, hb⟩ := hm
  obtain ⟨a1, a2, a3, a4, a5⟩ := ha
  unfold w121
  rw [lg_cmp_eq]
  refine ⟨fun c => absurd hb c, fun _ => ?_⟩
  have no : pso f n h ≠ a → (∀ v, S.1 50 21 = v → v ≠ 3) → (¬ S.1 50 21 = 3 → Q 0 S) ∧ (¬ ¬ S.1 50 21 = 3 → (¬ S.2 50 23 = a.toInt64 → Q 0 S) ∧ (¬ ¬ S.2 50 23 = a.toInt64 → Q 1 S)) := fun q v => ⟨fun _ => h0 q, fun c => absurd (v _ rfl) c⟩
  rcases md_cases hd with q | q | q | q | q
  · exact no (by rw [q.2.1]; exact fun e => a2 e.symm) (fun v e => by rw [← e, q.2.2]; decide)
  · exact no (by rw [q.2.2.1]; exact a5 _) (fun v e => by rw [← e, q.2.2.2.1]; decide)
  · exact no (by rw [q.2.1]; exact fun e => a4 e.symm) (fun v e => by rw [← e, q.2.2.1]; decide)
  · exact no (by rw [q.2.1]; exact fun e => a3 e.symm) (fun v e => by rw [← e, q.2.2]; decide)
  · obtain ⟨q1, q2, q3, q4, q5, q6⟩ := q
    refine ⟨fun c => absurd q4 c, fun _ => ⟨fun c => h0 ?_, fun c => h1 ?_⟩⟩
    · rw [q2]
      intro e
      exact c (by rw [q6, e])
    · rw [q2]
      have := Decidable.not_not.mp c
      rw [q6] at this
      exact (wd_eq _ _).mp this
theorem mS_worth {a : Int32} (ha : sgn a) (hm : mS f n fr S h o) (e : pso f n h = a) : S.2 50 23 = a.toInt64 := by
  obtain ⟨a1, a2, a3, a4, a5⟩ := ha
  rcases md_cases hm.2.2.1 with q | q | q | q | q
  · exact absurd (e.symm.trans q.2.1) a2
  · exact absurd (q.2.2.1.symm.trans e) (a5 _)
  · exact absurd (e.symm.trans q.2.1) a4
  · exact absurd (e.symm.trans q.2.1) a3
  · rw [q.2.2.2.2.2, ← q.2.1, e]
def wlet (f : Nat → Int32) (s e i : Nat) : Int32 := if s + i < e then f (s + i) else 0
theorem w119_ok {s e i : Nat} {b : Int32} (hB : mB f n fr S) (he : e ≤ n) (hs : s ≤ e) (hi : i < 8) (k1 : S.1 50 22 = nI s) (k2 : S.1 50 20 = nI e) (h1 : wlet f s e i = b → Q 1 S) (h0 : wlet f s e i ≠ b → Q 0 S) : w119 (nI i) b S Q := by
  unfold w119
  unfold wlet at h1 h0
  have hn := hB.1
  rw [k1, k2, nI_add]
  refine ⟨fun c => ?_, fun c => ?_⟩
  · have c' := (nI_leI (by omega) (by omega)).mp c
    rw [if_neg (by omega)] at h1 h0
    exact ⟨fun q => h0 (fun e => q e.symm), fun q => h1 (Decidable.not_not.mp q).symm⟩
  · have c' : s + i < e := by
      rcases Nat.lt_or_ge (s + i) e with q | q
      · exact q
      · exact absurd (nI_le q (by omega)) c
    rw [if_pos c'] at h1 h0
    refine w116_ok (by omega) hB ?_
    unfold byt
    rw [if_pos (by omega)]
    exact ⟨fun q => h0 q, fun q => h1 (Decidable.not_not.mp q)⟩
/-- the word at hand is that one -/
def wq (f : Nat → Int32) (n h : Nat) (wd : List Int32) : Prop := ¬ n ≤ tkb f n h ∧ isl (f (tkb f n h)) = true ∧ wl f (tkb f n h) (pen f n h) = wd
theorem tke_l {s : Nat} (hs : s < n) (hl : isl (f s) = true) : ∀ j, j < tke f n s - s → isl (f (s + j)) = true := by
  intro j hj
  unfold tke at hj
  rw [if_pos hl] at hj
  obtain ⟨_, _, _, a⟩ := run_stop isl f n s (by omega)
  exact (a (s + j) (by omega) (by omega)).2
theorem w120_bad {a b g d q u z x : Int32} (hb : ¬ S.1 50 25 = 0) (hQ : Q 0 S) : w120 a b g d q u z x S Q := ⟨fun _ => hQ, fun c => absurd hb c⟩
theorem w120_ok {a b g d q u z x : Int32} (wd : List Int32) (hw : [a, b, g, d, q, u, z, x] = wd ++ List.replicate (8 - wd.length) 0) (hl : wd.length ≤ 8) (hz : ∀ y, y ∈ wd → y ≠ 0) (hm : mS f n fr S h o) (h1 : wq f n h wd → Q 1 S) (h0 : ¬ wq f n h wd → Q 0 S) : w120 a b g d q u z x S Q := by
  obtain ⟨hB, hh, hd, ho, hb⟩ := hm
  unfold w120
  refine ⟨fun c => absurd hb c, fun _ => ?_⟩
  have hn := hB.1
  by_cases c1 : S.1 50 21 = 1
  · refine ⟨fun c => absurd c1 c, fun _ => ?_⟩
    have hq : ¬ n ≤ tkb f n h ∧ isl (f (tkb f n h)) = true ∧ S.1 50 20 = nI (pen f n h) := by
      rcases md_cases hd with q | q | q | q | q
      · rw [c1] at q
        exact absurd q.2.2 (by decide)
      · exact ⟨q.1, q.2.1, q.2.2.2.2⟩
      · rw [c1] at q
        exact absurd q.2.2.1 (by decide)
      · rw [c1] at q
        exact absurd q.2.2 (by decide)
      · rw [c1] at q
        exact absurd q.2.2.2.1 (by decide)
    obtain ⟨q1, q2, q3⟩ := hq
    obtain ⟨k1, k2, k3, k4⟩ := tk_in q1
    have hs := hd.1
    rw [k2] at hs
    have hb1 := tke_b (f := f) (n := n) (s := tkb f n h) (by omega)
    rw [← k3] at hb1
    have let0 : ∀ i, i < pen f n h - tkb f n h → f (tkb f n h + i) ≠ 0 := by
      intro i hi e
      have := tke_l (f := f) (n := n) (s := tkb f n h) (by omega) q2 i (by rw [← k3]; exact hi)
      rw [e] at this
      exact absurd this (by decide)
    have ai : ∀ i, [a, b, g, d, q, u, z, x].getD i 0 = wd.getD i 0 := by
      intro i
      rw [hw]
      by_cases c : i < wd.length
      · exact getD_app1 c
      · rw [getD_app2 (by omega), List.getD_eq_getElem?_getD, List.getD_eq_getElem?_getD, List.getElem?_replicate, List.getElem?_eq_none (show wd.length ≤ i by omega)]
        split <;> rfl
    have good : pen f n h - tkb f n h ≤ 8 → (∀ i, i < 8 → wlet f (tkb f n h) (pen f n h) i = wd.getD i 0) → wl f (tkb f n h) (pen f n h) = wd := by
      intro h8 ha
      have e : pen f n h - tkb f n h = wd.length := by
        rcases Nat.lt_trichotomy (pen f n h - tkb f n h) wd.length with c | c | c
        · have := ha (pen f n h - tkb f n h) (by omega)
          unfold wlet at this
          rw [if_neg (by omega), List.getD_eq_getElem?_getD, List.getElem?_eq_getElem c] at this
          exact absurd this.symm (hz _ (List.getElem_mem c))
        · exact c
        · have := ha wd.length (by omega)
          unfold wlet at this
          rw [if_pos (by omega), List.getD_eq_getElem?_getD, List.getElem?_eq_none (Nat.le_refl _)] at this
          exact absurd this (let0 _ c)
      refine list_ext_getD (by rw [wl_len]; exact e) (fun j hj => ?_)
      rw [wl_len] at hj
      rw [wl_getD _ hj, ← ha j (by omega)]
      unfold wlet
      rw [if_pos (by omega)]
    have bad : ∀ i, i < 8 → wlet f (tkb f n h) (pen f n h) i ≠ [a, b, g, d, q, u, z, x].getD i 0 → Q 0 S := by
      intro i hi hne
      refine h0 (fun hq => hne ?_)
      obtain ⟨_, _, hq⟩ := hq
      have hlen : pen f n h - tkb f n h = wd.length := by rw [← hq, wl_len]
      rw [ai]
      unfold wlet
      by_cases c : tkb f n h + i < pen f n h
      · rw [if_pos c, ← hq, wl_getD _ (by omega)]
      · rw [if_neg c, List.getD_eq_getElem?_getD, List.getElem?_eq_none (by omega)]
        rfl
    rw [hs, q3]
    refine ⟨fun c => h0 (fun hq => ?_), fun c => ?_⟩
    · have c' : nI (tkb f n h + 8) < nI (pen f n h) := by
        rw [← nI_add]
        exact c
      have := (nI_ltI (by omega) (by omega)).mp c'
      obtain ⟨_, _, hq⟩ := hq
      have hlen : pen f n h - tkb f n h = wd.length := by rw [← hq, wl_len]
      omega
    · have c' : pen f n h - tkb f n h ≤ 8 := by
        rcases Nat.lt_or_ge (tkb f n h + 8) (pen f n h) with k | k
        · exact absurd (by have := nI_lt k (by omega); rw [← nI_add] at this; exact this) c
        · omega
      have L : ∀ i b, i < 8 → (wlet f (tkb f n h) (pen f n h) i = b → Q 1 S) → True := fun _ _ _ _ => trivial
      refine w119_ok (i := 0) hB hb1.2 (by omega) (by decide) hs q3 (fun e0 => ⟨fun c => absurd c (by decide), fun _ => ?_⟩) (fun e0 => ⟨fun _ => bad 0 (by decide) e0, fun c => absurd rfl c⟩)
      refine w119_ok (i := 1) hB hb1.2 (by omega) (by decide) hs q3 (fun e1 => ⟨fun c => absurd c (by decide), fun _ => ?_⟩) (fun e1 => ⟨fun _ => bad 1 (by decide) e1, fun c => absurd rfl c⟩)
      refine w119_ok (i := 2) hB hb1.2 (by omega) (by decide) hs q3 (fun e2 => ⟨fun c => absurd c (by decide), fun _ => ?_⟩) (fun e2 => ⟨fun _ => bad 2 (by decide) e2, fun c => absurd rfl c⟩)
      refine w119_ok (i := 3) hB hb1.2 (by omega) (by decide) hs q3 (fun e3 => ⟨fun c => absurd c (by decide), fun _ => ?_⟩) (fun e3 => ⟨fun _ => bad 3 (by decide) e3, fun c => absurd rfl c⟩)
      refine w119_ok (i := 4) hB hb1.2 (by omega) (by decide) hs q3 (fun e4 => ⟨fun c => absurd c (by decide), fun _ => ?_⟩) (fun e4 => ⟨fun _ => bad 4 (by decide) e4, fun c => absurd rfl c⟩)
      refine w119_ok (i := 5) hB hb1.2 (by omega) (by decide) hs q3 (fun e5 => ⟨fun c => absurd c (by decide), fun _ => ?_⟩) (fun e5 => ⟨fun _ => bad 5 (by decide) e5, fun c => absurd rfl c⟩)
      refine w119_ok (i := 6) hB hb1.2 (by omega) (by decide) hs q3 (fun e6 => ⟨fun c => absurd c (by decide), fun _ => ?_⟩) (fun e6 => ⟨fun _ => bad 6 (by decide) e6, fun c => absurd rfl c⟩)
      refine w119_ok (i := 7) hB hb1.2 (by omega) (by decide) hs q3 (fun e7 => ⟨fun c => absurd c (by decide), fun _ => ?_⟩) (fun e7 => ⟨fun _ => bad 7 (by decide) e7, fun c => absurd rfl c⟩)
      refine h1 ⟨q1, q2, good c' (fun i hi => ?_)⟩
      rw [← ai]
      match i, hi with
      | 0, _ => exact e0
      | 1, _ => exact e1
      | 2, _ => exact e2
      | 3, _ => exact e3
      | 4, _ => exact e4
      | 5, _ => exact e5
      | 6, _ => exact e6
      | 7, _ => exact e7
      | i + 8, hi => exact absurd hi (by omega)
  · refine ⟨fun _ => h0 (fun hq => c1 ?_), fun c => absurd c1 c⟩
    obtain ⟨w1, w2, w3⟩ := hq
    exact ((hd.2.2 w1).1 w2).1
/-- a key or a name by its number -/
def kwd (k : Int32) (wd : List Int32) : Prop := (∀ l, wsort l = k ↔ l = wd) ∧ k ≠ 0 ∧ k ≠ 1 ∧ k ≠ 2 ∧ ∀ x, ssort x ≠ k
theorem ssort_ge {k : Int32} (h1 : k ≠ 1) (h : k < 40) (x : Int32) : ssort x ≠ k := by
  unfold ssort
  refine fun e => ?_
  rcases ite_inv e with ⟨q, e2⟩ | ⟨_, e2⟩
  · rw [← e2] at h
    rcases q with rfl | rfl | rfl | rfl | rfl | rfl | rfl | rfl <;> exact absurd h (by decide)
  · exact h1 e2.symm
theorem kw3 : kwd 3 [116, 97, 107, 101, 115] := ⟨wso3, by decide, by decide, by decide, ssort_ge (by decide) (by decide)⟩
theorem kw4 : kwd 4 [112, 117, 116, 115] := ⟨wso4, by decide, by decide, by decide, ssort_ge (by decide) (by decide)⟩
theorem kw5 : kwd 5 [102, 101, 101, 108, 115] := ⟨wso5, by decide, by decide, by decide, ssort_ge (by decide) (by decide)⟩
theorem kw6 : kwd 6 [111, 114] := ⟨wso6, by decide, by decide, by decide, ssort_ge (by decide) (by decide)⟩
theorem kw7 : kwd 7 [97, 110, 100] := ⟨wso7, by decide, by decide, by decide, ssort_ge (by decide) (by decide)⟩
theorem kw8 : kwd 8 [110, 111, 116] := ⟨wso8, by decide, by decide, by decide, ssort_ge (by decide) (by decide)⟩
theorem kw10 : kwd 10 [99, 114, 111, 115, 115, 105, 110, 103] := ⟨wso10, by decide, by decide, by decide, ssort_ge (by decide) (by decide)⟩
theorem kw11 : kwd 11 [106, 97, 114] := ⟨wso11, by decide, by decide, by decide, ssort_ge (by decide) (by decide)⟩
theorem kw12 : kwd 12 [110, 117, 109, 98, 101, 114] := ⟨wso12, by decide, by decide, by decide, ssort_ge (by decide) (by decide)⟩
theorem kw13 : kwd 13 [121, 101, 97, 114] := ⟨wso13, by decide, by decide, by decide, ssort_ge (by decide) (by decide)⟩
theorem kw14 : kwd 14 [109, 111, 111, 100] := ⟨wso14, by decide, by decide, by decide, ssort_ge (by decide) (by decide)⟩
theorem kw15 : kwd 15 [101, 97, 116, 101, 110] := ⟨wso15, by decide, by decide, by decide, ssort_ge (by decide) (by decide)⟩
theorem kw_pso {k : Int32} {wd : List Int32} (hk : kwd k wd) : wq f n h wd ↔ pso f n h = k := by
  obtain ⟨k1, k2, k3, k4, k5⟩ := hk
  constructor
  · rintro ⟨q1, q2, q3⟩
    obtain ⟨t1, t2, t3, t4⟩ := tk_in q1
    rw [t1, ← t3]
    unfold tks
    rw [if_pos q2, q3]
    exact (k1 wd).mpr rfl
  · intro e
    have c : ¬ n ≤ tkb f n h := pso_in (by rw [e]; exact k2)
    obtain ⟨t1, t2, t3, t4⟩ := tk_in c
    rw [t1, ← t3] at e
    unfold tks at e
    cases hl : isl (f (tkb f n h)) with
    | true =>
      rw [hl, if_pos rfl] at e
      exact ⟨c, hl, (k1 _).mp e⟩
    | false =>
      rw [hl, if_neg (by decide)] at e
      cases hd : isd (f (tkb f n h)) with
      | true =>
        rw [hd, if_pos rfl] at e
        rcases ite_inv e with ⟨_, e2⟩ | ⟨_, e2⟩
        · exact absurd e2.symm k3
        · exact absurd e2.symm k4
      | false =>
        rw [hd, if_neg (by decide)] at e
        exact absurd e (k5 _)
theorem is3 (hm : mS f n fr S h o) (h1 : pso f n h = 3 → Q 1 S) (h0 : pso f n h ≠ 3 → Q 0 S) : w120 116 97 107 101 115 0 0 0 S Q :=
  w120_ok [116, 97, 107, 101, 115] (by decide) (by decide) (by decide) hm (fun q => h1 ((kw_pso kw3).mp q)) (fun q => h0 (fun e => q ((kw_pso kw3).mpr e)))
theorem is4 (hm : mS f n fr S h o) (h1 : pso f n h = 4 → Q 1 S) (h0 : pso f n h ≠ 4 → Q 0 S) : w120 112 117 116 115 0 0 0 0 S Q :=
  w120_ok [112, 117, 116, 115] (by decide) (by decide) (by decide) hm (fun q => h1 ((kw_pso kw4).mp q)) (fun q => h0 (fun e => q ((kw_pso kw4).mpr e)))
theorem is5 (hm : mS f n fr S h o) (h1 : pso f n h = 5 → Q 1 S) (h0 : pso f n h ≠ 5 → Q 0 S) : w120 102 101 101 108 115 0 0 0 S Q :=
  w120_ok [102, 101, 101, 108, 115] (by decide) (by decide) (by decide) hm (fun q => h1 ((kw_pso kw5).mp q)) (fun q => h0 (fun e => q ((kw_pso kw5).mpr e)))
theorem is6 (hm : mS f n fr S h o) (h1 : pso f n h = 6 → Q 1 S) (h0 : pso f n h ≠ 6 → Q 0 S) : w120 111 114 0 0 0 0 0 0 S Q :=
  w120_ok [111, 114] (by decide) (by decide) (by decide) hm (fun q => h1 ((kw_pso kw6).mp q)) (fun q => h0 (fun e => q ((kw_pso kw6).mpr e)))
theorem is7 (hm : mS f n fr S h o) (h1 : pso f n h = 7 → Q 1 S) (h0 : pso f n h ≠ 7 → Q 0 S) : w120 97 110 100 0 0 0 0 0 S Q :=
  w120_ok [97, 110, 100] (by decide) (by decide) (by decide) hm (fun q => h1 ((kw_pso kw7).mp q)) (fun q => h0 (fun e => q ((kw_pso kw7).mpr e)))
theorem is8 (hm : mS f n fr S h o) (h1 : pso f n h = 8 → Q 1 S) (h0 : pso f n h ≠ 8 → Q 0 S) : w120 110 111 116 0 0 0 0 0 S Q :=
  w120_ok [110, 111, 116] (by decide) (by decide) (by decide) hm (fun q => h1 ((kw_pso kw8).mp q)) (fun q => h0 (fun e => q ((kw_pso kw8).mpr e)))
theorem is10 (hm : mS f n fr S h o) (h1 : pso f n h = 10 → Q 1 S) (h0 : pso f n h ≠ 10 → Q 0 S) : w120 99 114 111 115 115 105 110 103 S Q :=
  w120_ok [99, 114, 111, 115, 115, 105, 110, 103] (by decide) (by decide) (by decide) hm (fun q => h1 ((kw_pso kw10).mp q)) (fun q => h0 (fun e => q ((kw_pso kw10).mpr e)))
theorem is11 (hm : mS f n fr S h o) (h1 : pso f n h = 11 → Q 1 S) (h0 : pso f n h ≠ 11 → Q 0 S) : w120 106 97 114 0 0 0 0 0 S Q :=
  w120_ok [106, 97, 114] (by decide) (by decide) (by decide) hm (fun q => h1 ((kw_pso kw11).mp q)) (fun q => h0 (fun e => q ((kw_pso kw11).mpr e)))
theorem is12 (hm : mS f n fr S h o) (h1 : pso f n h = 12 → Q 1 S) (h0 : pso f n h ≠ 12 → Q 0 S) : w120 110 117 109 98 101 114 0 0 S Q :=
  w120_ok [110, 117, 109, 98, 101, 114] (by decide) (by decide) (by decide) hm (fun q => h1 ((kw_pso kw12).mp q)) (fun q => h0 (fun e => q ((kw_pso kw12).mpr e)))
theorem is13 (hm : mS f n fr S h o) (h1 : pso f n h = 13 → Q 1 S) (h0 : pso f n h ≠ 13 → Q 0 S) : w120 121 101 97 114 0 0 0 0 S Q :=
  w120_ok [121, 101, 97, 114] (by decide) (by decide) (by decide) hm (fun q => h1 ((kw_pso kw13).mp q)) (fun q => h0 (fun e => q ((kw_pso kw13).mpr e)))
theorem is14 (hm : mS f n fr S h o) (h1 : pso f n h = 14 → Q 1 S) (h0 : pso f n h ≠ 14 → Q 0 S) : w120 109 111 111 100 0 0 0 0 S Q :=
  w120_ok [109, 111, 111, 100] (by decide) (by decide) (by decide) hm (fun q => h1 ((kw_pso kw14).mp q)) (fun q => h0 (fun e => q ((kw_pso kw14).mpr e)))
theorem is15 (hm : mS f n fr S h o) (h1 : pso f n h = 15 → Q 1 S) (h0 : pso f n h ≠ 15 → Q 0 S) : w120 101 97 116 101 110 0 0 0 S Q :=
  w120_ok [101, 97, 116, 101, 110] (by decide) (by decide) (by decide) hm (fun q => h1 ((kw_pso kw15).mp q)) (fun q => h0 (fun e => q ((kw_pso kw15).mpr e)))
theorem nx_ok {Q : ri_H → Prop} (hm : mM f n fr S0 S h o) (p0 : pso f n h ≠ 0) (p1 : pso f n h ≠ 1) (hQ : ∀ S', mM f n fr S0 S' (pen f n h) o → Q S') : w117 S Q := by
  obtain ⟨a, hB, hh, hd, ho, hb⟩ := hm
  have hp := pen_b (f := f) hh
  refine next_ok hp.2 hB (md_here hd p0 p1) (fun S' a2 d2 => hQ S' ⟨am_q a a2 (by decide), mB_am hB a2 (by decide) (by decide) (by decide), hp.2, d2, (a2.2 24 (by decide)).1.trans ho, (a2.2 25 (by decide)).1.trans hb⟩)
theorem w122_ok (hm : mM f n fr S0 S h o) (p0 : pso f n h ≠ 0) (p1 : pso f n h ≠ 1) (ho5 : o < 5) (hQ : ∀ S', mM f n fr S0 S' (pen f n h) (o + 1) → Q 1 S') : w122 S Q := by
  unfold w122
  obtain ⟨a, hB, hh, hd, ho, hb⟩ := hm
  rw [ho, nI_1]
  refine ⟨fun _ => ?_, fun c => absurd (Decidable.not_not.mp c) (fun e => ?_)⟩
  · have a1 : am [] [24] S (ri_wi S 50 24 (nI (o + 1))) := am_f (am_refl _ _ _) (by decide)
    refine nx_ok (S0 := S0) (h := h) (o := o + 1) ⟨am_q a a1 (by decide), mB_am hB a1 (by decide) (by decide) (by decide), hh, ?_, ?_, ?_⟩ p0 p1 (fun S' hm' => hQ S' hm')
    · unfold md at hd ⊢
      rw [(a1.2 22 (by decide)).1, (a1.2 21 (by decide)).1, (a1.2 20 (by decide)).1, (a1.2 23 (by decide)).2]
      exact hd
    · rw [ri_wi_1, pk_us]
    · rw [ri_wi_1, pk_un (by decide)]
      exact hb
  · have := (nI_eq (b := 5) (by omega) (by decide)).mp e
    omega
theorem w122_no (hm : mM f n fr S0 S h 5) (hQ : ∀ S', mFl S0 (ppl f n h) S' → Q 0 S') : w122 S Q := by
  unfold w122
  refine ⟨fun c => absurd hm.2.2.2.2.1 c, fun _ => w118_ok hm hQ⟩
theorem w123_ok (hm : mM f n fr S0 S h o) (h1 : ∀ j, j < 6 → pso f n h = nI (10 + j) → Q (S.1 50 (12 + j)) S) (h0 : (∀ j, j < 6 → pso f n h ≠ nI (10 + j)) → ∀ S', mFl S0 (ppl f n h) S' → Q 0 S') : w123 S Q := by
  unfold w123
  refine is10 hm.2 (fun e => ⟨fun c => absurd c (by decide), fun _ => h1 0 (by decide) e⟩) (fun e0 => ⟨fun _ => ?_, fun c => absurd rfl c⟩)
  refine is11 hm.2 (fun e => ⟨fun c => absurd c (by decide), fun _ => h1 1 (by decide) e⟩) (fun e1 => ⟨fun _ => ?_, fun c => absurd rfl c⟩)
  refine is12 hm.2 (fun e => ⟨fun c => absurd c (by decide), fun _ => h1 2 (by decide) e⟩) (fun e2 => ⟨fun _ => ?_, fun c => absurd rfl c⟩)
  refine is13 hm.2 (fun e => ⟨fun c => absurd c (by decide), fun _ => h1 3 (by decide) e⟩) (fun e3 => ⟨fun _ => ?_, fun c => absurd rfl c⟩)
  refine is14 hm.2 (fun e => ⟨fun c => absurd c (by decide), fun _ => h1 4 (by decide) e⟩) (fun e4 => ⟨fun _ => ?_, fun c => absurd rfl c⟩)
  refine is15 hm.2 (fun e => ⟨fun c => absurd c (by decide), fun _ => h1 5 (by decide) e⟩) (fun e5 => ⟨fun _ => ?_, fun c => absurd rfl c⟩)
  refine w118_ok hm (fun S' hf => h0 (fun j hj => ?_) S' hf)
  match j, hj with
  | 0, _ => exact e0
  | 1, _ => exact e1
  | 2, _ => exact e2
  | 3, _ => exact e3
  | 4, _ => exact e4
  | 5, _ => exact e5
  | j + 6, hj => exact absurd hj (by omega)
end WS
