/-! what holds at the end of a run: the rules by which methods are gone through -/
theorem ri_run_mono (E : ri_E) : ∀ (n : Nat) (d : Nat) (fr : ri_F) (S : ri_H) (r : Nat × Option Value × ri_H), ri_run E n d fr S r → ∀ n' d' : Nat, n ≤ n' → d ≤ d' → ri_run E n' d' fr S r := by
  intro n
  induction n with
  | zero => intro d fr S r h; exact h.elim
  | succ n ih =>
    intro d fr S r h n' d' hn hd
    obtain ⟨n', rfl⟩ : ∃ z, n' = z + 1 := ⟨n' - 1, by omega⟩
    have hn : n ≤ n' := by omega
    obtain ⟨m, pc, L, st⟩ := fr
    unfold ri_run at h ⊢
    rcases h with h | ⟨L', h1, h2⟩
    · left
      cases hs : ri_step E (m, pc, L, st) S with
      | none => rw [hs] at h; exact h.elim
      | some x =>
        rw [hs] at h
        rcases x with x | b | c | x
        · exact ih d _ _ r h n' d' hn hd
        · rcases h with ⟨h1, h2⟩ | ⟨h1, h2⟩
          · exact Or.inl ⟨h1, ih d _ _ r h2 n' d' hn hd⟩
          · exact Or.inr ⟨h1, ih d _ _ r h2 n' d' hn hd⟩
        · obtain ⟨d1, y, e, h1, h2⟩ := h
          exact ⟨d' - 1, y, by omega, ih d1 _ _ y h1 n' (d' - 1) hn (by omega), ih d _ _ r h2 n' d' hn hd⟩
        · exact h
    · exact Or.inr ⟨L', h1, ih d _ _ r h2 n' d' hn hd⟩
def ri_A (E : ri_E) (d : Nat) (fr : ri_F) (S : ri_H) (Q : Option Value → ri_H → Prop) : Prop := ∃ (n pcr : Nat) (v : Option Value) (S' : ri_H), ri_run E n d fr S (pcr, v, S') ∧ Q v S'
theorem ri_A.step {E : ri_E} {d : Nat} {fr fr' : ri_F} {S S' : ri_H} {Q : Option Value → ri_H → Prop} (h : ri_step E fr S = some (.inl (fr', S'))) (k : ri_A E d fr' S' Q) : ri_A E d fr S Q := by
  obtain ⟨n, pcr, v, S1, h1, h2⟩ := k
  refine ⟨n + 1, pcr, v, S1, ?_, h2⟩
  obtain ⟨m, pc, L, st⟩ := fr
  unfold ri_run
  rw [h]
  exact Or.inl h1
theorem ri_A.less {E : ri_E} {d m pc : Nat} {L L' : List (Option Value)} {st : List Value} {S : ri_H} {Q : Option Value → ri_H → Prop} (h : ri_lsb L' L) (k : ri_A E d (m, pc, L', st) S Q) : ri_A E d (m, pc, L, st) S Q := by
  obtain ⟨n, pcr, v, S1, h1, h2⟩ := k
  refine ⟨n + 1, pcr, v, S1, ?_, h2⟩
  unfold ri_run
  exact Or.inr ⟨L', h, h1⟩
theorem ri_go_inv {E : ri_E} : ∀ (k : Nat) (fr : ri_F) (S : ri_H) (x : (ri_F × ri_H) ⊕ ((Bool × (ri_F × ri_H) × (ri_F × ri_H)) ⊕ ((Nat × List Value × ri_F × ri_H) ⊕ (Nat × Option Value × ri_H)))), ri_go E k fr S = some x → ∃ (fr0 : ri_F) (S0 : ri_H), (x = .inl (fr0, S0) ∨ ∃ y, x = .inr y ∧ ri_step E fr0 S0 = some (.inr y)) ∧ ∀ (d : Nat) (Q : Option Value → ri_H → Prop), ri_A E d fr0 S0 Q → ri_A E d fr S Q
  | 0, fr, S, x, h => by
    cases h
    exact ⟨fr, S, Or.inl rfl, fun _ _ k => k⟩
  | k + 1, fr, S, x, h => by
    unfold ri_go at h
    cases hs : ri_step E fr S with
    | none => rw [hs] at h; cases h
    | some y =>
      rw [hs] at h
      cases y with
      | inl r =>
        obtain ⟨fr0, S0, h1, h2⟩ := ri_go_inv k r.1 r.2 x h
        exact ⟨fr0, S0, h1, fun d Q z => ri_A.step (fr' := r.1) (S' := r.2) hs (h2 d Q z)⟩
      | inr y =>
        cases h
        exact ⟨fr, S, Or.inr ⟨y, rfl, hs⟩, fun _ _ k => k⟩
section RULES
variable {E : ri_E} {d : Nat} {fr fr' : ri_F} {S S' : ri_H} {Q : Option Value → ri_H → Prop}
/-- k plain steps -/
theorem A_nx (k : Nat) (h : ri_go E k fr S = some (.inl (fr', S'))) (kk : ri_A E d fr' S' Q) : ri_A E d fr S Q := by
  obtain ⟨fr0, S0, h1, h2⟩ := ri_go_inv k fr S _ h
  rcases h1 with h1 | ⟨y, h1, -⟩
  · cases h1
    exact h2 d Q kk
  · cases h1
theorem A_brb {b : Bool} {r1 r2 : ri_F × ri_H} (k : Nat) (h : ri_go E k fr S = some (.inr (.inl (b, r1, r2)))) (k1 : b = true → ri_A E d r1.1 r1.2 Q) (k2 : b = false → ri_A E d r2.1 r2.2 Q) : ri_A E d fr S Q := by
  obtain ⟨fr0, S0, h1, h2⟩ := ri_go_inv k fr S _ h
  rcases h1 with h1 | ⟨y, h1, hs⟩
  · cases h1
  · cases h1
    refine h2 d Q ?_
    cases b with
    | true =>
      obtain ⟨n, pcr, v, S1, g1, g2⟩ := k1 rfl
      refine ⟨n + 1, pcr, v, S1, ?_, g2⟩
      obtain ⟨m0, pc0, L0, st0⟩ := fr0
      unfold ri_run
      rw [hs]
      exact Or.inl (Or.inl ⟨rfl, g1⟩)
    | false =>
      obtain ⟨n, pcr, v, S1, g1, g2⟩ := k2 rfl
      refine ⟨n + 1, pcr, v, S1, ?_, g2⟩
      obtain ⟨m0, pc0, L0, st0⟩ := fr0
      unfold ri_run
      rw [hs]
      exact Or.inl (Or.inr ⟨rfl, g1⟩)
/-- a branch -/
theorem A_br (P : Prop) [hP : Decidable P] {r1 r2 : ri_F × ri_H} (k : Nat) (h : ri_go E k fr S = some (.inr (.inl (decide P, r1, r2)))) (k1 : P → ri_A E d r1.1 r1.2 Q) (k2 : ¬ P → ri_A E d r2.1 r2.2 Q) : ri_A E d fr S Q :=
  A_brb k h (fun e => k1 (of_decide_eq_true e)) (fun e => k2 (of_decide_eq_false e))
/-- an instruction that asks for something: it is so -/
theorem A_gd (P : Prop) [hP : Decidable P] {r1 r2 : ri_F × ri_H} (k : Nat) (h : ri_go E k fr S = some (.inr (.inl (decide P, r1, r2)))) (hp : P) (k1 : ri_A E d r1.1 r1.2 Q) : ri_A E d fr S Q :=
  A_brb k h (fun _ => k1) (fun e => absurd hp (of_decide_eq_false e))
/-- an index within -/
theorem A_ix (i : Int32) (n : Nat) {r1 r2 : ri_F × ri_H} (k : Nat) (h : ri_go E k fr S = some (.inr (.inl (ri_inb i n, r1, r2)))) (hp : vp_in i n) (k1 : ri_A E d r1.1 r1.2 Q) : ri_A E d fr S Q :=
  A_brb k h (fun _ => k1) (fun e => absurd hp (of_decide_eq_false (inst := instDecidableNot) e))
/-- a call -/
theorem A_call {j : Nat} {As : List Value} (k : Nat) (h : ri_go E k fr S = some (.inr (.inr (.inl (j, As, fr', S'))))) {e : Nat} (he : e < d) (kk : ri_A E e (ri_en j As) S' (fun v S1 => ri_A E d (ri_push fr' v) S1 Q)) : ri_A E d fr S Q := by
  obtain ⟨fr0, S0, h1, h2⟩ := ri_go_inv k fr S _ h
  rcases h1 with h1 | ⟨y, h1, hs⟩
  · cases h1
  · cases h1
    refine h2 d Q ?_
    obtain ⟨n1, p1, v1, S1, g1, n2, p2, v2, S2, g2, g3⟩ := kk
    refine ⟨n1 + n2 + 1, p2, v2, S2, ?_, g3⟩
    obtain ⟨m0, pc0, L0, st0⟩ := fr0
    unfold ri_run
    rw [hs]
    exact Or.inl ⟨d - 1, (p1, v1, S1), by omega, ri_run_mono E n1 e _ _ _ g1 (n1 + n2) (d - 1) (by omega) (by omega), ri_run_mono E n2 d _ _ _ g2 (n1 + n2) d (by omega) (Nat.le_refl _)⟩
/-- the end -/
theorem A_ret {m : Nat} {v : Option Value} (k : Nat) (h : ri_go E k fr S = some (.inr (.inr (.inr (m, v, S'))))) (hr : ri_rok m v = true) (hq : Q v S') : ri_A E d fr S Q := by
  obtain ⟨fr0, S0, h1, h2⟩ := ri_go_inv k fr S _ h
  rcases h1 with h1 | ⟨y, h1, hs⟩
  · cases h1
  · cases h1
    obtain ⟨m0, pc0, L0, st0⟩ := fr0
    refine h2 d Q ⟨1, pc0, v, S', ?_, hq⟩
    unfold ri_run
    rw [hs]
    exact Or.inl ⟨hr, rfl⟩
theorem A_mono {e : Nat} (h : ri_A E e fr S Q) (he : e ≤ d) : ri_A E d fr S Q := by
  obtain ⟨n, p, v, S1, h1, h2⟩ := h
  exact ⟨n, p, v, S1, ri_run_mono E n e _ _ _ h1 n d (Nat.le_refl _) he, h2⟩
theorem A_imp {Q' : Option Value → ri_H → Prop} (h : ri_A E d fr S Q') (hQ : ∀ v S', Q' v S' → Q v S') : ri_A E d fr S Q := by
  obtain ⟨n, p, v, S1, h1, h2⟩ := h
  exact ⟨n, p, v, S1, h1, hQ _ _ h2⟩
end RULES
