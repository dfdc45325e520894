/-! the law's own frames: a run goes on to what comes behind it (no end is asked for) -/
def ri_GC (E : ri_E) (D : Nat) (G : ri_F → ri_H → Prop) : Prop :=
  (∀ (fr : ri_F) (S : ri_H) (r : ri_F × ri_H), ri_step E fr S = some (.inl r) → G r.1 r.2 → G fr S) ∧
  (∀ (fr : ri_F) (S : ri_H) (b : Bool × (ri_F × ri_H) × (ri_F × ri_H)), ri_step E fr S = some (.inr (.inl b)) → (b.1 = true → G b.2.1.1 b.2.1.2) → (b.1 = false → b.2.2.1.1 ≠ 1000000 ∧ G b.2.2.1 b.2.2.2) → G fr S) ∧
  (∀ (fr : ri_F) (S : ri_H) (q : Nat × List Value × ri_F × ri_H), ri_step E fr S = some (.inr (.inr (.inl q))) → ∀ e : Nat, e ≤ D → ri_A E e (ri_en q.1 q.2.1) q.2.2.2 (fun v S1 => G (ri_push q.2.2.1 v) S1) → G fr S) ∧
  (∀ (m pc : Nat) (L L' : List (Option Value)) (st : List Value) (S : ri_H), ri_lsb L' L → G (m, pc, L', st) S → G (m, pc, L, st) S)
theorem ri_go_inv2 {E : ri_E} {D : Nat} {G : ri_F → ri_H → Prop} (hG : ri_GC E D G) : ∀ (k : Nat) (fr : ri_F) (S : ri_H) (x : (ri_F × ri_H) ⊕ ((Bool × (ri_F × ri_H) × (ri_F × ri_H)) ⊕ ((Nat × List Value × ri_F × ri_H) ⊕ (Nat × Option Value × ri_H)))), ri_go E k fr S = some x → ∃ (fr0 : ri_F) (S0 : ri_H), (x = .inl (fr0, S0) ∨ ∃ y, x = .inr y ∧ ri_step E fr0 S0 = some (.inr y)) ∧ (G fr0 S0 → G fr S)
  | 0, fr, S, x, h => by
    cases h
    exact ⟨fr, S, Or.inl rfl, fun k => k⟩
  | k + 1, fr, S, x, h => by
    unfold ri_go at h
    cases hs : ri_step E fr S with
    | none => rw [hs] at h; cases h
    | some y =>
      rw [hs] at h
      cases y with
      | inl r =>
        obtain ⟨fr0, S0, h1, h2⟩ := ri_go_inv2 hG k r.1 r.2 x h
        exact ⟨fr0, S0, h1, fun z => hG.1 fr S r hs (h2 z)⟩
      | inr y =>
        cases h
        exact ⟨fr, S, Or.inr ⟨y, rfl, hs⟩, fun k => k⟩
section BRULES
variable {E : ri_E} {D : Nat} {G : ri_F → ri_H → Prop} {fr fr' : ri_F} {S S' : ri_H}
theorem B_nx (hG : ri_GC E D G) (k : Nat) (h : ri_go E k fr S = some (.inl (fr', S'))) (kk : G fr' S') : G fr S := by
  obtain ⟨fr0, S0, h1, h2⟩ := ri_go_inv2 hG k fr S _ h
  rcases h1 with h1 | ⟨y, h1, -⟩
  · cases h1
    exact h2 kk
  · cases h1
theorem B_less (hG : ri_GC E D G) {m pc : Nat} {L L' : List (Option Value)} {st : List Value} (h : ri_lsb L' L) (kk : G (m, pc, L', st) S) : G (m, pc, L, st) S := hG.2.2.2 m pc L L' st S h kk
theorem B_brb (hG : ri_GC E D G) {b : Bool} {r1 r2 : ri_F × ri_H} (k : Nat) (h : ri_go E k fr S = some (.inr (.inl (b, r1, r2)))) (k1 : b = true → G r1.1 r1.2) (k2 : b = false → r2.1.1 ≠ 1000000 ∧ G r2.1 r2.2) : G fr S := by
  obtain ⟨fr0, S0, h1, h2⟩ := ri_go_inv2 hG k fr S _ h
  rcases h1 with h1 | ⟨y, h1, hs⟩
  · cases h1
  · cases h1
    exact h2 (hG.2.1 fr0 S0 (b, r1, r2) hs k1 k2)
theorem B_br (hG : ri_GC E D G) (P : Prop) [hP : Decidable P] {r1 r2 : ri_F × ri_H} (k : Nat) (h : ri_go E k fr S = some (.inr (.inl (decide P, r1, r2)))) (hn : Nat.beq r2.1.1 1000000 = false) (k1 : P → G r1.1 r1.2) (k2 : ¬ P → G r2.1 r2.2) : G fr S :=
  B_brb hG k h (fun e => k1 (of_decide_eq_true e)) (fun e => ⟨fun z => (by rw [z] at hn; cases hn), k2 (of_decide_eq_false e)⟩)
theorem B_gd (hG : ri_GC E D G) (P : Prop) [hP : Decidable P] {r1 r2 : ri_F × ri_H} (k : Nat) (h : ri_go E k fr S = some (.inr (.inl (decide P, r1, r2)))) (hp : P) (k1 : G r1.1 r1.2) : G fr S :=
  B_brb hG k h (fun _ => k1) (fun e => absurd hp (of_decide_eq_false e))
theorem B_ix (hG : ri_GC E D G) (i : Int32) (n : Nat) {r1 r2 : ri_F × ri_H} (k : Nat) (h : ri_go E k fr S = some (.inr (.inl (ri_inb i n, r1, r2)))) (hp : vp_in i n) (k1 : G r1.1 r1.2) : G fr S :=
  B_brb hG k h (fun _ => k1) (fun e => absurd hp (of_decide_eq_false (inst := instDecidableNot) e))
theorem B_call (hG : ri_GC E D G) {j : Nat} {As : List Value} (k : Nat) (h : ri_go E k fr S = some (.inr (.inr (.inl (j, As, fr', S'))))) {e : Nat} (he : e ≤ D) (kk : ri_A E e (ri_en j As) S' (fun v S1 => G (ri_push fr' v) S1)) : G fr S := by
  obtain ⟨fr0, S0, h1, h2⟩ := ri_go_inv2 hG k fr S _ h
  rcases h1 with h1 | ⟨y, h1, hs⟩
  · cases h1
  · cases h1
    exact h2 (hG.2.2.1 fr0 S0 (j, As, fr', S') hs e he kk)
end BRULES
/-- the walk of a method goes so -/
theorem ri_G_ok {l : Launch} {D : va_G} {tys : List (ClassId × FieldType)} {ad : Nat → Nat} {cA : Nat → ClassId} {fz : Value} {E : ri_E} (ha : ri_Ad ad cA fz tys) {d : Nat} {p : Program} {e : Env} {R : Room} {s : State} {m : MethodId} {args : Array Value} {below : List Frame} {meth : Method} {c : Code} {cells slots : Nat} {Q : State → Prop} {A : Nat → Prop} {t : ri_MT} {mi : Nat} (ht : ri_mt mi = some t) (cx : ri_Cx p s m args c t D tys ad fz E A) (hf : d + 2 ≤ R.frames) (hl : 64 * (d + 2) ≤ R.locals) (hc : cells ≤ R.cells) (hs : slots ≤ R.slots) :
    ri_GC E d (fun fr S => fr.1 = mi → ri_T (ri_Wf p l e R s m args below meth c cells slots Q) m mi (ri_ml0 t) D ad cA fz A s.heap fr S) := by
  have hmi : mi ≠ 1000000 := by
    intro z
    rw [z, ri_mt_none] at ht
    cases ht
  have hR : 1 ≤ R.frames ∧ 64 ≤ R.locals := ⟨by omega, by omega⟩
  have one : ∀ (fr : ri_F) (S : ri_H) (x : (ri_F × ri_H) ⊕ ((Bool × (ri_F × ri_H) × (ri_F × ri_H)) ⊕ ((Nat × List Value × ri_F × ri_H) ⊕ (Nat × Option Value × ri_H)))), ri_step E fr S = some x → fr.1 = mi → ri_Kx l R (ri_Wf p l e R s m args below meth c cells slots Q) m t mi D tys ad cA fz E A s.heap fr.2.1 x → ri_T (ri_Wf p l e R s m args below meth c cells slots Q) m mi (ri_ml0 t) D ad cA fz A s.heap fr S := by
    intro fr S x hst hm kx
    obtain ⟨mj, pc, L, st⟩ := fr
    have hm : mj = mi := hm
    subst hm
    have hst2 : ri_stp E mj pc L st S (ri_mt mj) = some x := hst
    rw [ht] at hst2
    have hst3 : ri_st2' E (ri_mcl t) mj pc L st S (ri_ins (ri_cdt t) pc) = some x := hst2
    cases hi : ri_ins (ri_cdt t) pc with
    | none => rw [hi] at hst3; cases hst3
    | some q =>
      obtain ⟨i, ln, w⟩ := q
      rw [hi] at hst3
      have hex : ri_ex E (ri_mcl t) mj pc ln w L st S i = some x := hst3
      obtain ⟨hd, hck⟩ := ri_chk_use (ri_dk_ok ht) hi
      exact rs_ex (cells := cells) (slots := slots) (Q := Q) cx ha ht hmi ⟨hc, hs⟩ hR hd hck hex kx
  refine ⟨fun fr S r h k hm => one fr S _ h hm k, fun fr S b h k1 k2 hm => one fr S _ h hm ⟨k1, k2⟩, fun fr S q h z hz k hm => one fr S _ h hm ?_, fun mj pc L L' st S h k hm => ?_⟩
  · intro u hu hfl
    obtain ⟨n, pcr, v, S1, hrun, hk⟩ := k
    exact ⟨z, v, S1, by omega, by omega, ri_met ha (ri_sound ha n) hu hfl hrun, hk⟩
  · obtain ⟨g1, g2⟩ := ri_lsb_get L' L h
    have hm : mj = mi := hm
    subst hm
    exact ⟨rfl, fun H locs ls hP hS hls => (k rfl).2 H locs ls hP hS ⟨hls.1, hls.2.1, by rw [← hls.2.2.1]; exact g1, fun i v hv => hls.2.2.2 i v (g2 i v hv)⟩⟩
