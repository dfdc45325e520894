/-! codes: rows of steps, run on a stack; what tell answers -/
def eneg : List Int32 → List Int32
  | x :: t => (-x) :: t
  | [] => []
def enot : List Int32 → List Int32
  | x :: t => (if x = 0 then 1 else 0) :: t
  | [] => []
def ebin (s : Int32) : List Int32 → List Int32
  | y :: x :: t => jn s x y :: t
  | [x] => [x]
  | [] => []
def es (nm : Nat → Int32) (s : Int32) (st : List Int32) : List Int32 :=
  if s < -6 then (if s = -7 then eneg st else if s = -8 then enot st else ebin s st)
  else (if s < 0 then it nm 6 (-1 - s) else s) :: st
def ev (nm : Nat → Int32) : List Int32 → List Int32 → List Int32
  | [], st => st
  | s :: r, st => ev nm r (es nm s st)
def stk (S : ri_H) (st : List Int32) : Prop := ∀ i, i < st.length → S.1 4 i = st.getD (st.length - 1 - i) 0
theorem es_len (nm : Nat → Int32) (s : Int32) (st : List Int32) : (es nm s st).length ≤ st.length + 1 := by
  unfold es
  split
  · split
    · cases st <;> simp [eneg]
    · split
      · cases st <;> simp [enot]
      · match st with
        | [] => simp [ebin]
        | [x] => simp [ebin]
        | y :: x :: t => simp [ebin]
  · simp
theorem stk_push {S : ri_H} {st : List Int32} (h : stk S st) (v : Int32) : stk (ri_wi S 4 st.length v) (v :: st) := by
  intro i hi
  rw [ri_wi_1]
  unfold upd
  by_cases e : i = st.length
  · subst e
    simp
  · rw [if_neg e, h i (by simp at hi; omega)]
    have : (v :: st).length - 1 - i = (st.length - 1 - i) + 1 := by simp at hi ⊢; omega
    rw [this]
    rfl
theorem stk_top {S : ri_H} {x : Int32} {st : List Int32} (h : stk S (x :: st)) : S.1 4 st.length = x := by
  rw [h st.length (by simp)]
  simp
theorem stk_un {S : ri_H} {x : Int32} {st : List Int32} (h : stk S (x :: st)) (v : Int32) : stk (ri_wi S 4 st.length v) (v :: st) := by
  refine stk_push (fun i hi => ?_) v
  rw [h i (by simp; omega)]
  have : (x :: st).length - 1 - i = (st.length - 1 - i) + 1 := by simp; omega
  rw [this]
  rfl
theorem stk_tl {S : ri_H} {x : Int32} {st : List Int32} (h : stk S (x :: st)) : stk S st := by
  intro i hi
  rw [h i (by simp; omega)]
  have : (x :: st).length - 1 - i = (st.length - 1 - i) + 1 := by simp; omega
  rw [this]
  rfl
section STEP
variable {q : Nat} {K : Int32 → Int32 → Int32 → ri_H → Prop} {Q : Int32 → ri_H → Prop} {nm : Nat → Int32} {x5 x7 s : Int32} {S : ri_H} {st : List Int32}
theorem w30_b191_ok (hst : stk S st) (hl : st.length ≤ 160) (h7 : ¬ s = -7 ∨ st = []) (h8 : ¬ s = -8 ∨ st = []) (h6 : s < -6) (hK : ∀ S', ag [4] S S' → stk S' (es nm s st) → K x5 (nI (es nm s st).length) (x7 + 1) S') : w30_b191 q K Q x5 (nI st.length) x7 s S := by
  unfold w30_b191 w30_b237
  refine ⟨fun c => ?_, fun c => ?_⟩
  · have e : es nm s st = st := by
      have : s = -7 ∨ s = -8 := by
        have a := Int32.lt_iff_toInt_lt.mp h6
        have b := Int32.le_iff_toInt_le.mp c
        have a' : s.toInt < -6 := a
        have b' : -8 ≤ s.toInt := b
        rcases (show s.toInt = -7 ∨ s.toInt = -8 by omega) with h | h
        · exact Or.inl (Int32.toInt_inj.mp h)
        · exact Or.inr (Int32.toInt_inj.mp h)
      have hn : st = [] := by
        rcases this with h | h
        · rcases h7 with g | g
          · exact absurd h g
          · exact g
        · rcases h8 with g | g
          · exact absurd h g
          · exact g
      subst hn
      unfold es
      rw [if_pos h6]
      split
      · rfl
      · split <;> rfl
    have := hK S (ag_refl _ _)
    rw [e] at this
    exact this hst
  · have n7 : ¬ s = -7 := fun h => c (by subst h; decide)
    have n8 : ¬ s = -8 := fun h => c (by subst h; decide)
    have e0 : es nm s st = ebin s st := by
      unfold es
      rw [if_pos h6, if_neg n7, if_neg n8]
    match st, hst, hl, h7, h8, hK, e0 with
    | [], hst, hl, h7, h8, hK, e0 =>
      refine ⟨fun _ => ?_, fun c => absurd (by decide) c⟩
      have := hK S (ag_refl _ _)
      rw [e0] at this
      exact this hst
    | [x], hst, hl, h7, h8, hK, e0 =>
      refine ⟨fun _ => ?_, fun c => absurd (show nI 1 ≤ 1 by decide) c⟩
      have := hK S (ag_refl _ _)
      rw [e0] at this
      exact this hst
    | y :: x :: t, hst, hl, h7, h8, hK, e0 =>
      have hl' : t.length + 2 ≤ 160 := hl
      have e1 : nI (y :: x :: t).length + (-1) = nI (t.length + 1) := pk_m1 _
      have e2 : nI (t.length + 1) - 1 = nI t.length := nI_pred _
      refine ⟨fun c => absurd c ?_, fun c => ?_⟩
      · exact nI_ge (a := 1) (b := (y :: x :: t).length) (by simp) (by simp; omega)
      · rw [e1, e2, nI_clamp (by omega), nI_clamp (by omega)]
        refine ⟨vp_in_nI (by omega) (by decide), vp_in_nI (by omega) (by decide), vp_in_nI (by omega) (by decide), ?_⟩
        have hy : S.1 4 (t.length + 1) = y := stk_top hst
        have hx : S.1 4 t.length = x := stk_top (stk_tl hst)
        rw [hy, hx]
        have := hK (ri_wi S 4 t.length (jn s x y)) (ag_wi (ag_refl _ _) (by decide))
        rw [e0] at this
        exact this (stk_un (stk_tl hst) _)
theorem w30_b116_ok (hst : stk S st) (hl : st.length ≤ 160) (h6 : s < -6) (hK : ∀ S', ag [4] S S' → stk S' (es nm s st) → K x5 (nI (es nm s st).length) (x7 + 1) S') : w30_b116 q K Q x5 (nI st.length) x7 s S := by
  unfold w30_b116 w30_b150
  match st, hst, hl, hK with
  | [], hst, hl, hK =>
    have := w30_b191_ok (q := q) (Q := Q) hst hl (Or.inr rfl) (Or.inr rfl) h6 hK
    exact ⟨fun c => ⟨fun _ => this, fun _ => ⟨fun _ => this, fun c => absurd (by decide) c⟩⟩, fun _ => ⟨fun _ => ⟨fun _ => this, fun _ => ⟨fun _ => this, fun c => absurd (by decide) c⟩⟩, fun c => absurd (by decide) c⟩⟩
  | x :: t, hst, hl, hK =>
    have hl' : t.length + 1 ≤ 160 := hl
    have e2 : nI (x :: t).length - 1 = nI t.length := nI_pred _
    have n0 : ¬ nI (x :: t).length ≤ 0 := nI_nle (by simp) (by simp; omega)
    have hx : S.1 4 t.length = x := stk_top hst
    by_cases c7 : s = -7
    · refine ⟨fun c => absurd c7 c, fun _ => ⟨fun c => absurd c n0, fun _ => ?_⟩⟩
      rw [e2, nI_clamp (by omega), hx]
      refine ⟨vp_in_nI (by omega) (by decide), vp_in_nI (by omega) (by decide), ?_⟩
      have := hK (ri_wi S 4 t.length (-x)) (ag_wi (ag_refl _ _) (by decide))
      have e0 : es nm s (x :: t) = (-x) :: t := by
        unfold es
        rw [if_pos h6, if_pos c7]
        rfl
      rw [e0] at this
      exact this (stk_un hst _)
    · refine ⟨fun _ => ?_, fun c => absurd c7 c⟩
      by_cases c8 : s = -8
      · refine ⟨fun c => absurd c8 c, fun _ => ⟨fun c => absurd c n0, fun _ => ?_⟩⟩
        rw [e2, nI_clamp (by omega), hx]
        refine ⟨vp_in_nI (by omega) (by decide), ?_⟩
        unfold w30_b187
        rw [nI_clamp (by omega)]
        have e0 : es nm s (x :: t) = (if x = 0 then 1 else 0) :: t := by
          unfold es
          rw [if_pos h6, if_neg c7, if_pos c8]
          rfl
        refine ⟨fun c => ⟨vp_in_nI (by omega) (by decide), ?_⟩, fun c => ⟨vp_in_nI (by omega) (by decide), ?_⟩⟩
        · have := hK (ri_wi S 4 t.length 0) (ag_wi (ag_refl _ _) (by decide))
          rw [e0, if_neg c] at this
          exact this (stk_un hst _)
        · have := hK (ri_wi S 4 t.length 1) (ag_wi (ag_refl _ _) (by decide))
          rw [e0, if_pos (Decidable.not_not.mp c)] at this
          exact this (stk_un hst _)
      · exact ⟨fun _ => w30_b191_ok hst hl (Or.inl c7) (Or.inl c8) h6 hK, fun c => absurd c8 c⟩
end STEP
theorem w30_loop (q : Nat) (hq : q ≠ 2 ∧ q ≠ 4) {Q : Int32 → ri_H → Prop} {nm : Nat → Int32} : ∀ (c : List Int32) (st : List Int32) (i till : Nat) (S : ri_H), (∀ j, j < c.length → S.1 2 (i + j) = c.getD j 0) → i + c.length = till → till ≤ 960 → stk S st → st.length + c.length ≤ 160 → (∀ k, it (S.1 q) 6 k = it nm 6 k) → (∀ S', ag [4] S S' → stk S' (ev nm c st) → (ev nm c st).length ≤ 160 → w30_b243 q Q (nI (ev nm c st).length) S') → w30_l37 q Q (c.length + 1) (nI till) (nI st.length) (nI i) S
  | [], st, i, till, S, _, he, ht, hst, hl, _, hQ => by
    have he' : i = till := he
    subst he'
    unfold w30_l37
    have := hQ S (ag_refl _ _) hst (by simpa [ev] using hl)
    exact ⟨fun _ => this, fun _ => ⟨fun _ => this, fun c => absurd (nI_le (Nat.le_refl _) (by omega)) c⟩⟩
  | s :: r, st, i, till, S, hc, he, ht, hst, hl, hnm, hQ => by
    have he' : i + (r.length + 1) = till := he
    have hl' : st.length + (r.length + 1) ≤ 160 := hl
    unfold w30_l37
    refine ⟨fun c => absurd c (nI_pos (by omega)), fun _ => ⟨fun c => absurd c (nI_ge (by omega) (by omega)), fun _ => ⟨fun c => absurd c (nI_ge (a := i) (b := 960) (by omega) (by omega)), fun _ => ⟨vp_in_nI (by omega) (by decide), ?_⟩⟩⟩⟩
    have hs : S.1 2 i = s := hc 0 (by simp)
    rw [nI_clamp (by omega), hs]
    have hK : ∀ S', ag [4] S S' → stk S' (es nm s st) → w30_l37 q Q (r.length + 1) (nI till) (nI (es nm s st).length) (nI i + 1) S' := by
      intro S' hag hst'
      rw [nI_1]
      have h2 := (hag 2 (by decide)).1
      have h3 := (hag q (by simp [hq.2])).1
      refine w30_loop q hq r (es nm s st) (i + 1) till S' (fun j hj => ?_) (by omega) ht hst' (by have := es_len nm s st; omega) (fun k => by rw [h3, hnm k]) (fun S2 h2 h3 h4 => hQ S2 (ag_tr hag h2) h3 h4)
      rw [h2, show i + 1 + j = i + (j + 1) by omega]
      exact hc (j + 1) (by simpa using hj)
    refine ⟨fun c => w30_b116_ok hst (by omega) c hK, fun c => ⟨fun c2 => absurd c2 (nI_ge (a := st.length) (b := 160) (by omega) (by omega)), fun _ => ?_⟩⟩
    unfold w30_b109 w30_b237
    rw [nI_clamp (by omega), nI_1]
    refine ⟨fun c3 => ⟨vp_in_nI (by omega) (by decide), ?_⟩, fun c3 => ⟨vp_in_nI (by omega) (by decide), ?_⟩⟩
    · have := hK (ri_wi S 4 st.length (it (S.1 q) 6 (-1 - s))) (ag_wi (ag_refl _ _) (by decide))
      have e0 : es nm s st = it nm 6 (-1 - s) :: st := by
        unfold es
        rw [if_neg c, if_pos c3]
      rw [e0, hnm] at this
      rw [hnm]
      exact this (stk_push hst _)
    · have := hK (ri_wi S 4 st.length s) (ag_wi (ag_refl _ _) (by decide))
      have e0 : es nm s st = s :: st := by
        unfold es
        rw [if_neg c, if_neg c3]
      rw [e0] at this
      exact this (stk_push hst _)
/-- what a code says -/
def vl (nm : Nat → Int32) (c : List Int32) : Int32 := (ev nm c []).headD 0
/-- a code that lays one value on whatever stands there -/
def cw (c : List Int32) : Prop := ∀ nm st, ev nm c st = vl nm c :: st
theorem ev_app (nm : Nat → Int32) : ∀ (c d : List Int32) (st : List Int32), ev nm (c ++ d) st = ev nm d (ev nm c st)
  | [], _, _ => rfl
  | s :: r, d, st => ev_app nm r d (es nm s st)
theorem sp_tell (q : Nat) (hq : q ≠ 2 ∧ q ≠ 4) {a b : Int32} {S : ri_H} {Q : Int32 → ri_H → Prop} {nm : Nat → Int32} (c : List Int32) (i till : Nat) (h1 : it (S.1 3) 24 (a * 4 + b) = nI i) (h2 : it (S.1 3) 24 (a * 4 + b + 1) = nI till) (hc : ∀ j, j < c.length → S.1 2 (i + j) = c.getD j 0) (he : i + c.length = till) (ht : till ≤ 960) (hl : c.length ≤ 160) (hcw : cw c) (hnm : ∀ k, it (S.1 q) 6 k = it nm 6 k) (hQ : ∀ S', ag [4] S S' → Q (hd (vl nm c) (-99) 99) S') : w30 q a b S Q := by
  unfold w30
  rw [h1, h2]
  refine ⟨c.length + 1, w30_loop q hq c [] i till S hc he ht (fun i hi => absurd hi (Nat.not_lt_zero i)) (by simpa using hl) hnm (fun S' h3 h4 _ => ?_)⟩
  rw [hcw nm []] at h4 ⊢
  unfold w30_b243
  refine ⟨fun c => absurd c (show ¬ nI 1 ≤ 0 by decide), fun _ => ⟨vin_c rfl, ?_⟩⟩
  have : S'.1 4 (0 : Int32).toNatClampNeg = vl nm c := h4 0 (by simp)
  rw [this]
  exact hQ S' h3
