/-! codes: rows of steps, run on a stack; what tell answers -/
def eneg : List Int32 → List Int32
  | x :: t => (-x) :: t
  | [] => []
def enot : List Int32 → List Int32
  | x :: t => (if x = 0 then 1 else 0) :: t
  | [] => []
def ebin (s : Int32) : List Int32 → List Int32
  | y :: x :: t => jn s x y :: t
  | [x] => [x]
  | [] => []
def es (nm : Nat → Int32) (s : Int32) (st : List Int32) : List Int32 :=
  if s < -6 then (if s = -7 then eneg st else if s = -8 then enot st else ebin s st)
  else (if s < 0 then it nm 6 (-1 - s) else s) :: st
def ev (nm : Nat → Int32) : List Int32 → List Int32 → List Int32
  | [], st => st
  | s :: r, st => ev nm r (es nm s st)
def stk (S : ri_H) (st : List Int32) : Prop := ∀ i, i < st.length → S.1 4 i = st.getD (st.length - 1 - i) 0
theorem es_len (nm : Nat → Int32) (s : Int32) (st : List Int32) : (es nm s st).length ≤ st.length + 1 := by
  unfold es
  split
  · split
    · cases st <;> simp [eneg]
    · split
      · cases st <;> simp [enot]
      · match st with
        | [] => simp [ebin]
        | [x] => simp [ebin]
        | y :: x :: t => simp [ebin]
  · simp
theorem stk_push {S : ri_H} {st : List Int32} (h : stk S st) (v : Int32) : stk (ri_wi S 4 st.length v) (v :: st) := by
  intro i hi
  rw [ri_wi_1]
  unfold upd
  by_cases e : i = st.length
  · subst e
    simp
  · rw [if_neg e, h i (by simp at hi; omega)]
    have : (v :: st).length - 1 - i = (st.length - 1 - i) + 1 := by simp at hi ⊢; omega
    rw [this]
    rfl
theorem stk_top {S : ri_H} {x : Int32} {st : List Int32} (h : stk S (x :: st)) : S.1 4 st.length = x := by
  rw [h st.length (by simp)]
  simp
theorem stk_un {S : ri_H} {x : Int32} {st : List Int32} (h : stk S (x :: st)) (v : Int32) : stk (ri_wi S 4 st.length v) (v :: st) := by
  refine stk_push (fun i hi => ?_) v
  rw [h i (by simp; omega)]
  have : (x :: st).length - 1 - i = (st.length - 1 - i) + 1 := by simp; omega
  rw [this]
  rfl
theorem stk_tl {S : ri_H} {x : Int32} {st : List Int32} (h : stk S (x :: st)) : stk S st := by
  intro i hi
  rw [h i (by simp; omega)]
  have : (x :: st).length - 1 - i = (st.length - 1 - i) + 1 := by simp; omega
  rw [this]
  rfl
/-- how many stand there after a code, if it never takes what isn't there -/
def hg : List Int32 → Nat → Option Nat
  | [], h => some h
  | s :: r, h => if s < -6 then (if s = -7 then (if 1 ≤ h then hg r h else none) else if s = -8 then (if 1 ≤ h then hg r h else none) else (if 2 ≤ h then hg r (h - 1) else none)) else hg r (h + 1)
theorem hg_app : ∀ (c d : List Int32) (h : Nat), hg (c ++ d) h = (hg c h).bind (hg d)
  | [], _, _ => rfl
  | s :: r, d, h => by
    show hg (s :: (r ++ d)) h = (hg (s :: r) h).bind (hg d)
    unfold hg
    split
    · split
      · split
        · exact hg_app r d h
        · rfl
      · split
        · split
          · exact hg_app r d h
          · rfl
        · split
          · exact hg_app r d (h - 1)
          · rfl
    · exact hg_app r d (h + 1)
theorem it_n4 (f : Nat → Int32) {n i : Nat} (hi : i < n) (hn : n < 2 ^ 31) : it f n (nI i) = f i := by
  unfold it
  rw [if_neg (nI_pos (by omega)), if_neg (show ¬ Int32.ofNat n ≤ nI i from nI_ge hi hn), nI_clamp (by omega)]
theorem pu_n4 (S : ri_H) {i : Nat} (v : Int32) (hi : i < 160) : ri_wr S 4 (pu 160 (S.1 4) (nI i) v) = ri_wi S 4 i v := by
  unfold pu
  rw [if_neg (nI_pos (by omega)), if_neg (show ¬ Int32.ofNat 160 ≤ nI i from nI_ge hi (by decide)), nI_clamp (by omega), ri_wi_wr]
theorem w30_loop (q : Nat) (hq : q ≠ 2 ∧ q ≠ 4) {Q : Int32 → ri_H → Prop} {nm : Nat → Int32} : ∀ (c : List Int32) (st : List Int32) (i till k : Nat) (S : ri_H), (∀ j, j < c.length → S.1 2 (i + j) = c.getD j 0) → i + c.length = till → till ≤ 960 → stk S st → st.length + c.length ≤ 160 → hg c st.length = some k → (∀ k, it (S.1 q) 6 k = it nm 6 k) → (∀ S', ag [4] S S' → stk S' (ev nm c st) → (ev nm c st).length ≤ 160 → w30_b226 q Q S') → w30_l37 q Q (c.length + 1) (nI till) (nI st.length) (nI i) S
  | [], st, i, till, k, S, _, he, ht, hst, hl, _, _, hQ => by
    have he' : i = till := he
    subst he'
    unfold w30_l37
    have := hQ S (ag_refl _ _) hst (by simpa [ev] using hl)
    exact ⟨fun _ => this, fun _ => ⟨fun _ => this, fun c => absurd (nI_le (Nat.le_refl _) (by omega)) c⟩⟩
  | s :: r, st, i, till, k, S, hc, he, ht, hst, hl, hh, hnm, hQ => by
    have he' : i + (r.length + 1) = till := he
    have hl' : st.length + (r.length + 1) ≤ 160 := hl
    unfold w30_l37
    refine ⟨fun c => absurd c (nI_pos (by omega)), fun _ => ⟨fun c => absurd c (nI_ge (by omega) (by omega)), fun _ => ⟨fun c => absurd c (nI_ge (a := i) (b := 960) (by omega) (by omega)), fun _ => ⟨vp_in_nI (by omega) (by decide), ?_⟩⟩⟩⟩
    have hs : S.1 2 i = s := hc 0 (by simp)
    rw [nI_clamp (by omega), hs]
    have hK : hg r (es nm s st).length = some k → ∀ S', ag [4] S S' → stk S' (es nm s st) → w30_l37 q Q (r.length + 1) (nI till) (nI (es nm s st).length) (nI i + 1) S' := by
      intro hh' S' hag hst'
      rw [nI_1]
      have h2 := (hag 2 (by decide)).1
      have h3 := (hag q (by simp [hq.2])).1
      refine w30_loop q hq r (es nm s st) (i + 1) till k S' (fun j hj => ?_) (by omega) ht hst' (by have := es_len nm s st; omega) hh' (fun k => by rw [h3, hnm k]) (fun S2 h2 h3 h4 => hQ S2 (ag_tr hag h2) h3 h4)
      rw [h2, show i + 1 + j = i + (j + 1) by omega]
      exact hc (j + 1) (by simpa using hj)
    unfold hg at hh
    unfold w30_b99 w30_b175 w30_b220
    by_cases c6 : s < -6
    · rw [if_pos c6] at hh
      refine ⟨fun _ => ?_, fun c => absurd c6 c⟩
      by_cases c7 : s = -7
      · rw [if_pos c7] at hh
        refine ⟨fun c => absurd c7 c, fun _ => ?_⟩
        match st, hst, hl', hK, hh with
        | [], _, _, _, hh => exact absurd hh (by simp)
        | x :: t, hst, hl', hK, hh =>
          have hl2 : t.length + 1 + (r.length + 1) ≤ 160 := hl'
          have e2 : nI (x :: t).length - 1 = nI t.length := nI_pred _
          have hx : S.1 4 t.length = x := stk_top hst
          have e0 : es nm s (x :: t) = (-x) :: t := by
            unfold es
            rw [if_pos c6, if_pos c7]
            rfl
          rw [if_pos (show 1 ≤ (x :: t).length by simp)] at hh
          rw [e0] at hK
          rw [e2, it_n4 _ (by omega) (by decide), hx, pu_n4 S _ (by omega)]
          exact hK hh _ (ag_wi (ag_refl _ _) (by decide)) (stk_un hst _)
      · rw [if_neg c7] at hh
        refine ⟨fun _ => ?_, fun c => absurd c7 c⟩
        by_cases c8 : s = -8
        · rw [if_pos c8] at hh
          refine ⟨fun c => absurd c8 c, fun _ => ?_⟩
          match st, hst, hl', hK, hh with
          | [], _, _, _, hh => exact absurd hh (by simp)
          | x :: t, hst, hl', hK, hh =>
            have hl2 : t.length + 1 + (r.length + 1) ≤ 160 := hl'
            have e2 : nI (x :: t).length - 1 = nI t.length := nI_pred _
            have hx : S.1 4 t.length = x := stk_top hst
            have e0 : es nm s (x :: t) = (if x = 0 then 1 else 0) :: t := by
              unfold es
              rw [if_pos c6, if_neg c7, if_pos c8]
              rfl
            rw [if_pos (show 1 ≤ (x :: t).length by simp)] at hh
            rw [e0] at hK
            rw [e2, it_n4 _ (by omega) (by decide), hx, pu_n4 S _ (by omega), pu_n4 S _ (by omega)]
            refine ⟨fun c => ?_, fun c => ?_⟩
            · rw [if_neg c] at hK
              exact hK hh _ (ag_wi (ag_refl _ _) (by decide)) (stk_un hst _)
            · rw [if_pos (Decidable.not_not.mp c)] at hK
              exact hK hh _ (ag_wi (ag_refl _ _) (by decide)) (stk_un hst _)
        · rw [if_neg c8] at hh
          refine ⟨fun _ => ?_, fun c => absurd c8 c⟩
          match st, hst, hl', hK, hh with
          | [], _, _, _, hh => exact absurd hh (by simp)
          | [_], _, _, _, hh => exact absurd hh (by simp)
          | y :: x :: t, hst, hl', hK, hh =>
            have hl2 : t.length + 2 + (r.length + 1) ≤ 160 := hl'
            have e1 : nI (y :: x :: t).length + (-1) = nI (t.length + 1) := pk_m1 _
            have e2 : nI (t.length + 1) - 1 = nI t.length := nI_pred _
            have hy : S.1 4 (t.length + 1) = y := stk_top hst
            have hx : S.1 4 t.length = x := stk_top (stk_tl hst)
            have e0 : es nm s (y :: x :: t) = jn s x y :: t := by
              unfold es
              rw [if_pos c6, if_neg c7, if_neg c8]
              rfl
            rw [if_pos (show 2 ≤ (y :: x :: t).length by simp)] at hh
            rw [e0] at hK
            rw [e1, e2, it_n4 _ (by omega) (by decide), it_n4 _ (by omega) (by decide), hx, hy, pu_n4 S _ (by omega)]
            exact hK hh _ (ag_wi (ag_refl _ _) (by decide)) (stk_un (stk_tl hst) _)
    · rw [if_neg c6] at hh
      refine ⟨fun c => absurd c c6, fun _ => ?_⟩
      rw [hnm, nI_1, pu_n4 S _ (by omega), pu_n4 S _ (by omega)]
      refine ⟨fun c3 => ?_, fun c3 => ?_⟩
      · have e0 : es nm s st = it nm 6 (-1 - s) :: st := by
          unfold es
          rw [if_neg c6, if_pos c3]
        rw [e0] at hK
        exact hK hh _ (ag_wi (ag_refl _ _) (by decide)) (stk_push hst _)
      · have e0 : es nm s st = s :: st := by
          unfold es
          rw [if_neg c6, if_neg c3]
        rw [e0] at hK
        exact hK hh _ (ag_wi (ag_refl _ _) (by decide)) (stk_push hst _)
/-- what a code says -/
def vl (nm : Nat → Int32) (c : List Int32) : Int32 := (ev nm c []).headD 0
/-- a code that lays one value on whatever stands there, and never takes what isn't there -/
def cw (c : List Int32) : Prop := (∀ nm st, ev nm c st = vl nm c :: st) ∧ ∀ h, hg c h = some (h + 1)
theorem ev_app (nm : Nat → Int32) : ∀ (c d : List Int32) (st : List Int32), ev nm (c ++ d) st = ev nm d (ev nm c st)
  | [], _, _ => rfl
  | s :: r, d, st => ev_app nm r d (es nm s st)
theorem sp_tell (q : Nat) (hq : q ≠ 2 ∧ q ≠ 4) {a b : Int32} {S : ri_H} {Q : Int32 → ri_H → Prop} {nm : Nat → Int32} (c : List Int32) (i till : Nat) (h1 : it (S.1 3) 24 (a * 4 + b) = nI i) (h2 : it (S.1 3) 24 (a * 4 + b + 1) = nI till) (hc : ∀ j, j < c.length → S.1 2 (i + j) = c.getD j 0) (he : i + c.length = till) (ht : till ≤ 960) (hl : c.length ≤ 160) (hcw : cw c) (hnm : ∀ k, it (S.1 q) 6 k = it nm 6 k) (hQ : ∀ S', ag [4] S S' → Q (hd (vl nm c) (-99) 99) S') : w30 q a b S Q := by
  unfold w30
  rw [h1, h2]
  refine ⟨c.length + 1, w30_loop q hq c [] i till 1 S hc he ht (fun i hi => absurd hi (Nat.not_lt_zero i)) (by simpa using hl) (hcw.2 0) hnm (fun S' h3 h4 _ => ?_)⟩
  rw [hcw.1 nm []] at h4
  unfold w30_b226
  have e : it (S'.1 4) 160 (0 : Int32) = vl nm c := (it_n4 (S'.1 4) (n := 160) (i := 0) (by decide) (by decide)).trans (h4 0 (by simp))
  rw [e]
  exact hQ S' h3
