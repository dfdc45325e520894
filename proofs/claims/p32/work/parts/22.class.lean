/-! the class -/
/-! X4_rowOf, depth 0 -/
def w77 (a : Int32) (S : ri_H) (Q : Option Nat → ri_H → Prop) : Prop := (((a < (0 : Int32) ∨ (6 : Int32) < a) → Q none S) ∧ (a = (0 : Int32) → Q (some 11) S) ∧ (a = (1 : Int32) → Q (some 12) S) ∧ (a = (2 : Int32) → Q none S) ∧ (a = (3 : Int32) → Q (some 14) S) ∧ (a = (4 : Int32) → Q (some 15) S) ∧ (a = (5 : Int32) → Q (some 16) S) ∧ (a = (6 : Int32) → Q (some 17) S))
set_option maxRecDepth 10000 in
set_option maxHeartbeats 1000000 in
theorem wt77 {E : ri_E} (a : Int32) {S : ri_H} {Q : Option Nat → ri_H → Prop} (h : w77  a S Q) : ri_A E 0 (ri_en 77 [.ref 0, .int a]) S (Qr Q) := by
  unfold w77 at h
  show ri_A E 0 (77, 0, [some (.ref 0), some (.int a)], []) S (Qr Q)
  refine A_nx 2 (fr' := (77, ri_tgt 1 (91) (0) (6) [43, 51, 91, 59, 67, 75, 83] a, [some (.ref 0), some (.int a)], [])) (S' := S) rfl ?_
  rcases ri_swc a (0) 7 (by decide) (by decide) with c | ⟨i, hi, c⟩
  · have c : a < Int32.ofInt (0) ∨ Int32.ofInt (6) < a := c
    have h := h.1 c
    rw [ri_tgt_out a c (by decide) (by decide)]
    exact A_ret 2 (m := 77) (v := some (.null)) (S' := S) rfl rfl ⟨none, rfl, h⟩
  · have h := h.2
    match i, hi, c with
    | 0, hi, c =>
      have c : a = (0 : Int32) := c
      have h := h.1 c
      rw [show ri_tgt 1 (91) (0) (6) [43, 51, 91, 59, 67, 75, 83] a = 44 by rw [c]; decide]
      exact A_ret 4 (m := 77) (v := some (.ref 11)) (S' := S) rfl rfl ⟨(some 11), rfl, h⟩
    | 1, hi, c =>
      have c : a = (1 : Int32) := c
      have h := h.2.1 c
      rw [show ri_tgt 1 (91) (0) (6) [43, 51, 91, 59, 67, 75, 83] a = 52 by rw [c]; decide]
      exact A_ret 4 (m := 77) (v := some (.ref 12)) (S' := S) rfl rfl ⟨(some 12), rfl, h⟩
    | 2, hi, c =>
      have c : a = (2 : Int32) := c
      have h := h.2.2.1 c
      rw [show ri_tgt 1 (91) (0) (6) [43, 51, 91, 59, 67, 75, 83] a = 92 by rw [c]; decide]
      exact A_ret 2 (m := 77) (v := some (.null)) (S' := S) rfl rfl ⟨none, rfl, h⟩
    | 3, hi, c =>
      have c : a = (3 : Int32) := c
      have h := h.2.2.2.1 c
      rw [show ri_tgt 1 (91) (0) (6) [43, 51, 91, 59, 67, 75, 83] a = 60 by rw [c]; decide]
      exact A_ret 4 (m := 77) (v := some (.ref 14)) (S' := S) rfl rfl ⟨(some 14), rfl, h⟩
    | 4, hi, c =>
      have c : a = (4 : Int32) := c
      have h := h.2.2.2.2.1 c
      rw [show ri_tgt 1 (91) (0) (6) [43, 51, 91, 59, 67, 75, 83] a = 68 by rw [c]; decide]
      exact A_ret 4 (m := 77) (v := some (.ref 15)) (S' := S) rfl rfl ⟨(some 15), rfl, h⟩
    | 5, hi, c =>
      have c : a = (5 : Int32) := c
      have h := h.2.2.2.2.2.1 c
      rw [show ri_tgt 1 (91) (0) (6) [43, 51, 91, 59, 67, 75, 83] a = 76 by rw [c]; decide]
      exact A_ret 4 (m := 77) (v := some (.ref 16)) (S' := S) rfl rfl ⟨(some 16), rfl, h⟩
    | 6, hi, c =>
      have c : a = (6 : Int32) := c
      have h := h.2.2.2.2.2.2 c
      rw [show ri_tgt 1 (91) (0) (6) [43, 51, 91, 59, 67, 75, 83] a = 84 by rw [c]; decide]
      exact A_ret 4 (m := 77) (v := some (.ref 17)) (S' := S) rfl rfl ⟨(some 17), rfl, h⟩
    | i + 7, hi, c => exact absurd hi (by omega)
theorem sp_rowOf {E : ri_E} {S : ri_H} {Q : Option Value → ri_H → Prop} (a : Int32) (h0 : a = 0 → Q (some (.ref 11)) S) (h1 : a = 1 → Q (some (.ref 12)) S) (h2 : a = 3 → Q (some (.ref 14)) S) (h3 : a = 4 → Q (some (.ref 15)) S) (h4 : a = 5 → Q (some (.ref 16)) S) (h5 : a = 6 → Q (some (.ref 17)) S) (h6 : (a < 0 ∨ 6 < a) ∨ a = 2 → Q (some .null) S) : ri_A E 0 (ri_en 77 [.ref 0, .int a]) S Q := by
  refine A_imp (wt77 a (Q := (fun o S1 => Q (some (ri_refn o)) S1)) ?_) (fun v S1 hv => ?_)
  · unfold w77
    exact ⟨fun c => h6 (Or.inl c), h0, h1, fun c => h6 (Or.inr c), h2, h3, h4, h5⟩
  · obtain ⟨o, rfl, h⟩ := hv
    exact h
/-! X4_sheetOf, depth 1 -/
def w94s0  (S : ri_H) (Q : Option Nat → ri_H → Prop) : Prop := (((wi (0 : Int32) (4 : Int32)) = 0 → Q none S) ∧ (¬ (wi (0 : Int32) (4 : Int32)) = 0 → (vp_in (0 : Int32) 4 ∧ Q (some 38) S)))
set_option maxRecDepth 10000 in
set_option maxHeartbeats 1000000 in
theorem wt94s0 {E : ri_E}  {S : ri_H} {Q : Option Nat → ri_H → Prop} (h : w94s0   S Q) : ri_A E 1 (ri_en 94 [.ref 0, .int (0 : Int32)]) S (Qr Q) := by
  unfold w94s0 at h
  show ri_A E 1 (94, 0, [some (.ref 0), some (.int (0 : Int32))], []) S (Qr Q)
  refine A_call (j := 95) (As := [.int (0 : Int32), .int (4 : Int32)]) (fr' := (94, 9, [some (.ref 0), some (.int (0 : Int32))], [])) (S' := S) 5 rfl (e := 0) (by omega) (sp_within _ _ ?_)
  refine A_br ((wi (0 : Int32) (4 : Int32)) = 0) (r1 := ((94, 21, [some (.ref 0), some (.int (0 : Int32))], []), S)) (r2 := ((94, 12, [some (.ref 0), some (.int (0 : Int32))], []), S)) 1 rfl (fun c => ?_) (fun c => ?_)
  · have h := h.1 c
    exact A_ret 2 (m := 94) (v := some (.null)) (S' := S) rfl rfl ⟨none, rfl, h⟩
  · have h := h.2 c
    refine A_ix (0 : Int32) 4 (r1 := ((94, 18, [some (.ref 0), some (.int (0 : Int32))], [.ref 38]), S)) 4 rfl h.1 ?_
    have h := h.2
    exact A_ret 2 (m := 94) (v := some (.ref 38)) (S' := S) rfl rfl ⟨(some 38), rfl, h⟩
/-! X4_sheetOf, depth 1 -/
def w94s1  (S : ri_H) (Q : Option Nat → ri_H → Prop) : Prop := (((wi (1 : Int32) (4 : Int32)) = 0 → Q none S) ∧ (¬ (wi (1 : Int32) (4 : Int32)) = 0 → (vp_in (1 : Int32) 4 ∧ Q (some 40) S)))
set_option maxRecDepth 10000 in
set_option maxHeartbeats 1000000 in
theorem wt94s1 {E : ri_E}  {S : ri_H} {Q : Option Nat → ri_H → Prop} (h : w94s1   S Q) : ri_A E 1 (ri_en 94 [.ref 0, .int (1 : Int32)]) S (Qr Q) := by
  unfold w94s1 at h
  show ri_A E 1 (94, 0, [some (.ref 0), some (.int (1 : Int32))], []) S (Qr Q)
  refine A_call (j := 95) (As := [.int (1 : Int32), .int (4 : Int32)]) (fr' := (94, 9, [some (.ref 0), some (.int (1 : Int32))], [])) (S' := S) 5 rfl (e := 0) (by omega) (sp_within _ _ ?_)
  refine A_br ((wi (1 : Int32) (4 : Int32)) = 0) (r1 := ((94, 21, [some (.ref 0), some (.int (1 : Int32))], []), S)) (r2 := ((94, 12, [some (.ref 0), some (.int (1 : Int32))], []), S)) 1 rfl (fun c => ?_) (fun c => ?_)
  · have h := h.1 c
    exact A_ret 2 (m := 94) (v := some (.null)) (S' := S) rfl rfl ⟨none, rfl, h⟩
  · have h := h.2 c
    refine A_ix (1 : Int32) 4 (r1 := ((94, 18, [some (.ref 0), some (.int (1 : Int32))], [.ref 40]), S)) 4 rfl h.1 ?_
    have h := h.2
    exact A_ret 2 (m := 94) (v := some (.ref 40)) (S' := S) rfl rfl ⟨(some 40), rfl, h⟩
/-! X4_sheetOf, depth 1 -/
def w94s2  (S : ri_H) (Q : Option Nat → ri_H → Prop) : Prop := (((wi (2 : Int32) (4 : Int32)) = 0 → Q none S) ∧ (¬ (wi (2 : Int32) (4 : Int32)) = 0 → (vp_in (2 : Int32) 4 ∧ Q (some 42) S)))
set_option maxRecDepth 10000 in
set_option maxHeartbeats 1000000 in
theorem wt94s2 {E : ri_E}  {S : ri_H} {Q : Option Nat → ri_H → Prop} (h : w94s2   S Q) : ri_A E 1 (ri_en 94 [.ref 0, .int (2 : Int32)]) S (Qr Q) := by
  unfold w94s2 at h
  show ri_A E 1 (94, 0, [some (.ref 0), some (.int (2 : Int32))], []) S (Qr Q)
  refine A_call (j := 95) (As := [.int (2 : Int32), .int (4 : Int32)]) (fr' := (94, 9, [some (.ref 0), some (.int (2 : Int32))], [])) (S' := S) 5 rfl (e := 0) (by omega) (sp_within _ _ ?_)
  refine A_br ((wi (2 : Int32) (4 : Int32)) = 0) (r1 := ((94, 21, [some (.ref 0), some (.int (2 : Int32))], []), S)) (r2 := ((94, 12, [some (.ref 0), some (.int (2 : Int32))], []), S)) 1 rfl (fun c => ?_) (fun c => ?_)
  · have h := h.1 c
    exact A_ret 2 (m := 94) (v := some (.null)) (S' := S) rfl rfl ⟨none, rfl, h⟩
  · have h := h.2 c
    refine A_ix (2 : Int32) 4 (r1 := ((94, 18, [some (.ref 0), some (.int (2 : Int32))], [.ref 42]), S)) 4 rfl h.1 ?_
    have h := h.2
    exact A_ret 2 (m := 94) (v := some (.ref 42)) (S' := S) rfl rfl ⟨(some 42), rfl, h⟩
/-! X4_sheetOf, depth 1 -/
def w94s3  (S : ri_H) (Q : Option Nat → ri_H → Prop) : Prop := (((wi (3 : Int32) (4 : Int32)) = 0 → Q none S) ∧ (¬ (wi (3 : Int32) (4 : Int32)) = 0 → (vp_in (3 : Int32) 4 ∧ Q (some 44) S)))
set_option maxRecDepth 10000 in
set_option maxHeartbeats 1000000 in
theorem wt94s3 {E : ri_E}  {S : ri_H} {Q : Option Nat → ri_H → Prop} (h : w94s3   S Q) : ri_A E 1 (ri_en 94 [.ref 0, .int (3 : Int32)]) S (Qr Q) := by
  unfold w94s3 at h
  show ri_A E 1 (94, 0, [some (.ref 0), some (.int (3 : Int32))], []) S (Qr Q)
  refine A_call (j := 95) (As := [.int (3 : Int32), .int (4 : Int32)]) (fr' := (94, 9, [some (.ref 0), some (.int (3 : Int32))], [])) (S' := S) 5 rfl (e := 0) (by omega) (sp_within _ _ ?_)
  refine A_br ((wi (3 : Int32) (4 : Int32)) = 0) (r1 := ((94, 21, [some (.ref 0), some (.int (3 : Int32))], []), S)) (r2 := ((94, 12, [some (.ref 0), some (.int (3 : Int32))], []), S)) 1 rfl (fun c => ?_) (fun c => ?_)
  · have h := h.1 c
    exact A_ret 2 (m := 94) (v := some (.null)) (S' := S) rfl rfl ⟨none, rfl, h⟩
  · have h := h.2 c
    refine A_ix (3 : Int32) 4 (r1 := ((94, 18, [some (.ref 0), some (.int (3 : Int32))], [.ref 44]), S)) 4 rfl h.1 ?_
    have h := h.2
    exact A_ret 2 (m := 94) (v := some (.ref 44)) (S' := S) rfl rfl ⟨(some 44), rfl, h⟩
/-! X4_sheetOf, depth 1 -/
def w94 (a : Int32) (S : ri_H) (Q : Option Nat → ri_H → Prop) : Prop := (((wi a (4 : Int32)) = 0 → Q none S) ∧ (¬ (wi a (4 : Int32)) = 0 → False))
set_option maxRecDepth 10000 in
set_option maxHeartbeats 1000000 in
theorem wt94 {E : ri_E} (a : Int32) {S : ri_H} {Q : Option Nat → ri_H → Prop} (h : w94  a S Q) : ri_A E 1 (ri_en 94 [.ref 0, .int a]) S (Qr Q) := by
  unfold w94 at h
  show ri_A E 1 (94, 0, [some (.ref 0), some (.int a)], []) S (Qr Q)
  refine A_call (j := 95) (As := [.int a, .int (4 : Int32)]) (fr' := (94, 9, [some (.ref 0), some (.int a)], [])) (S' := S) 5 rfl (e := 0) (by omega) (sp_within _ _ ?_)
  refine A_br ((wi a (4 : Int32)) = 0) (r1 := ((94, 21, [some (.ref 0), some (.int a)], []), S)) (r2 := ((94, 12, [some (.ref 0), some (.int a)], []), S)) 1 rfl (fun c => ?_) (fun c => ?_)
  · have h := h.1 c
    exact A_ret 2 (m := 94) (v := some (.null)) (S' := S) rfl rfl ⟨none, rfl, h⟩
  · have h := h.2 c
    exact h.elim
theorem wi_k {a : Int32} {n : Nat} (hn : n < 2 ^ 31) (c : ¬ wi a (Int32.ofNat n) = 0) : ∃ j : Nat, j < n ∧ a = Int32.ofNat j := by
  unfold wi at c
  rcases pk_ix a hn with h | h | ⟨j, hj, rfl⟩
  · rw [if_pos h] at c; exact absurd rfl c
  · split at c
    · exact absurd rfl c
    · rw [if_pos (show Int32.ofNat n ≤ a from h)] at c; exact absurd rfl c
  · exact ⟨j, hj, rfl⟩
theorem wi_4 {a : Int32} (c : ¬ wi a 4 = 0) : a = 0 ∨ a = 1 ∨ a = 2 ∨ a = 3 := by
  obtain ⟨j, hj, rfl⟩ := wi_k (n := 4) (by decide) c
  match j, hj with
  | 0, _ => exact Or.inl rfl
  | 1, _ => exact Or.inr (Or.inl rfl)
  | 2, _ => exact Or.inr (Or.inr (Or.inl rfl))
  | 3, _ => exact Or.inr (Or.inr (Or.inr rfl))
  | j + 4, h => exact absurd h (by omega)
theorem sp_sheetOf {E : ri_E} {S : ri_H} {Q : Option Value → ri_H → Prop} (a : Int32) (h0 : a = 0 → Q (some (.ref 38)) S) (h1 : a = 1 → Q (some (.ref 40)) S) (h2 : a = 2 → Q (some (.ref 42)) S) (h3 : a = 3 → Q (some (.ref 44)) S) (h4 : wi a 4 = 0 → Q (some .null) S) : ri_A E 1 (ri_en 94 [.ref 0, .int a]) S Q := by
  by_cases c : wi a 4 = 0
  · refine A_imp (wt94 a (Q := (fun o S1 => Q (some (ri_refn o)) S1)) ?_) (fun v S1 hv => ?_)
    · unfold w94
      exact ⟨fun _ => h4 c, fun c2 => absurd c c2⟩
    · obtain ⟨o, rfl, h⟩ := hv
      exact h
  · rcases wi_4 c with rfl | rfl | rfl | rfl
    · refine A_imp (wt94s0 (Q := (fun o S1 => Q (some (ri_refn o)) S1)) ?_) (fun v S1 hv => ?_)
      · unfold w94s0
        exact ⟨fun c2 => absurd c2 c, fun _ => ⟨vin_c rfl, h0 rfl⟩⟩
      · obtain ⟨o, rfl, h⟩ := hv
        exact h
    · refine A_imp (wt94s1 (Q := (fun o S1 => Q (some (ri_refn o)) S1)) ?_) (fun v S1 hv => ?_)
      · unfold w94s1
        exact ⟨fun c2 => absurd c2 c, fun _ => ⟨vin_c rfl, h1 rfl⟩⟩
      · obtain ⟨o, rfl, h⟩ := hv
        exact h
    · refine A_imp (wt94s2 (Q := (fun o S1 => Q (some (ri_refn o)) S1)) ?_) (fun v S1 hv => ?_)
      · unfold w94s2
        exact ⟨fun c2 => absurd c2 c, fun _ => ⟨vin_c rfl, h2 rfl⟩⟩
      · obtain ⟨o, rfl, h⟩ := hv
        exact h
    · refine A_imp (wt94s3 (Q := (fun o S1 => Q (some (ri_refn o)) S1)) ?_) (fun v S1 hv => ?_)
      · unfold w94s3
        exact ⟨fun c2 => absurd c2 c, fun _ => ⟨vin_c rfl, h3 rfl⟩⟩
      · obtain ⟨o, rfl, h⟩ := hv
        exact h

def ct : Type := Int32 → ri_H → (ri_H → Prop) → Prop
def grpUp (G : ct × ct × ct) : ct × ct × ct :=
  (w16 (w17 (w18 G.2.1 (w19 (w20 (w21 (w214 G.1 G.2.2)))))), w18 G.2.1 (w19 (w20 (w21 (w214 G.1 G.2.2)))), w21 (w214 G.1 G.2.2))
def gl : Nat → ct × ct × ct
  | 0 => (fun _ _ _ => False, fun _ _ _ => False, fun _ _ _ => False)
  | n + 1 => grpUp (gl n)
theorem A_up {E : ri_E} {d e : Nat} {fr : ri_F} {S : ri_H} {Q : Option Value → ri_H → Prop} (h : ri_A E d fr S Q) (hde : d ≤ e) : ri_A E e fr S Q := A_mono h hde
theorem gl_ok {E : ri_E} : ∀ n : Nat, (∀ (a : Int32) (S : ri_H) (Q : ri_H → Prop), (gl n).1 a S Q → ri_A E (20 + 7 * n) (ri_en 16 [.ref 5, .int a]) S (Qv Q)) ∧ (∀ (a : Int32) (S : ri_H) (Q : ri_H → Prop), (gl n).2.1 a S Q → ri_A E (20 + 7 * n) (ri_en 18 [.ref 5, .int a]) S (Qv Q)) ∧ (∀ (a : Int32) (S : ri_H) (Q : ri_H → Prop), (gl n).2.2 a S Q → ri_A E (20 + 7 * n) (ri_en 21 [.ref 5, .int a]) S (Qv Q))
  | 0 => ⟨fun _ _ _ h => h.elim, fun _ _ _ h => h.elim, fun _ _ _ h => h.elim⟩
  | n + 1 => by
    obtain ⟨h16, h18, h21⟩ := gl_ok (E := E) n
    have k214 : ∀ (a b : Int32) (S : ri_H) (Q : ri_H → Prop), w214 (gl n).1 (gl n).2.2 a b S Q → ri_A E (20 + 7 * n + 1) (ri_en 214 [.ref 5, .int a, .int b]) S (Qv Q) := fun a b S Q h => wt214 _ _ (20 + 7 * n) (by omega) h16 h21 a b h
    have k21 : ∀ (a : Int32) (S : ri_H) (Q : ri_H → Prop), (gl (n + 1)).2.2 a S Q → ri_A E (20 + 7 * n + 2) (ri_en 21 [.ref 5, .int a]) S (Qv Q) := fun a S Q h => wt21 _ (20 + 7 * n + 1) (by omega) k214 a h
    have k20 : ∀ (a : Int32) (S : ri_H) (Q : ri_H → Prop), w20 (gl (n + 1)).2.2 a S Q → ri_A E (20 + 7 * n + 3) (ri_en 20 [.ref 5, .int a]) S (Qv Q) := fun a S Q h => wt20 _ (20 + 7 * n + 2) (by omega) k21 a h
    have k19 : ∀ (a : Int32) (S : ri_H) (Q : ri_H → Prop), w19 (w20 (gl (n + 1)).2.2) a S Q → ri_A E (20 + 7 * n + 4) (ri_en 19 [.ref 5, .int a]) S (Qv Q) := fun a S Q h => wt19 _ (20 + 7 * n + 3) (by omega) k20 a h
    have k18 : ∀ (a : Int32) (S : ri_H) (Q : ri_H → Prop), (gl (n + 1)).2.1 a S Q → ri_A E (20 + 7 * n + 5) (ri_en 18 [.ref 5, .int a]) S (Qv Q) := fun a S Q h => wt18 _ _ (20 + 7 * n + 4) (by omega) (fun a S Q h => A_up (h18 a S Q h) (by omega)) k19 a h
    have k17 : ∀ (a : Int32) (S : ri_H) (Q : ri_H → Prop), w17 (gl (n + 1)).2.1 a S Q → ri_A E (20 + 7 * n + 6) (ri_en 17 [.ref 5, .int a]) S (Qv Q) := fun a S Q h => wt17 _ (20 + 7 * n + 5) (by omega) k18 a h
    exact ⟨fun a S Q h => wt16 _ (20 + 7 * n + 6) (by omega) k17 a h, fun a S Q h => A_up (k18 a S Q h) (by omega), fun a S Q h => A_up (k21 a S Q h) (by omega)⟩
def w1x (S : ri_H) (Q : Int32 → ri_H → Prop) : Prop := w1 (gl 6).1 S Q
theorem wt1x {E : ri_E} {S : ri_H} {Q : Int32 → ri_H → Prop} (h : w1x S Q) : ri_A E 63 (ri_en 1 [.ref 5]) S (Qi Q) := wt1 _ 62 (by omega) (gl_ok 6).1 h
/-! X4_setYear, depth 0 -/
def w76 (a : Int32) (S : ri_H) (Q : Int32 → ri_H → Prop) : Prop := ((a < 0 → Q (-1000 : Int32) S) ∧ (¬ (a < 0) → ((a ≤ (999 : Int32) → Q (S.1 10 10) (ri_wi S 10 10 a)) ∧ (¬ (a ≤ (999 : Int32)) → Q (-1000 : Int32) S))))
set_option maxRecDepth 10000 in
set_option maxHeartbeats 1000000 in
theorem wt76 {E : ri_E} (a : Int32) {S : ri_H} {Q : Int32 → ri_H → Prop} (h : w76  a S Q) : ri_A E 0 (ri_en 76 [.ref 0, .int a]) S (Qi Q) := by
  unfold w76 at h
  show ri_A E 0 (76, 0, [some (.ref 0), some (.int a), none], []) S (Qi Q)
  refine A_br (a < 0) (r1 := ((76, 11, [some (.ref 0), some (.int a), none], []), S)) (r2 := ((76, 4, [some (.ref 0), some (.int a), none], []), S)) 2 rfl (fun c => ?_) (fun c => ?_)
  · have h := h.1 c
    exact A_ret 2 (m := 76) (v := some (.int (-1000 : Int32))) (S' := S) rfl rfl ⟨_, rfl, h⟩
  · have h := h.2 c
    refine A_br (a ≤ (999 : Int32)) (r1 := ((76, 15, [some (.ref 0), some (.int a), none], []), S)) (r2 := ((76, 11, [some (.ref 0), some (.int a), none], []), S)) 3 rfl (fun c => ?_) (fun c => ?_)
    · have h := h.1 c
      exact A_ret 10 (m := 76) (v := some (.int (S.1 10 10))) (S' := (ri_wi S 10 10 a)) rfl rfl ⟨_, rfl, h⟩
    · have h := h.2 c
      exact A_ret 2 (m := 76) (v := some (.int (-1000 : Int32))) (S' := S) rfl rfl ⟨_, rfl, h⟩
/-! X4_sizeOf, depth 0 -/
def w78_b9 (Q : Int32 → ri_H → Prop)  (S : ri_H) : Prop := Q (24 : Int32) S
set_option maxRecDepth 10000 in
set_option maxHeartbeats 1000000 in
theorem wt78_b9 {E : ri_E} {Q : Int32 → ri_H → Prop}  (S : ri_H) (h : w78_b9   Q  S) : ri_A E 0 (78, 9, [none, none], []) S (Qi Q) := by
  unfold w78_b9 at h
  exact A_ret 3 (m := 78) (v := some (.int (24 : Int32))) (S' := S) rfl rfl ⟨_, rfl, h⟩
def w78 (a : Int32) (S : ri_H) (Q : Int32 → ri_H → Prop) : Prop := ((a = 0 → w78_b9   Q  S) ∧ (¬ (a = 0) → ((¬ a = (1 : Int32) → Q (S.1 10 9) S) ∧ (¬ (¬ a = (1 : Int32)) → w78_b9   Q  S))))
set_option maxRecDepth 10000 in
set_option maxHeartbeats 1000000 in
theorem wt78 {E : ri_E} (a : Int32) {S : ri_H} {Q : Int32 → ri_H → Prop} (h : w78  a S Q) : ri_A E 0 (ri_en 78 [.ref 0, .int a]) S (Qi Q) := by
  unfold w78 at h
  show ri_A E 0 (78, 0, [some (.ref 0), some (.int a)], []) S (Qi Q)
  refine A_br (a = 0) (r1 := ((78, 9, [some (.ref 0), some (.int a)], []), S)) (r2 := ((78, 4, [some (.ref 0), some (.int a)], []), S)) 2 rfl (fun c => ?_) (fun c => ?_)
  · have h := h.1 c
    refine ri_A.less (m := 78) (pc := 9) (L := [some (.ref 0), some (.int a)]) (L' := [none, none]) (st := []) trivial ?_
    exact wt78_b9   _ h
  · have h := h.2 c
    refine A_br (¬ a = (1 : Int32)) (r1 := ((78, 14, [some (.ref 0), some (.int a)], []), S)) (r2 := ((78, 9, [some (.ref 0), some (.int a)], []), S)) 3 rfl (fun c => ?_) (fun c => ?_)
    · have h := h.1 c
      exact A_ret 4 (m := 78) (v := some (.int (S.1 10 9))) (S' := S) rfl rfl ⟨_, rfl, h⟩
    · have h := h.2 c
      refine ri_A.less (m := 78) (pc := 9) (L := [some (.ref 0), some (.int a)]) (L' := [none, none]) (st := []) trivial ?_
      exact wt78_b9   _ h
/-! X4_holds, depth 1 -/
def w79 (a : Int32) (b : Int32) (S : ri_H) (Q : Int32 → ri_H → Prop) : Prop := (((a < (0 : Int32) ∨ (6 : Int32) < a) → Q (0 : Int32) S) ∧ (a = (0 : Int32) → (((wi b (12 : Int32)) = 0 ∨ (wi b (12 : Int32)) = 1) ∧ Q (wi b (12 : Int32)) S)) ∧ (a = (1 : Int32) → (((wi b (1000 : Int32)) = 0 ∨ (wi b (1000 : Int32)) = 1) ∧ Q (wi b (1000 : Int32)) S)) ∧ (a = (2 : Int32) → Q (0 : Int32) S) ∧ (a = (3 : Int32) → (((wi b (10 : Int32)) = 0 ∨ (wi b (10 : Int32)) = 1) ∧ Q (wi b (10 : Int32)) S)) ∧ (a = (4 : Int32) → (((wi b (12 : Int32)) = 0 ∨ (wi b (12 : Int32)) = 1) ∧ Q (wi b (12 : Int32)) S)) ∧ (a = (5 : Int32) → ((b < (-99 : Int32) → Q (0 : Int32) S) ∧ (¬ (b < (-99 : Int32)) → (((99 : Int32) < b → Q (0 : Int32) S) ∧ (¬ (99 : Int32) < b → Q (1 : Int32) S))))) ∧ (a = (6 : Int32) → (((wi b (1000 : Int32)) = 0 ∨ (wi b (1000 : Int32)) = 1) ∧ Q (wi b (1000 : Int32)) S)))
set_option maxRecDepth 10000 in
set_option maxHeartbeats 1000000 in
theorem wt79 {E : ri_E} (a : Int32) (b : Int32) {S : ri_H} {Q : Int32 → ri_H → Prop} (h : w79  a b S Q) : ri_A E 1 (ri_en 79 [.int a, .int b]) S (Qi Q) := by
  unfold w79 at h
  show ri_A E 1 (79, 0, [some (.int a), some (.int b)], []) S (Qi Q)
  refine A_nx 2 (fr' := (79, ri_tgt 1 (83) (0) (6) [43, 50, 83, 58, 43, 65, 50] a, [some (.int a), some (.int b)], [])) (S' := S) rfl ?_
  rcases ri_swc a (0) 7 (by decide) (by decide) with c | ⟨i, hi, c⟩
  · have c : a < Int32.ofInt (0) ∨ Int32.ofInt (6) < a := c
    have h := h.1 c
    rw [ri_tgt_out a c (by decide) (by decide)]
    exact A_ret 2 (m := 79) (v := some (.int (0 : Int32))) (S' := S) rfl rfl ⟨_, rfl, h⟩
  · have h := h.2
    match i, hi, c with
    | 0, hi, c =>
      have c : a = (0 : Int32) := c
      have h := h.1 c
      rw [show ri_tgt 1 (83) (0) (6) [43, 50, 83, 58, 43, 65, 50] a = 44 by rw [c]; decide]
      refine A_call (j := 95) (As := [.int b, .int (12 : Int32)]) (fr' := (79, 50, [some (.int a), some (.int b)], [])) (S' := S) 3 rfl (e := 0) (by omega) (sp_within _ _ ?_)
      exact A_ret 1 (m := 79) (v := some (.int (wi b (12 : Int32)))) (S' := S) rfl (by rcases h.1 with c | c <;> rw [c] <;> rfl) ⟨_, rfl, h.2⟩
    | 1, hi, c =>
      have c : a = (1 : Int32) := c
      have h := h.2.1 c
      rw [show ri_tgt 1 (83) (0) (6) [43, 50, 83, 58, 43, 65, 50] a = 51 by rw [c]; decide]
      refine A_call (j := 95) (As := [.int b, .int (1000 : Int32)]) (fr' := (79, 58, [some (.int a), some (.int b)], [])) (S' := S) 3 rfl (e := 0) (by omega) (sp_within _ _ ?_)
      exact A_ret 1 (m := 79) (v := some (.int (wi b (1000 : Int32)))) (S' := S) rfl (by rcases h.1 with c | c <;> rw [c] <;> rfl) ⟨_, rfl, h.2⟩
    | 2, hi, c =>
      have c : a = (2 : Int32) := c
      have h := h.2.2.1 c
      rw [show ri_tgt 1 (83) (0) (6) [43, 50, 83, 58, 43, 65, 50] a = 84 by rw [c]; decide]
      exact A_ret 2 (m := 79) (v := some (.int (0 : Int32))) (S' := S) rfl rfl ⟨_, rfl, h⟩
    | 3, hi, c =>
      have c : a = (3 : Int32) := c
      have h := h.2.2.2.1 c
      rw [show ri_tgt 1 (83) (0) (6) [43, 50, 83, 58, 43, 65, 50] a = 59 by rw [c]; decide]
      refine A_call (j := 95) (As := [.int b, .int (10 : Int32)]) (fr' := (79, 65, [some (.int a), some (.int b)], [])) (S' := S) 3 rfl (e := 0) (by omega) (sp_within _ _ ?_)
      exact A_ret 1 (m := 79) (v := some (.int (wi b (10 : Int32)))) (S' := S) rfl (by rcases h.1 with c | c <;> rw [c] <;> rfl) ⟨_, rfl, h.2⟩
    | 4, hi, c =>
      have c : a = (4 : Int32) := c
      have h := h.2.2.2.2.1 c
      rw [show ri_tgt 1 (83) (0) (6) [43, 50, 83, 58, 43, 65, 50] a = 44 by rw [c]; decide]
      refine A_call (j := 95) (As := [.int b, .int (12 : Int32)]) (fr' := (79, 50, [some (.int a), some (.int b)], [])) (S' := S) 3 rfl (e := 0) (by omega) (sp_within _ _ ?_)
      exact A_ret 1 (m := 79) (v := some (.int (wi b (12 : Int32)))) (S' := S) rfl (by rcases h.1 with c | c <;> rw [c] <;> rfl) ⟨_, rfl, h.2⟩
    | 5, hi, c =>
      have c : a = (5 : Int32) := c
      have h := h.2.2.2.2.2.1 c
      rw [show ri_tgt 1 (83) (0) (6) [43, 50, 83, 58, 43, 65, 50] a = 66 by rw [c]; decide]
      refine A_br (b < (-99 : Int32)) (r1 := ((79, 82, [some (.int a), some (.int b)], []), S)) (r2 := ((79, 72, [some (.int a), some (.int b)], []), S)) 3 rfl (fun c => ?_) (fun c => ?_)
      · have h := h.1 c
        exact A_ret 2 (m := 79) (v := some (.int (0 : Int32))) (S' := S) rfl rfl ⟨_, rfl, h⟩
      · have h := h.2 c
        refine A_br ((99 : Int32) < b) (r1 := ((79, 82, [some (.int a), some (.int b)], []), S)) (r2 := ((79, 78, [some (.int a), some (.int b)], []), S)) 3 rfl (fun c => ?_) (fun c => ?_)
        · have h := h.1 c
          exact A_ret 2 (m := 79) (v := some (.int (0 : Int32))) (S' := S) rfl rfl ⟨_, rfl, h⟩
        · have h := h.2 c
          exact A_ret 3 (m := 79) (v := some (.int (1 : Int32))) (S' := S) rfl rfl ⟨_, rfl, h⟩
    | 6, hi, c =>
      have c : a = (6 : Int32) := c
      have h := h.2.2.2.2.2.2 c
      rw [show ri_tgt 1 (83) (0) (6) [43, 50, 83, 58, 43, 65, 50] a = 51 by rw [c]; decide]
      refine A_call (j := 95) (As := [.int b, .int (1000 : Int32)]) (fr' := (79, 58, [some (.int a), some (.int b)], [])) (S' := S) 3 rfl (e := 0) (by omega) (sp_within _ _ ?_)
      exact A_ret 1 (m := 79) (v := some (.int (wi b (1000 : Int32)))) (S' := S) rfl (by rcases h.1 with c | c <;> rw [c] <;> rfl) ⟨_, rfl, h.2⟩
    | i + 7, hi, c => exact absurd hi (by omega)
/-! X4_set, depth 2 -/
def w47 (a : Int32) (b : Int32) (g : Int32) (S : ri_H) (Q : Int32 → ri_H → Prop) : Prop := ((¬ a = (2 : Int32) → ((a = 0 → w78 a S (fun (r2 : Int32) (S1 : ri_H) => (((wi b r2) = 0 → Q (-1000 : Int32) S1) ∧ (¬ (wi b r2) = 0 → w79 a g S1 (fun (r4 : Int32) (S3 : ri_H) => ((¬ r4 = 0 → Q (it (S3.1 11) 24 b) (ri_wr S3 11 (pu 24 (S3.1 11) b g))) ∧ (¬ (¬ r4 = 0) → Q (-1000 : Int32) S3))))))) ∧ (a = 1 → w78 a S (fun (r6 : Int32) (S5 : ri_H) => (((wi b r6) = 0 → Q (-1000 : Int32) S5) ∧ (¬ (wi b r6) = 0 → w79 a g S5 (fun (r8 : Int32) (S7 : ri_H) => ((¬ r8 = 0 → Q (it (S7.1 12) 24 b) (ri_wr S7 12 (pu 24 (S7.1 12) b g))) ∧ (¬ (¬ r8 = 0) → Q (-1000 : Int32) S7))))))) ∧ (a = 3 → w78 a S (fun (r10 : Int32) (S9 : ri_H) => (((wi b r10) = 0 → Q (-1000 : Int32) S9) ∧ (¬ (wi b r10) = 0 → w79 a g S9 (fun (r12 : Int32) (S11 : ri_H) => ((¬ r12 = 0 → Q (it (S11.1 14) 5 b) (ri_wr S11 14 (pu 5 (S11.1 14) b g))) ∧ (¬ (¬ r12 = 0) → Q (-1000 : Int32) S11))))))) ∧ (a = 4 → w78 a S (fun (r14 : Int32) (S13 : ri_H) => (((wi b r14) = 0 → Q (-1000 : Int32) S13) ∧ (¬ (wi b r14) = 0 → w79 a g S13 (fun (r16 : Int32) (S15 : ri_H) => ((¬ r16 = 0 → Q (it (S15.1 15) 5 b) (ri_wr S15 15 (pu 5 (S15.1 15) b g))) ∧ (¬ (¬ r16 = 0) → Q (-1000 : Int32) S15))))))) ∧ (a = 5 → w78 a S (fun (r18 : Int32) (S17 : ri_H) => (((wi b r18) = 0 → Q (-1000 : Int32) S17) ∧ (¬ (wi b r18) = 0 → w79 a g S17 (fun (r20 : Int32) (S19 : ri_H) => ((¬ r20 = 0 → Q (it (S19.1 16) 5 b) (ri_wr S19 16 (pu 5 (S19.1 16) b g))) ∧ (¬ (¬ r20 = 0) → Q (-1000 : Int32) S19))))))) ∧ (a = 6 → w78 a S (fun (r22 : Int32) (S21 : ri_H) => (((wi b r22) = 0 → Q (-1000 : Int32) S21) ∧ (¬ (wi b r22) = 0 → w79 a g S21 (fun (r24 : Int32) (S23 : ri_H) => ((¬ r24 = 0 → Q (it (S23.1 17) 5 b) (ri_wr S23 17 (pu 5 (S23.1 17) b g))) ∧ (¬ (¬ r24 = 0) → Q (-1000 : Int32) S23))))))) ∧ ((a < 0 ∨ 6 < a) ∨ a = 2 → Q (-1000 : Int32) S))) ∧ (¬ (¬ a = (2 : Int32)) → w76 g S (fun (r26 : Int32) (S25 : ri_H) => Q r26 S25)))
set_option maxRecDepth 10000 in
set_option maxHeartbeats 1000000 in
theorem wt47 {E : ri_E} (a : Int32) (b : Int32) (g : Int32) {S : ri_H} {Q : Int32 → ri_H → Prop} (h : w47  a b g S Q) : ri_A E 2 (ri_en 47 [.ref 0, .int a, .int b, .int g]) S (Qi Q) := by
  unfold w47 at h
  show ri_A E 2 (47, 0, [some (.ref 0), some (.int a), some (.int b), some (.int g), none, none], []) S (Qi Q)
  refine A_br (¬ a = (2 : Int32)) (r1 := ((47, 11, [some (.ref 0), some (.int a), some (.int b), some (.int g), none, none], []), S)) (r2 := ((47, 5, [some (.ref 0), some (.int a), some (.int b), some (.int g), none, none], []), S)) 3 rfl (fun c => ?_) (fun c => ?_)
  · have h := h.1 c
    refine A_call (j := 77) (As := [.ref 0, .int a]) (fr' := (47, 16, [some (.ref 0), some (.int a), some (.int b), some (.int g), none, none], [])) (S' := S) 3 rfl (e := 0) (by omega) (sp_rowOf a (fun c => ?_) (fun c => ?_) (fun c => ?_) (fun c => ?_) (fun c => ?_) (fun c => ?_) (fun c => ?_))
    · have h := h.1 c
      refine A_call (j := 78) (As := [.ref 0, .int a]) (fr' := (47, 29, [some (.ref 0), some (.int a), some (.int b), some (.int g), some (.ref 11), none], [.int b])) (S' := S) 7 rfl (e := 0) (by omega) (A_imp (wt78 a h) (fun v S1 hq => ?_))
      obtain ⟨r2, hv, h⟩ := hq
      subst hv
      refine A_call (j := 95) (As := [.int b, .int r2]) (fr' := (47, 32, [some (.ref 0), some (.int a), some (.int b), some (.int g), some (.ref 11), none], [])) (S' := S1) 1 rfl (e := 0) (by omega) (sp_within _ _ ?_)
      refine A_br ((wi b r2) = 0) (r1 := ((47, 43, [some (.ref 0), some (.int a), some (.int b), some (.int g), some (.ref 11), none], []), S1)) (r2 := ((47, 35, [some (.ref 0), some (.int a), some (.int b), some (.int g), some (.ref 11), none], []), S1)) 1 rfl (fun c => ?_) (fun c => ?_)
      · have h := h.1 c
        exact A_ret 2 (m := 47) (v := some (.int (-1000 : Int32))) (S' := S1) rfl rfl ⟨_, rfl, h⟩
      · have h := h.2 c
        refine A_call (j := 79) (As := [.int a, .int g]) (fr' := (47, 40, [some (.ref 0), some (.int a), some (.int b), some (.int g), some (.ref 11), none], [])) (S' := S1) 3 rfl (e := 1) (by omega) (A_imp (wt79 a g h) (fun v S3 hq => ?_))
        obtain ⟨r4, hv, h⟩ := hq
        subst hv
        refine A_br (¬ r4 = 0) (r1 := ((47, 47, [some (.ref 0), some (.int a), some (.int b), some (.int g), some (.ref 11), none], []), S3)) (r2 := ((47, 43, [some (.ref 0), some (.int a), some (.int b), some (.int g), some (.ref 11), none], []), S3)) 1 rfl (fun c => ?_) (fun c => ?_)
        · have h := h.1 c
          refine A_call (j := 98) (As := [.ref 11, .int b]) (fr' := (47, 53, [some (.ref 0), some (.int a), some (.int b), some (.int g), some (.ref 11), none], [])) (S' := S3) 3 rfl (e := 0) (by omega) (sp_item 11 24 _ ⟨by decide, by decide, rfl⟩ (by decide) ?_)
          refine A_call (j := 99) (As := [.ref 11, .int b, .int g]) (fr' := (47, 62, [some (.ref 0), some (.int a), some (.int b), some (.int g), some (.ref 11), some (.int (it (S3.1 11) 24 b))], [])) (S' := S3) 5 rfl (e := 0) (by omega) (sp_putItem 11 24 _ _ ⟨by decide, by decide, rfl⟩ (by decide) ?_)
          exact A_ret 2 (m := 47) (v := some (.int (it (S3.1 11) 24 b))) (S' := (ri_wr S3 11 (pu 24 (S3.1 11) b g))) rfl rfl ⟨_, rfl, h⟩
        · have h := h.2 c
          exact A_ret 2 (m := 47) (v := some (.int (-1000 : Int32))) (S' := S3) rfl rfl ⟨_, rfl, h⟩
    · have h := h.2.1 c
      refine A_call (j := 78) (As := [.ref 0, .int a]) (fr' := (47, 29, [some (.ref 0), some (.int a), some (.int b), some (.int g), some (.ref 12), none], [.int b])) (S' := S) 7 rfl (e := 0) (by omega) (A_imp (wt78 a h) (fun v S5 hq => ?_))
      obtain ⟨r6, hv, h⟩ := hq
      subst hv
      refine A_call (j := 95) (As := [.int b, .int r6]) (fr' := (47, 32, [some (.ref 0), some (.int a), some (.int b), some (.int g), some (.ref 12), none], [])) (S' := S5) 1 rfl (e := 0) (by omega) (sp_within _ _ ?_)
      refine A_br ((wi b r6) = 0) (r1 := ((47, 43, [some (.ref 0), some (.int a), some (.int b), some (.int g), some (.ref 12), none], []), S5)) (r2 := ((47, 35, [some (.ref 0), some (.int a), some (.int b), some (.int g), some (.ref 12), none], []), S5)) 1 rfl (fun c => ?_) (fun c => ?_)
      · have h := h.1 c
        exact A_ret 2 (m := 47) (v := some (.int (-1000 : Int32))) (S' := S5) rfl rfl ⟨_, rfl, h⟩
      · have h := h.2 c
        refine A_call (j := 79) (As := [.int a, .int g]) (fr' := (47, 40, [some (.ref 0), some (.int a), some (.int b), some (.int g), some (.ref 12), none], [])) (S' := S5) 3 rfl (e := 1) (by omega) (A_imp (wt79 a g h) (fun v S7 hq => ?_))
        obtain ⟨r8, hv, h⟩ := hq
        subst hv
        refine A_br (¬ r8 = 0) (r1 := ((47, 47, [some (.ref 0), some (.int a), some (.int b), some (.int g), some (.ref 12), none], []), S7)) (r2 := ((47, 43, [some (.ref 0), some (.int a), some (.int b), some (.int g), some (.ref 12), none], []), S7)) 1 rfl (fun c => ?_) (fun c => ?_)
        · have h := h.1 c
          refine A_call (j := 98) (As := [.ref 12, .int b]) (fr' := (47, 53, [some (.ref 0), some (.int a), some (.int b), some (.int g), some (.ref 12), none], [])) (S' := S7) 3 rfl (e := 0) (by omega) (sp_item 12 24 _ ⟨by decide, by decide, rfl⟩ (by decide) ?_)
          refine A_call (j := 99) (As := [.ref 12, .int b, .int g]) (fr' := (47, 62, [some (.ref 0), some (.int a), some (.int b), some (.int g), some (.ref 12), some (.int (it (S7.1 12) 24 b))], [])) (S' := S7) 5 rfl (e := 0) (by omega) (sp_putItem 12 24 _ _ ⟨by decide, by decide, rfl⟩ (by decide) ?_)
          exact A_ret 2 (m := 47) (v := some (.int (it (S7.1 12) 24 b))) (S' := (ri_wr S7 12 (pu 24 (S7.1 12) b g))) rfl rfl ⟨_, rfl, h⟩
        · have h := h.2 c
          exact A_ret 2 (m := 47) (v := some (.int (-1000 : Int32))) (S' := S7) rfl rfl ⟨_, rfl, h⟩
    · have h := h.2.2.1 c
      refine A_call (j := 78) (As := [.ref 0, .int a]) (fr' := (47, 29, [some (.ref 0), some (.int a), some (.int b), some (.int g), some (.ref 14), none], [.int b])) (S' := S) 7 rfl (e := 0) (by omega) (A_imp (wt78 a h) (fun v S9 hq => ?_))
      obtain ⟨r10, hv, h⟩ := hq
      subst hv
      refine A_call (j := 95) (As := [.int b, .int r10]) (fr' := (47, 32, [some (.ref 0), some (.int a), some (.int b), some (.int g), some (.ref 14), none], [])) (S' := S9) 1 rfl (e := 0) (by omega) (sp_within _ _ ?_)
      refine A_br ((wi b r10) = 0) (r1 := ((47, 43, [some (.ref 0), some (.int a), some (.int b), some (.int g), some (.ref 14), none], []), S9)) (r2 := ((47, 35, [some (.ref 0), some (.int a), some (.int b), some (.int g), some (.ref 14), none], []), S9)) 1 rfl (fun c => ?_) (fun c => ?_)
      · have h := h.1 c
        exact A_ret 2 (m := 47) (v := some (.int (-1000 : Int32))) (S' := S9) rfl rfl ⟨_, rfl, h⟩
      · have h := h.2 c
        refine A_call (j := 79) (As := [.int a, .int g]) (fr' := (47, 40, [some (.ref 0), some (.int a), some (.int b), some (.int g), some (.ref 14), none], [])) (S' := S9) 3 rfl (e := 1) (by omega) (A_imp (wt79 a g h) (fun v S11 hq => ?_))
        obtain ⟨r12, hv, h⟩ := hq
        subst hv
        refine A_br (¬ r12 = 0) (r1 := ((47, 47, [some (.ref 0), some (.int a), some (.int b), some (.int g), some (.ref 14), none], []), S11)) (r2 := ((47, 43, [some (.ref 0), some (.int a), some (.int b), some (.int g), some (.ref 14), none], []), S11)) 1 rfl (fun c => ?_) (fun c => ?_)
        · have h := h.1 c
          refine A_call (j := 98) (As := [.ref 14, .int b]) (fr' := (47, 53, [some (.ref 0), some (.int a), some (.int b), some (.int g), some (.ref 14), none], [])) (S' := S11) 3 rfl (e := 0) (by omega) (sp_item 14 5 _ ⟨by decide, by decide, rfl⟩ (by decide) ?_)
          refine A_call (j := 99) (As := [.ref 14, .int b, .int g]) (fr' := (47, 62, [some (.ref 0), some (.int a), some (.int b), some (.int g), some (.ref 14), some (.int (it (S11.1 14) 5 b))], [])) (S' := S11) 5 rfl (e := 0) (by omega) (sp_putItem 14 5 _ _ ⟨by decide, by decide, rfl⟩ (by decide) ?_)
          exact A_ret 2 (m := 47) (v := some (.int (it (S11.1 14) 5 b))) (S' := (ri_wr S11 14 (pu 5 (S11.1 14) b g))) rfl rfl ⟨_, rfl, h⟩
        · have h := h.2 c
          exact A_ret 2 (m := 47) (v := some (.int (-1000 : Int32))) (S' := S11) rfl rfl ⟨_, rfl, h⟩
    · have h := h.2.2.2.1 c
      refine A_call (j := 78) (As := [.ref 0, .int a]) (fr' := (47, 29, [some (.ref 0), some (.int a), some (.int b), some (.int g), some (.ref 15), none], [.int b])) (S' := S) 7 rfl (e := 0) (by omega) (A_imp (wt78 a h) (fun v S13 hq => ?_))
      obtain ⟨r14, hv, h⟩ := hq
      subst hv
      refine A_call (j := 95) (As := [.int b, .int r14]) (fr' := (47, 32, [some (.ref 0), some (.int a), some (.int b), some (.int g), some (.ref 15), none], [])) (S' := S13) 1 rfl (e := 0) (by omega) (sp_within _ _ ?_)
      refine A_br ((wi b r14) = 0) (r1 := ((47, 43, [some (.ref 0), some (.int a), some (.int b), some (.int g), some (.ref 15), none], []), S13)) (r2 := ((47, 35, [some (.ref 0), some (.int a), some (.int b), some (.int g), some (.ref 15), none], []), S13)) 1 rfl (fun c => ?_) (fun c => ?_)
      · have h := h.1 c
        exact A_ret 2 (m := 47) (v := some (.int (-1000 : Int32))) (S' := S13) rfl rfl ⟨_, rfl, h⟩
      · have h := h.2 c
        refine A_call (j := 79) (As := [.int a, .int g]) (fr' := (47, 40, [some (.ref 0), some (.int a), some (.int b), some (.int g), some (.ref 15), none], [])) (S' := S13) 3 rfl (e := 1) (by omega) (A_imp (wt79 a g h) (fun v S15 hq => ?_))
        obtain ⟨r16, hv, h⟩ := hq
        subst hv
        refine A_br (¬ r16 = 0) (r1 := ((47, 47, [some (.ref 0), some (.int a), some (.int b), some (.int g), some (.ref 15), none], []), S15)) (r2 := ((47, 43, [some (.ref 0), some (.int a), some (.int b), some (.int g), some (.ref 15), none], []), S15)) 1 rfl (fun c => ?_) (fun c => ?_)
        · have h := h.1 c
          refine A_call (j := 98) (As := [.ref 15, .int b]) (fr' := (47, 53, [some (.ref 0), some (.int a), some (.int b), some (.int g), some (.ref 15), none], [])) (S' := S15) 3 rfl (e := 0) (by omega) (sp_item 15 5 _ ⟨by decide, by decide, rfl⟩ (by decide) ?_)
          refine A_call (j := 99) (As := [.ref 15, .int b, .int g]) (fr' := (47, 62, [some (.ref 0), some (.int a), some (.int b), some (.int g), some (.ref 15), some (.int (it (S15.1 15) 5 b))], [])) (S' := S15) 5 rfl (e := 0) (by omega) (sp_putItem 15 5 _ _ ⟨by decide, by decide, rfl⟩ (by decide) ?_)
          exact A_ret 2 (m := 47) (v := some (.int (it (S15.1 15) 5 b))) (S' := (ri_wr S15 15 (pu 5 (S15.1 15) b g))) rfl rfl ⟨_, rfl, h⟩
        · have h := h.2 c
          exact A_ret 2 (m := 47) (v := some (.int (-1000 : Int32))) (S' := S15) rfl rfl ⟨_, rfl, h⟩
    · have h := h.2.2.2.2.1 c
      refine A_call (j := 78) (As := [.ref 0, .int a]) (fr' := (47, 29, [some (.ref 0), some (.int a), some (.int b), some (.int g), some (.ref 16), none], [.int b])) (S' := S) 7 rfl (e := 0) (by omega) (A_imp (wt78 a h) (fun v S17 hq => ?_))
      obtain ⟨r18, hv, h⟩ := hq
      subst hv
      refine A_call (j := 95) (As := [.int b, .int r18]) (fr' := (47, 32, [some (.ref 0), some (.int a), some (.int b), some (.int g), some (.ref 16), none], [])) (S' := S17) 1 rfl (e := 0) (by omega) (sp_within _ _ ?_)
      refine A_br ((wi b r18) = 0) (r1 := ((47, 43, [some (.ref 0), some (.int a), some (.int b), some (.int g), some (.ref 16), none], []), S17)) (r2 := ((47, 35, [some (.ref 0), some (.int a), some (.int b), some (.int g), some (.ref 16), none], []), S17)) 1 rfl (fun c => ?_) (fun c => ?_)
      · have h := h.1 c
        exact A_ret 2 (m := 47) (v := some (.int (-1000 : Int32))) (S' := S17) rfl rfl ⟨_, rfl, h⟩
      · have h := h.2 c
        refine A_call (j := 79) (As := [.int a, .int g]) (fr' := (47, 40, [some (.ref 0), some (.int a), some (.int b), some (.int g), some (.ref 16), none], [])) (S' := S17) 3 rfl (e := 1) (by omega) (A_imp (wt79 a g h) (fun v S19 hq => ?_))
        obtain ⟨r20, hv, h⟩ := hq
        subst hv
        refine A_br (¬ r20 = 0) (r1 := ((47, 47, [some (.ref 0), some (.int a), some (.int b), some (.int g), some (.ref 16), none], []), S19)) (r2 := ((47, 43, [some (.ref 0), some (.int a), some (.int b), some (.int g), some (.ref 16), none], []), S19)) 1 rfl (fun c => ?_) (fun c => ?_)
        · have h := h.1 c
          refine A_call (j := 98) (As := [.ref 16, .int b]) (fr' := (47, 53, [some (.ref 0), some (.int a), some (.int b), some (.int g), some (.ref 16), none], [])) (S' := S19) 3 rfl (e := 0) (by omega) (sp_item 16 5 _ ⟨by decide, by decide, rfl⟩ (by decide) ?_)
          refine A_call (j := 99) (As := [.ref 16, .int b, .int g]) (fr' := (47, 62, [some (.ref 0), some (.int a), some (.int b), some (.int g), some (.ref 16), some (.int (it (S19.1 16) 5 b))], [])) (S' := S19) 5 rfl (e := 0) (by omega) (sp_putItem 16 5 _ _ ⟨by decide, by decide, rfl⟩ (by decide) ?_)
          exact A_ret 2 (m := 47) (v := some (.int (it (S19.1 16) 5 b))) (S' := (ri_wr S19 16 (pu 5 (S19.1 16) b g))) rfl rfl ⟨_, rfl, h⟩
        · have h := h.2 c
          exact A_ret 2 (m := 47) (v := some (.int (-1000 : Int32))) (S' := S19) rfl rfl ⟨_, rfl, h⟩
    · have h := h.2.2.2.2.2.1 c
      refine A_call (j := 78) (As := [.ref 0, .int a]) (fr' := (47, 29, [some (.ref 0), some (.int a), some (.int b), some (.int g), some (.ref 17), none], [.int b])) (S' := S) 7 rfl (e := 0) (by omega) (A_imp (wt78 a h) (fun v S21 hq => ?_))
      obtain ⟨r22, hv, h⟩ := hq
      subst hv
      refine A_call (j := 95) (As := [.int b, .int r22]) (fr' := (47, 32, [some (.ref 0), some (.int a), some (.int b), some (.int g), some (.ref 17), none], [])) (S' := S21) 1 rfl (e := 0) (by omega) (sp_within _ _ ?_)
      refine A_br ((wi b r22) = 0) (r1 := ((47, 43, [some (.ref 0), some (.int a), some (.int b), some (.int g), some (.ref 17), none], []), S21)) (r2 := ((47, 35, [some (.ref 0), some (.int a), some (.int b), some (.int g), some (.ref 17), none], []), S21)) 1 rfl (fun c => ?_) (fun c => ?_)
      · have h := h.1 c
        exact A_ret 2 (m := 47) (v := some (.int (-1000 : Int32))) (S' := S21) rfl rfl ⟨_, rfl, h⟩
      · have h := h.2 c
        refine A_call (j := 79) (As := [.int a, .int g]) (fr' := (47, 40, [some (.ref 0), some (.int a), some (.int b), some (.int g), some (.ref 17), none], [])) (S' := S21) 3 rfl (e := 1) (by omega) (A_imp (wt79 a g h) (fun v S23 hq => ?_))
        obtain ⟨r24, hv, h⟩ := hq
        subst hv
        refine A_br (¬ r24 = 0) (r1 := ((47, 47, [some (.ref 0), some (.int a), some (.int b), some (.int g), some (.ref 17), none], []), S23)) (r2 := ((47, 43, [some (.ref 0), some (.int a), some (.int b), some (.int g), some (.ref 17), none], []), S23)) 1 rfl (fun c => ?_) (fun c => ?_)
        · have h := h.1 c
          refine A_call (j := 98) (As := [.ref 17, .int b]) (fr' := (47, 53, [some (.ref 0), some (.int a), some (.int b), some (.int g), some (.ref 17), none], [])) (S' := S23) 3 rfl (e := 0) (by omega) (sp_item 17 5 _ ⟨by decide, by decide, rfl⟩ (by decide) ?_)
          refine A_call (j := 99) (As := [.ref 17, .int b, .int g]) (fr' := (47, 62, [some (.ref 0), some (.int a), some (.int b), some (.int g), some (.ref 17), some (.int (it (S23.1 17) 5 b))], [])) (S' := S23) 5 rfl (e := 0) (by omega) (sp_putItem 17 5 _ _ ⟨by decide, by decide, rfl⟩ (by decide) ?_)
          exact A_ret 2 (m := 47) (v := some (.int (it (S23.1 17) 5 b))) (S' := (ri_wr S23 17 (pu 5 (S23.1 17) b g))) rfl rfl ⟨_, rfl, h⟩
        · have h := h.2 c
          exact A_ret 2 (m := 47) (v := some (.int (-1000 : Int32))) (S' := S23) rfl rfl ⟨_, rfl, h⟩
    · have h := h.2.2.2.2.2.2 c
      exact A_ret 5 (m := 47) (v := some (.int (-1000 : Int32))) (S' := S) rfl rfl ⟨_, rfl, h⟩
  · have h := h.2 c
    refine A_call (j := 76) (As := [.ref 0, .int g]) (fr' := (47, 10, [some (.ref 0), some (.int a), some (.int b), some (.int g), none, none], [])) (S' := S) 3 rfl (e := 0) (by omega) (A_imp (wt76 g h) (fun v S25 hq => ?_))
    obtain ⟨r26, hv, h⟩ := hq
    subst hv
    exact A_ret 1 (m := 47) (v := some (.int r26)) (S' := S25) rfl rfl ⟨_, rfl, h⟩
/-! X4_life, depth 2 -/
def w48 (a : Int32) (b : Int32) (g : Int32) (S : ri_H) (Q : Int32 → ri_H → Prop) : Prop := (((wi a (6 : Int32)) = 0 → Q (-2 : Int32) S) ∧ (¬ (wi a (6 : Int32)) = 0 → (((wi b (10 : Int32)) = 0 → Q (-2 : Int32) S) ∧ (¬ (wi b (10 : Int32)) = 0 → ((¬ (wi g (12 : Int32)) = 0 → w35 10 a b g S (fun (r2 : Int32) (S1 : ri_H) => Q r2 S1)) ∧ (¬ (¬ (wi g (12 : Int32)) = 0) → Q (-2 : Int32) S))))))
set_option maxRecDepth 10000 in
set_option maxHeartbeats 1000000 in
theorem wt48 {E : ri_E} (a : Int32) (b : Int32) (g : Int32) {S : ri_H} {Q : Int32 → ri_H → Prop} (h : w48  a b g S Q) : ri_A E 2 (ri_en 48 [.ref 0, .int a, .int b, .int g]) S (Qi Q) := by
  unfold w48 at h
  show ri_A E 2 (48, 0, [some (.ref 0), some (.int a), some (.int b), some (.int g)], []) S (Qi Q)
  refine A_call (j := 95) (As := [.int a, .int (6 : Int32)]) (fr' := (48, 6, [some (.ref 0), some (.int a), some (.int b), some (.int g)], [])) (S' := S) 3 rfl (e := 0) (by omega) (sp_within _ _ ?_)
  refine A_br ((wi a (6 : Int32)) = 0) (r1 := ((48, 27, [some (.ref 0), some (.int a), some (.int b), some (.int g)], []), S)) (r2 := ((48, 9, [some (.ref 0), some (.int a), some (.int b), some (.int g)], []), S)) 1 rfl (fun c => ?_) (fun c => ?_)
  · have h := h.1 c
    exact A_ret 2 (m := 48) (v := some (.int (-2 : Int32))) (S' := S) rfl rfl ⟨_, rfl, h⟩
  · have h := h.2 c
    refine A_call (j := 95) (As := [.int b, .int (10 : Int32)]) (fr' := (48, 15, [some (.ref 0), some (.int a), some (.int b), some (.int g)], [])) (S' := S) 3 rfl (e := 0) (by omega) (sp_within _ _ ?_)
    refine A_br ((wi b (10 : Int32)) = 0) (r1 := ((48, 27, [some (.ref 0), some (.int a), some (.int b), some (.int g)], []), S)) (r2 := ((48, 18, [some (.ref 0), some (.int a), some (.int b), some (.int g)], []), S)) 1 rfl (fun c => ?_) (fun c => ?_)
    · have h := h.1 c
      exact A_ret 2 (m := 48) (v := some (.int (-2 : Int32))) (S' := S) rfl rfl ⟨_, rfl, h⟩
    · have h := h.2 c
      refine A_call (j := 95) (As := [.int g, .int (12 : Int32)]) (fr' := (48, 24, [some (.ref 0), some (.int a), some (.int b), some (.int g)], [])) (S' := S) 3 rfl (e := 0) (by omega) (sp_within _ _ ?_)
      refine A_br (¬ (wi g (12 : Int32)) = 0) (r1 := ((48, 30, [some (.ref 0), some (.int a), some (.int b), some (.int g)], []), S)) (r2 := ((48, 27, [some (.ref 0), some (.int a), some (.int b), some (.int g)], []), S)) 1 rfl (fun c => ?_) (fun c => ?_)
      · have h := h.1 c
        refine A_call (j := 35) (As := [.ref 10, .int a, .int b, .int g]) (fr' := (48, 40, [some (.ref 0), some (.int a), some (.int b), some (.int g)], [])) (S' := S) 6 rfl (e := 1) (by omega) (A_imp (wt35 10 (by decide) a b g h) (fun v S1 hq => ?_))
        obtain ⟨r2, hv, h⟩ := hq
        subst hv
        exact A_ret 1 (m := 48) (v := some (.int r2)) (S' := S1) rfl rfl ⟨_, rfl, h⟩
      · have h := h.2 c
        exact A_ret 2 (m := 48) (v := some (.int (-2 : Int32))) (S' := S) rfl rfl ⟨_, rfl, h⟩
/-! X4_told, depth 3 -/
def w49_b157 (Q : Int32 → ri_H → Prop) (x1 : Int32) (x2 : Int32) (S : ri_H) : Prop := w78 x2 S (fun (r2 : Int32) (S1 : ri_H) => ((¬ (wi x1 r2) = 0 → Q (it (S1.1 11) 24 x1) S1) ∧ (¬ (¬ (wi x1 r2) = 0) → Q (-1000 : Int32) S1)))
set_option maxRecDepth 10000 in
set_option maxHeartbeats 1000000 in
theorem wt49_b157 {E : ri_E} {Q : Int32 → ri_H → Prop} (x1 : Int32) (x2 : Int32) (S : ri_H) (h : w49_b157   Q x1 x2 S) : ri_A E 3 (49, 157, [some (.ref 0), some (.int x1), some (.int x2), none], [.ref 11]) S (Qi Q) := by
  unfold w49_b157 at h
  refine A_call (j := 78) (As := [.ref 0, .int x2]) (fr' := (49, 168, [some (.ref 0), some (.int x1), some (.int x2), some (.ref 11)], [.int x1])) (S' := S) 7 rfl (e := 0) (by omega) (A_imp (wt78 x2 h) (fun v S1 hq => ?_))
  obtain ⟨r2, hv, h⟩ := hq
  subst hv
  refine A_call (j := 95) (As := [.int x1, .int r2]) (fr' := (49, 171, [some (.ref 0), some (.int x1), some (.int x2), some (.ref 11)], [])) (S' := S1) 1 rfl (e := 0) (by omega) (sp_within _ _ ?_)
  refine A_br (¬ (wi x1 r2) = 0) (r1 := ((49, 178, [some (.ref 0), some (.int x1), some (.int x2), some (.ref 11)], []), S1)) (r2 := ((49, 174, [some (.ref 0), some (.int x1), some (.int x2), some (.ref 11)], []), S1)) 1 rfl (fun c => ?_) (fun c => ?_)
  · have h := h.1 c
    refine A_call (j := 98) (As := [.ref 11, .int x1]) (fr' := (49, 183, [some (.ref 0), some (.int x1), some (.int x2), some (.ref 11)], [])) (S' := S1) 3 rfl (e := 0) (by omega) (sp_item 11 24 _ ⟨by decide, by decide, rfl⟩ (by decide) ?_)
    exact A_ret 1 (m := 49) (v := some (.int (it (S1.1 11) 24 x1))) (S' := S1) rfl rfl ⟨_, rfl, h⟩
  · have h := h.2 c
    exact A_ret 2 (m := 49) (v := some (.int (-1000 : Int32))) (S' := S1) rfl rfl ⟨_, rfl, h⟩
def w49_b157a (Q : Int32 → ri_H → Prop) (x1 : Int32) (x2 : Int32) (S : ri_H) : Prop := w78 x2 S (fun (r4 : Int32) (S3 : ri_H) => ((¬ (wi x1 r4) = 0 → Q (it (S3.1 12) 24 x1) S3) ∧ (¬ (¬ (wi x1 r4) = 0) → Q (-1000 : Int32) S3)))
set_option maxRecDepth 10000 in
set_option maxHeartbeats 1000000 in
theorem wt49_b157a {E : ri_E} {Q : Int32 → ri_H → Prop} (x1 : Int32) (x2 : Int32) (S : ri_H) (h : w49_b157a   Q x1 x2 S) : ri_A E 3 (49, 157, [some (.ref 0), some (.int x1), some (.int x2), none], [.ref 12]) S (Qi Q) := by
  unfold w49_b157a at h
  refine A_call (j := 78) (As := [.ref 0, .int x2]) (fr' := (49, 168, [some (.ref 0), some (.int x1), some (.int x2), some (.ref 12)], [.int x1])) (S' := S) 7 rfl (e := 0) (by omega) (A_imp (wt78 x2 h) (fun v S3 hq => ?_))
  obtain ⟨r4, hv, h⟩ := hq
  subst hv
  refine A_call (j := 95) (As := [.int x1, .int r4]) (fr' := (49, 171, [some (.ref 0), some (.int x1), some (.int x2), some (.ref 12)], [])) (S' := S3) 1 rfl (e := 0) (by omega) (sp_within _ _ ?_)
  refine A_br (¬ (wi x1 r4) = 0) (r1 := ((49, 178, [some (.ref 0), some (.int x1), some (.int x2), some (.ref 12)], []), S3)) (r2 := ((49, 174, [some (.ref 0), some (.int x1), some (.int x2), some (.ref 12)], []), S3)) 1 rfl (fun c => ?_) (fun c => ?_)
  · have h := h.1 c
    refine A_call (j := 98) (As := [.ref 12, .int x1]) (fr' := (49, 183, [some (.ref 0), some (.int x1), some (.int x2), some (.ref 12)], [])) (S' := S3) 3 rfl (e := 0) (by omega) (sp_item 12 24 _ ⟨by decide, by decide, rfl⟩ (by decide) ?_)
    exact A_ret 1 (m := 49) (v := some (.int (it (S3.1 12) 24 x1))) (S' := S3) rfl rfl ⟨_, rfl, h⟩
  · have h := h.2 c
    exact A_ret 2 (m := 49) (v := some (.int (-1000 : Int32))) (S' := S3) rfl rfl ⟨_, rfl, h⟩
def w49_b157b (Q : Int32 → ri_H → Prop) (x1 : Int32) (x2 : Int32) (S : ri_H) : Prop := w78 x2 S (fun (r6 : Int32) (S5 : ri_H) => ((¬ (wi x1 r6) = 0 → Q (it (S5.1 14) 5 x1) S5) ∧ (¬ (¬ (wi x1 r6) = 0) → Q (-1000 : Int32) S5)))
set_option maxRecDepth 10000 in
set_option maxHeartbeats 1000000 in
theorem wt49_b157b {E : ri_E} {Q : Int32 → ri_H → Prop} (x1 : Int32) (x2 : Int32) (S : ri_H) (h : w49_b157b   Q x1 x2 S) : ri_A E 3 (49, 157, [some (.ref 0), some (.int x1), some (.int x2), none], [.ref 14]) S (Qi Q) := by
  unfold w49_b157b at h
  refine A_call (j := 78) (As := [.ref 0, .int x2]) (fr' := (49, 168, [some (.ref 0), some (.int x1), some (.int x2), some (.ref 14)], [.int x1])) (S' := S) 7 rfl (e := 0) (by omega) (A_imp (wt78 x2 h) (fun v S5 hq => ?_))
  obtain ⟨r6, hv, h⟩ := hq
  subst hv
  refine A_call (j := 95) (As := [.int x1, .int r6]) (fr' := (49, 171, [some (.ref 0), some (.int x1), some (.int x2), some (.ref 14)], [])) (S' := S5) 1 rfl (e := 0) (by omega) (sp_within _ _ ?_)
  refine A_br (¬ (wi x1 r6) = 0) (r1 := ((49, 178, [some (.ref 0), some (.int x1), some (.int x2), some (.ref 14)], []), S5)) (r2 := ((49, 174, [some (.ref 0), some (.int x1), some (.int x2), some (.ref 14)], []), S5)) 1 rfl (fun c => ?_) (fun c => ?_)
  · have h := h.1 c
    refine A_call (j := 98) (As := [.ref 14, .int x1]) (fr' := (49, 183, [some (.ref 0), some (.int x1), some (.int x2), some (.ref 14)], [])) (S' := S5) 3 rfl (e := 0) (by omega) (sp_item 14 5 _ ⟨by decide, by decide, rfl⟩ (by decide) ?_)
    exact A_ret 1 (m := 49) (v := some (.int (it (S5.1 14) 5 x1))) (S' := S5) rfl rfl ⟨_, rfl, h⟩
  · have h := h.2 c
    exact A_ret 2 (m := 49) (v := some (.int (-1000 : Int32))) (S' := S5) rfl rfl ⟨_, rfl, h⟩
def w49_b157c (Q : Int32 → ri_H → Prop) (x1 : Int32) (x2 : Int32) (S : ri_H) : Prop := w78 x2 S (fun (r8 : Int32) (S7 : ri_H) => ((¬ (wi x1 r8) = 0 → Q (it (S7.1 15) 5 x1) S7) ∧ (¬ (¬ (wi x1 r8) = 0) → Q (-1000 : Int32) S7)))
set_option maxRecDepth 10000 in
set_option maxHeartbeats 1000000 in
theorem wt49_b157c {E : ri_E} {Q : Int32 → ri_H → Prop} (x1 : Int32) (x2 : Int32) (S : ri_H) (h : w49_b157c   Q x1 x2 S) : ri_A E 3 (49, 157, [some (.ref 0), some (.int x1), some (.int x2), none], [.ref 15]) S (Qi Q) := by
  unfold w49_b157c at h
  refine A_call (j := 78) (As := [.ref 0, .int x2]) (fr' := (49, 168, [some (.ref 0), some (.int x1), some (.int x2), some (.ref 15)], [.int x1])) (S' := S) 7 rfl (e := 0) (by omega) (A_imp (wt78 x2 h) (fun v S7 hq => ?_))
  obtain ⟨r8, hv, h⟩ := hq
  subst hv
  refine A_call (j := 95) (As := [.int x1, .int r8]) (fr' := (49, 171, [some (.ref 0), some (.int x1), some (.int x2), some (.ref 15)], [])) (S' := S7) 1 rfl (e := 0) (by omega) (sp_within _ _ ?_)
  refine A_br (¬ (wi x1 r8) = 0) (r1 := ((49, 178, [some (.ref 0), some (.int x1), some (.int x2), some (.ref 15)], []), S7)) (r2 := ((49, 174, [some (.ref 0), some (.int x1), some (.int x2), some (.ref 15)], []), S7)) 1 rfl (fun c => ?_) (fun c => ?_)
  · have h := h.1 c
    refine A_call (j := 98) (As := [.ref 15, .int x1]) (fr' := (49, 183, [some (.ref 0), some (.int x1), some (.int x2), some (.ref 15)], [])) (S' := S7) 3 rfl (e := 0) (by omega) (sp_item 15 5 _ ⟨by decide, by decide, rfl⟩ (by decide) ?_)
    exact A_ret 1 (m := 49) (v := some (.int (it (S7.1 15) 5 x1))) (S' := S7) rfl rfl ⟨_, rfl, h⟩
  · have h := h.2 c
    exact A_ret 2 (m := 49) (v := some (.int (-1000 : Int32))) (S' := S7) rfl rfl ⟨_, rfl, h⟩
def w49_b157d (Q : Int32 → ri_H → Prop) (x1 : Int32) (x2 : Int32) (S : ri_H) : Prop := w78 x2 S (fun (r10 : Int32) (S9 : ri_H) => ((¬ (wi x1 r10) = 0 → Q (it (S9.1 16) 5 x1) S9) ∧ (¬ (¬ (wi x1 r10) = 0) → Q (-1000 : Int32) S9)))
set_option maxRecDepth 10000 in
set_option maxHeartbeats 1000000 in
theorem wt49_b157d {E : ri_E} {Q : Int32 → ri_H → Prop} (x1 : Int32) (x2 : Int32) (S : ri_H) (h : w49_b157d   Q x1 x2 S) : ri_A E 3 (49, 157, [some (.ref 0), some (.int x1), some (.int x2), none], [.ref 16]) S (Qi Q) := by
  unfold w49_b157d at h
  refine A_call (j := 78) (As := [.ref 0, .int x2]) (fr' := (49, 168, [some (.ref 0), some (.int x1), some (.int x2), some (.ref 16)], [.int x1])) (S' := S) 7 rfl (e := 0) (by omega) (A_imp (wt78 x2 h) (fun v S9 hq => ?_))
  obtain ⟨r10, hv, h⟩ := hq
  subst hv
  refine A_call (j := 95) (As := [.int x1, .int r10]) (fr' := (49, 171, [some (.ref 0), some (.int x1), some (.int x2), some (.ref 16)], [])) (S' := S9) 1 rfl (e := 0) (by omega) (sp_within _ _ ?_)
  refine A_br (¬ (wi x1 r10) = 0) (r1 := ((49, 178, [some (.ref 0), some (.int x1), some (.int x2), some (.ref 16)], []), S9)) (r2 := ((49, 174, [some (.ref 0), some (.int x1), some (.int x2), some (.ref 16)], []), S9)) 1 rfl (fun c => ?_) (fun c => ?_)
  · have h := h.1 c
    refine A_call (j := 98) (As := [.ref 16, .int x1]) (fr' := (49, 183, [some (.ref 0), some (.int x1), some (.int x2), some (.ref 16)], [])) (S' := S9) 3 rfl (e := 0) (by omega) (sp_item 16 5 _ ⟨by decide, by decide, rfl⟩ (by decide) ?_)
    exact A_ret 1 (m := 49) (v := some (.int (it (S9.1 16) 5 x1))) (S' := S9) rfl rfl ⟨_, rfl, h⟩
  · have h := h.2 c
    exact A_ret 2 (m := 49) (v := some (.int (-1000 : Int32))) (S' := S9) rfl rfl ⟨_, rfl, h⟩
def w49_b157e (Q : Int32 → ri_H → Prop) (x1 : Int32) (x2 : Int32) (S : ri_H) : Prop := w78 x2 S (fun (r12 : Int32) (S11 : ri_H) => ((¬ (wi x1 r12) = 0 → Q (it (S11.1 17) 5 x1) S11) ∧ (¬ (¬ (wi x1 r12) = 0) → Q (-1000 : Int32) S11)))
set_option maxRecDepth 10000 in
set_option maxHeartbeats 1000000 in
theorem wt49_b157e {E : ri_E} {Q : Int32 → ri_H → Prop} (x1 : Int32) (x2 : Int32) (S : ri_H) (h : w49_b157e   Q x1 x2 S) : ri_A E 3 (49, 157, [some (.ref 0), some (.int x1), some (.int x2), none], [.ref 17]) S (Qi Q) := by
  unfold w49_b157e at h
  refine A_call (j := 78) (As := [.ref 0, .int x2]) (fr' := (49, 168, [some (.ref 0), some (.int x1), some (.int x2), some (.ref 17)], [.int x1])) (S' := S) 7 rfl (e := 0) (by omega) (A_imp (wt78 x2 h) (fun v S11 hq => ?_))
  obtain ⟨r12, hv, h⟩ := hq
  subst hv
  refine A_call (j := 95) (As := [.int x1, .int r12]) (fr' := (49, 171, [some (.ref 0), some (.int x1), some (.int x2), some (.ref 17)], [])) (S' := S11) 1 rfl (e := 0) (by omega) (sp_within _ _ ?_)
  refine A_br (¬ (wi x1 r12) = 0) (r1 := ((49, 178, [some (.ref 0), some (.int x1), some (.int x2), some (.ref 17)], []), S11)) (r2 := ((49, 174, [some (.ref 0), some (.int x1), some (.int x2), some (.ref 17)], []), S11)) 1 rfl (fun c => ?_) (fun c => ?_)
  · have h := h.1 c
    refine A_call (j := 98) (As := [.ref 17, .int x1]) (fr' := (49, 183, [some (.ref 0), some (.int x1), some (.int x2), some (.ref 17)], [])) (S' := S11) 3 rfl (e := 0) (by omega) (sp_item 17 5 _ ⟨by decide, by decide, rfl⟩ (by decide) ?_)
    exact A_ret 1 (m := 49) (v := some (.int (it (S11.1 17) 5 x1))) (S' := S11) rfl rfl ⟨_, rfl, h⟩
  · have h := h.2 c
    exact A_ret 2 (m := 49) (v := some (.int (-1000 : Int32))) (S' := S11) rfl rfl ⟨_, rfl, h⟩
def w49_b157f (Q : Int32 → ri_H → Prop) (x1 : Int32) (x2 : Int32) (S : ri_H) : Prop := Q (-1000 : Int32) S
set_option maxRecDepth 10000 in
set_option maxHeartbeats 1000000 in
theorem wt49_b157f {E : ri_E} {Q : Int32 → ri_H → Prop} (x1 : Int32) (x2 : Int32) (S : ri_H) (h : w49_b157f   Q x1 x2 S) : ri_A E 3 (49, 157, [some (.ref 0), some (.int x1), some (.int x2), none], [.null]) S (Qi Q) := by
  unfold w49_b157f at h
  exact A_ret 5 (m := 49) (v := some (.int (-1000 : Int32))) (S' := S) rfl rfl ⟨_, rfl, h⟩
def w49_b157g (Q : Int32 → ri_H → Prop) (x1 : Int32) (x2 : Int32) (S : ri_H) : Prop := w78 x2 S (fun (r14 : Int32) (S13 : ri_H) => ((¬ (wi x1 r14) = 0 → Q (it (S13.1 13) 5 x1) S13) ∧ (¬ (¬ (wi x1 r14) = 0) → Q (-1000 : Int32) S13)))
set_option maxRecDepth 10000 in
set_option maxHeartbeats 1000000 in
theorem wt49_b157g {E : ri_E} {Q : Int32 → ri_H → Prop} (x1 : Int32) (x2 : Int32) (S : ri_H) (h : w49_b157g   Q x1 x2 S) : ri_A E 3 (49, 157, [some (.ref 0), some (.int x1), some (.int x2), none], [.ref 13]) S (Qi Q) := by
  unfold w49_b157g at h
  refine A_call (j := 78) (As := [.ref 0, .int x2]) (fr' := (49, 168, [some (.ref 0), some (.int x1), some (.int x2), some (.ref 13)], [.int x1])) (S' := S) 7 rfl (e := 0) (by omega) (A_imp (wt78 x2 h) (fun v S13 hq => ?_))
  obtain ⟨r14, hv, h⟩ := hq
  subst hv
  refine A_call (j := 95) (As := [.int x1, .int r14]) (fr' := (49, 171, [some (.ref 0), some (.int x1), some (.int x2), some (.ref 13)], [])) (S' := S13) 1 rfl (e := 0) (by omega) (sp_within _ _ ?_)
  refine A_br (¬ (wi x1 r14) = 0) (r1 := ((49, 178, [some (.ref 0), some (.int x1), some (.int x2), some (.ref 13)], []), S13)) (r2 := ((49, 174, [some (.ref 0), some (.int x1), some (.int x2), some (.ref 13)], []), S13)) 1 rfl (fun c => ?_) (fun c => ?_)
  · have h := h.1 c
    refine A_call (j := 98) (As := [.ref 13, .int x1]) (fr' := (49, 183, [some (.ref 0), some (.int x1), some (.int x2), some (.ref 13)], [])) (S' := S13) 3 rfl (e := 0) (by omega) (sp_item 13 5 _ ⟨by decide, by decide, rfl⟩ (by decide) ?_)
    exact A_ret 1 (m := 49) (v := some (.int (it (S13.1 13) 5 x1))) (S' := S13) rfl rfl ⟨_, rfl, h⟩
  · have h := h.2 c
    exact A_ret 2 (m := 49) (v := some (.int (-1000 : Int32))) (S' := S13) rfl rfl ⟨_, rfl, h⟩
def w49 (a : Int32) (b : Int32) (S : ri_H) (Q : Int32 → ri_H → Prop) : Prop := (((b < (2 : Int32) ∨ (10 : Int32) < b) → ((¬ b = (7 : Int32) → ((b = 0 → w49_b157   Q a b S) ∧ (b = 1 → w49_b157a   Q a b S) ∧ (b = 3 → w49_b157b   Q a b S) ∧ (b = 4 → w49_b157c   Q a b S) ∧ (b = 5 → w49_b157d   Q a b S) ∧ (b = 6 → w49_b157e   Q a b S) ∧ ((b < 0 ∨ 6 < b) ∨ b = 2 → w49_b157f   Q a b S))) ∧ (¬ (¬ b = (7 : Int32)) → w49_b157g   Q a b S))) ∧ (b = (2 : Int32) → Q (S.1 10 10) S) ∧ (b = (3 : Int32) → ((¬ b = (7 : Int32) → ((b = 0 → w49_b157   Q a b S) ∧ (b = 1 → w49_b157a   Q a b S) ∧ (b = 3 → w49_b157b   Q a b S) ∧ (b = 4 → w49_b157c   Q a b S) ∧ (b = 5 → w49_b157d   Q a b S) ∧ (b = 6 → w49_b157e   Q a b S) ∧ ((b < 0 ∨ 6 < b) ∨ b = 2 → w49_b157f   Q a b S))) ∧ (¬ (¬ b = (7 : Int32)) → w49_b157g   Q a b S))) ∧ (b = (4 : Int32) → ((¬ b = (7 : Int32) → ((b = 0 → w49_b157   Q a b S) ∧ (b = 1 → w49_b157a   Q a b S) ∧ (b = 3 → w49_b157b   Q a b S) ∧ (b = 4 → w49_b157c   Q a b S) ∧ (b = 5 → w49_b157d   Q a b S) ∧ (b = 6 → w49_b157e   Q a b S) ∧ ((b < 0 ∨ 6 < b) ∨ b = 2 → w49_b157f   Q a b S))) ∧ (¬ (¬ b = (7 : Int32)) → w49_b157g   Q a b S))) ∧ (b = (5 : Int32) → ((¬ b = (7 : Int32) → ((b = 0 → w49_b157   Q a b S) ∧ (b = 1 → w49_b157a   Q a b S) ∧ (b = 3 → w49_b157b   Q a b S) ∧ (b = 4 → w49_b157c   Q a b S) ∧ (b = 5 → w49_b157d   Q a b S) ∧ (b = 6 → w49_b157e   Q a b S) ∧ ((b < 0 ∨ 6 < b) ∨ b = 2 → w49_b157f   Q a b S))) ∧ (¬ (¬ b = (7 : Int32)) → w49_b157g   Q a b S))) ∧ (b = (6 : Int32) → ((¬ b = (7 : Int32) → ((b = 0 → w49_b157   Q a b S) ∧ (b = 1 → w49_b157a   Q a b S) ∧ (b = 3 → w49_b157b   Q a b S) ∧ (b = 4 → w49_b157c   Q a b S) ∧ (b = 5 → w49_b157d   Q a b S) ∧ (b = 6 → w49_b157e   Q a b S) ∧ ((b < 0 ∨ 6 < b) ∨ b = 2 → w49_b157f   Q a b S))) ∧ (¬ (¬ b = (7 : Int32)) → w49_b157g   Q a b S))) ∧ (b = (7 : Int32) → ((¬ b = (7 : Int32) → ((b = 0 → w49_b157   Q a b S) ∧ (b = 1 → w49_b157a   Q a b S) ∧ (b = 3 → w49_b157b   Q a b S) ∧ (b = 4 → w49_b157c   Q a b S) ∧ (b = 5 → w49_b157d   Q a b S) ∧ (b = 6 → w49_b157e   Q a b S) ∧ ((b < 0 ∨ 6 < b) ∨ b = 2 → w49_b157f   Q a b S))) ∧ (¬ (¬ b = (7 : Int32)) → w49_b157g   Q a b S))) ∧ (b = (8 : Int32) → (((wi a (S.1 10 9)) = 0 → Q (-1000 : Int32) S) ∧ (¬ (wi a (S.1 10 9)) = 0 → w40 10 a S (fun (r16 : Int32) (S15 : ri_H) => Q r16 S15)))) ∧ (b = (9 : Int32) → (((wi a (S.1 10 9)) = 0 → Q (-1000 : Int32) S) ∧ (¬ (wi a (S.1 10 9)) = 0 → w41 10 a S (fun (r18 : Int32) (S17 : ri_H) => Q r18 S17)))) ∧ (b = (10 : Int32) → (((wi a (12 : Int32)) = 0 → Q (-1000 : Int32) S) ∧ (¬ (wi a (12 : Int32)) = 0 → w36 10 a S (fun (r20 : Int32) (S19 : ri_H) => Q r20 S19)))))
set_option maxRecDepth 10000 in
set_option maxHeartbeats 1000000 in
theorem wt49 {E : ri_E} (a : Int32) (b : Int32) {S : ri_H} {Q : Int32 → ri_H → Prop} (h : w49  a b S Q) : ri_A E 3 (ri_en 49 [.ref 0, .int a, .int b]) S (Qi Q) := by
  unfold w49 at h
  show ri_A E 3 (49, 0, [some (.ref 0), some (.int a), some (.int b), none], []) S (Qi Q)
  refine A_nx 2 (fr' := (49, ri_tgt 1 (135) (2) (10) [51, 135, 135, 135, 135, 135, 59, 85, 111] b, [some (.ref 0), some (.int a), some (.int b), none], [])) (S' := S) rfl ?_
  rcases ri_swc b (2) 9 (by decide) (by decide) with c | ⟨i, hi, c⟩
  · have c : b < Int32.ofInt (2) ∨ Int32.ofInt (10) < b := c
    have h := h.1 c
    rw [ri_tgt_out b c (by decide) (by decide)]
    refine A_br (¬ b = (7 : Int32)) (r1 := ((49, 152, [some (.ref 0), some (.int a), some (.int b), none], []), S)) (r2 := ((49, 142, [some (.ref 0), some (.int a), some (.int b), none], []), S)) 3 rfl (fun c => ?_) (fun c => ?_)
    · have h := h.1 c
      refine A_call (j := 77) (As := [.ref 0, .int b]) (fr' := (49, 157, [some (.ref 0), some (.int a), some (.int b), none], [])) (S' := S) 3 rfl (e := 0) (by omega) (sp_rowOf b (fun c => ?_) (fun c => ?_) (fun c => ?_) (fun c => ?_) (fun c => ?_) (fun c => ?_) (fun c => ?_))
      · have h := h.1 c
        refine ri_A.less (m := 49) (pc := 157) (L := [some (.ref 0), some (.int a), some (.int b), none]) (L' := [some (.ref 0), some (.int a), some (.int b), none]) (st := [.ref 11]) ⟨rfl, ⟨rfl, ⟨rfl, trivial⟩⟩⟩ ?_
        exact wt49_b157   _ _ _ h
      · have h := h.2.1 c
        refine ri_A.less (m := 49) (pc := 157) (L := [some (.ref 0), some (.int a), some (.int b), none]) (L' := [some (.ref 0), some (.int a), some (.int b), none]) (st := [.ref 12]) ⟨rfl, ⟨rfl, ⟨rfl, trivial⟩⟩⟩ ?_
        exact wt49_b157a   _ _ _ h
      · have h := h.2.2.1 c
        refine ri_A.less (m := 49) (pc := 157) (L := [some (.ref 0), some (.int a), some (.int b), none]) (L' := [some (.ref 0), some (.int a), some (.int b), none]) (st := [.ref 14]) ⟨rfl, ⟨rfl, ⟨rfl, trivial⟩⟩⟩ ?_
        exact wt49_b157b   _ _ _ h
      · have h := h.2.2.2.1 c
        refine ri_A.less (m := 49) (pc := 157) (L := [some (.ref 0), some (.int a), some (.int b), none]) (L' := [some (.ref 0), some (.int a), some (.int b), none]) (st := [.ref 15]) ⟨rfl, ⟨rfl, ⟨rfl, trivial⟩⟩⟩ ?_
        exact wt49_b157c   _ _ _ h
      · have h := h.2.2.2.2.1 c
        refine ri_A.less (m := 49) (pc := 157) (L := [some (.ref 0), some (.int a), some (.int b), none]) (L' := [some (.ref 0), some (.int a), some (.int b), none]) (st := [.ref 16]) ⟨rfl, ⟨rfl, ⟨rfl, trivial⟩⟩⟩ ?_
        exact wt49_b157d   _ _ _ h
      · have h := h.2.2.2.2.2.1 c
        refine ri_A.less (m := 49) (pc := 157) (L := [some (.ref 0), some (.int a), some (.int b), none]) (L' := [some (.ref 0), some (.int a), some (.int b), none]) (st := [.ref 17]) ⟨rfl, ⟨rfl, ⟨rfl, trivial⟩⟩⟩ ?_
        exact wt49_b157e   _ _ _ h
      · have h := h.2.2.2.2.2.2 c
        refine ri_A.less (m := 49) (pc := 157) (L := [some (.ref 0), some (.int a), some (.int b), none]) (L' := [some (.ref 0), some (.int a), some (.int b), none]) (st := [.null]) ⟨rfl, ⟨rfl, ⟨rfl, trivial⟩⟩⟩ ?_
        exact wt49_b157f   _ _ _ h
    · have h := h.2 c
      refine A_nx 4 (fr' := (49, 157, [some (.ref 0), some (.int a), some (.int b), none], [.ref 13])) (S' := S) rfl ?_
      refine ri_A.less (m := 49) (pc := 157) (L := [some (.ref 0), some (.int a), some (.int b), none]) (L' := [some (.ref 0), some (.int a), some (.int b), none]) (st := [.ref 13]) ⟨rfl, ⟨rfl, ⟨rfl, trivial⟩⟩⟩ ?_
      exact wt49_b157g   _ _ _ h
  · have h := h.2
    match i, hi, c with
    | 0, hi, c =>
      have c : b = (2 : Int32) := c
      have h := h.1 c
      rw [show ri_tgt 1 (135) (2) (10) [51, 135, 135, 135, 135, 135, 59, 85, 111] b = 52 by rw [c]; decide]
      exact A_ret 4 (m := 49) (v := some (.int (S.1 10 10))) (S' := S) rfl rfl ⟨_, rfl, h⟩
    | 1, hi, c =>
      have c : b = (3 : Int32) := c
      have h := h.2.1 c
      rw [show ri_tgt 1 (135) (2) (10) [51, 135, 135, 135, 135, 135, 59, 85, 111] b = 136 by rw [c]; decide]
      refine A_br (¬ b = (7 : Int32)) (r1 := ((49, 152, [some (.ref 0), some (.int a), some (.int b), none], []), S)) (r2 := ((49, 142, [some (.ref 0), some (.int a), some (.int b), none], []), S)) 3 rfl (fun c => ?_) (fun c => ?_)
      · have h := h.1 c
        refine A_call (j := 77) (As := [.ref 0, .int b]) (fr' := (49, 157, [some (.ref 0), some (.int a), some (.int b), none], [])) (S' := S) 3 rfl (e := 0) (by omega) (sp_rowOf b (fun c => ?_) (fun c => ?_) (fun c => ?_) (fun c => ?_) (fun c => ?_) (fun c => ?_) (fun c => ?_))
        · have h := h.1 c
          refine ri_A.less (m := 49) (pc := 157) (L := [some (.ref 0), some (.int a), some (.int b), none]) (L' := [some (.ref 0), some (.int a), some (.int b), none]) (st := [.ref 11]) ⟨rfl, ⟨rfl, ⟨rfl, trivial⟩⟩⟩ ?_
          exact wt49_b157   _ _ _ h
        · have h := h.2.1 c
          refine ri_A.less (m := 49) (pc := 157) (L := [some (.ref 0), some (.int a), some (.int b), none]) (L' := [some (.ref 0), some (.int a), some (.int b), none]) (st := [.ref 12]) ⟨rfl, ⟨rfl, ⟨rfl, trivial⟩⟩⟩ ?_
          exact wt49_b157a   _ _ _ h
        · have h := h.2.2.1 c
          refine ri_A.less (m := 49) (pc := 157) (L := [some (.ref 0), some (.int a), some (.int b), none]) (L' := [some (.ref 0), some (.int a), some (.int b), none]) (st := [.ref 14]) ⟨rfl, ⟨rfl, ⟨rfl, trivial⟩⟩⟩ ?_
          exact wt49_b157b   _ _ _ h
        · have h := h.2.2.2.1 c
          refine ri_A.less (m := 49) (pc := 157) (L := [some (.ref 0), some (.int a), some (.int b), none]) (L' := [some (.ref 0), some (.int a), some (.int b), none]) (st := [.ref 15]) ⟨rfl, ⟨rfl, ⟨rfl, trivial⟩⟩⟩ ?_
          exact wt49_b157c   _ _ _ h
        · have h := h.2.2.2.2.1 c
          refine ri_A.less (m := 49) (pc := 157) (L := [some (.ref 0), some (.int a), some (.int b), none]) (L' := [some (.ref 0), some (.int a), some (.int b), none]) (st := [.ref 16]) ⟨rfl, ⟨rfl, ⟨rfl, trivial⟩⟩⟩ ?_
          exact wt49_b157d   _ _ _ h
        · have h := h.2.2.2.2.2.1 c
          refine ri_A.less (m := 49) (pc := 157) (L := [some (.ref 0), some (.int a), some (.int b), none]) (L' := [some (.ref 0), some (.int a), some (.int b), none]) (st := [.ref 17]) ⟨rfl, ⟨rfl, ⟨rfl, trivial⟩⟩⟩ ?_
          exact wt49_b157e   _ _ _ h
        · have h := h.2.2.2.2.2.2 c
          refine ri_A.less (m := 49) (pc := 157) (L := [some (.ref 0), some (.int a), some (.int b), none]) (L' := [some (.ref 0), some (.int a), some (.int b), none]) (st := [.null]) ⟨rfl, ⟨rfl, ⟨rfl, trivial⟩⟩⟩ ?_
          exact wt49_b157f   _ _ _ h
      · have h := h.2 c
        refine A_nx 4 (fr' := (49, 157, [some (.ref 0), some (.int a), some (.int b), none], [.ref 13])) (S' := S) rfl ?_
        refine ri_A.less (m := 49) (pc := 157) (L := [some (.ref 0), some (.int a), some (.int b), none]) (L' := [some (.ref 0), some (.int a), some (.int b), none]) (st := [.ref 13]) ⟨rfl, ⟨rfl, ⟨rfl, trivial⟩⟩⟩ ?_
        exact wt49_b157g   _ _ _ h
    | 2, hi, c =>
      have c : b = (4 : Int32) := c
      have h := h.2.2.1 c
      rw [show ri_tgt 1 (135) (2) (10) [51, 135, 135, 135, 135, 135, 59, 85, 111] b = 136 by rw [c]; decide]
      refine A_br (¬ b = (7 : Int32)) (r1 := ((49, 152, [some (.ref 0), some (.int a), some (.int b), none], []), S)) (r2 := ((49, 142, [some (.ref 0), some (.int a), some (.int b), none], []), S)) 3 rfl (fun c => ?_) (fun c => ?_)
      · have h := h.1 c
        refine A_call (j := 77) (As := [.ref 0, .int b]) (fr' := (49, 157, [some (.ref 0), some (.int a), some (.int b), none], [])) (S' := S) 3 rfl (e := 0) (by omega) (sp_rowOf b (fun c => ?_) (fun c => ?_) (fun c => ?_) (fun c => ?_) (fun c => ?_) (fun c => ?_) (fun c => ?_))
        · have h := h.1 c
          refine ri_A.less (m := 49) (pc := 157) (L := [some (.ref 0), some (.int a), some (.int b), none]) (L' := [some (.ref 0), some (.int a), some (.int b), none]) (st := [.ref 11]) ⟨rfl, ⟨rfl, ⟨rfl, trivial⟩⟩⟩ ?_
          exact wt49_b157   _ _ _ h
        · have h := h.2.1 c
          refine ri_A.less (m := 49) (pc := 157) (L := [some (.ref 0), some (.int a), some (.int b), none]) (L' := [some (.ref 0), some (.int a), some (.int b), none]) (st := [.ref 12]) ⟨rfl, ⟨rfl, ⟨rfl, trivial⟩⟩⟩ ?_
          exact wt49_b157a   _ _ _ h
        · have h := h.2.2.1 c
          refine ri_A.less (m := 49) (pc := 157) (L := [some (.ref 0), some (.int a), some (.int b), none]) (L' := [some (.ref 0), some (.int a), some (.int b), none]) (st := [.ref 14]) ⟨rfl, ⟨rfl, ⟨rfl, trivial⟩⟩⟩ ?_
          exact wt49_b157b   _ _ _ h
        · have h := h.2.2.2.1 c
          refine ri_A.less (m := 49) (pc := 157) (L := [some (.ref 0), some (.int a), some (.int b), none]) (L' := [some (.ref 0), some (.int a), some (.int b), none]) (st := [.ref 15]) ⟨rfl, ⟨rfl, ⟨rfl, trivial⟩⟩⟩ ?_
          exact wt49_b157c   _ _ _ h
        · have h := h.2.2.2.2.1 c
          refine ri_A.less (m := 49) (pc := 157) (L := [some (.ref 0), some (.int a), some (.int b), none]) (L' := [some (.ref 0), some (.int a), some (.int b), none]) (st := [.ref 16]) ⟨rfl, ⟨rfl, ⟨rfl, trivial⟩⟩⟩ ?_
          exact wt49_b157d   _ _ _ h
        · have h := h.2.2.2.2.2.1 c
          refine ri_A.less (m := 49) (pc := 157) (L := [some (.ref 0), some (.int a), some (.int b), none]) (L' := [some (.ref 0), some (.int a), some (.int b), none]) (st := [.ref 17]) ⟨rfl, ⟨rfl, ⟨rfl, trivial⟩⟩⟩ ?_
          exact wt49_b157e   _ _ _ h
        · have h := h.2.2.2.2.2.2 c
          refine ri_A.less (m := 49) (pc := 157) (L := [some (.ref 0), some (.int a), some (.int b), none]) (L' := [some (.ref 0), some (.int a), some (.int b), none]) (st := [.null]) ⟨rfl, ⟨rfl, ⟨rfl, trivial⟩⟩⟩ ?_
          exact wt49_b157f   _ _ _ h
      · have h := h.2 c
        refine A_nx 4 (fr' := (49, 157, [some (.ref 0), some (.int a), some (.int b), none], [.ref 13])) (S' := S) rfl ?_
        refine ri_A.less (m := 49) (pc := 157) (L := [some (.ref 0), some (.int a), some (.int b), none]) (L' := [some (.ref 0), some (.int a), some (.int b), none]) (st := [.ref 13]) ⟨rfl, ⟨rfl, ⟨rfl, trivial⟩⟩⟩ ?_
        exact wt49_b157g   _ _ _ h
    | 3, hi, c =>
      have c : b = (5 : Int32) := c
      have h := h.2.2.2.1 c
      rw [show ri_tgt 1 (135) (2) (10) [51, 135, 135, 135, 135, 135, 59, 85, 111] b = 136 by rw [c]; decide]
      refine A_br (¬ b = (7 : Int32)) (r1 := ((49, 152, [some (.ref 0), some (.int a), some (.int b), none], []), S)) (r2 := ((49, 142, [some (.ref 0), some (.int a), some (.int b), none], []), S)) 3 rfl (fun c => ?_) (fun c => ?_)
      · have h := h.1 c
        refine A_call (j := 77) (As := [.ref 0, .int b]) (fr' := (49, 157, [some (.ref 0), some (.int a), some (.int b), none], [])) (S' := S) 3 rfl (e := 0) (by omega) (sp_rowOf b (fun c => ?_) (fun c => ?_) (fun c => ?_) (fun c => ?_) (fun c => ?_) (fun c => ?_) (fun c => ?_))
        · have h := h.1 c
          refine ri_A.less (m := 49) (pc := 157) (L := [some (.ref 0), some (.int a), some (.int b), none]) (L' := [some (.ref 0), some (.int a), some (.int b), none]) (st := [.ref 11]) ⟨rfl, ⟨rfl, ⟨rfl, trivial⟩⟩⟩ ?_
          exact wt49_b157   _ _ _ h
        · have h := h.2.1 c
          refine ri_A.less (m := 49) (pc := 157) (L := [some (.ref 0), some (.int a), some (.int b), none]) (L' := [some (.ref 0), some (.int a), some (.int b), none]) (st := [.ref 12]) ⟨rfl, ⟨rfl, ⟨rfl, trivial⟩⟩⟩ ?_
          exact wt49_b157a   _ _ _ h
        · have h := h.2.2.1 c
          refine ri_A.less (m := 49) (pc := 157) (L := [some (.ref 0), some (.int a), some (.int b), none]) (L' := [some (.ref 0), some (.int a), some (.int b), none]) (st := [.ref 14]) ⟨rfl, ⟨rfl, ⟨rfl, trivial⟩⟩⟩ ?_
          exact wt49_b157b   _ _ _ h
        · have h := h.2.2.2.1 c
          refine ri_A.less (m := 49) (pc := 157) (L := [some (.ref 0), some (.int a), some (.int b), none]) (L' := [some (.ref 0), some (.int a), some (.int b), none]) (st := [.ref 15]) ⟨rfl, ⟨rfl, ⟨rfl, trivial⟩⟩⟩ ?_
          exact wt49_b157c   _ _ _ h
        · have h := h.2.2.2.2.1 c
          refine ri_A.less (m := 49) (pc := 157) (L := [some (.ref 0), some (.int a), some (.int b), none]) (L' := [some (.ref 0), some (.int a), some (.int b), none]) (st := [.ref 16]) ⟨rfl, ⟨rfl, ⟨rfl, trivial⟩⟩⟩ ?_
          exact wt49_b157d   _ _ _ h
        · have h := h.2.2.2.2.2.1 c
          refine ri_A.less (m := 49) (pc := 157) (L := [some (.ref 0), some (.int a), some (.int b), none]) (L' := [some (.ref 0), some (.int a), some (.int b), none]) (st := [.ref 17]) ⟨rfl, ⟨rfl, ⟨rfl, trivial⟩⟩⟩ ?_
          exact wt49_b157e   _ _ _ h
        · have h := h.2.2.2.2.2.2 c
          refine ri_A.less (m := 49) (pc := 157) (L := [some (.ref 0), some (.int a), some (.int b), none]) (L' := [some (.ref 0), some (.int a), some (.int b), none]) (st := [.null]) ⟨rfl, ⟨rfl, ⟨rfl, trivial⟩⟩⟩ ?_
          exact wt49_b157f   _ _ _ h
      · have h := h.2 c
        refine A_nx 4 (fr' := (49, 157, [some (.ref 0), some (.int a), some (.int b), none], [.ref 13])) (S' := S) rfl ?_
        refine ri_A.less (m := 49) (pc := 157) (L := [some (.ref 0), some (.int a), some (.int b), none]) (L' := [some (.ref 0), some (.int a), some (.int b), none]) (st := [.ref 13]) ⟨rfl, ⟨rfl, ⟨rfl, trivial⟩⟩⟩ ?_
        exact wt49_b157g   _ _ _ h
    | 4, hi, c =>
      have c : b = (6 : Int32) := c
      have h := h.2.2.2.2.1 c
      rw [show ri_tgt 1 (135) (2) (10) [51, 135, 135, 135, 135, 135, 59, 85, 111] b = 136 by rw [c]; decide]
      refine A_br (¬ b = (7 : Int32)) (r1 := ((49, 152, [some (.ref 0), some (.int a), some (.int b), none], []), S)) (r2 := ((49, 142, [some (.ref 0), some (.int a), some (.int b), none], []), S)) 3 rfl (fun c => ?_) (fun c => ?_)
      · have h := h.1 c
        refine A_call (j := 77) (As := [.ref 0, .int b]) (fr' := (49, 157, [some (.ref 0), some (.int a), some (.int b), none], [])) (S' := S) 3 rfl (e := 0) (by omega) (sp_rowOf b (fun c => ?_) (fun c => ?_) (fun c => ?_) (fun c => ?_) (fun c => ?_) (fun c => ?_) (fun c => ?_))
        · have h := h.1 c
          refine ri_A.less (m := 49) (pc := 157) (L := [some (.ref 0), some (.int a), some (.int b), none]) (L' := [some (.ref 0), some (.int a), some (.int b), none]) (st := [.ref 11]) ⟨rfl, ⟨rfl, ⟨rfl, trivial⟩⟩⟩ ?_
          exact wt49_b157   _ _ _ h
        · have h := h.2.1 c
          refine ri_A.less (m := 49) (pc := 157) (L := [some (.ref 0), some (.int a), some (.int b), none]) (L' := [some (.ref 0), some (.int a), some (.int b), none]) (st := [.ref 12]) ⟨rfl, ⟨rfl, ⟨rfl, trivial⟩⟩⟩ ?_
          exact wt49_b157a   _ _ _ h
        · have h := h.2.2.1 c
          refine ri_A.less (m := 49) (pc := 157) (L := [some (.ref 0), some (.int a), some (.int b), none]) (L' := [some (.ref 0), some (.int a), some (.int b), none]) (st := [.ref 14]) ⟨rfl, ⟨rfl, ⟨rfl, trivial⟩⟩⟩ ?_
          exact wt49_b157b   _ _ _ h
        · have h := h.2.2.2.1 c
          refine ri_A.less (m := 49) (pc := 157) (L := [some (.ref 0), some (.int a), some (.int b), none]) (L' := [some (.ref 0), some (.int a), some (.int b), none]) (st := [.ref 15]) ⟨rfl, ⟨rfl, ⟨rfl, trivial⟩⟩⟩ ?_
          exact wt49_b157c   _ _ _ h
        · have h := h.2.2.2.2.1 c
          refine ri_A.less (m := 49) (pc := 157) (L := [some (.ref 0), some (.int a), some (.int b), none]) (L' := [some (.ref 0), some (.int a), some (.int b), none]) (st := [.ref 16]) ⟨rfl, ⟨rfl, ⟨rfl, trivial⟩⟩⟩ ?_
          exact wt49_b157d   _ _ _ h
        · have h := h.2.2.2.2.2.1 c
          refine ri_A.less (m := 49) (pc := 157) (L := [some (.ref 0), some (.int a), some (.int b), none]) (L' := [some (.ref 0), some (.int a), some (.int b), none]) (st := [.ref 17]) ⟨rfl, ⟨rfl, ⟨rfl, trivial⟩⟩⟩ ?_
          exact wt49_b157e   _ _ _ h
        · have h := h.2.2.2.2.2.2 c
          refine ri_A.less (m := 49) (pc := 157) (L := [some (.ref 0), some (.int a), some (.int b), none]) (L' := [some (.ref 0), some (.int a), some (.int b), none]) (st := [.null]) ⟨rfl, ⟨rfl, ⟨rfl, trivial⟩⟩⟩ ?_
          exact wt49_b157f   _ _ _ h
      · have h := h.2 c
        refine A_nx 4 (fr' := (49, 157, [some (.ref 0), some (.int a), some (.int b), none], [.ref 13])) (S' := S) rfl ?_
        refine ri_A.less (m := 49) (pc := 157) (L := [some (.ref 0), some (.int a), some (.int b), none]) (L' := [some (.ref 0), some (.int a), some (.int b), none]) (st := [.ref 13]) ⟨rfl, ⟨rfl, ⟨rfl, trivial⟩⟩⟩ ?_
        exact wt49_b157g   _ _ _ h
    | 5, hi, c =>
      have c : b = (7 : Int32) := c
      have h := h.2.2.2.2.2.1 c
      rw [show ri_tgt 1 (135) (2) (10) [51, 135, 135, 135, 135, 135, 59, 85, 111] b = 136 by rw [c]; decide]
      refine A_br (¬ b = (7 : Int32)) (r1 := ((49, 152, [some (.ref 0), some (.int a), some (.int b), none], []), S)) (r2 := ((49, 142, [some (.ref 0), some (.int a), some (.int b), none], []), S)) 3 rfl (fun c => ?_) (fun c => ?_)
      · have h := h.1 c
        refine A_call (j := 77) (As := [.ref 0, .int b]) (fr' := (49, 157, [some (.ref 0), some (.int a), some (.int b), none], [])) (S' := S) 3 rfl (e := 0) (by omega) (sp_rowOf b (fun c => ?_) (fun c => ?_) (fun c => ?_) (fun c => ?_) (fun c => ?_) (fun c => ?_) (fun c => ?_))
        · have h := h.1 c
          refine ri_A.less (m := 49) (pc := 157) (L := [some (.ref 0), some (.int a), some (.int b), none]) (L' := [some (.ref 0), some (.int a), some (.int b), none]) (st := [.ref 11]) ⟨rfl, ⟨rfl, ⟨rfl, trivial⟩⟩⟩ ?_
          exact wt49_b157   _ _ _ h
        · have h := h.2.1 c
          refine ri_A.less (m := 49) (pc := 157) (L := [some (.ref 0), some (.int a), some (.int b), none]) (L' := [some (.ref 0), some (.int a), some (.int b), none]) (st := [.ref 12]) ⟨rfl, ⟨rfl, ⟨rfl, trivial⟩⟩⟩ ?_
          exact wt49_b157a   _ _ _ h
        · have h := h.2.2.1 c
          refine ri_A.less (m := 49) (pc := 157) (L := [some (.ref 0), some (.int a), some (.int b), none]) (L' := [some (.ref 0), some (.int a), some (.int b), none]) (st := [.ref 14]) ⟨rfl, ⟨rfl, ⟨rfl, trivial⟩⟩⟩ ?_
          exact wt49_b157b   _ _ _ h
        · have h := h.2.2.2.1 c
          refine ri_A.less (m := 49) (pc := 157) (L := [some (.ref 0), some (.int a), some (.int b), none]) (L' := [some (.ref 0), some (.int a), some (.int b), none]) (st := [.ref 15]) ⟨rfl, ⟨rfl, ⟨rfl, trivial⟩⟩⟩ ?_
          exact wt49_b157c   _ _ _ h
        · have h := h.2.2.2.2.1 c
          refine ri_A.less (m := 49) (pc := 157) (L := [some (.ref 0), some (.int a), some (.int b), none]) (L' := [some (.ref 0), some (.int a), some (.int b), none]) (st := [.ref 16]) ⟨rfl, ⟨rfl, ⟨rfl, trivial⟩⟩⟩ ?_
          exact wt49_b157d   _ _ _ h
        · have h := h.2.2.2.2.2.1 c
          refine ri_A.less (m := 49) (pc := 157) (L := [some (.ref 0), some (.int a), some (.int b), none]) (L' := [some (.ref 0), some (.int a), some (.int b), none]) (st := [.ref 17]) ⟨rfl, ⟨rfl, ⟨rfl, trivial⟩⟩⟩ ?_
          exact wt49_b157e   _ _ _ h
        · have h := h.2.2.2.2.2.2 c
          refine ri_A.less (m := 49) (pc := 157) (L := [some (.ref 0), some (.int a), some (.int b), none]) (L' := [some (.ref 0), some (.int a), some (.int b), none]) (st := [.null]) ⟨rfl, ⟨rfl, ⟨rfl, trivial⟩⟩⟩ ?_
          exact wt49_b157f   _ _ _ h
      · have h := h.2 c
        refine A_nx 4 (fr' := (49, 157, [some (.ref 0), some (.int a), some (.int b), none], [.ref 13])) (S' := S) rfl ?_
        refine ri_A.less (m := 49) (pc := 157) (L := [some (.ref 0), some (.int a), some (.int b), none]) (L' := [some (.ref 0), some (.int a), some (.int b), none]) (st := [.ref 13]) ⟨rfl, ⟨rfl, ⟨rfl, trivial⟩⟩⟩ ?_
        exact wt49_b157g   _ _ _ h
    | 6, hi, c =>
      have c : b = (8 : Int32) := c
      have h := h.2.2.2.2.2.2.1 c
      rw [show ri_tgt 1 (135) (2) (10) [51, 135, 135, 135, 135, 135, 59, 85, 111] b = 60 by rw [c]; decide]
      refine A_call (j := 34) (As := [.ref 10, .int a]) (fr' := (49, 68, [some (.ref 0), some (.int a), some (.int b), none], [])) (S' := S) 4 rfl (e := 0) (by omega) (sp_has 10 (by decide) _ ?_)
      refine A_br ((wi a (S.1 10 9)) = 0) (r1 := ((49, 82, [some (.ref 0), some (.int a), some (.int b), none], []), S)) (r2 := ((49, 71, [some (.ref 0), some (.int a), some (.int b), none], []), S)) 1 rfl (fun c => ?_) (fun c => ?_)
      · have h := h.1 c
        exact A_ret 2 (m := 49) (v := some (.int (-1000 : Int32))) (S' := S) rfl rfl ⟨_, rfl, h⟩
      · have h := h.2 c
        refine A_call (j := 40) (As := [.ref 10, .int a]) (fr' := (49, 79, [some (.ref 0), some (.int a), some (.int b), none], [])) (S' := S) 4 rfl (e := 2) (by omega) (A_imp (wt40 10 (by decide) a h) (fun v S15 hq => ?_))
        obtain ⟨r16, hv, h⟩ := hq
        subst hv
        exact A_ret 2 (m := 49) (v := some (.int r16)) (S' := S15) rfl rfl ⟨_, rfl, h⟩
    | 7, hi, c =>
      have c : b = (9 : Int32) := c
      have h := h.2.2.2.2.2.2.2.1 c
      rw [show ri_tgt 1 (135) (2) (10) [51, 135, 135, 135, 135, 135, 59, 85, 111] b = 86 by rw [c]; decide]
      refine A_call (j := 34) (As := [.ref 10, .int a]) (fr' := (49, 94, [some (.ref 0), some (.int a), some (.int b), none], [])) (S' := S) 4 rfl (e := 0) (by omega) (sp_has 10 (by decide) _ ?_)
      refine A_br ((wi a (S.1 10 9)) = 0) (r1 := ((49, 108, [some (.ref 0), some (.int a), some (.int b), none], []), S)) (r2 := ((49, 97, [some (.ref 0), some (.int a), some (.int b), none], []), S)) 1 rfl (fun c => ?_) (fun c => ?_)
      · have h := h.1 c
        exact A_ret 2 (m := 49) (v := some (.int (-1000 : Int32))) (S' := S) rfl rfl ⟨_, rfl, h⟩
      · have h := h.2 c
        refine A_call (j := 41) (As := [.ref 10, .int a]) (fr' := (49, 105, [some (.ref 0), some (.int a), some (.int b), none], [])) (S' := S) 4 rfl (e := 2) (by omega) (A_imp (wt41 10 (by decide) a h) (fun v S17 hq => ?_))
        obtain ⟨r18, hv, h⟩ := hq
        subst hv
        exact A_ret 2 (m := 49) (v := some (.int r18)) (S' := S17) rfl rfl ⟨_, rfl, h⟩
    | 8, hi, c =>
      have c : b = (10 : Int32) := c
      have h := h.2.2.2.2.2.2.2.2 c
      rw [show ri_tgt 1 (135) (2) (10) [51, 135, 135, 135, 135, 135, 59, 85, 111] b = 112 by rw [c]; decide]
      refine A_call (j := 95) (As := [.int a, .int (12 : Int32)]) (fr' := (49, 118, [some (.ref 0), some (.int a), some (.int b), none], [])) (S' := S) 3 rfl (e := 0) (by omega) (sp_within _ _ ?_)
      refine A_br ((wi a (12 : Int32)) = 0) (r1 := ((49, 132, [some (.ref 0), some (.int a), some (.int b), none], []), S)) (r2 := ((49, 121, [some (.ref 0), some (.int a), some (.int b), none], []), S)) 1 rfl (fun c => ?_) (fun c => ?_)
      · have h := h.1 c
        exact A_ret 2 (m := 49) (v := some (.int (-1000 : Int32))) (S' := S) rfl rfl ⟨_, rfl, h⟩
      · have h := h.2 c
        refine A_call (j := 36) (As := [.ref 10, .int a]) (fr' := (49, 129, [some (.ref 0), some (.int a), some (.int b), none], [])) (S' := S) 4 rfl (e := 2) (by omega) (A_imp (wt36 10 (by decide) a h) (fun v S19 hq => ?_))
        obtain ⟨r20, hv, h⟩ := hq
        subst hv
        exact A_ret 2 (m := 49) (v := some (.int r20)) (S' := S19) rfl rfl ⟨_, rfl, h⟩
    | i + 9, hi, c => exact absurd hi (by omega)
/-! X4_year, depth 4 -/
def w54  (S : ri_H) (Q : Int32 → ri_H → Prop) : Prop := (((S.1 10 10) < (999 : Int32) → w39 10 (-1 : Int32) S (fun (S1 : ri_H) => w37 10  S1 (fun (r3 : Int32) (S2 : ri_H) => Q r3 S2))) ∧ (¬ (S.1 10 10) < (999 : Int32) → Q (-3 : Int32) S))
set_option maxRecDepth 10000 in
set_option maxHeartbeats 1000000 in
theorem wt54 {E : ri_E}  {S : ri_H} {Q : Int32 → ri_H → Prop} (h : w54   S Q) : ri_A E 4 (ri_en 54 [.ref 0]) S (Qi Q) := by
  unfold w54 at h
  show ri_A E 4 (54, 0, [some (.ref 0)], []) S (Qi Q)
  refine A_br ((S.1 10 10) < (999 : Int32)) (r1 := ((54, 16, [some (.ref 0)], []), S)) (r2 := ((54, 13, [some (.ref 0)], []), S)) 5 rfl (fun c => ?_) (fun c => ?_)
  · have h := h.1 c
    refine A_call (j := 39) (As := [.ref 10, .int (-1 : Int32)]) (fr' := (54, 24, [some (.ref 0)], [])) (S' := S) 4 rfl (e := 3) (by omega) (A_imp (wt39 10 (by decide) (-1 : Int32) h) (fun v S1 hq => ?_))
    obtain ⟨hv, h⟩ := hq
    subst hv
    refine A_call (j := 37) (As := [.ref 10]) (fr' := (54, 31, [some (.ref 0)], [])) (S' := S1) 3 rfl (e := 0) (by omega) (A_imp (wt37 10 (by decide)  h) (fun v S2 hq => ?_))
    obtain ⟨r3, hv, h⟩ := hq
    subst hv
    exact A_ret 1 (m := 54) (v := some (.int r3)) (S' := S2) rfl rfl ⟨_, rfl, h⟩
  · have h := h.2 c
    exact A_ret 2 (m := 54) (v := some (.int (-3 : Int32))) (S' := S) rfl rfl ⟨_, rfl, h⟩
/-! X4_spoon, depth 4 -/
def w55 (a : Int32) (b : Int32) (S : ri_H) (Q : Int32 → ri_H → Prop) : Prop := (((wi a (S.1 10 9)) = 0 → Q (-1000 : Int32) S) ∧ (¬ (wi a (S.1 10 9)) = 0 → ((¬ (wi b (24 : Int32)) = 0 → (((1 : Int32) ≤ (it (S.1 12) 24 b) → w43 10 a b S (fun (r2 : Int32) (S1 : ri_H) => Q r2 S1)) ∧ (¬ (1 : Int32) ≤ (it (S.1 12) 24 b) → Q (-1003 : Int32) S))) ∧ (¬ (¬ (wi b (24 : Int32)) = 0) → Q (-1000 : Int32) S))))
set_option maxRecDepth 10000 in
set_option maxHeartbeats 1000000 in
theorem wt55 {E : ri_E} (a : Int32) (b : Int32) {S : ri_H} {Q : Int32 → ri_H → Prop} (h : w55  a b S Q) : ri_A E 4 (ri_en 55 [.ref 0, .int a, .int b]) S (Qi Q) := by
  unfold w55 at h
  show ri_A E 4 (55, 0, [some (.ref 0), some (.int a), some (.int b)], []) S (Qi Q)
  refine A_call (j := 34) (As := [.ref 10, .int a]) (fr' := (55, 8, [some (.ref 0), some (.int a), some (.int b)], [])) (S' := S) 4 rfl (e := 0) (by omega) (sp_has 10 (by decide) _ ?_)
  refine A_br ((wi a (S.1 10 9)) = 0) (r1 := ((55, 20, [some (.ref 0), some (.int a), some (.int b)], []), S)) (r2 := ((55, 11, [some (.ref 0), some (.int a), some (.int b)], []), S)) 1 rfl (fun c => ?_) (fun c => ?_)
  · have h := h.1 c
    exact A_ret 2 (m := 55) (v := some (.int (-1000 : Int32))) (S' := S) rfl rfl ⟨_, rfl, h⟩
  · have h := h.2 c
    refine A_call (j := 95) (As := [.int b, .int (24 : Int32)]) (fr' := (55, 17, [some (.ref 0), some (.int a), some (.int b)], [])) (S' := S) 3 rfl (e := 0) (by omega) (sp_within _ _ ?_)
    refine A_br (¬ (wi b (24 : Int32)) = 0) (r1 := ((55, 24, [some (.ref 0), some (.int a), some (.int b)], []), S)) (r2 := ((55, 20, [some (.ref 0), some (.int a), some (.int b)], []), S)) 1 rfl (fun c => ?_) (fun c => ?_)
    · have h := h.1 c
      refine A_call (j := 98) (As := [.ref 12, .int b]) (fr' := (55, 35, [some (.ref 0), some (.int a), some (.int b)], [])) (S' := S) 5 rfl (e := 0) (by omega) (sp_item 12 24 _ ⟨by decide, by decide, rfl⟩ (by decide) ?_)
      refine A_br ((1 : Int32) ≤ (it (S.1 12) 24 b)) (r1 := ((55, 43, [some (.ref 0), some (.int a), some (.int b)], []), S)) (r2 := ((55, 39, [some (.ref 0), some (.int a), some (.int b)], []), S)) 2 rfl (fun c => ?_) (fun c => ?_)
      · have h := h.1 c
        refine A_call (j := 43) (As := [.ref 10, .int a, .int b]) (fr' := (55, 52, [some (.ref 0), some (.int a), some (.int b)], [])) (S' := S) 5 rfl (e := 3) (by omega) (A_imp (wt43 10 (by decide) a b h) (fun v S1 hq => ?_))
        obtain ⟨r2, hv, h⟩ := hq
        subst hv
        exact A_ret 1 (m := 55) (v := some (.int r2)) (S' := S1) rfl rfl ⟨_, rfl, h⟩
      · have h := h.2 c
        exact A_ret 2 (m := 55) (v := some (.int (-1003 : Int32))) (S' := S) rfl rfl ⟨_, rfl, h⟩
    · have h := h.2 c
      exact A_ret 2 (m := 55) (v := some (.int (-1000 : Int32))) (S' := S) rfl rfl ⟨_, rfl, h⟩
/-! X4_run, depth 4 -/
def w56_l86 (Q : Int32 → ri_H → Prop) : Nat → Int32 → Int32 → Int32 → Int32 → Int32 → ri_H → Prop
  | 0, _, _, _, _, _, _ => False
  | n + 1, x1, x2, x3, x5, x6, S => ((x2 ≤ x6 → (((x3 < (0 : Int32) ∨ (2 : Int32) < x3) → Q (it (S.1 21) 24 (x3 - (10 : Int32))) S) ∧ (x3 = (0 : Int32) → Q (it (S.1 24) 5 x1) S) ∧ (x3 = (1 : Int32) → Q x5 S) ∧ (x3 = (2 : Int32) → w37 19  S (fun (r3 : Int32) (S2 : ri_H) => Q r3 S2)))) ∧ (¬ (x2 ≤ x6) → w39 19 (-1 : Int32) S (fun (S4 : ri_H) => w56_l86   Q n x1 x2 x3 (x5 ||| (bt (it (S4.1 24) 5 x1))) (x6 + (1 : Int32)) S4)))
set_option maxRecDepth 10000 in
set_option maxHeartbeats 1000000 in
theorem wt56_l86 {E : ri_E} {Q : Int32 → ri_H → Prop} : ∀ (n : Nat) (x1 : Int32) (x2 : Int32) (x3 : Int32) (x5 : Int32) (x6 : Int32) (S : ri_H), w56_l86   Q n x1 x2 x3 x5 x6 S → ri_A E 4 (56, 86, [some (.ref 0), some (.int x1), some (.int x2), some (.int x3), none, some (.int x5), some (.int x6)], []) S (Qi Q) := by
  intro n
  induction n with
  | zero => intro x1 x2 x3 x5 x6 S h; exact h.elim
  | succ n ih =>
    intro x1 x2 x3 x5 x6 S h
    unfold w56_l86 at h
    refine A_br (x2 ≤ x6) (r1 := ((56, 125, [some (.ref 0), some (.int x1), some (.int x2), some (.int x3), none, some (.int x5), some (.int x6)], []), S)) (r2 := ((56, 92, [some (.ref 0), some (.int x1), some (.int x2), some (.int x3), none, some (.int x5), some (.int x6)], []), S)) 3 rfl (fun c => ?_) (fun c => ?_)
    · have h := h.1 c
      refine A_nx 2 (fr' := (56, ri_tgt 126 (49) (0) (2) [26, 38, 41] x3, [some (.ref 0), some (.int x1), some (.int x2), some (.int x3), none, some (.int x5), some (.int x6)], [])) (S' := S) rfl ?_
      rcases ri_swc x3 (0) 3 (by decide) (by decide) with c | ⟨i, hi, c⟩
      · have c : x3 < Int32.ofInt (0) ∨ Int32.ofInt (2) < x3 := c
        have h := h.1 c
        rw [ri_tgt_out x3 c (by decide) (by decide)]
        refine A_call (j := 98) (As := [.ref 21, .int (x3 - (10 : Int32))]) (fr' := (56, 189, [some (.ref 0), some (.int x1), some (.int x2), some (.int x3), none, some (.int x5), some (.int x6)], [])) (S' := S) 7 rfl (e := 0) (by omega) (sp_item 21 24 _ ⟨by decide, by decide, rfl⟩ (by decide) ?_)
        exact A_ret 1 (m := 56) (v := some (.int (it (S.1 21) 24 (x3 - (10 : Int32))))) (S' := S) rfl rfl ⟨_, rfl, h⟩
      · have h := h.2
        match i, hi, c with
        | 0, hi, c =>
          have c : x3 = (0 : Int32) := c
          have h := h.1 c
          rw [show ri_tgt 126 (49) (0) (2) [26, 38, 41] x3 = 152 by rw [c]; decide]
          refine A_call (j := 98) (As := [.ref 24, .int x1]) (fr' := (56, 163, [some (.ref 0), some (.int x1), some (.int x2), some (.int x3), none, some (.int x5), some (.int x6)], [])) (S' := S) 5 rfl (e := 0) (by omega) (sp_item 24 5 _ ⟨by decide, by decide, rfl⟩ (by decide) ?_)
          exact A_ret 1 (m := 56) (v := some (.int (it (S.1 24) 5 x1))) (S' := S) rfl rfl ⟨_, rfl, h⟩
        | 1, hi, c =>
          have c : x3 = (1 : Int32) := c
          have h := h.2.1 c
          rw [show ri_tgt 126 (49) (0) (2) [26, 38, 41] x3 = 164 by rw [c]; decide]
          exact A_ret 2 (m := 56) (v := some (.int x5)) (S' := S) rfl rfl ⟨_, rfl, h⟩
        | 2, hi, c =>
          have c : x3 = (2 : Int32) := c
          have h := h.2.2 c
          rw [show ri_tgt 126 (49) (0) (2) [26, 38, 41] x3 = 167 by rw [c]; decide]
          refine A_call (j := 37) (As := [.ref 19]) (fr' := (56, 174, [some (.ref 0), some (.int x1), some (.int x2), some (.int x3), none, some (.int x5), some (.int x6)], [])) (S' := S) 3 rfl (e := 0) (by omega) (A_imp (wt37 19 (by decide)  h) (fun v S2 hq => ?_))
          obtain ⟨r3, hv, h⟩ := hq
          subst hv
          exact A_ret 1 (m := 56) (v := some (.int r3)) (S' := S2) rfl rfl ⟨_, rfl, h⟩
        | i + 3, hi, c => exact absurd hi (by omega)
    · have h := h.2 c
      refine A_call (j := 39) (As := [.ref 19, .int (-1 : Int32)]) (fr' := (56, 100, [some (.ref 0), some (.int x1), some (.int x2), some (.int x3), none, some (.int x5), some (.int x6)], [])) (S' := S) 4 rfl (e := 3) (by omega) (A_imp (wt39 19 (by decide) (-1 : Int32) h) (fun v S4 hq => ?_))
      obtain ⟨hv, h⟩ := hq
      subst hv
      refine A_call (j := 98) (As := [.ref 24, .int x1]) (fr' := (56, 113, [some (.ref 0), some (.int x1), some (.int x2), some (.int x3), none, some (.int x5), some (.int x6)], [.int x5])) (S' := S4) 6 rfl (e := 0) (by omega) (sp_item 24 5 _ ⟨by decide, by decide, rfl⟩ (by decide) ?_)
      refine A_call (j := 97) (As := [.int (it (S4.1 24) 5 x1)]) (fr' := (56, 116, [some (.ref 0), some (.int x1), some (.int x2), some (.int x3), none, some (.int x5), some (.int x6)], [.int x5])) (S' := S4) 1 rfl (e := 1) (by omega) (sp_bit _ ?_)
      refine A_nx 4 (fr' := (56, 86, [some (.ref 0), some (.int x1), some (.int x2), some (.int x3), none, some (.int (x5 ||| (bt (it (S4.1 24) 5 x1)))), some (.int (x6 + (1 : Int32)))], [])) (S' := S4) rfl ?_
      refine ri_A.less (m := 56) (pc := 86) (L := [some (.ref 0), some (.int x1), some (.int x2), some (.int x3), none, some (.int (x5 ||| (bt (it (S4.1 24) 5 x1)))), some (.int (x6 + (1 : Int32)))]) (L' := [some (.ref 0), some (.int x1), some (.int x2), some (.int x3), none, some (.int (x5 ||| (bt (it (S4.1 24) 5 x1)))), some (.int (x6 + (1 : Int32)))]) (st := []) ⟨rfl, ⟨rfl, ⟨rfl, ⟨rfl, ⟨rfl, ⟨rfl, trivial⟩⟩⟩⟩⟩⟩ ?_
      exact ih _ _ _ _ _ _ h
def w56_b56 (Q : Int32 → ri_H → Prop) (x1 : Int32) (x2 : Int32) (x3 : Int32) (S : ri_H) : Prop := w33 19 10 S (fun (S1 : ri_H) => ∃ nn, w56_l86   Q nn x1 x2 x3 (bt (it (S1.1 24) 5 x1)) (0 : Int32) S1)
set_option maxRecDepth 10000 in
set_option maxHeartbeats 1000000 in
theorem wt56_b56 {E : ri_E} {Q : Int32 → ri_H → Prop} (x1 : Int32) (x2 : Int32) (x3 : Int32) (S : ri_H) (h : w56_b56   Q x1 x2 x3 S) : ri_A E 4 (56, 56, [some (.ref 0), some (.int x1), some (.int x2), some (.int x3), none, none, none], []) S (Qi Q) := by
  unfold w56_b56 at h
  refine A_call (j := 33) (As := [.ref 19, .ref 10]) (fr' := (56, 67, [some (.ref 0), some (.int x1), some (.int x2), some (.int x3), none, none, none], [])) (S' := S) 5 rfl (e := 1) (by omega) (A_imp (wt33 19 10 (by decide) h) (fun v S1 hq => ?_))
  obtain ⟨hv, h⟩ := hq
  subst hv
  refine A_call (j := 98) (As := [.ref 24, .int x1]) (fr' := (56, 78, [some (.ref 0), some (.int x1), some (.int x2), some (.int x3), none, none, none], [])) (S' := S1) 5 rfl (e := 0) (by omega) (sp_item 24 5 _ ⟨by decide, by decide, rfl⟩ (by decide) ?_)
  refine A_call (j := 97) (As := [.int (it (S1.1 24) 5 x1)]) (fr' := (56, 81, [some (.ref 0), some (.int x1), some (.int x2), some (.int x3), none, none, none], [])) (S' := S1) 1 rfl (e := 1) (by omega) (sp_bit _ ?_)
  refine A_nx 3 (fr' := (56, 86, [some (.ref 0), some (.int x1), some (.int x2), some (.int x3), none, some (.int (bt (it (S1.1 24) 5 x1))), some (.int (0 : Int32))], [])) (S' := S1) rfl ?_
  refine ri_A.less (m := 56) (pc := 86) (L := [some (.ref 0), some (.int x1), some (.int x2), some (.int x3), none, some (.int (bt (it (S1.1 24) 5 x1))), some (.int (0 : Int32))]) (L' := [some (.ref 0), some (.int x1), some (.int x2), some (.int x3), none, some (.int (bt (it (S1.1 24) 5 x1))), some (.int (0 : Int32))]) (st := []) ⟨rfl, ⟨rfl, ⟨rfl, ⟨rfl, ⟨rfl, ⟨rfl, trivial⟩⟩⟩⟩⟩⟩ ?_
  obtain ⟨nn, h⟩ := h
  exact wt56_l86   nn _ _ _ _ _ _ h
def w56_b17 (Q : Int32 → ri_H → Prop) (x1 : Int32) (x2 : Int32) (x3 : Int32) (s0 : Int32) (S : ri_H) : Prop := (((wi x1 (S.1 10 9)) = 0 → Q (-2 : Int32) S) ∧ (¬ (wi x1 (S.1 10 9)) = 0 → ((x2 < 0 → Q (-2 : Int32) S) ∧ (¬ (x2 < 0) → (((60 : Int32) < x2 → Q (-2 : Int32) S) ∧ (¬ (60 : Int32) < x2 → ((¬ s0 = 0 → w56_b56   Q x1 x2 x3 S) ∧ (¬ (¬ s0 = 0) → ((¬ (wi x3 (3 : Int32)) = 0 → w56_b56   Q x1 x2 x3 S) ∧ (¬ (¬ (wi x3 (3 : Int32)) = 0) → Q (-2 : Int32) S))))))))))
set_option maxRecDepth 10000 in
set_option maxHeartbeats 1000000 in
theorem wt56_b17 {E : ri_E} {Q : Int32 → ri_H → Prop} (x1 : Int32) (x2 : Int32) (x3 : Int32) (s0 : Int32) (S : ri_H) (h : w56_b17   Q x1 x2 x3 s0 S) : ri_A E 4 (56, 17, [some (.ref 0), some (.int x1), some (.int x2), some (.int x3), none, none, none], [.int s0]) S (Qi Q) := by
  unfold w56_b17 at h
  refine A_call (j := 34) (As := [.ref 10, .int x1]) (fr' := (56, 27, [some (.ref 0), some (.int x1), some (.int x2), some (.int x3), some (.int s0), none, none], [])) (S' := S) 5 rfl (e := 0) (by omega) (sp_has 10 (by decide) _ ?_)
  refine A_br ((wi x1 (S.1 10 9)) = 0) (r1 := ((56, 53, [some (.ref 0), some (.int x1), some (.int x2), some (.int x3), some (.int s0), none, none], []), S)) (r2 := ((56, 30, [some (.ref 0), some (.int x1), some (.int x2), some (.int x3), some (.int s0), none, none], []), S)) 1 rfl (fun c => ?_) (fun c => ?_)
  · have h := h.1 c
    exact A_ret 2 (m := 56) (v := some (.int (-2 : Int32))) (S' := S) rfl rfl ⟨_, rfl, h⟩
  · have h := h.2 c
    refine A_br (x2 < 0) (r1 := ((56, 53, [some (.ref 0), some (.int x1), some (.int x2), some (.int x3), some (.int s0), none, none], []), S)) (r2 := ((56, 34, [some (.ref 0), some (.int x1), some (.int x2), some (.int x3), some (.int s0), none, none], []), S)) 2 rfl (fun c => ?_) (fun c => ?_)
    · have h := h.1 c
      exact A_ret 2 (m := 56) (v := some (.int (-2 : Int32))) (S' := S) rfl rfl ⟨_, rfl, h⟩
    · have h := h.2 c
      refine A_br ((60 : Int32) < x2) (r1 := ((56, 53, [some (.ref 0), some (.int x1), some (.int x2), some (.int x3), some (.int s0), none, none], []), S)) (r2 := ((56, 40, [some (.ref 0), some (.int x1), some (.int x2), some (.int x3), some (.int s0), none, none], []), S)) 3 rfl (fun c => ?_) (fun c => ?_)
      · have h := h.1 c
        exact A_ret 2 (m := 56) (v := some (.int (-2 : Int32))) (S' := S) rfl rfl ⟨_, rfl, h⟩
      · have h := h.2 c
        refine A_br (¬ s0 = 0) (r1 := ((56, 56, [some (.ref 0), some (.int x1), some (.int x2), some (.int x3), some (.int s0), none, none], []), S)) (r2 := ((56, 45, [some (.ref 0), some (.int x1), some (.int x2), some (.int x3), some (.int s0), none, none], []), S)) 2 rfl (fun c => ?_) (fun c => ?_)
        · have h := h.1 c
          refine ri_A.less (m := 56) (pc := 56) (L := [some (.ref 0), some (.int x1), some (.int x2), some (.int x3), some (.int s0), none, none]) (L' := [some (.ref 0), some (.int x1), some (.int x2), some (.int x3), none, none, none]) (st := []) ⟨rfl, ⟨rfl, ⟨rfl, ⟨rfl, trivial⟩⟩⟩⟩ ?_
          exact wt56_b56   _ _ _ _ h
        · have h := h.2 c
          refine A_call (j := 95) (As := [.int x3, .int (3 : Int32)]) (fr' := (56, 50, [some (.ref 0), some (.int x1), some (.int x2), some (.int x3), some (.int s0), none, none], [])) (S' := S) 3 rfl (e := 0) (by omega) (sp_within _ _ ?_)
          refine A_br (¬ (wi x3 (3 : Int32)) = 0) (r1 := ((56, 56, [some (.ref 0), some (.int x1), some (.int x2), some (.int x3), some (.int s0), none, none], []), S)) (r2 := ((56, 53, [some (.ref 0), some (.int x1), some (.int x2), some (.int x3), some (.int s0), none, none], []), S)) 1 rfl (fun c => ?_) (fun c => ?_)
          · have h := h.1 c
            refine ri_A.less (m := 56) (pc := 56) (L := [some (.ref 0), some (.int x1), some (.int x2), some (.int x3), some (.int s0), none, none]) (L' := [some (.ref 0), some (.int x1), some (.int x2), some (.int x3), none, none, none]) (st := []) ⟨rfl, ⟨rfl, ⟨rfl, ⟨rfl, trivial⟩⟩⟩⟩ ?_
            exact wt56_b56   _ _ _ _ h
          · have h := h.2 c
            exact A_ret 2 (m := 56) (v := some (.int (-2 : Int32))) (S' := S) rfl rfl ⟨_, rfl, h⟩
def w56_b16 (Q : Int32 → ri_H → Prop) (x1 : Int32) (x2 : Int32) (x3 : Int32) (S : ri_H) : Prop := w56_b17   Q x1 x2 x3 (0 : Int32) S
set_option maxRecDepth 10000 in
set_option maxHeartbeats 1000000 in
theorem wt56_b16 {E : ri_E} {Q : Int32 → ri_H → Prop} (x1 : Int32) (x2 : Int32) (x3 : Int32) (S : ri_H) (h : w56_b16   Q x1 x2 x3 S) : ri_A E 4 (56, 16, [some (.ref 0), some (.int x1), some (.int x2), some (.int x3), none, none, none], []) S (Qi Q) := by
  unfold w56_b16 at h
  refine A_nx 1 (fr' := (56, 17, [some (.ref 0), some (.int x1), some (.int x2), some (.int x3), none, none, none], [.int (0 : Int32)])) (S' := S) rfl ?_
  refine ri_A.less (m := 56) (pc := 17) (L := [some (.ref 0), some (.int x1), some (.int x2), some (.int x3), none, none, none]) (L' := [some (.ref 0), some (.int x1), some (.int x2), some (.int x3), none, none, none]) (st := [.int (0 : Int32)]) ⟨rfl, ⟨rfl, ⟨rfl, ⟨rfl, trivial⟩⟩⟩⟩ ?_
  exact wt56_b17   _ _ _ _ _ h
def w56 (a : Int32) (b : Int32) (g : Int32) (S : ri_H) (Q : Int32 → ri_H → Prop) : Prop := ((g < (10 : Int32) → w56_b16   Q a b g S) ∧ (¬ (g < (10 : Int32)) → (((34 : Int32) ≤ g → w56_b16   Q a b g S) ∧ (¬ (34 : Int32) ≤ g → w56_b17   Q a b g (1 : Int32) S))))
set_option maxRecDepth 10000 in
set_option maxHeartbeats 1000000 in
theorem wt56 {E : ri_E} (a : Int32) (b : Int32) (g : Int32) {S : ri_H} {Q : Int32 → ri_H → Prop} (h : w56  a b g S Q) : ri_A E 4 (ri_en 56 [.ref 0, .int a, .int b, .int g]) S (Qi Q) := by
  unfold w56 at h
  show ri_A E 4 (56, 0, [some (.ref 0), some (.int a), some (.int b), some (.int g), none, none, none], []) S (Qi Q)
  refine A_br (g < (10 : Int32)) (r1 := ((56, 16, [some (.ref 0), some (.int a), some (.int b), some (.int g), none, none, none], []), S)) (r2 := ((56, 6, [some (.ref 0), some (.int a), some (.int b), some (.int g), none, none, none], []), S)) 3 rfl (fun c => ?_) (fun c => ?_)
  · have h := h.1 c
    refine ri_A.less (m := 56) (pc := 16) (L := [some (.ref 0), some (.int a), some (.int b), some (.int g), none, none, none]) (L' := [some (.ref 0), some (.int a), some (.int b), some (.int g), none, none, none]) (st := []) ⟨rfl, ⟨rfl, ⟨rfl, ⟨rfl, trivial⟩⟩⟩⟩ ?_
    exact wt56_b16   _ _ _ _ h
  · have h := h.2 c
    refine A_br ((34 : Int32) ≤ g) (r1 := ((56, 16, [some (.ref 0), some (.int a), some (.int b), some (.int g), none, none, none], []), S)) (r2 := ((56, 12, [some (.ref 0), some (.int a), some (.int b), some (.int g), none, none, none], []), S)) 3 rfl (fun c => ?_) (fun c => ?_)
    · have h := h.1 c
      refine ri_A.less (m := 56) (pc := 16) (L := [some (.ref 0), some (.int a), some (.int b), some (.int g), none, none, none]) (L' := [some (.ref 0), some (.int a), some (.int b), some (.int g), none, none, none]) (st := []) ⟨rfl, ⟨rfl, ⟨rfl, ⟨rfl, trivial⟩⟩⟩⟩ ?_
      exact wt56_b16   _ _ _ _ h
    · have h := h.2 c
      refine A_nx 2 (fr' := (56, 17, [some (.ref 0), some (.int a), some (.int b), some (.int g), none, none, none], [.int (1 : Int32)])) (S' := S) rfl ?_
      refine ri_A.less (m := 56) (pc := 17) (L := [some (.ref 0), some (.int a), some (.int b), some (.int g), none, none, none]) (L' := [some (.ref 0), some (.int a), some (.int b), some (.int g), none, none, none]) (st := [.int (1 : Int32)]) ⟨rfl, ⟨rfl, ⟨rfl, ⟨rfl, trivial⟩⟩⟩⟩ ?_
      exact wt56_b17   _ _ _ _ _ h
/-! X4_otherwise, depth 4 -/
def w57_b68 (K47 : Int32 → Int32 → Int32 → Int32 → ri_H → Prop) (Q : Int32 → ri_H → Prop) (x1 : Int32) (x2 : Int32) (x3 : Int32) (x4 : Int32) (s0 : Int32) (S : ri_H) : Prop := w39 19 s0 S (fun (S2 : ri_H) => K47 x1 x2 x3 (x4 + (1 : Int32)) S2)
set_option maxRecDepth 10000 in
set_option maxHeartbeats 1000000 in
theorem wt57_b68 {E : ri_E} {K47 : Int32 → Int32 → Int32 → Int32 → ri_H → Prop} {Q : Int32 → ri_H → Prop} (hK47 : ∀ (x1 : Int32) (x2 : Int32) (x3 : Int32) (x4 : Int32) (S : ri_H), K47 x1 x2 x3 x4 S → ri_A E 4 (57, 47, [some (.ref 0), some (.int x1), some (.int x2), some (.int x3), some (.int x4)], []) S (Qi Q)) (x1 : Int32) (x2 : Int32) (x3 : Int32) (x4 : Int32) (s0 : Int32) (S : ri_H) (h : w57_b68  K47 Q x1 x2 x3 x4 s0 S) : ri_A E 4 (57, 68, [some (.ref 0), some (.int x1), some (.int x2), some (.int x3), some (.int x4)], [.int s0, .ref 19]) S (Qi Q) := by
  unfold w57_b68 at h
  refine A_call (j := 39) (As := [.ref 19, .int s0]) (fr' := (57, 71, [some (.ref 0), some (.int x1), some (.int x2), some (.int x3), some (.int x4)], [])) (S' := S) 1 rfl (e := 3) (by omega) (A_imp (wt39 19 (by decide) s0 h) (fun v S2 hq => ?_))
  obtain ⟨hv, h⟩ := hq
  subst hv
  refine A_nx 2 (fr' := (57, 47, [some (.ref 0), some (.int x1), some (.int x2), some (.int x3), some (.int (x4 + (1 : Int32)))], [])) (S' := S2) rfl ?_
  refine ri_A.less (m := 57) (pc := 47) (L := [some (.ref 0), some (.int x1), some (.int x2), some (.int x3), some (.int (x4 + (1 : Int32)))]) (L' := [some (.ref 0), some (.int x1), some (.int x2), some (.int x3), some (.int (x4 + (1 : Int32)))]) (st := []) ⟨rfl, ⟨rfl, ⟨rfl, ⟨rfl, ⟨rfl, trivial⟩⟩⟩⟩⟩ ?_
  exact hK47 _ _ _ _ _ h
def w57_l47 (Q : Int32 → ri_H → Prop) : Nat → Int32 → Int32 → Int32 → Int32 → ri_H → Prop
  | 0, _, _, _, _, _ => False
  | n + 1, x1, x2, x3, x4, S => ((x2 ≤ x4 → Q (it (S.1 24) 5 x1) S) ∧ (¬ (x2 ≤ x4) → ((¬ x4 = x3 → w57_b68  (fun x1 x2 x3 x4 S => w57_l47   Q n x1 x2 x3 x4 S) Q x1 x2 x3 x4 (-1 : Int32) S) ∧ (¬ (¬ x4 = x3) → w57_b68  (fun x1 x2 x3 x4 S => w57_l47   Q n x1 x2 x3 x4 S) Q x1 x2 x3 x4 x1 S))))
set_option maxRecDepth 10000 in
set_option maxHeartbeats 1000000 in
theorem wt57_l47 {E : ri_E} {Q : Int32 → ri_H → Prop} : ∀ (n : Nat) (x1 : Int32) (x2 : Int32) (x3 : Int32) (x4 : Int32) (S : ri_H), w57_l47   Q n x1 x2 x3 x4 S → ri_A E 4 (57, 47, [some (.ref 0), some (.int x1), some (.int x2), some (.int x3), some (.int x4)], []) S (Qi Q) := by
  intro n
  induction n with
  | zero => intro x1 x2 x3 x4 S h; exact h.elim
  | succ n ih =>
    intro x1 x2 x3 x4 S h
    unfold w57_l47 at h
    refine A_br (x2 ≤ x4) (r1 := ((57, 77, [some (.ref 0), some (.int x1), some (.int x2), some (.int x3), some (.int x4)], []), S)) (r2 := ((57, 53, [some (.ref 0), some (.int x1), some (.int x2), some (.int x3), some (.int x4)], []), S)) 3 rfl (fun c => ?_) (fun c => ?_)
    · have h := h.1 c
      refine A_call (j := 98) (As := [.ref 24, .int x1]) (fr' := (57, 88, [some (.ref 0), some (.int x1), some (.int x2), some (.int x3), some (.int x4)], [])) (S' := S) 5 rfl (e := 0) (by omega) (sp_item 24 5 _ ⟨by decide, by decide, rfl⟩ (by decide) ?_)
      exact A_ret 1 (m := 57) (v := some (.int (it (S.1 24) 5 x1))) (S' := S) rfl rfl ⟨_, rfl, h⟩
    · have h := h.2 c
      refine A_br (¬ x4 = x3) (r1 := ((57, 67, [some (.ref 0), some (.int x1), some (.int x2), some (.int x3), some (.int x4)], [.ref 19]), S)) (r2 := ((57, 63, [some (.ref 0), some (.int x1), some (.int x2), some (.int x3), some (.int x4)], [.ref 19]), S)) 5 rfl (fun c => ?_) (fun c => ?_)
      · have h := h.1 c
        refine A_nx 1 (fr' := (57, 68, [some (.ref 0), some (.int x1), some (.int x2), some (.int x3), some (.int x4)], [.int (-1 : Int32), .ref 19])) (S' := S) rfl ?_
        refine ri_A.less (m := 57) (pc := 68) (L := [some (.ref 0), some (.int x1), some (.int x2), some (.int x3), some (.int x4)]) (L' := [some (.ref 0), some (.int x1), some (.int x2), some (.int x3), some (.int x4)]) (st := [.int (-1 : Int32), .ref 19]) ⟨rfl, ⟨rfl, ⟨rfl, ⟨rfl, ⟨rfl, trivial⟩⟩⟩⟩⟩ ?_
        exact wt57_b68  (fun x1 x2 x3 x4 S hk => ih x1 x2 x3 x4 S hk) _ _ _ _ _ _ h
      · have h := h.2 c
        refine A_nx 2 (fr' := (57, 68, [some (.ref 0), some (.int x1), some (.int x2), some (.int x3), some (.int x4)], [.int x1, .ref 19])) (S' := S) rfl ?_
        refine ri_A.less (m := 57) (pc := 68) (L := [some (.ref 0), some (.int x1), some (.int x2), some (.int x3), some (.int x4)]) (L' := [some (.ref 0), some (.int x1), some (.int x2), some (.int x3), some (.int x4)]) (st := [.int x1, .ref 19]) ⟨rfl, ⟨rfl, ⟨rfl, ⟨rfl, ⟨rfl, trivial⟩⟩⟩⟩⟩ ?_
        exact wt57_b68  (fun x1 x2 x3 x4 S hk => ih x1 x2 x3 x4 S hk) _ _ _ _ _ _ h
def w57 (a : Int32) (b : Int32) (g : Int32) (S : ri_H) (Q : Int32 → ri_H → Prop) : Prop := (((wi a (S.1 10 9)) = 0 → Q (-2 : Int32) S) ∧ (¬ (wi a (S.1 10 9)) = 0 → ((b < (1 : Int32) → Q (-2 : Int32) S) ∧ (¬ (b < (1 : Int32)) → (((40 : Int32) < b → Q (-2 : Int32) S) ∧ (¬ (40 : Int32) < b → ((¬ (wi g b) = 0 → w33 19 10 S (fun (S1 : ri_H) => ∃ nn, w57_l47   Q nn a b g (0 : Int32) S1)) ∧ (¬ (¬ (wi g b) = 0) → Q (-2 : Int32) S))))))))
set_option maxRecDepth 10000 in
set_option maxHeartbeats 1000000 in
theorem wt57 {E : ri_E} (a : Int32) (b : Int32) (g : Int32) {S : ri_H} {Q : Int32 → ri_H → Prop} (h : w57  a b g S Q) : ri_A E 4 (ri_en 57 [.ref 0, .int a, .int b, .int g]) S (Qi Q) := by
  unfold w57 at h
  show ri_A E 4 (57, 0, [some (.ref 0), some (.int a), some (.int b), some (.int g), none], []) S (Qi Q)
  refine A_call (j := 34) (As := [.ref 10, .int a]) (fr' := (57, 8, [some (.ref 0), some (.int a), some (.int b), some (.int g), none], [])) (S' := S) 4 rfl (e := 0) (by omega) (sp_has 10 (by decide) _ ?_)
  refine A_br ((wi a (S.1 10 9)) = 0) (r1 := ((57, 30, [some (.ref 0), some (.int a), some (.int b), some (.int g), none], []), S)) (r2 := ((57, 11, [some (.ref 0), some (.int a), some (.int b), some (.int g), none], []), S)) 1 rfl (fun c => ?_) (fun c => ?_)
  · have h := h.1 c
    exact A_ret 2 (m := 57) (v := some (.int (-2 : Int32))) (S' := S) rfl rfl ⟨_, rfl, h⟩
  · have h := h.2 c
    refine A_br (b < (1 : Int32)) (r1 := ((57, 30, [some (.ref 0), some (.int a), some (.int b), some (.int g), none], []), S)) (r2 := ((57, 16, [some (.ref 0), some (.int a), some (.int b), some (.int g), none], []), S)) 3 rfl (fun c => ?_) (fun c => ?_)
    · have h := h.1 c
      exact A_ret 2 (m := 57) (v := some (.int (-2 : Int32))) (S' := S) rfl rfl ⟨_, rfl, h⟩
    · have h := h.2 c
      refine A_br ((40 : Int32) < b) (r1 := ((57, 30, [some (.ref 0), some (.int a), some (.int b), some (.int g), none], []), S)) (r2 := ((57, 22, [some (.ref 0), some (.int a), some (.int b), some (.int g), none], []), S)) 3 rfl (fun c => ?_) (fun c => ?_)
      · have h := h.1 c
        exact A_ret 2 (m := 57) (v := some (.int (-2 : Int32))) (S' := S) rfl rfl ⟨_, rfl, h⟩
      · have h := h.2 c
        refine A_call (j := 95) (As := [.int g, .int b]) (fr' := (57, 27, [some (.ref 0), some (.int a), some (.int b), some (.int g), none], [])) (S' := S) 3 rfl (e := 0) (by omega) (sp_within _ _ ?_)
        refine A_br (¬ (wi g b) = 0) (r1 := ((57, 33, [some (.ref 0), some (.int a), some (.int b), some (.int g), none], []), S)) (r2 := ((57, 30, [some (.ref 0), some (.int a), some (.int b), some (.int g), none], []), S)) 1 rfl (fun c => ?_) (fun c => ?_)
        · have h := h.1 c
          refine A_call (j := 33) (As := [.ref 19, .ref 10]) (fr' := (57, 44, [some (.ref 0), some (.int a), some (.int b), some (.int g), none], [])) (S' := S) 5 rfl (e := 1) (by omega) (A_imp (wt33 19 10 (by decide) h) (fun v S1 hq => ?_))
          obtain ⟨hv, h⟩ := hq
          subst hv
          refine A_nx 2 (fr' := (57, 47, [some (.ref 0), some (.int a), some (.int b), some (.int g), some (.int (0 : Int32))], [])) (S' := S1) rfl ?_
          refine ri_A.less (m := 57) (pc := 47) (L := [some (.ref 0), some (.int a), some (.int b), some (.int g), some (.int (0 : Int32))]) (L' := [some (.ref 0), some (.int a), some (.int b), some (.int g), some (.int (0 : Int32))]) (st := []) ⟨rfl, ⟨rfl, ⟨rfl, ⟨rfl, ⟨rfl, trivial⟩⟩⟩⟩⟩ ?_
          obtain ⟨nn, h⟩ := h
          exact wt57_l47   nn _ _ _ _ _ h
        · have h := h.2 c
          exact A_ret 2 (m := 57) (v := some (.int (-2 : Int32))) (S' := S) rfl rfl ⟨_, rfl, h⟩
/-! X4_wayAYear, depth 1 -/
def w81_l95 (Q : ri_H → Prop) : Nat → Int32 → ri_H → Prop
  | 0, _, _ => False
  | n + 1, x1, S => (((12 : Int32) ≤ x1 → Q S) ∧ (¬ (12 : Int32) ≤ x1 → (((12 : Int32) ≤ x1 → Q S) ∧ (¬ (12 : Int32) ≤ x1 → (vp_in x1 12 ∧ (vp_in x1 12 ∧ w81_l95   Q n (x1 + (1 : Int32)) (ri_wl S 46 (x1).toNatClampNeg (S.2 47 (x1).toNatClampNeg))))))))
set_option maxRecDepth 10000 in
set_option maxHeartbeats 1000000 in
theorem wt81_l95 {E : ri_E} {Q : ri_H → Prop} : ∀ (n : Nat) (x1 : Int32) (S : ri_H), w81_l95   Q n x1 S → ri_A E 1 (81, 95, [some (.ref 0), some (.int x1), none], []) S (Qv Q) := by
  intro n
  induction n with
  | zero => intro x1 S h; exact h.elim
  | succ n ih =>
    intro x1 S h
    unfold w81_l95 at h
    refine A_br ((12 : Int32) ≤ x1) (r1 := ((81, 131, [some (.ref 0), some (.int x1), none], []), S)) (r2 := ((81, 104, [some (.ref 0), some (.int x1), none], []), S)) 5 rfl (fun c => ?_) (fun c => ?_)
    · have h := h.1 c
      exact A_ret 1 (m := 81) (v := none) (S' := S) rfl rfl ⟨rfl, h⟩
    · have h := h.2 c
      refine A_br ((12 : Int32) ≤ x1) (r1 := ((81, 131, [some (.ref 0), some (.int x1), none], []), S)) (r2 := ((81, 113, [some (.ref 0), some (.int x1), none], []), S)) 5 rfl (fun c => ?_) (fun c => ?_)
      · have h := h.1 c
        exact A_ret 1 (m := 81) (v := none) (S' := S) rfl rfl ⟨rfl, h⟩
      · have h := h.2 c
        refine A_ix x1 12 (r1 := ((81, 124, [some (.ref 0), some (.int x1), none], [.long (S.2 47 (x1).toNatClampNeg), .int x1, .ref 46]), S)) 7 rfl h.1 ?_
        have h := h.2
        refine A_ix x1 12 (r1 := ((81, 125, [some (.ref 0), some (.int x1), none], []), (ri_wl S 46 (x1).toNatClampNeg (S.2 47 (x1).toNatClampNeg)))) 1 rfl h.1 ?_
        have h := h.2
        refine A_nx 2 (fr' := (81, 95, [some (.ref 0), some (.int (x1 + (1 : Int32))), none], [])) (S' := (ri_wl S 46 (x1).toNatClampNeg (S.2 47 (x1).toNatClampNeg))) rfl ?_
        refine ri_A.less (m := 81) (pc := 95) (L := [some (.ref 0), some (.int (x1 + (1 : Int32))), none]) (L' := [some (.ref 0), some (.int (x1 + (1 : Int32))), none]) (st := []) ⟨rfl, ⟨rfl, trivial⟩⟩ ?_
        exact ih _ _ h
def w81_b87 (K26 : Int32 → ri_H → Prop) (Q : ri_H → Prop) (x1 : Int32) (S : ri_H) : Prop := K26 (x1 + (1 : Int32)) S
set_option maxRecDepth 10000 in
set_option maxHeartbeats 1000000 in
theorem wt81_b87 {E : ri_E} {K26 : Int32 → ri_H → Prop} {Q : ri_H → Prop} (hK26 : ∀ (x1 : Int32) (S : ri_H), K26 x1 S → ri_A E 1 (81, 26, [some (.ref 0), some (.int x1), none], []) S (Qv Q)) (x1 : Int32) (S : ri_H) (h : w81_b87  K26 Q x1 S) : ri_A E 1 (81, 87, [some (.ref 0), some (.int x1), none], []) S (Qv Q) := by
  unfold w81_b87 at h
  refine A_nx 2 (fr' := (81, 26, [some (.ref 0), some (.int (x1 + (1 : Int32))), none], [])) (S' := S) rfl ?_
  refine ri_A.less (m := 81) (pc := 26) (L := [some (.ref 0), some (.int (x1 + (1 : Int32))), none]) (L' := [some (.ref 0), some (.int (x1 + (1 : Int32))), none]) (st := []) ⟨rfl, ⟨rfl, trivial⟩⟩ ?_
  exact hK26 _ _ h
def w81_l26 (Q : ri_H → Prop) : Nat → Int32 → ri_H → Prop
  | 0, _, _ => False
  | n + 1, x1, S => (((24 : Int32) ≤ x1 → ∃ nn, w81_l95   Q nn (0 : Int32) S) ∧ (¬ (24 : Int32) ≤ x1 → (((wi (it (S.1 11) 24 x1) (12 : Int32)) = 0 → w81_b87  (fun x1 S => w81_l26   Q n x1 S) Q x1 S) ∧ (¬ (wi (it (S.1 11) 24 x1) (12 : Int32)) = 0 → (((wi (x1 / (2 : Int32)) (12 : Int32)) = 0 → w81_b87  (fun x1 S => w81_l26   Q n x1 S) Q x1 S) ∧ (¬ (wi (x1 / (2 : Int32)) (12 : Int32)) = 0 → (vp_in (it (S.1 11) 24 x1) 12 ∧ (vp_in (x1 / (2 : Int32)) 12 ∧ (vp_in (it (S.1 11) 24 x1) 12 ∧ w81_b87  (fun x1 S => w81_l26   Q n x1 S) Q x1 (ri_wl S 47 ((it (S.1 11) 24 x1)).toNatClampNeg ((S.2 47 ((it (S.1 11) 24 x1)).toNatClampNeg) + (S.2 46 ((x1 / (2 : Int32))).toNatClampNeg))))))))))))
set_option maxRecDepth 10000 in
set_option maxHeartbeats 1000000 in
theorem wt81_l26 {E : ri_E} {Q : ri_H → Prop} : ∀ (n : Nat) (x1 : Int32) (S : ri_H), w81_l26   Q n x1 S → ri_A E 1 (81, 26, [some (.ref 0), some (.int x1), none], []) S (Qv Q) := by
  intro n
  induction n with
  | zero => intro x1 S h; exact h.elim
  | succ n ih =>
    intro x1 S h
    unfold w81_l26 at h
    refine A_br ((24 : Int32) ≤ x1) (r1 := ((81, 93, [some (.ref 0), some (.int x1), none], []), S)) (r2 := ((81, 32, [some (.ref 0), some (.int x1), none], []), S)) 3 rfl (fun c => ?_) (fun c => ?_)
    · have h := h.1 c
      refine A_nx 2 (fr' := (81, 95, [some (.ref 0), some (.int (0 : Int32)), none], [])) (S' := S) rfl ?_
      refine ri_A.less (m := 81) (pc := 95) (L := [some (.ref 0), some (.int (0 : Int32)), none]) (L' := [some (.ref 0), some (.int (0 : Int32)), none]) (st := []) ⟨rfl, ⟨rfl, trivial⟩⟩ ?_
      obtain ⟨nn, h⟩ := h
      exact wt81_l95   nn _ _ h
    · have h := h.2 c
      refine A_call (j := 98) (As := [.ref 11, .int x1]) (fr' := (81, 43, [some (.ref 0), some (.int x1), none], [])) (S' := S) 5 rfl (e := 0) (by omega) (sp_item 11 24 _ ⟨by decide, by decide, rfl⟩ (by decide) ?_)
      refine A_call (j := 95) (As := [.int (it (S.1 11) 24 x1), .int (12 : Int32)]) (fr' := (81, 53, [some (.ref 0), some (.int x1), some (.int (it (S.1 11) 24 x1))], [])) (S' := S) 6 rfl (e := 0) (by omega) (sp_within _ _ ?_)
      refine A_br ((wi (it (S.1 11) 24 x1) (12 : Int32)) = 0) (r1 := ((81, 87, [some (.ref 0), some (.int x1), some (.int (it (S.1 11) 24 x1))], []), S)) (r2 := ((81, 56, [some (.ref 0), some (.int x1), some (.int (it (S.1 11) 24 x1))], []), S)) 1 rfl (fun c => ?_) (fun c => ?_)
      · have h := h.1 c
        refine ri_A.less (m := 81) (pc := 87) (L := [some (.ref 0), some (.int x1), some (.int (it (S.1 11) 24 x1))]) (L' := [some (.ref 0), some (.int x1), none]) (st := []) ⟨rfl, ⟨rfl, trivial⟩⟩ ?_
        exact wt81_b87  (fun x1 S hk => ih x1 S hk) _ _ h
      · have h := h.2 c
        refine A_gd (¬ (2 : Int32) = 0) (r1 := ((81, 59, [some (.ref 0), some (.int x1), some (.int (it (S.1 11) 24 x1))], [.int (x1 / (2 : Int32))]), S)) 3 rfl (by decide) ?_
        refine A_call (j := 95) (As := [.int (x1 / (2 : Int32)), .int (12 : Int32)]) (fr' := (81, 67, [some (.ref 0), some (.int x1), some (.int (it (S.1 11) 24 x1))], [])) (S' := S) 4 rfl (e := 0) (by omega) (sp_within _ _ ?_)
        refine A_br ((wi (x1 / (2 : Int32)) (12 : Int32)) = 0) (r1 := ((81, 87, [some (.ref 0), some (.int x1), some (.int (it (S.1 11) 24 x1))], []), S)) (r2 := ((81, 70, [some (.ref 0), some (.int x1), some (.int (it (S.1 11) 24 x1))], []), S)) 1 rfl (fun c => ?_) (fun c => ?_)
        · have h := h.1 c
          refine ri_A.less (m := 81) (pc := 87) (L := [some (.ref 0), some (.int x1), some (.int (it (S.1 11) 24 x1))]) (L' := [some (.ref 0), some (.int x1), none]) (st := []) ⟨rfl, ⟨rfl, trivial⟩⟩ ?_
          exact wt81_b87  (fun x1 S hk => ih x1 S hk) _ _ h
        · have h := h.2 c
          refine A_ix (it (S.1 11) 24 x1) 12 (r1 := ((81, 77, [some (.ref 0), some (.int x1), some (.int (it (S.1 11) 24 x1))], [.long (S.2 47 ((it (S.1 11) 24 x1)).toNatClampNeg), .int (it (S.1 11) 24 x1), .ref 47]), S)) 5 rfl h.1 ?_
          have h := h.2
          refine A_gd (¬ (2 : Int32) = 0) (r1 := ((81, 84, [some (.ref 0), some (.int x1), some (.int (it (S.1 11) 24 x1))], [.int (x1 / (2 : Int32)), .ref 46, .long (S.2 47 ((it (S.1 11) 24 x1)).toNatClampNeg), .int (it (S.1 11) 24 x1), .ref 47]), S)) 5 rfl (by decide) ?_
          refine A_ix (x1 / (2 : Int32)) 12 (r1 := ((81, 85, [some (.ref 0), some (.int x1), some (.int (it (S.1 11) 24 x1))], [.long (S.2 46 ((x1 / (2 : Int32))).toNatClampNeg), .long (S.2 47 ((it (S.1 11) 24 x1)).toNatClampNeg), .int (it (S.1 11) 24 x1), .ref 47]), S)) 1 rfl h.1 ?_
          have h := h.2
          refine A_ix (it (S.1 11) 24 x1) 12 (r1 := ((81, 87, [some (.ref 0), some (.int x1), some (.int (it (S.1 11) 24 x1))], []), (ri_wl S 47 ((it (S.1 11) 24 x1)).toNatClampNeg ((S.2 47 ((it (S.1 11) 24 x1)).toNatClampNeg) + (S.2 46 ((x1 / (2 : Int32))).toNatClampNeg))))) 2 rfl h.1 ?_
          have h := h.2
          refine ri_A.less (m := 81) (pc := 87) (L := [some (.ref 0), some (.int x1), some (.int (it (S.1 11) 24 x1))]) (L' := [some (.ref 0), some (.int x1), none]) (st := []) ⟨rfl, ⟨rfl, trivial⟩⟩ ?_
          exact wt81_b87  (fun x1 S hk => ih x1 S hk) _ _ h
def w81_l2 (Q : ri_H → Prop) : Nat → Int32 → ri_H → Prop
  | 0, _, _ => False
  | n + 1, x1, S => (((12 : Int32) ≤ x1 → ∃ nn, w81_l26   Q nn (0 : Int32) S) ∧ (¬ (12 : Int32) ≤ x1 → (vp_in x1 12 ∧ w81_l2   Q n (x1 + (1 : Int32)) (ri_wl S 47 (x1).toNatClampNeg (0 : Int64)))))
set_option maxRecDepth 10000 in
set_option maxHeartbeats 1000000 in
theorem wt81_l2 {E : ri_E} {Q : ri_H → Prop} : ∀ (n : Nat) (x1 : Int32) (S : ri_H), w81_l2   Q n x1 S → ri_A E 1 (81, 2, [some (.ref 0), some (.int x1), none], []) S (Qv Q) := by
  intro n
  induction n with
  | zero => intro x1 S h; exact h.elim
  | succ n ih =>
    intro x1 S h
    unfold w81_l2 at h
    refine A_br ((12 : Int32) ≤ x1) (r1 := ((81, 24, [some (.ref 0), some (.int x1), none], []), S)) (r2 := ((81, 11, [some (.ref 0), some (.int x1), none], []), S)) 5 rfl (fun c => ?_) (fun c => ?_)
    · have h := h.1 c
      refine A_nx 2 (fr' := (81, 26, [some (.ref 0), some (.int (0 : Int32)), none], [])) (S' := S) rfl ?_
      refine ri_A.less (m := 81) (pc := 26) (L := [some (.ref 0), some (.int (0 : Int32)), none]) (L' := [some (.ref 0), some (.int (0 : Int32)), none]) (st := []) ⟨rfl, ⟨rfl, trivial⟩⟩ ?_
      obtain ⟨nn, h⟩ := h
      exact wt81_l26   nn _ _ h
    · have h := h.2 c
      refine A_ix x1 12 (r1 := ((81, 18, [some (.ref 0), some (.int x1), none], []), (ri_wl S 47 (x1).toNatClampNeg (0 : Int64)))) 5 rfl h.1 ?_
      have h := h.2
      refine A_nx 2 (fr' := (81, 2, [some (.ref 0), some (.int (x1 + (1 : Int32))), none], [])) (S' := (ri_wl S 47 (x1).toNatClampNeg (0 : Int64))) rfl ?_
      refine ri_A.less (m := 81) (pc := 2) (L := [some (.ref 0), some (.int (x1 + (1 : Int32))), none]) (L' := [some (.ref 0), some (.int (x1 + (1 : Int32))), none]) (st := []) ⟨rfl, ⟨rfl, trivial⟩⟩ ?_
      exact ih _ _ h
def w81  (S : ri_H) (Q : ri_H → Prop) : Prop := ∃ nn, w81_l2   Q nn (0 : Int32) S
set_option maxRecDepth 10000 in
set_option maxHeartbeats 1000000 in
theorem wt81 {E : ri_E}  {S : ri_H} {Q : ri_H → Prop} (h : w81   S Q) : ri_A E 1 (ri_en 81 [.ref 0]) S (Qv Q) := by
  unfold w81 at h
  show ri_A E 1 (81, 0, [some (.ref 0), none, none], []) S (Qv Q)
  refine A_nx 2 (fr' := (81, 2, [some (.ref 0), some (.int (0 : Int32)), none], [])) (S' := S) rfl ?_
  refine ri_A.less (m := 81) (pc := 2) (L := [some (.ref 0), some (.int (0 : Int32)), none]) (L' := [some (.ref 0), some (.int (0 : Int32)), none]) (st := []) ⟨rfl, ⟨rfl, trivial⟩⟩ ?_
  obtain ⟨nn, h⟩ := h
  exact wt81_l2   nn _ _ h
/-! X4_waysOf, depth 2 -/
def w80_l40 (Q : Int64 → ri_H → Prop) : Nat → Int32 → Int32 → Int32 → ri_H → Prop
  | 0, _, _, _, _ => False
  | n + 1, x2, x3, x4, S => ((x3 ≤ x4 → (((wi x2 (12 : Int32)) = 0 → Q (0 : Int64) S) ∧ (¬ (wi x2 (12 : Int32)) = 0 → (vp_in x2 12 ∧ Q (S.2 46 (x2).toNatClampNeg) S)))) ∧ (¬ (x3 ≤ x4) → w81  S (fun (S1 : ri_H) => w80_l40   Q n x2 x3 (x4 + (1 : Int32)) S1)))
set_option maxRecDepth 10000 in
set_option maxHeartbeats 1000000 in
theorem wt80_l40 {E : ri_E} {Q : Int64 → ri_H → Prop} : ∀ (n : Nat) (x2 : Int32) (x3 : Int32) (x4 : Int32) (S : ri_H), w80_l40   Q n x2 x3 x4 S → ri_A E 2 (80, 40, [some (.ref 0), none, some (.int x2), some (.int x3), some (.int x4)], []) S (Ql Q) := by
  intro n
  induction n with
  | zero => intro x2 x3 x4 S h; exact h.elim
  | succ n ih =>
    intro x2 x3 x4 S h
    unfold w80_l40 at h
    refine A_br (x3 ≤ x4) (r1 := ((80, 56, [some (.ref 0), none, some (.int x2), some (.int x3), some (.int x4)], []), S)) (r2 := ((80, 46, [some (.ref 0), none, some (.int x2), some (.int x3), some (.int x4)], []), S)) 3 rfl (fun c => ?_) (fun c => ?_)
    · have h := h.1 c
      refine A_call (j := 95) (As := [.int x2, .int (12 : Int32)]) (fr' := (80, 65, [some (.ref 0), none, some (.int x2), some (.int x3), some (.int x4)], [])) (S' := S) 5 rfl (e := 0) (by omega) (sp_within _ _ ?_)
      refine A_br ((wi x2 (12 : Int32)) = 0) (r1 := ((80, 77, [some (.ref 0), none, some (.int x2), some (.int x3), some (.int x4)], []), S)) (r2 := ((80, 68, [some (.ref 0), none, some (.int x2), some (.int x3), some (.int x4)], []), S)) 1 rfl (fun c => ?_) (fun c => ?_)
      · have h := h.1 c
        exact A_ret 2 (m := 80) (v := some (.long (0 : Int64))) (S' := S) rfl rfl ⟨_, rfl, h⟩
      · have h := h.2 c
        refine A_ix x2 12 (r1 := ((80, 74, [some (.ref 0), none, some (.int x2), some (.int x3), some (.int x4)], [.long (S.2 46 (x2).toNatClampNeg)]), S)) 4 rfl h.1 ?_
        have h := h.2
        exact A_ret 2 (m := 80) (v := some (.long (S.2 46 (x2).toNatClampNeg))) (S' := S) rfl rfl ⟨_, rfl, h⟩
    · have h := h.2 c
      refine A_call (j := 81) (As := [.ref 0]) (fr' := (80, 50, [some (.ref 0), none, some (.int x2), some (.int x3), some (.int x4)], [])) (S' := S) 2 rfl (e := 1) (by omega) (A_imp (wt81  h) (fun v S1 hq => ?_))
      obtain ⟨hv, h⟩ := hq
      subst hv
      refine A_nx 2 (fr' := (80, 40, [some (.ref 0), none, some (.int x2), some (.int x3), some (.int (x4 + (1 : Int32)))], [])) (S' := S1) rfl ?_
      refine ri_A.less (m := 80) (pc := 40) (L := [some (.ref 0), none, some (.int x2), some (.int x3), some (.int (x4 + (1 : Int32)))]) (L' := [some (.ref 0), none, some (.int x2), some (.int x3), some (.int (x4 + (1 : Int32)))]) (st := []) ⟨rfl, ⟨rfl, ⟨rfl, ⟨rfl, trivial⟩⟩⟩⟩ ?_
      exact ih _ _ _ _ h
def w80_b30 (K3 : Int32 → Int32 → Int32 → Int32 → ri_H → Prop) (Q : Int64 → ri_H → Prop) (x1 : Int32) (x2 : Int32) (x3 : Int32) (x4 : Int32) (t0 : Int64) (s1 : Int32) (S : ri_H) : Prop := (vp_in s1 12 ∧ K3 x1 x2 x3 (x4 + (1 : Int32)) (ri_wl S 46 (s1).toNatClampNeg t0))
set_option maxRecDepth 10000 in
set_option maxHeartbeats 1000000 in
theorem wt80_b30 {E : ri_E} {K3 : Int32 → Int32 → Int32 → Int32 → ri_H → Prop} {Q : Int64 → ri_H → Prop} (hK3 : ∀ (x1 : Int32) (x2 : Int32) (x3 : Int32) (x4 : Int32) (S : ri_H), K3 x1 x2 x3 x4 S → ri_A E 2 (80, 3, [some (.ref 0), some (.int x1), some (.int x2), some (.int x3), some (.int x4)], []) S (Ql Q)) (x1 : Int32) (x2 : Int32) (x3 : Int32) (x4 : Int32) (t0 : Int64) (s1 : Int32) (S : ri_H) (h : w80_b30  K3 Q x1 x2 x3 x4 t0 s1 S) : ri_A E 2 (80, 30, [some (.ref 0), some (.int x1), some (.int x2), some (.int x3), some (.int x4)], [.long t0, .int s1, .ref 46]) S (Ql Q) := by
  unfold w80_b30 at h
  refine A_ix s1 12 (r1 := ((80, 31, [some (.ref 0), some (.int x1), some (.int x2), some (.int x3), some (.int x4)], []), (ri_wl S 46 (s1).toNatClampNeg t0))) 1 rfl h.1 ?_
  have h := h.2
  refine A_nx 2 (fr' := (80, 3, [some (.ref 0), some (.int x1), some (.int x2), some (.int x3), some (.int (x4 + (1 : Int32)))], [])) (S' := (ri_wl S 46 (s1).toNatClampNeg t0)) rfl ?_
  refine ri_A.less (m := 80) (pc := 3) (L := [some (.ref 0), some (.int x1), some (.int x2), some (.int x3), some (.int (x4 + (1 : Int32)))]) (L' := [some (.ref 0), some (.int x1), some (.int x2), some (.int x3), some (.int (x4 + (1 : Int32)))]) (st := []) ⟨rfl, ⟨rfl, ⟨rfl, ⟨rfl, ⟨rfl, trivial⟩⟩⟩⟩⟩ ?_
  exact hK3 _ _ _ _ _ h
def w80_l3 (Q : Int64 → ri_H → Prop) : Nat → Int32 → Int32 → Int32 → Int32 → ri_H → Prop
  | 0, _, _, _, _, _ => False
  | n + 1, x1, x2, x3, x4, S => (((12 : Int32) ≤ x4 → ∃ nn, w80_l40   Q nn x2 x3 (0 : Int32) S) ∧ (¬ (12 : Int32) ≤ x4 → ((¬ x4 = x1 → w80_b30  (fun x1 x2 x3 x4 S => w80_l3   Q n x1 x2 x3 x4 S) Q x1 x2 x3 x4 (0 : Int64) x4 S) ∧ (¬ (¬ x4 = x1) → w80_b30  (fun x1 x2 x3 x4 S => w80_l3   Q n x1 x2 x3 x4 S) Q x1 x2 x3 x4 (1 : Int64) x4 S))))
set_option maxRecDepth 10000 in
set_option maxHeartbeats 1000000 in
theorem wt80_l3 {E : ri_E} {Q : Int64 → ri_H → Prop} : ∀ (n : Nat) (x1 : Int32) (x2 : Int32) (x3 : Int32) (x4 : Int32) (S : ri_H), w80_l3   Q n x1 x2 x3 x4 S → ri_A E 2 (80, 3, [some (.ref 0), some (.int x1), some (.int x2), some (.int x3), some (.int x4)], []) S (Ql Q) := by
  intro n
  induction n with
  | zero => intro x1 x2 x3 x4 S h; exact h.elim
  | succ n ih =>
    intro x1 x2 x3 x4 S h
    unfold w80_l3 at h
    refine A_br ((12 : Int32) ≤ x4) (r1 := ((80, 37, [some (.ref 0), some (.int x1), some (.int x2), some (.int x3), some (.int x4)], []), S)) (r2 := ((80, 13, [some (.ref 0), some (.int x1), some (.int x2), some (.int x3), some (.int x4)], []), S)) 5 rfl (fun c => ?_) (fun c => ?_)
    · have h := h.1 c
      refine A_nx 2 (fr' := (80, 40, [some (.ref 0), some (.int x1), some (.int x2), some (.int x3), some (.int (0 : Int32))], [])) (S' := S) rfl ?_
      refine ri_A.less (m := 80) (pc := 40) (L := [some (.ref 0), some (.int x1), some (.int x2), some (.int x3), some (.int (0 : Int32))]) (L' := [some (.ref 0), none, some (.int x2), some (.int x3), some (.int (0 : Int32))]) (st := []) ⟨rfl, ⟨rfl, ⟨rfl, ⟨rfl, trivial⟩⟩⟩⟩ ?_
      obtain ⟨nn, h⟩ := h
      exact wt80_l40   nn _ _ _ _ h
    · have h := h.2 c
      refine A_br (¬ x4 = x1) (r1 := ((80, 29, [some (.ref 0), some (.int x1), some (.int x2), some (.int x3), some (.int x4)], [.int x4, .ref 46]), S)) (r2 := ((80, 25, [some (.ref 0), some (.int x1), some (.int x2), some (.int x3), some (.int x4)], [.int x4, .ref 46]), S)) 6 rfl (fun c => ?_) (fun c => ?_)
      · have h := h.1 c
        refine A_nx 1 (fr' := (80, 30, [some (.ref 0), some (.int x1), some (.int x2), some (.int x3), some (.int x4)], [.long (0 : Int64), .int x4, .ref 46])) (S' := S) rfl ?_
        refine ri_A.less (m := 80) (pc := 30) (L := [some (.ref 0), some (.int x1), some (.int x2), some (.int x3), some (.int x4)]) (L' := [some (.ref 0), some (.int x1), some (.int x2), some (.int x3), some (.int x4)]) (st := [.long (0 : Int64), .int x4, .ref 46]) ⟨rfl, ⟨rfl, ⟨rfl, ⟨rfl, ⟨rfl, trivial⟩⟩⟩⟩⟩ ?_
        exact wt80_b30  (fun x1 x2 x3 x4 S hk => ih x1 x2 x3 x4 S hk) _ _ _ _ _ _ _ h
      · have h := h.2 c
        refine A_nx 2 (fr' := (80, 30, [some (.ref 0), some (.int x1), some (.int x2), some (.int x3), some (.int x4)], [.long (1 : Int64), .int x4, .ref 46])) (S' := S) rfl ?_
        refine ri_A.less (m := 80) (pc := 30) (L := [some (.ref 0), some (.int x1), some (.int x2), some (.int x3), some (.int x4)]) (L' := [some (.ref 0), some (.int x1), some (.int x2), some (.int x3), some (.int x4)]) (st := [.long (1 : Int64), .int x4, .ref 46]) ⟨rfl, ⟨rfl, ⟨rfl, ⟨rfl, ⟨rfl, trivial⟩⟩⟩⟩⟩ ?_
        exact wt80_b30  (fun x1 x2 x3 x4 S hk => ih x1 x2 x3 x4 S hk) _ _ _ _ _ _ _ h
def w80 (a : Int32) (b : Int32) (g : Int32) (S : ri_H) (Q : Int64 → ri_H → Prop) : Prop := ∃ nn, w80_l3   Q nn a b g (0 : Int32) S
set_option maxRecDepth 10000 in
set_option maxHeartbeats 1000000 in
theorem wt80 {E : ri_E} (a : Int32) (b : Int32) (g : Int32) {S : ri_H} {Q : Int64 → ri_H → Prop} (h : w80  a b g S Q) : ri_A E 2 (ri_en 80 [.ref 0, .int a, .int b, .int g]) S (Ql Q) := by
  unfold w80 at h
  show ri_A E 2 (80, 0, [some (.ref 0), some (.int a), some (.int b), some (.int g), none], []) S (Ql Q)
  refine A_nx 2 (fr' := (80, 3, [some (.ref 0), some (.int a), some (.int b), some (.int g), some (.int (0 : Int32))], [])) (S' := S) rfl ?_
  refine ri_A.less (m := 80) (pc := 3) (L := [some (.ref 0), some (.int a), some (.int b), some (.int g), some (.int (0 : Int32))]) (L' := [some (.ref 0), some (.int a), some (.int b), some (.int g), some (.int (0 : Int32))]) (st := []) ⟨rfl, ⟨rfl, ⟨rfl, ⟨rfl, ⟨rfl, trivial⟩⟩⟩⟩⟩ ?_
  obtain ⟨nn, h⟩ := h
  exact wt80_l3   nn _ _ _ _ _ h
/-! X4_turns, depth 3 -/
def w58_b28 (Q : Int64 → ri_H → Prop)  (S : ri_H) : Prop := Q (-4611686018427387904 : Int64) S
set_option maxRecDepth 10000 in
set_option maxHeartbeats 1000000 in
theorem wt58_b28 {E : ri_E} {Q : Int64 → ri_H → Prop}  (S : ri_H) (h : w58_b28   Q  S) : ri_A E 3 (58, 28, [none, none, none, none], []) S (Ql Q) := by
  unfold w58_b28 at h
  exact A_ret 2 (m := 58) (v := some (.long (-4611686018427387904 : Int64))) (S' := S) rfl rfl ⟨_, rfl, h⟩
def w58 (a : Int32) (b : Int32) (g : Int32) (S : ri_H) (Q : Int64 → ri_H → Prop) : Prop := (((wi a (12 : Int32)) = 0 → w58_b28   Q  S) ∧ (¬ (wi a (12 : Int32)) = 0 → (((wi b (12 : Int32)) = 0 → w58_b28   Q  S) ∧ (¬ (wi b (12 : Int32)) = 0 → ((g < 0 → w58_b28   Q  S) ∧ (¬ (g < 0) → ((g ≤ (30 : Int32) → w80 a b g S (fun (r2 : Int64) (S1 : ri_H) => Q r2 S1)) ∧ (¬ (g ≤ (30 : Int32)) → w58_b28   Q  S))))))))
set_option maxRecDepth 10000 in
set_option maxHeartbeats 1000000 in
theorem wt58 {E : ri_E} (a : Int32) (b : Int32) (g : Int32) {S : ri_H} {Q : Int64 → ri_H → Prop} (h : w58  a b g S Q) : ri_A E 3 (ri_en 58 [.ref 0, .int a, .int b, .int g]) S (Ql Q) := by
  unfold w58 at h
  show ri_A E 3 (58, 0, [some (.ref 0), some (.int a), some (.int b), some (.int g)], []) S (Ql Q)
  refine A_call (j := 95) (As := [.int a, .int (12 : Int32)]) (fr' := (58, 6, [some (.ref 0), some (.int a), some (.int b), some (.int g)], [])) (S' := S) 3 rfl (e := 0) (by omega) (sp_within _ _ ?_)
  refine A_br ((wi a (12 : Int32)) = 0) (r1 := ((58, 28, [some (.ref 0), some (.int a), some (.int b), some (.int g)], []), S)) (r2 := ((58, 9, [some (.ref 0), some (.int a), some (.int b), some (.int g)], []), S)) 1 rfl (fun c => ?_) (fun c => ?_)
  · have h := h.1 c
    refine ri_A.less (m := 58) (pc := 28) (L := [some (.ref 0), some (.int a), some (.int b), some (.int g)]) (L' := [none, none, none, none]) (st := []) trivial ?_
    exact wt58_b28   _ h
  · have h := h.2 c
    refine A_call (j := 95) (As := [.int b, .int (12 : Int32)]) (fr' := (58, 15, [some (.ref 0), some (.int a), some (.int b), some (.int g)], [])) (S' := S) 3 rfl (e := 0) (by omega) (sp_within _ _ ?_)
    refine A_br ((wi b (12 : Int32)) = 0) (r1 := ((58, 28, [some (.ref 0), some (.int a), some (.int b), some (.int g)], []), S)) (r2 := ((58, 18, [some (.ref 0), some (.int a), some (.int b), some (.int g)], []), S)) 1 rfl (fun c => ?_) (fun c => ?_)
    · have h := h.1 c
      refine ri_A.less (m := 58) (pc := 28) (L := [some (.ref 0), some (.int a), some (.int b), some (.int g)]) (L' := [none, none, none, none]) (st := []) trivial ?_
      exact wt58_b28   _ h
    · have h := h.2 c
      refine A_br (g < 0) (r1 := ((58, 28, [some (.ref 0), some (.int a), some (.int b), some (.int g)], []), S)) (r2 := ((58, 22, [some (.ref 0), some (.int a), some (.int b), some (.int g)], []), S)) 2 rfl (fun c => ?_) (fun c => ?_)
      · have h := h.1 c
        refine ri_A.less (m := 58) (pc := 28) (L := [some (.ref 0), some (.int a), some (.int b), some (.int g)]) (L' := [none, none, none, none]) (st := []) trivial ?_
        exact wt58_b28   _ h
      · have h := h.2 c
        refine A_br (g ≤ (30 : Int32)) (r1 := ((58, 32, [some (.ref 0), some (.int a), some (.int b), some (.int g)], []), S)) (r2 := ((58, 28, [some (.ref 0), some (.int a), some (.int b), some (.int g)], []), S)) 3 rfl (fun c => ?_) (fun c => ?_)
        · have h := h.1 c
          refine A_call (j := 80) (As := [.ref 0, .int a, .int b, .int g]) (fr' := (58, 39, [some (.ref 0), some (.int a), some (.int b), some (.int g)], [])) (S' := S) 5 rfl (e := 2) (by omega) (A_imp (wt80 a b g h) (fun v S1 hq => ?_))
          obtain ⟨r2, hv, h⟩ := hq
          subst hv
          exact A_ret 1 (m := 58) (v := some (.long r2)) (S' := S1) rfl rfl ⟨_, rfl, h⟩
        · have h := h.2 c
          refine ri_A.less (m := 58) (pc := 28) (L := [some (.ref 0), some (.int a), some (.int b), some (.int g)]) (L' := [none, none, none, none]) (st := []) trivial ?_
          exact wt58_b28   _ h
/-! X4_commonDivisor, depth 0 -/
def w85_l9 (Q : Int64 → ri_H → Prop) : Nat → Int64 → Int64 → Int32 → ri_H → Prop
  | 0, _, _, _, _ => False
  | n + 1, y4, y6, x8, S => (((200 : Int32) ≤ x8 → Q y4 S) ∧ (¬ (200 : Int32) ≤ x8 → (((lg_cmp y6 (0 : Int64)) = 0 → Q y4 S) ∧ (¬ (lg_cmp y6 (0 : Int64)) = 0 → (¬ y6 = 0) ∧ (w85_l9   Q n y6 (y4 - y4 / y6 * y6) (x8 + (1 : Int32)) S)))))
set_option maxRecDepth 10000 in
set_option maxHeartbeats 1000000 in
theorem wt85_l9 {E : ri_E} {Q : Int64 → ri_H → Prop} : ∀ (n : Nat) (y4 : Int64) (y6 : Int64) (x8 : Int32) (S : ri_H), w85_l9   Q n y4 y6 x8 S → ri_A E 0 (85, 9, [none, none, none, none, some (.long y4), none, some (.long y6), none, some (.int x8), none, none], []) S (Ql Q) := by
  intro n
  induction n with
  | zero => intro y4 y6 x8 S h; exact h.elim
  | succ n ih =>
    intro y4 y6 x8 S h
    unfold w85_l9 at h
    refine A_br ((200 : Int32) ≤ x8) (r1 := ((85, 45, [none, none, none, none, some (.long y4), none, some (.long y6), none, some (.int x8), none, none], []), S)) (r2 := ((85, 17, [none, none, none, none, some (.long y4), none, some (.long y6), none, some (.int x8), none, none], []), S)) 3 rfl (fun c => ?_) (fun c => ?_)
    · have h := h.1 c
      exact A_ret 2 (m := 85) (v := some (.long y4)) (S' := S) rfl rfl ⟨_, rfl, h⟩
    · have h := h.2 c
      refine A_br ((lg_cmp y6 (0 : Int64)) = 0) (r1 := ((85, 45, [none, none, none, none, some (.long y4), none, some (.long y6), none, some (.int x8), none, none], []), S)) (r2 := ((85, 24, [none, none, none, none, some (.long y4), none, some (.long y6), none, some (.int x8), none, none], []), S)) 4 rfl (fun c => ?_) (fun c => ?_)
      · have h := h.1 c
        exact A_ret 2 (m := 85) (v := some (.long y4)) (S' := S) rfl rfl ⟨_, rfl, h⟩
      · have h := h.2 c
        refine A_gd (¬ y6 = 0) (r1 := ((85, 29, [none, none, none, none, some (.long y4), none, some (.long y6), none, some (.int x8), none, none], [.long (y4 - y4 / y6 * y6)]), S)) 3 rfl h.1 ?_
        have h := h.2
        refine A_nx 7 (fr' := (85, 9, [none, none, none, none, some (.long y6), none, some (.long (y4 - y4 / y6 * y6)), none, some (.int (x8 + (1 : Int32))), some (.long (y4 - y4 / y6 * y6)), none], [])) (S' := S) rfl ?_
        refine ri_A.less (m := 85) (pc := 9) (L := [none, none, none, none, some (.long y6), none, some (.long (y4 - y4 / y6 * y6)), none, some (.int (x8 + (1 : Int32))), some (.long (y4 - y4 / y6 * y6)), none]) (L' := [none, none, none, none, some (.long y6), none, some (.long (y4 - y4 / y6 * y6)), none, some (.int (x8 + (1 : Int32))), none, none]) (st := []) ⟨rfl, ⟨rfl, ⟨rfl, trivial⟩⟩⟩ ?_
        exact ih _ _ _ _ h
def w85 (a : Int64) (b : Int64) (S : ri_H) (Q : Int64 → ri_H → Prop) : Prop := ∃ nn, w85_l9   Q nn a b (0 : Int32) S
set_option maxRecDepth 10000 in
set_option maxHeartbeats 1000000 in
theorem wt85 {E : ri_E} (a : Int64) (b : Int64) {S : ri_H} {Q : Int64 → ri_H → Prop} (h : w85  a b S Q) : ri_A E 0 (ri_en 85 [.long a, .long b]) S (Ql Q) := by
  unfold w85 at h
  show ri_A E 0 (85, 0, [some (.long a), none, some (.long b), none, none, none, none, none, none, none, none], []) S (Ql Q)
  refine A_nx 6 (fr' := (85, 9, [some (.long a), none, some (.long b), none, some (.long a), none, some (.long b), none, some (.int (0 : Int32)), none, none], [])) (S' := S) rfl ?_
  refine ri_A.less (m := 85) (pc := 9) (L := [some (.long a), none, some (.long b), none, some (.long a), none, some (.long b), none, some (.int (0 : Int32)), none, none]) (L' := [none, none, none, none, some (.long a), none, some (.long b), none, some (.int (0 : Int32)), none, none]) (st := []) ⟨rfl, ⟨rfl, ⟨rfl, trivial⟩⟩⟩ ?_
  obtain ⟨nn, h⟩ := h
  exact wt85_l9   nn _ _ _ _ h
/-! X4_lowest, depth 1 -/
def w84_b17 (Q : Int64 → ri_H → Prop) (y5 : Int64) (t0 : Int64) (S : ri_H) : Prop := ((¬ (lg_cmp y5 (0 : Int64)) = 0 → (¬ y5 = 0) ∧ (Q (t0 / y5) S)) ∧ (¬ (¬ (lg_cmp y5 (0 : Int64)) = 0) → Q t0 S))
set_option maxRecDepth 10000 in
set_option maxHeartbeats 1000000 in
theorem wt84_b17 {E : ri_E} {Q : Int64 → ri_H → Prop} (y5 : Int64) (t0 : Int64) (S : ri_H) (h : w84_b17   Q y5 t0 S) : ri_A E 1 (84, 17, [none, none, none, none, none, some (.long y5), none, none, none], [.long t0]) S (Ql Q) := by
  unfold w84_b17 at h
  refine A_br (¬ (lg_cmp y5 (0 : Int64)) = 0) (r1 := ((84, 31, [none, none, none, none, none, some (.long y5), none, some (.long t0), none], []), S)) (r2 := ((84, 26, [none, none, none, none, none, some (.long y5), none, some (.long t0), none], []), S)) 5 rfl (fun c => ?_) (fun c => ?_)
  · have h := h.1 c
    refine A_gd (¬ y5 = 0) (r1 := ((84, 36, [none, none, none, none, none, some (.long y5), none, some (.long t0), none], [.long (t0 / y5)]), S)) 3 rfl h.1 ?_
    have h := h.2
    exact A_ret 1 (m := 84) (v := some (.long (t0 / y5))) (S' := S) rfl rfl ⟨_, rfl, h⟩
  · have h := h.2 c
    exact A_ret 3 (m := 84) (v := some (.long t0)) (S' := S) rfl rfl ⟨_, rfl, h⟩
def w84 (a : Int64) (b : Int64) (g : Int32) (S : ri_H) (Q : Int64 → ri_H → Prop) : Prop := w85 a b S (fun (r2 : Int64) (S1 : ri_H) => ((¬ g = 0 → w84_b17   Q r2 b S1) ∧ (¬ (¬ g = 0) → w84_b17   Q r2 a S1)))
set_option maxRecDepth 10000 in
set_option maxHeartbeats 1000000 in
theorem wt84 {E : ri_E} (a : Int64) (b : Int64) (g : Int32) {S : ri_H} {Q : Int64 → ri_H → Prop} (h : w84  a b g S Q) : ri_A E 1 (ri_en 84 [.long a, .long b, .int g]) S (Ql Q) := by
  unfold w84 at h
  show ri_A E 1 (84, 0, [some (.long a), none, some (.long b), none, some (.int g), none, none, none, none], []) S (Ql Q)
  refine A_call (j := 85) (As := [.long a, .long b]) (fr' := (84, 5, [some (.long a), none, some (.long b), none, some (.int g), none, none, none, none], [])) (S' := S) 3 rfl (e := 0) (by omega) (A_imp (wt85 a b h) (fun v S1 hq => ?_))
  obtain ⟨r2, hv, h⟩ := hq
  subst hv
  refine A_br (¬ g = 0) (r1 := ((84, 16, [some (.long a), none, some (.long b), none, some (.int g), some (.long r2), none, none, none], []), S1)) (r2 := ((84, 12, [some (.long a), none, some (.long b), none, some (.int g), some (.long r2), none, none, none], []), S1)) 3 rfl (fun c => ?_) (fun c => ?_)
  · have h := h.1 c
    refine A_nx 1 (fr' := (84, 17, [some (.long a), none, some (.long b), none, some (.int g), some (.long r2), none, none, none], [.long b])) (S' := S1) rfl ?_
    refine ri_A.less (m := 84) (pc := 17) (L := [some (.long a), none, some (.long b), none, some (.int g), some (.long r2), none, none, none]) (L' := [none, none, none, none, none, some (.long r2), none, none, none]) (st := [.long b]) ⟨rfl, trivial⟩ ?_
    exact wt84_b17   _ _ _ h
  · have h := h.2 c
    refine A_nx 2 (fr' := (84, 17, [some (.long a), none, some (.long b), none, some (.int g), some (.long r2), none, none, none], [.long a])) (S' := S1) rfl ?_
    refine ri_A.less (m := 84) (pc := 17) (L := [some (.long a), none, some (.long b), none, some (.int g), some (.long r2), none, none, none]) (L' := [none, none, none, none, none, some (.long r2), none, none, none]) (st := [.long a]) ⟨rfl, trivial⟩ ?_
    exact wt84_b17   _ _ _ h
/-! X4_likely, depth 3 -/
def w59_b37 (Q : Int64 → ri_H → Prop)  (S : ri_H) : Prop := Q (-4611686018427387904 : Int64) S
set_option maxRecDepth 10000 in
set_option maxHeartbeats 1000000 in
theorem wt59_b37 {E : ri_E} {Q : Int64 → ri_H → Prop}  (S : ri_H) (h : w59_b37   Q  S) : ri_A E 3 (59, 37, [none, none, none, none, none], []) S (Ql Q) := by
  unfold w59_b37 at h
  exact A_ret 2 (m := 59) (v := some (.long (-4611686018427387904 : Int64))) (S' := S) rfl rfl ⟨_, rfl, h⟩
def w59 (a : Int32) (b : Int32) (g : Int32) (d : Int32) (S : ri_H) (Q : Int64 → ri_H → Prop) : Prop := (((wi a (12 : Int32)) = 0 → w59_b37   Q  S) ∧ (¬ (wi a (12 : Int32)) = 0 → (((wi b (12 : Int32)) = 0 → w59_b37   Q  S) ∧ (¬ (wi b (12 : Int32)) = 0 → ((g < 0 → w59_b37   Q  S) ∧ (¬ (g < 0) → (((30 : Int32) < g → w59_b37   Q  S) ∧ (¬ (30 : Int32) < g → ((¬ (wi d (2 : Int32)) = 0 → w80 a b g S (fun (r2 : Int64) (S1 : ri_H) => w84 r2 ((1 : Int64) <<< ((g).toInt64 &&& 63)) d S1 (fun (r4 : Int64) (S3 : ri_H) => Q r4 S3))) ∧ (¬ (¬ (wi d (2 : Int32)) = 0) → w59_b37   Q  S))))))))))
set_option maxRecDepth 10000 in
set_option maxHeartbeats 1000000 in
theorem wt59 {E : ri_E} (a : Int32) (b : Int32) (g : Int32) (d : Int32) {S : ri_H} {Q : Int64 → ri_H → Prop} (h : w59  a b g d S Q) : ri_A E 3 (ri_en 59 [.ref 0, .int a, .int b, .int g, .int d]) S (Ql Q) := by
  unfold w59 at h
  show ri_A E 3 (59, 0, [some (.ref 0), some (.int a), some (.int b), some (.int g), some (.int d)], []) S (Ql Q)
  refine A_call (j := 95) (As := [.int a, .int (12 : Int32)]) (fr' := (59, 6, [some (.ref 0), some (.int a), some (.int b), some (.int g), some (.int d)], [])) (S' := S) 3 rfl (e := 0) (by omega) (sp_within _ _ ?_)
  refine A_br ((wi a (12 : Int32)) = 0) (r1 := ((59, 37, [some (.ref 0), some (.int a), some (.int b), some (.int g), some (.int d)], []), S)) (r2 := ((59, 9, [some (.ref 0), some (.int a), some (.int b), some (.int g), some (.int d)], []), S)) 1 rfl (fun c => ?_) (fun c => ?_)
  · have h := h.1 c
    refine ri_A.less (m := 59) (pc := 37) (L := [some (.ref 0), some (.int a), some (.int b), some (.int g), some (.int d)]) (L' := [none, none, none, none, none]) (st := []) trivial ?_
    exact wt59_b37   _ h
  · have h := h.2 c
    refine A_call (j := 95) (As := [.int b, .int (12 : Int32)]) (fr' := (59, 15, [some (.ref 0), some (.int a), some (.int b), some (.int g), some (.int d)], [])) (S' := S) 3 rfl (e := 0) (by omega) (sp_within _ _ ?_)
    refine A_br ((wi b (12 : Int32)) = 0) (r1 := ((59, 37, [some (.ref 0), some (.int a), some (.int b), some (.int g), some (.int d)], []), S)) (r2 := ((59, 18, [some (.ref 0), some (.int a), some (.int b), some (.int g), some (.int d)], []), S)) 1 rfl (fun c => ?_) (fun c => ?_)
    · have h := h.1 c
      refine ri_A.less (m := 59) (pc := 37) (L := [some (.ref 0), some (.int a), some (.int b), some (.int g), some (.int d)]) (L' := [none, none, none, none, none]) (st := []) trivial ?_
      exact wt59_b37   _ h
    · have h := h.2 c
      refine A_br (g < 0) (r1 := ((59, 37, [some (.ref 0), some (.int a), some (.int b), some (.int g), some (.int d)], []), S)) (r2 := ((59, 22, [some (.ref 0), some (.int a), some (.int b), some (.int g), some (.int d)], []), S)) 2 rfl (fun c => ?_) (fun c => ?_)
      · have h := h.1 c
        refine ri_A.less (m := 59) (pc := 37) (L := [some (.ref 0), some (.int a), some (.int b), some (.int g), some (.int d)]) (L' := [none, none, none, none, none]) (st := []) trivial ?_
        exact wt59_b37   _ h
      · have h := h.2 c
        refine A_br ((30 : Int32) < g) (r1 := ((59, 37, [some (.ref 0), some (.int a), some (.int b), some (.int g), some (.int d)], []), S)) (r2 := ((59, 28, [some (.ref 0), some (.int a), some (.int b), some (.int g), some (.int d)], []), S)) 3 rfl (fun c => ?_) (fun c => ?_)
        · have h := h.1 c
          refine ri_A.less (m := 59) (pc := 37) (L := [some (.ref 0), some (.int a), some (.int b), some (.int g), some (.int d)]) (L' := [none, none, none, none, none]) (st := []) trivial ?_
          exact wt59_b37   _ h
        · have h := h.2 c
          refine A_call (j := 95) (As := [.int d, .int (2 : Int32)]) (fr' := (59, 34, [some (.ref 0), some (.int a), some (.int b), some (.int g), some (.int d)], [])) (S' := S) 3 rfl (e := 0) (by omega) (sp_within _ _ ?_)
          refine A_br (¬ (wi d (2 : Int32)) = 0) (r1 := ((59, 41, [some (.ref 0), some (.int a), some (.int b), some (.int g), some (.int d)], []), S)) (r2 := ((59, 37, [some (.ref 0), some (.int a), some (.int b), some (.int g), some (.int d)], []), S)) 1 rfl (fun c => ?_) (fun c => ?_)
          · have h := h.1 c
            refine A_call (j := 80) (As := [.ref 0, .int a, .int b, .int g]) (fr' := (59, 48, [some (.ref 0), some (.int a), some (.int b), some (.int g), some (.int d)], [])) (S' := S) 5 rfl (e := 2) (by omega) (A_imp (wt80 a b g h) (fun v S1 hq => ?_))
            obtain ⟨r2, hv, h⟩ := hq
            subst hv
            refine A_call (j := 84) (As := [.long r2, .long ((1 : Int64) <<< ((g).toInt64 &&& 63)), .int d]) (fr' := (59, 56, [some (.ref 0), some (.int a), some (.int b), some (.int g), some (.int d)], [])) (S' := S1) 5 rfl (e := 1) (by omega) (A_imp (wt84 r2 ((1 : Int64) <<< ((g).toInt64 &&& 63)) d h) (fun v S3 hq => ?_))
            obtain ⟨r4, hv, h⟩ := hq
            subst hv
            exact A_ret 1 (m := 59) (v := some (.long r4)) (S' := S3) rfl rfl ⟨_, rfl, h⟩
          · have h := h.2 c
            refine ri_A.less (m := 59) (pc := 37) (L := [some (.ref 0), some (.int a), some (.int b), some (.int g), some (.int d)]) (L' := [none, none, none, none, none]) (st := []) trivial ?_
            exact wt59_b37   _ h
/-! X4_lessen, depth 1 -/
def w83_b19 (Q : ri_H → Prop) (x1 : Int32) (x2 : Int32) (S : ri_H) : Prop := Q (ri_wr S 49 (pu 12 (S.1 49) x1 x2))
set_option maxRecDepth 10000 in
set_option maxHeartbeats 1000000 in
theorem wt83_b19 {E : ri_E} {Q : ri_H → Prop} (x1 : Int32) (x2 : Int32) (S : ri_H) (h : w83_b19   Q x1 x2 S) : ri_A E 1 (83, 19, [some (.ref 0), some (.int x1), some (.int x2), none], []) S (Qv Q) := by
  unfold w83_b19 at h
  refine A_call (j := 99) (As := [.ref 49, .int x1, .int x2]) (fr' := (83, 28, [some (.ref 0), some (.int x1), some (.int x2), none], [])) (S' := S) 5 rfl (e := 0) (by omega) (sp_putItem 49 12 _ _ ⟨by decide, by decide, rfl⟩ (by decide) ?_)
  exact A_ret 1 (m := 83) (v := none) (S' := (ri_wr S 49 (pu 12 (S.1 49) x1 x2))) rfl rfl ⟨rfl, h⟩
def w83 (a : Int32) (b : Int32) (S : ri_H) (Q : ri_H → Prop) : Prop := (((it (S.1 49) 12 a) = (-1 : Int32) → w83_b19   Q a b S) ∧ (¬ (it (S.1 49) 12 a) = (-1 : Int32) → (((it (S.1 49) 12 a) ≤ b → Q S) ∧ (¬ (it (S.1 49) 12 a) ≤ b → w83_b19   Q a b S))))
set_option maxRecDepth 10000 in
set_option maxHeartbeats 1000000 in
theorem wt83 {E : ri_E} (a : Int32) (b : Int32) {S : ri_H} {Q : ri_H → Prop} (h : w83  a b S Q) : ri_A E 1 (ri_en 83 [.ref 0, .int a, .int b]) S (Qv Q) := by
  unfold w83 at h
  show ri_A E 1 (83, 0, [some (.ref 0), some (.int a), some (.int b), none], []) S (Qv Q)
  refine A_call (j := 98) (As := [.ref 49, .int a]) (fr' := (83, 8, [some (.ref 0), some (.int a), some (.int b), none], [])) (S' := S) 4 rfl (e := 0) (by omega) (sp_item 49 12 _ ⟨by decide, by decide, rfl⟩ (by decide) ?_)
  refine A_br ((it (S.1 49) 12 a) = (-1 : Int32)) (r1 := ((83, 19, [some (.ref 0), some (.int a), some (.int b), some (.int (it (S.1 49) 12 a))], []), S)) (r2 := ((83, 14, [some (.ref 0), some (.int a), some (.int b), some (.int (it (S.1 49) 12 a))], []), S)) 4 rfl (fun c => ?_) (fun c => ?_)
  · have h := h.1 c
    refine ri_A.less (m := 83) (pc := 19) (L := [some (.ref 0), some (.int a), some (.int b), some (.int (it (S.1 49) 12 a))]) (L' := [some (.ref 0), some (.int a), some (.int b), none]) (st := []) ⟨rfl, ⟨rfl, ⟨rfl, trivial⟩⟩⟩ ?_
    exact wt83_b19   _ _ _ h
  · have h := h.2 c
    refine A_br ((it (S.1 49) 12 a) ≤ b) (r1 := ((83, 28, [some (.ref 0), some (.int a), some (.int b), some (.int (it (S.1 49) 12 a))], []), S)) (r2 := ((83, 19, [some (.ref 0), some (.int a), some (.int b), some (.int (it (S.1 49) 12 a))], []), S)) 3 rfl (fun c => ?_) (fun c => ?_)
    · have h := h.1 c
      exact A_ret 1 (m := 83) (v := none) (S' := S) rfl rfl ⟨rfl, h⟩
    · have h := h.2 c
      refine ri_A.less (m := 83) (pc := 19) (L := [some (.ref 0), some (.int a), some (.int b), some (.int (it (S.1 49) 12 a))]) (L' := [some (.ref 0), some (.int a), some (.int b), none]) (st := []) ⟨rfl, ⟨rfl, ⟨rfl, trivial⟩⟩⟩ ?_
      exact wt83_b19   _ _ _ h
/-! X4_costAYear, depth 3 -/
def w82_b98 (K10 : Int32 → Int32 → ri_H → Prop) (Q : ri_H → Prop) (x1 : Int32) (x2 : Int32) (S : ri_H) : Prop := K10 x1 (x2 + (1 : Int32)) S
set_option maxRecDepth 10000 in
set_option maxHeartbeats 1000000 in
theorem wt82_b98 {E : ri_E} {K10 : Int32 → Int32 → ri_H → Prop} {Q : ri_H → Prop} (hK10 : ∀ (x1 : Int32) (x2 : Int32) (S : ri_H), K10 x1 x2 S → ri_A E 3 (82, 10, [some (.ref 0), some (.int x1), some (.int x2), none, none], []) S (Qv Q)) (x1 : Int32) (x2 : Int32) (S : ri_H) (h : w82_b98  K10 Q x1 x2 S) : ri_A E 3 (82, 98, [some (.ref 0), some (.int x1), some (.int x2), none, none], []) S (Qv Q) := by
  unfold w82_b98 at h
  refine A_nx 2 (fr' := (82, 10, [some (.ref 0), some (.int x1), some (.int (x2 + (1 : Int32))), none, none], [])) (S' := S) rfl ?_
  refine ri_A.less (m := 82) (pc := 10) (L := [some (.ref 0), some (.int x1), some (.int (x2 + (1 : Int32))), none, none]) (L' := [some (.ref 0), some (.int x1), some (.int (x2 + (1 : Int32))), none, none]) (st := []) ⟨rfl, ⟨rfl, ⟨rfl, trivial⟩⟩⟩ ?_
  exact hK10 _ _ _ h
def w82_l10 (Q : ri_H → Prop) : Nat → Int32 → Int32 → ri_H → Prop
  | 0, _, _, _ => False
  | n + 1, x1, x2, S => (((12 : Int32) ≤ x2 → Q (ri_wr S 48 (cpr 12 (S.1 49) (S.1 48)))) ∧ (¬ (12 : Int32) ≤ x2 → (((it (S.1 48) 12 x2) = (-1 : Int32) → w82_b98  (fun x1 x2 S => w82_l10   Q n x1 x2 S) Q x1 x2 S) ∧ (¬ (it (S.1 48) 12 x2) = (-1 : Int32) → w40 19 x1 (ri_wr S 24 (pu 5 (S.1 24) x1 x2)) (fun (r2 : Int32) (S1 : ri_H) => w83 (it (S1.1 20) 24 (((2 : Int32) * x2) + r2)) (it (S.1 48) 12 x2) S1 (fun (S3 : ri_H) => w83 (it (S3.1 20) 24 ((((2 : Int32) * x2) + (1 : Int32)) - r2)) ((it (S.1 48) 12 x2) + (1 : Int32)) S3 (fun (S4 : ri_H) => w82_b98  (fun x1 x2 S => w82_l10   Q n x1 x2 S) Q x1 x2 S4)))))))
set_option maxRecDepth 10000 in
set_option maxHeartbeats 1000000 in
theorem wt82_l10 {E : ri_E} {Q : ri_H → Prop} : ∀ (n : Nat) (x1 : Int32) (x2 : Int32) (S : ri_H), w82_l10   Q n x1 x2 S → ri_A E 3 (82, 10, [some (.ref 0), some (.int x1), some (.int x2), none, none], []) S (Qv Q) := by
  intro n
  induction n with
  | zero => intro x1 x2 S h; exact h.elim
  | succ n ih =>
    intro x1 x2 S h
    unfold w82_l10 at h
    refine A_br ((12 : Int32) ≤ x2) (r1 := ((82, 104, [some (.ref 0), some (.int x1), some (.int x2), none, none], []), S)) (r2 := ((82, 16, [some (.ref 0), some (.int x1), some (.int x2), none, none], []), S)) 3 rfl (fun c => ?_) (fun c => ?_)
    · have h := h.1 c
      refine A_call (j := 101) (As := [.ref 49, .ref 48]) (fr' := (82, 115, [some (.ref 0), some (.int x1), some (.int x2), none, none], [])) (S' := S) 5 rfl (e := 0) (by omega) (sp_copyRow 49 48 12 ⟨by decide, by decide, rfl⟩ ⟨by decide, by decide, rfl⟩ (by decide) (by decide) ?_)
      exact A_ret 1 (m := 82) (v := none) (S' := (ri_wr S 48 (cpr 12 (S.1 49) (S.1 48)))) rfl rfl ⟨rfl, h⟩
    · have h := h.2 c
      refine A_call (j := 98) (As := [.ref 48, .int x2]) (fr' := (82, 24, [some (.ref 0), some (.int x1), some (.int x2), none, none], [])) (S' := S) 4 rfl (e := 0) (by omega) (sp_item 48 12 _ ⟨by decide, by decide, rfl⟩ (by decide) ?_)
      refine A_br ((it (S.1 48) 12 x2) = (-1 : Int32)) (r1 := ((82, 98, [some (.ref 0), some (.int x1), some (.int x2), some (.int (it (S.1 48) 12 x2)), none], []), S)) (r2 := ((82, 30, [some (.ref 0), some (.int x1), some (.int x2), some (.int (it (S.1 48) 12 x2)), none], []), S)) 4 rfl (fun c => ?_) (fun c => ?_)
      · have h := h.1 c
        refine ri_A.less (m := 82) (pc := 98) (L := [some (.ref 0), some (.int x1), some (.int x2), some (.int (it (S.1 48) 12 x2)), none]) (L' := [some (.ref 0), some (.int x1), some (.int x2), none, none]) (st := []) ⟨rfl, ⟨rfl, ⟨rfl, trivial⟩⟩⟩ ?_
        exact wt82_b98  (fun x1 x2 S hk => ih x1 x2 S hk) _ _ _ h
      · have h := h.2 c
        refine A_call (j := 99) (As := [.ref 24, .int x1, .int x2]) (fr' := (82, 42, [some (.ref 0), some (.int x1), some (.int x2), some (.int (it (S.1 48) 12 x2)), none], [])) (S' := S) 6 rfl (e := 0) (by omega) (sp_putItem 24 5 _ _ ⟨by decide, by decide, rfl⟩ (by decide) ?_)
        refine A_call (j := 40) (As := [.ref 19, .int x1]) (fr' := (82, 50, [some (.ref 0), some (.int x1), some (.int x2), some (.int (it (S.1 48) 12 x2)), none], [])) (S' := (ri_wr S 24 (pu 5 (S.1 24) x1 x2))) 4 rfl (e := 2) (by omega) (A_imp (wt40 19 (by decide) x1 h) (fun v S1 hq => ?_))
        obtain ⟨r2, hv, h⟩ := hq
        subst hv
        refine A_call (j := 98) (As := [.ref 20, .int (((2 : Int32) * x2) + r2)]) (fr' := (82, 69, [some (.ref 0), some (.int x1), some (.int x2), some (.int (it (S.1 48) 12 x2)), some (.int r2)], [.ref 0])) (S' := S1) 11 rfl (e := 0) (by omega) (sp_item 20 24 _ ⟨by decide, by decide, rfl⟩ (by decide) ?_)
        refine A_call (j := 83) (As := [.ref 0, .int (it (S1.1 20) 24 (((2 : Int32) * x2) + r2)), .int (it (S.1 48) 12 x2)]) (fr' := (82, 73, [some (.ref 0), some (.int x1), some (.int x2), some (.int (it (S.1 48) 12 x2)), some (.int r2)], [])) (S' := S1) 2 rfl (e := 1) (by omega) (A_imp (wt83 (it (S1.1 20) 24 (((2 : Int32) * x2) + r2)) (it (S.1 48) 12 x2) h) (fun v S3 hq => ?_))
        obtain ⟨hv, h⟩ := hq
        subst hv
        refine A_call (j := 98) (As := [.ref 20, .int ((((2 : Int32) * x2) + (1 : Int32)) - r2)]) (fr' := (82, 92, [some (.ref 0), some (.int x1), some (.int x2), some (.int (it (S.1 48) 12 x2)), some (.int r2)], [.ref 0])) (S' := S3) 12 rfl (e := 0) (by omega) (sp_item 20 24 _ ⟨by decide, by decide, rfl⟩ (by decide) ?_)
        refine A_call (j := 83) (As := [.ref 0, .int (it (S3.1 20) 24 ((((2 : Int32) * x2) + (1 : Int32)) - r2)), .int ((it (S.1 48) 12 x2) + (1 : Int32))]) (fr' := (82, 98, [some (.ref 0), some (.int x1), some (.int x2), some (.int (it (S.1 48) 12 x2)), some (.int r2)], [])) (S' := S3) 4 rfl (e := 1) (by omega) (A_imp (wt83 (it (S3.1 20) 24 ((((2 : Int32) * x2) + (1 : Int32)) - r2)) ((it (S.1 48) 12 x2) + (1 : Int32)) h) (fun v S4 hq => ?_))
        obtain ⟨hv, h⟩ := hq
        subst hv
        refine ri_A.less (m := 82) (pc := 98) (L := [some (.ref 0), some (.int x1), some (.int x2), some (.int (it (S.1 48) 12 x2)), some (.int r2)]) (L' := [some (.ref 0), some (.int x1), some (.int x2), none, none]) (st := []) ⟨rfl, ⟨rfl, ⟨rfl, trivial⟩⟩⟩ ?_
        exact wt82_b98  (fun x1 x2 S hk => ih x1 x2 S hk) _ _ _ h
def w82 (a : Int32) (S : ri_H) (Q : ri_H → Prop) : Prop := ∃ nn, w82_l10   Q nn a (0 : Int32) (ri_wr S 49 (fil 12 (-1 : Int32) (S.1 49)))
set_option maxRecDepth 10000 in
set_option maxHeartbeats 1000000 in
theorem wt82 {E : ri_E} (a : Int32) {S : ri_H} {Q : ri_H → Prop} (h : w82  a S Q) : ri_A E 3 (ri_en 82 [.ref 0, .int a]) S (Qv Q) := by
  unfold w82 at h
  show ri_A E 3 (82, 0, [some (.ref 0), some (.int a), none, none, none], []) S (Qv Q)
  refine A_call (j := 100) (As := [.ref 49, .int (-1 : Int32)]) (fr' := (82, 8, [some (.ref 0), some (.int a), none, none, none], [])) (S' := S) 4 rfl (e := 0) (by omega) (sp_fill 49 12 _ ⟨by decide, by decide, rfl⟩ (by decide) ?_)
  refine A_nx 2 (fr' := (82, 10, [some (.ref 0), some (.int a), some (.int (0 : Int32)), none, none], [])) (S' := (ri_wr S 49 (fil 12 (-1 : Int32) (S.1 49)))) rfl ?_
  refine ri_A.less (m := 82) (pc := 10) (L := [some (.ref 0), some (.int a), some (.int (0 : Int32)), none, none]) (L' := [some (.ref 0), some (.int a), some (.int (0 : Int32)), none, none]) (st := []) ⟨rfl, ⟨rfl, ⟨rfl, trivial⟩⟩⟩ ?_
  obtain ⟨nn, h⟩ := h
  exact wt82_l10   nn _ _ _ h
/-! X4_fewest, depth 4 -/
def w60_l74 (Q : Int32 → ri_H → Prop) : Nat → Int32 → Int32 → Int32 → Int32 → ri_H → Prop
  | 0, _, _, _, _, _ => False
  | n + 1, x1, x2, x3, x4, S => ((x3 ≤ x4 → Q (it (S.1 48) 12 x2) S) ∧ (¬ (x3 ≤ x4) → w82 x1 S (fun (S2 : ri_H) => w60_l74   Q n x1 x2 x3 (x4 + (1 : Int32)) (ri_wi S2 19 10 ((S2.1 19 10) + (1 : Int32))))))
set_option maxRecDepth 10000 in
set_option maxHeartbeats 1000000 in
theorem wt60_l74 {E : ri_E} {Q : Int32 → ri_H → Prop} : ∀ (n : Nat) (x1 : Int32) (x2 : Int32) (x3 : Int32) (x4 : Int32) (S : ri_H), w60_l74   Q n x1 x2 x3 x4 S → ri_A E 4 (60, 74, [some (.ref 0), some (.int x1), some (.int x2), some (.int x3), some (.int x4)], []) S (Qi Q) := by
  intro n
  induction n with
  | zero => intro x1 x2 x3 x4 S h; exact h.elim
  | succ n ih =>
    intro x1 x2 x3 x4 S h
    unfold w60_l74 at h
    refine A_br (x3 ≤ x4) (r1 := ((60, 104, [some (.ref 0), some (.int x1), some (.int x2), some (.int x3), some (.int x4)], []), S)) (r2 := ((60, 80, [some (.ref 0), some (.int x1), some (.int x2), some (.int x3), some (.int x4)], []), S)) 3 rfl (fun c => ?_) (fun c => ?_)
    · have h := h.1 c
      refine A_call (j := 98) (As := [.ref 48, .int x2]) (fr' := (60, 112, [some (.ref 0), some (.int x1), some (.int x2), some (.int x3), some (.int x4)], [])) (S' := S) 4 rfl (e := 0) (by omega) (sp_item 48 12 _ ⟨by decide, by decide, rfl⟩ (by decide) ?_)
      exact A_ret 1 (m := 60) (v := some (.int (it (S.1 48) 12 x2))) (S' := S) rfl rfl ⟨_, rfl, h⟩
    · have h := h.2 c
      refine A_call (j := 82) (As := [.ref 0, .int x1]) (fr' := (60, 85, [some (.ref 0), some (.int x1), some (.int x2), some (.int x3), some (.int x4)], [])) (S' := S) 3 rfl (e := 3) (by omega) (A_imp (wt82 x1 h) (fun v S2 hq => ?_))
      obtain ⟨hv, h⟩ := hq
      subst hv
      refine A_nx 9 (fr' := (60, 74, [some (.ref 0), some (.int x1), some (.int x2), some (.int x3), some (.int (x4 + (1 : Int32)))], [])) (S' := (ri_wi S2 19 10 ((S2.1 19 10) + (1 : Int32)))) rfl ?_
      refine ri_A.less (m := 60) (pc := 74) (L := [some (.ref 0), some (.int x1), some (.int x2), some (.int x3), some (.int (x4 + (1 : Int32)))]) (L' := [some (.ref 0), some (.int x1), some (.int x2), some (.int x3), some (.int (x4 + (1 : Int32)))]) (st := []) ⟨rfl, ⟨rfl, ⟨rfl, ⟨rfl, ⟨rfl, trivial⟩⟩⟩⟩⟩ ?_
      exact ih _ _ _ _ _ h
def w60 (a : Int32) (b : Int32) (g : Int32) (S : ri_H) (Q : Int32 → ri_H → Prop) : Prop := (((wi a (S.1 10 9)) = 0 → Q (-2 : Int32) S) ∧ (¬ (wi a (S.1 10 9)) = 0 → (((wi b (12 : Int32)) = 0 → Q (-2 : Int32) S) ∧ (¬ (wi b (12 : Int32)) = 0 → ((g < 0 → Q (-2 : Int32) S) ∧ (¬ (g < 0) → ((g ≤ (30 : Int32) → w33 19 10 S (fun (S1 : ri_H) => ∃ nn, w60_l74   Q nn a b g (0 : Int32) (ri_wr (ri_wr S1 48 (fil 12 (-1 : Int32) (S1.1 48))) 48 (pu 12 (fil 12 (-1 : Int32) (S1.1 48)) (it (S1.1 15) 5 a) (0 : Int32))))) ∧ (¬ (g ≤ (30 : Int32)) → Q (-2 : Int32) S))))))))
set_option maxRecDepth 10000 in
set_option maxHeartbeats 1000000 in
theorem wt60 {E : ri_E} (a : Int32) (b : Int32) (g : Int32) {S : ri_H} {Q : Int32 → ri_H → Prop} (h : w60  a b g S Q) : ri_A E 4 (ri_en 60 [.ref 0, .int a, .int b, .int g]) S (Qi Q) := by
  unfold w60 at h
  show ri_A E 4 (60, 0, [some (.ref 0), some (.int a), some (.int b), some (.int g), none], []) S (Qi Q)
  refine A_call (j := 34) (As := [.ref 10, .int a]) (fr' := (60, 8, [some (.ref 0), some (.int a), some (.int b), some (.int g), none], [])) (S' := S) 4 rfl (e := 0) (by omega) (sp_has 10 (by decide) _ ?_)
  refine A_br ((wi a (S.1 10 9)) = 0) (r1 := ((60, 30, [some (.ref 0), some (.int a), some (.int b), some (.int g), none], []), S)) (r2 := ((60, 11, [some (.ref 0), some (.int a), some (.int b), some (.int g), none], []), S)) 1 rfl (fun c => ?_) (fun c => ?_)
  · have h := h.1 c
    exact A_ret 2 (m := 60) (v := some (.int (-2 : Int32))) (S' := S) rfl rfl ⟨_, rfl, h⟩
  · have h := h.2 c
    refine A_call (j := 95) (As := [.int b, .int (12 : Int32)]) (fr' := (60, 17, [some (.ref 0), some (.int a), some (.int b), some (.int g), none], [])) (S' := S) 3 rfl (e := 0) (by omega) (sp_within _ _ ?_)
    refine A_br ((wi b (12 : Int32)) = 0) (r1 := ((60, 30, [some (.ref 0), some (.int a), some (.int b), some (.int g), none], []), S)) (r2 := ((60, 20, [some (.ref 0), some (.int a), some (.int b), some (.int g), none], []), S)) 1 rfl (fun c => ?_) (fun c => ?_)
    · have h := h.1 c
      exact A_ret 2 (m := 60) (v := some (.int (-2 : Int32))) (S' := S) rfl rfl ⟨_, rfl, h⟩
    · have h := h.2 c
      refine A_br (g < 0) (r1 := ((60, 30, [some (.ref 0), some (.int a), some (.int b), some (.int g), none], []), S)) (r2 := ((60, 24, [some (.ref 0), some (.int a), some (.int b), some (.int g), none], []), S)) 2 rfl (fun c => ?_) (fun c => ?_)
      · have h := h.1 c
        exact A_ret 2 (m := 60) (v := some (.int (-2 : Int32))) (S' := S) rfl rfl ⟨_, rfl, h⟩
      · have h := h.2 c
        refine A_br (g ≤ (30 : Int32)) (r1 := ((60, 33, [some (.ref 0), some (.int a), some (.int b), some (.int g), none], []), S)) (r2 := ((60, 30, [some (.ref 0), some (.int a), some (.int b), some (.int g), none], []), S)) 3 rfl (fun c => ?_) (fun c => ?_)
        · have h := h.1 c
          refine A_call (j := 33) (As := [.ref 19, .ref 10]) (fr' := (60, 44, [some (.ref 0), some (.int a), some (.int b), some (.int g), none], [])) (S' := S) 5 rfl (e := 1) (by omega) (A_imp (wt33 19 10 (by decide) h) (fun v S1 hq => ?_))
          obtain ⟨hv, h⟩ := hq
          subst hv
          refine A_call (j := 100) (As := [.ref 48, .int (-1 : Int32)]) (fr' := (60, 52, [some (.ref 0), some (.int a), some (.int b), some (.int g), none], [])) (S' := S1) 4 rfl (e := 0) (by omega) (sp_fill 48 12 _ ⟨by decide, by decide, rfl⟩ (by decide) ?_)
          refine A_call (j := 98) (As := [.ref 15, .int a]) (fr' := (60, 67, [some (.ref 0), some (.int a), some (.int b), some (.int g), none], [.ref 48])) (S' := (ri_wr S1 48 (fil 12 (-1 : Int32) (S1.1 48)))) 7 rfl (e := 0) (by omega) (sp_item 15 5 _ ⟨by decide, by decide, rfl⟩ (by decide) ?_)
          refine A_call (j := 99) (As := [.ref 48, .int (it (S1.1 15) 5 a), .int (0 : Int32)]) (fr' := (60, 71, [some (.ref 0), some (.int a), some (.int b), some (.int g), none], [])) (S' := (ri_wr S1 48 (fil 12 (-1 : Int32) (S1.1 48)))) 2 rfl (e := 0) (by omega) (sp_putItem 48 12 _ _ ⟨by decide, by decide, rfl⟩ (by decide) ?_)
          refine A_nx 2 (fr' := (60, 74, [some (.ref 0), some (.int a), some (.int b), some (.int g), some (.int (0 : Int32))], [])) (S' := (ri_wr (ri_wr S1 48 (fil 12 (-1 : Int32) (S1.1 48))) 48 (pu 12 (fil 12 (-1 : Int32) (S1.1 48)) (it (S1.1 15) 5 a) (0 : Int32)))) rfl ?_
          refine ri_A.less (m := 60) (pc := 74) (L := [some (.ref 0), some (.int a), some (.int b), some (.int g), some (.int (0 : Int32))]) (L' := [some (.ref 0), some (.int a), some (.int b), some (.int g), some (.int (0 : Int32))]) (st := []) ⟨rfl, ⟨rfl, ⟨rfl, ⟨rfl, ⟨rfl, trivial⟩⟩⟩⟩⟩ ?_
          obtain ⟨nn, h⟩ := h
          exact wt60_l74   nn _ _ _ _ _ h
        · have h := h.2 c
          exact A_ret 2 (m := 60) (v := some (.int (-2 : Int32))) (S' := S) rfl rfl ⟨_, rfl, h⟩
/-! X4_fullestJar, depth 1 -/
def w88_b36 (K6 : Int32 → Int32 → Int32 → ri_H → Prop) (Q : Int32 → ri_H → Prop) (x1 : Int32) (x2 : Int32) (x3 : Int32) (S : ri_H) : Prop := K6 x1 x2 (x3 + (1 : Int32)) S
set_option maxRecDepth 10000 in
set_option maxHeartbeats 1000000 in
theorem wt88_b36 {E : ri_E} {K6 : Int32 → Int32 → Int32 → ri_H → Prop} {Q : Int32 → ri_H → Prop} (hK6 : ∀ (x1 : Int32) (x2 : Int32) (x3 : Int32) (S : ri_H), K6 x1 x2 x3 S → ri_A E 1 (88, 6, [some (.ref 0), some (.int x1), some (.int x2), some (.int x3), none], []) S (Qi Q)) (x1 : Int32) (x2 : Int32) (x3 : Int32) (S : ri_H) (h : w88_b36  K6 Q x1 x2 x3 S) : ri_A E 1 (88, 36, [some (.ref 0), some (.int x1), some (.int x2), some (.int x3), none], []) S (Qi Q) := by
  unfold w88_b36 at h
  refine A_nx 2 (fr' := (88, 6, [some (.ref 0), some (.int x1), some (.int x2), some (.int (x3 + (1 : Int32))), none], [])) (S' := S) rfl ?_
  refine ri_A.less (m := 88) (pc := 6) (L := [some (.ref 0), some (.int x1), some (.int x2), some (.int (x3 + (1 : Int32))), none]) (L' := [some (.ref 0), some (.int x1), some (.int x2), some (.int (x3 + (1 : Int32))), none]) (st := []) ⟨rfl, ⟨rfl, ⟨rfl, ⟨rfl, trivial⟩⟩⟩⟩ ?_
  exact hK6 _ _ _ _ h
def w88_l6 (Q : Int32 → ri_H → Prop) : Nat → Int32 → Int32 → Int32 → ri_H → Prop
  | 0, _, _, _, _ => False
  | n + 1, x1, x2, x3, S => (((24 : Int32) ≤ x3 → Q x1 S) ∧ (¬ (24 : Int32) ≤ x3 → (((it (S.1 12) 24 x3) ≤ x2 → w88_b36  (fun x1 x2 x3 S => w88_l6   Q n x1 x2 x3 S) Q x1 x2 x3 S) ∧ (¬ (it (S.1 12) 24 x3) ≤ x2 → w88_b36  (fun x1 x2 x3 S => w88_l6   Q n x1 x2 x3 S) Q x3 (it (S.1 12) 24 x3) x3 S))))
set_option maxRecDepth 10000 in
set_option maxHeartbeats 1000000 in
theorem wt88_l6 {E : ri_E} {Q : Int32 → ri_H → Prop} : ∀ (n : Nat) (x1 : Int32) (x2 : Int32) (x3 : Int32) (S : ri_H), w88_l6   Q n x1 x2 x3 S → ri_A E 1 (88, 6, [some (.ref 0), some (.int x1), some (.int x2), some (.int x3), none], []) S (Qi Q) := by
  intro n
  induction n with
  | zero => intro x1 x2 x3 S h; exact h.elim
  | succ n ih =>
    intro x1 x2 x3 S h
    unfold w88_l6 at h
    refine A_br ((24 : Int32) ≤ x3) (r1 := ((88, 42, [some (.ref 0), some (.int x1), some (.int x2), some (.int x3), none], []), S)) (r2 := ((88, 12, [some (.ref 0), some (.int x1), some (.int x2), some (.int x3), none], []), S)) 3 rfl (fun c => ?_) (fun c => ?_)
    · have h := h.1 c
      exact A_ret 2 (m := 88) (v := some (.int x1)) (S' := S) rfl rfl ⟨_, rfl, h⟩
    · have h := h.2 c
      refine A_call (j := 98) (As := [.ref 12, .int x3]) (fr' := (88, 23, [some (.ref 0), some (.int x1), some (.int x2), some (.int x3), none], [])) (S' := S) 5 rfl (e := 0) (by omega) (sp_item 12 24 _ ⟨by decide, by decide, rfl⟩ (by decide) ?_)
      refine A_br ((it (S.1 12) 24 x3) ≤ x2) (r1 := ((88, 36, [some (.ref 0), some (.int x1), some (.int x2), some (.int x3), some (.int (it (S.1 12) 24 x3))], []), S)) (r2 := ((88, 31, [some (.ref 0), some (.int x1), some (.int x2), some (.int x3), some (.int (it (S.1 12) 24 x3))], []), S)) 4 rfl (fun c => ?_) (fun c => ?_)
      · have h := h.1 c
        refine ri_A.less (m := 88) (pc := 36) (L := [some (.ref 0), some (.int x1), some (.int x2), some (.int x3), some (.int (it (S.1 12) 24 x3))]) (L' := [some (.ref 0), some (.int x1), some (.int x2), some (.int x3), none]) (st := []) ⟨rfl, ⟨rfl, ⟨rfl, ⟨rfl, trivial⟩⟩⟩⟩ ?_
        exact wt88_b36  (fun x1 x2 x3 S hk => ih x1 x2 x3 S hk) _ _ _ _ h
      · have h := h.2 c
        refine A_nx 4 (fr' := (88, 36, [some (.ref 0), some (.int x3), some (.int (it (S.1 12) 24 x3)), some (.int x3), some (.int (it (S.1 12) 24 x3))], [])) (S' := S) rfl ?_
        refine ri_A.less (m := 88) (pc := 36) (L := [some (.ref 0), some (.int x3), some (.int (it (S.1 12) 24 x3)), some (.int x3), some (.int (it (S.1 12) 24 x3))]) (L' := [some (.ref 0), some (.int x3), some (.int (it (S.1 12) 24 x3)), some (.int x3), none]) (st := []) ⟨rfl, ⟨rfl, ⟨rfl, ⟨rfl, trivial⟩⟩⟩⟩ ?_
        exact wt88_b36  (fun x1 x2 x3 S hk => ih x1 x2 x3 S hk) _ _ _ _ h
def w88  (S : ri_H) (Q : Int32 → ri_H → Prop) : Prop := ∃ nn, w88_l6   Q nn (-1 : Int32) (0 : Int32) (0 : Int32) S
set_option maxRecDepth 10000 in
set_option maxHeartbeats 1000000 in
theorem wt88 {E : ri_E}  {S : ri_H} {Q : Int32 → ri_H → Prop} (h : w88   S Q) : ri_A E 1 (ri_en 88 [.ref 0]) S (Qi Q) := by
  unfold w88 at h
  show ri_A E 1 (88, 0, [some (.ref 0), none, none, none, none], []) S (Qi Q)
  refine A_nx 6 (fr' := (88, 6, [some (.ref 0), some (.int (-1 : Int32)), some (.int (0 : Int32)), some (.int (0 : Int32)), none], [])) (S' := S) rfl ?_
  refine ri_A.less (m := 88) (pc := 6) (L := [some (.ref 0), some (.int (-1 : Int32)), some (.int (0 : Int32)), some (.int (0 : Int32)), none]) (L' := [some (.ref 0), some (.int (-1 : Int32)), some (.int (0 : Int32)), some (.int (0 : Int32)), none]) (st := []) ⟨rfl, ⟨rfl, ⟨rfl, ⟨rfl, trivial⟩⟩⟩⟩ ?_
  obtain ⟨nn, h⟩ := h
  exact wt88_l6   nn _ _ _ _ h
/-! X4_sweetestJar, depth 3 -/
def w87_b58 (K7 : Int32 → Int32 → Int32 → Int32 → ri_H → Prop) (Q : Int32 → ri_H → Prop) (x1 : Int32) (x2 : Int32) (x3 : Int32) (x4 : Int32) (S : ri_H) : Prop := K7 x1 x2 x3 (x4 + (1 : Int32)) S
set_option maxRecDepth 10000 in
set_option maxHeartbeats 1000000 in
theorem wt87_b58 {E : ri_E} {K7 : Int32 → Int32 → Int32 → Int32 → ri_H → Prop} {Q : Int32 → ri_H → Prop} (hK7 : ∀ (x1 : Int32) (x2 : Int32) (x3 : Int32) (x4 : Int32) (S : ri_H), K7 x1 x2 x3 x4 S → ri_A E 3 (87, 7, [some (.ref 0), some (.int x1), some (.int x2), some (.int x3), some (.int x4), none], []) S (Qi Q)) (x1 : Int32) (x2 : Int32) (x3 : Int32) (x4 : Int32) (S : ri_H) (h : w87_b58  K7 Q x1 x2 x3 x4 S) : ri_A E 3 (87, 58, [some (.ref 0), some (.int x1), some (.int x2), some (.int x3), some (.int x4), none], []) S (Qi Q) := by
  unfold w87_b58 at h
  refine A_nx 2 (fr' := (87, 7, [some (.ref 0), some (.int x1), some (.int x2), some (.int x3), some (.int (x4 + (1 : Int32))), none], [])) (S' := S) rfl ?_
  refine ri_A.less (m := 87) (pc := 7) (L := [some (.ref 0), some (.int x1), some (.int x2), some (.int x3), some (.int (x4 + (1 : Int32))), none]) (L' := [some (.ref 0), some (.int x1), some (.int x2), some (.int x3), some (.int (x4 + (1 : Int32))), none]) (st := []) ⟨rfl, ⟨rfl, ⟨rfl, ⟨rfl, ⟨rfl, trivial⟩⟩⟩⟩⟩ ?_
  exact hK7 _ _ _ _ _ h
def w87_b52 (K7 : Int32 → Int32 → Int32 → Int32 → ri_H → Prop) (Q : Int32 → ri_H → Prop) (x1 : Int32) (x4 : Int32) (x5 : Int32) (S : ri_H) : Prop := w87_b58  K7 Q x1 x4 x5 x4 S
set_option maxRecDepth 10000 in
set_option maxHeartbeats 1000000 in
theorem wt87_b52 {E : ri_E} {K7 : Int32 → Int32 → Int32 → Int32 → ri_H → Prop} {Q : Int32 → ri_H → Prop} (hK7 : ∀ (x1 : Int32) (x2 : Int32) (x3 : Int32) (x4 : Int32) (S : ri_H), K7 x1 x2 x3 x4 S → ri_A E 3 (87, 7, [some (.ref 0), some (.int x1), some (.int x2), some (.int x3), some (.int x4), none], []) S (Qi Q)) (x1 : Int32) (x4 : Int32) (x5 : Int32) (S : ri_H) (h : w87_b52  K7 Q x1 x4 x5 S) : ri_A E 3 (87, 52, [some (.ref 0), some (.int x1), none, none, some (.int x4), some (.int x5)], []) S (Qi Q) := by
  unfold w87_b52 at h
  refine A_nx 4 (fr' := (87, 58, [some (.ref 0), some (.int x1), some (.int x4), some (.int x5), some (.int x4), some (.int x5)], [])) (S' := S) rfl ?_
  refine ri_A.less (m := 87) (pc := 58) (L := [some (.ref 0), some (.int x1), some (.int x4), some (.int x5), some (.int x4), some (.int x5)]) (L' := [some (.ref 0), some (.int x1), some (.int x4), some (.int x5), some (.int x4), none]) (st := []) ⟨rfl, ⟨rfl, ⟨rfl, ⟨rfl, ⟨rfl, trivial⟩⟩⟩⟩⟩ ?_
  exact wt87_b58  hK7 _ _ _ _ _ h
def w87_l7 (Q : Int32 → ri_H → Prop) : Nat → Int32 → Int32 → Int32 → Int32 → ri_H → Prop
  | 0, _, _, _, _, _ => False
  | n + 1, x1, x2, x3, x4, S => (((24 : Int32) ≤ x4 → Q x2 S) ∧ (¬ (24 : Int32) ≤ x4 → (((it (S.1 12) 24 x4) ≤ 0 → w87_b58  (fun x1 x2 x3 x4 S => w87_l7   Q n x1 x2 x3 x4 S) Q x1 x2 x3 x4 S) ∧ (¬ (it (S.1 12) 24 x4) ≤ 0 → w42 10 x1 x4 S (fun (r2 : Int32) (S1 : ri_H) => ((x2 = (-1 : Int32) → w87_b52  (fun x1 x2 x3 x4 S => w87_l7   Q n x1 x2 x3 x4 S) Q x1 x4 r2 S1) ∧ (¬ (x2 = (-1 : Int32)) → ((r2 ≤ x3 → w87_b58  (fun x1 x2 x3 x4 S => w87_l7   Q n x1 x2 x3 x4 S) Q x1 x2 x3 x4 S1) ∧ (¬ (r2 ≤ x3) → w87_b52  (fun x1 x2 x3 x4 S => w87_l7   Q n x1 x2 x3 x4 S) Q x1 x4 r2 S1)))))))))
set_option maxRecDepth 10000 in
set_option maxHeartbeats 1000000 in
theorem wt87_l7 {E : ri_E} {Q : Int32 → ri_H → Prop} : ∀ (n : Nat) (x1 : Int32) (x2 : Int32) (x3 : Int32) (x4 : Int32) (S : ri_H), w87_l7   Q n x1 x2 x3 x4 S → ri_A E 3 (87, 7, [some (.ref 0), some (.int x1), some (.int x2), some (.int x3), some (.int x4), none], []) S (Qi Q) := by
  intro n
  induction n with
  | zero => intro x1 x2 x3 x4 S h; exact h.elim
  | succ n ih =>
    intro x1 x2 x3 x4 S h
    unfold w87_l7 at h
    refine A_br ((24 : Int32) ≤ x4) (r1 := ((87, 64, [some (.ref 0), some (.int x1), some (.int x2), some (.int x3), some (.int x4), none], []), S)) (r2 := ((87, 14, [some (.ref 0), some (.int x1), some (.int x2), some (.int x3), some (.int x4), none], []), S)) 3 rfl (fun c => ?_) (fun c => ?_)
    · have h := h.1 c
      exact A_ret 2 (m := 87) (v := some (.int x2)) (S' := S) rfl rfl ⟨_, rfl, h⟩
    · have h := h.2 c
      refine A_call (j := 98) (As := [.ref 12, .int x4]) (fr' := (87, 26, [some (.ref 0), some (.int x1), some (.int x2), some (.int x3), some (.int x4), none], [])) (S' := S) 5 rfl (e := 0) (by omega) (sp_item 12 24 _ ⟨by decide, by decide, rfl⟩ (by decide) ?_)
      refine A_br ((it (S.1 12) 24 x4) ≤ 0) (r1 := ((87, 58, [some (.ref 0), some (.int x1), some (.int x2), some (.int x3), some (.int x4), none], []), S)) (r2 := ((87, 29, [some (.ref 0), some (.int x1), some (.int x2), some (.int x3), some (.int x4), none], []), S)) 1 rfl (fun c => ?_) (fun c => ?_)
      · have h := h.1 c
        refine ri_A.less (m := 87) (pc := 58) (L := [some (.ref 0), some (.int x1), some (.int x2), some (.int x3), some (.int x4), none]) (L' := [some (.ref 0), some (.int x1), some (.int x2), some (.int x3), some (.int x4), none]) (st := []) ⟨rfl, ⟨rfl, ⟨rfl, ⟨rfl, ⟨rfl, trivial⟩⟩⟩⟩⟩ ?_
        exact wt87_b58  (fun x1 x2 x3 x4 S hk => ih x1 x2 x3 x4 S hk) _ _ _ _ _ h
      · have h := h.2 c
        refine A_call (j := 42) (As := [.ref 10, .int x1, .int x4]) (fr' := (87, 39, [some (.ref 0), some (.int x1), some (.int x2), some (.int x3), some (.int x4), none], [])) (S' := S) 5 rfl (e := 2) (by omega) (A_imp (wt42 10 (by decide) x1 x4 h) (fun v S1 hq => ?_))
        obtain ⟨r2, hv, h⟩ := hq
        subst hv
        refine A_br (x2 = (-1 : Int32)) (r1 := ((87, 52, [some (.ref 0), some (.int x1), some (.int x2), some (.int x3), some (.int x4), some (.int r2)], []), S1)) (r2 := ((87, 46, [some (.ref 0), some (.int x1), some (.int x2), some (.int x3), some (.int x4), some (.int r2)], []), S1)) 4 rfl (fun c => ?_) (fun c => ?_)
        · have h := h.1 c
          refine ri_A.less (m := 87) (pc := 52) (L := [some (.ref 0), some (.int x1), some (.int x2), some (.int x3), some (.int x4), some (.int r2)]) (L' := [some (.ref 0), some (.int x1), none, none, some (.int x4), some (.int r2)]) (st := []) ⟨rfl, ⟨rfl, ⟨rfl, ⟨rfl, trivial⟩⟩⟩⟩ ?_
          exact wt87_b52  (fun x1 x2 x3 x4 S hk => ih x1 x2 x3 x4 S hk) _ _ _ _ h
        · have h := h.2 c
          refine A_br (r2 ≤ x3) (r1 := ((87, 58, [some (.ref 0), some (.int x1), some (.int x2), some (.int x3), some (.int x4), some (.int r2)], []), S1)) (r2 := ((87, 52, [some (.ref 0), some (.int x1), some (.int x2), some (.int x3), some (.int x4), some (.int r2)], []), S1)) 3 rfl (fun c => ?_) (fun c => ?_)
          · have h := h.1 c
            refine ri_A.less (m := 87) (pc := 58) (L := [some (.ref 0), some (.int x1), some (.int x2), some (.int x3), some (.int x4), some (.int r2)]) (L' := [some (.ref 0), some (.int x1), some (.int x2), some (.int x3), some (.int x4), none]) (st := []) ⟨rfl, ⟨rfl, ⟨rfl, ⟨rfl, ⟨rfl, trivial⟩⟩⟩⟩⟩ ?_
            exact wt87_b58  (fun x1 x2 x3 x4 S hk => ih x1 x2 x3 x4 S hk) _ _ _ _ _ h
          · have h := h.2 c
            refine ri_A.less (m := 87) (pc := 52) (L := [some (.ref 0), some (.int x1), some (.int x2), some (.int x3), some (.int x4), some (.int r2)]) (L' := [some (.ref 0), some (.int x1), none, none, some (.int x4), some (.int r2)]) (st := []) ⟨rfl, ⟨rfl, ⟨rfl, ⟨rfl, trivial⟩⟩⟩⟩ ?_
            exact wt87_b52  (fun x1 x2 x3 x4 S hk => ih x1 x2 x3 x4 S hk) _ _ _ _ h
def w87 (a : Int32) (S : ri_H) (Q : Int32 → ri_H → Prop) : Prop := ∃ nn, w87_l7   Q nn a (-1 : Int32) (0 : Int32) (0 : Int32) S
set_option maxRecDepth 10000 in
set_option maxHeartbeats 1000000 in
theorem wt87 {E : ri_E} (a : Int32) {S : ri_H} {Q : Int32 → ri_H → Prop} (h : w87  a S Q) : ri_A E 3 (ri_en 87 [.ref 0, .int a]) S (Qi Q) := by
  unfold w87 at h
  show ri_A E 3 (87, 0, [some (.ref 0), some (.int a), none, none, none, none], []) S (Qi Q)
  refine A_nx 6 (fr' := (87, 7, [some (.ref 0), some (.int a), some (.int (-1 : Int32)), some (.int (0 : Int32)), some (.int (0 : Int32)), none], [])) (S' := S) rfl ?_
  refine ri_A.less (m := 87) (pc := 7) (L := [some (.ref 0), some (.int a), some (.int (-1 : Int32)), some (.int (0 : Int32)), some (.int (0 : Int32)), none]) (L' := [some (.ref 0), some (.int a), some (.int (-1 : Int32)), some (.int (0 : Int32)), some (.int (0 : Int32)), none]) (st := []) ⟨rfl, ⟨rfl, ⟨rfl, ⟨rfl, ⟨rfl, trivial⟩⟩⟩⟩⟩ ?_
  obtain ⟨nn, h⟩ := h
  exact wt87_l7   nn _ _ _ _ _ h
/-! X4_best, depth 4 -/
def w63 (a : Int32) (b : Int32) (S : ri_H) (Q : Int32 → ri_H → Prop) : Prop := (((wi a (S.1 10 9)) = 0 → Q (-1000 : Int32) S) ∧ (¬ (wi a (S.1 10 9)) = 0 → ((¬ (wi b (3 : Int32)) = 0 → ((¬ b = (2 : Int32) → w87 a S (fun (r2 : Int32) (S1 : ri_H) => ((¬ b = 0 → ((¬ r2 = (-1 : Int32) → w42 10 a r2 S1 (fun (r4 : Int32) (S3 : ri_H) => Q r4 S3)) ∧ (¬ (¬ r2 = (-1 : Int32)) → Q (0 : Int32) S1))) ∧ (¬ (¬ b = 0) → Q r2 S1)))) ∧ (¬ (¬ b = (2 : Int32)) → w88  S (fun (r6 : Int32) (S5 : ri_H) => Q r6 S5)))) ∧ (¬ (¬ (wi b (3 : Int32)) = 0) → Q (-1000 : Int32) S))))
set_option maxRecDepth 10000 in
set_option maxHeartbeats 1000000 in
theorem wt63 {E : ri_E} (a : Int32) (b : Int32) {S : ri_H} {Q : Int32 → ri_H → Prop} (h : w63  a b S Q) : ri_A E 4 (ri_en 63 [.ref 0, .int a, .int b]) S (Qi Q) := by
  unfold w63 at h
  show ri_A E 4 (63, 0, [some (.ref 0), some (.int a), some (.int b), none], []) S (Qi Q)
  refine A_call (j := 34) (As := [.ref 10, .int a]) (fr' := (63, 8, [some (.ref 0), some (.int a), some (.int b), none], [])) (S' := S) 4 rfl (e := 0) (by omega) (sp_has 10 (by decide) _ ?_)
  refine A_br ((wi a (S.1 10 9)) = 0) (r1 := ((63, 19, [some (.ref 0), some (.int a), some (.int b), none], []), S)) (r2 := ((63, 11, [some (.ref 0), some (.int a), some (.int b), none], []), S)) 1 rfl (fun c => ?_) (fun c => ?_)
  · have h := h.1 c
    exact A_ret 2 (m := 63) (v := some (.int (-1000 : Int32))) (S' := S) rfl rfl ⟨_, rfl, h⟩
  · have h := h.2 c
    refine A_call (j := 95) (As := [.int b, .int (3 : Int32)]) (fr' := (63, 16, [some (.ref 0), some (.int a), some (.int b), none], [])) (S' := S) 3 rfl (e := 0) (by omega) (sp_within _ _ ?_)
    refine A_br (¬ (wi b (3 : Int32)) = 0) (r1 := ((63, 23, [some (.ref 0), some (.int a), some (.int b), none], []), S)) (r2 := ((63, 19, [some (.ref 0), some (.int a), some (.int b), none], []), S)) 1 rfl (fun c => ?_) (fun c => ?_)
    · have h := h.1 c
      refine A_br (¬ b = (2 : Int32)) (r1 := ((63, 33, [some (.ref 0), some (.int a), some (.int b), none], []), S)) (r2 := ((63, 28, [some (.ref 0), some (.int a), some (.int b), none], []), S)) 3 rfl (fun c => ?_) (fun c => ?_)
      · have h := h.1 c
        refine A_call (j := 87) (As := [.ref 0, .int a]) (fr' := (63, 38, [some (.ref 0), some (.int a), some (.int b), none], [])) (S' := S) 3 rfl (e := 3) (by omega) (A_imp (wt87 a h) (fun v S1 hq => ?_))
        obtain ⟨r2, hv, h⟩ := hq
        subst hv
        refine A_br (¬ b = 0) (r1 := ((63, 45, [some (.ref 0), some (.int a), some (.int b), some (.int r2)], []), S1)) (r2 := ((63, 43, [some (.ref 0), some (.int a), some (.int b), some (.int r2)], []), S1)) 3 rfl (fun c => ?_) (fun c => ?_)
        · have h := h.1 c
          refine A_br (¬ r2 = (-1 : Int32)) (r1 := ((63, 54, [some (.ref 0), some (.int a), some (.int b), some (.int r2)], []), S1)) (r2 := ((63, 50, [some (.ref 0), some (.int a), some (.int b), some (.int r2)], []), S1)) 3 rfl (fun c => ?_) (fun c => ?_)
          · have h := h.1 c
            refine A_call (j := 42) (As := [.ref 10, .int a, .int r2]) (fr' := (63, 63, [some (.ref 0), some (.int a), some (.int b), some (.int r2)], [])) (S' := S1) 5 rfl (e := 2) (by omega) (A_imp (wt42 10 (by decide) a r2 h) (fun v S3 hq => ?_))
            obtain ⟨r4, hv, h⟩ := hq
            subst hv
            exact A_ret 1 (m := 63) (v := some (.int r4)) (S' := S3) rfl rfl ⟨_, rfl, h⟩
          · have h := h.2 c
            exact A_ret 3 (m := 63) (v := some (.int (0 : Int32))) (S' := S1) rfl rfl ⟨_, rfl, h⟩
        · have h := h.2 c
          exact A_ret 2 (m := 63) (v := some (.int r2)) (S' := S1) rfl rfl ⟨_, rfl, h⟩
      · have h := h.2 c
        refine A_call (j := 88) (As := [.ref 0]) (fr' := (63, 32, [some (.ref 0), some (.int a), some (.int b), none], [])) (S' := S) 2 rfl (e := 1) (by omega) (A_imp (wt88  h) (fun v S5 hq => ?_))
        obtain ⟨r6, hv, h⟩ := hq
        subst hv
        exact A_ret 1 (m := 63) (v := some (.int r6)) (S' := S5) rfl rfl ⟨_, rfl, h⟩
    · have h := h.2 c
      exact A_ret 2 (m := 63) (v := some (.int (-1000 : Int32))) (S' := S) rfl rfl ⟨_, rfl, h⟩
/-! X4_suppose, depth 1 -/
def w93 (a : Int32) (b : Int32) (g : Int32) (S : ri_H) (Q : Int32 → ri_H → Prop) : Prop := (((b < (1 : Int32) ∨ (7 : Int32) < b) → Q a S) ∧ (b = (1 : Int32) → Q a (ri_wr S 22 (pu 5 (S.1 22) a g))) ∧ (b = (2 : Int32) → Q a (ri_wr S 23 (pu 5 (S.1 23) a g))) ∧ (b = (3 : Int32) → Q a (ri_wr S 24 (pu 5 (S.1 24) a g))) ∧ (b = (4 : Int32) → Q a (ri_wr S 25 (pu 5 (S.1 25) a g))) ∧ (b = (5 : Int32) → Q a (ri_wr S 25 (pu 5 (S.1 25) a g))) ∧ (b = (6 : Int32) → Q a (ri_wi S 19 11 g)) ∧ (b = (7 : Int32) → Q g S))
set_option maxRecDepth 10000 in
set_option maxHeartbeats 1000000 in
theorem wt93 {E : ri_E} (a : Int32) (b : Int32) (g : Int32) {S : ri_H} {Q : Int32 → ri_H → Prop} (h : w93  a b g S Q) : ri_A E 1 (ri_en 93 [.ref 0, .int a, .int b, .int g]) S (Qi Q) := by
  unfold w93 at h
  show ri_A E 1 (93, 0, [some (.ref 0), some (.int a), some (.int b), some (.int g)], []) S (Qi Q)
  refine A_nx 2 (fr' := (93, ri_tgt 1 (111) (1) (7) [43, 57, 71, 85, 85, 99, 109] b, [some (.ref 0), some (.int a), some (.int b), some (.int g)], [])) (S' := S) rfl ?_
  rcases ri_swc b (1) 7 (by decide) (by decide) with c | ⟨i, hi, c⟩
  · have c : b < Int32.ofInt (1) ∨ Int32.ofInt (7) < b := c
    have h := h.1 c
    rw [ri_tgt_out b c (by decide) (by decide)]
    exact A_ret 2 (m := 93) (v := some (.int a)) (S' := S) rfl rfl ⟨_, rfl, h⟩
  · have h := h.2
    match i, hi, c with
    | 0, hi, c =>
      have c : b = (1 : Int32) := c
      have h := h.1 c
      rw [show ri_tgt 1 (111) (1) (7) [43, 57, 71, 85, 85, 99, 109] b = 44 by rw [c]; decide]
      refine A_call (j := 99) (As := [.ref 22, .int a, .int g]) (fr' := (93, 56, [some (.ref 0), some (.int a), some (.int b), some (.int g)], [])) (S' := S) 6 rfl (e := 0) (by omega) (sp_putItem 22 5 _ _ ⟨by decide, by decide, rfl⟩ (by decide) ?_)
      exact A_ret 2 (m := 93) (v := some (.int a)) (S' := (ri_wr S 22 (pu 5 (S.1 22) a g))) rfl rfl ⟨_, rfl, h⟩
    | 1, hi, c =>
      have c : b = (2 : Int32) := c
      have h := h.2.1 c
      rw [show ri_tgt 1 (111) (1) (7) [43, 57, 71, 85, 85, 99, 109] b = 58 by rw [c]; decide]
      refine A_call (j := 99) (As := [.ref 23, .int a, .int g]) (fr' := (93, 70, [some (.ref 0), some (.int a), some (.int b), some (.int g)], [])) (S' := S) 6 rfl (e := 0) (by omega) (sp_putItem 23 5 _ _ ⟨by decide, by decide, rfl⟩ (by decide) ?_)
      exact A_ret 2 (m := 93) (v := some (.int a)) (S' := (ri_wr S 23 (pu 5 (S.1 23) a g))) rfl rfl ⟨_, rfl, h⟩
    | 2, hi, c =>
      have c : b = (3 : Int32) := c
      have h := h.2.2.1 c
      rw [show ri_tgt 1 (111) (1) (7) [43, 57, 71, 85, 85, 99, 109] b = 72 by rw [c]; decide]
      refine A_call (j := 99) (As := [.ref 24, .int a, .int g]) (fr' := (93, 84, [some (.ref 0), some (.int a), some (.int b), some (.int g)], [])) (S' := S) 6 rfl (e := 0) (by omega) (sp_putItem 24 5 _ _ ⟨by decide, by decide, rfl⟩ (by decide) ?_)
      exact A_ret 2 (m := 93) (v := some (.int a)) (S' := (ri_wr S 24 (pu 5 (S.1 24) a g))) rfl rfl ⟨_, rfl, h⟩
    | 3, hi, c =>
      have c : b = (4 : Int32) := c
      have h := h.2.2.2.1 c
      rw [show ri_tgt 1 (111) (1) (7) [43, 57, 71, 85, 85, 99, 109] b = 86 by rw [c]; decide]
      refine A_call (j := 99) (As := [.ref 25, .int a, .int g]) (fr' := (93, 98, [some (.ref 0), some (.int a), some (.int b), some (.int g)], [])) (S' := S) 6 rfl (e := 0) (by omega) (sp_putItem 25 5 _ _ ⟨by decide, by decide, rfl⟩ (by decide) ?_)
      exact A_ret 2 (m := 93) (v := some (.int a)) (S' := (ri_wr S 25 (pu 5 (S.1 25) a g))) rfl rfl ⟨_, rfl, h⟩
    | 4, hi, c =>
      have c : b = (5 : Int32) := c
      have h := h.2.2.2.2.1 c
      rw [show ri_tgt 1 (111) (1) (7) [43, 57, 71, 85, 85, 99, 109] b = 86 by rw [c]; decide]
      refine A_call (j := 99) (As := [.ref 25, .int a, .int g]) (fr' := (93, 98, [some (.ref 0), some (.int a), some (.int b), some (.int g)], [])) (S' := S) 6 rfl (e := 0) (by omega) (sp_putItem 25 5 _ _ ⟨by decide, by decide, rfl⟩ (by decide) ?_)
      exact A_ret 2 (m := 93) (v := some (.int a)) (S' := (ri_wr S 25 (pu 5 (S.1 25) a g))) rfl rfl ⟨_, rfl, h⟩
    | 5, hi, c =>
      have c : b = (6 : Int32) := c
      have h := h.2.2.2.2.2.1 c
      rw [show ri_tgt 1 (111) (1) (7) [43, 57, 71, 85, 85, 99, 109] b = 100 by rw [c]; decide]
      exact A_ret 6 (m := 93) (v := some (.int a)) (S' := (ri_wi S 19 11 g)) rfl rfl ⟨_, rfl, h⟩
    | 6, hi, c =>
      have c : b = (7 : Int32) := c
      have h := h.2.2.2.2.2.2 c
      rw [show ri_tgt 1 (111) (1) (7) [43, 57, 71, 85, 85, 99, 109] b = 110 by rw [c]; decide]
      exact A_ret 2 (m := 93) (v := some (.int g)) (S' := S) rfl rfl ⟨_, rfl, h⟩
    | i + 7, hi, c => exact absurd hi (by omega)
/-! X4_firstOtherwise, depth 4 -/
def w92_l24 (k : Nat) (Q : Int32 → ri_H → Prop) : Nat → Int32 → Int32 → ri_H → Prop
  | 0, _, _, _ => False
  | n + 1, x5, x6, S => (((S.1 k 2) ≤ x6 → Q (-1 : Int32) S) ∧ (¬ (S.1 k 2) ≤ x6 → (((40 : Int32) ≤ x6 → Q (-1 : Int32) S) ∧ (¬ (40 : Int32) ≤ x6 → w39 19 (-1 : Int32) S (fun (S4 : ri_H) => (vp_in x6 40 ∧ (((it (S4.1 24) 5 x5) = (S4.1 (k + 1) (x6).toNatClampNeg) → w92_l24 k  Q n x5 (x6 + (1 : Int32)) S4) ∧ (¬ (it (S4.1 24) 5 x5) = (S4.1 (k + 1) (x6).toNatClampNeg) → Q x6 S4))))))))
set_option maxRecDepth 10000 in
set_option maxHeartbeats 1000000 in
theorem wt92_l24 {E : ri_E} (k : Nat) (hw : k = 38 ∨ k = 40 ∨ k = 42 ∨ k = 44) {Q : Int32 → ri_H → Prop} : ∀ (n : Nat) (x5 : Int32) (x6 : Int32) (S : ri_H), w92_l24 k  Q n x5 x6 S → ri_A E 4 (92, 24, [some (.ref 0), some (.ref k), none, none, none, some (.int x5), some (.int x6)], []) S (Qi Q) := by
  rcases hw with rfl | rfl | rfl | rfl
  · intro n
    induction n with
    | zero => intro x5 x6 S h; exact h.elim
    | succ n ih =>
      intro x5 x6 S h
      unfold w92_l24 at h
      refine A_br ((S.1 38 2) ≤ x6) (r1 := ((92, 82, [some (.ref 0), some (.ref 38), none, none, none, some (.int x5), some (.int x6)], []), S)) (r2 := ((92, 33, [some (.ref 0), some (.ref 38), none, none, none, some (.int x5), some (.int x6)], []), S)) 4 rfl (fun c => ?_) (fun c => ?_)
      · have h := h.1 c
        exact A_ret 2 (m := 92) (v := some (.int (-1 : Int32))) (S' := S) rfl rfl ⟨_, rfl, h⟩
      · have h := h.2 c
        refine A_br ((40 : Int32) ≤ x6) (r1 := ((92, 82, [some (.ref 0), some (.ref 38), none, none, none, some (.int x5), some (.int x6)], []), S)) (r2 := ((92, 43, [some (.ref 0), some (.ref 38), none, none, none, some (.int x5), some (.int x6)], []), S)) 5 rfl (fun c => ?_) (fun c => ?_)
        · have h := h.1 c
          exact A_ret 2 (m := 92) (v := some (.int (-1 : Int32))) (S' := S) rfl rfl ⟨_, rfl, h⟩
        · have h := h.2 c
          refine A_call (j := 39) (As := [.ref 19, .int (-1 : Int32)]) (fr' := (92, 51, [some (.ref 0), some (.ref 38), none, none, none, some (.int x5), some (.int x6)], [])) (S' := S) 4 rfl (e := 3) (by omega) (A_imp (wt39 19 (by decide) (-1 : Int32) h) (fun v S4 hq => ?_))
          obtain ⟨hv, h⟩ := hq
          subst hv
          refine A_call (j := 98) (As := [.ref 24, .int x5]) (fr' := (92, 63, [some (.ref 0), some (.ref 38), none, none, none, some (.int x5), some (.int x6)], [])) (S' := S4) 5 rfl (e := 0) (by omega) (sp_item 24 5 _ ⟨by decide, by decide, rfl⟩ (by decide) ?_)
          refine A_ix x6 40 (r1 := ((92, 70, [some (.ref 0), some (.ref 38), none, none, none, some (.int x5), some (.int x6)], [.int (S4.1 39 (x6).toNatClampNeg), .int (it (S4.1 24) 5 x5)]), S4)) 4 rfl h.1 ?_
          have h := h.2
          refine A_br ((it (S4.1 24) 5 x5) = (S4.1 39 (x6).toNatClampNeg)) (r1 := ((92, 76, [some (.ref 0), some (.ref 38), none, none, none, some (.int x5), some (.int x6)], []), S4)) (r2 := ((92, 73, [some (.ref 0), some (.ref 38), none, none, none, some (.int x5), some (.int x6)], []), S4)) 1 rfl (fun c => ?_) (fun c => ?_)
          · have h := h.1 c
            refine A_nx 2 (fr' := (92, 24, [some (.ref 0), some (.ref 38), none, none, none, some (.int x5), some (.int (x6 + (1 : Int32)))], [])) (S' := S4) rfl ?_
            refine ri_A.less (m := 92) (pc := 24) (L := [some (.ref 0), some (.ref 38), none, none, none, some (.int x5), some (.int (x6 + (1 : Int32)))]) (L' := [some (.ref 0), some (.ref 38), none, none, none, some (.int x5), some (.int (x6 + (1 : Int32)))]) (st := []) ⟨rfl, ⟨rfl, ⟨rfl, ⟨rfl, trivial⟩⟩⟩⟩ ?_
            exact ih _ _ _ h
          · have h := h.2 c
            exact A_ret 2 (m := 92) (v := some (.int x6)) (S' := S4) rfl rfl ⟨_, rfl, h⟩
  · intro n
    induction n with
    | zero => intro x5 x6 S h; exact h.elim
    | succ n ih =>
      intro x5 x6 S h
      unfold w92_l24 at h
      refine A_br ((S.1 40 2) ≤ x6) (r1 := ((92, 82, [some (.ref 0), some (.ref 40), none, none, none, some (.int x5), some (.int x6)], []), S)) (r2 := ((92, 33, [some (.ref 0), some (.ref 40), none, none, none, some (.int x5), some (.int x6)], []), S)) 4 rfl (fun c => ?_) (fun c => ?_)
      · have h := h.1 c
        exact A_ret 2 (m := 92) (v := some (.int (-1 : Int32))) (S' := S) rfl rfl ⟨_, rfl, h⟩
      · have h := h.2 c
        refine A_br ((40 : Int32) ≤ x6) (r1 := ((92, 82, [some (.ref 0), some (.ref 40), none, none, none, some (.int x5), some (.int x6)], []), S)) (r2 := ((92, 43, [some (.ref 0), some (.ref 40), none, none, none, some (.int x5), some (.int x6)], []), S)) 5 rfl (fun c => ?_) (fun c => ?_)
        · have h := h.1 c
          exact A_ret 2 (m := 92) (v := some (.int (-1 : Int32))) (S' := S) rfl rfl ⟨_, rfl, h⟩
        · have h := h.2 c
          refine A_call (j := 39) (As := [.ref 19, .int (-1 : Int32)]) (fr' := (92, 51, [some (.ref 0), some (.ref 40), none, none, none, some (.int x5), some (.int x6)], [])) (S' := S) 4 rfl (e := 3) (by omega) (A_imp (wt39 19 (by decide) (-1 : Int32) h) (fun v S4 hq => ?_))
          obtain ⟨hv, h⟩ := hq
          subst hv
          refine A_call (j := 98) (As := [.ref 24, .int x5]) (fr' := (92, 63, [some (.ref 0), some (.ref 40), none, none, none, some (.int x5), some (.int x6)], [])) (S' := S4) 5 rfl (e := 0) (by omega) (sp_item 24 5 _ ⟨by decide, by decide, rfl⟩ (by decide) ?_)
          refine A_ix x6 40 (r1 := ((92, 70, [some (.ref 0), some (.ref 40), none, none, none, some (.int x5), some (.int x6)], [.int (S4.1 41 (x6).toNatClampNeg), .int (it (S4.1 24) 5 x5)]), S4)) 4 rfl h.1 ?_
          have h := h.2
          refine A_br ((it (S4.1 24) 5 x5) = (S4.1 41 (x6).toNatClampNeg)) (r1 := ((92, 76, [some (.ref 0), some (.ref 40), none, none, none, some (.int x5), some (.int x6)], []), S4)) (r2 := ((92, 73, [some (.ref 0), some (.ref 40), none, none, none, some (.int x5), some (.int x6)], []), S4)) 1 rfl (fun c => ?_) (fun c => ?_)
          · have h := h.1 c
            refine A_nx 2 (fr' := (92, 24, [some (.ref 0), some (.ref 40), none, none, none, some (.int x5), some (.int (x6 + (1 : Int32)))], [])) (S' := S4) rfl ?_
            refine ri_A.less (m := 92) (pc := 24) (L := [some (.ref 0), some (.ref 40), none, none, none, some (.int x5), some (.int (x6 + (1 : Int32)))]) (L' := [some (.ref 0), some (.ref 40), none, none, none, some (.int x5), some (.int (x6 + (1 : Int32)))]) (st := []) ⟨rfl, ⟨rfl, ⟨rfl, ⟨rfl, trivial⟩⟩⟩⟩ ?_
            exact ih _ _ _ h
          · have h := h.2 c
            exact A_ret 2 (m := 92) (v := some (.int x6)) (S' := S4) rfl rfl ⟨_, rfl, h⟩
  · intro n
    induction n with
    | zero => intro x5 x6 S h; exact h.elim
    | succ n ih =>
      intro x5 x6 S h
      unfold w92_l24 at h
      refine A_br ((S.1 42 2) ≤ x6) (r1 := ((92, 82, [some (.ref 0), some (.ref 42), none, none, none, some (.int x5), some (.int x6)], []), S)) (r2 := ((92, 33, [some (.ref 0), some (.ref 42), none, none, none, some (.int x5), some (.int x6)], []), S)) 4 rfl (fun c => ?_) (fun c => ?_)
      · have h := h.1 c
        exact A_ret 2 (m := 92) (v := some (.int (-1 : Int32))) (S' := S) rfl rfl ⟨_, rfl, h⟩
      · have h := h.2 c
        refine A_br ((40 : Int32) ≤ x6) (r1 := ((92, 82, [some (.ref 0), some (.ref 42), none, none, none, some (.int x5), some (.int x6)], []), S)) (r2 := ((92, 43, [some (.ref 0), some (.ref 42), none, none, none, some (.int x5), some (.int x6)], []), S)) 5 rfl (fun c => ?_) (fun c => ?_)
        · have h := h.1 c
          exact A_ret 2 (m := 92) (v := some (.int (-1 : Int32))) (S' := S) rfl rfl ⟨_, rfl, h⟩
        · have h := h.2 c
          refine A_call (j := 39) (As := [.ref 19, .int (-1 : Int32)]) (fr' := (92, 51, [some (.ref 0), some (.ref 42), none, none, none, some (.int x5), some (.int x6)], [])) (S' := S) 4 rfl (e := 3) (by omega) (A_imp (wt39 19 (by decide) (-1 : Int32) h) (fun v S4 hq => ?_))
          obtain ⟨hv, h⟩ := hq
          subst hv
          refine A_call (j := 98) (As := [.ref 24, .int x5]) (fr' := (92, 63, [some (.ref 0), some (.ref 42), none, none, none, some (.int x5), some (.int x6)], [])) (S' := S4) 5 rfl (e := 0) (by omega) (sp_item 24 5 _ ⟨by decide, by decide, rfl⟩ (by decide) ?_)
          refine A_ix x6 40 (r1 := ((92, 70, [some (.ref 0), some (.ref 42), none, none, none, some (.int x5), some (.int x6)], [.int (S4.1 43 (x6).toNatClampNeg), .int (it (S4.1 24) 5 x5)]), S4)) 4 rfl h.1 ?_
          have h := h.2
          refine A_br ((it (S4.1 24) 5 x5) = (S4.1 43 (x6).toNatClampNeg)) (r1 := ((92, 76, [some (.ref 0), some (.ref 42), none, none, none, some (.int x5), some (.int x6)], []), S4)) (r2 := ((92, 73, [some (.ref 0), some (.ref 42), none, none, none, some (.int x5), some (.int x6)], []), S4)) 1 rfl (fun c => ?_) (fun c => ?_)
          · have h := h.1 c
            refine A_nx 2 (fr' := (92, 24, [some (.ref 0), some (.ref 42), none, none, none, some (.int x5), some (.int (x6 + (1 : Int32)))], [])) (S' := S4) rfl ?_
            refine ri_A.less (m := 92) (pc := 24) (L := [some (.ref 0), some (.ref 42), none, none, none, some (.int x5), some (.int (x6 + (1 : Int32)))]) (L' := [some (.ref 0), some (.ref 42), none, none, none, some (.int x5), some (.int (x6 + (1 : Int32)))]) (st := []) ⟨rfl, ⟨rfl, ⟨rfl, ⟨rfl, trivial⟩⟩⟩⟩ ?_
            exact ih _ _ _ h
          · have h := h.2 c
            exact A_ret 2 (m := 92) (v := some (.int x6)) (S' := S4) rfl rfl ⟨_, rfl, h⟩
  · intro n
    induction n with
    | zero => intro x5 x6 S h; exact h.elim
    | succ n ih =>
      intro x5 x6 S h
      unfold w92_l24 at h
      refine A_br ((S.1 44 2) ≤ x6) (r1 := ((92, 82, [some (.ref 0), some (.ref 44), none, none, none, some (.int x5), some (.int x6)], []), S)) (r2 := ((92, 33, [some (.ref 0), some (.ref 44), none, none, none, some (.int x5), some (.int x6)], []), S)) 4 rfl (fun c => ?_) (fun c => ?_)
      · have h := h.1 c
        exact A_ret 2 (m := 92) (v := some (.int (-1 : Int32))) (S' := S) rfl rfl ⟨_, rfl, h⟩
      · have h := h.2 c
        refine A_br ((40 : Int32) ≤ x6) (r1 := ((92, 82, [some (.ref 0), some (.ref 44), none, none, none, some (.int x5), some (.int x6)], []), S)) (r2 := ((92, 43, [some (.ref 0), some (.ref 44), none, none, none, some (.int x5), some (.int x6)], []), S)) 5 rfl (fun c => ?_) (fun c => ?_)
        · have h := h.1 c
          exact A_ret 2 (m := 92) (v := some (.int (-1 : Int32))) (S' := S) rfl rfl ⟨_, rfl, h⟩
        · have h := h.2 c
          refine A_call (j := 39) (As := [.ref 19, .int (-1 : Int32)]) (fr' := (92, 51, [some (.ref 0), some (.ref 44), none, none, none, some (.int x5), some (.int x6)], [])) (S' := S) 4 rfl (e := 3) (by omega) (A_imp (wt39 19 (by decide) (-1 : Int32) h) (fun v S4 hq => ?_))
          obtain ⟨hv, h⟩ := hq
          subst hv
          refine A_call (j := 98) (As := [.ref 24, .int x5]) (fr' := (92, 63, [some (.ref 0), some (.ref 44), none, none, none, some (.int x5), some (.int x6)], [])) (S' := S4) 5 rfl (e := 0) (by omega) (sp_item 24 5 _ ⟨by decide, by decide, rfl⟩ (by decide) ?_)
          refine A_ix x6 40 (r1 := ((92, 70, [some (.ref 0), some (.ref 44), none, none, none, some (.int x5), some (.int x6)], [.int (S4.1 45 (x6).toNatClampNeg), .int (it (S4.1 24) 5 x5)]), S4)) 4 rfl h.1 ?_
          have h := h.2
          refine A_br ((it (S4.1 24) 5 x5) = (S4.1 45 (x6).toNatClampNeg)) (r1 := ((92, 76, [some (.ref 0), some (.ref 44), none, none, none, some (.int x5), some (.int x6)], []), S4)) (r2 := ((92, 73, [some (.ref 0), some (.ref 44), none, none, none, some (.int x5), some (.int x6)], []), S4)) 1 rfl (fun c => ?_) (fun c => ?_)
          · have h := h.1 c
            refine A_nx 2 (fr' := (92, 24, [some (.ref 0), some (.ref 44), none, none, none, some (.int x5), some (.int (x6 + (1 : Int32)))], [])) (S' := S4) rfl ?_
            refine ri_A.less (m := 92) (pc := 24) (L := [some (.ref 0), some (.ref 44), none, none, none, some (.int x5), some (.int (x6 + (1 : Int32)))]) (L' := [some (.ref 0), some (.ref 44), none, none, none, some (.int x5), some (.int (x6 + (1 : Int32)))]) (st := []) ⟨rfl, ⟨rfl, ⟨rfl, ⟨rfl, trivial⟩⟩⟩⟩ ?_
            exact ih _ _ _ h
          · have h := h.2 c
            exact A_ret 2 (m := 92) (v := some (.int x6)) (S' := S4) rfl rfl ⟨_, rfl, h⟩
def w92 (k : Nat) (a : Int32) (b : Int32) (g : Int32) (S : ri_H) (Q : Int32 → ri_H → Prop) : Prop := w33 19 10 S (fun (S1 : ri_H) => w93 a b g S1 (fun (r3 : Int32) (S2 : ri_H) => ∃ nn, w92_l24 k  Q nn r3 (0 : Int32) S2))
set_option maxRecDepth 10000 in
set_option maxHeartbeats 1000000 in
theorem wt92 {E : ri_E} (k : Nat) (hw : k = 38 ∨ k = 40 ∨ k = 42 ∨ k = 44) (a : Int32) (b : Int32) (g : Int32) {S : ri_H} {Q : Int32 → ri_H → Prop} (h : w92 k a b g S Q) : ri_A E 4 (ri_en 92 [.ref 0, .ref k, .int a, .int b, .int g]) S (Qi Q) := by
  rcases hw with rfl | rfl | rfl | rfl
  · unfold w92 at h
    show ri_A E 4 (92, 0, [some (.ref 0), some (.ref 38), some (.int a), some (.int b), some (.int g), none, none], []) S (Qi Q)
    refine A_call (j := 33) (As := [.ref 19, .ref 10]) (fr' := (92, 11, [some (.ref 0), some (.ref 38), some (.int a), some (.int b), some (.int g), none, none], [])) (S' := S) 5 rfl (e := 1) (by omega) (A_imp (wt33 19 10 (by decide) h) (fun v S1 hq => ?_))
    obtain ⟨hv, h⟩ := hq
    subst hv
    refine A_call (j := 93) (As := [.ref 0, .int a, .int b, .int g]) (fr' := (92, 19, [some (.ref 0), some (.ref 38), some (.int a), some (.int b), some (.int g), none, none], [])) (S' := S1) 5 rfl (e := 1) (by omega) (A_imp (wt93 a b g h) (fun v S2 hq => ?_))
    obtain ⟨r3, hv, h⟩ := hq
    subst hv
    refine A_nx 3 (fr' := (92, 24, [some (.ref 0), some (.ref 38), some (.int a), some (.int b), some (.int g), some (.int r3), some (.int (0 : Int32))], [])) (S' := S2) rfl ?_
    refine ri_A.less (m := 92) (pc := 24) (L := [some (.ref 0), some (.ref 38), some (.int a), some (.int b), some (.int g), some (.int r3), some (.int (0 : Int32))]) (L' := [some (.ref 0), some (.ref 38), none, none, none, some (.int r3), some (.int (0 : Int32))]) (st := []) ⟨rfl, ⟨rfl, ⟨rfl, ⟨rfl, trivial⟩⟩⟩⟩ ?_
    obtain ⟨nn, h⟩ := h
    exact wt92_l24 38 (by decide)  nn _ _ _ h
  · unfold w92 at h
    show ri_A E 4 (92, 0, [some (.ref 0), some (.ref 40), some (.int a), some (.int b), some (.int g), none, none], []) S (Qi Q)
    refine A_call (j := 33) (As := [.ref 19, .ref 10]) (fr' := (92, 11, [some (.ref 0), some (.ref 40), some (.int a), some (.int b), some (.int g), none, none], [])) (S' := S) 5 rfl (e := 1) (by omega) (A_imp (wt33 19 10 (by decide) h) (fun v S1 hq => ?_))
    obtain ⟨hv, h⟩ := hq
    subst hv
    refine A_call (j := 93) (As := [.ref 0, .int a, .int b, .int g]) (fr' := (92, 19, [some (.ref 0), some (.ref 40), some (.int a), some (.int b), some (.int g), none, none], [])) (S' := S1) 5 rfl (e := 1) (by omega) (A_imp (wt93 a b g h) (fun v S2 hq => ?_))
    obtain ⟨r3, hv, h⟩ := hq
    subst hv
    refine A_nx 3 (fr' := (92, 24, [some (.ref 0), some (.ref 40), some (.int a), some (.int b), some (.int g), some (.int r3), some (.int (0 : Int32))], [])) (S' := S2) rfl ?_
    refine ri_A.less (m := 92) (pc := 24) (L := [some (.ref 0), some (.ref 40), some (.int a), some (.int b), some (.int g), some (.int r3), some (.int (0 : Int32))]) (L' := [some (.ref 0), some (.ref 40), none, none, none, some (.int r3), some (.int (0 : Int32))]) (st := []) ⟨rfl, ⟨rfl, ⟨rfl, ⟨rfl, trivial⟩⟩⟩⟩ ?_
    obtain ⟨nn, h⟩ := h
    exact wt92_l24 40 (by decide)  nn _ _ _ h
  · unfold w92 at h
    show ri_A E 4 (92, 0, [some (.ref 0), some (.ref 42), some (.int a), some (.int b), some (.int g), none, none], []) S (Qi Q)
    refine A_call (j := 33) (As := [.ref 19, .ref 10]) (fr' := (92, 11, [some (.ref 0), some (.ref 42), some (.int a), some (.int b), some (.int g), none, none], [])) (S' := S) 5 rfl (e := 1) (by omega) (A_imp (wt33 19 10 (by decide) h) (fun v S1 hq => ?_))
    obtain ⟨hv, h⟩ := hq
    subst hv
    refine A_call (j := 93) (As := [.ref 0, .int a, .int b, .int g]) (fr' := (92, 19, [some (.ref 0), some (.ref 42), some (.int a), some (.int b), some (.int g), none, none], [])) (S' := S1) 5 rfl (e := 1) (by omega) (A_imp (wt93 a b g h) (fun v S2 hq => ?_))
    obtain ⟨r3, hv, h⟩ := hq
    subst hv
    refine A_nx 3 (fr' := (92, 24, [some (.ref 0), some (.ref 42), some (.int a), some (.int b), some (.int g), some (.int r3), some (.int (0 : Int32))], [])) (S' := S2) rfl ?_
    refine ri_A.less (m := 92) (pc := 24) (L := [some (.ref 0), some (.ref 42), some (.int a), some (.int b), some (.int g), some (.int r3), some (.int (0 : Int32))]) (L' := [some (.ref 0), some (.ref 42), none, none, none, some (.int r3), some (.int (0 : Int32))]) (st := []) ⟨rfl, ⟨rfl, ⟨rfl, ⟨rfl, trivial⟩⟩⟩⟩ ?_
    obtain ⟨nn, h⟩ := h
    exact wt92_l24 42 (by decide)  nn _ _ _ h
  · unfold w92 at h
    show ri_A E 4 (92, 0, [some (.ref 0), some (.ref 44), some (.int a), some (.int b), some (.int g), none, none], []) S (Qi Q)
    refine A_call (j := 33) (As := [.ref 19, .ref 10]) (fr' := (92, 11, [some (.ref 0), some (.ref 44), some (.int a), some (.int b), some (.int g), none, none], [])) (S' := S) 5 rfl (e := 1) (by omega) (A_imp (wt33 19 10 (by decide) h) (fun v S1 hq => ?_))
    obtain ⟨hv, h⟩ := hq
    subst hv
    refine A_call (j := 93) (As := [.ref 0, .int a, .int b, .int g]) (fr' := (92, 19, [some (.ref 0), some (.ref 44), some (.int a), some (.int b), some (.int g), none, none], [])) (S' := S1) 5 rfl (e := 1) (by omega) (A_imp (wt93 a b g h) (fun v S2 hq => ?_))
    obtain ⟨r3, hv, h⟩ := hq
    subst hv
    refine A_nx 3 (fr' := (92, 24, [some (.ref 0), some (.ref 44), some (.int a), some (.int b), some (.int g), some (.int r3), some (.int (0 : Int32))], [])) (S' := S2) rfl ?_
    refine ri_A.less (m := 92) (pc := 24) (L := [some (.ref 0), some (.ref 44), some (.int a), some (.int b), some (.int g), some (.int r3), some (.int (0 : Int32))]) (L' := [some (.ref 0), some (.ref 44), none, none, none, some (.int r3), some (.int (0 : Int32))]) (st := []) ⟨rfl, ⟨rfl, ⟨rfl, ⟨rfl, trivial⟩⟩⟩⟩ ?_
    obtain ⟨nn, h⟩ := h
    exact wt92_l24 44 (by decide)  nn _ _ _ h
/-! X4_toldBits, depth 5 -/
def w90_b36 (k : Nat) (K6 : Int32 → Int32 → Int32 → Int32 → Int32 → ri_H → Prop) (Q : Int32 → ri_H → Prop) (x2 : Int32) (x3 : Int32) (x4 : Int32) (x5 : Int32) (x6 : Int32) (S : ri_H) : Prop := K6 x2 x3 x4 x5 (x6 + (1 : Int32)) S
set_option maxRecDepth 10000 in
set_option maxHeartbeats 1000000 in
theorem wt90_b36 {E : ri_E} (k : Nat) (hw : k = 38 ∨ k = 40 ∨ k = 42 ∨ k = 44) {K6 : Int32 → Int32 → Int32 → Int32 → Int32 → ri_H → Prop} {Q : Int32 → ri_H → Prop} (hK6 : ∀ (x2 : Int32) (x3 : Int32) (x4 : Int32) (x5 : Int32) (x6 : Int32) (S : ri_H), K6 x2 x3 x4 x5 x6 S → ri_A E 5 (90, 6, [some (.ref 0), some (.ref k), some (.int x2), some (.int x3), some (.int x4), some (.int x5), some (.int x6)], []) S (Qi Q)) (x2 : Int32) (x3 : Int32) (x4 : Int32) (x5 : Int32) (x6 : Int32) (S : ri_H) (h : w90_b36 k K6 Q x2 x3 x4 x5 x6 S) : ri_A E 5 (90, 36, [some (.ref 0), some (.ref k), some (.int x2), some (.int x3), some (.int x4), some (.int x5), some (.int x6)], []) S (Qi Q) := by
  rcases hw with rfl | rfl | rfl | rfl
  · unfold w90_b36 at h
    refine A_nx 2 (fr' := (90, 6, [some (.ref 0), some (.ref 38), some (.int x2), some (.int x3), some (.int x4), some (.int x5), some (.int (x6 + (1 : Int32)))], [])) (S' := S) rfl ?_
    refine ri_A.less (m := 90) (pc := 6) (L := [some (.ref 0), some (.ref 38), some (.int x2), some (.int x3), some (.int x4), some (.int x5), some (.int (x6 + (1 : Int32)))]) (L' := [some (.ref 0), some (.ref 38), some (.int x2), some (.int x3), some (.int x4), some (.int x5), some (.int (x6 + (1 : Int32)))]) (st := []) ⟨rfl, ⟨rfl, ⟨rfl, ⟨rfl, ⟨rfl, ⟨rfl, ⟨rfl, trivial⟩⟩⟩⟩⟩⟩⟩ ?_
    exact hK6 _ _ _ _ _ _ h
  · unfold w90_b36 at h
    refine A_nx 2 (fr' := (90, 6, [some (.ref 0), some (.ref 40), some (.int x2), some (.int x3), some (.int x4), some (.int x5), some (.int (x6 + (1 : Int32)))], [])) (S' := S) rfl ?_
    refine ri_A.less (m := 90) (pc := 6) (L := [some (.ref 0), some (.ref 40), some (.int x2), some (.int x3), some (.int x4), some (.int x5), some (.int (x6 + (1 : Int32)))]) (L' := [some (.ref 0), some (.ref 40), some (.int x2), some (.int x3), some (.int x4), some (.int x5), some (.int (x6 + (1 : Int32)))]) (st := []) ⟨rfl, ⟨rfl, ⟨rfl, ⟨rfl, ⟨rfl, ⟨rfl, ⟨rfl, trivial⟩⟩⟩⟩⟩⟩⟩ ?_
    exact hK6 _ _ _ _ _ _ h
  · unfold w90_b36 at h
    refine A_nx 2 (fr' := (90, 6, [some (.ref 0), some (.ref 42), some (.int x2), some (.int x3), some (.int x4), some (.int x5), some (.int (x6 + (1 : Int32)))], [])) (S' := S) rfl ?_
    refine ri_A.less (m := 90) (pc := 6) (L := [some (.ref 0), some (.ref 42), some (.int x2), some (.int x3), some (.int x4), some (.int x5), some (.int (x6 + (1 : Int32)))]) (L' := [some (.ref 0), some (.ref 42), some (.int x2), some (.int x3), some (.int x4), some (.int x5), some (.int (x6 + (1 : Int32)))]) (st := []) ⟨rfl, ⟨rfl, ⟨rfl, ⟨rfl, ⟨rfl, ⟨rfl, ⟨rfl, trivial⟩⟩⟩⟩⟩⟩⟩ ?_
    exact hK6 _ _ _ _ _ _ h
  · unfold w90_b36 at h
    refine A_nx 2 (fr' := (90, 6, [some (.ref 0), some (.ref 44), some (.int x2), some (.int x3), some (.int x4), some (.int x5), some (.int (x6 + (1 : Int32)))], [])) (S' := S) rfl ?_
    refine ri_A.less (m := 90) (pc := 6) (L := [some (.ref 0), some (.ref 44), some (.int x2), some (.int x3), some (.int x4), some (.int x5), some (.int (x6 + (1 : Int32)))]) (L' := [some (.ref 0), some (.ref 44), some (.int x2), some (.int x3), some (.int x4), some (.int x5), some (.int (x6 + (1 : Int32)))]) (st := []) ⟨rfl, ⟨rfl, ⟨rfl, ⟨rfl, ⟨rfl, ⟨rfl, ⟨rfl, trivial⟩⟩⟩⟩⟩⟩⟩ ?_
    exact hK6 _ _ _ _ _ _ h
def w90_l6 (k : Nat) (Q : Int32 → ri_H → Prop) : Nat → Int32 → Int32 → Int32 → Int32 → Int32 → ri_H → Prop
  | 0, _, _, _, _, _, _ => False
  | n + 1, x2, x3, x4, x5, x6, S => ((x4 ≤ x6 → Q x5 S) ∧ (¬ (x4 ≤ x6) → w92 k x2 x3 x6 S (fun (r2 : Int32) (S1 : ri_H) => ((¬ r2 = (-1 : Int32) → w90_b36 k (fun x2 x3 x4 x5 x6 S => w90_l6 k  Q n x2 x3 x4 x5 x6 S) Q x2 x3 x4 x5 x6 S1) ∧ (¬ (¬ r2 = (-1 : Int32)) → w90_b36 k (fun x2 x3 x4 x5 x6 S => w90_l6 k  Q n x2 x3 x4 x5 x6 S) Q x2 x3 x4 (x5 ||| (bt x6)) x6 S1)))))
set_option maxRecDepth 10000 in
set_option maxHeartbeats 1000000 in
theorem wt90_l6 {E : ri_E} (k : Nat) (hw : k = 38 ∨ k = 40 ∨ k = 42 ∨ k = 44) {Q : Int32 → ri_H → Prop} : ∀ (n : Nat) (x2 : Int32) (x3 : Int32) (x4 : Int32) (x5 : Int32) (x6 : Int32) (S : ri_H), w90_l6 k  Q n x2 x3 x4 x5 x6 S → ri_A E 5 (90, 6, [some (.ref 0), some (.ref k), some (.int x2), some (.int x3), some (.int x4), some (.int x5), some (.int x6)], []) S (Qi Q) := by
  rcases hw with rfl | rfl | rfl | rfl
  · intro n
    induction n with
    | zero => intro x2 x3 x4 x5 x6 S h; exact h.elim
    | succ n ih =>
      intro x2 x3 x4 x5 x6 S h
      unfold w90_l6 at h
      refine A_br (x4 ≤ x6) (r1 := ((90, 42, [some (.ref 0), some (.ref 38), some (.int x2), some (.int x3), some (.int x4), some (.int x5), some (.int x6)], []), S)) (r2 := ((90, 13, [some (.ref 0), some (.ref 38), some (.int x2), some (.int x3), some (.int x4), some (.int x5), some (.int x6)], []), S)) 3 rfl (fun c => ?_) (fun c => ?_)
      · have h := h.1 c
        exact A_ret 2 (m := 90) (v := some (.int x5)) (S' := S) rfl rfl ⟨_, rfl, h⟩
      · have h := h.2 c
        refine A_call (j := 92) (As := [.ref 0, .ref 38, .int x2, .int x3, .int x6]) (fr' := (90, 22, [some (.ref 0), some (.ref 38), some (.int x2), some (.int x3), some (.int x4), some (.int x5), some (.int x6)], [])) (S' := S) 6 rfl (e := 4) (by omega) (A_imp (wt92 38 (by decide) x2 x3 x6 h) (fun v S1 hq => ?_))
        obtain ⟨r2, hv, h⟩ := hq
        subst hv
        refine A_br (¬ r2 = (-1 : Int32)) (r1 := ((90, 36, [some (.ref 0), some (.ref 38), some (.int x2), some (.int x3), some (.int x4), some (.int x5), some (.int x6)], []), S1)) (r2 := ((90, 26, [some (.ref 0), some (.ref 38), some (.int x2), some (.int x3), some (.int x4), some (.int x5), some (.int x6)], []), S1)) 2 rfl (fun c => ?_) (fun c => ?_)
        · have h := h.1 c
          refine ri_A.less (m := 90) (pc := 36) (L := [some (.ref 0), some (.ref 38), some (.int x2), some (.int x3), some (.int x4), some (.int x5), some (.int x6)]) (L' := [some (.ref 0), some (.ref 38), some (.int x2), some (.int x3), some (.int x4), some (.int x5), some (.int x6)]) (st := []) ⟨rfl, ⟨rfl, ⟨rfl, ⟨rfl, ⟨rfl, ⟨rfl, ⟨rfl, trivial⟩⟩⟩⟩⟩⟩⟩ ?_
          exact wt90_b36 38 (by decide) (fun x2 x3 x4 x5 x6 S hk => ih x2 x3 x4 x5 x6 S hk) _ _ _ _ _ _ h
        · have h := h.2 c
          refine A_call (j := 97) (As := [.int x6]) (fr' := (90, 33, [some (.ref 0), some (.ref 38), some (.int x2), some (.int x3), some (.int x4), some (.int x5), some (.int x6)], [.int x5])) (S' := S1) 3 rfl (e := 1) (by omega) (sp_bit _ ?_)
          refine A_nx 2 (fr' := (90, 36, [some (.ref 0), some (.ref 38), some (.int x2), some (.int x3), some (.int x4), some (.int (x5 ||| (bt x6))), some (.int x6)], [])) (S' := S1) rfl ?_
          refine ri_A.less (m := 90) (pc := 36) (L := [some (.ref 0), some (.ref 38), some (.int x2), some (.int x3), some (.int x4), some (.int (x5 ||| (bt x6))), some (.int x6)]) (L' := [some (.ref 0), some (.ref 38), some (.int x2), some (.int x3), some (.int x4), some (.int (x5 ||| (bt x6))), some (.int x6)]) (st := []) ⟨rfl, ⟨rfl, ⟨rfl, ⟨rfl, ⟨rfl, ⟨rfl, ⟨rfl, trivial⟩⟩⟩⟩⟩⟩⟩ ?_
          exact wt90_b36 38 (by decide) (fun x2 x3 x4 x5 x6 S hk => ih x2 x3 x4 x5 x6 S hk) _ _ _ _ _ _ h
  · intro n
    induction n with
    | zero => intro x2 x3 x4 x5 x6 S h; exact h.elim
    | succ n ih =>
      intro x2 x3 x4 x5 x6 S h
      unfold w90_l6 at h
      refine A_br (x4 ≤ x6) (r1 := ((90, 42, [some (.ref 0), some (.ref 40), some (.int x2), some (.int x3), some (.int x4), some (.int x5), some (.int x6)], []), S)) (r2 := ((90, 13, [some (.ref 0), some (.ref 40), some (.int x2), some (.int x3), some (.int x4), some (.int x5), some (.int x6)], []), S)) 3 rfl (fun c => ?_) (fun c => ?_)
      · have h := h.1 c
        exact A_ret 2 (m := 90) (v := some (.int x5)) (S' := S) rfl rfl ⟨_, rfl, h⟩
      · have h := h.2 c
        refine A_call (j := 92) (As := [.ref 0, .ref 40, .int x2, .int x3, .int x6]) (fr' := (90, 22, [some (.ref 0), some (.ref 40), some (.int x2), some (.int x3), some (.int x4), some (.int x5), some (.int x6)], [])) (S' := S) 6 rfl (e := 4) (by omega) (A_imp (wt92 40 (by decide) x2 x3 x6 h) (fun v S1 hq => ?_))
        obtain ⟨r2, hv, h⟩ := hq
        subst hv
        refine A_br (¬ r2 = (-1 : Int32)) (r1 := ((90, 36, [some (.ref 0), some (.ref 40), some (.int x2), some (.int x3), some (.int x4), some (.int x5), some (.int x6)], []), S1)) (r2 := ((90, 26, [some (.ref 0), some (.ref 40), some (.int x2), some (.int x3), some (.int x4), some (.int x5), some (.int x6)], []), S1)) 2 rfl (fun c => ?_) (fun c => ?_)
        · have h := h.1 c
          refine ri_A.less (m := 90) (pc := 36) (L := [some (.ref 0), some (.ref 40), some (.int x2), some (.int x3), some (.int x4), some (.int x5), some (.int x6)]) (L' := [some (.ref 0), some (.ref 40), some (.int x2), some (.int x3), some (.int x4), some (.int x5), some (.int x6)]) (st := []) ⟨rfl, ⟨rfl, ⟨rfl, ⟨rfl, ⟨rfl, ⟨rfl, ⟨rfl, trivial⟩⟩⟩⟩⟩⟩⟩ ?_
          exact wt90_b36 40 (by decide) (fun x2 x3 x4 x5 x6 S hk => ih x2 x3 x4 x5 x6 S hk) _ _ _ _ _ _ h
        · have h := h.2 c
          refine A_call (j := 97) (As := [.int x6]) (fr' := (90, 33, [some (.ref 0), some (.ref 40), some (.int x2), some (.int x3), some (.int x4), some (.int x5), some (.int x6)], [.int x5])) (S' := S1) 3 rfl (e := 1) (by omega) (sp_bit _ ?_)
          refine A_nx 2 (fr' := (90, 36, [some (.ref 0), some (.ref 40), some (.int x2), some (.int x3), some (.int x4), some (.int (x5 ||| (bt x6))), some (.int x6)], [])) (S' := S1) rfl ?_
          refine ri_A.less (m := 90) (pc := 36) (L := [some (.ref 0), some (.ref 40), some (.int x2), some (.int x3), some (.int x4), some (.int (x5 ||| (bt x6))), some (.int x6)]) (L' := [some (.ref 0), some (.ref 40), some (.int x2), some (.int x3), some (.int x4), some (.int (x5 ||| (bt x6))), some (.int x6)]) (st := []) ⟨rfl, ⟨rfl, ⟨rfl, ⟨rfl, ⟨rfl, ⟨rfl, ⟨rfl, trivial⟩⟩⟩⟩⟩⟩⟩ ?_
          exact wt90_b36 40 (by decide) (fun x2 x3 x4 x5 x6 S hk => ih x2 x3 x4 x5 x6 S hk) _ _ _ _ _ _ h
  · intro n
    induction n with
    | zero => intro x2 x3 x4 x5 x6 S h; exact h.elim
    | succ n ih =>
      intro x2 x3 x4 x5 x6 S h
      unfold w90_l6 at h
      refine A_br (x4 ≤ x6) (r1 := ((90, 42, [some (.ref 0), some (.ref 42), some (.int x2), some (.int x3), some (.int x4), some (.int x5), some (.int x6)], []), S)) (r2 := ((90, 13, [some (.ref 0), some (.ref 42), some (.int x2), some (.int x3), some (.int x4), some (.int x5), some (.int x6)], []), S)) 3 rfl (fun c => ?_) (fun c => ?_)
      · have h := h.1 c
        exact A_ret 2 (m := 90) (v := some (.int x5)) (S' := S) rfl rfl ⟨_, rfl, h⟩
      · have h := h.2 c
        refine A_call (j := 92) (As := [.ref 0, .ref 42, .int x2, .int x3, .int x6]) (fr' := (90, 22, [some (.ref 0), some (.ref 42), some (.int x2), some (.int x3), some (.int x4), some (.int x5), some (.int x6)], [])) (S' := S) 6 rfl (e := 4) (by omega) (A_imp (wt92 42 (by decide) x2 x3 x6 h) (fun v S1 hq => ?_))
        obtain ⟨r2, hv, h⟩ := hq
        subst hv
        refine A_br (¬ r2 = (-1 : Int32)) (r1 := ((90, 36, [some (.ref 0), some (.ref 42), some (.int x2), some (.int x3), some (.int x4), some (.int x5), some (.int x6)], []), S1)) (r2 := ((90, 26, [some (.ref 0), some (.ref 42), some (.int x2), some (.int x3), some (.int x4), some (.int x5), some (.int x6)], []), S1)) 2 rfl (fun c => ?_) (fun c => ?_)
        · have h := h.1 c
          refine ri_A.less (m := 90) (pc := 36) (L := [some (.ref 0), some (.ref 42), some (.int x2), some (.int x3), some (.int x4), some (.int x5), some (.int x6)]) (L' := [some (.ref 0), some (.ref 42), some (.int x2), some (.int x3), some (.int x4), some (.int x5), some (.int x6)]) (st := []) ⟨rfl, ⟨rfl, ⟨rfl, ⟨rfl, ⟨rfl, ⟨rfl, ⟨rfl, trivial⟩⟩⟩⟩⟩⟩⟩ ?_
          exact wt90_b36 42 (by decide) (fun x2 x3 x4 x5 x6 S hk => ih x2 x3 x4 x5 x6 S hk) _ _ _ _ _ _ h
        · have h := h.2 c
          refine A_call (j := 97) (As := [.int x6]) (fr' := (90, 33, [some (.ref 0), some (.ref 42), some (.int x2), some (.int x3), some (.int x4), some (.int x5), some (.int x6)], [.int x5])) (S' := S1) 3 rfl (e := 1) (by omega) (sp_bit _ ?_)
          refine A_nx 2 (fr' := (90, 36, [some (.ref 0), some (.ref 42), some (.int x2), some (.int x3), some (.int x4), some (.int (x5 ||| (bt x6))), some (.int x6)], [])) (S' := S1) rfl ?_
          refine ri_A.less (m := 90) (pc := 36) (L := [some (.ref 0), some (.ref 42), some (.int x2), some (.int x3), some (.int x4), some (.int (x5 ||| (bt x6))), some (.int x6)]) (L' := [some (.ref 0), some (.ref 42), some (.int x2), some (.int x3), some (.int x4), some (.int (x5 ||| (bt x6))), some (.int x6)]) (st := []) ⟨rfl, ⟨rfl, ⟨rfl, ⟨rfl, ⟨rfl, ⟨rfl, ⟨rfl, trivial⟩⟩⟩⟩⟩⟩⟩ ?_
          exact wt90_b36 42 (by decide) (fun x2 x3 x4 x5 x6 S hk => ih x2 x3 x4 x5 x6 S hk) _ _ _ _ _ _ h
  · intro n
    induction n with
    | zero => intro x2 x3 x4 x5 x6 S h; exact h.elim
    | succ n ih =>
      intro x2 x3 x4 x5 x6 S h
      unfold w90_l6 at h
      refine A_br (x4 ≤ x6) (r1 := ((90, 42, [some (.ref 0), some (.ref 44), some (.int x2), some (.int x3), some (.int x4), some (.int x5), some (.int x6)], []), S)) (r2 := ((90, 13, [some (.ref 0), some (.ref 44), some (.int x2), some (.int x3), some (.int x4), some (.int x5), some (.int x6)], []), S)) 3 rfl (fun c => ?_) (fun c => ?_)
      · have h := h.1 c
        exact A_ret 2 (m := 90) (v := some (.int x5)) (S' := S) rfl rfl ⟨_, rfl, h⟩
      · have h := h.2 c
        refine A_call (j := 92) (As := [.ref 0, .ref 44, .int x2, .int x3, .int x6]) (fr' := (90, 22, [some (.ref 0), some (.ref 44), some (.int x2), some (.int x3), some (.int x4), some (.int x5), some (.int x6)], [])) (S' := S) 6 rfl (e := 4) (by omega) (A_imp (wt92 44 (by decide) x2 x3 x6 h) (fun v S1 hq => ?_))
        obtain ⟨r2, hv, h⟩ := hq
        subst hv
        refine A_br (¬ r2 = (-1 : Int32)) (r1 := ((90, 36, [some (.ref 0), some (.ref 44), some (.int x2), some (.int x3), some (.int x4), some (.int x5), some (.int x6)], []), S1)) (r2 := ((90, 26, [some (.ref 0), some (.ref 44), some (.int x2), some (.int x3), some (.int x4), some (.int x5), some (.int x6)], []), S1)) 2 rfl (fun c => ?_) (fun c => ?_)
        · have h := h.1 c
          refine ri_A.less (m := 90) (pc := 36) (L := [some (.ref 0), some (.ref 44), some (.int x2), some (.int x3), some (.int x4), some (.int x5), some (.int x6)]) (L' := [some (.ref 0), some (.ref 44), some (.int x2), some (.int x3), some (.int x4), some (.int x5), some (.int x6)]) (st := []) ⟨rfl, ⟨rfl, ⟨rfl, ⟨rfl, ⟨rfl, ⟨rfl, ⟨rfl, trivial⟩⟩⟩⟩⟩⟩⟩ ?_
          exact wt90_b36 44 (by decide) (fun x2 x3 x4 x5 x6 S hk => ih x2 x3 x4 x5 x6 S hk) _ _ _ _ _ _ h
        · have h := h.2 c
          refine A_call (j := 97) (As := [.int x6]) (fr' := (90, 33, [some (.ref 0), some (.ref 44), some (.int x2), some (.int x3), some (.int x4), some (.int x5), some (.int x6)], [.int x5])) (S' := S1) 3 rfl (e := 1) (by omega) (sp_bit _ ?_)
          refine A_nx 2 (fr' := (90, 36, [some (.ref 0), some (.ref 44), some (.int x2), some (.int x3), some (.int x4), some (.int (x5 ||| (bt x6))), some (.int x6)], [])) (S' := S1) rfl ?_
          refine ri_A.less (m := 90) (pc := 36) (L := [some (.ref 0), some (.ref 44), some (.int x2), some (.int x3), some (.int x4), some (.int (x5 ||| (bt x6))), some (.int x6)]) (L' := [some (.ref 0), some (.ref 44), some (.int x2), some (.int x3), some (.int x4), some (.int (x5 ||| (bt x6))), some (.int x6)]) (st := []) ⟨rfl, ⟨rfl, ⟨rfl, ⟨rfl, ⟨rfl, ⟨rfl, ⟨rfl, trivial⟩⟩⟩⟩⟩⟩⟩ ?_
          exact wt90_b36 44 (by decide) (fun x2 x3 x4 x5 x6 S hk => ih x2 x3 x4 x5 x6 S hk) _ _ _ _ _ _ h
def w90 (k : Nat) (a : Int32) (b : Int32) (g : Int32) (S : ri_H) (Q : Int32 → ri_H → Prop) : Prop := ∃ nn, w90_l6 k  Q nn a b g (0 : Int32) (0 : Int32) S
set_option maxRecDepth 10000 in
set_option maxHeartbeats 1000000 in
theorem wt90 {E : ri_E} (k : Nat) (hw : k = 38 ∨ k = 40 ∨ k = 42 ∨ k = 44) (a : Int32) (b : Int32) (g : Int32) {S : ri_H} {Q : Int32 → ri_H → Prop} (h : w90 k a b g S Q) : ri_A E 5 (ri_en 90 [.ref 0, .ref k, .int a, .int b, .int g]) S (Qi Q) := by
  rcases hw with rfl | rfl | rfl | rfl
  · unfold w90 at h
    show ri_A E 5 (90, 0, [some (.ref 0), some (.ref 38), some (.int a), some (.int b), some (.int g), none, none], []) S (Qi Q)
    refine A_nx 4 (fr' := (90, 6, [some (.ref 0), some (.ref 38), some (.int a), some (.int b), some (.int g), some (.int (0 : Int32)), some (.int (0 : Int32))], [])) (S' := S) rfl ?_
    refine ri_A.less (m := 90) (pc := 6) (L := [some (.ref 0), some (.ref 38), some (.int a), some (.int b), some (.int g), some (.int (0 : Int32)), some (.int (0 : Int32))]) (L' := [some (.ref 0), some (.ref 38), some (.int a), some (.int b), some (.int g), some (.int (0 : Int32)), some (.int (0 : Int32))]) (st := []) ⟨rfl, ⟨rfl, ⟨rfl, ⟨rfl, ⟨rfl, ⟨rfl, ⟨rfl, trivial⟩⟩⟩⟩⟩⟩⟩ ?_
    obtain ⟨nn, h⟩ := h
    exact wt90_l6 38 (by decide)  nn _ _ _ _ _ _ h
  · unfold w90 at h
    show ri_A E 5 (90, 0, [some (.ref 0), some (.ref 40), some (.int a), some (.int b), some (.int g), none, none], []) S (Qi Q)
    refine A_nx 4 (fr' := (90, 6, [some (.ref 0), some (.ref 40), some (.int a), some (.int b), some (.int g), some (.int (0 : Int32)), some (.int (0 : Int32))], [])) (S' := S) rfl ?_
    refine ri_A.less (m := 90) (pc := 6) (L := [some (.ref 0), some (.ref 40), some (.int a), some (.int b), some (.int g), some (.int (0 : Int32)), some (.int (0 : Int32))]) (L' := [some (.ref 0), some (.ref 40), some (.int a), some (.int b), some (.int g), some (.int (0 : Int32)), some (.int (0 : Int32))]) (st := []) ⟨rfl, ⟨rfl, ⟨rfl, ⟨rfl, ⟨rfl, ⟨rfl, ⟨rfl, trivial⟩⟩⟩⟩⟩⟩⟩ ?_
    obtain ⟨nn, h⟩ := h
    exact wt90_l6 40 (by decide)  nn _ _ _ _ _ _ h
  · unfold w90 at h
    show ri_A E 5 (90, 0, [some (.ref 0), some (.ref 42), some (.int a), some (.int b), some (.int g), none, none], []) S (Qi Q)
    refine A_nx 4 (fr' := (90, 6, [some (.ref 0), some (.ref 42), some (.int a), some (.int b), some (.int g), some (.int (0 : Int32)), some (.int (0 : Int32))], [])) (S' := S) rfl ?_
    refine ri_A.less (m := 90) (pc := 6) (L := [some (.ref 0), some (.ref 42), some (.int a), some (.int b), some (.int g), some (.int (0 : Int32)), some (.int (0 : Int32))]) (L' := [some (.ref 0), some (.ref 42), some (.int a), some (.int b), some (.int g), some (.int (0 : Int32)), some (.int (0 : Int32))]) (st := []) ⟨rfl, ⟨rfl, ⟨rfl, ⟨rfl, ⟨rfl, ⟨rfl, ⟨rfl, trivial⟩⟩⟩⟩⟩⟩⟩ ?_
    obtain ⟨nn, h⟩ := h
    exact wt90_l6 42 (by decide)  nn _ _ _ _ _ _ h
  · unfold w90 at h
    show ri_A E 5 (90, 0, [some (.ref 0), some (.ref 44), some (.int a), some (.int b), some (.int g), none, none], []) S (Qi Q)
    refine A_nx 4 (fr' := (90, 6, [some (.ref 0), some (.ref 44), some (.int a), some (.int b), some (.int g), some (.int (0 : Int32)), some (.int (0 : Int32))], [])) (S' := S) rfl ?_
    refine ri_A.less (m := 90) (pc := 6) (L := [some (.ref 0), some (.ref 44), some (.int a), some (.int b), some (.int g), some (.int (0 : Int32)), some (.int (0 : Int32))]) (L' := [some (.ref 0), some (.ref 44), some (.int a), some (.int b), some (.int g), some (.int (0 : Int32)), some (.int (0 : Int32))]) (st := []) ⟨rfl, ⟨rfl, ⟨rfl, ⟨rfl, ⟨rfl, ⟨rfl, ⟨rfl, trivial⟩⟩⟩⟩⟩⟩⟩ ?_
    obtain ⟨nn, h⟩ := h
    exact wt90_l6 44 (by decide)  nn _ _ _ _ _ _ h
/-! X4_toldMoods, depth 5 -/
def w91_b98 (k : Nat) (K32 : Int32 → Int32 → Int32 → Int32 → Int32 → Int32 → Int32 → ri_H → Prop) (Q : Int32 → ri_H → Prop) (x2 : Int32) (x3 : Int32) (x4 : Int32) (x5 : Int32) (x6 : Int32) (x7 : Int32) (x8 : Int32) (S : ri_H) : Prop := K32 x2 x3 x4 x5 x6 x7 (x8 + (1 : Int32)) S
set_option maxRecDepth 10000 in
set_option maxHeartbeats 1000000 in
theorem wt91_b98 {E : ri_E} (k : Nat) (hw : k = 38 ∨ k = 40 ∨ k = 42 ∨ k = 44) {K32 : Int32 → Int32 → Int32 → Int32 → Int32 → Int32 → Int32 → ri_H → Prop} {Q : Int32 → ri_H → Prop} (hK32 : ∀ (x2 : Int32) (x3 : Int32) (x4 : Int32) (x5 : Int32) (x6 : Int32) (x7 : Int32) (x8 : Int32) (S : ri_H), K32 x2 x3 x4 x5 x6 x7 x8 S → ri_A E 5 (91, 32, [some (.ref 0), some (.ref k), some (.int x2), some (.int x3), some (.int x4), some (.int x5), some (.int x6), some (.int x7), some (.int x8)], []) S (Qi Q)) (x2 : Int32) (x3 : Int32) (x4 : Int32) (x5 : Int32) (x6 : Int32) (x7 : Int32) (x8 : Int32) (S : ri_H) (h : w91_b98 k K32 Q x2 x3 x4 x5 x6 x7 x8 S) : ri_A E 5 (91, 98, [some (.ref 0), some (.ref k), some (.int x2), some (.int x3), some (.int x4), some (.int x5), some (.int x6), some (.int x7), some (.int x8)], []) S (Qi Q) := by
  rcases hw with rfl | rfl | rfl | rfl
  · unfold w91_b98 at h
    refine A_nx 2 (fr' := (91, 32, [some (.ref 0), some (.ref 38), some (.int x2), some (.int x3), some (.int x4), some (.int x5), some (.int x6), some (.int x7), some (.int (x8 + (1 : Int32)))], [])) (S' := S) rfl ?_
    refine ri_A.less (m := 91) (pc := 32) (L := [some (.ref 0), some (.ref 38), some (.int x2), some (.int x3), some (.int x4), some (.int x5), some (.int x6), some (.int x7), some (.int (x8 + (1 : Int32)))]) (L' := [some (.ref 0), some (.ref 38), some (.int x2), some (.int x3), some (.int x4), some (.int x5), some (.int x6), some (.int x7), some (.int (x8 + (1 : Int32)))]) (st := []) ⟨rfl, ⟨rfl, ⟨rfl, ⟨rfl, ⟨rfl, ⟨rfl, ⟨rfl, ⟨rfl, ⟨rfl, trivial⟩⟩⟩⟩⟩⟩⟩⟩⟩ ?_
    exact hK32 _ _ _ _ _ _ _ _ h
  · unfold w91_b98 at h
    refine A_nx 2 (fr' := (91, 32, [some (.ref 0), some (.ref 40), some (.int x2), some (.int x3), some (.int x4), some (.int x5), some (.int x6), some (.int x7), some (.int (x8 + (1 : Int32)))], [])) (S' := S) rfl ?_
    refine ri_A.less (m := 91) (pc := 32) (L := [some (.ref 0), some (.ref 40), some (.int x2), some (.int x3), some (.int x4), some (.int x5), some (.int x6), some (.int x7), some (.int (x8 + (1 : Int32)))]) (L' := [some (.ref 0), some (.ref 40), some (.int x2), some (.int x3), some (.int x4), some (.int x5), some (.int x6), some (.int x7), some (.int (x8 + (1 : Int32)))]) (st := []) ⟨rfl, ⟨rfl, ⟨rfl, ⟨rfl, ⟨rfl, ⟨rfl, ⟨rfl, ⟨rfl, ⟨rfl, trivial⟩⟩⟩⟩⟩⟩⟩⟩⟩ ?_
    exact hK32 _ _ _ _ _ _ _ _ h
  · unfold w91_b98 at h
    refine A_nx 2 (fr' := (91, 32, [some (.ref 0), some (.ref 42), some (.int x2), some (.int x3), some (.int x4), some (.int x5), some (.int x6), some (.int x7), some (.int (x8 + (1 : Int32)))], [])) (S' := S) rfl ?_
    refine ri_A.less (m := 91) (pc := 32) (L := [some (.ref 0), some (.ref 42), some (.int x2), some (.int x3), some (.int x4), some (.int x5), some (.int x6), some (.int x7), some (.int (x8 + (1 : Int32)))]) (L' := [some (.ref 0), some (.ref 42), some (.int x2), some (.int x3), some (.int x4), some (.int x5), some (.int x6), some (.int x7), some (.int (x8 + (1 : Int32)))]) (st := []) ⟨rfl, ⟨rfl, ⟨rfl, ⟨rfl, ⟨rfl, ⟨rfl, ⟨rfl, ⟨rfl, ⟨rfl, trivial⟩⟩⟩⟩⟩⟩⟩⟩⟩ ?_
    exact hK32 _ _ _ _ _ _ _ _ h
  · unfold w91_b98 at h
    refine A_nx 2 (fr' := (91, 32, [some (.ref 0), some (.ref 44), some (.int x2), some (.int x3), some (.int x4), some (.int x5), some (.int x6), some (.int x7), some (.int (x8 + (1 : Int32)))], [])) (S' := S) rfl ?_
    refine ri_A.less (m := 91) (pc := 32) (L := [some (.ref 0), some (.ref 44), some (.int x2), some (.int x3), some (.int x4), some (.int x5), some (.int x6), some (.int x7), some (.int (x8 + (1 : Int32)))]) (L' := [some (.ref 0), some (.ref 44), some (.int x2), some (.int x3), some (.int x4), some (.int x5), some (.int x6), some (.int x7), some (.int (x8 + (1 : Int32)))]) (st := []) ⟨rfl, ⟨rfl, ⟨rfl, ⟨rfl, ⟨rfl, ⟨rfl, ⟨rfl, ⟨rfl, ⟨rfl, trivial⟩⟩⟩⟩⟩⟩⟩⟩⟩ ?_
    exact hK32 _ _ _ _ _ _ _ _ h
def w91_b93 (k : Nat) (K32 : Int32 → Int32 → Int32 → Int32 → Int32 → Int32 → Int32 → ri_H → Prop) (Q : Int32 → ri_H → Prop) (x2 : Int32) (x3 : Int32) (x4 : Int32) (x5 : Int32) (x6 : Int32) (x8 : Int32) (s0 : Int32) (S : ri_H) : Prop := w91_b98 k K32 Q x2 x3 x4 x5 (x6 + (1 : Int32)) s0 x8 S
set_option maxRecDepth 10000 in
set_option maxHeartbeats 1000000 in
theorem wt91_b93 {E : ri_E} (k : Nat) (hw : k = 38 ∨ k = 40 ∨ k = 42 ∨ k = 44) {K32 : Int32 → Int32 → Int32 → Int32 → Int32 → Int32 → Int32 → ri_H → Prop} {Q : Int32 → ri_H → Prop} (hK32 : ∀ (x2 : Int32) (x3 : Int32) (x4 : Int32) (x5 : Int32) (x6 : Int32) (x7 : Int32) (x8 : Int32) (S : ri_H), K32 x2 x3 x4 x5 x6 x7 x8 S → ri_A E 5 (91, 32, [some (.ref 0), some (.ref k), some (.int x2), some (.int x3), some (.int x4), some (.int x5), some (.int x6), some (.int x7), some (.int x8)], []) S (Qi Q)) (x2 : Int32) (x3 : Int32) (x4 : Int32) (x5 : Int32) (x6 : Int32) (x8 : Int32) (s0 : Int32) (S : ri_H) (h : w91_b93 k K32 Q x2 x3 x4 x5 x6 x8 s0 S) : ri_A E 5 (91, 93, [some (.ref 0), some (.ref k), some (.int x2), some (.int x3), some (.int x4), some (.int x5), some (.int x6), none, some (.int x8)], [.int s0]) S (Qi Q) := by
  rcases hw with rfl | rfl | rfl | rfl
  · unfold w91_b93 at h
    refine A_nx 2 (fr' := (91, 98, [some (.ref 0), some (.ref 38), some (.int x2), some (.int x3), some (.int x4), some (.int x5), some (.int (x6 + (1 : Int32))), some (.int s0), some (.int x8)], [])) (S' := S) rfl ?_
    refine ri_A.less (m := 91) (pc := 98) (L := [some (.ref 0), some (.ref 38), some (.int x2), some (.int x3), some (.int x4), some (.int x5), some (.int (x6 + (1 : Int32))), some (.int s0), some (.int x8)]) (L' := [some (.ref 0), some (.ref 38), some (.int x2), some (.int x3), some (.int x4), some (.int x5), some (.int (x6 + (1 : Int32))), some (.int s0), some (.int x8)]) (st := []) ⟨rfl, ⟨rfl, ⟨rfl, ⟨rfl, ⟨rfl, ⟨rfl, ⟨rfl, ⟨rfl, ⟨rfl, trivial⟩⟩⟩⟩⟩⟩⟩⟩⟩ ?_
    exact wt91_b98 38 (by decide) hK32 _ _ _ _ _ _ _ _ h
  · unfold w91_b93 at h
    refine A_nx 2 (fr' := (91, 98, [some (.ref 0), some (.ref 40), some (.int x2), some (.int x3), some (.int x4), some (.int x5), some (.int (x6 + (1 : Int32))), some (.int s0), some (.int x8)], [])) (S' := S) rfl ?_
    refine ri_A.less (m := 91) (pc := 98) (L := [some (.ref 0), some (.ref 40), some (.int x2), some (.int x3), some (.int x4), some (.int x5), some (.int (x6 + (1 : Int32))), some (.int s0), some (.int x8)]) (L' := [some (.ref 0), some (.ref 40), some (.int x2), some (.int x3), some (.int x4), some (.int x5), some (.int (x6 + (1 : Int32))), some (.int s0), some (.int x8)]) (st := []) ⟨rfl, ⟨rfl, ⟨rfl, ⟨rfl, ⟨rfl, ⟨rfl, ⟨rfl, ⟨rfl, ⟨rfl, trivial⟩⟩⟩⟩⟩⟩⟩⟩⟩ ?_
    exact wt91_b98 40 (by decide) hK32 _ _ _ _ _ _ _ _ h
  · unfold w91_b93 at h
    refine A_nx 2 (fr' := (91, 98, [some (.ref 0), some (.ref 42), some (.int x2), some (.int x3), some (.int x4), some (.int x5), some (.int (x6 + (1 : Int32))), some (.int s0), some (.int x8)], [])) (S' := S) rfl ?_
    refine ri_A.less (m := 91) (pc := 98) (L := [some (.ref 0), some (.ref 42), some (.int x2), some (.int x3), some (.int x4), some (.int x5), some (.int (x6 + (1 : Int32))), some (.int s0), some (.int x8)]) (L' := [some (.ref 0), some (.ref 42), some (.int x2), some (.int x3), some (.int x4), some (.int x5), some (.int (x6 + (1 : Int32))), some (.int s0), some (.int x8)]) (st := []) ⟨rfl, ⟨rfl, ⟨rfl, ⟨rfl, ⟨rfl, ⟨rfl, ⟨rfl, ⟨rfl, ⟨rfl, trivial⟩⟩⟩⟩⟩⟩⟩⟩⟩ ?_
    exact wt91_b98 42 (by decide) hK32 _ _ _ _ _ _ _ _ h
  · unfold w91_b93 at h
    refine A_nx 2 (fr' := (91, 98, [some (.ref 0), some (.ref 44), some (.int x2), some (.int x3), some (.int x4), some (.int x5), some (.int (x6 + (1 : Int32))), some (.int s0), some (.int x8)], [])) (S' := S) rfl ?_
    refine ri_A.less (m := 91) (pc := 98) (L := [some (.ref 0), some (.ref 44), some (.int x2), some (.int x3), some (.int x4), some (.int x5), some (.int (x6 + (1 : Int32))), some (.int s0), some (.int x8)]) (L' := [some (.ref 0), some (.ref 44), some (.int x2), some (.int x3), some (.int x4), some (.int x5), some (.int (x6 + (1 : Int32))), some (.int s0), some (.int x8)]) (st := []) ⟨rfl, ⟨rfl, ⟨rfl, ⟨rfl, ⟨rfl, ⟨rfl, ⟨rfl, ⟨rfl, ⟨rfl, trivial⟩⟩⟩⟩⟩⟩⟩⟩⟩ ?_
    exact wt91_b98 44 (by decide) hK32 _ _ _ _ _ _ _ _ h
def w91_b76 (k : Nat) (K32 : Int32 → Int32 → Int32 → Int32 → Int32 → Int32 → Int32 → ri_H → Prop) (Q : Int32 → ri_H → Prop) (x2 : Int32) (x3 : Int32) (x4 : Int32) (x5 : Int32) (x6 : Int32) (x7 : Int32) (x8 : Int32) (S : ri_H) : Prop := ((x5 = 0 → w91_b98 k K32 Q x2 x3 x4 x5 x6 x7 x8 S) ∧ (¬ (x5 = 0) → ((¬ x6 = 0 → w91_b93 k K32 Q x2 x3 x4 x5 x6 x8 x7 S) ∧ (¬ (¬ x6 = 0) → w91_b93 k K32 Q x2 x3 x4 x5 x6 x8 x8 S))))
set_option maxRecDepth 10000 in
set_option maxHeartbeats 1000000 in
theorem wt91_b76 {E : ri_E} (k : Nat) (hw : k = 38 ∨ k = 40 ∨ k = 42 ∨ k = 44) {K32 : Int32 → Int32 → Int32 → Int32 → Int32 → Int32 → Int32 → ri_H → Prop} {Q : Int32 → ri_H → Prop} (hK32 : ∀ (x2 : Int32) (x3 : Int32) (x4 : Int32) (x5 : Int32) (x6 : Int32) (x7 : Int32) (x8 : Int32) (S : ri_H), K32 x2 x3 x4 x5 x6 x7 x8 S → ri_A E 5 (91, 32, [some (.ref 0), some (.ref k), some (.int x2), some (.int x3), some (.int x4), some (.int x5), some (.int x6), some (.int x7), some (.int x8)], []) S (Qi Q)) (x2 : Int32) (x3 : Int32) (x4 : Int32) (x5 : Int32) (x6 : Int32) (x7 : Int32) (x8 : Int32) (S : ri_H) (h : w91_b76 k K32 Q x2 x3 x4 x5 x6 x7 x8 S) : ri_A E 5 (91, 76, [some (.ref 0), some (.ref k), some (.int x2), some (.int x3), some (.int x4), some (.int x5), some (.int x6), some (.int x7), some (.int x8)], []) S (Qi Q) := by
  rcases hw with rfl | rfl | rfl | rfl
  · unfold w91_b76 at h
    refine A_br (x5 = 0) (r1 := ((91, 98, [some (.ref 0), some (.ref 38), some (.int x2), some (.int x3), some (.int x4), some (.int x5), some (.int x6), some (.int x7), some (.int x8)], []), S)) (r2 := ((91, 81, [some (.ref 0), some (.ref 38), some (.int x2), some (.int x3), some (.int x4), some (.int x5), some (.int x6), some (.int x7), some (.int x8)], []), S)) 2 rfl (fun c => ?_) (fun c => ?_)
    · have h := h.1 c
      refine ri_A.less (m := 91) (pc := 98) (L := [some (.ref 0), some (.ref 38), some (.int x2), some (.int x3), some (.int x4), some (.int x5), some (.int x6), some (.int x7), some (.int x8)]) (L' := [some (.ref 0), some (.ref 38), some (.int x2), some (.int x3), some (.int x4), some (.int x5), some (.int x6), some (.int x7), some (.int x8)]) (st := []) ⟨rfl, ⟨rfl, ⟨rfl, ⟨rfl, ⟨rfl, ⟨rfl, ⟨rfl, ⟨rfl, ⟨rfl, trivial⟩⟩⟩⟩⟩⟩⟩⟩⟩ ?_
      exact wt91_b98 38 (by decide) hK32 _ _ _ _ _ _ _ _ h
    · have h := h.2 c
      refine A_br (¬ x6 = 0) (r1 := ((91, 91, [some (.ref 0), some (.ref 38), some (.int x2), some (.int x3), some (.int x4), some (.int x5), some (.int x6), some (.int x7), some (.int x8)], []), S)) (r2 := ((91, 86, [some (.ref 0), some (.ref 38), some (.int x2), some (.int x3), some (.int x4), some (.int x5), some (.int x6), some (.int x7), some (.int x8)], []), S)) 2 rfl (fun c => ?_) (fun c => ?_)
      · have h := h.1 c
        refine A_nx 1 (fr' := (91, 93, [some (.ref 0), some (.ref 38), some (.int x2), some (.int x3), some (.int x4), some (.int x5), some (.int x6), some (.int x7), some (.int x8)], [.int x7])) (S' := S) rfl ?_
        refine ri_A.less (m := 91) (pc := 93) (L := [some (.ref 0), some (.ref 38), some (.int x2), some (.int x3), some (.int x4), some (.int x5), some (.int x6), some (.int x7), some (.int x8)]) (L' := [some (.ref 0), some (.ref 38), some (.int x2), some (.int x3), some (.int x4), some (.int x5), some (.int x6), none, some (.int x8)]) (st := [.int x7]) ⟨rfl, ⟨rfl, ⟨rfl, ⟨rfl, ⟨rfl, ⟨rfl, ⟨rfl, ⟨rfl, trivial⟩⟩⟩⟩⟩⟩⟩⟩ ?_
        exact wt91_b93 38 (by decide) hK32 _ _ _ _ _ _ _ _ h
      · have h := h.2 c
        refine A_nx 2 (fr' := (91, 93, [some (.ref 0), some (.ref 38), some (.int x2), some (.int x3), some (.int x4), some (.int x5), some (.int x6), some (.int x7), some (.int x8)], [.int x8])) (S' := S) rfl ?_
        refine ri_A.less (m := 91) (pc := 93) (L := [some (.ref 0), some (.ref 38), some (.int x2), some (.int x3), some (.int x4), some (.int x5), some (.int x6), some (.int x7), some (.int x8)]) (L' := [some (.ref 0), some (.ref 38), some (.int x2), some (.int x3), some (.int x4), some (.int x5), some (.int x6), none, some (.int x8)]) (st := [.int x8]) ⟨rfl, ⟨rfl, ⟨rfl, ⟨rfl, ⟨rfl, ⟨rfl, ⟨rfl, ⟨rfl, trivial⟩⟩⟩⟩⟩⟩⟩⟩ ?_
        exact wt91_b93 38 (by decide) hK32 _ _ _ _ _ _ _ _ h
  · unfold w91_b76 at h
    refine A_br (x5 = 0) (r1 := ((91, 98, [some (.ref 0), some (.ref 40), some (.int x2), some (.int x3), some (.int x4), some (.int x5), some (.int x6), some (.int x7), some (.int x8)], []), S)) (r2 := ((91, 81, [some (.ref 0), some (.ref 40), some (.int x2), some (.int x3), some (.int x4), some (.int x5), some (.int x6), some (.int x7), some (.int x8)], []), S)) 2 rfl (fun c => ?_) (fun c => ?_)
    · have h := h.1 c
      refine ri_A.less (m := 91) (pc := 98) (L := [some (.ref 0), some (.ref 40), some (.int x2), some (.int x3), some (.int x4), some (.int x5), some (.int x6), some (.int x7), some (.int x8)]) (L' := [some (.ref 0), some (.ref 40), some (.int x2), some (.int x3), some (.int x4), some (.int x5), some (.int x6), some (.int x7), some (.int x8)]) (st := []) ⟨rfl, ⟨rfl, ⟨rfl, ⟨rfl, ⟨rfl, ⟨rfl, ⟨rfl, ⟨rfl, ⟨rfl, trivial⟩⟩⟩⟩⟩⟩⟩⟩⟩ ?_
      exact wt91_b98 40 (by decide) hK32 _ _ _ _ _ _ _ _ h
    · have h := h.2 c
      refine A_br (¬ x6 = 0) (r1 := ((91, 91, [some (.ref 0), some (.ref 40), some (.int x2), some (.int x3), some (.int x4), some (.int x5), some (.int x6), some (.int x7), some (.int x8)], []), S)) (r2 := ((91, 86, [some (.ref 0), some (.ref 40), some (.int x2), some (.int x3), some (.int x4), some (.int x5), some (.int x6), some (.int x7), some (.int x8)], []), S)) 2 rfl (fun c => ?_) (fun c => ?_)
      · have h := h.1 c
        refine A_nx 1 (fr' := (91, 93, [some (.ref 0), some (.ref 40), some (.int x2), some (.int x3), some (.int x4), some (.int x5), some (.int x6), some (.int x7), some (.int x8)], [.int x7])) (S' := S) rfl ?_
        refine ri_A.less (m := 91) (pc := 93) (L := [some (.ref 0), some (.ref 40), some (.int x2), some (.int x3), some (.int x4), some (.int x5), some (.int x6), some (.int x7), some (.int x8)]) (L' := [some (.ref 0), some (.ref 40), some (.int x2), some (.int x3), some (.int x4), some (.int x5), some (.int x6), none, some (.int x8)]) (st := [.int x7]) ⟨rfl, ⟨rfl, ⟨rfl, ⟨rfl, ⟨rfl, ⟨rfl, ⟨rfl, ⟨rfl, trivial⟩⟩⟩⟩⟩⟩⟩⟩ ?_
        exact wt91_b93 40 (by decide) hK32 _ _ _ _ _ _ _ _ h
      · have h := h.2 c
        refine A_nx 2 (fr' := (91, 93, [some (.ref 0), some (.ref 40), some (.int x2), some (.int x3), some (.int x4), some (.int x5), some (.int x6), some (.int x7), some (.int x8)], [.int x8])) (S' := S) rfl ?_
        refine ri_A.less (m := 91) (pc := 93) (L := [some (.ref 0), some (.ref 40), some (.int x2), some (.int x3), some (.int x4), some (.int x5), some (.int x6), some (.int x7), some (.int x8)]) (L' := [some (.ref 0), some (.ref 40), some (.int x2), some (.int x3), some (.int x4), some (.int x5), some (.int x6), none, some (.int x8)]) (st := [.int x8]) ⟨rfl, ⟨rfl, ⟨rfl, ⟨rfl, ⟨rfl, ⟨rfl, ⟨rfl, ⟨rfl, trivial⟩⟩⟩⟩⟩⟩⟩⟩ ?_
        exact wt91_b93 40 (by decide) hK32 _ _ _ _ _ _ _ _ h
  · unfold w91_b76 at h
    refine A_br (x5 = 0) (r1 := ((91, 98, [some (.ref 0), some (.ref 42), some (.int x2), some (.int x3), some (.int x4), some (.int x5), some (.int x6), some (.int x7), some (.int x8)], []), S)) (r2 := ((91, 81, [some (.ref 0), some (.ref 42), some (.int x2), some (.int x3), some (.int x4), some (.int x5), some (.int x6), some (.int x7), some (.int x8)], []), S)) 2 rfl (fun c => ?_) (fun c => ?_)
    · have h := h.1 c
      refine ri_A.less (m := 91) (pc := 98) (L := [some (.ref 0), some (.ref 42), some (.int x2), some (.int x3), some (.int x4), some (.int x5), some (.int x6), some (.int x7), some (.int x8)]) (L' := [some (.ref 0), some (.ref 42), some (.int x2), some (.int x3), some (.int x4), some (.int x5), some (.int x6), some (.int x7), some (.int x8)]) (st := []) ⟨rfl, ⟨rfl, ⟨rfl, ⟨rfl, ⟨rfl, ⟨rfl, ⟨rfl, ⟨rfl, ⟨rfl, trivial⟩⟩⟩⟩⟩⟩⟩⟩⟩ ?_
      exact wt91_b98 42 (by decide) hK32 _ _ _ _ _ _ _ _ h
    · have h := h.2 c
      refine A_br (¬ x6 = 0) (r1 := ((91, 91, [some (.ref 0), some (.ref 42), some (.int x2), some (.int x3), some (.int x4), some (.int x5), some (.int x6), some (.int x7), some (.int x8)], []), S)) (r2 := ((91, 86, [some (.ref 0), some (.ref 42), some (.int x2), some (.int x3), some (.int x4), some (.int x5), some (.int x6), some (.int x7), some (.int x8)], []), S)) 2 rfl (fun c => ?_) (fun c => ?_)
      · have h := h.1 c
        refine A_nx 1 (fr' := (91, 93, [some (.ref 0), some (.ref 42), some (.int x2), some (.int x3), some (.int x4), some (.int x5), some (.int x6), some (.int x7), some (.int x8)], [.int x7])) (S' := S) rfl ?_
        refine ri_A.less (m := 91) (pc := 93) (L := [some (.ref 0), some (.ref 42), some (.int x2), some (.int x3), some (.int x4), some (.int x5), some (.int x6), some (.int x7), some (.int x8)]) (L' := [some (.ref 0), some (.ref 42), some (.int x2), some (.int x3), some (.int x4), some (.int x5), some (.int x6), none, some (.int x8)]) (st := [.int x7]) ⟨rfl, ⟨rfl, ⟨rfl, ⟨rfl, ⟨rfl, ⟨rfl, ⟨rfl, ⟨rfl, trivial⟩⟩⟩⟩⟩⟩⟩⟩ ?_
        exact wt91_b93 42 (by decide) hK32 _ _ _ _ _ _ _ _ h
      · have h := h.2 c
        refine A_nx 2 (fr' := (91, 93, [some (.ref 0), some (.ref 42), some (.int x2), some (.int x3), some (.int x4), some (.int x5), some (.int x6), some (.int x7), some (.int x8)], [.int x8])) (S' := S) rfl ?_
        refine ri_A.less (m := 91) (pc := 93) (L := [some (.ref 0), some (.ref 42), some (.int x2), some (.int x3), some (.int x4), some (.int x5), some (.int x6), some (.int x7), some (.int x8)]) (L' := [some (.ref 0), some (.ref 42), some (.int x2), some (.int x3), some (.int x4), some (.int x5), some (.int x6), none, some (.int x8)]) (st := [.int x8]) ⟨rfl, ⟨rfl, ⟨rfl, ⟨rfl, ⟨rfl, ⟨rfl, ⟨rfl, ⟨rfl, trivial⟩⟩⟩⟩⟩⟩⟩⟩ ?_
        exact wt91_b93 42 (by decide) hK32 _ _ _ _ _ _ _ _ h
  · unfold w91_b76 at h
    refine A_br (x5 = 0) (r1 := ((91, 98, [some (.ref 0), some (.ref 44), some (.int x2), some (.int x3), some (.int x4), some (.int x5), some (.int x6), some (.int x7), some (.int x8)], []), S)) (r2 := ((91, 81, [some (.ref 0), some (.ref 44), some (.int x2), some (.int x3), some (.int x4), some (.int x5), some (.int x6), some (.int x7), some (.int x8)], []), S)) 2 rfl (fun c => ?_) (fun c => ?_)
    · have h := h.1 c
      refine ri_A.less (m := 91) (pc := 98) (L := [some (.ref 0), some (.ref 44), some (.int x2), some (.int x3), some (.int x4), some (.int x5), some (.int x6), some (.int x7), some (.int x8)]) (L' := [some (.ref 0), some (.ref 44), some (.int x2), some (.int x3), some (.int x4), some (.int x5), some (.int x6), some (.int x7), some (.int x8)]) (st := []) ⟨rfl, ⟨rfl, ⟨rfl, ⟨rfl, ⟨rfl, ⟨rfl, ⟨rfl, ⟨rfl, ⟨rfl, trivial⟩⟩⟩⟩⟩⟩⟩⟩⟩ ?_
      exact wt91_b98 44 (by decide) hK32 _ _ _ _ _ _ _ _ h
    · have h := h.2 c
      refine A_br (¬ x6 = 0) (r1 := ((91, 91, [some (.ref 0), some (.ref 44), some (.int x2), some (.int x3), some (.int x4), some (.int x5), some (.int x6), some (.int x7), some (.int x8)], []), S)) (r2 := ((91, 86, [some (.ref 0), some (.ref 44), some (.int x2), some (.int x3), some (.int x4), some (.int x5), some (.int x6), some (.int x7), some (.int x8)], []), S)) 2 rfl (fun c => ?_) (fun c => ?_)
      · have h := h.1 c
        refine A_nx 1 (fr' := (91, 93, [some (.ref 0), some (.ref 44), some (.int x2), some (.int x3), some (.int x4), some (.int x5), some (.int x6), some (.int x7), some (.int x8)], [.int x7])) (S' := S) rfl ?_
        refine ri_A.less (m := 91) (pc := 93) (L := [some (.ref 0), some (.ref 44), some (.int x2), some (.int x3), some (.int x4), some (.int x5), some (.int x6), some (.int x7), some (.int x8)]) (L' := [some (.ref 0), some (.ref 44), some (.int x2), some (.int x3), some (.int x4), some (.int x5), some (.int x6), none, some (.int x8)]) (st := [.int x7]) ⟨rfl, ⟨rfl, ⟨rfl, ⟨rfl, ⟨rfl, ⟨rfl, ⟨rfl, ⟨rfl, trivial⟩⟩⟩⟩⟩⟩⟩⟩ ?_
        exact wt91_b93 44 (by decide) hK32 _ _ _ _ _ _ _ _ h
      · have h := h.2 c
        refine A_nx 2 (fr' := (91, 93, [some (.ref 0), some (.ref 44), some (.int x2), some (.int x3), some (.int x4), some (.int x5), some (.int x6), some (.int x7), some (.int x8)], [.int x8])) (S' := S) rfl ?_
        refine ri_A.less (m := 91) (pc := 93) (L := [some (.ref 0), some (.ref 44), some (.int x2), some (.int x3), some (.int x4), some (.int x5), some (.int x6), some (.int x7), some (.int x8)]) (L' := [some (.ref 0), some (.ref 44), some (.int x2), some (.int x3), some (.int x4), some (.int x5), some (.int x6), none, some (.int x8)]) (st := [.int x8]) ⟨rfl, ⟨rfl, ⟨rfl, ⟨rfl, ⟨rfl, ⟨rfl, ⟨rfl, ⟨rfl, trivial⟩⟩⟩⟩⟩⟩⟩⟩ ?_
        exact wt91_b93 44 (by decide) hK32 _ _ _ _ _ _ _ _ h
def w91_b74 (k : Nat) (K32 : Int32 → Int32 → Int32 → Int32 → Int32 → Int32 → Int32 → ri_H → Prop) (Q : Int32 → ri_H → Prop) (x2 : Int32) (x3 : Int32) (x4 : Int32) (x6 : Int32) (x7 : Int32) (x8 : Int32) (s0 : Int32) (S : ri_H) : Prop := w91_b76 k K32 Q x2 x3 x4 s0 x6 x7 x8 S
set_option maxRecDepth 10000 in
set_option maxHeartbeats 1000000 in
theorem wt91_b74 {E : ri_E} (k : Nat) (hw : k = 38 ∨ k = 40 ∨ k = 42 ∨ k = 44) {K32 : Int32 → Int32 → Int32 → Int32 → Int32 → Int32 → Int32 → ri_H → Prop} {Q : Int32 → ri_H → Prop} (hK32 : ∀ (x2 : Int32) (x3 : Int32) (x4 : Int32) (x5 : Int32) (x6 : Int32) (x7 : Int32) (x8 : Int32) (S : ri_H), K32 x2 x3 x4 x5 x6 x7 x8 S → ri_A E 5 (91, 32, [some (.ref 0), some (.ref k), some (.int x2), some (.int x3), some (.int x4), some (.int x5), some (.int x6), some (.int x7), some (.int x8)], []) S (Qi Q)) (x2 : Int32) (x3 : Int32) (x4 : Int32) (x6 : Int32) (x7 : Int32) (x8 : Int32) (s0 : Int32) (S : ri_H) (h : w91_b74 k K32 Q x2 x3 x4 x6 x7 x8 s0 S) : ri_A E 5 (91, 74, [some (.ref 0), some (.ref k), some (.int x2), some (.int x3), some (.int x4), none, some (.int x6), some (.int x7), some (.int x8)], [.int s0]) S (Qi Q) := by
  rcases hw with rfl | rfl | rfl | rfl
  · unfold w91_b74 at h
    refine A_nx 1 (fr' := (91, 76, [some (.ref 0), some (.ref 38), some (.int x2), some (.int x3), some (.int x4), some (.int s0), some (.int x6), some (.int x7), some (.int x8)], [])) (S' := S) rfl ?_
    refine ri_A.less (m := 91) (pc := 76) (L := [some (.ref 0), some (.ref 38), some (.int x2), some (.int x3), some (.int x4), some (.int s0), some (.int x6), some (.int x7), some (.int x8)]) (L' := [some (.ref 0), some (.ref 38), some (.int x2), some (.int x3), some (.int x4), some (.int s0), some (.int x6), some (.int x7), some (.int x8)]) (st := []) ⟨rfl, ⟨rfl, ⟨rfl, ⟨rfl, ⟨rfl, ⟨rfl, ⟨rfl, ⟨rfl, ⟨rfl, trivial⟩⟩⟩⟩⟩⟩⟩⟩⟩ ?_
    exact wt91_b76 38 (by decide) hK32 _ _ _ _ _ _ _ _ h
  · unfold w91_b74 at h
    refine A_nx 1 (fr' := (91, 76, [some (.ref 0), some (.ref 40), some (.int x2), some (.int x3), some (.int x4), some (.int s0), some (.int x6), some (.int x7), some (.int x8)], [])) (S' := S) rfl ?_
    refine ri_A.less (m := 91) (pc := 76) (L := [some (.ref 0), some (.ref 40), some (.int x2), some (.int x3), some (.int x4), some (.int s0), some (.int x6), some (.int x7), some (.int x8)]) (L' := [some (.ref 0), some (.ref 40), some (.int x2), some (.int x3), some (.int x4), some (.int s0), some (.int x6), some (.int x7), some (.int x8)]) (st := []) ⟨rfl, ⟨rfl, ⟨rfl, ⟨rfl, ⟨rfl, ⟨rfl, ⟨rfl, ⟨rfl, ⟨rfl, trivial⟩⟩⟩⟩⟩⟩⟩⟩⟩ ?_
    exact wt91_b76 40 (by decide) hK32 _ _ _ _ _ _ _ _ h
  · unfold w91_b74 at h
    refine A_nx 1 (fr' := (91, 76, [some (.ref 0), some (.ref 42), some (.int x2), some (.int x3), some (.int x4), some (.int s0), some (.int x6), some (.int x7), some (.int x8)], [])) (S' := S) rfl ?_
    refine ri_A.less (m := 91) (pc := 76) (L := [some (.ref 0), some (.ref 42), some (.int x2), some (.int x3), some (.int x4), some (.int s0), some (.int x6), some (.int x7), some (.int x8)]) (L' := [some (.ref 0), some (.ref 42), some (.int x2), some (.int x3), some (.int x4), some (.int s0), some (.int x6), some (.int x7), some (.int x8)]) (st := []) ⟨rfl, ⟨rfl, ⟨rfl, ⟨rfl, ⟨rfl, ⟨rfl, ⟨rfl, ⟨rfl, ⟨rfl, trivial⟩⟩⟩⟩⟩⟩⟩⟩⟩ ?_
    exact wt91_b76 42 (by decide) hK32 _ _ _ _ _ _ _ _ h
  · unfold w91_b74 at h
    refine A_nx 1 (fr' := (91, 76, [some (.ref 0), some (.ref 44), some (.int x2), some (.int x3), some (.int x4), some (.int s0), some (.int x6), some (.int x7), some (.int x8)], [])) (S' := S) rfl ?_
    refine ri_A.less (m := 91) (pc := 76) (L := [some (.ref 0), some (.ref 44), some (.int x2), some (.int x3), some (.int x4), some (.int s0), some (.int x6), some (.int x7), some (.int x8)]) (L' := [some (.ref 0), some (.ref 44), some (.int x2), some (.int x3), some (.int x4), some (.int s0), some (.int x6), some (.int x7), some (.int x8)]) (st := []) ⟨rfl, ⟨rfl, ⟨rfl, ⟨rfl, ⟨rfl, ⟨rfl, ⟨rfl, ⟨rfl, ⟨rfl, trivial⟩⟩⟩⟩⟩⟩⟩⟩⟩ ?_
    exact wt91_b76 44 (by decide) hK32 _ _ _ _ _ _ _ _ h
def w91_b56 (k : Nat) (K32 : Int32 → Int32 → Int32 → Int32 → Int32 → Int32 → Int32 → ri_H → Prop) (Q : Int32 → ri_H → Prop) (x2 : Int32) (x3 : Int32) (x4 : Int32) (x6 : Int32) (x7 : Int32) (x8 : Int32) (S : ri_H) : Prop := w92 k x2 x3 x8 S (fun (r4 : Int32) (S3 : ri_H) => ((¬ r4 = (-1 : Int32) → w91_b74 k K32 Q x2 x3 x4 x6 x7 x8 (0 : Int32) S3) ∧ (¬ (¬ r4 = (-1 : Int32)) → w91_b74 k K32 Q x2 x3 x4 x6 x7 x8 (1 : Int32) S3)))
set_option maxRecDepth 10000 in
set_option maxHeartbeats 1000000 in
theorem wt91_b56 {E : ri_E} (k : Nat) (hw : k = 38 ∨ k = 40 ∨ k = 42 ∨ k = 44) {K32 : Int32 → Int32 → Int32 → Int32 → Int32 → Int32 → Int32 → ri_H → Prop} {Q : Int32 → ri_H → Prop} (hK32 : ∀ (x2 : Int32) (x3 : Int32) (x4 : Int32) (x5 : Int32) (x6 : Int32) (x7 : Int32) (x8 : Int32) (S : ri_H), K32 x2 x3 x4 x5 x6 x7 x8 S → ri_A E 5 (91, 32, [some (.ref 0), some (.ref k), some (.int x2), some (.int x3), some (.int x4), some (.int x5), some (.int x6), some (.int x7), some (.int x8)], []) S (Qi Q)) (x2 : Int32) (x3 : Int32) (x4 : Int32) (x6 : Int32) (x7 : Int32) (x8 : Int32) (S : ri_H) (h : w91_b56 k K32 Q x2 x3 x4 x6 x7 x8 S) : ri_A E 5 (91, 56, [some (.ref 0), some (.ref k), some (.int x2), some (.int x3), some (.int x4), none, some (.int x6), some (.int x7), some (.int x8)], []) S (Qi Q) := by
  rcases hw with rfl | rfl | rfl | rfl
  · unfold w91_b56 at h
    refine A_call (j := 92) (As := [.ref 0, .ref 38, .int x2, .int x3, .int x8]) (fr' := (91, 65, [some (.ref 0), some (.ref 38), some (.int x2), some (.int x3), some (.int x4), none, some (.int x6), some (.int x7), some (.int x8)], [])) (S' := S) 6 rfl (e := 4) (by omega) (A_imp (wt92 38 (by decide) x2 x3 x8 h) (fun v S3 hq => ?_))
    obtain ⟨r4, hv, h⟩ := hq
    subst hv
    refine A_br (¬ r4 = (-1 : Int32)) (r1 := ((91, 73, [some (.ref 0), some (.ref 38), some (.int x2), some (.int x3), some (.int x4), none, some (.int x6), some (.int x7), some (.int x8)], []), S3)) (r2 := ((91, 69, [some (.ref 0), some (.ref 38), some (.int x2), some (.int x3), some (.int x4), none, some (.int x6), some (.int x7), some (.int x8)], []), S3)) 2 rfl (fun c => ?_) (fun c => ?_)
    · have h := h.1 c
      refine A_nx 1 (fr' := (91, 74, [some (.ref 0), some (.ref 38), some (.int x2), some (.int x3), some (.int x4), none, some (.int x6), some (.int x7), some (.int x8)], [.int (0 : Int32)])) (S' := S3) rfl ?_
      refine ri_A.less (m := 91) (pc := 74) (L := [some (.ref 0), some (.ref 38), some (.int x2), some (.int x3), some (.int x4), none, some (.int x6), some (.int x7), some (.int x8)]) (L' := [some (.ref 0), some (.ref 38), some (.int x2), some (.int x3), some (.int x4), none, some (.int x6), some (.int x7), some (.int x8)]) (st := [.int (0 : Int32)]) ⟨rfl, ⟨rfl, ⟨rfl, ⟨rfl, ⟨rfl, ⟨rfl, ⟨rfl, ⟨rfl, trivial⟩⟩⟩⟩⟩⟩⟩⟩ ?_
      exact wt91_b74 38 (by decide) hK32 _ _ _ _ _ _ _ _ h
    · have h := h.2 c
      refine A_nx 2 (fr' := (91, 74, [some (.ref 0), some (.ref 38), some (.int x2), some (.int x3), some (.int x4), none, some (.int x6), some (.int x7), some (.int x8)], [.int (1 : Int32)])) (S' := S3) rfl ?_
      refine ri_A.less (m := 91) (pc := 74) (L := [some (.ref 0), some (.ref 38), some (.int x2), some (.int x3), some (.int x4), none, some (.int x6), some (.int x7), some (.int x8)]) (L' := [some (.ref 0), some (.ref 38), some (.int x2), some (.int x3), some (.int x4), none, some (.int x6), some (.int x7), some (.int x8)]) (st := [.int (1 : Int32)]) ⟨rfl, ⟨rfl, ⟨rfl, ⟨rfl, ⟨rfl, ⟨rfl, ⟨rfl, ⟨rfl, trivial⟩⟩⟩⟩⟩⟩⟩⟩ ?_
      exact wt91_b74 38 (by decide) hK32 _ _ _ _ _ _ _ _ h
  · unfold w91_b56 at h
    refine A_call (j := 92) (As := [.ref 0, .ref 40, .int x2, .int x3, .int x8]) (fr' := (91, 65, [some (.ref 0), some (.ref 40), some (.int x2), some (.int x3), some (.int x4), none, some (.int x6), some (.int x7), some (.int x8)], [])) (S' := S) 6 rfl (e := 4) (by omega) (A_imp (wt92 40 (by decide) x2 x3 x8 h) (fun v S3 hq => ?_))
    obtain ⟨r4, hv, h⟩ := hq
    subst hv
    refine A_br (¬ r4 = (-1 : Int32)) (r1 := ((91, 73, [some (.ref 0), some (.ref 40), some (.int x2), some (.int x3), some (.int x4), none, some (.int x6), some (.int x7), some (.int x8)], []), S3)) (r2 := ((91, 69, [some (.ref 0), some (.ref 40), some (.int x2), some (.int x3), some (.int x4), none, some (.int x6), some (.int x7), some (.int x8)], []), S3)) 2 rfl (fun c => ?_) (fun c => ?_)
    · have h := h.1 c
      refine A_nx 1 (fr' := (91, 74, [some (.ref 0), some (.ref 40), some (.int x2), some (.int x3), some (.int x4), none, some (.int x6), some (.int x7), some (.int x8)], [.int (0 : Int32)])) (S' := S3) rfl ?_
      refine ri_A.less (m := 91) (pc := 74) (L := [some (.ref 0), some (.ref 40), some (.int x2), some (.int x3), some (.int x4), none, some (.int x6), some (.int x7), some (.int x8)]) (L' := [some (.ref 0), some (.ref 40), some (.int x2), some (.int x3), some (.int x4), none, some (.int x6), some (.int x7), some (.int x8)]) (st := [.int (0 : Int32)]) ⟨rfl, ⟨rfl, ⟨rfl, ⟨rfl, ⟨rfl, ⟨rfl, ⟨rfl, ⟨rfl, trivial⟩⟩⟩⟩⟩⟩⟩⟩ ?_
      exact wt91_b74 40 (by decide) hK32 _ _ _ _ _ _ _ _ h
    · have h := h.2 c
      refine A_nx 2 (fr' := (91, 74, [some (.ref 0), some (.ref 40), some (.int x2), some (.int x3), some (.int x4), none, some (.int x6), some (.int x7), some (.int x8)], [.int (1 : Int32)])) (S' := S3) rfl ?_
      refine ri_A.less (m := 91) (pc := 74) (L := [some (.ref 0), some (.ref 40), some (.int x2), some (.int x3), some (.int x4), none, some (.int x6), some (.int x7), some (.int x8)]) (L' := [some (.ref 0), some (.ref 40), some (.int x2), some (.int x3), some (.int x4), none, some (.int x6), some (.int x7), some (.int x8)]) (st := [.int (1 : Int32)]) ⟨rfl, ⟨rfl, ⟨rfl, ⟨rfl, ⟨rfl, ⟨rfl, ⟨rfl, ⟨rfl, trivial⟩⟩⟩⟩⟩⟩⟩⟩ ?_
      exact wt91_b74 40 (by decide) hK32 _ _ _ _ _ _ _ _ h
  · unfold w91_b56 at h
    refine A_call (j := 92) (As := [.ref 0, .ref 42, .int x2, .int x3, .int x8]) (fr' := (91, 65, [some (.ref 0), some (.ref 42), some (.int x2), some (.int x3), some (.int x4), none, some (.int x6), some (.int x7), some (.int x8)], [])) (S' := S) 6 rfl (e := 4) (by omega) (A_imp (wt92 42 (by decide) x2 x3 x8 h) (fun v S3 hq => ?_))
    obtain ⟨r4, hv, h⟩ := hq
    subst hv
    refine A_br (¬ r4 = (-1 : Int32)) (r1 := ((91, 73, [some (.ref 0), some (.ref 42), some (.int x2), some (.int x3), some (.int x4), none, some (.int x6), some (.int x7), some (.int x8)], []), S3)) (r2 := ((91, 69, [some (.ref 0), some (.ref 42), some (.int x2), some (.int x3), some (.int x4), none, some (.int x6), some (.int x7), some (.int x8)], []), S3)) 2 rfl (fun c => ?_) (fun c => ?_)
    · have h := h.1 c
      refine A_nx 1 (fr' := (91, 74, [some (.ref 0), some (.ref 42), some (.int x2), some (.int x3), some (.int x4), none, some (.int x6), some (.int x7), some (.int x8)], [.int (0 : Int32)])) (S' := S3) rfl ?_
      refine ri_A.less (m := 91) (pc := 74) (L := [some (.ref 0), some (.ref 42), some (.int x2), some (.int x3), some (.int x4), none, some (.int x6), some (.int x7), some (.int x8)]) (L' := [some (.ref 0), some (.ref 42), some (.int x2), some (.int x3), some (.int x4), none, some (.int x6), some (.int x7), some (.int x8)]) (st := [.int (0 : Int32)]) ⟨rfl, ⟨rfl, ⟨rfl, ⟨rfl, ⟨rfl, ⟨rfl, ⟨rfl, ⟨rfl, trivial⟩⟩⟩⟩⟩⟩⟩⟩ ?_
      exact wt91_b74 42 (by decide) hK32 _ _ _ _ _ _ _ _ h
    · have h := h.2 c
      refine A_nx 2 (fr' := (91, 74, [some (.ref 0), some (.ref 42), some (.int x2), some (.int x3), some (.int x4), none, some (.int x6), some (.int x7), some (.int x8)], [.int (1 : Int32)])) (S' := S3) rfl ?_
      refine ri_A.less (m := 91) (pc := 74) (L := [some (.ref 0), some (.ref 42), some (.int x2), some (.int x3), some (.int x4), none, some (.int x6), some (.int x7), some (.int x8)]) (L' := [some (.ref 0), some (.ref 42), some (.int x2), some (.int x3), some (.int x4), none, some (.int x6), some (.int x7), some (.int x8)]) (st := [.int (1 : Int32)]) ⟨rfl, ⟨rfl, ⟨rfl, ⟨rfl, ⟨rfl, ⟨rfl, ⟨rfl, ⟨rfl, trivial⟩⟩⟩⟩⟩⟩⟩⟩ ?_
      exact wt91_b74 42 (by decide) hK32 _ _ _ _ _ _ _ _ h
  · unfold w91_b56 at h
    refine A_call (j := 92) (As := [.ref 0, .ref 44, .int x2, .int x3, .int x8]) (fr' := (91, 65, [some (.ref 0), some (.ref 44), some (.int x2), some (.int x3), some (.int x4), none, some (.int x6), some (.int x7), some (.int x8)], [])) (S' := S) 6 rfl (e := 4) (by omega) (A_imp (wt92 44 (by decide) x2 x3 x8 h) (fun v S3 hq => ?_))
    obtain ⟨r4, hv, h⟩ := hq
    subst hv
    refine A_br (¬ r4 = (-1 : Int32)) (r1 := ((91, 73, [some (.ref 0), some (.ref 44), some (.int x2), some (.int x3), some (.int x4), none, some (.int x6), some (.int x7), some (.int x8)], []), S3)) (r2 := ((91, 69, [some (.ref 0), some (.ref 44), some (.int x2), some (.int x3), some (.int x4), none, some (.int x6), some (.int x7), some (.int x8)], []), S3)) 2 rfl (fun c => ?_) (fun c => ?_)
    · have h := h.1 c
      refine A_nx 1 (fr' := (91, 74, [some (.ref 0), some (.ref 44), some (.int x2), some (.int x3), some (.int x4), none, some (.int x6), some (.int x7), some (.int x8)], [.int (0 : Int32)])) (S' := S3) rfl ?_
      refine ri_A.less (m := 91) (pc := 74) (L := [some (.ref 0), some (.ref 44), some (.int x2), some (.int x3), some (.int x4), none, some (.int x6), some (.int x7), some (.int x8)]) (L' := [some (.ref 0), some (.ref 44), some (.int x2), some (.int x3), some (.int x4), none, some (.int x6), some (.int x7), some (.int x8)]) (st := [.int (0 : Int32)]) ⟨rfl, ⟨rfl, ⟨rfl, ⟨rfl, ⟨rfl, ⟨rfl, ⟨rfl, ⟨rfl, trivial⟩⟩⟩⟩⟩⟩⟩⟩ ?_
      exact wt91_b74 44 (by decide) hK32 _ _ _ _ _ _ _ _ h
    · have h := h.2 c
      refine A_nx 2 (fr' := (91, 74, [some (.ref 0), some (.ref 44), some (.int x2), some (.int x3), some (.int x4), none, some (.int x6), some (.int x7), some (.int x8)], [.int (1 : Int32)])) (S' := S3) rfl ?_
      refine ri_A.less (m := 91) (pc := 74) (L := [some (.ref 0), some (.ref 44), some (.int x2), some (.int x3), some (.int x4), none, some (.int x6), some (.int x7), some (.int x8)]) (L' := [some (.ref 0), some (.ref 44), some (.int x2), some (.int x3), some (.int x4), none, some (.int x6), some (.int x7), some (.int x8)]) (st := [.int (1 : Int32)]) ⟨rfl, ⟨rfl, ⟨rfl, ⟨rfl, ⟨rfl, ⟨rfl, ⟨rfl, ⟨rfl, trivial⟩⟩⟩⟩⟩⟩⟩⟩ ?_
      exact wt91_b74 44 (by decide) hK32 _ _ _ _ _ _ _ _ h
def w91_l32 (k : Nat) (Q : Int32 → ri_H → Prop) : Nat → Int32 → Int32 → Int32 → Int32 → Int32 → Int32 → Int32 → ri_H → Prop
  | 0, _, _, _, _, _, _, _, _ => False
  | n + 1, x2, x3, x4, x5, x6, x7, x8, S => (((99 : Int32) < x8 → ((¬ x3 = (4 : Int32) → Q x7 S) ∧ (¬ (¬ x3 = (4 : Int32)) → Q x6 S))) ∧ (¬ (99 : Int32) < x8 → ((¬ x4 = 0 → w91_b56 k (fun x2 x3 x4 x5 x6 x7 x8 S => w91_l32 k  Q n x2 x3 x4 x5 x6 x7 x8 S) Q x2 x3 x4 x6 x7 x8 S) ∧ (¬ (¬ x4 = 0) → ((x8 = (-99 : Int32) → w91_b56 k (fun x2 x3 x4 x5 x6 x7 x8 S => w91_l32 k  Q n x2 x3 x4 x5 x6 x7 x8 S) Q x2 x3 x4 x6 x7 x8 S) ∧ (¬ (x8 = (-99 : Int32)) → ((¬ x8 = 0 → w91_b76 k (fun x2 x3 x4 x5 x6 x7 x8 S => w91_l32 k  Q n x2 x3 x4 x5 x6 x7 x8 S) Q x2 x3 x4 x5 x6 x7 x8 S) ∧ (¬ (¬ x8 = 0) → w91_b56 k (fun x2 x3 x4 x5 x6 x7 x8 S => w91_l32 k  Q n x2 x3 x4 x5 x6 x7 x8 S) Q x2 x3 x4 x6 x7 x8 S))))))))
set_option maxRecDepth 10000 in
set_option maxHeartbeats 1000000 in
theorem wt91_l32 {E : ri_E} (k : Nat) (hw : k = 38 ∨ k = 40 ∨ k = 42 ∨ k = 44) {Q : Int32 → ri_H → Prop} : ∀ (n : Nat) (x2 : Int32) (x3 : Int32) (x4 : Int32) (x5 : Int32) (x6 : Int32) (x7 : Int32) (x8 : Int32) (S : ri_H), w91_l32 k  Q n x2 x3 x4 x5 x6 x7 x8 S → ri_A E 5 (91, 32, [some (.ref 0), some (.ref k), some (.int x2), some (.int x3), some (.int x4), some (.int x5), some (.int x6), some (.int x7), some (.int x8)], []) S (Qi Q) := by
  rcases hw with rfl | rfl | rfl | rfl
  · intro n
    induction n with
    | zero => intro x2 x3 x4 x5 x6 x7 x8 S h; exact h.elim
    | succ n ih =>
      intro x2 x3 x4 x5 x6 x7 x8 S h
      unfold w91_l32 at h
      refine A_br ((99 : Int32) < x8) (r1 := ((91, 104, [some (.ref 0), some (.ref 38), some (.int x2), some (.int x3), some (.int x4), some (.int x5), some (.int x6), some (.int x7), some (.int x8)], []), S)) (r2 := ((91, 39, [some (.ref 0), some (.ref 38), some (.int x2), some (.int x3), some (.int x4), some (.int x5), some (.int x6), some (.int x7), some (.int x8)], []), S)) 3 rfl (fun c => ?_) (fun c => ?_)
      · have h := h.1 c
        refine A_br (¬ x3 = (4 : Int32)) (r1 := ((91, 114, [some (.ref 0), some (.ref 38), some (.int x2), some (.int x3), some (.int x4), some (.int x5), some (.int x6), some (.int x7), some (.int x8)], []), S)) (r2 := ((91, 109, [some (.ref 0), some (.ref 38), some (.int x2), some (.int x3), some (.int x4), some (.int x5), some (.int x6), some (.int x7), some (.int x8)], []), S)) 3 rfl (fun c => ?_) (fun c => ?_)
        · have h := h.1 c
          exact A_ret 2 (m := 91) (v := some (.int x7)) (S' := S) rfl rfl ⟨_, rfl, h⟩
        · have h := h.2 c
          exact A_ret 3 (m := 91) (v := some (.int x6)) (S' := S) rfl rfl ⟨_, rfl, h⟩
      · have h := h.2 c
        refine A_br (¬ x4 = 0) (r1 := ((91, 56, [some (.ref 0), some (.ref 38), some (.int x2), some (.int x3), some (.int x4), some (.int x5), some (.int x6), some (.int x7), some (.int x8)], []), S)) (r2 := ((91, 44, [some (.ref 0), some (.ref 38), some (.int x2), some (.int x3), some (.int x4), some (.int x5), some (.int x6), some (.int x7), some (.int x8)], []), S)) 2 rfl (fun c => ?_) (fun c => ?_)
        · have h := h.1 c
          refine ri_A.less (m := 91) (pc := 56) (L := [some (.ref 0), some (.ref 38), some (.int x2), some (.int x3), some (.int x4), some (.int x5), some (.int x6), some (.int x7), some (.int x8)]) (L' := [some (.ref 0), some (.ref 38), some (.int x2), some (.int x3), some (.int x4), none, some (.int x6), some (.int x7), some (.int x8)]) (st := []) ⟨rfl, ⟨rfl, ⟨rfl, ⟨rfl, ⟨rfl, ⟨rfl, ⟨rfl, ⟨rfl, trivial⟩⟩⟩⟩⟩⟩⟩⟩ ?_
          exact wt91_b56 38 (by decide) (fun x2 x3 x4 x5 x6 x7 x8 S hk => ih x2 x3 x4 x5 x6 x7 x8 S hk) _ _ _ _ _ _ _ h
        · have h := h.2 c
          refine A_br (x8 = (-99 : Int32)) (r1 := ((91, 56, [some (.ref 0), some (.ref 38), some (.int x2), some (.int x3), some (.int x4), some (.int x5), some (.int x6), some (.int x7), some (.int x8)], []), S)) (r2 := ((91, 51, [some (.ref 0), some (.ref 38), some (.int x2), some (.int x3), some (.int x4), some (.int x5), some (.int x6), some (.int x7), some (.int x8)], []), S)) 3 rfl (fun c => ?_) (fun c => ?_)
          · have h := h.1 c
            refine ri_A.less (m := 91) (pc := 56) (L := [some (.ref 0), some (.ref 38), some (.int x2), some (.int x3), some (.int x4), some (.int x5), some (.int x6), some (.int x7), some (.int x8)]) (L' := [some (.ref 0), some (.ref 38), some (.int x2), some (.int x3), some (.int x4), none, some (.int x6), some (.int x7), some (.int x8)]) (st := []) ⟨rfl, ⟨rfl, ⟨rfl, ⟨rfl, ⟨rfl, ⟨rfl, ⟨rfl, ⟨rfl, trivial⟩⟩⟩⟩⟩⟩⟩⟩ ?_
            exact wt91_b56 38 (by decide) (fun x2 x3 x4 x5 x6 x7 x8 S hk => ih x2 x3 x4 x5 x6 x7 x8 S hk) _ _ _ _ _ _ _ h
          · have h := h.2 c
            refine A_br (¬ x8 = 0) (r1 := ((91, 76, [some (.ref 0), some (.ref 38), some (.int x2), some (.int x3), some (.int x4), some (.int x5), some (.int x6), some (.int x7), some (.int x8)], []), S)) (r2 := ((91, 56, [some (.ref 0), some (.ref 38), some (.int x2), some (.int x3), some (.int x4), some (.int x5), some (.int x6), some (.int x7), some (.int x8)], []), S)) 2 rfl (fun c => ?_) (fun c => ?_)
            · have h := h.1 c
              refine ri_A.less (m := 91) (pc := 76) (L := [some (.ref 0), some (.ref 38), some (.int x2), some (.int x3), some (.int x4), some (.int x5), some (.int x6), some (.int x7), some (.int x8)]) (L' := [some (.ref 0), some (.ref 38), some (.int x2), some (.int x3), some (.int x4), some (.int x5), some (.int x6), some (.int x7), some (.int x8)]) (st := []) ⟨rfl, ⟨rfl, ⟨rfl, ⟨rfl, ⟨rfl, ⟨rfl, ⟨rfl, ⟨rfl, ⟨rfl, trivial⟩⟩⟩⟩⟩⟩⟩⟩⟩ ?_
              exact wt91_b76 38 (by decide) (fun x2 x3 x4 x5 x6 x7 x8 S hk => ih x2 x3 x4 x5 x6 x7 x8 S hk) _ _ _ _ _ _ _ _ h
            · have h := h.2 c
              refine ri_A.less (m := 91) (pc := 56) (L := [some (.ref 0), some (.ref 38), some (.int x2), some (.int x3), some (.int x4), some (.int x5), some (.int x6), some (.int x7), some (.int x8)]) (L' := [some (.ref 0), some (.ref 38), some (.int x2), some (.int x3), some (.int x4), none, some (.int x6), some (.int x7), some (.int x8)]) (st := []) ⟨rfl, ⟨rfl, ⟨rfl, ⟨rfl, ⟨rfl, ⟨rfl, ⟨rfl, ⟨rfl, trivial⟩⟩⟩⟩⟩⟩⟩⟩ ?_
              exact wt91_b56 38 (by decide) (fun x2 x3 x4 x5 x6 x7 x8 S hk => ih x2 x3 x4 x5 x6 x7 x8 S hk) _ _ _ _ _ _ _ h
  · intro n
    induction n with
    | zero => intro x2 x3 x4 x5 x6 x7 x8 S h; exact h.elim
    | succ n ih =>
      intro x2 x3 x4 x5 x6 x7 x8 S h
      unfold w91_l32 at h
      refine A_br ((99 : Int32) < x8) (r1 := ((91, 104, [some (.ref 0), some (.ref 40), some (.int x2), some (.int x3), some (.int x4), some (.int x5), some (.int x6), some (.int x7), some (.int x8)], []), S)) (r2 := ((91, 39, [some (.ref 0), some (.ref 40), some (.int x2), some (.int x3), some (.int x4), some (.int x5), some (.int x6), some (.int x7), some (.int x8)], []), S)) 3 rfl (fun c => ?_) (fun c => ?_)
      · have h := h.1 c
        refine A_br (¬ x3 = (4 : Int32)) (r1 := ((91, 114, [some (.ref 0), some (.ref 40), some (.int x2), some (.int x3), some (.int x4), some (.int x5), some (.int x6), some (.int x7), some (.int x8)], []), S)) (r2 := ((91, 109, [some (.ref 0), some (.ref 40), some (.int x2), some (.int x3), some (.int x4), some (.int x5), some (.int x6), some (.int x7), some (.int x8)], []), S)) 3 rfl (fun c => ?_) (fun c => ?_)
        · have h := h.1 c
          exact A_ret 2 (m := 91) (v := some (.int x7)) (S' := S) rfl rfl ⟨_, rfl, h⟩
        · have h := h.2 c
          exact A_ret 3 (m := 91) (v := some (.int x6)) (S' := S) rfl rfl ⟨_, rfl, h⟩
      · have h := h.2 c
        refine A_br (¬ x4 = 0) (r1 := ((91, 56, [some (.ref 0), some (.ref 40), some (.int x2), some (.int x3), some (.int x4), some (.int x5), some (.int x6), some (.int x7), some (.int x8)], []), S)) (r2 := ((91, 44, [some (.ref 0), some (.ref 40), some (.int x2), some (.int x3), some (.int x4), some (.int x5), some (.int x6), some (.int x7), some (.int x8)], []), S)) 2 rfl (fun c => ?_) (fun c => ?_)
        · have h := h.1 c
          refine ri_A.less (m := 91) (pc := 56) (L := [some (.ref 0), some (.ref 40), some (.int x2), some (.int x3), some (.int x4), some (.int x5), some (.int x6), some (.int x7), some (.int x8)]) (L' := [some (.ref 0), some (.ref 40), some (.int x2), some (.int x3), some (.int x4), none, some (.int x6), some (.int x7), some (.int x8)]) (st := []) ⟨rfl, ⟨rfl, ⟨rfl, ⟨rfl, ⟨rfl, ⟨rfl, ⟨rfl, ⟨rfl, trivial⟩⟩⟩⟩⟩⟩⟩⟩ ?_
          exact wt91_b56 40 (by decide) (fun x2 x3 x4 x5 x6 x7 x8 S hk => ih x2 x3 x4 x5 x6 x7 x8 S hk) _ _ _ _ _ _ _ h
        · have h := h.2 c
          refine A_br (x8 = (-99 : Int32)) (r1 := ((91, 56, [some (.ref 0), some (.ref 40), some (.int x2), some (.int x3), some (.int x4), some (.int x5), some (.int x6), some (.int x7), some (.int x8)], []), S)) (r2 := ((91, 51, [some (.ref 0), some (.ref 40), some (.int x2), some (.int x3), some (.int x4), some (.int x5), some (.int x6), some (.int x7), some (.int x8)], []), S)) 3 rfl (fun c => ?_) (fun c => ?_)
          · have h := h.1 c
            refine ri_A.less (m := 91) (pc := 56) (L := [some (.ref 0), some (.ref 40), some (.int x2), some (.int x3), some (.int x4), some (.int x5), some (.int x6), some (.int x7), some (.int x8)]) (L' := [some (.ref 0), some (.ref 40), some (.int x2), some (.int x3), some (.int x4), none, some (.int x6), some (.int x7), some (.int x8)]) (st := []) ⟨rfl, ⟨rfl, ⟨rfl, ⟨rfl, ⟨rfl, ⟨rfl, ⟨rfl, ⟨rfl, trivial⟩⟩⟩⟩⟩⟩⟩⟩ ?_
            exact wt91_b56 40 (by decide) (fun x2 x3 x4 x5 x6 x7 x8 S hk => ih x2 x3 x4 x5 x6 x7 x8 S hk) _ _ _ _ _ _ _ h
          · have h := h.2 c
            refine A_br (¬ x8 = 0) (r1 := ((91, 76, [some (.ref 0), some (.ref 40), some (.int x2), some (.int x3), some (.int x4), some (.int x5), some (.int x6), some (.int x7), some (.int x8)], []), S)) (r2 := ((91, 56, [some (.ref 0), some (.ref 40), some (.int x2), some (.int x3), some (.int x4), some (.int x5), some (.int x6), some (.int x7), some (.int x8)], []), S)) 2 rfl (fun c => ?_) (fun c => ?_)
            · have h := h.1 c
              refine ri_A.less (m := 91) (pc := 76) (L := [some (.ref 0), some (.ref 40), some (.int x2), some (.int x3), some (.int x4), some (.int x5), some (.int x6), some (.int x7), some (.int x8)]) (L' := [some (.ref 0), some (.ref 40), some (.int x2), some (.int x3), some (.int x4), some (.int x5), some (.int x6), some (.int x7), some (.int x8)]) (st := []) ⟨rfl, ⟨rfl, ⟨rfl, ⟨rfl, ⟨rfl, ⟨rfl, ⟨rfl, ⟨rfl, ⟨rfl, trivial⟩⟩⟩⟩⟩⟩⟩⟩⟩ ?_
              exact wt91_b76 40 (by decide) (fun x2 x3 x4 x5 x6 x7 x8 S hk => ih x2 x3 x4 x5 x6 x7 x8 S hk) _ _ _ _ _ _ _ _ h
            · have h := h.2 c
              refine ri_A.less (m := 91) (pc := 56) (L := [some (.ref 0), some (.ref 40), some (.int x2), some (.int x3), some (.int x4), some (.int x5), some (.int x6), some (.int x7), some (.int x8)]) (L' := [some (.ref 0), some (.ref 40), some (.int x2), some (.int x3), some (.int x4), none, some (.int x6), some (.int x7), some (.int x8)]) (st := []) ⟨rfl, ⟨rfl, ⟨rfl, ⟨rfl, ⟨rfl, ⟨rfl, ⟨rfl, ⟨rfl, trivial⟩⟩⟩⟩⟩⟩⟩⟩ ?_
              exact wt91_b56 40 (by decide) (fun x2 x3 x4 x5 x6 x7 x8 S hk => ih x2 x3 x4 x5 x6 x7 x8 S hk) _ _ _ _ _ _ _ h
  · intro n
    induction n with
    | zero => intro x2 x3 x4 x5 x6 x7 x8 S h; exact h.elim
    | succ n ih =>
      intro x2 x3 x4 x5 x6 x7 x8 S h
      unfold w91_l32 at h
      refine A_br ((99 : Int32) < x8) (r1 := ((91, 104, [some (.ref 0), some (.ref 42), some (.int x2), some (.int x3), some (.int x4), some (.int x5), some (.int x6), some (.int x7), some (.int x8)], []), S)) (r2 := ((91, 39, [some (.ref 0), some (.ref 42), some (.int x2), some (.int x3), some (.int x4), some (.int x5), some (.int x6), some (.int x7), some (.int x8)], []), S)) 3 rfl (fun c => ?_) (fun c => ?_)
      · have h := h.1 c
        refine A_br (¬ x3 = (4 : Int32)) (r1 := ((91, 114, [some (.ref 0), some (.ref 42), some (.int x2), some (.int x3), some (.int x4), some (.int x5), some (.int x6), some (.int x7), some (.int x8)], []), S)) (r2 := ((91, 109, [some (.ref 0), some (.ref 42), some (.int x2), some (.int x3), some (.int x4), some (.int x5), some (.int x6), some (.int x7), some (.int x8)], []), S)) 3 rfl (fun c => ?_) (fun c => ?_)
        · have h := h.1 c
          exact A_ret 2 (m := 91) (v := some (.int x7)) (S' := S) rfl rfl ⟨_, rfl, h⟩
        · have h := h.2 c
          exact A_ret 3 (m := 91) (v := some (.int x6)) (S' := S) rfl rfl ⟨_, rfl, h⟩
      · have h := h.2 c
        refine A_br (¬ x4 = 0) (r1 := ((91, 56, [some (.ref 0), some (.ref 42), some (.int x2), some (.int x3), some (.int x4), some (.int x5), some (.int x6), some (.int x7), some (.int x8)], []), S)) (r2 := ((91, 44, [some (.ref 0), some (.ref 42), some (.int x2), some (.int x3), some (.int x4), some (.int x5), some (.int x6), some (.int x7), some (.int x8)], []), S)) 2 rfl (fun c => ?_) (fun c => ?_)
        · have h := h.1 c
          refine ri_A.less (m := 91) (pc := 56) (L := [some (.ref 0), some (.ref 42), some (.int x2), some (.int x3), some (.int x4), some (.int x5), some (.int x6), some (.int x7), some (.int x8)]) (L' := [some (.ref 0), some (.ref 42), some (.int x2), some (.int x3), some (.int x4), none, some (.int x6), some (.int x7), some (.int x8)]) (st := []) ⟨rfl, ⟨rfl, ⟨rfl, ⟨rfl, ⟨rfl, ⟨rfl, ⟨rfl, ⟨rfl, trivial⟩⟩⟩⟩⟩⟩⟩⟩ ?_
          exact wt91_b56 42 (by decide) (fun x2 x3 x4 x5 x6 x7 x8 S hk => ih x2 x3 x4 x5 x6 x7 x8 S hk) _ _ _ _ _ _ _ h
        · have h := h.2 c
          refine A_br (x8 = (-99 : Int32)) (r1 := ((91, 56, [some (.ref 0), some (.ref 42), some (.int x2), some (.int x3), some (.int x4), some (.int x5), some (.int x6), some (.int x7), some (.int x8)], []), S)) (r2 := ((91, 51, [some (.ref 0), some (.ref 42), some (.int x2), some (.int x3), some (.int x4), some (.int x5), some (.int x6), some (.int x7), some (.int x8)], []), S)) 3 rfl (fun c => ?_) (fun c => ?_)
          · have h := h.1 c
            refine ri_A.less (m := 91) (pc := 56) (L := [some (.ref 0), some (.ref 42), some (.int x2), some (.int x3), some (.int x4), some (.int x5), some (.int x6), some (.int x7), some (.int x8)]) (L' := [some (.ref 0), some (.ref 42), some (.int x2), some (.int x3), some (.int x4), none, some (.int x6), some (.int x7), some (.int x8)]) (st := []) ⟨rfl, ⟨rfl, ⟨rfl, ⟨rfl, ⟨rfl, ⟨rfl, ⟨rfl, ⟨rfl, trivial⟩⟩⟩⟩⟩⟩⟩⟩ ?_
            exact wt91_b56 42 (by decide) (fun x2 x3 x4 x5 x6 x7 x8 S hk => ih x2 x3 x4 x5 x6 x7 x8 S hk) _ _ _ _ _ _ _ h
          · have h := h.2 c
            refine A_br (¬ x8 = 0) (r1 := ((91, 76, [some (.ref 0), some (.ref 42), some (.int x2), some (.int x3), some (.int x4), some (.int x5), some (.int x6), some (.int x7), some (.int x8)], []), S)) (r2 := ((91, 56, [some (.ref 0), some (.ref 42), some (.int x2), some (.int x3), some (.int x4), some (.int x5), some (.int x6), some (.int x7), some (.int x8)], []), S)) 2 rfl (fun c => ?_) (fun c => ?_)
            · have h := h.1 c
              refine ri_A.less (m := 91) (pc := 76) (L := [some (.ref 0), some (.ref 42), some (.int x2), some (.int x3), some (.int x4), some (.int x5), some (.int x6), some (.int x7), some (.int x8)]) (L' := [some (.ref 0), some (.ref 42), some (.int x2), some (.int x3), some (.int x4), some (.int x5), some (.int x6), some (.int x7), some (.int x8)]) (st := []) ⟨rfl, ⟨rfl, ⟨rfl, ⟨rfl, ⟨rfl, ⟨rfl, ⟨rfl, ⟨rfl, ⟨rfl, trivial⟩⟩⟩⟩⟩⟩⟩⟩⟩ ?_
              exact wt91_b76 42 (by decide) (fun x2 x3 x4 x5 x6 x7 x8 S hk => ih x2 x3 x4 x5 x6 x7 x8 S hk) _ _ _ _ _ _ _ _ h
            · have h := h.2 c
              refine ri_A.less (m := 91) (pc := 56) (L := [some (.ref 0), some (.ref 42), some (.int x2), some (.int x3), some (.int x4), some (.int x5), some (.int x6), some (.int x7), some (.int x8)]) (L' := [some (.ref 0), some (.ref 42), some (.int x2), some (.int x3), some (.int x4), none, some (.int x6), some (.int x7), some (.int x8)]) (st := []) ⟨rfl, ⟨rfl, ⟨rfl, ⟨rfl, ⟨rfl, ⟨rfl, ⟨rfl, ⟨rfl, trivial⟩⟩⟩⟩⟩⟩⟩⟩ ?_
              exact wt91_b56 42 (by decide) (fun x2 x3 x4 x5 x6 x7 x8 S hk => ih x2 x3 x4 x5 x6 x7 x8 S hk) _ _ _ _ _ _ _ h
  · intro n
    induction n with
    | zero => intro x2 x3 x4 x5 x6 x7 x8 S h; exact h.elim
    | succ n ih =>
      intro x2 x3 x4 x5 x6 x7 x8 S h
      unfold w91_l32 at h
      refine A_br ((99 : Int32) < x8) (r1 := ((91, 104, [some (.ref 0), some (.ref 44), some (.int x2), some (.int x3), some (.int x4), some (.int x5), some (.int x6), some (.int x7), some (.int x8)], []), S)) (r2 := ((91, 39, [some (.ref 0), some (.ref 44), some (.int x2), some (.int x3), some (.int x4), some (.int x5), some (.int x6), some (.int x7), some (.int x8)], []), S)) 3 rfl (fun c => ?_) (fun c => ?_)
      · have h := h.1 c
        refine A_br (¬ x3 = (4 : Int32)) (r1 := ((91, 114, [some (.ref 0), some (.ref 44), some (.int x2), some (.int x3), some (.int x4), some (.int x5), some (.int x6), some (.int x7), some (.int x8)], []), S)) (r2 := ((91, 109, [some (.ref 0), some (.ref 44), some (.int x2), some (.int x3), some (.int x4), some (.int x5), some (.int x6), some (.int x7), some (.int x8)], []), S)) 3 rfl (fun c => ?_) (fun c => ?_)
        · have h := h.1 c
          exact A_ret 2 (m := 91) (v := some (.int x7)) (S' := S) rfl rfl ⟨_, rfl, h⟩
        · have h := h.2 c
          exact A_ret 3 (m := 91) (v := some (.int x6)) (S' := S) rfl rfl ⟨_, rfl, h⟩
      · have h := h.2 c
        refine A_br (¬ x4 = 0) (r1 := ((91, 56, [some (.ref 0), some (.ref 44), some (.int x2), some (.int x3), some (.int x4), some (.int x5), some (.int x6), some (.int x7), some (.int x8)], []), S)) (r2 := ((91, 44, [some (.ref 0), some (.ref 44), some (.int x2), some (.int x3), some (.int x4), some (.int x5), some (.int x6), some (.int x7), some (.int x8)], []), S)) 2 rfl (fun c => ?_) (fun c => ?_)
        · have h := h.1 c
          refine ri_A.less (m := 91) (pc := 56) (L := [some (.ref 0), some (.ref 44), some (.int x2), some (.int x3), some (.int x4), some (.int x5), some (.int x6), some (.int x7), some (.int x8)]) (L' := [some (.ref 0), some (.ref 44), some (.int x2), some (.int x3), some (.int x4), none, some (.int x6), some (.int x7), some (.int x8)]) (st := []) ⟨rfl, ⟨rfl, ⟨rfl, ⟨rfl, ⟨rfl, ⟨rfl, ⟨rfl, ⟨rfl, trivial⟩⟩⟩⟩⟩⟩⟩⟩ ?_
          exact wt91_b56 44 (by decide) (fun x2 x3 x4 x5 x6 x7 x8 S hk => ih x2 x3 x4 x5 x6 x7 x8 S hk) _ _ _ _ _ _ _ h
        · have h := h.2 c
          refine A_br (x8 = (-99 : Int32)) (r1 := ((91, 56, [some (.ref 0), some (.ref 44), some (.int x2), some (.int x3), some (.int x4), some (.int x5), some (.int x6), some (.int x7), some (.int x8)], []), S)) (r2 := ((91, 51, [some (.ref 0), some (.ref 44), some (.int x2), some (.int x3), some (.int x4), some (.int x5), some (.int x6), some (.int x7), some (.int x8)], []), S)) 3 rfl (fun c => ?_) (fun c => ?_)
          · have h := h.1 c
            refine ri_A.less (m := 91) (pc := 56) (L := [some (.ref 0), some (.ref 44), some (.int x2), some (.int x3), some (.int x4), some (.int x5), some (.int x6), some (.int x7), some (.int x8)]) (L' := [some (.ref 0), some (.ref 44), some (.int x2), some (.int x3), some (.int x4), none, some (.int x6), some (.int x7), some (.int x8)]) (st := []) ⟨rfl, ⟨rfl, ⟨rfl, ⟨rfl, ⟨rfl, ⟨rfl, ⟨rfl, ⟨rfl, trivial⟩⟩⟩⟩⟩⟩⟩⟩ ?_
            exact wt91_b56 44 (by decide) (fun x2 x3 x4 x5 x6 x7 x8 S hk => ih x2 x3 x4 x5 x6 x7 x8 S hk) _ _ _ _ _ _ _ h
          · have h := h.2 c
            refine A_br (¬ x8 = 0) (r1 := ((91, 76, [some (.ref 0), some (.ref 44), some (.int x2), some (.int x3), some (.int x4), some (.int x5), some (.int x6), some (.int x7), some (.int x8)], []), S)) (r2 := ((91, 56, [some (.ref 0), some (.ref 44), some (.int x2), some (.int x3), some (.int x4), some (.int x5), some (.int x6), some (.int x7), some (.int x8)], []), S)) 2 rfl (fun c => ?_) (fun c => ?_)
            · have h := h.1 c
              refine ri_A.less (m := 91) (pc := 76) (L := [some (.ref 0), some (.ref 44), some (.int x2), some (.int x3), some (.int x4), some (.int x5), some (.int x6), some (.int x7), some (.int x8)]) (L' := [some (.ref 0), some (.ref 44), some (.int x2), some (.int x3), some (.int x4), some (.int x5), some (.int x6), some (.int x7), some (.int x8)]) (st := []) ⟨rfl, ⟨rfl, ⟨rfl, ⟨rfl, ⟨rfl, ⟨rfl, ⟨rfl, ⟨rfl, ⟨rfl, trivial⟩⟩⟩⟩⟩⟩⟩⟩⟩ ?_
              exact wt91_b76 44 (by decide) (fun x2 x3 x4 x5 x6 x7 x8 S hk => ih x2 x3 x4 x5 x6 x7 x8 S hk) _ _ _ _ _ _ _ _ h
            · have h := h.2 c
              refine ri_A.less (m := 91) (pc := 56) (L := [some (.ref 0), some (.ref 44), some (.int x2), some (.int x3), some (.int x4), some (.int x5), some (.int x6), some (.int x7), some (.int x8)]) (L' := [some (.ref 0), some (.ref 44), some (.int x2), some (.int x3), some (.int x4), none, some (.int x6), some (.int x7), some (.int x8)]) (st := []) ⟨rfl, ⟨rfl, ⟨rfl, ⟨rfl, ⟨rfl, ⟨rfl, ⟨rfl, ⟨rfl, trivial⟩⟩⟩⟩⟩⟩⟩⟩ ?_
              exact wt91_b56 44 (by decide) (fun x2 x3 x4 x5 x6 x7 x8 S hk => ih x2 x3 x4 x5 x6 x7 x8 S hk) _ _ _ _ _ _ _ h
def w91 (k : Nat) (a : Int32) (b : Int32) (S : ri_H) (Q : Int32 → ri_H → Prop) : Prop := w31 (S.1 10 11) (-5 : Int32) S (fun (r2 : Int32) (S1 : ri_H) => ∃ nn, w91_l32 k  Q nn a b r2 (0 : Int32) (0 : Int32) (-100 : Int32) (-99 : Int32) S1)
set_option maxRecDepth 10000 in
set_option maxHeartbeats 1000000 in
theorem wt91 {E : ri_E} (k : Nat) (hw : k = 38 ∨ k = 40 ∨ k = 42 ∨ k = 44) (a : Int32) (b : Int32) {S : ri_H} {Q : Int32 → ri_H → Prop} (h : w91 k a b S Q) : ri_A E 5 (ri_en 91 [.ref 0, .ref k, .int a, .int b]) S (Qi Q) := by
  rcases hw with rfl | rfl | rfl | rfl
  · unfold w91 at h
    show ri_A E 5 (91, 0, [some (.ref 0), some (.ref 38), some (.int a), some (.int b), none, none, none, none, none], []) S (Qi Q)
    refine A_call (j := 31) (As := [.ref 1, .int (S.1 10 11), .int (-5 : Int32)]) (fr' := (91, 16, [some (.ref 0), some (.ref 38), some (.int a), some (.int b), none, none, none, none, none], [])) (S' := S) 7 rfl (e := 1) (by omega) (A_imp (wt31 (S.1 10 11) (-5 : Int32) h) (fun v S1 hq => ?_))
    obtain ⟨r2, hv, h⟩ := hq
    subst hv
    refine A_nx 9 (fr' := (91, 32, [some (.ref 0), some (.ref 38), some (.int a), some (.int b), some (.int r2), some (.int (0 : Int32)), some (.int (0 : Int32)), some (.int (-100 : Int32)), some (.int (-99 : Int32))], [])) (S' := S1) rfl ?_
    refine ri_A.less (m := 91) (pc := 32) (L := [some (.ref 0), some (.ref 38), some (.int a), some (.int b), some (.int r2), some (.int (0 : Int32)), some (.int (0 : Int32)), some (.int (-100 : Int32)), some (.int (-99 : Int32))]) (L' := [some (.ref 0), some (.ref 38), some (.int a), some (.int b), some (.int r2), some (.int (0 : Int32)), some (.int (0 : Int32)), some (.int (-100 : Int32)), some (.int (-99 : Int32))]) (st := []) ⟨rfl, ⟨rfl, ⟨rfl, ⟨rfl, ⟨rfl, ⟨rfl, ⟨rfl, ⟨rfl, ⟨rfl, trivial⟩⟩⟩⟩⟩⟩⟩⟩⟩ ?_
    obtain ⟨nn, h⟩ := h
    exact wt91_l32 38 (by decide)  nn _ _ _ _ _ _ _ _ h
  · unfold w91 at h
    show ri_A E 5 (91, 0, [some (.ref 0), some (.ref 40), some (.int a), some (.int b), none, none, none, none, none], []) S (Qi Q)
    refine A_call (j := 31) (As := [.ref 1, .int (S.1 10 11), .int (-5 : Int32)]) (fr' := (91, 16, [some (.ref 0), some (.ref 40), some (.int a), some (.int b), none, none, none, none, none], [])) (S' := S) 7 rfl (e := 1) (by omega) (A_imp (wt31 (S.1 10 11) (-5 : Int32) h) (fun v S1 hq => ?_))
    obtain ⟨r2, hv, h⟩ := hq
    subst hv
    refine A_nx 9 (fr' := (91, 32, [some (.ref 0), some (.ref 40), some (.int a), some (.int b), some (.int r2), some (.int (0 : Int32)), some (.int (0 : Int32)), some (.int (-100 : Int32)), some (.int (-99 : Int32))], [])) (S' := S1) rfl ?_
    refine ri_A.less (m := 91) (pc := 32) (L := [some (.ref 0), some (.ref 40), some (.int a), some (.int b), some (.int r2), some (.int (0 : Int32)), some (.int (0 : Int32)), some (.int (-100 : Int32)), some (.int (-99 : Int32))]) (L' := [some (.ref 0), some (.ref 40), some (.int a), some (.int b), some (.int r2), some (.int (0 : Int32)), some (.int (0 : Int32)), some (.int (-100 : Int32)), some (.int (-99 : Int32))]) (st := []) ⟨rfl, ⟨rfl, ⟨rfl, ⟨rfl, ⟨rfl, ⟨rfl, ⟨rfl, ⟨rfl, ⟨rfl, trivial⟩⟩⟩⟩⟩⟩⟩⟩⟩ ?_
    obtain ⟨nn, h⟩ := h
    exact wt91_l32 40 (by decide)  nn _ _ _ _ _ _ _ _ h
  · unfold w91 at h
    show ri_A E 5 (91, 0, [some (.ref 0), some (.ref 42), some (.int a), some (.int b), none, none, none, none, none], []) S (Qi Q)
    refine A_call (j := 31) (As := [.ref 1, .int (S.1 10 11), .int (-5 : Int32)]) (fr' := (91, 16, [some (.ref 0), some (.ref 42), some (.int a), some (.int b), none, none, none, none, none], [])) (S' := S) 7 rfl (e := 1) (by omega) (A_imp (wt31 (S.1 10 11) (-5 : Int32) h) (fun v S1 hq => ?_))
    obtain ⟨r2, hv, h⟩ := hq
    subst hv
    refine A_nx 9 (fr' := (91, 32, [some (.ref 0), some (.ref 42), some (.int a), some (.int b), some (.int r2), some (.int (0 : Int32)), some (.int (0 : Int32)), some (.int (-100 : Int32)), some (.int (-99 : Int32))], [])) (S' := S1) rfl ?_
    refine ri_A.less (m := 91) (pc := 32) (L := [some (.ref 0), some (.ref 42), some (.int a), some (.int b), some (.int r2), some (.int (0 : Int32)), some (.int (0 : Int32)), some (.int (-100 : Int32)), some (.int (-99 : Int32))]) (L' := [some (.ref 0), some (.ref 42), some (.int a), some (.int b), some (.int r2), some (.int (0 : Int32)), some (.int (0 : Int32)), some (.int (-100 : Int32)), some (.int (-99 : Int32))]) (st := []) ⟨rfl, ⟨rfl, ⟨rfl, ⟨rfl, ⟨rfl, ⟨rfl, ⟨rfl, ⟨rfl, ⟨rfl, trivial⟩⟩⟩⟩⟩⟩⟩⟩⟩ ?_
    obtain ⟨nn, h⟩ := h
    exact wt91_l32 42 (by decide)  nn _ _ _ _ _ _ _ _ h
  · unfold w91 at h
    show ri_A E 5 (91, 0, [some (.ref 0), some (.ref 44), some (.int a), some (.int b), none, none, none, none, none], []) S (Qi Q)
    refine A_call (j := 31) (As := [.ref 1, .int (S.1 10 11), .int (-5 : Int32)]) (fr' := (91, 16, [some (.ref 0), some (.ref 44), some (.int a), some (.int b), none, none, none, none, none], [])) (S' := S) 7 rfl (e := 1) (by omega) (A_imp (wt31 (S.1 10 11) (-5 : Int32) h) (fun v S1 hq => ?_))
    obtain ⟨r2, hv, h⟩ := hq
    subst hv
    refine A_nx 9 (fr' := (91, 32, [some (.ref 0), some (.ref 44), some (.int a), some (.int b), some (.int r2), some (.int (0 : Int32)), some (.int (0 : Int32)), some (.int (-100 : Int32)), some (.int (-99 : Int32))], [])) (S' := S1) rfl ?_
    refine ri_A.less (m := 91) (pc := 32) (L := [some (.ref 0), some (.ref 44), some (.int a), some (.int b), some (.int r2), some (.int (0 : Int32)), some (.int (0 : Int32)), some (.int (-100 : Int32)), some (.int (-99 : Int32))]) (L' := [some (.ref 0), some (.ref 44), some (.int a), some (.int b), some (.int r2), some (.int (0 : Int32)), some (.int (0 : Int32)), some (.int (-100 : Int32)), some (.int (-99 : Int32))]) (st := []) ⟨rfl, ⟨rfl, ⟨rfl, ⟨rfl, ⟨rfl, ⟨rfl, ⟨rfl, ⟨rfl, ⟨rfl, trivial⟩⟩⟩⟩⟩⟩⟩⟩⟩ ?_
    obtain ⟨nn, h⟩ := h
    exact wt91_l32 44 (by decide)  nn _ _ _ _ _ _ _ _ h
/-! X4_tells, depth 6 -/
def w64 (a : Int32) (b : Int32) (g : Int32) (S : ri_H) (Q : Int32 → ri_H → Prop) : Prop := ((a = 0 → (((wi b (S.1 10 9)) = 0 → Q (-1002 : Int32) S) ∧ (¬ (wi b (S.1 10 9)) = 0 → ((¬ (wi g (8 : Int32)) = 0 → w22 38  S (fun (r2 : Int32) (S1 : ri_H) => ((r2 = 0 → (((S1.1 38 2) ≤ (30 : Int32) → (((g < (0 : Int32) ∨ (6 : Int32) < g) → w90 38 b g (S1.1 10 9) S1 (fun (r4 : Int32) (S3 : ri_H) => Q r4 S3)) ∧ (g = (0 : Int32) → w92 38 b g (0 : Int32) S1 (fun (r6 : Int32) (S5 : ri_H) => Q r6 S5)) ∧ (g = (1 : Int32) → w90 38 b g (6 : Int32) S1 (fun (r8 : Int32) (S7 : ri_H) => Q r8 S7)) ∧ (g = (2 : Int32) → w90 38 b g (10 : Int32) S1 (fun (r10 : Int32) (S9 : ri_H) => Q r10 S9)) ∧ (g = (3 : Int32) → w90 38 b g (12 : Int32) S1 (fun (r12 : Int32) (S11 : ri_H) => Q r12 S11)) ∧ (g = (4 : Int32) → w91 38 b g S1 (fun (r14 : Int32) (S13 : ri_H) => Q r14 S13)) ∧ (g = (5 : Int32) → w91 38 b g S1 (fun (r16 : Int32) (S15 : ri_H) => Q r16 S15)) ∧ (g = (6 : Int32) → w90 38 b g (S1.1 1 3) S1 (fun (r18 : Int32) (S17 : ri_H) => Q r18 S17)))) ∧ (¬ (S1.1 38 2) ≤ (30 : Int32) → Q (-1003 : Int32) S1))) ∧ (¬ (r2 = 0) → Q (-1011 : Int32) S1)))) ∧ (¬ (¬ (wi g (8 : Int32)) = 0) → Q (-1002 : Int32) S))))) ∧ (a = 1 → (((wi b (S.1 10 9)) = 0 → Q (-1002 : Int32) S) ∧ (¬ (wi b (S.1 10 9)) = 0 → ((¬ (wi g (8 : Int32)) = 0 → w22 40  S (fun (r20 : Int32) (S19 : ri_H) => ((r20 = 0 → (((S19.1 40 2) ≤ (30 : Int32) → (((g < (0 : Int32) ∨ (6 : Int32) < g) → w90 40 b g (S19.1 10 9) S19 (fun (r22 : Int32) (S21 : ri_H) => Q r22 S21)) ∧ (g = (0 : Int32) → w92 40 b g (0 : Int32) S19 (fun (r24 : Int32) (S23 : ri_H) => Q r24 S23)) ∧ (g = (1 : Int32) → w90 40 b g (6 : Int32) S19 (fun (r26 : Int32) (S25 : ri_H) => Q r26 S25)) ∧ (g = (2 : Int32) → w90 40 b g (10 : Int32) S19 (fun (r28 : Int32) (S27 : ri_H) => Q r28 S27)) ∧ (g = (3 : Int32) → w90 40 b g (12 : Int32) S19 (fun (r30 : Int32) (S29 : ri_H) => Q r30 S29)) ∧ (g = (4 : Int32) → w91 40 b g S19 (fun (r32 : Int32) (S31 : ri_H) => Q r32 S31)) ∧ (g = (5 : Int32) → w91 40 b g S19 (fun (r34 : Int32) (S33 : ri_H) => Q r34 S33)) ∧ (g = (6 : Int32) → w90 40 b g (S19.1 1 3) S19 (fun (r36 : Int32) (S35 : ri_H) => Q r36 S35)))) ∧ (¬ (S19.1 40 2) ≤ (30 : Int32) → Q (-1003 : Int32) S19))) ∧ (¬ (r20 = 0) → Q (-1011 : Int32) S19)))) ∧ (¬ (¬ (wi g (8 : Int32)) = 0) → Q (-1002 : Int32) S))))) ∧ (a = 2 → (((wi b (S.1 10 9)) = 0 → Q (-1002 : Int32) S) ∧ (¬ (wi b (S.1 10 9)) = 0 → ((¬ (wi g (8 : Int32)) = 0 → w22 42  S (fun (r38 : Int32) (S37 : ri_H) => ((r38 = 0 → (((S37.1 42 2) ≤ (30 : Int32) → (((g < (0 : Int32) ∨ (6 : Int32) < g) → w90 42 b g (S37.1 10 9) S37 (fun (r40 : Int32) (S39 : ri_H) => Q r40 S39)) ∧ (g = (0 : Int32) → w92 42 b g (0 : Int32) S37 (fun (r42 : Int32) (S41 : ri_H) => Q r42 S41)) ∧ (g = (1 : Int32) → w90 42 b g (6 : Int32) S37 (fun (r44 : Int32) (S43 : ri_H) => Q r44 S43)) ∧ (g = (2 : Int32) → w90 42 b g (10 : Int32) S37 (fun (r46 : Int32) (S45 : ri_H) => Q r46 S45)) ∧ (g = (3 : Int32) → w90 42 b g (12 : Int32) S37 (fun (r48 : Int32) (S47 : ri_H) => Q r48 S47)) ∧ (g = (4 : Int32) → w91 42 b g S37 (fun (r50 : Int32) (S49 : ri_H) => Q r50 S49)) ∧ (g = (5 : Int32) → w91 42 b g S37 (fun (r52 : Int32) (S51 : ri_H) => Q r52 S51)) ∧ (g = (6 : Int32) → w90 42 b g (S37.1 1 3) S37 (fun (r54 : Int32) (S53 : ri_H) => Q r54 S53)))) ∧ (¬ (S37.1 42 2) ≤ (30 : Int32) → Q (-1003 : Int32) S37))) ∧ (¬ (r38 = 0) → Q (-1011 : Int32) S37)))) ∧ (¬ (¬ (wi g (8 : Int32)) = 0) → Q (-1002 : Int32) S))))) ∧ (a = 3 → (((wi b (S.1 10 9)) = 0 → Q (-1002 : Int32) S) ∧ (¬ (wi b (S.1 10 9)) = 0 → ((¬ (wi g (8 : Int32)) = 0 → w22 44  S (fun (r56 : Int32) (S55 : ri_H) => ((r56 = 0 → (((S55.1 44 2) ≤ (30 : Int32) → (((g < (0 : Int32) ∨ (6 : Int32) < g) → w90 44 b g (S55.1 10 9) S55 (fun (r58 : Int32) (S57 : ri_H) => Q r58 S57)) ∧ (g = (0 : Int32) → w92 44 b g (0 : Int32) S55 (fun (r60 : Int32) (S59 : ri_H) => Q r60 S59)) ∧ (g = (1 : Int32) → w90 44 b g (6 : Int32) S55 (fun (r62 : Int32) (S61 : ri_H) => Q r62 S61)) ∧ (g = (2 : Int32) → w90 44 b g (10 : Int32) S55 (fun (r64 : Int32) (S63 : ri_H) => Q r64 S63)) ∧ (g = (3 : Int32) → w90 44 b g (12 : Int32) S55 (fun (r66 : Int32) (S65 : ri_H) => Q r66 S65)) ∧ (g = (4 : Int32) → w91 44 b g S55 (fun (r68 : Int32) (S67 : ri_H) => Q r68 S67)) ∧ (g = (5 : Int32) → w91 44 b g S55 (fun (r70 : Int32) (S69 : ri_H) => Q r70 S69)) ∧ (g = (6 : Int32) → w90 44 b g (S55.1 1 3) S55 (fun (r72 : Int32) (S71 : ri_H) => Q r72 S71)))) ∧ (¬ (S55.1 44 2) ≤ (30 : Int32) → Q (-1003 : Int32) S55))) ∧ (¬ (r56 = 0) → Q (-1011 : Int32) S55)))) ∧ (¬ (¬ (wi g (8 : Int32)) = 0) → Q (-1002 : Int32) S))))) ∧ (wi a 4 = 0 → Q (-1002 : Int32) S))
set_option maxRecDepth 10000 in
set_option maxHeartbeats 1000000 in
theorem wt64 {E : ri_E} (a : Int32) (b : Int32) (g : Int32) {S : ri_H} {Q : Int32 → ri_H → Prop} (h : w64  a b g S Q) : ri_A E 6 (ri_en 64 [.ref 0, .int a, .int b, .int g]) S (Qi Q) := by
  unfold w64 at h
  show ri_A E 6 (64, 0, [some (.ref 0), some (.int a), some (.int b), some (.int g), none], []) S (Qi Q)
  refine A_call (j := 94) (As := [.ref 0, .int a]) (fr' := (64, 5, [some (.ref 0), some (.int a), some (.int b), some (.int g), none], [])) (S' := S) 3 rfl (e := 1) (by omega) (sp_sheetOf a (fun c => ?_) (fun c => ?_) (fun c => ?_) (fun c => ?_) (fun c => ?_))
  · have h := h.1 c
    refine A_call (j := 34) (As := [.ref 10, .int b]) (fr' := (64, 20, [some (.ref 0), some (.int a), some (.int b), some (.int g), some (.ref 38)], [])) (S' := S) 7 rfl (e := 0) (by omega) (sp_has 10 (by decide) _ ?_)
    refine A_br ((wi b (S.1 10 9)) = 0) (r1 := ((64, 32, [some (.ref 0), some (.int a), some (.int b), some (.int g), some (.ref 38)], []), S)) (r2 := ((64, 23, [some (.ref 0), some (.int a), some (.int b), some (.int g), some (.ref 38)], []), S)) 1 rfl (fun c => ?_) (fun c => ?_)
    · have h := h.1 c
      exact A_ret 2 (m := 64) (v := some (.int (-1002 : Int32))) (S' := S) rfl rfl ⟨_, rfl, h⟩
    · have h := h.2 c
      refine A_call (j := 95) (As := [.int g, .int (8 : Int32)]) (fr' := (64, 29, [some (.ref 0), some (.int a), some (.int b), some (.int g), some (.ref 38)], [])) (S' := S) 3 rfl (e := 0) (by omega) (sp_within _ _ ?_)
      refine A_br (¬ (wi g (8 : Int32)) = 0) (r1 := ((64, 36, [some (.ref 0), some (.int a), some (.int b), some (.int g), some (.ref 38)], []), S)) (r2 := ((64, 32, [some (.ref 0), some (.int a), some (.int b), some (.int g), some (.ref 38)], []), S)) 1 rfl (fun c => ?_) (fun c => ?_)
      · have h := h.1 c
        refine A_call (j := 22) (As := [.ref 38]) (fr' := (64, 41, [some (.ref 0), some (.int a), some (.int b), some (.int g), some (.ref 38)], [])) (S' := S) 2 rfl (e := 0) (by omega) (A_imp (wt22 38 (by decide)  h) (fun v S1 hq => ?_))
        obtain ⟨r2, hv, h⟩ := hq
        subst hv
        refine A_br (r2 = 0) (r1 := ((64, 48, [some (.ref 0), some (.int a), some (.int b), some (.int g), some (.ref 38)], []), S1)) (r2 := ((64, 44, [some (.ref 0), some (.int a), some (.int b), some (.int g), some (.ref 38)], []), S1)) 1 rfl (fun c => ?_) (fun c => ?_)
        · have h := h.1 c
          refine A_br ((S1.1 38 2) ≤ (30 : Int32)) (r1 := ((64, 62, [some (.ref 0), some (.int a), some (.int b), some (.int g), some (.ref 38)], []), S1)) (r2 := ((64, 58, [some (.ref 0), some (.int a), some (.int b), some (.int g), some (.ref 38)], []), S1)) 4 rfl (fun c => ?_) (fun c => ?_)
          · have h := h.1 c
            refine A_nx 2 (fr' := (64, ri_tgt 63 (109) (0) (6) [41, 51, 62, 73, 84, 84, 93] g, [some (.ref 0), some (.int a), some (.int b), some (.int g), some (.ref 38)], [])) (S' := S1) rfl ?_
            rcases ri_swc g (0) 7 (by decide) (by decide) with c | ⟨i, hi, c⟩
            · have c : g < Int32.ofInt (0) ∨ Int32.ofInt (6) < g := c
              have h := h.1 c
              rw [ri_tgt_out g c (by decide) (by decide)]
              refine A_call (j := 90) (As := [.ref 0, .ref 38, .int b, .int g, .int (S1.1 10 9)]) (fr' := (64, 187, [some (.ref 0), some (.int a), some (.int b), some (.int g), some (.ref 38)], [])) (S' := S1) 8 rfl (e := 5) (by omega) (A_imp (wt90 38 (by decide) b g (S1.1 10 9) h) (fun v S3 hq => ?_))
              obtain ⟨r4, hv, h⟩ := hq
              subst hv
              exact A_ret 1 (m := 64) (v := some (.int r4)) (S' := S3) rfl rfl ⟨_, rfl, h⟩
            · have h := h.2
              match i, hi, c with
              | 0, hi, c =>
                have c : g = (0 : Int32) := c
                have h := h.1 c
                rw [show ri_tgt 63 (109) (0) (6) [41, 51, 62, 73, 84, 84, 93] g = 104 by rw [c]; decide]
                refine A_call (j := 92) (As := [.ref 0, .ref 38, .int b, .int g, .int (0 : Int32)]) (fr' := (64, 113, [some (.ref 0), some (.int a), some (.int b), some (.int g), some (.ref 38)], [])) (S' := S1) 6 rfl (e := 4) (by omega) (A_imp (wt92 38 (by decide) b g (0 : Int32) h) (fun v S5 hq => ?_))
                obtain ⟨r6, hv, h⟩ := hq
                subst hv
                exact A_ret 1 (m := 64) (v := some (.int r6)) (S' := S5) rfl rfl ⟨_, rfl, h⟩
              | 1, hi, c =>
                have c : g = (1 : Int32) := c
                have h := h.2.1 c
                rw [show ri_tgt 63 (109) (0) (6) [41, 51, 62, 73, 84, 84, 93] g = 114 by rw [c]; decide]
                refine A_call (j := 90) (As := [.ref 0, .ref 38, .int b, .int g, .int (6 : Int32)]) (fr' := (64, 124, [some (.ref 0), some (.int a), some (.int b), some (.int g), some (.ref 38)], [])) (S' := S1) 6 rfl (e := 5) (by omega) (A_imp (wt90 38 (by decide) b g (6 : Int32) h) (fun v S7 hq => ?_))
                obtain ⟨r8, hv, h⟩ := hq
                subst hv
                exact A_ret 1 (m := 64) (v := some (.int r8)) (S' := S7) rfl rfl ⟨_, rfl, h⟩
              | 2, hi, c =>
                have c : g = (2 : Int32) := c
                have h := h.2.2.1 c
                rw [show ri_tgt 63 (109) (0) (6) [41, 51, 62, 73, 84, 84, 93] g = 125 by rw [c]; decide]
                refine A_call (j := 90) (As := [.ref 0, .ref 38, .int b, .int g, .int (10 : Int32)]) (fr' := (64, 135, [some (.ref 0), some (.int a), some (.int b), some (.int g), some (.ref 38)], [])) (S' := S1) 6 rfl (e := 5) (by omega) (A_imp (wt90 38 (by decide) b g (10 : Int32) h) (fun v S9 hq => ?_))
                obtain ⟨r10, hv, h⟩ := hq
                subst hv
                exact A_ret 1 (m := 64) (v := some (.int r10)) (S' := S9) rfl rfl ⟨_, rfl, h⟩
              | 3, hi, c =>
                have c : g = (3 : Int32) := c
                have h := h.2.2.2.1 c
                rw [show ri_tgt 63 (109) (0) (6) [41, 51, 62, 73, 84, 84, 93] g = 136 by rw [c]; decide]
                refine A_call (j := 90) (As := [.ref 0, .ref 38, .int b, .int g, .int (12 : Int32)]) (fr' := (64, 146, [some (.ref 0), some (.int a), some (.int b), some (.int g), some (.ref 38)], [])) (S' := S1) 6 rfl (e := 5) (by omega) (A_imp (wt90 38 (by decide) b g (12 : Int32) h) (fun v S11 hq => ?_))
                obtain ⟨r12, hv, h⟩ := hq
                subst hv
                exact A_ret 1 (m := 64) (v := some (.int r12)) (S' := S11) rfl rfl ⟨_, rfl, h⟩
              | 4, hi, c =>
                have c : g = (4 : Int32) := c
                have h := h.2.2.2.2.1 c
                rw [show ri_tgt 63 (109) (0) (6) [41, 51, 62, 73, 84, 84, 93] g = 147 by rw [c]; decide]
                refine A_call (j := 91) (As := [.ref 0, .ref 38, .int b, .int g]) (fr' := (64, 155, [some (.ref 0), some (.int a), some (.int b), some (.int g), some (.ref 38)], [])) (S' := S1) 5 rfl (e := 5) (by omega) (A_imp (wt91 38 (by decide) b g h) (fun v S13 hq => ?_))
                obtain ⟨r14, hv, h⟩ := hq
                subst hv
                exact A_ret 1 (m := 64) (v := some (.int r14)) (S' := S13) rfl rfl ⟨_, rfl, h⟩
              | 5, hi, c =>
                have c : g = (5 : Int32) := c
                have h := h.2.2.2.2.2.1 c
                rw [show ri_tgt 63 (109) (0) (6) [41, 51, 62, 73, 84, 84, 93] g = 147 by rw [c]; decide]
                refine A_call (j := 91) (As := [.ref 0, .ref 38, .int b, .int g]) (fr' := (64, 155, [some (.ref 0), some (.int a), some (.int b), some (.int g), some (.ref 38)], [])) (S' := S1) 5 rfl (e := 5) (by omega) (A_imp (wt91 38 (by decide) b g h) (fun v S15 hq => ?_))
                obtain ⟨r16, hv, h⟩ := hq
                subst hv
                exact A_ret 1 (m := 64) (v := some (.int r16)) (S' := S15) rfl rfl ⟨_, rfl, h⟩
              | 6, hi, c =>
                have c : g = (6 : Int32) := c
                have h := h.2.2.2.2.2.2 c
                rw [show ri_tgt 63 (109) (0) (6) [41, 51, 62, 73, 84, 84, 93] g = 156 by rw [c]; decide]
                refine A_call (j := 90) (As := [.ref 0, .ref 38, .int b, .int g, .int (S1.1 1 3)]) (fr' := (64, 171, [some (.ref 0), some (.int a), some (.int b), some (.int g), some (.ref 38)], [])) (S' := S1) 8 rfl (e := 5) (by omega) (A_imp (wt90 38 (by decide) b g (S1.1 1 3) h) (fun v S17 hq => ?_))
                obtain ⟨r18, hv, h⟩ := hq
                subst hv
                exact A_ret 1 (m := 64) (v := some (.int r18)) (S' := S17) rfl rfl ⟨_, rfl, h⟩
              | i + 7, hi, c => exact absurd hi (by omega)
          · have h := h.2 c
            exact A_ret 2 (m := 64) (v := some (.int (-1003 : Int32))) (S' := S1) rfl rfl ⟨_, rfl, h⟩
        · have h := h.2 c
          exact A_ret 2 (m := 64) (v := some (.int (-1011 : Int32))) (S' := S1) rfl rfl ⟨_, rfl, h⟩
      · have h := h.2 c
        exact A_ret 2 (m := 64) (v := some (.int (-1002 : Int32))) (S' := S) rfl rfl ⟨_, rfl, h⟩
  · have h := h.2.1 c
    refine A_call (j := 34) (As := [.ref 10, .int b]) (fr' := (64, 20, [some (.ref 0), some (.int a), some (.int b), some (.int g), some (.ref 40)], [])) (S' := S) 7 rfl (e := 0) (by omega) (sp_has 10 (by decide) _ ?_)
    refine A_br ((wi b (S.1 10 9)) = 0) (r1 := ((64, 32, [some (.ref 0), some (.int a), some (.int b), some (.int g), some (.ref 40)], []), S)) (r2 := ((64, 23, [some (.ref 0), some (.int a), some (.int b), some (.int g), some (.ref 40)], []), S)) 1 rfl (fun c => ?_) (fun c => ?_)
    · have h := h.1 c
      exact A_ret 2 (m := 64) (v := some (.int (-1002 : Int32))) (S' := S) rfl rfl ⟨_, rfl, h⟩
    · have h := h.2 c
      refine A_call (j := 95) (As := [.int g, .int (8 : Int32)]) (fr' := (64, 29, [some (.ref 0), some (.int a), some (.int b), some (.int g), some (.ref 40)], [])) (S' := S) 3 rfl (e := 0) (by omega) (sp_within _ _ ?_)
      refine A_br (¬ (wi g (8 : Int32)) = 0) (r1 := ((64, 36, [some (.ref 0), some (.int a), some (.int b), some (.int g), some (.ref 40)], []), S)) (r2 := ((64, 32, [some (.ref 0), some (.int a), some (.int b), some (.int g), some (.ref 40)], []), S)) 1 rfl (fun c => ?_) (fun c => ?_)
      · have h := h.1 c
        refine A_call (j := 22) (As := [.ref 40]) (fr' := (64, 41, [some (.ref 0), some (.int a), some (.int b), some (.int g), some (.ref 40)], [])) (S' := S) 2 rfl (e := 0) (by omega) (A_imp (wt22 40 (by decide)  h) (fun v S19 hq => ?_))
        obtain ⟨r20, hv, h⟩ := hq
        subst hv
        refine A_br (r20 = 0) (r1 := ((64, 48, [some (.ref 0), some (.int a), some (.int b), some (.int g), some (.ref 40)], []), S19)) (r2 := ((64, 44, [some (.ref 0), some (.int a), some (.int b), some (.int g), some (.ref 40)], []), S19)) 1 rfl (fun c => ?_) (fun c => ?_)
        · have h := h.1 c
          refine A_br ((S19.1 40 2) ≤ (30 : Int32)) (r1 := ((64, 62, [some (.ref 0), some (.int a), some (.int b), some (.int g), some (.ref 40)], []), S19)) (r2 := ((64, 58, [some (.ref 0), some (.int a), some (.int b), some (.int g), some (.ref 40)], []), S19)) 4 rfl (fun c => ?_) (fun c => ?_)
          · have h := h.1 c
            refine A_nx 2 (fr' := (64, ri_tgt 63 (109) (0) (6) [41, 51, 62, 73, 84, 84, 93] g, [some (.ref 0), some (.int a), some (.int b), some (.int g), some (.ref 40)], [])) (S' := S19) rfl ?_
            rcases ri_swc g (0) 7 (by decide) (by decide) with c | ⟨i, hi, c⟩
            · have c : g < Int32.ofInt (0) ∨ Int32.ofInt (6) < g := c
              have h := h.1 c
              rw [ri_tgt_out g c (by decide) (by decide)]
              refine A_call (j := 90) (As := [.ref 0, .ref 40, .int b, .int g, .int (S19.1 10 9)]) (fr' := (64, 187, [some (.ref 0), some (.int a), some (.int b), some (.int g), some (.ref 40)], [])) (S' := S19) 8 rfl (e := 5) (by omega) (A_imp (wt90 40 (by decide) b g (S19.1 10 9) h) (fun v S21 hq => ?_))
              obtain ⟨r22, hv, h⟩ := hq
              subst hv
              exact A_ret 1 (m := 64) (v := some (.int r22)) (S' := S21) rfl rfl ⟨_, rfl, h⟩
            · have h := h.2
              match i, hi, c with
              | 0, hi, c =>
                have c : g = (0 : Int32) := c
                have h := h.1 c
                rw [show ri_tgt 63 (109) (0) (6) [41, 51, 62, 73, 84, 84, 93] g = 104 by rw [c]; decide]
                refine A_call (j := 92) (As := [.ref 0, .ref 40, .int b, .int g, .int (0 : Int32)]) (fr' := (64, 113, [some (.ref 0), some (.int a), some (.int b), some (.int g), some (.ref 40)], [])) (S' := S19) 6 rfl (e := 4) (by omega) (A_imp (wt92 40 (by decide) b g (0 : Int32) h) (fun v S23 hq => ?_))
                obtain ⟨r24, hv, h⟩ := hq
                subst hv
                exact A_ret 1 (m := 64) (v := some (.int r24)) (S' := S23) rfl rfl ⟨_, rfl, h⟩
              | 1, hi, c =>
                have c : g = (1 : Int32) := c
                have h := h.2.1 c
                rw [show ri_tgt 63 (109) (0) (6) [41, 51, 62, 73, 84, 84, 93] g = 114 by rw [c]; decide]
                refine A_call (j := 90) (As := [.ref 0, .ref 40, .int b, .int g, .int (6 : Int32)]) (fr' := (64, 124, [some (.ref 0), some (.int a), some (.int b), some (.int g), some (.ref 40)], [])) (S' := S19) 6 rfl (e := 5) (by omega) (A_imp (wt90 40 (by decide) b g (6 : Int32) h) (fun v S25 hq => ?_))
                obtain ⟨r26, hv, h⟩ := hq
                subst hv
                exact A_ret 1 (m := 64) (v := some (.int r26)) (S' := S25) rfl rfl ⟨_, rfl, h⟩
              | 2, hi, c =>
                have c : g = (2 : Int32) := c
                have h := h.2.2.1 c
                rw [show ri_tgt 63 (109) (0) (6) [41, 51, 62, 73, 84, 84, 93] g = 125 by rw [c]; decide]
                refine A_call (j := 90) (As := [.ref 0, .ref 40, .int b, .int g, .int (10 : Int32)]) (fr' := (64, 135, [some (.ref 0), some (.int a), some (.int b), some (.int g), some (.ref 40)], [])) (S' := S19) 6 rfl (e := 5) (by omega) (A_imp (wt90 40 (by decide) b g (10 : Int32) h) (fun v S27 hq => ?_))
                obtain ⟨r28, hv, h⟩ := hq
                subst hv
                exact A_ret 1 (m := 64) (v := some (.int r28)) (S' := S27) rfl rfl ⟨_, rfl, h⟩
              | 3, hi, c =>
                have c : g = (3 : Int32) := c
                have h := h.2.2.2.1 c
                rw [show ri_tgt 63 (109) (0) (6) [41, 51, 62, 73, 84, 84, 93] g = 136 by rw [c]; decide]
                refine A_call (j := 90) (As := [.ref 0, .ref 40, .int b, .int g, .int (12 : Int32)]) (fr' := (64, 146, [some (.ref 0), some (.int a), some (.int b), some (.int g), some (.ref 40)], [])) (S' := S19) 6 rfl (e := 5) (by omega) (A_imp (wt90 40 (by decide) b g (12 : Int32) h) (fun v S29 hq => ?_))
                obtain ⟨r30, hv, h⟩ := hq
                subst hv
                exact A_ret 1 (m := 64) (v := some (.int r30)) (S' := S29) rfl rfl ⟨_, rfl, h⟩
              | 4, hi, c =>
                have c : g = (4 : Int32) := c
                have h := h.2.2.2.2.1 c
                rw [show ri_tgt 63 (109) (0) (6) [41, 51, 62, 73, 84, 84, 93] g = 147 by rw [c]; decide]
                refine A_call (j := 91) (As := [.ref 0, .ref 40, .int b, .int g]) (fr' := (64, 155, [some (.ref 0), some (.int a), some (.int b), some (.int g), some (.ref 40)], [])) (S' := S19) 5 rfl (e := 5) (by omega) (A_imp (wt91 40 (by decide) b g h) (fun v S31 hq => ?_))
                obtain ⟨r32, hv, h⟩ := hq
                subst hv
                exact A_ret 1 (m := 64) (v := some (.int r32)) (S' := S31) rfl rfl ⟨_, rfl, h⟩
              | 5, hi, c =>
                have c : g = (5 : Int32) := c
                have h := h.2.2.2.2.2.1 c
                rw [show ri_tgt 63 (109) (0) (6) [41, 51, 62, 73, 84, 84, 93] g = 147 by rw [c]; decide]
                refine A_call (j := 91) (As := [.ref 0, .ref 40, .int b, .int g]) (fr' := (64, 155, [some (.ref 0), some (.int a), some (.int b), some (.int g), some (.ref 40)], [])) (S' := S19) 5 rfl (e := 5) (by omega) (A_imp (wt91 40 (by decide) b g h) (fun v S33 hq => ?_))
                obtain ⟨r34, hv, h⟩ := hq
                subst hv
                exact A_ret 1 (m := 64) (v := some (.int r34)) (S' := S33) rfl rfl ⟨_, rfl, h⟩
              | 6, hi, c =>
                have c : g = (6 : Int32) := c
                have h := h.2.2.2.2.2.2 c
                rw [show ri_tgt 63 (109) (0) (6) [41, 51, 62, 73, 84, 84, 93] g = 156 by rw [c]; decide]
                refine A_call (j := 90) (As := [.ref 0, .ref 40, .int b, .int g, .int (S19.1 1 3)]) (fr' := (64, 171, [some (.ref 0), some (.int a), some (.int b), some (.int g), some (.ref 40)], [])) (S' := S19) 8 rfl (e := 5) (by omega) (A_imp (wt90 40 (by decide) b g (S19.1 1 3) h) (fun v S35 hq => ?_))
                obtain ⟨r36, hv, h⟩ := hq
                subst hv
                exact A_ret 1 (m := 64) (v := some (.int r36)) (S' := S35) rfl rfl ⟨_, rfl, h⟩
              | i + 7, hi, c => exact absurd hi (by omega)
          · have h := h.2 c
            exact A_ret 2 (m := 64) (v := some (.int (-1003 : Int32))) (S' := S19) rfl rfl ⟨_, rfl, h⟩
        · have h := h.2 c
          exact A_ret 2 (m := 64) (v := some (.int (-1011 : Int32))) (S' := S19) rfl rfl ⟨_, rfl, h⟩
      · have h := h.2 c
        exact A_ret 2 (m := 64) (v := some (.int (-1002 : Int32))) (S' := S) rfl rfl ⟨_, rfl, h⟩
  · have h := h.2.2.1 c
    refine A_call (j := 34) (As := [.ref 10, .int b]) (fr' := (64, 20, [some (.ref 0), some (.int a), some (.int b), some (.int g), some (.ref 42)], [])) (S' := S) 7 rfl (e := 0) (by omega) (sp_has 10 (by decide) _ ?_)
    refine A_br ((wi b (S.1 10 9)) = 0) (r1 := ((64, 32, [some (.ref 0), some (.int a), some (.int b), some (.int g), some (.ref 42)], []), S)) (r2 := ((64, 23, [some (.ref 0), some (.int a), some (.int b), some (.int g), some (.ref 42)], []), S)) 1 rfl (fun c => ?_) (fun c => ?_)
    · have h := h.1 c
      exact A_ret 2 (m := 64) (v := some (.int (-1002 : Int32))) (S' := S) rfl rfl ⟨_, rfl, h⟩
    · have h := h.2 c
      refine A_call (j := 95) (As := [.int g, .int (8 : Int32)]) (fr' := (64, 29, [some (.ref 0), some (.int a), some (.int b), some (.int g), some (.ref 42)], [])) (S' := S) 3 rfl (e := 0) (by omega) (sp_within _ _ ?_)
      refine A_br (¬ (wi g (8 : Int32)) = 0) (r1 := ((64, 36, [some (.ref 0), some (.int a), some (.int b), some (.int g), some (.ref 42)], []), S)) (r2 := ((64, 32, [some (.ref 0), some (.int a), some (.int b), some (.int g), some (.ref 42)], []), S)) 1 rfl (fun c => ?_) (fun c => ?_)
      · have h := h.1 c
        refine A_call (j := 22) (As := [.ref 42]) (fr' := (64, 41, [some (.ref 0), some (.int a), some (.int b), some (.int g), some (.ref 42)], [])) (S' := S) 2 rfl (e := 0) (by omega) (A_imp (wt22 42 (by decide)  h) (fun v S37 hq => ?_))
        obtain ⟨r38, hv, h⟩ := hq
        subst hv
        refine A_br (r38 = 0) (r1 := ((64, 48, [some (.ref 0), some (.int a), some (.int b), some (.int g), some (.ref 42)], []), S37)) (r2 := ((64, 44, [some (.ref 0), some (.int a), some (.int b), some (.int g), some (.ref 42)], []), S37)) 1 rfl (fun c => ?_) (fun c => ?_)
        · have h := h.1 c
          refine A_br ((S37.1 42 2) ≤ (30 : Int32)) (r1 := ((64, 62, [some (.ref 0), some (.int a), some (.int b), some (.int g), some (.ref 42)], []), S37)) (r2 := ((64, 58, [some (.ref 0), some (.int a), some (.int b), some (.int g), some (.ref 42)], []), S37)) 4 rfl (fun c => ?_) (fun c => ?_)
          · have h := h.1 c
            refine A_nx 2 (fr' := (64, ri_tgt 63 (109) (0) (6) [41, 51, 62, 73, 84, 84, 93] g, [some (.ref 0), some (.int a), some (.int b), some (.int g), some (.ref 42)], [])) (S' := S37) rfl ?_
            rcases ri_swc g (0) 7 (by decide) (by decide) with c | ⟨i, hi, c⟩
            · have c : g < Int32.ofInt (0) ∨ Int32.ofInt (6) < g := c
              have h := h.1 c
              rw [ri_tgt_out g c (by decide) (by decide)]
              refine A_call (j := 90) (As := [.ref 0, .ref 42, .int b, .int g, .int (S37.1 10 9)]) (fr' := (64, 187, [some (.ref 0), some (.int a), some (.int b), some (.int g), some (.ref 42)], [])) (S' := S37) 8 rfl (e := 5) (by omega) (A_imp (wt90 42 (by decide) b g (S37.1 10 9) h) (fun v S39 hq => ?_))
              obtain ⟨r40, hv, h⟩ := hq
              subst hv
              exact A_ret 1 (m := 64) (v := some (.int r40)) (S' := S39) rfl rfl ⟨_, rfl, h⟩
            · have h := h.2
              match i, hi, c with
              | 0, hi, c =>
                have c : g = (0 : Int32) := c
                have h := h.1 c
                rw [show ri_tgt 63 (109) (0) (6) [41, 51, 62, 73, 84, 84, 93] g = 104 by rw [c]; decide]
                refine A_call (j := 92) (As := [.ref 0, .ref 42, .int b, .int g, .int (0 : Int32)]) (fr' := (64, 113, [some (.ref 0), some (.int a), some (.int b), some (.int g), some (.ref 42)], [])) (S' := S37) 6 rfl (e := 4) (by omega) (A_imp (wt92 42 (by decide) b g (0 : Int32) h) (fun v S41 hq => ?_))
                obtain ⟨r42, hv, h⟩ := hq
                subst hv
                exact A_ret 1 (m := 64) (v := some (.int r42)) (S' := S41) rfl rfl ⟨_, rfl, h⟩
              | 1, hi, c =>
                have c : g = (1 : Int32) := c
                have h := h.2.1 c
                rw [show ri_tgt 63 (109) (0) (6) [41, 51, 62, 73, 84, 84, 93] g = 114 by rw [c]; decide]
                refine A_call (j := 90) (As := [.ref 0, .ref 42, .int b, .int g, .int (6 : Int32)]) (fr' := (64, 124, [some (.ref 0), some (.int a), some (.int b), some (.int g), some (.ref 42)], [])) (S' := S37) 6 rfl (e := 5) (by omega) (A_imp (wt90 42 (by decide) b g (6 : Int32) h) (fun v S43 hq => ?_))
                obtain ⟨r44, hv, h⟩ := hq
                subst hv
                exact A_ret 1 (m := 64) (v := some (.int r44)) (S' := S43) rfl rfl ⟨_, rfl, h⟩
              | 2, hi, c =>
                have c : g = (2 : Int32) := c
                have h := h.2.2.1 c
                rw [show ri_tgt 63 (109) (0) (6) [41, 51, 62, 73, 84, 84, 93] g = 125 by rw [c]; decide]
                refine A_call (j := 90) (As := [.ref 0, .ref 42, .int b, .int g, .int (10 : Int32)]) (fr' := (64, 135, [some (.ref 0), some (.int a), some (.int b), some (.int g), some (.ref 42)], [])) (S' := S37) 6 rfl (e := 5) (by omega) (A_imp (wt90 42 (by decide) b g (10 : Int32) h) (fun v S45 hq => ?_))
                obtain ⟨r46, hv, h⟩ := hq
                subst hv
                exact A_ret 1 (m := 64) (v := some (.int r46)) (S' := S45) rfl rfl ⟨_, rfl, h⟩
              | 3, hi, c =>
                have c : g = (3 : Int32) := c
                have h := h.2.2.2.1 c
                rw [show ri_tgt 63 (109) (0) (6) [41, 51, 62, 73, 84, 84, 93] g = 136 by rw [c]; decide]
                refine A_call (j := 90) (As := [.ref 0, .ref 42, .int b, .int g, .int (12 : Int32)]) (fr' := (64, 146, [some (.ref 0), some (.int a), some (.int b), some (.int g), some (.ref 42)], [])) (S' := S37) 6 rfl (e := 5) (by omega) (A_imp (wt90 42 (by decide) b g (12 : Int32) h) (fun v S47 hq => ?_))
                obtain ⟨r48, hv, h⟩ := hq
                subst hv
                exact A_ret 1 (m := 64) (v := some (.int r48)) (S' := S47) rfl rfl ⟨_, rfl, h⟩
              | 4, hi, c =>
                have c : g = (4 : Int32) := c
                have h := h.2.2.2.2.1 c
                rw [show ri_tgt 63 (109) (0) (6) [41, 51, 62, 73, 84, 84, 93] g = 147 by rw [c]; decide]
                refine A_call (j := 91) (As := [.ref 0, .ref 42, .int b, .int g]) (fr' := (64, 155, [some (.ref 0), some (.int a), some (.int b), some (.int g), some (.ref 42)], [])) (S' := S37) 5 rfl (e := 5) (by omega) (A_imp (wt91 42 (by decide) b g h) (fun v S49 hq => ?_))
                obtain ⟨r50, hv, h⟩ := hq
                subst hv
                exact A_ret 1 (m := 64) (v := some (.int r50)) (S' := S49) rfl rfl ⟨_, rfl, h⟩
              | 5, hi, c =>
                have c : g = (5 : Int32) := c
                have h := h.2.2.2.2.2.1 c
                rw [show ri_tgt 63 (109) (0) (6) [41, 51, 62, 73, 84, 84, 93] g = 147 by rw [c]; decide]
                refine A_call (j := 91) (As := [.ref 0, .ref 42, .int b, .int g]) (fr' := (64, 155, [some (.ref 0), some (.int a), some (.int b), some (.int g), some (.ref 42)], [])) (S' := S37) 5 rfl (e := 5) (by omega) (A_imp (wt91 42 (by decide) b g h) (fun v S51 hq => ?_))
                obtain ⟨r52, hv, h⟩ := hq
                subst hv
                exact A_ret 1 (m := 64) (v := some (.int r52)) (S' := S51) rfl rfl ⟨_, rfl, h⟩
              | 6, hi, c =>
                have c : g = (6 : Int32) := c
                have h := h.2.2.2.2.2.2 c
                rw [show ri_tgt 63 (109) (0) (6) [41, 51, 62, 73, 84, 84, 93] g = 156 by rw [c]; decide]
                refine A_call (j := 90) (As := [.ref 0, .ref 42, .int b, .int g, .int (S37.1 1 3)]) (fr' := (64, 171, [some (.ref 0), some (.int a), some (.int b), some (.int g), some (.ref 42)], [])) (S' := S37) 8 rfl (e := 5) (by omega) (A_imp (wt90 42 (by decide) b g (S37.1 1 3) h) (fun v S53 hq => ?_))
                obtain ⟨r54, hv, h⟩ := hq
                subst hv
                exact A_ret 1 (m := 64) (v := some (.int r54)) (S' := S53) rfl rfl ⟨_, rfl, h⟩
              | i + 7, hi, c => exact absurd hi (by omega)
          · have h := h.2 c
            exact A_ret 2 (m := 64) (v := some (.int (-1003 : Int32))) (S' := S37) rfl rfl ⟨_, rfl, h⟩
        · have h := h.2 c
          exact A_ret 2 (m := 64) (v := some (.int (-1011 : Int32))) (S' := S37) rfl rfl ⟨_, rfl, h⟩
      · have h := h.2 c
        exact A_ret 2 (m := 64) (v := some (.int (-1002 : Int32))) (S' := S) rfl rfl ⟨_, rfl, h⟩
  · have h := h.2.2.2.1 c
    refine A_call (j := 34) (As := [.ref 10, .int b]) (fr' := (64, 20, [some (.ref 0), some (.int a), some (.int b), some (.int g), some (.ref 44)], [])) (S' := S) 7 rfl (e := 0) (by omega) (sp_has 10 (by decide) _ ?_)
    refine A_br ((wi b (S.1 10 9)) = 0) (r1 := ((64, 32, [some (.ref 0), some (.int a), some (.int b), some (.int g), some (.ref 44)], []), S)) (r2 := ((64, 23, [some (.ref 0), some (.int a), some (.int b), some (.int g), some (.ref 44)], []), S)) 1 rfl (fun c => ?_) (fun c => ?_)
    · have h := h.1 c
      exact A_ret 2 (m := 64) (v := some (.int (-1002 : Int32))) (S' := S) rfl rfl ⟨_, rfl, h⟩
    · have h := h.2 c
      refine A_call (j := 95) (As := [.int g, .int (8 : Int32)]) (fr' := (64, 29, [some (.ref 0), some (.int a), some (.int b), some (.int g), some (.ref 44)], [])) (S' := S) 3 rfl (e := 0) (by omega) (sp_within _ _ ?_)
      refine A_br (¬ (wi g (8 : Int32)) = 0) (r1 := ((64, 36, [some (.ref 0), some (.int a), some (.int b), some (.int g), some (.ref 44)], []), S)) (r2 := ((64, 32, [some (.ref 0), some (.int a), some (.int b), some (.int g), some (.ref 44)], []), S)) 1 rfl (fun c => ?_) (fun c => ?_)
      · have h := h.1 c
        refine A_call (j := 22) (As := [.ref 44]) (fr' := (64, 41, [some (.ref 0), some (.int a), some (.int b), some (.int g), some (.ref 44)], [])) (S' := S) 2 rfl (e := 0) (by omega) (A_imp (wt22 44 (by decide)  h) (fun v S55 hq => ?_))
        obtain ⟨r56, hv, h⟩ := hq
        subst hv
        refine A_br (r56 = 0) (r1 := ((64, 48, [some (.ref 0), some (.int a), some (.int b), some (.int g), some (.ref 44)], []), S55)) (r2 := ((64, 44, [some (.ref 0), some (.int a), some (.int b), some (.int g), some (.ref 44)], []), S55)) 1 rfl (fun c => ?_) (fun c => ?_)
        · have h := h.1 c
          refine A_br ((S55.1 44 2) ≤ (30 : Int32)) (r1 := ((64, 62, [some (.ref 0), some (.int a), some (.int b), some (.int g), some (.ref 44)], []), S55)) (r2 := ((64, 58, [some (.ref 0), some (.int a), some (.int b), some (.int g), some (.ref 44)], []), S55)) 4 rfl (fun c => ?_) (fun c => ?_)
          · have h := h.1 c
            refine A_nx 2 (fr' := (64, ri_tgt 63 (109) (0) (6) [41, 51, 62, 73, 84, 84, 93] g, [some (.ref 0), some (.int a), some (.int b), some (.int g), some (.ref 44)], [])) (S' := S55) rfl ?_
            rcases ri_swc g (0) 7 (by decide) (by decide) with c | ⟨i, hi, c⟩
            · have c : g < Int32.ofInt (0) ∨ Int32.ofInt (6) < g := c
              have h := h.1 c
              rw [ri_tgt_out g c (by decide) (by decide)]
              refine A_call (j := 90) (As := [.ref 0, .ref 44, .int b, .int g, .int (S55.1 10 9)]) (fr' := (64, 187, [some (.ref 0), some (.int a), some (.int b), some (.int g), some (.ref 44)], [])) (S' := S55) 8 rfl (e := 5) (by omega) (A_imp (wt90 44 (by decide) b g (S55.1 10 9) h) (fun v S57 hq => ?_))
              obtain ⟨r58, hv, h⟩ := hq
              subst hv
              exact A_ret 1 (m := 64) (v := some (.int r58)) (S' := S57) rfl rfl ⟨_, rfl, h⟩
            · have h := h.2
              match i, hi, c with
              | 0, hi, c =>
                have c : g = (0 : Int32) := c
                have h := h.1 c
                rw [show ri_tgt 63 (109) (0) (6) [41, 51, 62, 73, 84, 84, 93] g = 104 by rw [c]; decide]
                refine A_call (j := 92) (As := [.ref 0, .ref 44, .int b, .int g, .int (0 : Int32)]) (fr' := (64, 113, [some (.ref 0), some (.int a), some (.int b), some (.int g), some (.ref 44)], [])) (S' := S55) 6 rfl (e := 4) (by omega) (A_imp (wt92 44 (by decide) b g (0 : Int32) h) (fun v S59 hq => ?_))
                obtain ⟨r60, hv, h⟩ := hq
                subst hv
                exact A_ret 1 (m := 64) (v := some (.int r60)) (S' := S59) rfl rfl ⟨_, rfl, h⟩
              | 1, hi, c =>
                have c : g = (1 : Int32) := c
                have h := h.2.1 c
                rw [show ri_tgt 63 (109) (0) (6) [41, 51, 62, 73, 84, 84, 93] g = 114 by rw [c]; decide]
                refine A_call (j := 90) (As := [.ref 0, .ref 44, .int b, .int g, .int (6 : Int32)]) (fr' := (64, 124, [some (.ref 0), some (.int a), some (.int b), some (.int g), some (.ref 44)], [])) (S' := S55) 6 rfl (e := 5) (by omega) (A_imp (wt90 44 (by decide) b g (6 : Int32) h) (fun v S61 hq => ?_))
                obtain ⟨r62, hv, h⟩ := hq
                subst hv
                exact A_ret 1 (m := 64) (v := some (.int r62)) (S' := S61) rfl rfl ⟨_, rfl, h⟩
              | 2, hi, c =>
                have c : g = (2 : Int32) := c
                have h := h.2.2.1 c
                rw [show ri_tgt 63 (109) (0) (6) [41, 51, 62, 73, 84, 84, 93] g = 125 by rw [c]; decide]
                refine A_call (j := 90) (As := [.ref 0, .ref 44, .int b, .int g, .int (10 : Int32)]) (fr' := (64, 135, [some (.ref 0), some (.int a), some (.int b), some (.int g), some (.ref 44)], [])) (S' := S55) 6 rfl (e := 5) (by omega) (A_imp (wt90 44 (by decide) b g (10 : Int32) h) (fun v S63 hq => ?_))
                obtain ⟨r64, hv, h⟩ := hq
                subst hv
                exact A_ret 1 (m := 64) (v := some (.int r64)) (S' := S63) rfl rfl ⟨_, rfl, h⟩
              | 3, hi, c =>
                have c : g = (3 : Int32) := c
                have h := h.2.2.2.1 c
                rw [show ri_tgt 63 (109) (0) (6) [41, 51, 62, 73, 84, 84, 93] g = 136 by rw [c]; decide]
                refine A_call (j := 90) (As := [.ref 0, .ref 44, .int b, .int g, .int (12 : Int32)]) (fr' := (64, 146, [some (.ref 0), some (.int a), some (.int b), some (.int g), some (.ref 44)], [])) (S' := S55) 6 rfl (e := 5) (by omega) (A_imp (wt90 44 (by decide) b g (12 : Int32) h) (fun v S65 hq => ?_))
                obtain ⟨r66, hv, h⟩ := hq
                subst hv
                exact A_ret 1 (m := 64) (v := some (.int r66)) (S' := S65) rfl rfl ⟨_, rfl, h⟩
              | 4, hi, c =>
                have c : g = (4 : Int32) := c
                have h := h.2.2.2.2.1 c
                rw [show ri_tgt 63 (109) (0) (6) [41, 51, 62, 73, 84, 84, 93] g = 147 by rw [c]; decide]
                refine A_call (j := 91) (As := [.ref 0, .ref 44, .int b, .int g]) (fr' := (64, 155, [some (.ref 0), some (.int a), some (.int b), some (.int g), some (.ref 44)], [])) (S' := S55) 5 rfl (e := 5) (by omega) (A_imp (wt91 44 (by decide) b g h) (fun v S67 hq => ?_))
                obtain ⟨r68, hv, h⟩ := hq
                subst hv
                exact A_ret 1 (m := 64) (v := some (.int r68)) (S' := S67) rfl rfl ⟨_, rfl, h⟩
              | 5, hi, c =>
                have c : g = (5 : Int32) := c
                have h := h.2.2.2.2.2.1 c
                rw [show ri_tgt 63 (109) (0) (6) [41, 51, 62, 73, 84, 84, 93] g = 147 by rw [c]; decide]
                refine A_call (j := 91) (As := [.ref 0, .ref 44, .int b, .int g]) (fr' := (64, 155, [some (.ref 0), some (.int a), some (.int b), some (.int g), some (.ref 44)], [])) (S' := S55) 5 rfl (e := 5) (by omega) (A_imp (wt91 44 (by decide) b g h) (fun v S69 hq => ?_))
                obtain ⟨r70, hv, h⟩ := hq
                subst hv
                exact A_ret 1 (m := 64) (v := some (.int r70)) (S' := S69) rfl rfl ⟨_, rfl, h⟩
              | 6, hi, c =>
                have c : g = (6 : Int32) := c
                have h := h.2.2.2.2.2.2 c
                rw [show ri_tgt 63 (109) (0) (6) [41, 51, 62, 73, 84, 84, 93] g = 156 by rw [c]; decide]
                refine A_call (j := 90) (As := [.ref 0, .ref 44, .int b, .int g, .int (S55.1 1 3)]) (fr' := (64, 171, [some (.ref 0), some (.int a), some (.int b), some (.int g), some (.ref 44)], [])) (S' := S55) 8 rfl (e := 5) (by omega) (A_imp (wt90 44 (by decide) b g (S55.1 1 3) h) (fun v S71 hq => ?_))
                obtain ⟨r72, hv, h⟩ := hq
                subst hv
                exact A_ret 1 (m := 64) (v := some (.int r72)) (S' := S71) rfl rfl ⟨_, rfl, h⟩
              | i + 7, hi, c => exact absurd hi (by omega)
          · have h := h.2 c
            exact A_ret 2 (m := 64) (v := some (.int (-1003 : Int32))) (S' := S55) rfl rfl ⟨_, rfl, h⟩
        · have h := h.2 c
          exact A_ret 2 (m := 64) (v := some (.int (-1011 : Int32))) (S' := S55) rfl rfl ⟨_, rfl, h⟩
      · have h := h.2 c
        exact A_ret 2 (m := 64) (v := some (.int (-1002 : Int32))) (S' := S) rfl rfl ⟨_, rfl, h⟩
  · have h := h.2.2.2.2 c
    exact A_ret 5 (m := 64) (v := some (.int (-1002 : Int32))) (S' := S) rfl rfl ⟨_, rfl, h⟩
/-! X4_film, depth 4 -/
def w65_l57 (Q : Int32 → ri_H → Prop) : Nat → Int32 → Int32 → Int32 → ri_H → Prop
  | 0, _, _, _, _ => False
  | n + 1, x2, x3, x5, S => ((x3 ≤ x5 → Q x3 S) ∧ (¬ (x3 ≤ x5) → w39 19 (-1 : Int32) S (fun (S3 : ri_H) => w25 38 x5 (it (S3.1 24) 5 x2) S3 (fun (S4 : ri_H) => w65_l57   Q n x2 x3 (x5 + (1 : Int32)) S4))))
set_option maxRecDepth 10000 in
set_option maxHeartbeats 1000000 in
theorem wt65_l57 {E : ri_E} {Q : Int32 → ri_H → Prop} : ∀ (n : Nat) (x2 : Int32) (x3 : Int32) (x5 : Int32) (S : ri_H), w65_l57   Q n x2 x3 x5 S → ri_A E 4 (65, 57, [some (.ref 0), none, some (.int x2), some (.int x3), some (.ref 38), some (.int x5)], []) S (Qi Q) := by
  intro n
  induction n with
  | zero => intro x2 x3 x5 S h; exact h.elim
  | succ n ih =>
    intro x2 x3 x5 S h
    unfold w65_l57 at h
    refine A_br (x3 ≤ x5) (r1 := ((65, 95, [some (.ref 0), none, some (.int x2), some (.int x3), some (.ref 38), some (.int x5)], []), S)) (r2 := ((65, 63, [some (.ref 0), none, some (.int x2), some (.int x3), some (.ref 38), some (.int x5)], []), S)) 3 rfl (fun c => ?_) (fun c => ?_)
    · have h := h.1 c
      exact A_ret 2 (m := 65) (v := some (.int x3)) (S' := S) rfl rfl ⟨_, rfl, h⟩
    · have h := h.2 c
      refine A_call (j := 39) (As := [.ref 19, .int (-1 : Int32)]) (fr' := (65, 71, [some (.ref 0), none, some (.int x2), some (.int x3), some (.ref 38), some (.int x5)], [])) (S' := S) 4 rfl (e := 3) (by omega) (A_imp (wt39 19 (by decide) (-1 : Int32) h) (fun v S3 hq => ?_))
      obtain ⟨hv, h⟩ := hq
      subst hv
      refine A_call (j := 98) (As := [.ref 24, .int x2]) (fr' := (65, 86, [some (.ref 0), none, some (.int x2), some (.int x3), some (.ref 38), some (.int x5)], [.int x5, .ref 38])) (S' := S3) 7 rfl (e := 0) (by omega) (sp_item 24 5 _ ⟨by decide, by decide, rfl⟩ (by decide) ?_)
      refine A_call (j := 25) (As := [.ref 38, .int x5, .int (it (S3.1 24) 5 x2)]) (fr' := (65, 89, [some (.ref 0), none, some (.int x2), some (.int x3), some (.ref 38), some (.int x5)], [])) (S' := S3) 1 rfl (e := 1) (by omega) (A_imp (wt25 38 (by decide) x5 (it (S3.1 24) 5 x2) h) (fun v S4 hq => ?_))
      obtain ⟨hv, h⟩ := hq
      subst hv
      refine A_nx 2 (fr' := (65, 57, [some (.ref 0), none, some (.int x2), some (.int x3), some (.ref 38), some (.int (x5 + (1 : Int32)))], [])) (S' := S4) rfl ?_
      refine ri_A.less (m := 65) (pc := 57) (L := [some (.ref 0), none, some (.int x2), some (.int x3), some (.ref 38), some (.int (x5 + (1 : Int32)))]) (L' := [some (.ref 0), none, some (.int x2), some (.int x3), some (.ref 38), some (.int (x5 + (1 : Int32)))]) (st := []) ⟨rfl, ⟨rfl, ⟨rfl, ⟨rfl, ⟨rfl, trivial⟩⟩⟩⟩⟩ ?_
      exact ih _ _ _ _ h
def w65_l57a (Q : Int32 → ri_H → Prop) : Nat → Int32 → Int32 → Int32 → ri_H → Prop
  | 0, _, _, _, _ => False
  | n + 1, x2, x3, x5, S => ((x3 ≤ x5 → Q x3 S) ∧ (¬ (x3 ≤ x5) → w39 19 (-1 : Int32) S (fun (S7 : ri_H) => w25 40 x5 (it (S7.1 24) 5 x2) S7 (fun (S8 : ri_H) => w65_l57a   Q n x2 x3 (x5 + (1 : Int32)) S8))))
set_option maxRecDepth 10000 in
set_option maxHeartbeats 1000000 in
theorem wt65_l57a {E : ri_E} {Q : Int32 → ri_H → Prop} : ∀ (n : Nat) (x2 : Int32) (x3 : Int32) (x5 : Int32) (S : ri_H), w65_l57a   Q n x2 x3 x5 S → ri_A E 4 (65, 57, [some (.ref 0), none, some (.int x2), some (.int x3), some (.ref 40), some (.int x5)], []) S (Qi Q) := by
  intro n
  induction n with
  | zero => intro x2 x3 x5 S h; exact h.elim
  | succ n ih =>
    intro x2 x3 x5 S h
    unfold w65_l57a at h
    refine A_br (x3 ≤ x5) (r1 := ((65, 95, [some (.ref 0), none, some (.int x2), some (.int x3), some (.ref 40), some (.int x5)], []), S)) (r2 := ((65, 63, [some (.ref 0), none, some (.int x2), some (.int x3), some (.ref 40), some (.int x5)], []), S)) 3 rfl (fun c => ?_) (fun c => ?_)
    · have h := h.1 c
      exact A_ret 2 (m := 65) (v := some (.int x3)) (S' := S) rfl rfl ⟨_, rfl, h⟩
    · have h := h.2 c
      refine A_call (j := 39) (As := [.ref 19, .int (-1 : Int32)]) (fr' := (65, 71, [some (.ref 0), none, some (.int x2), some (.int x3), some (.ref 40), some (.int x5)], [])) (S' := S) 4 rfl (e := 3) (by omega) (A_imp (wt39 19 (by decide) (-1 : Int32) h) (fun v S7 hq => ?_))
      obtain ⟨hv, h⟩ := hq
      subst hv
      refine A_call (j := 98) (As := [.ref 24, .int x2]) (fr' := (65, 86, [some (.ref 0), none, some (.int x2), some (.int x3), some (.ref 40), some (.int x5)], [.int x5, .ref 40])) (S' := S7) 7 rfl (e := 0) (by omega) (sp_item 24 5 _ ⟨by decide, by decide, rfl⟩ (by decide) ?_)
      refine A_call (j := 25) (As := [.ref 40, .int x5, .int (it (S7.1 24) 5 x2)]) (fr' := (65, 89, [some (.ref 0), none, some (.int x2), some (.int x3), some (.ref 40), some (.int x5)], [])) (S' := S7) 1 rfl (e := 1) (by omega) (A_imp (wt25 40 (by decide) x5 (it (S7.1 24) 5 x2) h) (fun v S8 hq => ?_))
      obtain ⟨hv, h⟩ := hq
      subst hv
      refine A_nx 2 (fr' := (65, 57, [some (.ref 0), none, some (.int x2), some (.int x3), some (.ref 40), some (.int (x5 + (1 : Int32)))], [])) (S' := S8) rfl ?_
      refine ri_A.less (m := 65) (pc := 57) (L := [some (.ref 0), none, some (.int x2), some (.int x3), some (.ref 40), some (.int (x5 + (1 : Int32)))]) (L' := [some (.ref 0), none, some (.int x2), some (.int x3), some (.ref 40), some (.int (x5 + (1 : Int32)))]) (st := []) ⟨rfl, ⟨rfl, ⟨rfl, ⟨rfl, ⟨rfl, trivial⟩⟩⟩⟩⟩ ?_
      exact ih _ _ _ _ h
def w65_l57b (Q : Int32 → ri_H → Prop) : Nat → Int32 → Int32 → Int32 → ri_H → Prop
  | 0, _, _, _, _ => False
  | n + 1, x2, x3, x5, S => ((x3 ≤ x5 → Q x3 S) ∧ (¬ (x3 ≤ x5) → w39 19 (-1 : Int32) S (fun (S11 : ri_H) => w25 42 x5 (it (S11.1 24) 5 x2) S11 (fun (S12 : ri_H) => w65_l57b   Q n x2 x3 (x5 + (1 : Int32)) S12))))
set_option maxRecDepth 10000 in
set_option maxHeartbeats 1000000 in
theorem wt65_l57b {E : ri_E} {Q : Int32 → ri_H → Prop} : ∀ (n : Nat) (x2 : Int32) (x3 : Int32) (x5 : Int32) (S : ri_H), w65_l57b   Q n x2 x3 x5 S → ri_A E 4 (65, 57, [some (.ref 0), none, some (.int x2), some (.int x3), some (.ref 42), some (.int x5)], []) S (Qi Q) := by
  intro n
  induction n with
  | zero => intro x2 x3 x5 S h; exact h.elim
  | succ n ih =>
    intro x2 x3 x5 S h
    unfold w65_l57b at h
    refine A_br (x3 ≤ x5) (r1 := ((65, 95, [some (.ref 0), none, some (.int x2), some (.int x3), some (.ref 42), some (.int x5)], []), S)) (r2 := ((65, 63, [some (.ref 0), none, some (.int x2), some (.int x3), some (.ref 42), some (.int x5)], []), S)) 3 rfl (fun c => ?_) (fun c => ?_)
    · have h := h.1 c
      exact A_ret 2 (m := 65) (v := some (.int x3)) (S' := S) rfl rfl ⟨_, rfl, h⟩
    · have h := h.2 c
      refine A_call (j := 39) (As := [.ref 19, .int (-1 : Int32)]) (fr' := (65, 71, [some (.ref 0), none, some (.int x2), some (.int x3), some (.ref 42), some (.int x5)], [])) (S' := S) 4 rfl (e := 3) (by omega) (A_imp (wt39 19 (by decide) (-1 : Int32) h) (fun v S11 hq => ?_))
      obtain ⟨hv, h⟩ := hq
      subst hv
      refine A_call (j := 98) (As := [.ref 24, .int x2]) (fr' := (65, 86, [some (.ref 0), none, some (.int x2), some (.int x3), some (.ref 42), some (.int x5)], [.int x5, .ref 42])) (S' := S11) 7 rfl (e := 0) (by omega) (sp_item 24 5 _ ⟨by decide, by decide, rfl⟩ (by decide) ?_)
      refine A_call (j := 25) (As := [.ref 42, .int x5, .int (it (S11.1 24) 5 x2)]) (fr' := (65, 89, [some (.ref 0), none, some (.int x2), some (.int x3), some (.ref 42), some (.int x5)], [])) (S' := S11) 1 rfl (e := 1) (by omega) (A_imp (wt25 42 (by decide) x5 (it (S11.1 24) 5 x2) h) (fun v S12 hq => ?_))
      obtain ⟨hv, h⟩ := hq
      subst hv
      refine A_nx 2 (fr' := (65, 57, [some (.ref 0), none, some (.int x2), some (.int x3), some (.ref 42), some (.int (x5 + (1 : Int32)))], [])) (S' := S12) rfl ?_
      refine ri_A.less (m := 65) (pc := 57) (L := [some (.ref 0), none, some (.int x2), some (.int x3), some (.ref 42), some (.int (x5 + (1 : Int32)))]) (L' := [some (.ref 0), none, some (.int x2), some (.int x3), some (.ref 42), some (.int (x5 + (1 : Int32)))]) (st := []) ⟨rfl, ⟨rfl, ⟨rfl, ⟨rfl, ⟨rfl, trivial⟩⟩⟩⟩⟩ ?_
      exact ih _ _ _ _ h
def w65_l57c (Q : Int32 → ri_H → Prop) : Nat → Int32 → Int32 → Int32 → ri_H → Prop
  | 0, _, _, _, _ => False
  | n + 1, x2, x3, x5, S => ((x3 ≤ x5 → Q x3 S) ∧ (¬ (x3 ≤ x5) → w39 19 (-1 : Int32) S (fun (S15 : ri_H) => w25 44 x5 (it (S15.1 24) 5 x2) S15 (fun (S16 : ri_H) => w65_l57c   Q n x2 x3 (x5 + (1 : Int32)) S16))))
set_option maxRecDepth 10000 in
set_option maxHeartbeats 1000000 in
theorem wt65_l57c {E : ri_E} {Q : Int32 → ri_H → Prop} : ∀ (n : Nat) (x2 : Int32) (x3 : Int32) (x5 : Int32) (S : ri_H), w65_l57c   Q n x2 x3 x5 S → ri_A E 4 (65, 57, [some (.ref 0), none, some (.int x2), some (.int x3), some (.ref 44), some (.int x5)], []) S (Qi Q) := by
  intro n
  induction n with
  | zero => intro x2 x3 x5 S h; exact h.elim
  | succ n ih =>
    intro x2 x3 x5 S h
    unfold w65_l57c at h
    refine A_br (x3 ≤ x5) (r1 := ((65, 95, [some (.ref 0), none, some (.int x2), some (.int x3), some (.ref 44), some (.int x5)], []), S)) (r2 := ((65, 63, [some (.ref 0), none, some (.int x2), some (.int x3), some (.ref 44), some (.int x5)], []), S)) 3 rfl (fun c => ?_) (fun c => ?_)
    · have h := h.1 c
      exact A_ret 2 (m := 65) (v := some (.int x3)) (S' := S) rfl rfl ⟨_, rfl, h⟩
    · have h := h.2 c
      refine A_call (j := 39) (As := [.ref 19, .int (-1 : Int32)]) (fr' := (65, 71, [some (.ref 0), none, some (.int x2), some (.int x3), some (.ref 44), some (.int x5)], [])) (S' := S) 4 rfl (e := 3) (by omega) (A_imp (wt39 19 (by decide) (-1 : Int32) h) (fun v S15 hq => ?_))
      obtain ⟨hv, h⟩ := hq
      subst hv
      refine A_call (j := 98) (As := [.ref 24, .int x2]) (fr' := (65, 86, [some (.ref 0), none, some (.int x2), some (.int x3), some (.ref 44), some (.int x5)], [.int x5, .ref 44])) (S' := S15) 7 rfl (e := 0) (by omega) (sp_item 24 5 _ ⟨by decide, by decide, rfl⟩ (by decide) ?_)
      refine A_call (j := 25) (As := [.ref 44, .int x5, .int (it (S15.1 24) 5 x2)]) (fr' := (65, 89, [some (.ref 0), none, some (.int x2), some (.int x3), some (.ref 44), some (.int x5)], [])) (S' := S15) 1 rfl (e := 1) (by omega) (A_imp (wt25 44 (by decide) x5 (it (S15.1 24) 5 x2) h) (fun v S16 hq => ?_))
      obtain ⟨hv, h⟩ := hq
      subst hv
      refine A_nx 2 (fr' := (65, 57, [some (.ref 0), none, some (.int x2), some (.int x3), some (.ref 44), some (.int (x5 + (1 : Int32)))], [])) (S' := S16) rfl ?_
      refine ri_A.less (m := 65) (pc := 57) (L := [some (.ref 0), none, some (.int x2), some (.int x3), some (.ref 44), some (.int (x5 + (1 : Int32)))]) (L' := [some (.ref 0), none, some (.int x2), some (.int x3), some (.ref 44), some (.int (x5 + (1 : Int32)))]) (st := []) ⟨rfl, ⟨rfl, ⟨rfl, ⟨rfl, ⟨rfl, trivial⟩⟩⟩⟩⟩ ?_
      exact ih _ _ _ _ h
def w65 (a : Int32) (b : Int32) (g : Int32) (S : ri_H) (Q : Int32 → ri_H → Prop) : Prop := ((a = 0 → (((wi b (S.1 10 9)) = 0 → Q (-2 : Int32) S) ∧ (¬ (wi b (S.1 10 9)) = 0 → ((g < 0 → Q (-2 : Int32) S) ∧ (¬ (g < 0) → ((g ≤ (30 : Int32) → w24 38 (0 : Int32) g S (fun (S1 : ri_H) => w33 19 10 S1 (fun (S2 : ri_H) => ∃ nn, w65_l57   Q nn b g (0 : Int32) S2))) ∧ (¬ (g ≤ (30 : Int32)) → Q (-2 : Int32) S))))))) ∧ (a = 1 → (((wi b (S.1 10 9)) = 0 → Q (-2 : Int32) S) ∧ (¬ (wi b (S.1 10 9)) = 0 → ((g < 0 → Q (-2 : Int32) S) ∧ (¬ (g < 0) → ((g ≤ (30 : Int32) → w24 40 (0 : Int32) g S (fun (S5 : ri_H) => w33 19 10 S5 (fun (S6 : ri_H) => ∃ nn, w65_l57a   Q nn b g (0 : Int32) S6))) ∧ (¬ (g ≤ (30 : Int32)) → Q (-2 : Int32) S))))))) ∧ (a = 2 → (((wi b (S.1 10 9)) = 0 → Q (-2 : Int32) S) ∧ (¬ (wi b (S.1 10 9)) = 0 → ((g < 0 → Q (-2 : Int32) S) ∧ (¬ (g < 0) → ((g ≤ (30 : Int32) → w24 42 (0 : Int32) g S (fun (S9 : ri_H) => w33 19 10 S9 (fun (S10 : ri_H) => ∃ nn, w65_l57b   Q nn b g (0 : Int32) S10))) ∧ (¬ (g ≤ (30 : Int32)) → Q (-2 : Int32) S))))))) ∧ (a = 3 → (((wi b (S.1 10 9)) = 0 → Q (-2 : Int32) S) ∧ (¬ (wi b (S.1 10 9)) = 0 → ((g < 0 → Q (-2 : Int32) S) ∧ (¬ (g < 0) → ((g ≤ (30 : Int32) → w24 44 (0 : Int32) g S (fun (S13 : ri_H) => w33 19 10 S13 (fun (S14 : ri_H) => ∃ nn, w65_l57c   Q nn b g (0 : Int32) S14))) ∧ (¬ (g ≤ (30 : Int32)) → Q (-2 : Int32) S))))))) ∧ (wi a 4 = 0 → Q (-2 : Int32) S))
set_option maxRecDepth 10000 in
set_option maxHeartbeats 1000000 in
theorem wt65 {E : ri_E} (a : Int32) (b : Int32) (g : Int32) {S : ri_H} {Q : Int32 → ri_H → Prop} (h : w65  a b g S Q) : ri_A E 4 (ri_en 65 [.ref 0, .int a, .int b, .int g]) S (Qi Q) := by
  unfold w65 at h
  show ri_A E 4 (65, 0, [some (.ref 0), some (.int a), some (.int b), some (.int g), none, none], []) S (Qi Q)
  refine A_call (j := 94) (As := [.ref 0, .int a]) (fr' := (65, 5, [some (.ref 0), some (.int a), some (.int b), some (.int g), none, none], [])) (S' := S) 3 rfl (e := 1) (by omega) (sp_sheetOf a (fun c => ?_) (fun c => ?_) (fun c => ?_) (fun c => ?_) (fun c => ?_))
  · have h := h.1 c
    refine A_call (j := 34) (As := [.ref 10, .int b]) (fr' := (65, 20, [some (.ref 0), some (.int a), some (.int b), some (.int g), some (.ref 38), none], [])) (S' := S) 7 rfl (e := 0) (by omega) (sp_has 10 (by decide) _ ?_)
    refine A_br ((wi b (S.1 10 9)) = 0) (r1 := ((65, 33, [some (.ref 0), some (.int a), some (.int b), some (.int g), some (.ref 38), none], []), S)) (r2 := ((65, 23, [some (.ref 0), some (.int a), some (.int b), some (.int g), some (.ref 38), none], []), S)) 1 rfl (fun c => ?_) (fun c => ?_)
    · have h := h.1 c
      exact A_ret 2 (m := 65) (v := some (.int (-2 : Int32))) (S' := S) rfl rfl ⟨_, rfl, h⟩
    · have h := h.2 c
      refine A_br (g < 0) (r1 := ((65, 33, [some (.ref 0), some (.int a), some (.int b), some (.int g), some (.ref 38), none], []), S)) (r2 := ((65, 27, [some (.ref 0), some (.int a), some (.int b), some (.int g), some (.ref 38), none], []), S)) 2 rfl (fun c => ?_) (fun c => ?_)
      · have h := h.1 c
        exact A_ret 2 (m := 65) (v := some (.int (-2 : Int32))) (S' := S) rfl rfl ⟨_, rfl, h⟩
      · have h := h.2 c
        refine A_br (g ≤ (30 : Int32)) (r1 := ((65, 36, [some (.ref 0), some (.int a), some (.int b), some (.int g), some (.ref 38), none], []), S)) (r2 := ((65, 33, [some (.ref 0), some (.int a), some (.int b), some (.int g), some (.ref 38), none], []), S)) 3 rfl (fun c => ?_) (fun c => ?_)
        · have h := h.1 c
          refine A_call (j := 24) (As := [.ref 38, .int (0 : Int32), .int g]) (fr' := (65, 43, [some (.ref 0), some (.int a), some (.int b), some (.int g), some (.ref 38), none], [])) (S' := S) 4 rfl (e := 1) (by omega) (A_imp (wt24 38 (by decide) (0 : Int32) g h) (fun v S1 hq => ?_))
          obtain ⟨hv, h⟩ := hq
          subst hv
          refine A_call (j := 33) (As := [.ref 19, .ref 10]) (fr' := (65, 54, [some (.ref 0), some (.int a), some (.int b), some (.int g), some (.ref 38), none], [])) (S' := S1) 5 rfl (e := 1) (by omega) (A_imp (wt33 19 10 (by decide) h) (fun v S2 hq => ?_))
          obtain ⟨hv, h⟩ := hq
          subst hv
          refine A_nx 2 (fr' := (65, 57, [some (.ref 0), some (.int a), some (.int b), some (.int g), some (.ref 38), some (.int (0 : Int32))], [])) (S' := S2) rfl ?_
          refine ri_A.less (m := 65) (pc := 57) (L := [some (.ref 0), some (.int a), some (.int b), some (.int g), some (.ref 38), some (.int (0 : Int32))]) (L' := [some (.ref 0), none, some (.int b), some (.int g), some (.ref 38), some (.int (0 : Int32))]) (st := []) ⟨rfl, ⟨rfl, ⟨rfl, ⟨rfl, ⟨rfl, trivial⟩⟩⟩⟩⟩ ?_
          obtain ⟨nn, h⟩ := h
          exact wt65_l57   nn _ _ _ _ h
        · have h := h.2 c
          exact A_ret 2 (m := 65) (v := some (.int (-2 : Int32))) (S' := S) rfl rfl ⟨_, rfl, h⟩
  · have h := h.2.1 c
    refine A_call (j := 34) (As := [.ref 10, .int b]) (fr' := (65, 20, [some (.ref 0), some (.int a), some (.int b), some (.int g), some (.ref 40), none], [])) (S' := S) 7 rfl (e := 0) (by omega) (sp_has 10 (by decide) _ ?_)
    refine A_br ((wi b (S.1 10 9)) = 0) (r1 := ((65, 33, [some (.ref 0), some (.int a), some (.int b), some (.int g), some (.ref 40), none], []), S)) (r2 := ((65, 23, [some (.ref 0), some (.int a), some (.int b), some (.int g), some (.ref 40), none], []), S)) 1 rfl (fun c => ?_) (fun c => ?_)
    · have h := h.1 c
      exact A_ret 2 (m := 65) (v := some (.int (-2 : Int32))) (S' := S) rfl rfl ⟨_, rfl, h⟩
    · have h := h.2 c
      refine A_br (g < 0) (r1 := ((65, 33, [some (.ref 0), some (.int a), some (.int b), some (.int g), some (.ref 40), none], []), S)) (r2 := ((65, 27, [some (.ref 0), some (.int a), some (.int b), some (.int g), some (.ref 40), none], []), S)) 2 rfl (fun c => ?_) (fun c => ?_)
      · have h := h.1 c
        exact A_ret 2 (m := 65) (v := some (.int (-2 : Int32))) (S' := S) rfl rfl ⟨_, rfl, h⟩
      · have h := h.2 c
        refine A_br (g ≤ (30 : Int32)) (r1 := ((65, 36, [some (.ref 0), some (.int a), some (.int b), some (.int g), some (.ref 40), none], []), S)) (r2 := ((65, 33, [some (.ref 0), some (.int a), some (.int b), some (.int g), some (.ref 40), none], []), S)) 3 rfl (fun c => ?_) (fun c => ?_)
        · have h := h.1 c
          refine A_call (j := 24) (As := [.ref 40, .int (0 : Int32), .int g]) (fr' := (65, 43, [some (.ref 0), some (.int a), some (.int b), some (.int g), some (.ref 40), none], [])) (S' := S) 4 rfl (e := 1) (by omega) (A_imp (wt24 40 (by decide) (0 : Int32) g h) (fun v S5 hq => ?_))
          obtain ⟨hv, h⟩ := hq
          subst hv
          refine A_call (j := 33) (As := [.ref 19, .ref 10]) (fr' := (65, 54, [some (.ref 0), some (.int a), some (.int b), some (.int g), some (.ref 40), none], [])) (S' := S5) 5 rfl (e := 1) (by omega) (A_imp (wt33 19 10 (by decide) h) (fun v S6 hq => ?_))
          obtain ⟨hv, h⟩ := hq
          subst hv
          refine A_nx 2 (fr' := (65, 57, [some (.ref 0), some (.int a), some (.int b), some (.int g), some (.ref 40), some (.int (0 : Int32))], [])) (S' := S6) rfl ?_
          refine ri_A.less (m := 65) (pc := 57) (L := [some (.ref 0), some (.int a), some (.int b), some (.int g), some (.ref 40), some (.int (0 : Int32))]) (L' := [some (.ref 0), none, some (.int b), some (.int g), some (.ref 40), some (.int (0 : Int32))]) (st := []) ⟨rfl, ⟨rfl, ⟨rfl, ⟨rfl, ⟨rfl, trivial⟩⟩⟩⟩⟩ ?_
          obtain ⟨nn, h⟩ := h
          exact wt65_l57a   nn _ _ _ _ h
        · have h := h.2 c
          exact A_ret 2 (m := 65) (v := some (.int (-2 : Int32))) (S' := S) rfl rfl ⟨_, rfl, h⟩
  · have h := h.2.2.1 c
    refine A_call (j := 34) (As := [.ref 10, .int b]) (fr' := (65, 20, [some (.ref 0), some (.int a), some (.int b), some (.int g), some (.ref 42), none], [])) (S' := S) 7 rfl (e := 0) (by omega) (sp_has 10 (by decide) _ ?_)
    refine A_br ((wi b (S.1 10 9)) = 0) (r1 := ((65, 33, [some (.ref 0), some (.int a), some (.int b), some (.int g), some (.ref 42), none], []), S)) (r2 := ((65, 23, [some (.ref 0), some (.int a), some (.int b), some (.int g), some (.ref 42), none], []), S)) 1 rfl (fun c => ?_) (fun c => ?_)
    · have h := h.1 c
      exact A_ret 2 (m := 65) (v := some (.int (-2 : Int32))) (S' := S) rfl rfl ⟨_, rfl, h⟩
    · have h := h.2 c
      refine A_br (g < 0) (r1 := ((65, 33, [some (.ref 0), some (.int a), some (.int b), some (.int g), some (.ref 42), none], []), S)) (r2 := ((65, 27, [some (.ref 0), some (.int a), some (.int b), some (.int g), some (.ref 42), none], []), S)) 2 rfl (fun c => ?_) (fun c => ?_)
      · have h := h.1 c
        exact A_ret 2 (m := 65) (v := some (.int (-2 : Int32))) (S' := S) rfl rfl ⟨_, rfl, h⟩
      · have h := h.2 c
        refine A_br (g ≤ (30 : Int32)) (r1 := ((65, 36, [some (.ref 0), some (.int a), some (.int b), some (.int g), some (.ref 42), none], []), S)) (r2 := ((65, 33, [some (.ref 0), some (.int a), some (.int b), some (.int g), some (.ref 42), none], []), S)) 3 rfl (fun c => ?_) (fun c => ?_)
        · have h := h.1 c
          refine A_call (j := 24) (As := [.ref 42, .int (0 : Int32), .int g]) (fr' := (65, 43, [some (.ref 0), some (.int a), some (.int b), some (.int g), some (.ref 42), none], [])) (S' := S) 4 rfl (e := 1) (by omega) (A_imp (wt24 42 (by decide) (0 : Int32) g h) (fun v S9 hq => ?_))
          obtain ⟨hv, h⟩ := hq
          subst hv
          refine A_call (j := 33) (As := [.ref 19, .ref 10]) (fr' := (65, 54, [some (.ref 0), some (.int a), some (.int b), some (.int g), some (.ref 42), none], [])) (S' := S9) 5 rfl (e := 1) (by omega) (A_imp (wt33 19 10 (by decide) h) (fun v S10 hq => ?_))
          obtain ⟨hv, h⟩ := hq
          subst hv
          refine A_nx 2 (fr' := (65, 57, [some (.ref 0), some (.int a), some (.int b), some (.int g), some (.ref 42), some (.int (0 : Int32))], [])) (S' := S10) rfl ?_
          refine ri_A.less (m := 65) (pc := 57) (L := [some (.ref 0), some (.int a), some (.int b), some (.int g), some (.ref 42), some (.int (0 : Int32))]) (L' := [some (.ref 0), none, some (.int b), some (.int g), some (.ref 42), some (.int (0 : Int32))]) (st := []) ⟨rfl, ⟨rfl, ⟨rfl, ⟨rfl, ⟨rfl, trivial⟩⟩⟩⟩⟩ ?_
          obtain ⟨nn, h⟩ := h
          exact wt65_l57b   nn _ _ _ _ h
        · have h := h.2 c
          exact A_ret 2 (m := 65) (v := some (.int (-2 : Int32))) (S' := S) rfl rfl ⟨_, rfl, h⟩
  · have h := h.2.2.2.1 c
    refine A_call (j := 34) (As := [.ref 10, .int b]) (fr' := (65, 20, [some (.ref 0), some (.int a), some (.int b), some (.int g), some (.ref 44), none], [])) (S' := S) 7 rfl (e := 0) (by omega) (sp_has 10 (by decide) _ ?_)
    refine A_br ((wi b (S.1 10 9)) = 0) (r1 := ((65, 33, [some (.ref 0), some (.int a), some (.int b), some (.int g), some (.ref 44), none], []), S)) (r2 := ((65, 23, [some (.ref 0), some (.int a), some (.int b), some (.int g), some (.ref 44), none], []), S)) 1 rfl (fun c => ?_) (fun c => ?_)
    · have h := h.1 c
      exact A_ret 2 (m := 65) (v := some (.int (-2 : Int32))) (S' := S) rfl rfl ⟨_, rfl, h⟩
    · have h := h.2 c
      refine A_br (g < 0) (r1 := ((65, 33, [some (.ref 0), some (.int a), some (.int b), some (.int g), some (.ref 44), none], []), S)) (r2 := ((65, 27, [some (.ref 0), some (.int a), some (.int b), some (.int g), some (.ref 44), none], []), S)) 2 rfl (fun c => ?_) (fun c => ?_)
      · have h := h.1 c
        exact A_ret 2 (m := 65) (v := some (.int (-2 : Int32))) (S' := S) rfl rfl ⟨_, rfl, h⟩
      · have h := h.2 c
        refine A_br (g ≤ (30 : Int32)) (r1 := ((65, 36, [some (.ref 0), some (.int a), some (.int b), some (.int g), some (.ref 44), none], []), S)) (r2 := ((65, 33, [some (.ref 0), some (.int a), some (.int b), some (.int g), some (.ref 44), none], []), S)) 3 rfl (fun c => ?_) (fun c => ?_)
        · have h := h.1 c
          refine A_call (j := 24) (As := [.ref 44, .int (0 : Int32), .int g]) (fr' := (65, 43, [some (.ref 0), some (.int a), some (.int b), some (.int g), some (.ref 44), none], [])) (S' := S) 4 rfl (e := 1) (by omega) (A_imp (wt24 44 (by decide) (0 : Int32) g h) (fun v S13 hq => ?_))
          obtain ⟨hv, h⟩ := hq
          subst hv
          refine A_call (j := 33) (As := [.ref 19, .ref 10]) (fr' := (65, 54, [some (.ref 0), some (.int a), some (.int b), some (.int g), some (.ref 44), none], [])) (S' := S13) 5 rfl (e := 1) (by omega) (A_imp (wt33 19 10 (by decide) h) (fun v S14 hq => ?_))
          obtain ⟨hv, h⟩ := hq
          subst hv
          refine A_nx 2 (fr' := (65, 57, [some (.ref 0), some (.int a), some (.int b), some (.int g), some (.ref 44), some (.int (0 : Int32))], [])) (S' := S14) rfl ?_
          refine ri_A.less (m := 65) (pc := 57) (L := [some (.ref 0), some (.int a), some (.int b), some (.int g), some (.ref 44), some (.int (0 : Int32))]) (L' := [some (.ref 0), none, some (.int b), some (.int g), some (.ref 44), some (.int (0 : Int32))]) (st := []) ⟨rfl, ⟨rfl, ⟨rfl, ⟨rfl, ⟨rfl, trivial⟩⟩⟩⟩⟩ ?_
          obtain ⟨nn, h⟩ := h
          exact wt65_l57c   nn _ _ _ _ h
        · have h := h.2 c
          exact A_ret 2 (m := 65) (v := some (.int (-2 : Int32))) (S' := S) rfl rfl ⟨_, rfl, h⟩
  · have h := h.2.2.2.2 c
    exact A_ret 5 (m := 65) (v := some (.int (-2 : Int32))) (S' := S) rfl rfl ⟨_, rfl, h⟩
/-! X4_image, depth 2 -/
def w68  (S : ri_H) (Q : Int32 → ri_H → Prop) : Prop := w33 28 10 S (fun (S1 : ri_H) => Q (S1.1 10 9) (ri_wi S1 0 10 (1 : Int32)))
set_option maxRecDepth 10000 in
set_option maxHeartbeats 1000000 in
theorem wt68 {E : ri_E}  {S : ri_H} {Q : Int32 → ri_H → Prop} (h : w68   S Q) : ri_A E 2 (ri_en 68 [.ref 0]) S (Qi Q) := by
  unfold w68 at h
  show ri_A E 2 (68, 0, [some (.ref 0)], []) S (Qi Q)
  refine A_call (j := 33) (As := [.ref 28, .ref 10]) (fr' := (68, 11, [some (.ref 0)], [])) (S' := S) 5 rfl (e := 1) (by omega) (A_imp (wt33 28 10 (by decide) h) (fun v S1 hq => ?_))
  obtain ⟨hv, h⟩ := hq
  subst hv
  exact A_ret 7 (m := 68) (v := some (.int (S1.1 10 9))) (S' := (ri_wi S1 0 10 (1 : Int32))) rfl rfl ⟨_, rfl, h⟩
/-! X4_back, depth 2 -/
def w69  (S : ri_H) (Q : Int32 → ri_H → Prop) : Prop := ((¬ (S.1 0 10) = 0 → w33 10 28 S (fun (S1 : ri_H) => Q (S1.1 10 9) S1)) ∧ (¬ (¬ (S.1 0 10) = 0) → Q (-3 : Int32) S))
set_option maxRecDepth 10000 in
set_option maxHeartbeats 1000000 in
theorem wt69 {E : ri_E}  {S : ri_H} {Q : Int32 → ri_H → Prop} (h : w69   S Q) : ri_A E 2 (ri_en 69 [.ref 0]) S (Qi Q) := by
  unfold w69 at h
  show ri_A E 2 (69, 0, [some (.ref 0)], []) S (Qi Q)
  refine A_br (¬ (S.1 0 10) = 0) (r1 := ((69, 10, [some (.ref 0)], []), S)) (r2 := ((69, 7, [some (.ref 0)], []), S)) 3 rfl (fun c => ?_) (fun c => ?_)
  · have h := h.1 c
    refine A_call (j := 33) (As := [.ref 10, .ref 28]) (fr' := (69, 21, [some (.ref 0)], [])) (S' := S) 5 rfl (e := 1) (by omega) (A_imp (wt33 10 28 (by decide) h) (fun v S1 hq => ?_))
    obtain ⟨hv, h⟩ := hq
    subst hv
    exact A_ret 4 (m := 69) (v := some (.int (S1.1 10 9))) (S' := S1) rfl rfl ⟨_, rfl, h⟩
  · have h := h.2 c
    exact A_ret 2 (m := 69) (v := some (.int (-3 : Int32))) (S' := S) rfl rfl ⟨_, rfl, h⟩
/-! X4_count, depth 1 -/
def w70 (a : Int32) (S : ri_H) (Q : Int32 → ri_H → Prop) : Prop := (((a < (0 : Int32) ∨ (5 : Int32) < a) → Q (-2 : Int32) S) ∧ (a = (0 : Int32) → Q (S.1 10 9) S) ∧ (a = (1 : Int32) → w37 10  S (fun (r2 : Int32) (S1 : ri_H) => Q r2 S1)) ∧ (a = (2 : Int32) → Q (S.1 10 10) S) ∧ (a = (3 : Int32) → Q (S.1 1 3) S) ∧ (a = (4 : Int32) → Q (S.1 5 4) S) ∧ (a = (5 : Int32) → Q (S.1 10 11) S))
set_option maxRecDepth 10000 in
set_option maxHeartbeats 1000000 in
theorem wt70 {E : ri_E} (a : Int32) {S : ri_H} {Q : Int32 → ri_H → Prop} (h : w70  a S Q) : ri_A E 1 (ri_en 70 [.ref 0, .int a]) S (Qi Q) := by
  unfold w70 at h
  show ri_A E 1 (70, 0, [some (.ref 0), some (.int a)], []) S (Qi Q)
  refine A_nx 2 (fr' := (70, ri_tgt 1 (87) (0) (5) [39, 47, 55, 63, 71, 79] a, [some (.ref 0), some (.int a)], [])) (S' := S) rfl ?_
  rcases ri_swc a (0) 6 (by decide) (by decide) with c | ⟨i, hi, c⟩
  · have c : a < Int32.ofInt (0) ∨ Int32.ofInt (5) < a := c
    have h := h.1 c
    rw [ri_tgt_out a c (by decide) (by decide)]
    exact A_ret 2 (m := 70) (v := some (.int (-2 : Int32))) (S' := S) rfl rfl ⟨_, rfl, h⟩
  · have h := h.2
    match i, hi, c with
    | 0, hi, c =>
      have c : a = (0 : Int32) := c
      have h := h.1 c
      rw [show ri_tgt 1 (87) (0) (5) [39, 47, 55, 63, 71, 79] a = 40 by rw [c]; decide]
      exact A_ret 4 (m := 70) (v := some (.int (S.1 10 9))) (S' := S) rfl rfl ⟨_, rfl, h⟩
    | 1, hi, c =>
      have c : a = (1 : Int32) := c
      have h := h.2.1 c
      rw [show ri_tgt 1 (87) (0) (5) [39, 47, 55, 63, 71, 79] a = 48 by rw [c]; decide]
      refine A_call (j := 37) (As := [.ref 10]) (fr' := (70, 55, [some (.ref 0), some (.int a)], [])) (S' := S) 3 rfl (e := 0) (by omega) (A_imp (wt37 10 (by decide)  h) (fun v S1 hq => ?_))
      obtain ⟨r2, hv, h⟩ := hq
      subst hv
      exact A_ret 1 (m := 70) (v := some (.int r2)) (S' := S1) rfl rfl ⟨_, rfl, h⟩
    | 2, hi, c =>
      have c : a = (2 : Int32) := c
      have h := h.2.2.1 c
      rw [show ri_tgt 1 (87) (0) (5) [39, 47, 55, 63, 71, 79] a = 56 by rw [c]; decide]
      exact A_ret 4 (m := 70) (v := some (.int (S.1 10 10))) (S' := S) rfl rfl ⟨_, rfl, h⟩
    | 3, hi, c =>
      have c : a = (3 : Int32) := c
      have h := h.2.2.2.1 c
      rw [show ri_tgt 1 (87) (0) (5) [39, 47, 55, 63, 71, 79] a = 64 by rw [c]; decide]
      exact A_ret 4 (m := 70) (v := some (.int (S.1 1 3))) (S' := S) rfl rfl ⟨_, rfl, h⟩
    | 4, hi, c =>
      have c : a = (4 : Int32) := c
      have h := h.2.2.2.2.1 c
      rw [show ri_tgt 1 (87) (0) (5) [39, 47, 55, 63, 71, 79] a = 72 by rw [c]; decide]
      exact A_ret 4 (m := 70) (v := some (.int (S.1 5 4))) (S' := S) rfl rfl ⟨_, rfl, h⟩
    | 5, hi, c =>
      have c : a = (5 : Int32) := c
      have h := h.2.2.2.2.2 c
      rw [show ri_tgt 1 (87) (0) (5) [39, 47, 55, 63, 71, 79] a = 80 by rw [c]; decide]
      exact A_ret 4 (m := 70) (v := some (.int (S.1 10 11))) (S' := S) rfl rfl ⟨_, rfl, h⟩
    | i + 6, hi, c => exact absurd hi (by omega)
