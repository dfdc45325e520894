/-! the law's loop -/
theorem lc1 {α : Type} {V1 : Prop} {P : α → ri_H → Prop} {W : (α → ri_H → Prop) → Prop} (v1 : V1) (h : W P) : W (fun r S => V1 ∧ P r S) := by
  have e : (fun r S => V1 ∧ P r S) = P := funext (fun r => funext (fun S => propext ⟨fun ⟨_, h⟩ => h, fun h => ⟨v1, h⟩⟩))
  rw [e]
  exact h
theorem lc2 {α : Type} {V1 V2 : Prop} {P : α → ri_H → Prop} {W : (α → ri_H → Prop) → Prop} (v1 : V1) (v2 : V2) (h : W P) : W (fun r S => V1 ∧ V2 ∧ P r S) := by
  have e : (fun r S => V1 ∧ V2 ∧ P r S) = P := funext (fun r => funext (fun S => propext ⟨fun ⟨_, _, h⟩ => h, fun h => ⟨v1, v2, h⟩⟩))
  rw [e]
  exact h
theorem lc3 {α : Type} {V1 V2 V3 : Prop} {P : α → ri_H → Prop} {W : (α → ri_H → Prop) → Prop} (v1 : V1) (v2 : V2) (v3 : V3) (h : W P) : W (fun r S => V1 ∧ V2 ∧ V3 ∧ P r S) := by
  have e : (fun r S => V1 ∧ V2 ∧ V3 ∧ P r S) = P := funext (fun r => funext (fun S => propext ⟨fun ⟨_, _, _, h⟩ => h, fun h => ⟨v1, v2, v3, h⟩⟩))
  rw [e]
  exact h
theorem lc4 {α : Type} {V1 V2 V3 V4 : Prop} {P : α → ri_H → Prop} {W : (α → ri_H → Prop) → Prop} (v1 : V1) (v2 : V2) (v3 : V3) (v4 : V4) (h : W P) : W (fun r S => V1 ∧ V2 ∧ V3 ∧ V4 ∧ P r S) := by
  have e : (fun r S => V1 ∧ V2 ∧ V3 ∧ V4 ∧ P r S) = P := funext (fun r => funext (fun S => propext ⟨fun ⟨_, _, _, _, h⟩ => h, fun h => ⟨v1, v2, v3, v4, h⟩⟩))
  rw [e]
  exact h
theorem lc5 {α : Type} {V1 V2 V3 V4 V5 : Prop} {P : α → ri_H → Prop} {W : (α → ri_H → Prop) → Prop} (v1 : V1) (v2 : V2) (v3 : V3) (v4 : V4) (v5 : V5) (h : W P) : W (fun r S => V1 ∧ V2 ∧ V3 ∧ V4 ∧ V5 ∧ P r S) := by
  have e : (fun r S => V1 ∧ V2 ∧ V3 ∧ V4 ∧ V5 ∧ P r S) = P := funext (fun r => funext (fun S => propext ⟨fun ⟨_, _, _, _, _, h⟩ => h, fun h => ⟨v1, v2, v3, v4, v5, h⟩⟩))
  rw [e]
  exact h
theorem lg_0 (r : Int64) : lg_cmp r r = 0 := by
  unfold lg_cmp
  simp
theorem law_loop (E : ri_E) (hE : E.1 < 2 ^ 20) : ∀ d i S, E.1 ≤ i + 6 * d → i < 2 ^ 21 → RR S → w213_l18 E (fun r _ => r = 1) (d + 1) (nI i) S
  | 0, i, S, hd, hi, hS => by
    unfold w213_l18
    refine ⟨fun _ => rfl, fun c => absurd ?_ c⟩
    rw [Int32.lt_iff_toInt_lt, show (Int32.ofNat E.1 - 6).toInt = (E.1 : Int) - (6 : Nat) from sub_int (by omega) (by decide), nI_toInt (by omega)]
    omega
  | d + 1, i, S, hd, hi, hS => by
    unfold w213_l18
    refine ⟨fun _ => rfl, fun c => ?_⟩
    have hlt : i + 6 ≤ E.1 := by
      rcases Nat.lt_or_ge E.1 (i + 6) with q | q
      · refine absurd ?_ c
        rw [Int32.lt_iff_toInt_lt, show (Int32.ofNat E.1 - 6).toInt = (E.1 : Int) - (6 : Nat) from sub_int (by omega) (by decide), nI_toInt (by omega)]
        omega
      · exact q
    have v0 : vp_in (nI i) E.1 := vp_in_nI (by omega) (by omega)
    have v1 : vp_in (nI i + 1) E.1 := by
      rw [nI_1]
      exact vp_in_nI (by omega) (by omega)
    have v2 : vp_in (nI i + 2) E.1 := by
      rw [show nI i + 2 = nI (i + 2) from nI_add i 2]
      exact vp_in_nI (by omega) (by omega)
    have v3 : vp_in (nI i + 3) E.1 := by
      rw [show nI i + 3 = nI (i + 3) from nI_add i 3]
      exact vp_in_nI (by omega) (by omega)
    have v4 : vp_in (nI i + 4) E.1 := by
      rw [show nI i + 4 = nI (i + 4) from nI_add i 4]
      exact vp_in_nI (by omega) (by omega)
    have v5 : vp_in (nI i + 5) E.1 := by
      rw [show nI i + 5 = nI (i + 5) from nI_add i 5]
      exact vp_in_nI (by omega) (by omega)
    have nx : ∀ S', RR S' → w213_b1224 E (fun x3 S => w213_l18 E (fun r _ => r = 1) (d + 1) x3 S) (fun r _ => r = 1) (nI i) S' := by
      intro S' h'
      unfold w213_b1224
      rw [show nI i + 6 = nI (i + 6) from nI_add i 6]
      exact law_loop E hE d (i + 6) S' (by omega) (by omega) h'
    refine ⟨v0, fun _ => nx S hS, ?_, ?_, ?_, ?_, ?_, ?_, ?_, ?_, ?_, ?_, ?_, ?_, ?_, ?_, ?_, ?_, ?_, ?_, ?_, ?_, ?_, ?_, ?_, ?_, ?_, ?_, ?_, ?_, ?_⟩
    · refine fun _ => ⟨v1, v2, v3, lc3 (W := w47 _ _ _ S) v1 v2 v3 ?_⟩
      exact f_set hS (fun r S1 h1 => ⟨fun _ => nx S1 h1, fun c => absurd (rfl) c⟩)
    · refine fun _ => ⟨v1, v2, v3, lc3 (W := w48 _ _ _ S) v1 v2 v3 ?_⟩
      exact f_life hS (fun r S1 h1 _ => ⟨fun _ => nx S1 h1, fun c => absurd (rfl) c⟩)
    · refine fun _ => ⟨v1, v2, lc2 (W := w49 _ _ S) v1 v2 ?_⟩
      exact f_told hS (fun r S1 h1 => ⟨fun _ => nx S1 h1, fun c => absurd (rfl) c⟩)
    · refine fun _ => ⟨v1, v2, lc2 (W := w50 _ _ S) v1 v2 ?_⟩
      exact f_tastes hS (fun r S1 h1 => ⟨fun _ => nx S1 h1, fun c => absurd (rfl) c⟩)
    · refine fun _ => ⟨v1, lc1 (W := w51 _ S) v1 ?_⟩
      exact f_feed hS (fun r S1 h1 => ⟨fun _ => nx S1 h1, fun c => absurd (rfl) c⟩)
    · exact fun _ => f_text hS (fun r S1 h1 => ⟨fun _ => nx S1 h1, fun c => absurd (rfl) c⟩)
    · refine fun _ => ⟨v1, lc1 (W := w53 _ S) v1 ?_⟩
      exact f_force hS (fun r S1 h1 => ⟨fun _ => nx S1 h1, fun c => absurd (rfl) c⟩)
    · exact fun _ => f_year hS (fun r S1 h1 => ⟨fun _ => nx S1 h1, fun c => absurd (rfl) c⟩)
    · refine fun _ => ⟨v1, v2, lc2 (W := w55 _ _ S) v1 v2 ?_⟩
      exact f_spoon hS (fun r S1 h1 => ⟨fun _ => nx S1 h1, fun c => absurd (rfl) c⟩)
    · refine fun _ => ⟨v1, v2, v3, lc3 (W := w56 _ _ _ S) v1 v2 v3 ?_⟩
      exact f_run hS (fun r S1 h1 => ⟨fun _ => nx S1 h1, fun c => absurd (rfl) c⟩)
    · refine fun _ => ⟨v1, v2, v3, lc3 (W := w57 _ _ _ S) v1 v2 v3 ?_⟩
      exact f_otherwise hS (fun r S1 h1 => ⟨fun _ => nx S1 h1, fun c => absurd (rfl) c⟩)
    · refine fun _ => ⟨v1, v2, v3, lc3 (W := w58 _ _ _ S) v1 v2 v3 ?_⟩
      exact f_turns hS (fun r S1 h1 => ⟨fun _ => nx S1 h1, fun c => absurd (lg_0 r) c⟩)
    · refine fun _ => ⟨v1, v2, v3, v4, lc4 (W := w59 _ _ _ _ S) v1 v2 v3 v4 ?_⟩
      exact f_likely hS (fun r S1 h1 => ⟨fun _ => nx S1 h1, fun c => absurd (lg_0 r) c⟩)
    · refine fun _ => ⟨v1, v2, v3, lc3 (W := w60 _ _ _ S) v1 v2 v3 ?_⟩
      exact f_fewest hS (fun r S1 h1 => ⟨fun _ => nx S1 h1, fun c => absurd (rfl) c⟩)
    · refine fun _ => ⟨v1, v2, lc2 (W := w61 _ _ S) v1 v2 ?_⟩
      exact f_meet hS (fun r S1 h1 => ⟨fun _ => nx S1 h1, fun c => absurd (rfl) c⟩)
    · refine fun _ => ⟨v1, v2, lc2 (W := w62 _ _ S) v1 v2 ?_⟩
      exact f_shut hS (fun r S1 h1 => ⟨fun _ => nx S1 h1, fun c => absurd (rfl) c⟩)
    · refine fun _ => ⟨v1, v2, lc2 (W := w63 _ _ S) v1 v2 ?_⟩
      exact f_best hS (fun r S1 h1 => ⟨fun _ => nx S1 h1, fun c => absurd (rfl) c⟩)
    · refine fun _ => ⟨v1, v2, v3, lc3 (W := w64 _ _ _ S) v1 v2 v3 ?_⟩
      exact f_tells hS (fun r S1 h1 => ⟨fun _ => nx S1 h1, fun c => absurd (rfl) c⟩)
    · refine fun _ => ⟨v1, v2, v3, lc3 (W := w65 _ _ _ S) v1 v2 v3 ?_⟩
      exact f_film hS (fun r S1 h1 => ⟨fun _ => nx S1 h1, fun c => absurd (rfl) c⟩)
    · refine fun _ => ⟨v1, v2, v3, lc3 (W := w66 _ _ _ S) v1 v2 v3 ?_⟩
      exact f_drawn hS (fun r S1 h1 => ⟨fun _ => nx S1 h1, fun c => absurd (rfl) c⟩)
    · refine fun _ => ⟨v1, v2, v3, v4, v5, lc5 (W := w67 _ _ _ _ _ S) v1 v2 v3 v4 v5 ?_⟩
      exact f_chance hS (fun r S1 h1 => ⟨fun _ => nx S1 h1, fun c => absurd (lg_0 r) c⟩)
    · exact fun _ => f_image hS (fun r S1 h1 => ⟨fun _ => nx S1 h1, fun c => absurd (rfl) c⟩)
    · exact fun _ => f_back hS (fun r S1 h1 => ⟨fun _ => nx S1 h1, fun c => absurd (rfl) c⟩)
    · refine fun _ => ⟨v1, lc1 (W := w70 _ S) v1 ?_⟩
      exact f_count hS (fun r S1 h1 => ⟨fun _ => nx S1 h1, fun c => absurd (rfl) c⟩)
    · refine fun _ => ⟨v1, v2, v3, lc3 (W := w71 _ _ _ S) v1 v2 v3 ?_⟩
      exact f_sheet hS (fun r S1 h1 => ⟨fun _ => nx S1 h1, fun c => absurd (rfl) c⟩)
    · refine fun _ => ⟨v1, v2, v3, lc3 (W := w72 _ _ _ S) v1 v2 v3 ?_⟩
      exact f_cell hS (fun r S1 h1 => ⟨fun _ => nx S1 h1, fun c => absurd (rfl) c⟩)
    · refine fun _ => ⟨v1, v2, v3, v4, v5, lc5 (W := w73 _ _ _ _ _ S) v1 v2 v3 v4 v5 ?_⟩
      exact f_copy hS (fun r S1 h1 => ⟨fun _ => nx S1 h1, fun c => absurd (rfl) c⟩)
    · refine fun _ => ⟨v1, v2, v3, v4, lc4 (W := w74 _ _ _ _ S) v1 v2 v3 v4 ?_⟩
      exact f_lives hS (fun r S1 h1 => ⟨fun _ => nx S1 h1, fun c => absurd (rfl) c⟩)
    · refine fun _ => ⟨v1, v2, lc2 (W := w75 _ _ S) v1 v2 ?_⟩
      exact f_taken hS (fun r S1 h1 => ⟨fun _ => nx S1 h1, fun c => absurd (rfl) c⟩)
theorem law_ok (E : ri_E) (hE : E.1 < 2 ^ 20) {S : ri_H} (h : RR S) : w213 E S (fun r _ => r = 1) :=
  ⟨E.1 + 1, law_loop E hE E.1 0 S (by omega) (by decide) h⟩
