/-! sheets: what may be written -/
section SH
variable {T : Nat} {τ : Int32 → Int32 → List Int32} {S S0 S1 S' : ri_H} {s : Nat}
def SX (s : Nat) : List Nat := (38 + 2 * s) :: (39 + 2 * s) :: CX
theorem SX_c {c : Nat} (h : c ∈ SX s) : c = 38 + 2 * s ∨ c = 39 + 2 * s ∨ c ∈ CX := by
  rcases List.mem_cons.mp h with e | h
  · exact Or.inl e
  · rcases List.mem_cons.mp h with e | h
    · exact Or.inr (Or.inl e)
    · exact Or.inr (Or.inr h)
theorem nin {l : List Nat} (hs : s < 4) (hl : ∀ c, c ∈ l → c ∉ CX ∧ (c < 38 ∨ 45 < c)) : ∀ c, c ∈ l → c ∉ SX s := by
  intro c hc hx
  obtain ⟨h1, h2⟩ := hl c hc
  rcases SX_c hx with e | e | e
  · omega
  · omega
  · exact h1 e
theorem CX_SX : ∀ c, c ∈ CX → c ∈ SX s := fun _ h => List.mem_cons_of_mem _ (List.mem_cons_of_mem _ h)
theorem SX_0 : 38 + 2 * s ∈ SX s := List.mem_cons_self
theorem SX_1 : 39 + 2 * s ∈ SX s := List.mem_cons_of_mem _ List.mem_cons_self
end SH
/-! sheet -/
section SHEET
variable {a b g : Int32} {S S0 : ri_H} {T : Nat} {τ : Int32 → Int32 → List Int32}
/-- the class makes a sheet -/
theorem w24_ok {Q : ri_H → Prop} {s : Nat} {t z : Int32} (hQ : ∀ S', ag (SX s) S S' → S'.1 (38 + 2 * s) 1 = t → S'.1 (38 + 2 * s) 2 = z → (∀ j, j < 40 → S'.1 (39 + 2 * s) j = 0) → Q S') : w24 (38 + 2 * s) t z S Q := by
  unfold w24
  have e : 38 + 2 * s + 1 = 39 + 2 * s := by omega
  rw [e]
  refine hQ _ (ag_wr (ag_wi (ag_wi (ag_refl _ _) SX_0) SX_0) SX_1) ?_ ?_ (fun j hj => ?_)
  · rw [ri_wr_o _ _ (by omega), ri_wi_1, pk_un (by decide), ri_wi_1, pk_us]
  · rw [ri_wr_o _ _ (by omega), ri_wi_1, pk_us]
  · rw [ri_wr_1]
    unfold fil
    rw [if_pos hj]
/-- of which sheet -/
theorem pick4 {P : Nat → Prop} {a : Int32} {X : Prop} {s : Nat} (hs : s < 4) (ha : a = nI s) (h : P (38 + 2 * s)) : (a = 0 → P 38) ∧ (a = 1 → P 40) ∧ (a = 2 → P 42) ∧ (a = 3 → P 44) ∧ (wi a 4 = 0 → X) := by
  subst ha
  match s, hs, h with
  | 0, _, h => exact ⟨fun _ => h, fun c => absurd c (by decide), fun c => absurd c (by decide), fun c => absurd c (by decide), fun c => absurd c (by decide)⟩
  | 1, _, h => exact ⟨fun c => absurd c (by decide), fun _ => h, fun c => absurd c (by decide), fun c => absurd c (by decide), fun c => absurd c (by decide)⟩
  | 2, _, h => exact ⟨fun c => absurd c (by decide), fun c => absurd c (by decide), fun _ => h, fun c => absurd c (by decide), fun c => absurd c (by decide)⟩
  | 3, _, h => exact ⟨fun c => absurd c (by decide), fun c => absurd c (by decide), fun c => absurd c (by decide), fun _ => h, fun c => absurd c (by decide)⟩
  | s + 4, hs, _ => exact absurd hs (by omega)
/-! cell -/
def nrw (t : Nat) (v : Int32) : Int32 := if t = 0 then v.toInt8.toInt32 else if t = 1 then v.toInt16.toInt32 else v
theorem w22_ok {Q : Int32 → ri_H → Prop} {k : Nat} (h0 : ¬ S.1 k 1 = -1 → Q 0 S) (h1 : S.1 k 1 = -1 → Q 1 S) : w22 k S Q := ⟨h0, fun c => h1 (Decidable.not_not.mp c)⟩
theorem w25_ok {Q : ri_H → Prop} {s t i : Nat} {v : Int32} (ht : t < 3) (hi : i < 40) (e1 : S.1 (38 + 2 * s) 1 = nI t) (hQ : Q (ri_wr S (39 + 2 * s) (upd (S.1 (39 + 2 * s)) i (nrw t v)))) : w25 (38 + 2 * s) (nI i) v S Q := by
  unfold w25 w25_b31
  have e : 38 + 2 * s + 1 = 39 + 2 * s := by omega
  rw [e, e1, pu_nI _ _ hi (by decide), pu_nI _ _ hi (by decide), pu_nI _ _ hi (by decide)]
  unfold nrw at hQ
  refine ⟨fun c => ⟨fun c2 => ?_, fun c2 => ?_⟩, fun c => ?_⟩
  · rw [if_neg (fun e => c (by rw [e]; rfl)), if_neg (fun e => c2 (by rw [e]; rfl))] at hQ
    exact hQ
  · rw [if_neg (fun e => c (by rw [e]; rfl)), if_pos (nI_inj (b := 1) (by omega) (by decide) (Decidable.not_not.mp c2))] at hQ
    exact hQ
  · rw [if_pos (nI_inj (b := 0) (by omega) (by decide) (Decidable.not_not.mp c))] at hQ
    exact hQ
end SHEET
