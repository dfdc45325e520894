/-! sheets: what may be written -/
section SH
variable {T : Nat} {τ : Int32 → Int32 → List Int32} {S S0 S1 S' : ri_H} {s : Nat}
def SX (s : Nat) : List Nat := (38 + 2 * s) :: (39 + 2 * s) :: CX
def SM : List Nat := 66 :: 67 :: 68 :: 69 :: MX
theorem SX_c {c : Nat} (h : c ∈ SX s) : c = 38 + 2 * s ∨ c = 39 + 2 * s ∨ c ∈ CX := by
  rcases List.mem_cons.mp h with e | h
  · exact Or.inl e
  · rcases List.mem_cons.mp h with e | h
    · exact Or.inr (Or.inl e)
    · exact Or.inr (Or.inr h)
theorem nin {l : List Nat} (hs : s < 4) (hl : ∀ c, c ∈ l → c ∉ CX ∧ (c < 38 ∨ 45 < c)) : ∀ c, c ∈ l → c ∉ SX s := by
  intro c hc hx
  obtain ⟨h1, h2⟩ := hl c hc
  rcases SX_c hx with e | e | e
  · omega
  · omega
  · exact h1 e
theorem CX_SX : ∀ c, c ∈ CX → c ∈ SX s := fun _ h => List.mem_cons_of_mem _ (List.mem_cons_of_mem _ h)
theorem SX_0 : 38 + 2 * s ∈ SX s := List.mem_cons_self
theorem SX_1 : 39 + 2 * s ∈ SX s := List.mem_cons_of_mem _ List.mem_cons_self
theorem R_sh (hs : s < 4) (h : R T τ S) (a : ag (SX s) S S1) (b : am SM MF S1 S') (g : gm S' = gm S1) (hr : rS S') : R T τ S' := by
  obtain ⟨h1, h2, h3, h4, h5⟩ := h
  refine ⟨rW_k h1 (kW_tr (kW_ag a (nin hs (by decide)) (nin hs (by decide))) ⟨gw_am (by decide) b (in8 (by decide)), g⟩), rT_k h2 (kT_tr (kT_ag a (nin hs (by decide))) (kT_am b (by decide) (by decide))), rP_k h3 (kP_tr (kP_ag a (nin hs (by decide))) (kP_am b (by decide) (by decide))), rI_k h4 (kI_tr (kI_ag a (nin hs (by decide)) (nin hs (by decide))) (kI_am b (by decide) (by decide) (by decide))), hr⟩
theorem shr_o {i : Nat} (h : shr S i) (e1 : S'.1 (38 + 2 * i) = S.1 (38 + 2 * i)) (e2 : S'.1 (39 + 2 * i) = S.1 (39 + 2 * i)) (e3 : S'.1 66 i = S.1 66 i) (e4 : S'.1 67 i = S.1 67 i) (e5 : S'.1 68 i = S.1 68 i) (e6 : ∀ j, j < 40 → S'.1 69 (40 * i + j) = S.1 69 (40 * i + j)) : shr S' i := by
  unfold shr at h ⊢
  rw [e1, e2, e3, e4, e5]
  rcases h with q | ⟨t, z, h1, h2, h3, h4, h5, h6, h7, h8⟩
  · exact Or.inl q
  · exact Or.inr ⟨t, z, h1, h2, h3, h4, h5, h6, h7, fun j hj => by rw [e6 j (by omega)]; exact h8 j hj⟩
theorem rS_1 (hs : s < 4) (h : rS S) (a : ag (SX s) S S1) (e3 : ∀ i, i ≠ s → S'.1 66 i = S1.1 66 i) (e4 : ∀ i, i ≠ s → S'.1 67 i = S1.1 67 i) (e5 : ∀ i, i ≠ s → S'.1 68 i = S1.1 68 i) (e6 : ∀ i, i < 40 * s ∨ 40 * s + 40 ≤ i → S'.1 69 i = S1.1 69 i) (e7 : ∀ c, 38 ≤ c → c ≤ 45 → S'.1 c = S1.1 c) (hn : shr S' s) : rS S' := by
  intro i hi
  by_cases e : i = s
  · subst e
    exact hn
  · have n1 : 38 + 2 * i ∉ SX s := by
      intro hx
      rcases SX_c hx with q | q | q
      · omega
      · omega
      · simp [CX] at q
        omega
    have n2 : 39 + 2 * i ∉ SX s := by
      intro hx
      rcases SX_c hx with q | q | q
      · omega
      · omega
      · simp [CX] at q
        omega
    have m : ∀ c, c ∈ [66, 67, 68, 69] → c ∉ SX s := nin hs (by decide)
    refine shr_o (h i hi) ?_ ?_ ?_ ?_ ?_ (fun j hj => ?_)
    · rw [e7 _ (by omega) (by omega), (a _ n1).1]
    · rw [e7 _ (by omega) (by omega), (a _ n2).1]
    · rw [e3 i e, (a 66 (m 66 (by decide))).1]
    · rw [e4 i e, (a 67 (m 67 (by decide))).1]
    · rw [e5 i e, (a 68 (m 68 (by decide))).1]
    · rw [e6 _ (by omega), (a 69 (m 69 (by decide))).1]
end SH
/-! sheet -/
theorem w199_ok {S : ri_H} {Q : Int32 → ri_H → Prop} {x : Int32} (h1 : ∀ j, j < 4 → x = nI j → Q 1 S) (h0 : (∀ j, j < 4 → x ≠ nI j) → Q 0 S) : w199 x S Q :=
  w102_n (m := 3) (by decide) (by decide) (fun j hj e => ⟨Or.inr rfl, h1 j hj e⟩) (fun h => ⟨Or.inl rfl, h0 h⟩)
theorem x40 (a b : Nat) : (40 : Int32) * nI a + nI b = nI (40 * a + b) := by
  rw [show (40 : Int32) * nI a = nI (40 * a) from pk_mul 40 a, nI_add]
section SHEET
variable {a b g : Int32} {S S0 : ri_H} {T : Nat} {τ : Int32 → Int32 → List Int32}
theorem l77s_ok {Q : Int32 → ri_H → Prop} {s t z : Nat} (hs : s < 4) (ht : t < 3) (hz : z ≤ 40) (hQ : ∀ S', am [69] [] S0 S' → (∀ j, j < z → S'.1 69 (40 * s + j) = 0) → (∀ i, i < 40 * s ∨ 40 * s + 40 ≤ i → S'.1 69 i = S0.1 69 i) → Q 1 S') : ∀ d k S, k + d = z → am [69] [] S0 S → (∀ j, j < k → S.1 69 (40 * s + j) = 0) → (∀ i, i < 40 * s ∨ 40 * s + 40 ≤ i → S.1 69 i = S0.1 69 i) → w200_l77 Q (d + 1) (nI s) (nI t) (nI z) (nI k) S
  | 0, k, S, hk, a, h1, h2 => by
    have hk' : k = z := hk
    subst hk'
    unfold w200_l77
    exact ⟨fun _ => hQ S a h1 h2, fun c => absurd (nI_le (Nat.le_refl _) (by omega)) c⟩
  | d + 1, k, S, hk, a, h1, h2 => by
    unfold w200_l77
    rw [x40, nI_clamp (by omega), nI_1]
    refine ⟨fun c => absurd c (nI_ge (by omega) (by omega)), fun _ => ⟨fun c => absurd c (nI_pos (by omega)), fun _ => ⟨vp_in_nI (by omega) (by decide), ?_⟩⟩⟩
    refine l77s_ok hs ht hz hQ d (k + 1) _ (by omega) (am_wi a (by decide) (by decide)) (fun j hj => ?_) (fun i hi => ?_)
    · rw [ri_wi_1]
      by_cases e : j = k
      · rw [e, pk_us]
      · rw [pk_un (by omega)]
        exact h1 j (by omega)
    · rw [ri_wi_1, pk_un (by omega)]
      exact h2 i hi
theorem m200 {Q : Int32 → ri_H → Prop} {s t z : Nat} (hs : s < 4) (ht : t < 3) (hz : z ≤ 40) (hQ : ∀ S', am [66, 67, 68, 69] [] S S' → S'.1 66 = upd (S.1 66) s 1 → S'.1 67 = upd (S.1 67) s (nI t) → S'.1 68 = upd (S.1 68) s (nI z) → (∀ j, j < z → S'.1 69 (40 * s + j) = 0) → (∀ i, i < 40 * s ∨ 40 * s + 40 ≤ i → S'.1 69 i = S.1 69 i) → Q 1 S') : w200 (nI s) (nI t) (nI z) S Q := by
  unfold w200 w200_b34 w200_b45 w200_b59
  rw [nI_clamp (by omega)]
  have nt : ¬ nI t < 0 := nI_pos (by omega)
  have main : vp_in (nI s) 4 ∧ (vp_in (nI s) 4 ∧ (vp_in (nI s) 4 ∧ ∃ nn, w200_l77 Q nn (nI s) (nI t) (nI z) (0 : Int32) (ri_wi (ri_wi (ri_wi S 66 s (vp_nar .boolean 1)) 67 s (nI t)) 68 s (nI z)))) := by
    refine ⟨vp_in_nI hs (by decide), vp_in_nI hs (by decide), vp_in_nI hs (by decide), z + 1, ?_⟩
    rw [show vp_nar .boolean 1 = 1 by decide]
    refine l77s_ok hs ht hz (fun S' a' h1 h2 => hQ S' (am_tr (am_wi (am_wi (am_wi (am_refl _ _ _) (by decide) (by decide)) (by decide) (by decide)) (by decide) (by decide)) (am_mo a' (by decide) (by decide))) ?_ ?_ ?_ h1 (fun i hi => ?_)) z 0 _ (by omega) (am_refl _ _ _) (fun j hj => absurd hj (Nat.not_lt_zero j)) (fun _ _ => rfl)
    · rw [(a'.1 66 (by decide) (by decide)).1, ri_wi_o _ _ _ (by decide), ri_wi_o _ _ _ (by decide), ri_wi_1]
    · rw [(a'.1 67 (by decide) (by decide)).1, ri_wi_o _ _ _ (by decide), ri_wi_1, ri_wi_o _ _ _ (by decide)]
    · rw [(a'.1 68 (by decide) (by decide)).1, ri_wi_1, ri_wi_o _ _ _ (by decide), ri_wi_o _ _ _ (by decide)]
    · rw [h2 i hi, ri_wi_o _ _ _ (by decide), ri_wi_o _ _ _ (by decide), ri_wi_o _ _ _ (by decide)]
  refine w199_ok (fun _ _ _ => ⟨fun c => absurd c (by decide), fun _ => w102_g (-1) 2 (fun _ _ => ⟨fun c => absurd c (by decide), fun _ => ⟨fun c => absurd c nt, fun _ => ⟨fun _ => ⟨fun c => absurd c nt, fun _ => ⟨fun _ => ⟨fun c => absurd c nt, fun _ => main⟩, fun c => absurd (nI_pos' (by omega)) c⟩⟩, fun c => absurd (nI_le (b := 40) hz (by decide)) c⟩⟩⟩) (fun hh => absurd ⟨Int32.le_trans (by decide) (nI_pos' (n := t) (by omega)), nI_le (b := 2) (by omega) (by decide)⟩ hh)⟩) (fun hh => absurd rfl (hh s hs))
/-- the class makes a sheet -/
theorem w24_ok {Q : ri_H → Prop} {s : Nat} {t z : Int32} (hQ : ∀ S', ag (SX s) S S' → S'.1 (38 + 2 * s) 1 = t → S'.1 (38 + 2 * s) 2 = z → (∀ j, j < 40 → S'.1 (39 + 2 * s) j = 0) → Q S') : w24 (38 + 2 * s) t z S Q := by
  unfold w24
  have e : 38 + 2 * s + 1 = 39 + 2 * s := by omega
  rw [e]
  refine hQ _ (ag_wr (ag_wi (ag_wi (ag_refl _ _) SX_0) SX_0) SX_1) ?_ ?_ (fun j hj => ?_)
  · rw [ri_wr_o _ _ (by omega), ri_wi_1, pk_un (by decide), ri_wi_1, pk_us]
  · rw [ri_wr_o _ _ (by omega), ri_wi_1, pk_us]
  · rw [ri_wr_1]
    unfold fil
    rw [if_pos hj]
/-- of which sheet -/
theorem pick4 {P : Nat → Prop} {a : Int32} {X : Prop} {s : Nat} (hs : s < 4) (ha : a = nI s) (h : P (38 + 2 * s)) : (a = 0 → P 38) ∧ (a = 1 → P 40) ∧ (a = 2 → P 42) ∧ (a = 3 → P 44) ∧ (wi a 4 = 0 → X) := by
  subst ha
  match s, hs, h with
  | 0, _, h => exact ⟨fun _ => h, fun c => absurd c (by decide), fun c => absurd c (by decide), fun c => absurd c (by decide), fun c => absurd c (by decide)⟩
  | 1, _, h => exact ⟨fun c => absurd c (by decide), fun _ => h, fun c => absurd c (by decide), fun c => absurd c (by decide), fun c => absurd c (by decide)⟩
  | 2, _, h => exact ⟨fun c => absurd c (by decide), fun c => absurd c (by decide), fun _ => h, fun c => absurd c (by decide), fun c => absurd c (by decide)⟩
  | 3, _, h => exact ⟨fun c => absurd c (by decide), fun c => absurd c (by decide), fun c => absurd c (by decide), fun _ => h, fun c => absurd c (by decide)⟩
  | s + 4, hs, _ => exact absurd hs (by omega)
theorem pick0 {P : Nat → Prop} {a : Int32} {X : Prop} (ha : ∀ s, s < 4 → a ≠ nI s) (h : X) : (a = 0 → P 38) ∧ (a = 1 → P 40) ∧ (a = 2 → P 42) ∧ (a = 3 → P 44) ∧ (wi a 4 = 0 → X) :=
  ⟨fun c => absurd c (ha 0 (by decide)), fun c => absurd c (ha 1 (by decide)), fun c => absurd c (ha 2 (by decide)), fun c => absurd c (ha 3 (by decide)), fun _ => h⟩
def c71 (b g : Int32) (S : ri_H) (Q : Int32 → ri_H → Prop) (k : Nat) : Prop := ((b < (-1 : Int32) → Q (-2 : Int32) S) ∧ (¬ (b < (-1 : Int32)) → ((b ≤ (2 : Int32) → ((¬ b = (-1 : Int32) → ((g ≤ (40 : Int32) → ((0 ≤ g → w24 k b g S (fun (S1 : ri_H) => Q (1 : Int32) S1)) ∧ (¬ (0 ≤ g) → Q (-14 : Int32) S))) ∧ (¬ (g ≤ (40 : Int32)) → Q (-2 : Int32) S))) ∧ (¬ (¬ b = (-1 : Int32)) → w23 k  S (fun (S2 : ri_H) => Q (1 : Int32) S2)))) ∧ (¬ (b ≤ (2 : Int32)) → Q (-2 : Int32) S))))
theorem f_sheet {Q : Int32 → Int32 → ri_H → Prop} (h : RR S) (hQ : ∀ r S', RR S' → Q r r S') : w71 a b g S (fun r S1 => w200 a b g S1 (fun r2 S2 => Q r r2 S2)) := by
  have h0 := h
  obtain ⟨T, τ, h⟩ := h
  rcases wi_d a (n := 4) (by decide) with ⟨s, hs, ea, hw⟩ | ⟨hw, hne⟩
  · refine pick4 (P := c71 b g S (fun r S1 => w200 a b g S1 (fun r2 S2 => Q r r2 S2))) hs ea ?_
    subst ea
    have M : ∀ (S1 : ri_H) (r : Int32), ((-1 : Int32) ≤ b → b ≤ 2 → ((b < 0 → w200_b34 (fun r2 S2 => Q r r2 S2) (nI s) b g S1) ∧ (¬ (b < 0) → ((g ≤ (40 : Int32) → w200_b34 (fun r2 S2 => Q r r2 S2) (nI s) b g S1) ∧ (¬ (g ≤ (40 : Int32)) → Q r (-2) S1))))) → (¬ ((-1 : Int32) ≤ b ∧ b ≤ 2) → Q r (-2) S1) → w200 (nI s) b g S1 (fun r2 S2 => Q r r2 S2) := fun S1 r k1 k2 =>
      w199_ok (fun _ _ _ => ⟨fun c => absurd c (by decide), fun _ => w102_g (-1) 2 (fun q1 q2 => ⟨fun c => absurd c (by decide), fun _ => k1 q1 q2⟩) (fun q => ⟨fun _ => k2 q, fun c => absurd rfl c⟩)⟩) (fun hh => absurd rfl (hh s hs))
    unfold c71
    refine ⟨fun c => M S _ (fun q _ => absurd c (Int32.not_lt.mpr q)) (fun _ => hQ _ _ h0), fun c => ⟨fun c2 => ⟨fun c3 => ?_, fun c3 => ?_⟩, fun c2 => M S _ (fun _ q => absurd q c2) (fun _ => hQ _ _ h0)⟩⟩
    · have b0 : ¬ b < 0 := by
        intro q
        have q1 := Int32.lt_iff_toInt_lt.mp q
        have q2 : ¬ b.toInt < (-1 : Int32).toInt := fun z => c (Int32.lt_iff_toInt_lt.mpr z)
        have e0 : (0 : Int32).toInt = 0 := rfl
        have e1 : (-1 : Int32).toInt = -1 := rfl
        refine c3 (Int32.toInt_inj.mp ?_)
        omega
      obtain ⟨t, ht, rfl⟩ := nI_of2 (x := b) (M := 2) (n := 2) rfl b0 c2
      refine ⟨fun c4 => ⟨fun c5 => ?_, fun c5 => ?_⟩, fun c4 => ?_⟩
      · obtain ⟨z, hz, rfl⟩ := nI_of2 (x := g) (M := 40) (n := 40) rfl (Int32.not_lt.mpr c5) c4
        refine w24_ok (fun S1 a1 e1 e2 e3 => m200 hs (by omega) hz (fun S2 a2 f1 f2 f3 f4 f5 => ?_))
        have b2 : am SM MF S1 S2 := am_mo a2 (by decide) (by decide)
        have k38 := (a2.1 (38 + 2 * s) (by simp; omega) (by omega)).1
        have k39 := (a2.1 (39 + 2 * s) (by simp; omega) (by omega)).1
        refine hQ _ _ ⟨T, τ, R_sh hs h a1 b2 (gm_am a2 (by decide) (by decide) (by decide) (by decide) (by decide) (by decide)) ?_⟩
        refine rS_1 hs h.2.2.2.2 a1 (fun i hi => by rw [f1, pk_un hi]) (fun i hi => by rw [f2, pk_un hi]) (fun i hi => by rw [f3, pk_un hi]) f5 (fun c hc1 hc2 => (a2.1 c (by simp; omega) (by omega)).1) (Or.inr ⟨t, z, by omega, hz, ?_, ?_, ?_, ?_, ?_, fun j hj => ?_⟩)
        · rw [k38]
          exact e1
        · rw [k38]
          exact e2
        · rw [f1, pk_us]
        · rw [f2, pk_us]
        · rw [f3, pk_us]
        · rw [k39, e3 j (by omega), f4 j hj]
      · refine M S _ (fun _ _ => ⟨fun q => absurd q b0, fun _ => ⟨fun _ => ⟨fun q => absurd q b0, fun _ => ⟨fun q => absurd q c5, fun _ => hQ _ _ h0⟩⟩, fun q => absurd c4 q⟩⟩) (fun q => absurd ⟨Int32.le_trans (by decide) (Int32.not_lt.mp b0), c2⟩ q)
      · exact M S _ (fun _ _ => ⟨fun q => absurd q b0, fun _ => ⟨fun q => absurd q c4, fun _ => hQ _ _ h0⟩⟩) (fun q => absurd ⟨Int32.le_trans (by decide) (Int32.not_lt.mp b0), c2⟩ q)
    · have c3 := Decidable.not_not.mp c3
      subst c3
      unfold w23
      have a1 : ag (SX s) S (ri_wi (ri_wi S (38 + 2 * s) 1 (-1)) (38 + 2 * s) 2 0) := ag_wi (ag_wi (ag_refl _ _) SX_0) SX_0
      refine M _ _ (fun _ _ => ⟨fun _ => ⟨fun _ => ⟨fun _ => ?_, fun q => absurd (by decide) q⟩, fun q => absurd (by decide) q⟩, fun q => absurd (by decide) q⟩) (fun q => absurd (by decide) q)
      unfold w200_b59
      rw [nI_clamp (by omega), show vp_nar .boolean 0 = 0 by decide]
      refine ⟨vp_in_nI hs (by decide), vp_in_nI hs (by decide), vp_in_nI hs (by decide), 1, ?_⟩
      have a2 : am [66, 67, 68] [] (ri_wi (ri_wi S (38 + 2 * s) 1 (-1)) (38 + 2 * s) 2 0) (ri_wi (ri_wi (ri_wi (ri_wi (ri_wi S (38 + 2 * s) 1 (-1)) (38 + 2 * s) 2 0) 66 s 0) 67 s (-1)) 68 s g) := am_wi (am_wi (am_wi (am_refl _ _ _) (by decide) (by decide)) (by decide) (by decide)) (by decide) (by decide)
      have fin : Q 1 1 (ri_wi (ri_wi (ri_wi (ri_wi (ri_wi S (38 + 2 * s) 1 (-1)) (38 + 2 * s) 2 0) 66 s 0) 67 s (-1)) 68 s g) := by
        refine hQ _ _ ⟨T, τ, R_sh hs h a1 (am_mo a2 (by decide) (by decide)) (gm_am a2 (by decide) (by decide) (by decide) (by decide) (by decide) (by decide)) ?_⟩
        refine rS_1 hs h.2.2.2.2 a1 (fun i hi => ?_) (fun i hi => ?_) (fun i hi => ?_) (fun i _ => ?_) (fun c hc1 hc2 => (a2.1 c (by simp; omega) (by omega)).1) (Or.inl ⟨?_, ?_⟩)
        · rw [ri_wi_o _ _ _ (by decide), ri_wi_o _ _ _ (by decide), ri_wi_1, pk_un hi]
        · rw [ri_wi_o _ _ _ (by decide), ri_wi_1, pk_un hi, ri_wi_o _ _ _ (by decide)]
        · rw [ri_wi_1, pk_un hi, ri_wi_o _ _ _ (by decide), ri_wi_o _ _ _ (by decide)]
        · rw [(a2.1 69 (by decide) (by decide)).1]
        · rw [(a2.1 (38 + 2 * s) (by simp; omega) (by omega)).1, ri_wi_1, pk_un (by decide), ri_wi_1, pk_us]
        · rw [ri_wi_o _ _ _ (by decide), ri_wi_o _ _ _ (by decide), ri_wi_1, pk_us]
      unfold w200_l77
      exact ⟨fun _ => fin, fun _ => ⟨fun _ => fin, fun q => absurd (by decide) q⟩⟩
  · exact pick0 (P := c71 b g S (fun r S1 => w200 a b g S1 (fun r2 S2 => Q r r2 S2))) hne (w199_ok (fun j hj e => absurd e (hne j hj)) (fun _ => ⟨fun _ => hQ _ _ h0, fun c => absurd rfl c⟩))
/-! cell -/
def nrw (t : Nat) (v : Int32) : Int32 := if t = 0 then v.toInt8.toInt32 else if t = 1 then v.toInt16.toInt32 else v
theorem w22_ok {Q : Int32 → ri_H → Prop} {k : Nat} (h0 : ¬ S.1 k 1 = -1 → Q 0 S) (h1 : S.1 k 1 = -1 → Q 1 S) : w22 k S Q := ⟨h0, fun c => h1 (Decidable.not_not.mp c)⟩
theorem w25_ok {Q : ri_H → Prop} {s t i : Nat} {v : Int32} (ht : t < 3) (hi : i < 40) (e1 : S.1 (38 + 2 * s) 1 = nI t) (hQ : Q (ri_wr S (39 + 2 * s) (upd (S.1 (39 + 2 * s)) i (nrw t v)))) : w25 (38 + 2 * s) (nI i) v S Q := by
  unfold w25 w25_b31
  have e : 38 + 2 * s + 1 = 39 + 2 * s := by omega
  rw [e, e1, pu_nI _ _ hi (by decide), pu_nI _ _ hi (by decide), pu_nI _ _ hi (by decide)]
  unfold nrw at hQ
  refine ⟨fun c => ⟨fun c2 => ?_, fun c2 => ?_⟩, fun c => ?_⟩
  · rw [if_neg (fun e => c (by rw [e]; rfl)), if_neg (fun e => c2 (by rw [e]; rfl))] at hQ
    exact hQ
  · rw [if_neg (fun e => c (by rw [e]; rfl)), if_pos (nI_inj (b := 1) (by omega) (by decide) (Decidable.not_not.mp c2))] at hQ
    exact hQ
  · rw [if_pos (nI_inj (b := 0) (by omega) (by decide) (Decidable.not_not.mp c))] at hQ
    exact hQ
def c72 (b g : Int32) (S : ri_H) (Q : Int32 → ri_H → Prop) (k : Nat) : Prop := w22 k S (fun (r2 : Int32) (S1 : ri_H) => ((r2 = 0 → ((¬ (wi b (S1.1 k 2)) = 0 → w25 k b g S1 (fun (S3 : ri_H) => Q (1 : Int32) S3)) ∧ (¬ (¬ (wi b (S1.1 k 2)) = 0) → Q (-12 : Int32) S1))) ∧ (¬ (r2 = 0) → Q (-11 : Int32) S1)))
theorem nt_m1 {t : Nat} (ht : t < 2 ^ 31) : ¬ nI t = -1 := fun e => nI_pos ht (by rw [e]; decide)
theorem f_cell {Q : Int32 → Int32 → ri_H → Prop} (h : RR S) (hQ : ∀ r S', RR S' → Q r r S') : w72 a b g S (fun r S1 => w201 a b g S1 (fun r2 S2 => Q r r2 S2)) := by
  have h0 := h
  obtain ⟨T, τ, h⟩ := h
  rcases wi_d a (n := 4) (by decide) with ⟨s, hs, ea, hw⟩ | ⟨hw, hne⟩
  · refine pick4 (P := c72 b g S (fun r S1 => w201 a b g S1 (fun r2 S2 => Q r r2 S2))) hs ea ?_
    subst ea
    unfold c72
    rcases h.2.2.2.2 s hs with ⟨e1, e2⟩ | ⟨t, z, ht, hz, e1, e2, e3, e4, e5, e6⟩
    · refine w22_ok (fun c => absurd e1 c) (fun _ => ⟨fun c => absurd c (by decide), fun _ => ?_⟩)
      refine w199_ok (fun _ _ _ => ⟨fun _ => ?_, fun c => absurd (by decide) c⟩) (fun hh => absurd rfl (hh s hs))
      rw [nI_clamp (n := s) (by omega), e2]
      exact ⟨vp_in_nI hs (by decide), fun c => absurd rfl c, fun _ => hQ _ _ h0⟩
    · refine w22_ok (fun _ => ⟨fun _ => ?_, fun c => absurd rfl c⟩) (fun c => absurd (e1.symm.trans c) (nt_m1 (by omega)))
      rw [e2]
      have bnd : ∀ {K : Int32 → ri_H → Prop} {S1 : ri_H}, S1.1 68 s = nI z → (∀ i, i < z → b = nI i → K 1 S1) → ((∀ i, i < z → b ≠ nI i) → K 0 S1) → w102 (b).toInt64 (0 : Int64) (((S1.1 68 s) - (1 : Int32))).toInt64 S1 K := by
        intro K S1 ez k1 k0
        rw [ez]
        cases z with
        | zero =>
          refine w102_g 0 (-1) (fun q1 q2 => ?_) (fun _ => k0 (fun i hi => absurd hi (Nat.not_lt_zero i)))
          exact absurd (Int32.le_trans q1 q2) (by decide)
        | succ z =>
          rw [nI_pred]
          exact w102_n (by omega) rfl k1 k0
      rcases wi_d b (n := z) (by omega) with ⟨i, hi, rfl, hw2⟩ | ⟨hw2, hne2⟩
      · rw [hw2]
        refine ⟨fun _ => w25_ok ht (by omega) e1 ?_, fun c => absurd (by decide) c⟩
        have a1 : ag (SX s) S (ri_wr S (39 + 2 * s) (upd (S.1 (39 + 2 * s)) i (nrw t g))) := ag_wr (ag_refl _ _) SX_1
        have o : ∀ c, c ∈ [66, 67, 68, 69] → (ri_wr S (39 + 2 * s) (upd (S.1 (39 + 2 * s)) i (nrw t g))).1 c = S.1 c := fun c hc => (a1 c (nin hs (by decide) c hc)).1
        refine w199_ok (fun _ _ _ => ⟨fun _ => ?_, fun c => absurd (by decide) c⟩) (fun hh => absurd rfl (hh s hs))
        rw [nI_clamp (n := s) (by omega), o 66 (by decide), e3]
        refine ⟨vp_in_nI hs (by decide), fun _ => ⟨vp_in_nI hs (by decide), bnd (by rw [o 68 (by decide)]; exact e5) (fun _ _ _ => ⟨fun _ => ?_, fun c => absurd (by decide) c⟩) (fun hh => absurd rfl (hh i hi))⟩, fun c => absurd (by decide) c⟩
        unfold w201_b83
        rw [o 67 (by decide), e4, x40, nI_clamp (n := 40 * s + i) (by omega)]
        have fin : ∀ v : Int32, v = nrw t g → vp_in (nI (40 * s + i)) 160 ∧ Q 1 1 (ri_wi (ri_wr S (39 + 2 * s) (upd (S.1 (39 + 2 * s)) i (nrw t g))) 69 (40 * s + i) v) := by
          intro v ev
          subst ev
          refine ⟨vp_in_nI (by omega) (by decide), ?_⟩
          have a2 : am [69] [] (ri_wr S (39 + 2 * s) (upd (S.1 (39 + 2 * s)) i (nrw t g))) (ri_wi (ri_wr S (39 + 2 * s) (upd (S.1 (39 + 2 * s)) i (nrw t g))) 69 (40 * s + i) (nrw t g)) := am_wi (am_refl _ _ _) (by decide) (by decide)
          have k38 := (a2.1 (38 + 2 * s) (by simp; omega) (by omega)).1
          have k39 := (a2.1 (39 + 2 * s) (by simp; omega) (by omega)).1
          refine hQ _ _ ⟨T, τ, R_sh hs h a1 (am_mo a2 (by decide) (by decide)) (gm_am a2 (by decide) (by decide) (by decide) (by decide) (by decide) (by decide)) ?_⟩
          refine rS_1 hs h.2.2.2.2 a1 (fun _ _ => by rw [(a2.1 66 (by decide) (by decide)).1]) (fun _ _ => by rw [(a2.1 67 (by decide) (by decide)).1]) (fun _ _ => by rw [(a2.1 68 (by decide) (by decide)).1]) (fun j hj => ?_) (fun c hc1 hc2 => (a2.1 c (by simp; omega) (by omega)).1) (Or.inr ⟨t, z, ht, hz, ?_, ?_, ?_, ?_, ?_, fun j hj => ?_⟩)
          · rw [ri_wi_1, pk_un (by omega)]
          · rw [k38, ri_wr_o _ _ (by omega)]
            exact e1
          · rw [k38, ri_wr_o _ _ (by omega)]
            exact e2
          · rw [(a2.1 66 (by decide) (by decide)).1, o 66 (by decide)]
            exact e3
          · rw [(a2.1 67 (by decide) (by decide)).1, o 67 (by decide)]
            exact e4
          · rw [(a2.1 68 (by decide) (by decide)).1, o 68 (by decide)]
            exact e5
          · rw [k39, ri_wr_1, ri_wi_1]
            by_cases e : j = i
            · rw [e, pk_us, pk_us]
            · rw [pk_un e, pk_un (by omega), o 69 (by decide)]
              exact e6 j hj
        unfold nrw at fin
        refine ⟨vp_in_nI hs (by decide), fun c => ⟨vp_in_nI hs (by decide), fun c2 => fin _ ?_, fun c2 => fin _ ?_⟩, fun c => fin _ ?_⟩
        · rw [if_neg (fun e => c (by rw [e]; rfl)), if_neg (fun e => c2 (by rw [e]; rfl))]
        · rw [if_neg (fun e => c (by rw [e]; rfl)), if_pos (nI_inj (b := 1) (by omega) (by decide) (Decidable.not_not.mp c2))]
        · rw [if_pos (nI_inj (b := 0) (by omega) (by decide) (Decidable.not_not.mp c))]
      · rw [hw2]
        refine ⟨fun c => absurd rfl c, fun _ => ?_⟩
        refine w199_ok (fun _ _ _ => ⟨fun _ => ?_, fun c => absurd (by decide) c⟩) (fun hh => absurd rfl (hh s hs))
        rw [nI_clamp (n := s) (by omega), e3]
        exact ⟨vp_in_nI hs (by decide), fun _ => ⟨vp_in_nI hs (by decide), bnd e5 (fun i hi e => absurd e (hne2 i hi)) (fun _ => ⟨fun c => absurd rfl c, fun _ => hQ _ _ h0⟩)⟩, fun c => absurd (by decide) c⟩
  · exact pick0 (P := c72 b g S (fun r S1 => w201 a b g S1 (fun r2 S2 => Q r r2 S2))) hne (w199_ok (fun j hj e => absurd e (hne j hj)) (fun _ => ⟨fun c => absurd rfl c, fun _ => hQ _ _ h0⟩))
end SHEET
