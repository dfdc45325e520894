/-! tells -/
section TELLS
variable {a b g : Int32} {S : ri_H} {T : Nat} {τ : Int32 → Int32 → List Int32}
def FF (τ : Int32 → Int32 → List Int32) (f : Nat → Int32) (p z : Nat) (g : Nat → Nat → Int32) (o j : Nat) (lo : Int32) : Nat → Int32 := fun k => fo τ (sup g o j (nI k + lo)) f (nI p) z 0
def p_tells (τ : Int32 → Int32 → List Int32) (g : Nat → Nat → Int32) (f : Nat → Int32) (p z L T w : Nat) : Int32 :=
  if w = 0 then fo τ g f (nI p) z 0
  else if w = 1 then bA (FF τ f p z g 3 p 0) 6
  else if w = 2 then bA (FF τ f p z g 4 p 0) 10
  else if w = 3 then bA (FF τ f p z g 5 p 0) 12
  else if w = 4 then nI (cA (FF τ f p z g 6 p (-99)) 199)
  else if w = 5 then lf (FF τ f p z g 6 p (-99)) (-99) 199 0
  else if w = 6 then bA (FF τ f p z g 0 11 0) T
  else bA (fun j => fo τ g f (nI j) z 0) L
section PT
variable {g : Nat → Nat → Int32} {f : Nat → Int32} {p z L : Nat}
theorem pt_1 : p_tells τ g f p z L T 1 = bA (FF τ f p z g 3 p 0) 6 := by
  unfold p_tells
  rw [if_neg (by decide), if_pos rfl]
theorem pt_2 : p_tells τ g f p z L T 2 = bA (FF τ f p z g 4 p 0) 10 := by
  unfold p_tells
  rw [if_neg (by decide), if_neg (by decide), if_pos rfl]
theorem pt_3 : p_tells τ g f p z L T 3 = bA (FF τ f p z g 5 p 0) 12 := by
  unfold p_tells
  rw [if_neg (by decide), if_neg (by decide), if_neg (by decide), if_pos rfl]
theorem pt_4 : p_tells τ g f p z L T 4 = nI (cA (FF τ f p z g 6 p (-99)) 199) := by
  unfold p_tells
  rw [if_neg (by decide), if_neg (by decide), if_neg (by decide), if_neg (by decide), if_pos rfl]
theorem pt_5 : p_tells τ g f p z L T 5 = lf (FF τ f p z g 6 p (-99)) (-99) 199 0 := by
  unfold p_tells
  rw [if_neg (by decide), if_neg (by decide), if_neg (by decide), if_neg (by decide), if_neg (by decide), if_pos rfl]
theorem pt_6 : p_tells τ g f p z L T 6 = bA (FF τ f p z g 0 11 0) T := by
  unfold p_tells
  rw [if_neg (by decide), if_neg (by decide), if_neg (by decide), if_neg (by decide), if_neg (by decide), if_neg (by decide), if_pos rfl]
theorem pt_7 : p_tells τ g f p z L T 7 = bA (fun j => fo τ g f (nI j) z 0) L := by
  unfold p_tells
  rw [if_neg (by decide), if_neg (by decide), if_neg (by decide), if_neg (by decide), if_neg (by decide), if_neg (by decide), if_neg (by decide)]
theorem pm_4 (F : Nat → Int32) : p_md F (nI 4) = nI (cA F 199) := by
  unfold p_md
  rw [if_pos (by decide)]
theorem pm_5 (F : Nat → Int32) : p_md F (nI 5) = lf F (-99) 199 0 := by
  unfold p_md
  rw [if_neg (by decide)]
end PT
/-- what may be supposed -/
theorem gwd_sup {G : Nat → Nat → Int32} {o j N : Nat} {lo : Int32} (hg : gwd T G) (h : (o = 3 ∧ N = 6 ∧ lo = 0) ∨ (o = 4 ∧ N = 10 ∧ lo = 0) ∨ (o = 5 ∧ N = 12 ∧ lo = 0) ∨ (o = 6 ∧ N = 199 ∧ lo = -99) ∨ (o = 0 ∧ j = 11 ∧ N = T ∧ lo = 0)) : ∀ k, k < N → gwd T (sup G o j (nI k + lo)) := by
  intro k hk
  rcases h with ⟨rfl, rfl, rfl⟩ | ⟨rfl, rfl, rfl⟩ | ⟨rfl, rfl, rfl⟩ | ⟨rfl, rfl, rfl⟩ | ⟨rfl, rfl, rfl, rfl⟩
  · rw [Int32.add_zero]
    exact gwd_3 hg hk
  · rw [Int32.add_zero]
    exact gwd_4 hg hk
  · rw [Int32.add_zero]
    exact gwd_5 hg hk
  · refine gwd_6 hg ?_
    rw [md_int (by omega)]
    omega
  · rw [Int32.add_zero]
    exact gwd_r hg hk
section CL
variable {s p z : Nat}
theorem w92_sup {K : Int32 → ri_H → Prop} {w o j : Nat} {v : Int32} {S1 : ri_H} (hs : s < 4) (hp : p < 5) (h : R T τ S) (hz : z ≤ 40) (e2 : S.1 (38 + 2 * s) 2 = nI z) (hw : SP w o j p) (hv : gwd T (sup (gm S) o j v)) (a1 : ag CX S S1) (hK : ∀ S', ag CX S S' → K (fo τ (sup (gm S) o j v) (fun i => S.1 (39 + 2 * s) i) (nI p) z 0) S') : w92 (38 + 2 * s) (nI p) (nI w) v S1 K := by
  have n38 : S1.1 (38 + 2 * s) = S.1 (38 + 2 * s) := (a1 _ (by simp [CX]; omega)).1
  have n39 : S1.1 (39 + 2 * s) = S.1 (39 + 2 * s) := (a1 _ (by simp [CX]; omega)).1
  refine w92_ok (T := T) (τ := τ) (who := nI p) (g' := sup (gm S) o j v) hs (R_c h a1) hz (by rw [n38]; exact e2) hv (fun S2 K2 g2 hK2 => w93_s hw hp (fun S3 a3 g3 => hK2 S3 a3 (by rw [g3, g2, c_gm a1]))) (fun S' a' => ?_)
  rw [n39]
  exact hK S' (ag_tr a1 a')
theorem bits_c {Q : Int32 → ri_H → Prop} {w o j N : Nat} (hs : s < 4) (hp : p < 5) (h : R T τ S) (hz : z ≤ 40) (e2 : S.1 (38 + 2 * s) 2 = nI z) (hw : SP w o j p) (hN : N < 2 ^ 31) (hv : ∀ k, k < N → gwd T (sup (gm S) o j (nI k + 0))) (hQ : ∀ S', ag CX S S' → Q (bA (FF τ (fun i => S.1 (39 + 2 * s) i) p z (gm S) o j 0) N) S') : w90 (38 + 2 * s) (nI p) (nI w) (nI N) S Q := by
  unfold w90
  refine ⟨N + 1, l6b_ok (F := FF τ (fun i => S.1 (39 + 2 * s) i) p z (gm S) o j 0) hN (fun k hk S1 K a1 hK => ?_) hQ N 0 S (by omega) (ag_refl _ _)⟩
  have hv := hv k hk
  have hK : ∀ S', ag CX S S' → K (fo τ (sup (gm S) o j (nI k + 0)) (fun i => S.1 (39 + 2 * s) i) (nI p) z 0) S' := hK
  rw [Int32.add_zero] at hv hK
  exact w92_sup hs hp h hz e2 hw hv a1 hK
def cw64 (b g : Int32) (S : ri_H) (Q : Int32 → ri_H → Prop) (k : Nat) : Prop := (((g < (0 : Int32) ∨ (6 : Int32) < g) → w90 k b g (S.1 10 9) S Q) ∧ (g = (0 : Int32) → w92 k b g (0 : Int32) S Q) ∧ (g = (1 : Int32) → w90 k b g (6 : Int32) S Q) ∧ (g = (2 : Int32) → w90 k b g (10 : Int32) S Q) ∧ (g = (3 : Int32) → w90 k b g (12 : Int32) S Q) ∧ (g = (4 : Int32) → w91 k b g S Q) ∧ (g = (5 : Int32) → w91 k b g S Q) ∧ (g = (6 : Int32) → w90 k b g (S.1 1 3) S Q))
theorem mood_c {Q : Int32 → ri_H → Prop} {w : Nat} (hs : s < 4) (hp : p < 5) (h : R T τ S) (hz : z ≤ 40) (e2 : S.1 (38 + 2 * s) 2 = nI z) (hw : SP w 6 p p) (hQ : ∀ S', ag CX S S' → Q (p_md (FF τ (fun i => S.1 (39 + 2 * s) i) p z (gm S) 6 p (-99)) (nI w)) S') : w91 (38 + 2 * s) (nI p) (nI w) S Q := by
  obtain ⟨r, hr, er⟩ := h.1.2.2.2
  have hT := h.2.1.2.1
  have er2 : S.1 10 11 = nI r := by rw [gw_0 S 10 11 (by decide), R_w h]; exact er
  refine w91_ok (F := FF τ (fun i => S.1 (39 + 2 * s) i) p z (gm S) 6 p (-99)) (r := r) (by omega) (h.2.1.2.2.2.2 r hr).1 er2 (fun k hk S1 K a1 hK => ?_) (fun n0 n1 => ?_) hQ
  · exact w92_sup hs hp h hz e2 hw (gwd_sup (o := 6) (N := 199) h.1.2 (Or.inr (Or.inr (Or.inr (Or.inl ⟨rfl, rfl, rfl⟩)))) k hk) a1 hK
  · have e0 : ∀ v, sup (gm S) 6 p v 0 11 = nI r := fun v => er
    have al : ∀ i j, (nI i + -99 < 0 ↔ nI j + -99 < 0) → FF τ (fun i => S.1 (39 + 2 * s) i) p z (gm S) 6 p (-99) i = FF τ (fun i => S.1 (39 + 2 * s) i) p z (gm S) 6 p (-99) j := fun i j hij =>
      fo_lm (sup_lm (gm S) hij) (by rw [e0]; exact n0) (by rw [e0]; exact n1) z 0
    have ng : ∀ i, i < 99 → nI i + -99 < 0 := fun i hi => by
      rw [Int32.lt_iff_toInt_lt, md_int (by omega), show (0 : Int32).toInt = 0 from rfl]
      omega
    have nn : ∀ i, 99 ≤ i → i < 199 → ¬ nI i + -99 < 0 := fun i h1 h2 => by
      rw [Int32.lt_iff_toInt_lt, md_int (by omega), show (0 : Int32).toInt = 0 from rfl]
      omega
    exact ⟨fun j hj => al j 0 ⟨fun _ => ng 0 (by decide), fun _ => ng j hj⟩, fun j h1 h2 => al j 99 ⟨fun c => absurd c (nn j h1 h2), fun c => absurd c (nn 99 (by decide) (by decide))⟩⟩
theorem c_tells {Q : Int32 → ri_H → Prop} {w L : Nat} (hs : s < 4) (hL : L ≤ 5) (l1 : S.1 10 9 = nI L) (hp : p < L) (h : R T τ S) (hz : z ≤ 40) (e2 : S.1 (38 + 2 * s) 2 = nI z) (hw : w < 8) (hQ : ∀ S', ag CX S S' → Q (p_tells τ (gm S) (fun i => S.1 (39 + 2 * s) i) p z L T w) S') : cw64 (nI p) (nI w) S Q (38 + 2 * s) := by
  have hp5 : p < 5 := by omega
  have hT := h.2.1.2.1
  unfold cw64
  match w, hw with
  | 0, _ =>
    refine ⟨fun c => absurd c (by decide), fun _ => ?_, fun c => absurd c (by decide), fun c => absurd c (by decide), fun c => absurd c (by decide), fun c => absurd c (by decide), fun c => absurd c (by decide), fun c => absurd c (by decide)⟩
    exact w92_ok (T := T) (τ := τ) (who := nI p) (g' := gm S) hs h hz e2 h.1.2 (fun S2 K2 g2 hK2 => w93_0 (hK2 S2 (ag_refl _ _) g2)) hQ
  | 1, _ =>
    refine ⟨fun c => absurd c (by decide), fun c => absurd c (by decide), fun _ => ?_, fun c => absurd c (by decide), fun c => absurd c (by decide), fun c => absurd c (by decide), fun c => absurd c (by decide), fun c => absurd c (by decide)⟩
    exact bits_c (N := 6) hs hp5 h hz e2 (Or.inl ⟨rfl, rfl, rfl⟩) (by decide) (gwd_sup h.1.2 (Or.inl ⟨rfl, rfl, rfl⟩)) (fun S' a' => by rw [← pt_1 (T := T) (L := L)]; exact hQ S' a')
  | 2, _ =>
    refine ⟨fun c => absurd c (by decide), fun c => absurd c (by decide), fun c => absurd c (by decide), fun _ => ?_, fun c => absurd c (by decide), fun c => absurd c (by decide), fun c => absurd c (by decide), fun c => absurd c (by decide)⟩
    exact bits_c (N := 10) hs hp5 h hz e2 (Or.inr (Or.inl ⟨rfl, rfl, rfl⟩)) (by decide) (gwd_sup h.1.2 (Or.inr (Or.inl ⟨rfl, rfl, rfl⟩))) (fun S' a' => by rw [← pt_2 (T := T) (L := L)]; exact hQ S' a')
  | 3, _ =>
    refine ⟨fun c => absurd c (by decide), fun c => absurd c (by decide), fun c => absurd c (by decide), fun c => absurd c (by decide), fun _ => ?_, fun c => absurd c (by decide), fun c => absurd c (by decide), fun c => absurd c (by decide)⟩
    exact bits_c (N := 12) hs hp5 h hz e2 (Or.inr (Or.inr (Or.inl ⟨rfl, rfl, rfl⟩))) (by decide) (gwd_sup h.1.2 (Or.inr (Or.inr (Or.inl ⟨rfl, rfl, rfl⟩)))) (fun S' a' => by rw [← pt_3 (T := T) (L := L)]; exact hQ S' a')
  | 4, _ =>
    refine ⟨fun c => absurd c (by decide), fun c => absurd c (by decide), fun c => absurd c (by decide), fun c => absurd c (by decide), fun c => absurd c (by decide), fun _ => ?_, fun c => absurd c (by decide), fun c => absurd c (by decide)⟩
    exact mood_c hs hp5 h hz e2 (Or.inr (Or.inr (Or.inr (Or.inl ⟨rfl, rfl, rfl⟩)))) (fun S' a' => by rw [pm_4, ← pt_4 (T := T) (L := L)]; exact hQ S' a')
  | 5, _ =>
    refine ⟨fun c => absurd c (by decide), fun c => absurd c (by decide), fun c => absurd c (by decide), fun c => absurd c (by decide), fun c => absurd c (by decide), fun c => absurd c (by decide), fun _ => ?_, fun c => absurd c (by decide)⟩
    exact mood_c hs hp5 h hz e2 (Or.inr (Or.inr (Or.inr (Or.inr (Or.inl ⟨rfl, rfl, rfl⟩))))) (fun S' a' => by rw [pm_5, ← pt_5 (T := T) (L := L)]; exact hQ S' a')
  | 6, _ =>
    refine ⟨fun c => absurd c (by decide), fun c => absurd c (by decide), fun c => absurd c (by decide), fun c => absurd c (by decide), fun c => absurd c (by decide), fun c => absurd c (by decide), fun c => absurd c (by decide), fun _ => ?_⟩
    rw [h.2.1.2.2.1]
    exact bits_c (N := T) hs hp5 h hz e2 (Or.inr (Or.inr (Or.inr (Or.inr (Or.inr ⟨rfl, rfl, rfl⟩))))) (by omega) (gwd_sup h.1.2 (Or.inr (Or.inr (Or.inr (Or.inr ⟨rfl, rfl, rfl, rfl⟩))))) (fun S' a' => by rw [← pt_6 (L := L)]; exact hQ S' a')
  | 7, _ =>
    refine ⟨fun _ => ?_, fun c => absurd c (by decide), fun c => absurd c (by decide), fun c => absurd c (by decide), fun c => absurd c (by decide), fun c => absurd c (by decide), fun c => absurd c (by decide), fun c => absurd c (by decide)⟩
    rw [l1]
    unfold w90
    refine ⟨L + 1, l6b_ok (F := fun j => fo τ (gm S) (fun i => S.1 (39 + 2 * s) i) (nI j) z 0) (by omega) (fun k hk S1 K a1 hK => ?_) (fun S' a' => by rw [← pt_7 (T := T) (p := p)]; exact hQ S' a') L 0 S (by omega) (ag_refl _ _)⟩
    have n38 : S1.1 (38 + 2 * s) = S.1 (38 + 2 * s) := (a1 _ (by simp [CX]; omega)).1
    have n39 : S1.1 (39 + 2 * s) = S.1 (39 + 2 * s) := (a1 _ (by simp [CX]; omega)).1
    refine w92_ok (T := T) (τ := τ) (who := nI k) (g' := gm S) hs (R_c h a1) hz (by rw [n38]; exact e2) h.1.2 (fun S2 K2 g2 hK2 => w93_7 (hK2 S2 (ag_refl _ _) (by rw [g2, c_gm a1]))) (fun S' a' => ?_)
    rw [n39]
    exact hK S' (ag_tr a1 a')
  | w + 8, hw => exact absurd hw (by omega)
end CL
end TELLS
