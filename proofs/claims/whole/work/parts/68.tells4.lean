/-! tells -/
section TELLS
variable {a b g : Int32} {S : ri_H} {T : Nat} {τ : Int32 → Int32 → List Int32}
def FF (τ : Int32 → Int32 → List Int32) (f : Nat → Int32) (p z : Nat) (g : Nat → Nat → Int32) (o j : Nat) (lo : Int32) : Nat → Int32 := fun k => fo τ (sup g o j (nI k + lo)) f (nI p) z 0
def p_tells (τ : Int32 → Int32 → List Int32) (g : Nat → Nat → Int32) (f : Nat → Int32) (p z L T w : Nat) : Int32 :=
  if w = 0 then fo τ g f (nI p) z 0
  else if w = 1 then bA (FF τ f p z g 3 p 0) 6
  else if w = 2 then bA (FF τ f p z g 4 p 0) 10
  else if w = 3 then bA (FF τ f p z g 5 p 0) 12
  else if w = 4 then nI (cA (FF τ f p z g 6 p (-99)) 199)
  else if w = 5 then lf (FF τ f p z g 6 p (-99)) (-99) 199 0
  else if w = 6 then bA (FF τ f p z g 0 11 0) T
  else bA (fun j => fo τ g f (nI j) z 0) L
section PT
variable {g : Nat → Nat → Int32} {f : Nat → Int32} {p z L : Nat}
theorem pt_1 : p_tells τ g f p z L T 1 = bA (FF τ f p z g 3 p 0) 6 := by
  unfold p_tells
  rw [if_neg (by decide), if_pos rfl]
theorem pt_2 : p_tells τ g f p z L T 2 = bA (FF τ f p z g 4 p 0) 10 := by
  unfold p_tells
  rw [if_neg (by decide), if_neg (by decide), if_pos rfl]
theorem pt_3 : p_tells τ g f p z L T 3 = bA (FF τ f p z g 5 p 0) 12 := by
  unfold p_tells
  rw [if_neg (by decide), if_neg (by decide), if_neg (by decide), if_pos rfl]
theorem pt_4 : p_tells τ g f p z L T 4 = nI (cA (FF τ f p z g 6 p (-99)) 199) := by
  unfold p_tells
  rw [if_neg (by decide), if_neg (by decide), if_neg (by decide), if_neg (by decide), if_pos rfl]
theorem pt_5 : p_tells τ g f p z L T 5 = lf (FF τ f p z g 6 p (-99)) (-99) 199 0 := by
  unfold p_tells
  rw [if_neg (by decide), if_neg (by decide), if_neg (by decide), if_neg (by decide), if_neg (by decide), if_pos rfl]
theorem pt_6 : p_tells τ g f p z L T 6 = bA (FF τ f p z g 0 11 0) T := by
  unfold p_tells
  rw [if_neg (by decide), if_neg (by decide), if_neg (by decide), if_neg (by decide), if_neg (by decide), if_neg (by decide), if_pos rfl]
theorem pt_7 : p_tells τ g f p z L T 7 = bA (fun j => fo τ g f (nI j) z 0) L := by
  unfold p_tells
  rw [if_neg (by decide), if_neg (by decide), if_neg (by decide), if_neg (by decide), if_neg (by decide), if_neg (by decide), if_neg (by decide)]
theorem pm_4 (F : Nat → Int32) : p_md F (nI 4) = nI (cA F 199) := by
  unfold p_md
  rw [if_pos (by decide)]
theorem pm_5 (F : Nat → Int32) : p_md F (nI 5) = lf F (-99) 199 0 := by
  unfold p_md
  rw [if_neg (by decide)]
theorem pa_4 (F : Nat → Int32) (lo : Int32) (N : Nat) : p_an F lo N (nI 4) = nI (cA F N) := by
  unfold p_an
  rw [if_pos (by decide)]
theorem pa_5 (F : Nat → Int32) (lo : Int32) (N : Nat) : p_an F lo N (nI 5) = lf F lo N 0 := by
  unfold p_an
  rw [if_neg (by decide), if_pos (by decide)]
theorem pa_b (F : Nat → Int32) (lo : Int32) (N : Nat) {x : Int32} (h4 : ¬ x = 4) (h5 : ¬ x = 5) : p_an F lo N x = bA F N := by
  unfold p_an
  rw [if_neg h4, if_neg h5]
end PT
theorem p_tells_f {g : Nat → Nat → Int32} {f f' : Nat → Int32} {p z L T w : Nat} (h : ∀ j, j < z → f j = f' j) : p_tells τ g f p z L T w = p_tells τ g f' p z L T w := by
  have e : ∀ g who, fo τ g f who z 0 = fo τ g f' who z 0 := fun g who => fo_f z 0 (fun j hj => h j (by omega))
  have e2 : ∀ g o j lo, FF τ f p z g o j lo = FF τ f' p z g o j lo := fun g o j lo => by
    funext k
    exact e _ _
  have e3 : (fun j => fo τ g f (nI j) z 0) = fun j => fo τ g f' (nI j) z 0 := by
    funext j
    exact e _ _
  unfold p_tells
  rw [e, e2, e2, e2, e2, e2, e3]
/-- what may be supposed -/
theorem gwd_sup {G : Nat → Nat → Int32} {o j N : Nat} {lo : Int32} (hg : gwd T G) (h : (o = 3 ∧ N = 6 ∧ lo = 0) ∨ (o = 4 ∧ N = 10 ∧ lo = 0) ∨ (o = 5 ∧ N = 12 ∧ lo = 0) ∨ (o = 6 ∧ N = 199 ∧ lo = -99) ∨ (o = 0 ∧ j = 11 ∧ N = T ∧ lo = 0)) : ∀ k, k < N → gwd T (sup G o j (nI k + lo)) := by
  intro k hk
  rcases h with ⟨rfl, rfl, rfl⟩ | ⟨rfl, rfl, rfl⟩ | ⟨rfl, rfl, rfl⟩ | ⟨rfl, rfl, rfl⟩ | ⟨rfl, rfl, rfl, rfl⟩
  · rw [Int32.add_zero]
    exact gwd_3 hg hk
  · rw [Int32.add_zero]
    exact gwd_4 hg hk
  · rw [Int32.add_zero]
    exact gwd_5 hg hk
  · refine gwd_6 hg ?_
    rw [md_int (by omega)]
    omega
  · rw [Int32.add_zero]
    exact gwd_r hg hk
section CL
variable {s p z : Nat}
theorem w92_sup {K : Int32 → ri_H → Prop} {w o j : Nat} {v : Int32} {S1 : ri_H} (hs : s < 4) (hp : p < 5) (h : R T τ S) (hz : z ≤ 40) (e2 : S.1 (38 + 2 * s) 2 = nI z) (hw : SP w o j p) (hv : gwd T (sup (gm S) o j v)) (a1 : ag CX S S1) (hK : ∀ S', ag CX S S' → K (fo τ (sup (gm S) o j v) (fun i => S.1 (39 + 2 * s) i) (nI p) z 0) S') : w92 (38 + 2 * s) (nI p) (nI w) v S1 K := by
  have n38 : S1.1 (38 + 2 * s) = S.1 (38 + 2 * s) := (a1 _ (by simp [CX]; omega)).1
  have n39 : S1.1 (39 + 2 * s) = S.1 (39 + 2 * s) := (a1 _ (by simp [CX]; omega)).1
  refine w92_ok (T := T) (τ := τ) (who := nI p) (g' := sup (gm S) o j v) hs (R_c h a1) hz (by rw [n38]; exact e2) hv (fun S2 K2 g2 hK2 => w93_s hw hp (fun S3 a3 g3 => hK2 S3 a3 (by rw [g3, g2, c_gm a1]))) (fun S' a' => ?_)
  rw [n39]
  exact hK S' (ag_tr a1 a')
theorem bits_c {Q : Int32 → ri_H → Prop} {w o j N : Nat} (hs : s < 4) (hp : p < 5) (h : R T τ S) (hz : z ≤ 40) (e2 : S.1 (38 + 2 * s) 2 = nI z) (hw : SP w o j p) (hN : N < 2 ^ 31) (hv : ∀ k, k < N → gwd T (sup (gm S) o j (nI k + 0))) (hQ : ∀ S', ag CX S S' → Q (bA (FF τ (fun i => S.1 (39 + 2 * s) i) p z (gm S) o j 0) N) S') : w90 (38 + 2 * s) (nI p) (nI w) (nI N) S Q := by
  unfold w90
  refine ⟨N + 1, l6b_ok (F := FF τ (fun i => S.1 (39 + 2 * s) i) p z (gm S) o j 0) hN (fun k hk S1 K a1 hK => ?_) hQ N 0 S (by omega) (ag_refl _ _)⟩
  have hv := hv k hk
  have hK : ∀ S', ag CX S S' → K (fo τ (sup (gm S) o j (nI k + 0)) (fun i => S.1 (39 + 2 * s) i) (nI p) z 0) S' := hK
  rw [Int32.add_zero] at hv hK
  exact w92_sup hs hp h hz e2 hw hv a1 hK
def cw64 (b g : Int32) (S : ri_H) (Q : Int32 → ri_H → Prop) (k : Nat) : Prop := (((g < (0 : Int32) ∨ (6 : Int32) < g) → w90 k b g (S.1 10 9) S Q) ∧ (g = (0 : Int32) → w92 k b g (0 : Int32) S Q) ∧ (g = (1 : Int32) → w90 k b g (6 : Int32) S Q) ∧ (g = (2 : Int32) → w90 k b g (10 : Int32) S Q) ∧ (g = (3 : Int32) → w90 k b g (12 : Int32) S Q) ∧ (g = (4 : Int32) → w91 k b g S Q) ∧ (g = (5 : Int32) → w91 k b g S Q) ∧ (g = (6 : Int32) → w90 k b g (S.1 1 3) S Q))
theorem mood_c {Q : Int32 → ri_H → Prop} {w : Nat} (hs : s < 4) (hp : p < 5) (h : R T τ S) (hz : z ≤ 40) (e2 : S.1 (38 + 2 * s) 2 = nI z) (hw : SP w 6 p p) (hQ : ∀ S', ag CX S S' → Q (p_md (FF τ (fun i => S.1 (39 + 2 * s) i) p z (gm S) 6 p (-99)) (nI w)) S') : w91 (38 + 2 * s) (nI p) (nI w) S Q := by
  obtain ⟨r, hr, er⟩ := h.1.2.2.2
  have hT := h.2.1.2.1
  have er2 : S.1 10 11 = nI r := by rw [gw_0 S 10 11 (by decide), R_w h]; exact er
  refine w91_ok (F := FF τ (fun i => S.1 (39 + 2 * s) i) p z (gm S) 6 p (-99)) (r := r) (by omega) (h.2.1.2.2.2.2 r hr).1 er2 (fun k hk S1 K a1 hK => ?_) (fun n0 n1 => ?_) hQ
  · exact w92_sup hs hp h hz e2 hw (gwd_sup (o := 6) (N := 199) h.1.2 (Or.inr (Or.inr (Or.inr (Or.inl ⟨rfl, rfl, rfl⟩)))) k hk) a1 hK
  · have e0 : ∀ v, sup (gm S) 6 p v 0 11 = nI r := fun v => er
    have al : ∀ i j, (nI i + -99 < 0 ↔ nI j + -99 < 0) → FF τ (fun i => S.1 (39 + 2 * s) i) p z (gm S) 6 p (-99) i = FF τ (fun i => S.1 (39 + 2 * s) i) p z (gm S) 6 p (-99) j := fun i j hij =>
      fo_lm (sup_lm (gm S) hij) (by rw [e0]; exact n0) (by rw [e0]; exact n1) z 0
    have ng : ∀ i, i < 99 → nI i + -99 < 0 := fun i hi => by
      rw [Int32.lt_iff_toInt_lt, md_int (by omega), show (0 : Int32).toInt = 0 from rfl]
      omega
    have nn : ∀ i, 99 ≤ i → i < 199 → ¬ nI i + -99 < 0 := fun i h1 h2 => by
      rw [Int32.lt_iff_toInt_lt, md_int (by omega), show (0 : Int32).toInt = 0 from rfl]
      omega
    exact ⟨fun j hj => al j 0 ⟨fun _ => ng 0 (by decide), fun _ => ng j hj⟩, fun j h1 h2 => al j 99 ⟨fun c => absurd c (nn j h1 h2), fun c => absurd c (nn 99 (by decide) (by decide))⟩⟩
theorem c_tells {Q : Int32 → ri_H → Prop} {w L : Nat} (hs : s < 4) (hL : L ≤ 5) (l1 : S.1 10 9 = nI L) (hp : p < L) (h : R T τ S) (hz : z ≤ 40) (e2 : S.1 (38 + 2 * s) 2 = nI z) (hw : w < 8) (hQ : ∀ S', ag CX S S' → Q (p_tells τ (gm S) (fun i => S.1 (39 + 2 * s) i) p z L T w) S') : cw64 (nI p) (nI w) S Q (38 + 2 * s) := by
  have hp5 : p < 5 := by omega
  have hT := h.2.1.2.1
  unfold cw64
  match w, hw with
  | 0, _ =>
    refine ⟨fun c => absurd c (by decide), fun _ => ?_, fun c => absurd c (by decide), fun c => absurd c (by decide), fun c => absurd c (by decide), fun c => absurd c (by decide), fun c => absurd c (by decide), fun c => absurd c (by decide)⟩
    exact w92_ok (T := T) (τ := τ) (who := nI p) (g' := gm S) hs h hz e2 h.1.2 (fun S2 K2 g2 hK2 => w93_0 (hK2 S2 (ag_refl _ _) g2)) hQ
  | 1, _ =>
    refine ⟨fun c => absurd c (by decide), fun c => absurd c (by decide), fun _ => ?_, fun c => absurd c (by decide), fun c => absurd c (by decide), fun c => absurd c (by decide), fun c => absurd c (by decide), fun c => absurd c (by decide)⟩
    exact bits_c (N := 6) hs hp5 h hz e2 (Or.inl ⟨rfl, rfl, rfl⟩) (by decide) (gwd_sup h.1.2 (Or.inl ⟨rfl, rfl, rfl⟩)) (fun S' a' => by rw [← pt_1 (T := T) (L := L)]; exact hQ S' a')
  | 2, _ =>
    refine ⟨fun c => absurd c (by decide), fun c => absurd c (by decide), fun c => absurd c (by decide), fun _ => ?_, fun c => absurd c (by decide), fun c => absurd c (by decide), fun c => absurd c (by decide), fun c => absurd c (by decide)⟩
    exact bits_c (N := 10) hs hp5 h hz e2 (Or.inr (Or.inl ⟨rfl, rfl, rfl⟩)) (by decide) (gwd_sup h.1.2 (Or.inr (Or.inl ⟨rfl, rfl, rfl⟩))) (fun S' a' => by rw [← pt_2 (T := T) (L := L)]; exact hQ S' a')
  | 3, _ =>
    refine ⟨fun c => absurd c (by decide), fun c => absurd c (by decide), fun c => absurd c (by decide), fun c => absurd c (by decide), fun _ => ?_, fun c => absurd c (by decide), fun c => absurd c (by decide), fun c => absurd c (by decide)⟩
    exact bits_c (N := 12) hs hp5 h hz e2 (Or.inr (Or.inr (Or.inl ⟨rfl, rfl, rfl⟩))) (by decide) (gwd_sup h.1.2 (Or.inr (Or.inr (Or.inl ⟨rfl, rfl, rfl⟩)))) (fun S' a' => by rw [← pt_3 (T := T) (L := L)]; exact hQ S' a')
  | 4, _ =>
    refine ⟨fun c => absurd c (by decide), fun c => absurd c (by decide), fun c => absurd c (by decide), fun c => absurd c (by decide), fun c => absurd c (by decide), fun _ => ?_, fun c => absurd c (by decide), fun c => absurd c (by decide)⟩
    exact mood_c hs hp5 h hz e2 (Or.inr (Or.inr (Or.inr (Or.inl ⟨rfl, rfl, rfl⟩)))) (fun S' a' => by rw [pm_4, ← pt_4 (T := T) (L := L)]; exact hQ S' a')
  | 5, _ =>
    refine ⟨fun c => absurd c (by decide), fun c => absurd c (by decide), fun c => absurd c (by decide), fun c => absurd c (by decide), fun c => absurd c (by decide), fun c => absurd c (by decide), fun _ => ?_, fun c => absurd c (by decide)⟩
    exact mood_c hs hp5 h hz e2 (Or.inr (Or.inr (Or.inr (Or.inr (Or.inl ⟨rfl, rfl, rfl⟩))))) (fun S' a' => by rw [pm_5, ← pt_5 (T := T) (L := L)]; exact hQ S' a')
  | 6, _ =>
    refine ⟨fun c => absurd c (by decide), fun c => absurd c (by decide), fun c => absurd c (by decide), fun c => absurd c (by decide), fun c => absurd c (by decide), fun c => absurd c (by decide), fun c => absurd c (by decide), fun _ => ?_⟩
    rw [h.2.1.2.2.1]
    exact bits_c (N := T) hs hp5 h hz e2 (Or.inr (Or.inr (Or.inr (Or.inr (Or.inr ⟨rfl, rfl, rfl⟩))))) (by omega) (gwd_sup h.1.2 (Or.inr (Or.inr (Or.inr (Or.inr ⟨rfl, rfl, rfl, rfl⟩))))) (fun S' a' => by rw [← pt_6 (L := L)]; exact hQ S' a')
  | 7, _ =>
    refine ⟨fun _ => ?_, fun c => absurd c (by decide), fun c => absurd c (by decide), fun c => absurd c (by decide), fun c => absurd c (by decide), fun c => absurd c (by decide), fun c => absurd c (by decide), fun c => absurd c (by decide)⟩
    rw [l1]
    unfold w90
    refine ⟨L + 1, l6b_ok (F := fun j => fo τ (gm S) (fun i => S.1 (39 + 2 * s) i) (nI j) z 0) (by omega) (fun k hk S1 K a1 hK => ?_) (fun S' a' => by rw [← pt_7 (T := T) (p := p)]; exact hQ S' a') L 0 S (by omega) (ag_refl _ _)⟩
    have n38 : S1.1 (38 + 2 * s) = S.1 (38 + 2 * s) := (a1 _ (by simp [CX]; omega)).1
    have n39 : S1.1 (39 + 2 * s) = S.1 (39 + 2 * s) := (a1 _ (by simp [CX]; omega)).1
    refine w92_ok (T := T) (τ := τ) (who := nI k) (g' := gm S) hs (R_c h a1) hz (by rw [n38]; exact e2) h.1.2 (fun S2 K2 g2 hK2 => w93_7 (hK2 S2 (ag_refl _ _) (by rw [g2, c_gm a1]))) (fun S' a' => ?_)
    rw [n39]
    exact hK S' (ag_tr a1 a')
  | w + 8, hw => exact absurd hw (by omega)
def mw191 (Q : Int32 → ri_H → Prop) (a b g : Int32) (S : ri_H) : Prop := ((g = 0 → w191_b69 Q a b g S) ∧ (¬ (g = 0) → ((¬ g = (7 : Int32) → ((¬ g = (1 : Int32) → ((¬ g = (2 : Int32) → ((¬ g = (3 : Int32) → ((¬ g = (6 : Int32) → w191_b128 Q a b g (5 : Int32) S) ∧ (¬ (¬ g = (6 : Int32)) → w191_b128 Q a b g (8 : Int32) S))) ∧ (¬ (¬ g = (3 : Int32)) → w191_b128 Q a b g (4 : Int32) S))) ∧ (¬ (¬ g = (2 : Int32)) → w191_b128 Q a b g (3 : Int32) S))) ∧ (¬ (¬ g = (1 : Int32)) → w191_b128 Q a b g (7 : Int32) S))) ∧ (¬ (¬ g = (7 : Int32)) → w191_b69 Q a b g S))))
theorem m_tells {Q : Int32 → ri_H → Prop} {w L : Nat} (hs : s < 4) (hL : L ≤ 5) (l2 : S.1 50 11 = nI L) (hp : p < L) (h : R T τ S) (hz : z ≤ 40) (e68 : S.1 68 s = nI z) (hw : w < 8) (hQ : ∀ S', am MX MF S S' → gm S' = gm S → Q (p_tells τ (gm S) (fun i => S.1 69 (40 * s + i)) p z L T w) S') : mw191 Q (nI s) (nI p) (nI w) S := by
  have hp5 : p < 5 := by omega
  have hT := h.2.1.2.1
  have hT1 := h.2.1.1
  unfold mw191 w191_b69 w191_b128 w191_b151
  have B : ∀ {fl o j N : Nat} {lo st : Int32}, MP fl o j p → ((fl = 5 ∧ lo = -99) ∨ (fl ≠ 5 ∧ lo = 0)) → N ≤ 199 → (lo = 0 → N ≤ 12) → (¬ nI w = 4 → ¬ nI w = 5 → lo = 0) → (∀ k, k < N → gwd T (sup (gm S) o j (nI k + lo))) → st = nI N + lo - 1 → p_an (FF τ (fun i => S.1 69 (40 * s + i)) p z (gm S) o j lo) lo N (nI w) = p_tells τ (gm S) (fun i => S.1 69 (40 * s + i)) p z L T w → w191_b204 Q (nI s) (nI p) (nI w) (nI fl) (gm S o j) st S := by
    intro fl o j N lo st k1 k2 k3 k4 k5 k6 k7 k8
    refine w191_b204_ok (T := T) (τ := τ) (F := FF τ (fun i => S.1 69 (40 * s + i)) p z (gm S) o j lo) hs hp5 hz h.2.1 h.1.2 e68 k1 k2 k3 k4 k5 k6 rfl k7 (fun S' a e => ?_)
    rw [k8]
    exact hQ S' a e
  match w, hw with
  | 0, _ =>
    exact ⟨fun _ => ⟨fun c => absurd rfl c, fun _ => w189_ok (τ := τ) hs hp5 hz (R_mt h) (R_ok h) e68 hQ⟩, fun c => absurd rfl c⟩
  | 1, _ =>
    refine ⟨fun c => absurd c (by decide), fun _ => ⟨fun _ => ⟨fun c => absurd rfl c, fun _ => ?_⟩, fun c => absurd (show ¬ nI 1 = (7 : Int32) by decide) c⟩⟩
    refine ⟨fun _ => m112 (fl := 7) (o := 3) (j := p) (Or.inl ⟨rfl, rfl, rfl⟩) (by decide) hL l2 hp ⟨fun _ => ⟨fun c => absurd rfl c, fun _ => ?_⟩, fun c => absurd (show ¬ (7 : Int32) = 8 by decide) c⟩, fun c => absurd (show ¬ (7 : Int32) = 8 by decide) c⟩
    exact B (fl := 7) (o := 3) (j := p) (N := 6) (lo := 0) (Or.inl ⟨rfl, rfl, rfl⟩) (Or.inr ⟨by decide, rfl⟩) (by decide) (fun _ => by decide) (fun _ _ => rfl) (gwd_sup h.1.2 (Or.inl ⟨rfl, rfl, rfl⟩)) (by decide) (by rw [pa_b _ _ _ (by decide) (by decide), pt_1])
  | 2, _ =>
    refine ⟨fun c => absurd c (by decide), fun _ => ⟨fun _ => ⟨fun _ => ⟨fun c => absurd rfl c, fun _ => ?_⟩, fun c => absurd (show ¬ nI 2 = (1 : Int32) by decide) c⟩, fun c => absurd (show ¬ nI 2 = (7 : Int32) by decide) c⟩⟩
    refine ⟨fun _ => m112 (fl := 3) (o := 4) (j := p) (Or.inr (Or.inl ⟨rfl, rfl, rfl⟩)) (by decide) hL l2 hp ⟨fun _ => ⟨fun _ => ⟨fun c => absurd rfl c, fun _ => ?_⟩, fun c => absurd (show ¬ (3 : Int32) = 7 by decide) c⟩, fun c => absurd (show ¬ (3 : Int32) = 8 by decide) c⟩, fun c => absurd (show ¬ (3 : Int32) = 8 by decide) c⟩
    exact B (fl := 3) (o := 4) (j := p) (N := 10) (lo := 0) (Or.inr (Or.inl ⟨rfl, rfl, rfl⟩)) (Or.inr ⟨by decide, rfl⟩) (by decide) (fun _ => by decide) (fun _ _ => rfl) (gwd_sup h.1.2 (Or.inr (Or.inl ⟨rfl, rfl, rfl⟩))) (by decide) (by rw [pa_b _ _ _ (by decide) (by decide), pt_2])
  | 3, _ =>
    refine ⟨fun c => absurd c (by decide), fun _ => ⟨fun _ => ⟨fun _ => ⟨fun _ => ⟨fun c => absurd rfl c, fun _ => ?_⟩, fun c => absurd (show ¬ nI 3 = (2 : Int32) by decide) c⟩, fun c => absurd (show ¬ nI 3 = (1 : Int32) by decide) c⟩, fun c => absurd (show ¬ nI 3 = (7 : Int32) by decide) c⟩⟩
    refine ⟨fun _ => m112 (fl := 4) (o := 5) (j := p) (Or.inr (Or.inr (Or.inl ⟨rfl, rfl, rfl⟩))) (by decide) hL l2 hp ⟨fun _ => ⟨fun _ => ⟨fun _ => ⟨fun c => absurd rfl c, fun _ => ?_⟩, fun c => absurd (show ¬ (4 : Int32) = 3 by decide) c⟩, fun c => absurd (show ¬ (4 : Int32) = 7 by decide) c⟩, fun c => absurd (show ¬ (4 : Int32) = 8 by decide) c⟩, fun c => absurd (show ¬ (4 : Int32) = 8 by decide) c⟩
    exact B (fl := 4) (o := 5) (j := p) (N := 12) (lo := 0) (Or.inr (Or.inr (Or.inl ⟨rfl, rfl, rfl⟩))) (Or.inr ⟨by decide, rfl⟩) (by decide) (fun _ => by decide) (fun _ _ => rfl) (gwd_sup h.1.2 (Or.inr (Or.inr (Or.inl ⟨rfl, rfl, rfl⟩)))) (by decide) (by rw [pa_b _ _ _ (by decide) (by decide), pt_3])
  | 4, _ =>
    refine ⟨fun c => absurd c (by decide), fun _ => ⟨fun _ => ⟨fun _ => ⟨fun _ => ⟨fun _ => ⟨fun _ => ?_, fun c => absurd (show ¬ nI 4 = (6 : Int32) by decide) c⟩, fun c => absurd (show ¬ nI 4 = (3 : Int32) by decide) c⟩, fun c => absurd (show ¬ nI 4 = (2 : Int32) by decide) c⟩, fun c => absurd (show ¬ nI 4 = (1 : Int32) by decide) c⟩, fun c => absurd (show ¬ nI 4 = (7 : Int32) by decide) c⟩⟩
    refine ⟨fun _ => m112 (fl := 5) (o := 6) (j := p) (Or.inr (Or.inr (Or.inr (Or.inl ⟨rfl, rfl, rfl⟩)))) (by decide) hL l2 hp ⟨fun _ => ⟨fun _ => ⟨fun _ => ⟨fun _ => ?_, fun c => absurd (show ¬ (5 : Int32) = 4 by decide) c⟩, fun c => absurd (show ¬ (5 : Int32) = 3 by decide) c⟩, fun c => absurd (show ¬ (5 : Int32) = 7 by decide) c⟩, fun c => absurd (show ¬ (5 : Int32) = 8 by decide) c⟩, fun c => absurd (show ¬ (5 : Int32) = 8 by decide) c⟩
    exact B (fl := 5) (o := 6) (j := p) (N := 199) (lo := -99) (Or.inr (Or.inr (Or.inr (Or.inl ⟨rfl, rfl, rfl⟩)))) (Or.inl ⟨rfl, rfl⟩) (by decide) (fun c => absurd c (by decide)) (fun c => absurd rfl c) (gwd_sup h.1.2 (Or.inr (Or.inr (Or.inr (Or.inl ⟨rfl, rfl, rfl⟩))))) (by decide) (by rw [pa_4, pt_4])
  | 5, _ =>
    refine ⟨fun c => absurd c (by decide), fun _ => ⟨fun _ => ⟨fun _ => ⟨fun _ => ⟨fun _ => ⟨fun _ => ?_, fun c => absurd (show ¬ nI 5 = (6 : Int32) by decide) c⟩, fun c => absurd (show ¬ nI 5 = (3 : Int32) by decide) c⟩, fun c => absurd (show ¬ nI 5 = (2 : Int32) by decide) c⟩, fun c => absurd (show ¬ nI 5 = (1 : Int32) by decide) c⟩, fun c => absurd (show ¬ nI 5 = (7 : Int32) by decide) c⟩⟩
    refine ⟨fun _ => m112 (fl := 5) (o := 6) (j := p) (Or.inr (Or.inr (Or.inr (Or.inl ⟨rfl, rfl, rfl⟩)))) (by decide) hL l2 hp ⟨fun _ => ⟨fun _ => ⟨fun _ => ⟨fun _ => ?_, fun c => absurd (show ¬ (5 : Int32) = 4 by decide) c⟩, fun c => absurd (show ¬ (5 : Int32) = 3 by decide) c⟩, fun c => absurd (show ¬ (5 : Int32) = 7 by decide) c⟩, fun c => absurd (show ¬ (5 : Int32) = 8 by decide) c⟩, fun c => absurd (show ¬ (5 : Int32) = 8 by decide) c⟩
    exact B (fl := 5) (o := 6) (j := p) (N := 199) (lo := -99) (Or.inr (Or.inr (Or.inr (Or.inl ⟨rfl, rfl, rfl⟩)))) (Or.inl ⟨rfl, rfl⟩) (by decide) (fun c => absurd c (by decide)) (fun _ c => absurd rfl c) (gwd_sup h.1.2 (Or.inr (Or.inr (Or.inr (Or.inl ⟨rfl, rfl, rfl⟩))))) (by decide) (by rw [pa_5, pt_5])
  | 6, _ =>
    refine ⟨fun c => absurd c (by decide), fun _ => ⟨fun _ => ⟨fun _ => ⟨fun _ => ⟨fun _ => ⟨fun c => absurd rfl c, fun _ => ?_⟩, fun c => absurd (show ¬ nI 6 = (3 : Int32) by decide) c⟩, fun c => absurd (show ¬ nI 6 = (2 : Int32) by decide) c⟩, fun c => absurd (show ¬ nI 6 = (1 : Int32) by decide) c⟩, fun c => absurd (show ¬ nI 6 = (7 : Int32) by decide) c⟩⟩
    refine ⟨fun c => absurd rfl c, fun _ => ⟨fun c => absurd rfl c, fun _ => ?_⟩⟩
    rw [h.2.1.2.2.2.1]
    exact B (fl := 8) (o := 0) (j := 11) (N := T) (lo := 0) (Or.inr (Or.inr (Or.inr (Or.inr ⟨rfl, rfl, rfl⟩)))) (Or.inr ⟨by decide, rfl⟩) (by omega) (fun _ => by omega) (fun _ _ => rfl) (gwd_sup h.1.2 (Or.inr (Or.inr (Or.inr (Or.inr ⟨rfl, rfl, rfl, rfl⟩))))) (by rw [Int32.add_zero]) (by rw [pa_b _ _ _ (by decide) (by decide), pt_6])
  | 7, _ =>
    refine ⟨fun c => absurd c (by decide), fun _ => ⟨fun c => absurd rfl c, fun _ => ⟨fun _ => ?_, fun c => absurd (show ¬ nI 7 = 0 by decide) c⟩⟩⟩
    unfold w190
    exact ⟨L + 1, l4b_ok (F := fun j => fo τ (gm S) (fun i => S.1 69 (40 * s + i)) (nI j) z 0) hs hz hL l2 (R_mt h) (R_ok h) e68 rfl (fun S' a' e' => by rw [← pt_7 (T := T) (p := p)]; exact hQ S' a' e') L 0 S (by omega) (am_refl _ _ _) rfl⟩
  | w + 8, hw => exact absurd hw (by omega)
end CL
def c64 (b g : Int32) (S : ri_H) (Q : Int32 → ri_H → Prop) (k : Nat) : Prop := (((wi b (S.1 10 9)) = 0 → Q (-1002 : Int32) S) ∧ (¬ (wi b (S.1 10 9)) = 0 → ((¬ (wi g (8 : Int32)) = 0 → w22 k S (fun (r2 : Int32) (S1 : ri_H) => ((r2 = 0 → (((S1.1 k 2) ≤ (30 : Int32) → cw64 b g S1 Q k) ∧ (¬ (S1.1 k 2) ≤ (30 : Int32) → Q (-1003 : Int32) S1))) ∧ (¬ (r2 = 0) → Q (-1011 : Int32) S1)))) ∧ (¬ (¬ (wi g (8 : Int32)) = 0) → Q (-1002 : Int32) S))))
theorem d64 {Q : Int32 → Int32 → ri_H → Prop} {s : Nat} (hs : s < 4) (h : RR S) (hQ : ∀ r S', RR S' → Q r r S') : c64 b g S (fun r S1 => w191 (nI s) b g S1 (fun r2 S2 => Q r r2 S2)) (38 + 2 * s) := by
  have h0 := h
  obtain ⟨T, τ, h⟩ := h
  obtain ⟨L, hL, l1, l2, l3⟩ := R_L h
  have M : ∀ (S1 : ri_H) (K : Int32 → ri_H → Prop), S1.1 50 11 = nI L → (∀ p w, p < L → w < 8 → b = nI p → g = nI w → (vp_in (nI s) 4 ∧ ((¬ (S1.1 66 s) = 0 → (vp_in (nI s) 4 ∧ (((S1.1 68 s) ≤ (30 : Int32) → mw191 K (nI s) b g S1) ∧ (¬ (S1.1 68 s) ≤ (30 : Int32) → K (-1003 : Int32) S1)))) ∧ (¬ (¬ (S1.1 66 s) = 0) → K (-1011 : Int32) S1)))) → (((∀ p, p < L → b ≠ nI p) ∨ ∀ w, w < 8 → g ≠ nI w) → K (-1002) S1) → w191 (nI s) b g S1 K := by
    intro S1 K e k1 k2
    unfold w191
    rw [nI_clamp (n := s) (by omega)]
    exact w199_ok (fun _ _ _ => ⟨fun c => absurd c (by decide), fun _ => w104_ok hL e (fun p hp ep => ⟨fun c => absurd c (by decide), fun _ => w102_n (m := 7) (by decide) (by decide) (fun w hw ew => ⟨fun _ => k1 p w hp hw ep ew, fun c => absurd (by decide) c⟩) (fun hh => ⟨fun c => absurd rfl c, fun _ => k2 (Or.inr hh)⟩)⟩) (fun hh => ⟨fun _ => k2 (Or.inl hh), fun c => absurd rfl c⟩)⟩) (fun hh => absurd rfl (hh s hs))
  have bad : ((∀ p, p < L → b ≠ nI p) ∨ ∀ w, w < 8 → g ≠ nI w) → w191 (nI s) b g S (fun r2 S2 => Q (-1002) r2 S2) := by
    intro hb
    refine M S _ l2 (fun p w hp hw ep ew => ?_) (fun _ => hQ _ _ h0)
    rcases hb with q | q
    · exact absurd ep (q p hp)
    · exact absurd ew (q w hw)
  unfold c64
  rw [l1]
  rcases wi_d b (n := L) (by omega) with ⟨p, hp, rfl, hw1⟩ | ⟨hw1, hne⟩
  · rcases wi_d g (n := 8) (by decide) with ⟨w, hw, rfl, hw2⟩ | ⟨hw2, hne⟩
    · have hw2 : wi (nI w) 8 = 1 := hw2
      have nb : ∀ {P : Prop}, ((∀ p', p' < L → nI p ≠ nI p') ∨ ∀ w', w' < 8 → nI w ≠ nI w') → P := by
        intro P hh
        rcases hh with q | q
        · exact absurd rfl (q p hp)
        · exact absurd rfl (q w hw)
      rw [hw1, hw2]
      refine ⟨fun c => absurd c (by decide), fun _ => ⟨fun _ => ?_, fun c => absurd (by decide) c⟩⟩
      rcases h.2.2.2.2 s hs with ⟨e1, e2⟩ | ⟨t, z, ht, hz, e1, e2, e3, e4, e5, e6⟩
      · refine w22_ok (fun c => absurd e1 c) (fun _ => ⟨fun c => absurd c (by decide), fun _ => ?_⟩)
        refine M S _ l2 (fun p' w' _ _ _ _ => ⟨vp_in_nI hs (by decide), fun c => absurd e2 c, fun _ => hQ _ _ h0⟩) nb
      · refine w22_ok (fun _ => ⟨fun _ => ?_, fun c => absurd rfl c⟩) (fun c => absurd (e1.symm.trans c) (nt_m1 (by omega)))
        have n3 : ¬ S.1 66 s = 0 := by rw [e3]; decide
        rw [e2]
        refine ⟨fun c => ?_, fun c => ?_⟩
        · refine c_tells (T := T) (τ := τ) hs hL l1 hp h hz e2 hw (fun S1 a1 => ?_)
          have h1 := R_c h a1
          have g1 := c_gm a1
          have l2' : S1.1 50 11 = nI L := by rw [gm_9, g1]; exact l3
          have o : ∀ c, c ∈ [66, 68, 69] → S1.1 c = S.1 c := fun c hc => (a1 c ((by decide : ∀ c, c ∈ [66, 68, 69] → c ∉ CX) c hc)).1
          refine M S1 _ l2' (fun p' w' _ _ _ _ => ⟨vp_in_nI hs (by decide), fun _ => ⟨vp_in_nI hs (by decide), fun _ => ?_, fun c2 => absurd (by rw [o 68 (by decide), e5]; exact c) c2⟩, fun c2 => absurd (by rw [o 66 (by decide)]; exact n3) c2⟩) nb
          refine m_tells (T := T) (τ := τ) hs hL l2' hp h1 hz (by rw [o 68 (by decide)]; exact e5) hw (fun S2 a2 g2 => ?_)
          rw [g1, p_tells_f (f := fun i => S.1 (39 + 2 * s) i) (f' := fun i => S1.1 69 (40 * s + i)) (fun j hj => by rw [o 69 (by decide)]; exact e6 j hj)]
          exact hQ _ _ ⟨T, τ, R_q h1 (ag_refl _ _) a2 g2⟩
        · exact M S _ l2 (fun p' w' _ _ _ _ => ⟨vp_in_nI hs (by decide), fun _ => ⟨vp_in_nI hs (by decide), fun c2 => absurd (by rw [← e5]; exact c2) c, fun _ => hQ _ _ h0⟩, fun c2 => absurd n3 c2⟩) nb
    · have hw2 : wi g 8 = 0 := hw2
      rw [hw1, hw2]
      exact ⟨fun c => absurd c (by decide), fun _ => ⟨fun c => absurd rfl c, fun _ => bad (Or.inr hne)⟩⟩
  · rw [hw1]
    exact ⟨fun _ => bad (Or.inl hne), fun c => absurd rfl c⟩
theorem f_tells {Q : Int32 → Int32 → ri_H → Prop} (h : RR S) (hQ : ∀ r S', RR S' → Q r r S') : w64 a b g S (fun r S1 => w191 a b g S1 (fun r2 S2 => Q r r2 S2)) := by
  rcases wi_d a (n := 4) (by decide) with ⟨s, hs, ea, hw⟩ | ⟨hw, hne⟩
  · exact pick4 (P := c64 b g S (fun r S1 => w191 a b g S1 (fun r2 S2 => Q r r2 S2))) hs ea (by subst ea; exact d64 hs h hQ)
  · have fin : w191 a b g S (fun r2 S2 => Q (-1002) r2 S2) := w199_ok (fun j hj e => absurd e (hne j hj)) (fun _ => ⟨fun _ => hQ _ _ h, fun c => absurd rfl c⟩)
    exact pick0 (P := c64 b g S (fun r S1 => w191 a b g S1 (fun r2 S2 => Q r r2 S2))) hne fin
end TELLS
