/-! worlds written to -/
def CW : List Nat := [10, 11, 12, 13, 14, 15, 16, 17, 4, 18, 19, 20, 21, 22, 23, 24, 25, 26, 27, 46, 47, 48, 49]
def MG : List Nat := 4 :: 7 :: 11 :: F1
theorem R_wr {T : Nat} {τ : Int32 → Int32 → List Int32} {S S1 S' : ri_H} (h : R T τ S) (a : ag CW S S1) (b : am MX MG S1 S') (e : gw S' 10 = gm S') (g : gwd T (gm S')) : R T τ S' := by
  obtain ⟨h1, h2, h3, h4, h5⟩ := h
  exact ⟨⟨e, g⟩, rT_k h2 (kT_tr (kT_ag a (by decide)) (kT_am b (by decide) (by decide))), rP_k h3 (kP_tr (kP_ag a (by decide)) (kP_am b (by decide) (by decide))), rI_k h4 (kI_tr (kI_ag a (by decide) (by decide)) (kI_am b (by decide) (by decide) (by decide))), rS_k h5 (kS_tr (kS_ag a (by decide) (by decide)) (kS_am b (by decide) (by decide)))⟩
theorem gw_wi {S : ri_H} {w o j : Nat} {v : Int32} (ho : o ≠ 0) (hj : j < gsz o) : gw (ri_wi S (w + o) j v) w = gset (gw S w) o (upd (gw S w o) j v) := by
  rw [ri_wi_wr, gw_wr _ _ _ _ ho, gw_p _ _ ho]
  congr 1
  funext i
  unfold nz upd
  by_cases e : i = j
  · subst e
    simp [hj]
  · simp [e]
theorem gm_wi54 (S : ri_H) {k : Nat} (hk : k < 24) (v : Int32) : gm (ri_wi S 54 k v) = gset (gm S) 1 (upd (gm S 1) k v) := by
  funext o
  unfold gset
  by_cases h : o = 1
  · subst h
    rw [if_pos rfl]
    funext j
    show nz 24 ((ri_wi S 54 k v).1 54) j = upd (nz 24 (S.1 54)) k v j
    rw [ri_wi_1]
    unfold nz upd
    by_cases e : j = k
    · subst e
      simp [hk]
    · simp [e]
  · rw [if_neg h]
    unfold gm
    rw [ri_wi_o S (c := 55) (k := 54) _ _ (by decide), ri_wi_o S (c := 56) (k := 54) _ _ (by decide), ri_wi_o S (c := 50) (k := 54) _ _ (by decide)]
    simp only [if_neg h]
theorem gm_row0 (S : ri_H) {p : Nat} (hp : p < 5) (v : Int32) : gm (ri_wi S 56 (5 * p + 0) v) = gset (gm S) 4 (upd (gm S 4) p v) := by
  funext o
  unfold gset
  by_cases h : o = 4
  · subst h
    rw [if_pos rfl]
    funext j
    show nz 5 (fun q => (ri_wi S 56 (5 * p + 0) v).1 56 (5 * q)) j = upd (nz 5 (fun q => S.1 56 (5 * q))) p v j
    rw [ri_wi_1]
    unfold nz upd
    by_cases e : j = p
    · subst e
      simp [hp]
    · have : ¬ (5 * j = 5 * p + 0) := by omega
      simp only [if_neg this, if_neg e]
  · rw [if_neg h]
    unfold gm
    rw [ri_wi_o S (c := 54) (k := 56) _ _ (by decide), ri_wi_o S (c := 55) (k := 56) _ _ (by decide), ri_wi_o S (c := 50) (k := 56) _ _ (by decide), ri_wi_1]
    have n1 : (fun q => upd (S.1 56) (5 * p + 0) v (5 * q + 1)) = fun q => S.1 56 (5 * q + 1) := by
      funext q
      unfold upd
      rw [if_neg (by omega)]
    have n2 : (fun q => upd (S.1 56) (5 * p + 0) v (5 * q + 2)) = fun q => S.1 56 (5 * q + 2) := by
      funext q
      unfold upd
      rw [if_neg (by omega)]
    have n3 : (fun q => upd (S.1 56) (5 * p + 0) v (5 * q + 3)) = fun q => S.1 56 (5 * q + 3) := by
      funext q
      unfold upd
      rw [if_neg (by omega)]
    have n4 : (fun q => upd (S.1 56) (5 * p + 0) v (5 * q + 4)) = fun q => S.1 56 (5 * q + 4) := by
      funext q
      unfold upd
      rw [if_neg (by omega)]
    rw [n1, n2, n3, n4]
    simp only [if_neg h]
theorem gm_row1 (S : ri_H) {p : Nat} (hp : p < 5) (v : Int32) : gm (ri_wi S 56 (5 * p + 1) v) = gset (gm S) 5 (upd (gm S 5) p v) := by
  funext o
  unfold gset
  by_cases h : o = 5
  · subst h
    rw [if_pos rfl]
    funext j
    show nz 5 (fun q => (ri_wi S 56 (5 * p + 1) v).1 56 (5 * q + 1)) j = upd (nz 5 (fun q => S.1 56 (5 * q + 1))) p v j
    rw [ri_wi_1]
    unfold nz upd
    by_cases e : j = p
    · subst e
      simp [hp]
    · have : ¬ (5 * j + 1 = 5 * p + 1) := by omega
      simp only [if_neg this, if_neg e]
  · rw [if_neg h]
    unfold gm
    rw [ri_wi_o S (c := 54) (k := 56) _ _ (by decide), ri_wi_o S (c := 55) (k := 56) _ _ (by decide), ri_wi_o S (c := 50) (k := 56) _ _ (by decide), ri_wi_1]
    have n0 : (fun q => upd (S.1 56) (5 * p + 1) v (5 * q)) = fun q => S.1 56 (5 * q) := by
      funext q
      unfold upd
      rw [if_neg (by omega)]
    have n2 : (fun q => upd (S.1 56) (5 * p + 1) v (5 * q + 2)) = fun q => S.1 56 (5 * q + 2) := by
      funext q
      unfold upd
      rw [if_neg (by omega)]
    have n3 : (fun q => upd (S.1 56) (5 * p + 1) v (5 * q + 3)) = fun q => S.1 56 (5 * q + 3) := by
      funext q
      unfold upd
      rw [if_neg (by omega)]
    have n4 : (fun q => upd (S.1 56) (5 * p + 1) v (5 * q + 4)) = fun q => S.1 56 (5 * q + 4) := by
      funext q
      unfold upd
      rw [if_neg (by omega)]
    rw [n0, n2, n3, n4]
    simp only [if_neg h]
theorem gm_row2 (S : ri_H) {p : Nat} (hp : p < 5) (v : Int32) : gm (ri_wi S 56 (5 * p + 2) v) = gset (gm S) 6 (upd (gm S 6) p v) := by
  funext o
  unfold gset
  by_cases h : o = 6
  · subst h
    rw [if_pos rfl]
    funext j
    show nz 5 (fun q => (ri_wi S 56 (5 * p + 2) v).1 56 (5 * q + 2)) j = upd (nz 5 (fun q => S.1 56 (5 * q + 2))) p v j
    rw [ri_wi_1]
    unfold nz upd
    by_cases e : j = p
    · subst e
      simp [hp]
    · have : ¬ (5 * j + 2 = 5 * p + 2) := by omega
      simp only [if_neg this, if_neg e]
  · rw [if_neg h]
    unfold gm
    rw [ri_wi_o S (c := 54) (k := 56) _ _ (by decide), ri_wi_o S (c := 55) (k := 56) _ _ (by decide), ri_wi_o S (c := 50) (k := 56) _ _ (by decide), ri_wi_1]
    have n0 : (fun q => upd (S.1 56) (5 * p + 2) v (5 * q)) = fun q => S.1 56 (5 * q) := by
      funext q
      unfold upd
      rw [if_neg (by omega)]
    have n1 : (fun q => upd (S.1 56) (5 * p + 2) v (5 * q + 1)) = fun q => S.1 56 (5 * q + 1) := by
      funext q
      unfold upd
      rw [if_neg (by omega)]
    have n3 : (fun q => upd (S.1 56) (5 * p + 2) v (5 * q + 3)) = fun q => S.1 56 (5 * q + 3) := by
      funext q
      unfold upd
      rw [if_neg (by omega)]
    have n4 : (fun q => upd (S.1 56) (5 * p + 2) v (5 * q + 4)) = fun q => S.1 56 (5 * q + 4) := by
      funext q
      unfold upd
      rw [if_neg (by omega)]
    rw [n0, n1, n3, n4]
    simp only [if_neg h]
theorem gm_row3 (S : ri_H) {p : Nat} (hp : p < 5) (v : Int32) : gm (ri_wi S 56 (5 * p + 3) v) = gset (gm S) 7 (upd (gm S 7) p v) := by
  funext o
  unfold gset
  by_cases h : o = 7
  · subst h
    rw [if_pos rfl]
    funext j
    show nz 5 (fun q => (ri_wi S 56 (5 * p + 3) v).1 56 (5 * q + 3)) j = upd (nz 5 (fun q => S.1 56 (5 * q + 3))) p v j
    rw [ri_wi_1]
    unfold nz upd
    by_cases e : j = p
    · subst e
      simp [hp]
    · have : ¬ (5 * j + 3 = 5 * p + 3) := by omega
      simp only [if_neg this, if_neg e]
  · rw [if_neg h]
    unfold gm
    rw [ri_wi_o S (c := 54) (k := 56) _ _ (by decide), ri_wi_o S (c := 55) (k := 56) _ _ (by decide), ri_wi_o S (c := 50) (k := 56) _ _ (by decide), ri_wi_1]
    have n0 : (fun q => upd (S.1 56) (5 * p + 3) v (5 * q)) = fun q => S.1 56 (5 * q) := by
      funext q
      unfold upd
      rw [if_neg (by omega)]
    have n1 : (fun q => upd (S.1 56) (5 * p + 3) v (5 * q + 1)) = fun q => S.1 56 (5 * q + 1) := by
      funext q
      unfold upd
      rw [if_neg (by omega)]
    have n2 : (fun q => upd (S.1 56) (5 * p + 3) v (5 * q + 2)) = fun q => S.1 56 (5 * q + 2) := by
      funext q
      unfold upd
      rw [if_neg (by omega)]
    have n4 : (fun q => upd (S.1 56) (5 * p + 3) v (5 * q + 4)) = fun q => S.1 56 (5 * q + 4) := by
      funext q
      unfold upd
      rw [if_neg (by omega)]
    rw [n0, n1, n2, n4]
    simp only [if_neg h]
theorem gm_row4 (S : ri_H) {p : Nat} (hp : p < 5) (v : Int32) : gm (ri_wi S 56 (5 * p + 4) v) = gset (gm S) 3 (upd (gm S 3) p v) := by
  funext o
  unfold gset
  by_cases h : o = 3
  · subst h
    rw [if_pos rfl]
    funext j
    show nz 5 (fun q => (ri_wi S 56 (5 * p + 4) v).1 56 (5 * q + 4)) j = upd (nz 5 (fun q => S.1 56 (5 * q + 4))) p v j
    rw [ri_wi_1]
    unfold nz upd
    by_cases e : j = p
    · subst e
      simp [hp]
    · have : ¬ (5 * j + 4 = 5 * p + 4) := by omega
      simp only [if_neg this, if_neg e]
  · rw [if_neg h]
    unfold gm
    rw [ri_wi_o S (c := 54) (k := 56) _ _ (by decide), ri_wi_o S (c := 55) (k := 56) _ _ (by decide), ri_wi_o S (c := 50) (k := 56) _ _ (by decide), ri_wi_1]
    have n0 : (fun q => upd (S.1 56) (5 * p + 4) v (5 * q)) = fun q => S.1 56 (5 * q) := by
      funext q
      unfold upd
      rw [if_neg (by omega)]
    have n1 : (fun q => upd (S.1 56) (5 * p + 4) v (5 * q + 1)) = fun q => S.1 56 (5 * q + 1) := by
      funext q
      unfold upd
      rw [if_neg (by omega)]
    have n2 : (fun q => upd (S.1 56) (5 * p + 4) v (5 * q + 2)) = fun q => S.1 56 (5 * q + 2) := by
      funext q
      unfold upd
      rw [if_neg (by omega)]
    have n3 : (fun q => upd (S.1 56) (5 * p + 4) v (5 * q + 3)) = fun q => S.1 56 (5 * q + 3) := by
      funext q
      unfold upd
      rw [if_neg (by omega)]
    rw [n0, n1, n2, n3]
    simp only [if_neg h]
theorem gm_f4 (S : ri_H) (v : Int32) : gm (ri_wi S 50 4 v) = gset (gm S) 0 (upd (gm S 0) 11 v) := by
  funext o
  unfold gset
  by_cases h : o = 0
  · subst h
    rw [if_pos rfl]
    funext j
    show (if j = 9 then (ri_wi S 50 4 v).1 50 11 else if j = 10 then (ri_wi S 50 4 v).1 50 7 else if j = 11 then (ri_wi S 50 4 v).1 50 4 else 0) = upd (fun j => if j = 9 then S.1 50 11 else if j = 10 then S.1 50 7 else if j = 11 then S.1 50 4 else 0) 11 v j
    rw [ri_wi_1]
    unfold upd
    by_cases e : j = 11
    · subst e
      simp
    · simp [e]
  · rw [if_neg h]
    unfold gm
    rw [ri_wi_o S (c := 54) (k := 50) _ _ (by decide), ri_wi_o S (c := 55) (k := 50) _ _ (by decide), ri_wi_o S (c := 56) (k := 50) _ _ (by decide)]
    simp only [if_neg h]
theorem gm_f11 (S : ri_H) (v : Int32) : gm (ri_wi S 50 11 v) = gset (gm S) 0 (upd (gm S 0) 9 v) := by
  funext o
  unfold gset
  by_cases h : o = 0
  · subst h
    rw [if_pos rfl]
    funext j
    show (if j = 9 then (ri_wi S 50 11 v).1 50 11 else if j = 10 then (ri_wi S 50 11 v).1 50 7 else if j = 11 then (ri_wi S 50 11 v).1 50 4 else 0) = upd (fun j => if j = 9 then S.1 50 11 else if j = 10 then S.1 50 7 else if j = 11 then S.1 50 4 else 0) 9 v j
    rw [ri_wi_1]
    unfold upd
    by_cases e : j = 9
    · subst e
      simp
    · simp [e]
  · rw [if_neg h]
    unfold gm
    rw [ri_wi_o S (c := 54) (k := 50) _ _ (by decide), ri_wi_o S (c := 55) (k := 50) _ _ (by decide), ri_wi_o S (c := 56) (k := 50) _ _ (by decide)]
    simp only [if_neg h]
section GWD
variable {T : Nat} {g : Nat → Nat → Int32} {j v : Nat}
theorem gwd_1 (h : gwd T g) (hv : v < 12) : gwd T (gset g 1 (upd (g 1) j (nI v))) := by
  obtain ⟨⟨k0, k1, k2, k3, k4, k5, k6, k7⟩, hy, hr⟩ := h
  exact ⟨⟨k0, rg_upd k1 hv, k2, k3, k4, k5, k6, k7⟩, hy, hr⟩
theorem gwd_2 (h : gwd T g) (hv : v < 1000) : gwd T (gset g 2 (upd (g 2) j (nI v))) := by
  obtain ⟨⟨k0, k1, k2, k3, k4, k5, k6, k7⟩, hy, hr⟩ := h
  exact ⟨⟨k0, k1, rg_upd k2 hv, k3, k4, k5, k6, k7⟩, hy, hr⟩
theorem gwd_3 (h : gwd T g) (hv : v < 6) : gwd T (gset g 3 (upd (g 3) j (nI v))) := by
  obtain ⟨⟨k0, k1, k2, k3, k4, k5, k6, k7⟩, hy, hr⟩ := h
  exact ⟨⟨k0, k1, k2, rg_upd k3 hv, k4, k5, k6, k7⟩, hy, hr⟩
theorem gwd_4 (h : gwd T g) (hv : v < 10) : gwd T (gset g 4 (upd (g 4) j (nI v))) := by
  obtain ⟨⟨k0, k1, k2, k3, k4, k5, k6, k7⟩, hy, hr⟩ := h
  exact ⟨⟨k0, k1, k2, k3, rg_upd k4 hv, k5, k6, k7⟩, hy, hr⟩
theorem gwd_5 (h : gwd T g) (hv : v < 12) : gwd T (gset g 5 (upd (g 5) j (nI v))) := by
  obtain ⟨⟨k0, k1, k2, k3, k4, k5, k6, k7⟩, hy, hr⟩ := h
  exact ⟨⟨k0, k1, k2, k3, k4, rg_upd k5 hv, k6, k7⟩, hy, hr⟩
theorem gwd_6 (h : gwd T g) {x : Int32} (hv : -99 ≤ x.toInt ∧ x.toInt ≤ 99) : gwd T (gset g 6 (upd (g 6) j x)) := by
  obtain ⟨⟨k0, k1, k2, k3, k4, k5, k6, k7⟩, hy, hr⟩ := h
  refine ⟨⟨k0, k1, k2, k3, k4, k5, fun p hp => ?_, k7⟩, hy, hr⟩
  show -99 ≤ (upd (g 6) j x p).toInt ∧ (upd (g 6) j x p).toInt ≤ 99
  unfold upd
  by_cases e : p = j
  · rw [if_pos e]
    exact hv
  · rw [if_neg e]
    exact k6 p hp
theorem gwd_7 (h : gwd T g) (hv : v < 1000) : gwd T (gset g 7 (upd (g 7) j (nI v))) := by
  obtain ⟨⟨k0, k1, k2, k3, k4, k5, k6, k7⟩, hy, hr⟩ := h
  exact ⟨⟨k0, k1, k2, k3, k4, k5, k6, rg_upd k7 hv⟩, hy, hr⟩
theorem gwd_y (h : gwd T g) (hv : v ≤ 999) : gwd T (gset g 0 (upd (g 0) 10 (nI v))) := by
  obtain ⟨⟨k0, k⟩, hy, hr⟩ := h
  exact ⟨⟨k0, k⟩, ⟨v, hv, rfl⟩, hr⟩
theorem gwd_r (h : gwd T g) (hv : v < T) : gwd T (gset g 0 (upd (g 0) 11 (nI v))) := by
  obtain ⟨⟨k0, k⟩, hy, hr⟩ := h
  exact ⟨⟨k0, k⟩, hy, ⟨v, hv, rfl⟩⟩
theorem gwd_l (h : gwd T g) (hv : v ≤ 5) : gwd T (gset g 0 (upd (g 0) 9 (nI v))) := by
  obtain ⟨⟨k0, k⟩, hy, hr⟩ := h
  exact ⟨⟨⟨v, hv, rfl⟩, k⟩, hy, hr⟩
end GWD
/-! set -/
section SET
variable {b g : Int32} {S : ri_H} {Q : Int32 → Int32 → ri_H → Prop} {T : Nat} {τ : Int32 → Int32 → List Int32}
theorem sm_in {Q : Int32 → ri_H → Prop} {k : Nat} (hk : k < 7) (hQ : w107 (nI k) b S (fun (r4 : Int32) (S3 : ri_H) => ((r4 = 0 → Q (-1000 : Int32) S3) ∧ (¬ (r4 = 0) → ((¬ nI k = (5 : Int32) → w109_b35 Q (nI k) b g (0 : Int64) (g).toInt64 S3) ∧ (¬ (¬ nI k = (5 : Int32)) → w109_b35 Q (nI k) b g (-99 : Int64) (g).toInt64 S3)))))) : w109 (nI k) b g S Q :=
  w102_n (m := 6) (by decide) (by decide) (fun _ _ _ => ⟨fun c => absurd c (by decide), fun _ => hQ⟩) (fun h => absurd rfl (h k hk))
theorem sm_out {Q : Int32 → ri_H → Prop} {a : Int32} (ha : ∀ j, j < 7 → a ≠ nI j) (hQ : Q (-1000) S) : w109 a b g S Q :=
  w102_n (m := 6) (by decide) (by decide) (fun j hj e => absurd e (ha j hj)) (fun _ => ⟨fun _ => hQ, fun c => absurd rfl c⟩)

theorem set0 (h : R T τ S) (hQ : ∀ r S', RR S' → Q r r S') : w47 (nI 0) b g S (fun r S1 => w109 (nI 0) b g S1 (fun r2 S2 => Q r r2 S2)) := by
  have h0 : RR S := ⟨T, τ, h⟩
  obtain ⟨L, hL, l1, l2, l3⟩ := R_L h
  refine ⟨fun _ => ⟨fun _ => ?_, fun c => absurd c (by decide), fun c => absurd c (by decide), fun c => absurd c (by decide), fun c => absurd c (by decide), fun c => absurd c (by decide), fun c => absurd c (by decide)⟩, fun c => absurd (show ¬ nI 0 = (2 : Int32) by decide) c⟩
  refine w78_0 ?_
  rcases wi_d b (n := 24) (by decide) with ⟨j, hj, rfl, hw⟩ | ⟨hw, hne⟩
  · have hw : wi (nI j) 24 = 1 := hw
    have hj5 : j < gsz 1 := hj
    rw [hw]
    refine ⟨fun c => absurd c (by decide), fun _ => ?_⟩
    rcases wi_d g (n := 12) (by decide) with ⟨v, hv, rfl, hw2⟩ | ⟨hw2, hne2⟩
    · have hw2 : wi (nI v) 12 = 1 := hw2
      refine ⟨fun c => absurd c (by decide), fun _ => ⟨wi_b _ _, ?_⟩, fun c => absurd c (by decide), fun c => absurd c (by decide), fun c => absurd c (by decide), fun c => absurd c (by decide), fun c => absurd c (by decide), fun c => absurd c (by decide)⟩
      rw [hw2]
      refine ⟨fun _ => ?_, fun c => absurd (by decide) c⟩
      rw [it_nI _ (show j < 24 from hj) (by decide), pu_nI _ _ (show j < 24 from hj) (by decide), ← ri_wi_wr]
      have hjj : j < 24 := by omega
      have ea : S.1 11 j = gm S 1 j := by
        rw [← R_w h]
        exact gw_at (w := 10) (o := 1) (by decide) hj5
      have a1 : ag CW S (ri_wi S 11 j (nI v)) := ag_wi (ag_refl _ _) (by decide)
      have g1 : gm (ri_wi S 11 j (nI v)) = gm S := gm_ag (ag_wi (ag_refl [11] S) (by decide)) (by decide)
      have w1 : gw (ri_wi S 11 j (nI v)) 10 = gset (gm S) 1 (upd (gm S 1) j (nI v)) := by
        rw [gw_wi (w := 10) (o := 1) (by decide) hj5, R_w h]
      have l2' : (ri_wi S 11 j (nI v)).1 50 11 = nI L := by rw [gm_9, g1]; exact l3
      refine sm_in (by decide) (isOf_j (by decide) (by decide) (fun j' hj' e => ⟨fun c => absurd c (by decide), fun _ => ⟨fun _ => ?_, fun c => absurd (show ¬ nI 0 = (5 : Int32) by decide) c⟩⟩) (fun hn => absurd rfl (hn j hj)))
      unfold w109_b35
      refine ⟨fun _ => ?_, fun c => absurd rfl c⟩
      unfold w108_b9
      refine w102_n (m := 11) (by decide) (by decide) (fun v' hv' e' => ⟨fun _ => ?_, fun c => absurd (by decide) c⟩) (fun hn => absurd rfl (hn v hv))
      refine tm_in (by decide) (isOf_j (by decide) (by decide) (fun j' hj' e => ⟨fun _ => ⟨fun c => absurd c (by decide), fun _ => ?_⟩, fun c => absurd (by decide) c⟩) (fun hn => absurd rfl (hn j hj)))
      refine ⟨fun c => absurd rfl c, fun _ => ⟨vp_in_nI hj (by decide), ?_⟩⟩
      unfold w110
      refine ⟨fun c => absurd rfl c, fun _ => ⟨vp_in_nI hj (by decide), ?_⟩⟩
      rw [nI_clamp (by omega), gm_1 hjj, g1, ea]
      have b1 : am MX MG (ri_wi S 11 j (nI v)) (ri_wi (ri_wi S 11 j (nI v)) 54 j (nI v)) := am_wi (am_refl _ _ _) (by decide) (by decide)
      have g2 : gm (ri_wi (ri_wi S 11 j (nI v)) 54 j (nI v)) = gset (gm S) 1 (upd (gm S 1) j (nI v)) := by rw [gm_wi54 _ hjj, g1]
      exact hQ _ _ ⟨T, τ, R_wr h a1 b1 (by rw [g2, gw_am (by decide) b1 (in8 (by decide)), w1]) (by rw [g2]; exact gwd_1 h.1.2 hv)⟩
    · have hw2 : wi g 12 = 0 := hw2
      refine ⟨fun c => absurd c (by decide), fun _ => ⟨wi_b _ _, ?_⟩, fun c => absurd c (by decide), fun c => absurd c (by decide), fun c => absurd c (by decide), fun c => absurd c (by decide), fun c => absurd c (by decide), fun c => absurd c (by decide)⟩
      rw [hw2]
      refine ⟨fun c => absurd rfl c, fun _ => ?_⟩
      refine sm_in (by decide) (isOf_j (by decide) (by decide) (fun j' hj' e => ⟨fun c => absurd c (by decide), fun _ => ⟨fun _ => ?_, fun c => absurd (show ¬ nI 0 = (5 : Int32) by decide) c⟩⟩) (fun hn => absurd rfl (hn j hj)))
      unfold w109_b35
      refine ⟨fun _ => ?_, fun c => absurd rfl c⟩
      unfold w108_b9
      refine w102_n (m := 11) (by decide) (by decide) (fun v' hv' e' => absurd e' (hne2 v' hv')) (fun hn => ⟨fun c => absurd rfl c, fun _ => hQ _ _ h0⟩)
  · have hw : wi b 24 = 0 := hw
    rw [hw]
    refine ⟨fun _ => sm_in (by decide) (isOf_j (by decide) (by decide) (fun j' hj' e => absurd e (hne j' hj')) (fun _ => ⟨fun _ => hQ _ _ h0, fun c => absurd rfl c⟩)), fun c => absurd rfl c⟩
theorem set1 (h : R T τ S) (hQ : ∀ r S', RR S' → Q r r S') : w47 (nI 1) b g S (fun r S1 => w109 (nI 1) b g S1 (fun r2 S2 => Q r r2 S2)) := by
  have h0 : RR S := ⟨T, τ, h⟩
  obtain ⟨L, hL, l1, l2, l3⟩ := R_L h
  refine ⟨fun _ => ⟨fun c => absurd c (by decide), fun _ => ?_, fun c => absurd c (by decide), fun c => absurd c (by decide), fun c => absurd c (by decide), fun c => absurd c (by decide), fun c => absurd c (by decide)⟩, fun c => absurd (show ¬ nI 1 = (2 : Int32) by decide) c⟩
  refine w78_1 ?_
  rcases wi_d b (n := 24) (by decide) with ⟨j, hj, rfl, hw⟩ | ⟨hw, hne⟩
  · have hw : wi (nI j) 24 = 1 := hw
    have hj5 : j < gsz 2 := hj
    rw [hw]
    refine ⟨fun c => absurd c (by decide), fun _ => ?_⟩
    rcases wi_d g (n := 1000) (by decide) with ⟨v, hv, rfl, hw2⟩ | ⟨hw2, hne2⟩
    · have hw2 : wi (nI v) 1000 = 1 := hw2
      refine ⟨fun c => absurd c (by decide), fun c => absurd c (by decide), fun _ => ⟨wi_b _ _, ?_⟩, fun c => absurd c (by decide), fun c => absurd c (by decide), fun c => absurd c (by decide), fun c => absurd c (by decide), fun c => absurd c (by decide)⟩
      rw [hw2]
      refine ⟨fun _ => ?_, fun c => absurd (by decide) c⟩
      rw [it_nI _ (show j < 24 from hj) (by decide), pu_nI _ _ (show j < 24 from hj) (by decide), ← ri_wi_wr]
      have hjj : j < 24 := by omega
      have ea : S.1 12 j = gm S 2 j := by
        rw [← R_w h]
        exact gw_at (w := 10) (o := 2) (by decide) hj5
      have a1 : ag CW S (ri_wi S 12 j (nI v)) := ag_wi (ag_refl _ _) (by decide)
      have g1 : gm (ri_wi S 12 j (nI v)) = gm S := gm_ag (ag_wi (ag_refl [12] S) (by decide)) (by decide)
      have w1 : gw (ri_wi S 12 j (nI v)) 10 = gset (gm S) 2 (upd (gm S 2) j (nI v)) := by
        rw [gw_wi (w := 10) (o := 2) (by decide) hj5, R_w h]
      have l2' : (ri_wi S 12 j (nI v)).1 50 11 = nI L := by rw [gm_9, g1]; exact l3
      refine sm_in (by decide) (isOf_j (by decide) (by decide) (fun j' hj' e => ⟨fun c => absurd c (by decide), fun _ => ⟨fun _ => ?_, fun c => absurd (show ¬ nI 1 = (5 : Int32) by decide) c⟩⟩) (fun hn => absurd rfl (hn j hj)))
      unfold w109_b35
      refine ⟨fun c => absurd c (by decide), fun _ => ⟨fun _ => ⟨fun _ => ⟨fun _ => ?_, fun c => absurd (show ¬ nI 1 = (5 : Int32) by decide) c⟩, fun c => absurd (show ¬ nI 1 = (3 : Int32) by decide) c⟩, fun c => absurd (show ¬ nI 1 = (4 : Int32) by decide) c⟩⟩
      refine w102_n (m := 999) (by decide) (by decide) (fun v' hv' e' => ⟨fun _ => ?_, fun c => absurd (by decide) c⟩) (fun hn => absurd rfl (hn v hv))
      refine tm_in (by decide) (isOf_j (by decide) (by decide) (fun j' hj' e => ⟨fun _ => ⟨fun c => absurd c (by decide), fun _ => ?_⟩, fun c => absurd (by decide) c⟩) (fun hn => absurd rfl (hn j hj)))
      refine ⟨fun _ => ⟨fun c => absurd rfl c, fun _ => ⟨vp_in_nI hj (by decide), ?_⟩⟩, fun c => absurd (show ¬ nI 1 = 0 by decide) c⟩
      unfold w110
      refine ⟨fun _ => ⟨fun c => absurd rfl c, fun _ => ⟨vp_in_nI hj (by decide), ?_⟩⟩, fun c => absurd (show ¬ nI 1 = 0 by decide) c⟩
      rw [nI_clamp (by omega), gm_2 hjj, g1, ea]
      have b1 : am MX MG (ri_wi S 12 j (nI v)) (ri_wi (ri_wi S 12 j (nI v)) 55 j (nI v)) := am_wi (am_refl _ _ _) (by decide) (by decide)
      have g2 : gm (ri_wi (ri_wi S 12 j (nI v)) 55 j (nI v)) = gset (gm S) 2 (upd (gm S 2) j (nI v)) := by rw [gm_wi55 _ hjj, g1]
      exact hQ _ _ ⟨T, τ, R_wr h a1 b1 (by rw [g2, gw_am (by decide) b1 (in8 (by decide)), w1]) (by rw [g2]; exact gwd_2 h.1.2 hv)⟩
    · have hw2 : wi g 1000 = 0 := hw2
      refine ⟨fun c => absurd c (by decide), fun c => absurd c (by decide), fun _ => ⟨wi_b _ _, ?_⟩, fun c => absurd c (by decide), fun c => absurd c (by decide), fun c => absurd c (by decide), fun c => absurd c (by decide), fun c => absurd c (by decide)⟩
      rw [hw2]
      refine ⟨fun c => absurd rfl c, fun _ => ?_⟩
      refine sm_in (by decide) (isOf_j (by decide) (by decide) (fun j' hj' e => ⟨fun c => absurd c (by decide), fun _ => ⟨fun _ => ?_, fun c => absurd (show ¬ nI 1 = (5 : Int32) by decide) c⟩⟩) (fun hn => absurd rfl (hn j hj)))
      unfold w109_b35
      refine ⟨fun c => absurd c (by decide), fun _ => ⟨fun _ => ⟨fun _ => ⟨fun _ => ?_, fun c => absurd (show ¬ nI 1 = (5 : Int32) by decide) c⟩, fun c => absurd (show ¬ nI 1 = (3 : Int32) by decide) c⟩, fun c => absurd (show ¬ nI 1 = (4 : Int32) by decide) c⟩⟩
      refine w102_n (m := 999) (by decide) (by decide) (fun v' hv' e' => absurd e' (hne2 v' hv')) (fun hn => ⟨fun c => absurd rfl c, fun _ => hQ _ _ h0⟩)
  · have hw : wi b 24 = 0 := hw
    rw [hw]
    refine ⟨fun _ => sm_in (by decide) (isOf_j (by decide) (by decide) (fun j' hj' e => absurd e (hne j' hj')) (fun _ => ⟨fun _ => hQ _ _ h0, fun c => absurd rfl c⟩)), fun c => absurd rfl c⟩
theorem set3 (h : R T τ S) (hQ : ∀ r S', RR S' → Q r r S') : w47 (nI 3) b g S (fun r S1 => w109 (nI 3) b g S1 (fun r2 S2 => Q r r2 S2)) := by
  have h0 : RR S := ⟨T, τ, h⟩
  obtain ⟨L, hL, l1, l2, l3⟩ := R_L h
  refine ⟨fun _ => ⟨fun c => absurd c (by decide), fun c => absurd c (by decide), fun _ => ?_, fun c => absurd c (by decide), fun c => absurd c (by decide), fun c => absurd c (by decide), fun c => absurd c (by decide)⟩, fun c => absurd (show ¬ nI 3 = (2 : Int32) by decide) c⟩
  refine w78_n (by decide) (by decide) ?_
  rw [l1]
  rcases wi_d b (n := L) (by omega) with ⟨j, hj, rfl, hw⟩ | ⟨hw, hne⟩
  · have hw5 : wi (nI j) 5 = 1 := wi_1 (n := 5) (by omega) (by decide)
    have hj5 : j < gsz 4 := show j < 5 by omega
    rw [hw]
    refine ⟨fun c => absurd c (by decide), fun _ => ?_⟩
    rcases wi_d g (n := 10) (by decide) with ⟨v, hv, rfl, hw2⟩ | ⟨hw2, hne2⟩
    · have hw2 : wi (nI v) 10 = 1 := hw2
      refine ⟨fun c => absurd c (by decide), fun c => absurd c (by decide), fun c => absurd c (by decide), fun c => absurd c (by decide), fun _ => ⟨wi_b _ _, ?_⟩, fun c => absurd c (by decide), fun c => absurd c (by decide), fun c => absurd c (by decide)⟩
      rw [hw2]
      refine ⟨fun _ => ?_, fun c => absurd (by decide) c⟩
      rw [it_nI _ (show j < 5 by omega) (by decide), pu_nI _ _ (show j < 5 by omega) (by decide), ← ri_wi_wr]
      have hjj : j < 5 := by omega
      have ea : S.1 14 j = gm S 4 j := by
        rw [← R_w h]
        exact gw_at (w := 10) (o := 4) (by decide) hj5
      have a1 : ag CW S (ri_wi S 14 j (nI v)) := ag_wi (ag_refl _ _) (by decide)
      have g1 : gm (ri_wi S 14 j (nI v)) = gm S := gm_ag (ag_wi (ag_refl [14] S) (by decide)) (by decide)
      have w1 : gw (ri_wi S 14 j (nI v)) 10 = gset (gm S) 4 (upd (gm S 4) j (nI v)) := by
        rw [gw_wi (w := 10) (o := 4) (by decide) hj5, R_w h]
      have l2' : (ri_wi S 14 j (nI v)).1 50 11 = nI L := by rw [gm_9, g1]; exact l3
      refine sm_in (by decide) (isOf_o hL l2' (by decide) (by decide) (fun j' hj' e => ⟨fun c => absurd c (by decide), fun _ => ⟨fun _ => ?_, fun c => absurd (show ¬ nI 3 = (5 : Int32) by decide) c⟩⟩) (fun hn => absurd rfl (hn j hj)))
      unfold w109_b35
      refine ⟨fun c => absurd c (by decide), fun _ => ⟨fun _ => ⟨fun c => absurd rfl c, fun _ => ?_⟩, fun c => absurd (show ¬ nI 3 = (4 : Int32) by decide) c⟩⟩
      refine w102_n (m := 9) (by decide) (by decide) (fun v' hv' e' => ⟨fun _ => ?_, fun c => absurd (by decide) c⟩) (fun hn => absurd rfl (hn v hv))
      refine tm_in (by decide) (isOf_o hL l2' (by decide) (by decide) (fun j' hj' e => ⟨fun _ => ⟨fun _ => ⟨fun c => absurd c (by decide), fun _ => ?_⟩, fun c => absurd (by decide) c⟩, fun c => absurd (by decide) c⟩) (fun hn => absurd rfl (hn j hj)))
      rw [x5_k j 3 (by decide), nI_clamp (by omega), row_0 hjj, g1, ea]
      refine ⟨vp_in_nI (by omega) (by decide), ?_⟩
      unfold w110
      refine ⟨fun _ => ⟨fun _ => ⟨fun _ => ⟨fun c => absurd c (by decide), fun _ => ?_⟩, fun c => absurd (show ¬ nI 3 = (2 : Int32) by decide) c⟩, fun c => absurd (show ¬ nI 3 = (1 : Int32) by decide) c⟩, fun c => absurd (show ¬ nI 3 = 0 by decide) c⟩
      rw [x5_k j 3 (by decide), nI_clamp (by omega)]
      refine ⟨vp_in_nI (by omega) (by decide), ?_⟩
      have b1 : am MX MG (ri_wi S 14 j (nI v)) (ri_wi (ri_wi S 14 j (nI v)) 56 (5 * j + 0) (nI v)) := am_wi (am_refl _ _ _) (by decide) (by decide)
      have g2 : gm (ri_wi (ri_wi S 14 j (nI v)) 56 (5 * j + 0) (nI v)) = gset (gm S) 4 (upd (gm S 4) j (nI v)) := by rw [gm_row0 _ hjj, g1]
      exact hQ _ _ ⟨T, τ, R_wr h a1 b1 (by rw [g2, gw_am (by decide) b1 (in8 (by decide)), w1]) (by rw [g2]; exact gwd_4 h.1.2 hv)⟩
    · have hw2 : wi g 10 = 0 := hw2
      refine ⟨fun c => absurd c (by decide), fun c => absurd c (by decide), fun c => absurd c (by decide), fun c => absurd c (by decide), fun _ => ⟨wi_b _ _, ?_⟩, fun c => absurd c (by decide), fun c => absurd c (by decide), fun c => absurd c (by decide)⟩
      rw [hw2]
      refine ⟨fun c => absurd rfl c, fun _ => ?_⟩
      refine sm_in (by decide) (isOf_o hL l2 (by decide) (by decide) (fun j' hj' e => ⟨fun c => absurd c (by decide), fun _ => ⟨fun _ => ?_, fun c => absurd (show ¬ nI 3 = (5 : Int32) by decide) c⟩⟩) (fun hn => absurd rfl (hn j hj)))
      unfold w109_b35
      refine ⟨fun c => absurd c (by decide), fun _ => ⟨fun _ => ⟨fun c => absurd rfl c, fun _ => ?_⟩, fun c => absurd (show ¬ nI 3 = (4 : Int32) by decide) c⟩⟩
      refine w102_n (m := 9) (by decide) (by decide) (fun v' hv' e' => absurd e' (hne2 v' hv')) (fun hn => ⟨fun c => absurd rfl c, fun _ => hQ _ _ h0⟩)
  · skip
    rw [hw]
    refine ⟨fun _ => sm_in (by decide) (isOf_o hL l2 (by decide) (by decide) (fun j' hj' e => absurd e (hne j' hj')) (fun _ => ⟨fun _ => hQ _ _ h0, fun c => absurd rfl c⟩)), fun c => absurd rfl c⟩
theorem set4 (h : R T τ S) (hQ : ∀ r S', RR S' → Q r r S') : w47 (nI 4) b g S (fun r S1 => w109 (nI 4) b g S1 (fun r2 S2 => Q r r2 S2)) := by
  have h0 : RR S := ⟨T, τ, h⟩
  obtain ⟨L, hL, l1, l2, l3⟩ := R_L h
  refine ⟨fun _ => ⟨fun c => absurd c (by decide), fun c => absurd c (by decide), fun c => absurd c (by decide), fun _ => ?_, fun c => absurd c (by decide), fun c => absurd c (by decide), fun c => absurd c (by decide)⟩, fun c => absurd (show ¬ nI 4 = (2 : Int32) by decide) c⟩
  refine w78_n (by decide) (by decide) ?_
  rw [l1]
  rcases wi_d b (n := L) (by omega) with ⟨j, hj, rfl, hw⟩ | ⟨hw, hne⟩
  · have hw5 : wi (nI j) 5 = 1 := wi_1 (n := 5) (by omega) (by decide)
    have hj5 : j < gsz 5 := show j < 5 by omega
    rw [hw]
    refine ⟨fun c => absurd c (by decide), fun _ => ?_⟩
    rcases wi_d g (n := 12) (by decide) with ⟨v, hv, rfl, hw2⟩ | ⟨hw2, hne2⟩
    · have hw2 : wi (nI v) 12 = 1 := hw2
      refine ⟨fun c => absurd c (by decide), fun c => absurd c (by decide), fun c => absurd c (by decide), fun c => absurd c (by decide), fun c => absurd c (by decide), fun _ => ⟨wi_b _ _, ?_⟩, fun c => absurd c (by decide), fun c => absurd c (by decide)⟩
      rw [hw2]
      refine ⟨fun _ => ?_, fun c => absurd (by decide) c⟩
      rw [it_nI _ (show j < 5 by omega) (by decide), pu_nI _ _ (show j < 5 by omega) (by decide), ← ri_wi_wr]
      have hjj : j < 5 := by omega
      have ea : S.1 15 j = gm S 5 j := by
        rw [← R_w h]
        exact gw_at (w := 10) (o := 5) (by decide) hj5
      have a1 : ag CW S (ri_wi S 15 j (nI v)) := ag_wi (ag_refl _ _) (by decide)
      have g1 : gm (ri_wi S 15 j (nI v)) = gm S := gm_ag (ag_wi (ag_refl [15] S) (by decide)) (by decide)
      have w1 : gw (ri_wi S 15 j (nI v)) 10 = gset (gm S) 5 (upd (gm S 5) j (nI v)) := by
        rw [gw_wi (w := 10) (o := 5) (by decide) hj5, R_w h]
      have l2' : (ri_wi S 15 j (nI v)).1 50 11 = nI L := by rw [gm_9, g1]; exact l3
      refine sm_in (by decide) (isOf_o hL l2' (by decide) (by decide) (fun j' hj' e => ⟨fun c => absurd c (by decide), fun _ => ⟨fun _ => ?_, fun c => absurd (show ¬ nI 4 = (5 : Int32) by decide) c⟩⟩) (fun hn => absurd rfl (hn j hj)))
      unfold w109_b35
      refine ⟨fun c => absurd c (by decide), fun _ => ⟨fun c => absurd rfl c, fun _ => ?_⟩⟩
      unfold w108_b9
      refine w102_n (m := 11) (by decide) (by decide) (fun v' hv' e' => ⟨fun _ => ?_, fun c => absurd (by decide) c⟩) (fun hn => absurd rfl (hn v hv))
      refine tm_in (by decide) (isOf_o hL l2' (by decide) (by decide) (fun j' hj' e => ⟨fun _ => ⟨fun _ => ⟨fun c => absurd c (by decide), fun _ => ?_⟩, fun c => absurd (by decide) c⟩, fun c => absurd (by decide) c⟩) (fun hn => absurd rfl (hn j hj)))
      rw [x5_k j 4 (by decide), nI_clamp (by omega), row_1 hjj, g1, ea]
      refine ⟨vp_in_nI (by omega) (by decide), ?_⟩
      unfold w110
      refine ⟨fun _ => ⟨fun _ => ⟨fun _ => ⟨fun c => absurd c (by decide), fun _ => ?_⟩, fun c => absurd (show ¬ nI 4 = (2 : Int32) by decide) c⟩, fun c => absurd (show ¬ nI 4 = (1 : Int32) by decide) c⟩, fun c => absurd (show ¬ nI 4 = 0 by decide) c⟩
      rw [x5_k j 4 (by decide), nI_clamp (by omega)]
      refine ⟨vp_in_nI (by omega) (by decide), ?_⟩
      have b1 : am MX MG (ri_wi S 15 j (nI v)) (ri_wi (ri_wi S 15 j (nI v)) 56 (5 * j + 1) (nI v)) := am_wi (am_refl _ _ _) (by decide) (by decide)
      have g2 : gm (ri_wi (ri_wi S 15 j (nI v)) 56 (5 * j + 1) (nI v)) = gset (gm S) 5 (upd (gm S 5) j (nI v)) := by rw [gm_row1 _ hjj, g1]
      exact hQ _ _ ⟨T, τ, R_wr h a1 b1 (by rw [g2, gw_am (by decide) b1 (in8 (by decide)), w1]) (by rw [g2]; exact gwd_5 h.1.2 hv)⟩
    · have hw2 : wi g 12 = 0 := hw2
      refine ⟨fun c => absurd c (by decide), fun c => absurd c (by decide), fun c => absurd c (by decide), fun c => absurd c (by decide), fun c => absurd c (by decide), fun _ => ⟨wi_b _ _, ?_⟩, fun c => absurd c (by decide), fun c => absurd c (by decide)⟩
      rw [hw2]
      refine ⟨fun c => absurd rfl c, fun _ => ?_⟩
      refine sm_in (by decide) (isOf_o hL l2 (by decide) (by decide) (fun j' hj' e => ⟨fun c => absurd c (by decide), fun _ => ⟨fun _ => ?_, fun c => absurd (show ¬ nI 4 = (5 : Int32) by decide) c⟩⟩) (fun hn => absurd rfl (hn j hj)))
      unfold w109_b35
      refine ⟨fun c => absurd c (by decide), fun _ => ⟨fun c => absurd rfl c, fun _ => ?_⟩⟩
      unfold w108_b9
      refine w102_n (m := 11) (by decide) (by decide) (fun v' hv' e' => absurd e' (hne2 v' hv')) (fun hn => ⟨fun c => absurd rfl c, fun _ => hQ _ _ h0⟩)
  · skip
    rw [hw]
    refine ⟨fun _ => sm_in (by decide) (isOf_o hL l2 (by decide) (by decide) (fun j' hj' e => absurd e (hne j' hj')) (fun _ => ⟨fun _ => hQ _ _ h0, fun c => absurd rfl c⟩)), fun c => absurd rfl c⟩
theorem set5 (h : R T τ S) (hQ : ∀ r S', RR S' → Q r r S') : w47 (nI 5) b g S (fun r S1 => w109 (nI 5) b g S1 (fun r2 S2 => Q r r2 S2)) := by
  have h0 : RR S := ⟨T, τ, h⟩
  obtain ⟨L, hL, l1, l2, l3⟩ := R_L h
  refine ⟨fun _ => ⟨fun c => absurd c (by decide), fun c => absurd c (by decide), fun c => absurd c (by decide), fun c => absurd c (by decide), fun _ => ?_, fun c => absurd c (by decide), fun c => absurd c (by decide)⟩, fun c => absurd (show ¬ nI 5 = (2 : Int32) by decide) c⟩
  refine w78_n (by decide) (by decide) ?_
  rw [l1]
  rcases wi_d b (n := L) (by omega) with ⟨j, hj, rfl, hw⟩ | ⟨hw, hne⟩
  · have hw5 : wi (nI j) 5 = 1 := wi_1 (n := 5) (by omega) (by decide)
    have hj5 : j < gsz 6 := show j < 5 by omega
    rw [hw]
    refine ⟨fun c => absurd c (by decide), fun _ => ?_⟩
    by_cases hv : -99 ≤ g ∧ g ≤ 99
    · refine ⟨fun c => absurd c (by decide), fun c => absurd c (by decide), fun c => absurd c (by decide), fun c => absurd c (by decide), fun c => absurd c (by decide), fun c => absurd c (by decide), fun _ => ⟨fun c => absurd c (Int32.not_lt.mpr hv.1), fun _ => ⟨fun c => absurd c (Int32.not_lt.mpr hv.2), fun _ => ?_⟩⟩, fun c => absurd c (by decide)⟩
      refine ⟨fun _ => ?_, fun c => absurd (by decide) c⟩
      rw [it_nI _ (show j < 5 by omega) (by decide), pu_nI _ _ (show j < 5 by omega) (by decide), ← ri_wi_wr]
      have hjj : j < 5 := by omega
      have ea : S.1 16 j = gm S 6 j := by
        rw [← R_w h]
        exact gw_at (w := 10) (o := 6) (by decide) hj5
      have a1 : ag CW S (ri_wi S 16 j g) := ag_wi (ag_refl _ _) (by decide)
      have g1 : gm (ri_wi S 16 j g) = gm S := gm_ag (ag_wi (ag_refl [16] S) (by decide)) (by decide)
      have w1 : gw (ri_wi S 16 j g) 10 = gset (gm S) 6 (upd (gm S 6) j g) := by
        rw [gw_wi (w := 10) (o := 6) (by decide) hj5, R_w h]
      have l2' : (ri_wi S 16 j g).1 50 11 = nI L := by rw [gm_9, g1]; exact l3
      refine sm_in (by decide) (isOf_o hL l2' (by decide) (by decide) (fun j' hj' e => ⟨fun c => absurd c (by decide), fun _ => ⟨fun c => absurd rfl c, fun _ => ?_⟩⟩) (fun hn => absurd rfl (hn j hj)))
      unfold w109_b35
      refine ⟨fun c => absurd c (by decide), fun _ => ⟨fun _ => ⟨fun _ => ⟨fun c => absurd rfl c, fun _ => ?_⟩, fun c => absurd (show ¬ nI 5 = (3 : Int32) by decide) c⟩, fun c => absurd (show ¬ nI 5 = (4 : Int32) by decide) c⟩⟩
      refine w102_g (-99) 99 (fun q1 q2 => ⟨fun _ => ?_, fun c => absurd (by decide) c⟩) (fun hn => absurd hv hn)
      refine tm_in (by decide) (isOf_o hL l2' (by decide) (by decide) (fun j' hj' e => ⟨fun _ => ⟨fun _ => ⟨fun c => absurd c (by decide), fun _ => ?_⟩, fun c => absurd (by decide) c⟩, fun c => absurd (by decide) c⟩) (fun hn => absurd rfl (hn j hj)))
      rw [x5_k j 5 (by decide), nI_clamp (by omega), row_2 hjj, g1, ea]
      refine ⟨vp_in_nI (by omega) (by decide), ?_⟩
      unfold w110
      refine ⟨fun _ => ⟨fun _ => ⟨fun _ => ⟨fun c => absurd c (by decide), fun _ => ?_⟩, fun c => absurd (show ¬ nI 5 = (2 : Int32) by decide) c⟩, fun c => absurd (show ¬ nI 5 = (1 : Int32) by decide) c⟩, fun c => absurd (show ¬ nI 5 = 0 by decide) c⟩
      rw [x5_k j 5 (by decide), nI_clamp (by omega)]
      refine ⟨vp_in_nI (by omega) (by decide), ?_⟩
      have b1 : am MX MG (ri_wi S 16 j g) (ri_wi (ri_wi S 16 j g) 56 (5 * j + 2) g) := am_wi (am_refl _ _ _) (by decide) (by decide)
      have g2 : gm (ri_wi (ri_wi S 16 j g) 56 (5 * j + 2) g) = gset (gm S) 6 (upd (gm S 6) j g) := by rw [gm_row2 _ hjj, g1]
      have hv2 : -99 ≤ g.toInt ∧ g.toInt ≤ 99 := ⟨Int32.le_iff_toInt_le.mp hv.1, Int32.le_iff_toInt_le.mp hv.2⟩
      exact hQ _ _ ⟨T, τ, R_wr h a1 b1 (by rw [g2, gw_am (by decide) b1 (in8 (by decide)), w1]) (by rw [g2]; exact gwd_6 h.1.2 hv2)⟩
    · have fin : ∀ S3, S3 = S → w109 (nI 5) (nI j) g S3 (fun r2 S2 => Q (-1000) r2 S2) := by
        intro S3 e3
        subst e3
        refine sm_in (by decide) (isOf_o hL l2 (by decide) (by decide) (fun j' hj' e => ⟨fun c => absurd c (by decide), fun _ => ⟨fun c => absurd rfl c, fun _ => ?_⟩⟩) (fun hn => absurd rfl (hn j hj)))
        unfold w109_b35
        refine ⟨fun c => absurd c (by decide), fun _ => ⟨fun _ => ⟨fun _ => ⟨fun c => absurd rfl c, fun _ => ?_⟩, fun c => absurd (show ¬ nI 5 = (3 : Int32) by decide) c⟩, fun c => absurd (show ¬ nI 5 = (4 : Int32) by decide) c⟩⟩
        refine w102_g (-99) 99 (fun q1 q2 => absurd ⟨q1, q2⟩ hv) (fun hn => ⟨fun c => absurd rfl c, fun _ => hQ _ _ h0⟩)
      refine ⟨fun c => absurd c (by decide), fun c => absurd c (by decide), fun c => absurd c (by decide), fun c => absurd c (by decide), fun c => absurd c (by decide), fun c => absurd c (by decide), fun _ => ?_, fun c => absurd c (by decide)⟩
      refine ⟨fun c => ⟨fun c2 => absurd rfl c2, fun _ => fin _ rfl⟩, fun c => ⟨fun c2 => ⟨fun c3 => absurd rfl c3, fun _ => fin _ rfl⟩, fun c2 => absurd ⟨Int32.not_lt.mp c, Int32.not_lt.mp c2⟩ hv⟩⟩
  · skip
    rw [hw]
    refine ⟨fun _ => sm_in (by decide) (isOf_o hL l2 (by decide) (by decide) (fun j' hj' e => absurd e (hne j' hj')) (fun _ => ⟨fun _ => hQ _ _ h0, fun c => absurd rfl c⟩)), fun c => absurd rfl c⟩
theorem set6 (h : R T τ S) (hQ : ∀ r S', RR S' → Q r r S') : w47 (nI 6) b g S (fun r S1 => w109 (nI 6) b g S1 (fun r2 S2 => Q r r2 S2)) := by
  have h0 : RR S := ⟨T, τ, h⟩
  obtain ⟨L, hL, l1, l2, l3⟩ := R_L h
  refine ⟨fun _ => ⟨fun c => absurd c (by decide), fun c => absurd c (by decide), fun c => absurd c (by decide), fun c => absurd c (by decide), fun c => absurd c (by decide), fun _ => ?_, fun c => absurd c (by decide)⟩, fun c => absurd (show ¬ nI 6 = (2 : Int32) by decide) c⟩
  refine w78_n (by decide) (by decide) ?_
  rw [l1]
  rcases wi_d b (n := L) (by omega) with ⟨j, hj, rfl, hw⟩ | ⟨hw, hne⟩
  · have hw5 : wi (nI j) 5 = 1 := wi_1 (n := 5) (by omega) (by decide)
    have hj5 : j < gsz 7 := show j < 5 by omega
    rw [hw]
    refine ⟨fun c => absurd c (by decide), fun _ => ?_⟩
    rcases wi_d g (n := 1000) (by decide) with ⟨v, hv, rfl, hw2⟩ | ⟨hw2, hne2⟩
    · have hw2 : wi (nI v) 1000 = 1 := hw2
      refine ⟨fun c => absurd c (by decide), fun c => absurd c (by decide), fun c => absurd c (by decide), fun c => absurd c (by decide), fun c => absurd c (by decide), fun c => absurd c (by decide), fun c => absurd c (by decide), fun _ => ⟨wi_b _ _, ?_⟩⟩
      rw [hw2]
      refine ⟨fun _ => ?_, fun c => absurd (by decide) c⟩
      rw [it_nI _ (show j < 5 by omega) (by decide), pu_nI _ _ (show j < 5 by omega) (by decide), ← ri_wi_wr]
      have hjj : j < 5 := by omega
      have ea : S.1 17 j = gm S 7 j := by
        rw [← R_w h]
        exact gw_at (w := 10) (o := 7) (by decide) hj5
      have a1 : ag CW S (ri_wi S 17 j (nI v)) := ag_wi (ag_refl _ _) (by decide)
      have g1 : gm (ri_wi S 17 j (nI v)) = gm S := gm_ag (ag_wi (ag_refl [17] S) (by decide)) (by decide)
      have w1 : gw (ri_wi S 17 j (nI v)) 10 = gset (gm S) 7 (upd (gm S 7) j (nI v)) := by
        rw [gw_wi (w := 10) (o := 7) (by decide) hj5, R_w h]
      have l2' : (ri_wi S 17 j (nI v)).1 50 11 = nI L := by rw [gm_9, g1]; exact l3
      refine sm_in (by decide) (isOf_o hL l2' (by decide) (by decide) (fun j' hj' e => ⟨fun c => absurd c (by decide), fun _ => ⟨fun _ => ?_, fun c => absurd (show ¬ nI 6 = (5 : Int32) by decide) c⟩⟩) (fun hn => absurd rfl (hn j hj)))
      unfold w109_b35
      refine ⟨fun c => absurd c (by decide), fun _ => ⟨fun _ => ⟨fun _ => ⟨fun _ => ?_, fun c => absurd (show ¬ nI 6 = (5 : Int32) by decide) c⟩, fun c => absurd (show ¬ nI 6 = (3 : Int32) by decide) c⟩, fun c => absurd (show ¬ nI 6 = (4 : Int32) by decide) c⟩⟩
      refine w102_n (m := 999) (by decide) (by decide) (fun v' hv' e' => ⟨fun _ => ?_, fun c => absurd (by decide) c⟩) (fun hn => absurd rfl (hn v hv))
      refine tm_in (by decide) (isOf_o hL l2' (by decide) (by decide) (fun j' hj' e => ⟨fun _ => ⟨fun _ => ⟨fun c => absurd c (by decide), fun _ => ?_⟩, fun c => absurd (by decide) c⟩, fun c => absurd (by decide) c⟩) (fun hn => absurd rfl (hn j hj)))
      rw [x5_k j 6 (by decide), nI_clamp (by omega), row_3 hjj, g1, ea]
      refine ⟨vp_in_nI (by omega) (by decide), ?_⟩
      unfold w110
      refine ⟨fun _ => ⟨fun _ => ⟨fun _ => ⟨fun c => absurd c (by decide), fun _ => ?_⟩, fun c => absurd (show ¬ nI 6 = (2 : Int32) by decide) c⟩, fun c => absurd (show ¬ nI 6 = (1 : Int32) by decide) c⟩, fun c => absurd (show ¬ nI 6 = 0 by decide) c⟩
      rw [x5_k j 6 (by decide), nI_clamp (by omega)]
      refine ⟨vp_in_nI (by omega) (by decide), ?_⟩
      have b1 : am MX MG (ri_wi S 17 j (nI v)) (ri_wi (ri_wi S 17 j (nI v)) 56 (5 * j + 3) (nI v)) := am_wi (am_refl _ _ _) (by decide) (by decide)
      have g2 : gm (ri_wi (ri_wi S 17 j (nI v)) 56 (5 * j + 3) (nI v)) = gset (gm S) 7 (upd (gm S 7) j (nI v)) := by rw [gm_row3 _ hjj, g1]
      exact hQ _ _ ⟨T, τ, R_wr h a1 b1 (by rw [g2, gw_am (by decide) b1 (in8 (by decide)), w1]) (by rw [g2]; exact gwd_7 h.1.2 hv)⟩
    · have hw2 : wi g 1000 = 0 := hw2
      refine ⟨fun c => absurd c (by decide), fun c => absurd c (by decide), fun c => absurd c (by decide), fun c => absurd c (by decide), fun c => absurd c (by decide), fun c => absurd c (by decide), fun c => absurd c (by decide), fun _ => ⟨wi_b _ _, ?_⟩⟩
      rw [hw2]
      refine ⟨fun c => absurd rfl c, fun _ => ?_⟩
      refine sm_in (by decide) (isOf_o hL l2 (by decide) (by decide) (fun j' hj' e => ⟨fun c => absurd c (by decide), fun _ => ⟨fun _ => ?_, fun c => absurd (show ¬ nI 6 = (5 : Int32) by decide) c⟩⟩) (fun hn => absurd rfl (hn j hj)))
      unfold w109_b35
      refine ⟨fun c => absurd c (by decide), fun _ => ⟨fun _ => ⟨fun _ => ⟨fun _ => ?_, fun c => absurd (show ¬ nI 6 = (5 : Int32) by decide) c⟩, fun c => absurd (show ¬ nI 6 = (3 : Int32) by decide) c⟩, fun c => absurd (show ¬ nI 6 = (4 : Int32) by decide) c⟩⟩
      refine w102_n (m := 999) (by decide) (by decide) (fun v' hv' e' => absurd e' (hne2 v' hv')) (fun hn => ⟨fun c => absurd rfl c, fun _ => hQ _ _ h0⟩)
  · skip
    rw [hw]
    refine ⟨fun _ => sm_in (by decide) (isOf_o hL l2 (by decide) (by decide) (fun j' hj' e => absurd e (hne j' hj')) (fun _ => ⟨fun _ => hQ _ _ h0, fun c => absurd rfl c⟩)), fun c => absurd rfl c⟩
theorem set2 (h : R T τ S) (hQ : ∀ r S', RR S' → Q r r S') : w47 (nI 2) b g S (fun r S1 => w109 (nI 2) b g S1 (fun r2 S2 => Q r r2 S2)) := by
  have h0 : RR S := ⟨T, τ, h⟩
  refine ⟨fun c => absurd rfl c, fun _ => ?_⟩
  unfold w76
  rcases wi_d g (n := 1000) (by decide) with ⟨v, hv, rfl, hw⟩ | ⟨hw, hne⟩
  · refine ⟨fun c => absurd c (nI_pos (by omega)), fun _ => ⟨fun _ => ?_, fun c => absurd (nI_le (b := 999) (by omega) (by decide)) c⟩⟩
    have ea : S.1 10 10 = gm S 0 10 := by rw [gw_0 S 10 10 (by decide), R_w h]
    have a1 : ag CW S (ri_wi S 10 10 (nI v)) := ag_wi (ag_refl _ _) (by decide)
    have g1 : gm (ri_wi S 10 10 (nI v)) = gm S := gm_ag (ag_wi (ag_refl [10] S) (by decide)) (by decide)
    have w1 : gw (ri_wi S 10 10 (nI v)) 10 = gset (gm S) 0 (upd (gm S 0) 10 (nI v)) := by
      rw [gw_wi0 _ 10 10 _ (by decide), R_w h]
    refine sm_in (by decide) (isOf_2 ⟨fun c => absurd c (by decide), fun _ => ⟨fun _ => ?_, fun c => absurd (show ¬ nI 2 = (5 : Int32) by decide) c⟩⟩)
    unfold w109_b35
    refine ⟨fun c => absurd c (by decide), fun _ => ⟨fun _ => ⟨fun _ => ⟨fun _ => ?_, fun c => absurd (show ¬ nI 2 = (5 : Int32) by decide) c⟩, fun c => absurd (show ¬ nI 2 = (3 : Int32) by decide) c⟩, fun c => absurd (show ¬ nI 2 = (4 : Int32) by decide) c⟩⟩
    refine w102_n (m := 999) (by decide) (by decide) (fun v' hv' e' => ⟨fun _ => ?_, fun c => absurd (by decide) c⟩) (fun hn => absurd rfl (hn v hv))
    refine tm_in (by decide) (isOf_2 ⟨fun _ => ⟨fun c => absurd c (by decide), fun _ => ⟨fun _ => ⟨fun _ => ?_, fun c => absurd (show ¬ nI 2 = (1 : Int32) by decide) c⟩, fun c => absurd (show ¬ nI 2 = 0 by decide) c⟩⟩, fun c => absurd (by decide) c⟩)
    unfold w110
    refine ⟨fun _ => ⟨fun _ => ⟨fun c => absurd rfl c, fun _ => ?_⟩, fun c => absurd (show ¬ nI 2 = (1 : Int32) by decide) c⟩, fun c => absurd (show ¬ nI 2 = 0 by decide) c⟩
    rw [gm_10, g1, ea]
    have b1 : am MX MG (ri_wi S 10 10 (nI v)) (ri_wi (ri_wi S 10 10 (nI v)) 50 7 (nI v)) := am_f (am_refl _ _ _) (by decide)
    have g2 : gm (ri_wi (ri_wi S 10 10 (nI v)) 50 7 (nI v)) = gset (gm S) 0 (upd (gm S 0) 10 (nI v)) := by rw [gm_ny, g1]
    exact hQ _ _ ⟨T, τ, R_wr h a1 b1 (by rw [g2, gw_am (by decide) b1 (in8 (by decide)), w1]) (by rw [g2]; exact gwd_y h.1.2 (by omega))⟩
  · have fin : w109 (nI 2) b g S (fun r2 S2 => Q (-1000) r2 S2) := by
      refine sm_in (by decide) (isOf_2 ⟨fun c => absurd c (by decide), fun _ => ⟨fun _ => ?_, fun c => absurd (show ¬ nI 2 = (5 : Int32) by decide) c⟩⟩)
      unfold w109_b35
      refine ⟨fun c => absurd c (by decide), fun _ => ⟨fun _ => ⟨fun _ => ⟨fun _ => ?_, fun c => absurd (show ¬ nI 2 = (5 : Int32) by decide) c⟩, fun c => absurd (show ¬ nI 2 = (3 : Int32) by decide) c⟩, fun c => absurd (show ¬ nI 2 = (4 : Int32) by decide) c⟩⟩
      exact w102_n (m := 999) (by decide) (by decide) (fun v' hv' e' => absurd e' (hne v' hv')) (fun hn => ⟨fun c => absurd rfl c, fun _ => hQ _ _ h0⟩)
    refine ⟨fun _ => fin, fun c => ⟨fun c2 => ?_, fun _ => fin⟩⟩
    obtain ⟨v, hv, e⟩ := nI_of2 (x := g) (M := 999) (n := 999) rfl c c2
    exact absurd e (hne v (by omega))
theorem f_set {a : Int32} (h : RR S) (hQ : ∀ r S', RR S' → Q r r S') : w47 a b g S (fun r S1 => w109 a b g S1 (fun r2 S2 => Q r r2 S2)) := by
  have h0 := h
  obtain ⟨T, τ, h⟩ := h
  rcases wi_d a (n := 7) (by decide) with ⟨k, hk, rfl, hw⟩ | ⟨hw, hne⟩
  · match k, hk with
    | 0, _ => exact set0 h hQ
    | 1, _ => exact set1 h hQ
    | 2, _ => exact set2 h hQ
    | 3, _ => exact set3 h hQ
    | 4, _ => exact set4 h hQ
    | 5, _ => exact set5 h hQ
    | 6, _ => exact set6 h hQ
    | k + 7, hk => exact absurd hk (by omega)
  · have fin : w109 a b g S (fun r2 S2 => Q (-1000) r2 S2) := sm_out hne (hQ _ _ h0)
    exact ⟨fun _ => ⟨fun c => absurd c (hne 0 (by decide)), fun c => absurd c (hne 1 (by decide)), fun c => absurd c (hne 3 (by decide)), fun c => absurd c (hne 4 (by decide)), fun c => absurd c (hne 5 (by decide)), fun c => absurd c (hne 6 (by decide)), fun _ => fin⟩, fun c => absurd (Decidable.not_not.mp c) (hne 2 (by decide))⟩
end SET
