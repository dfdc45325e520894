/-! force, year, spoon, count -/
section FORCE
variable {a b : Int32} {S : ri_H} {Q : Int32 → Int32 → ri_H → Prop}
theorem f_force (h : RR S) (hQ : ∀ r S', RR S' → Q r r S') : w53 a S (fun r S1 => w163 a S1 (fun r2 S2 => Q r r2 S2)) := by
  have h0 := h
  obtain ⟨T, τ, h⟩ := h
  obtain ⟨t1, t2, t3, t4, t5⟩ := h.2.1
  unfold w53
  rw [t3]
  have em : ∀ S1 : ri_H, S1.1 50 3 = nI T → S1.1 50 3 - 1 = nI (T - 1) := fun S1 e => by
    rw [e, show nI T - 1 = nI (T - 1) from pk_sub (b := 1) t1]
  rcases wi_d a (n := T) (by omega) with ⟨r, hr, rfl, hw⟩ | ⟨hw, hne⟩
  · rw [hw]
    refine ⟨fun _ => ?_, fun c => absurd (by decide) c⟩
    have a1 : ag CW S (ri_wi S 10 11 (nI r)) := ag_wi (ag_refl _ _) (by decide)
    have g1 : gm (ri_wi S 10 11 (nI r)) = gm S := gm_ag (ag_wi (ag_refl [10] S) (by decide)) (by decide)
    have ea : S.1 10 11 = gm S 0 11 := by rw [gw_0 S 10 11 (by decide), R_w h]
    show w163 (nI r) (ri_wi S 10 11 (nI r)) (fun r2 S2 => Q (S.1 10 11) r2 S2)
    unfold w163
    rw [em _ (by rw [ri_wi_o _ _ _ (by decide)]; exact t4)]
    refine w102_n (m := T - 1) (by omega) rfl (fun _ _ _ => ⟨fun _ => ?_, fun c => absurd (by decide) c⟩) (fun hh => absurd rfl (hh r (by omega)))
    rw [gm_11, g1, ea]
    have b1 : am MX MG (ri_wi S 10 11 (nI r)) (ri_wi (ri_wi S 10 11 (nI r)) 50 4 (nI r)) := am_f (am_refl _ _ _) (by decide)
    have g2 : gm (ri_wi (ri_wi S 10 11 (nI r)) 50 4 (nI r)) = gset (gm S) 0 (upd (gm S 0) 11 (nI r)) := by rw [gm_f4, g1]
    refine hQ _ _ ⟨T, τ, R_wr h a1 b1 ?_ (by rw [g2]; exact gwd_r h.1.2 hr)⟩
    rw [g2, gw_am (by decide) b1 (in8 (by decide)), gw_wi0 _ 10 11 _ (by decide), R_w h]
  · rw [hw]
    refine ⟨fun c => absurd rfl c, fun _ => ?_⟩
    show w163 a S (fun r2 S2 => Q (-2) r2 S2)
    unfold w163
    rw [em _ t4]
    exact w102_n (m := T - 1) (by omega) rfl (fun j hj e => absurd e (hne j (by omega))) (fun _ => ⟨fun c => absurd rfl c, fun _ => hQ _ _ h0⟩)
theorem yr_10 (τ : Int32 → Int32 → List Int32) (t : Int32) (g : Nat → Nat → Int32) : p_yr τ t g 0 10 = g 0 10 + 1 := by
  unfold p_yr p_ny
  rw [gset_s, pk_us, p_yl_0]
theorem yr_o (τ : Int32 → Int32 → List Int32) (t : Int32) (g : Nat → Nat → Int32) {j : Nat} (h : j ≠ 10) : p_yr τ t g 0 j = g 0 j := by
  unfold p_yr p_ny
  rw [gset_s, pk_un h, p_yl_0]
theorem f_year (h : RR S) (hQ : ∀ r S', RR S' → Q r r S') : w54 S (fun r S1 => w172 S1 (fun r2 S2 => Q r r2 S2)) := by
  have h0 := h
  obtain ⟨T, τ, h⟩ := h
  obtain ⟨L, hL, l1, l2, l3⟩ := R_L h
  obtain ⟨y, hy, ey⟩ := h.1.2.2.1
  unfold w54
  have e10 : S.1 10 10 = nI y := by rw [gw_0 S 10 10 (by decide), R_w h, ey]
  rw [e10]
  refine ⟨fun c => ?_, fun c => ?_⟩
  · have hlt : y < 999 := (nI_ltI (b := 999) (by omega) (by decide)).mp c
    refine w39_ok (Or.inl rfl) (by rw [R_w h]; exact l3) (by omega) (R_tc h) (fun S1 a1 e1 => w37_ok ?_)
    have a1 : ag CW S S1 := ag_mo a1 (by decide)
    have g1 : gm S1 = gm S := gm_ag a1 (by decide)
    have mt1 : mt S1 τ (gm S1 0 11) := by
      rw [g1]
      exact mt_of (R_mt h) (a1 51 (by decide)).1 (a1 52 (by decide)).1
    show w172 S1 (fun r2 S2 => Q (p_all (gw S1 10)) r2 S2)
    unfold w172
    have e7 : S1.1 50 7 = nI y := by rw [gm_10, g1, ey]
    rw [e7]
    refine ⟨fun _ => w171_ok (by rw [g1]; exact R_ok h) mt1 (fun S2 a2 e2 => w169_ok ?_), fun c => absurd (Decidable.not_not.mp c) (fun e => ?_)⟩
    · have b1 : am MX MG S1 S2 := am_mo a2 (by decide) (by decide)
      have ge : gw S2 10 = gm S2 := by rw [gw_am (by decide) b1 (in8 (by decide)), e1, e2, g1, R_w h]
      rw [← ge, gw_am (by decide) b1 (in8 (by decide))]
      refine hQ _ _ ⟨T, τ, R_wr h a1 b1 ge ?_⟩
      rw [e2, g1]
      refine ⟨gok_yr (R_ok h), ⟨y + 1, by omega, ?_⟩, ?_⟩
      · rw [yr_10, ey, nI_1]
      · rw [yr_o _ _ _ (by decide)]
        exact h.1.2.2.2
    · have := nI_inj (b := 999) (by omega) (by decide) e
      omega
  · have h999 : y = 999 := by
      rcases Nat.lt_or_ge y 999 with q | q
      · exact absurd (nI_lt q (by decide)) c
      · omega
    show w172 S (fun r2 S2 => Q (-3) r2 S2)
    unfold w172
    rw [gm_10, ey]
    subst h999
    exact ⟨fun c => absurd rfl c, fun _ => hQ _ _ h0⟩
theorem mood_b {v : Int32} : -99 ≤ (hd v (-99) 99).toInt ∧ (hd v (-99) 99).toInt ≤ 99 := by
  have h := hd_int v (-99) 99 (by decide)
  have e1 : (-99 : Int32).toInt = -99 := rfl
  have e2 : (99 : Int32).toInt = 99 := rfl
  rw [e1, e2] at h
  rw [h]
  split
  · omega
  · split <;> omega
theorem f_spoon (h : RR S) (hQ : ∀ r S', RR S' → Q r r S') : w55 a b S (fun r S1 => w173 a b S1 (fun r2 S2 => Q r r2 S2)) := by
  have h0 := h
  obtain ⟨T, τ, h⟩ := h
  obtain ⟨L, hL, l1, l2, l3⟩ := R_L h
  unfold w55
  rw [l1]
  rcases wi_d a (n := L) (by omega) with ⟨p, hp, rfl, hw⟩ | ⟨hw, hne⟩
  · rw [hw]
    refine ⟨fun c => absurd c (by decide), fun _ => ?_⟩
    rcases wi_d b (n := 24) (by decide) with ⟨k, hk, rfl, hw2⟩ | ⟨hw2, hne2⟩
    · have hw2 : wi (nI k) 24 = 1 := hw2
      rw [hw2]
      refine ⟨fun _ => ?_, fun c => absurd (by decide) c⟩
      obtain ⟨k0, k1, k2, k3, k4, k5, k6, k7⟩ := R_ok h
      obtain ⟨u, hu, eu⟩ := k2 k hk
      have ej : it (S.1 12) 24 (nI k) = nI u := by
        rw [gw_it S 10 2 24 rfl (by decide), R_w h, it_nI _ hk (by decide), eu]
      rw [ej]
      have p5 : p < 5 := by omega
      obtain ⟨m, hm, em⟩ := k7 p p5
      refine ⟨fun c => ?_, fun c => ?_⟩
      · have hu1 : 1 ≤ u := (nI_leI (a := 1) (by decide) (by omega)).mp c
        refine w43_ok (Or.inl rfl) (R_tc h) (fun S1 a1 e1 => ?_)
        have a1 : ag CW S S1 := ag_mo a1 (by decide)
        have g1 : gm S1 = gm S := gm_ag a1 (by decide)
        have mt1 : mt S1 τ (gm S1 0 11) := by
          rw [g1]
          exact mt_of (R_mt h) (a1 51 (by decide)).1 (a1 52 (by decide)).1
        have l2' : S1.1 50 11 = nI L := by rw [gm_9, g1]; exact l3
        show w173 (nI p) (nI k) S1 (fun r2 S2 => Q (p_mood τ (gw S 10) (nI p) (nI k)) r2 S2)
        unfold w173
        refine w104_ok hL l2' (fun _ _ _ => ⟨fun c => absurd c (by decide), fun _ => w106_ok (fun _ _ _ => ⟨fun _ => ?_, fun c => absurd (by decide) c⟩) (fun hh => absurd rfl (hh k hk))⟩) (fun hh => absurd rfl (hh p hp))
        rw [x5_2, x5_3, nI_clamp (n := k) (by omega), nI_clamp (n := 5 * p + 2) (by omega), nI_clamp (n := 5 * p + 3) (by omega), gm_2 hk, g1, eu]
        refine ⟨vp_in_nI hk (by decide), fun _ => ⟨vp_in_nI (by omega) (by decide), w167_ok p5 hk mt1 (fun S5 a5 => w103_ok (by decide) ?_)⟩, fun c => absurd (Decidable.not_not.mp c) (nI_ne0 (by omega) (by omega))⟩
        have g5 : gm S5 = gm S := (gm_F1 a5).trans g1
        rw [row_2 p5, g1]
        have er3 : (ri_wi S5 56 (5 * p + 2) (hd (gm S 6 p + p_fl τ (gm S) (nI p) (nI k)) (-99) 99)).1 56 (5 * p + 3) = nI m := by
          rw [ri_wi_1, pk_un (by omega), row_3 p5, g5, em]
        rw [er3]
        refine ⟨vp_in_nI (by omega) (by decide), vp_in_nI (by omega) (by decide), w103_ok (by decide) ⟨vp_in_nI (by omega) (by decide), vp_in_nI hk (by decide), vp_in_nI hk (by decide), vp_in_nI (by omega) (by decide), ?_⟩⟩
        have e55 : (ri_wi S5 56 (5 * p + 2) (hd (gm S 6 p + p_fl τ (gm S) (nI p) (nI k)) (-99) 99)).1 55 k = nI u := by
          rw [ri_wi_o _ _ _ (by decide), gm_2 hk, g5, eu]
        have eans : (ri_wi (ri_wi S5 56 (5 * p + 2) (hd (gm S 6 p + p_fl τ (gm S) (nI p) (nI k)) (-99) 99)) 56 (5 * p + 3) (hd (nI m + 1) 0 999)).1 56 (5 * p + 2) = hd (gm S 6 p + p_fl τ (gm S) (nI p) (nI k)) (-99) 99 := by
          rw [ri_wi_1, pk_un (by omega), ri_wi_1, pk_us]
        rw [e55, eans, show nI u - 1 = nI (u - 1) from pk_sub (b := 1) hu1]
        have ecl : hd (nI m + 1) 0 999 = p_min (nI m + 1) := p_min_hd (b := 1) hm (by decide)
        obtain ⟨m', hm', em'⟩ := p_min_rg (a := m) (b := 1) hm (by decide)
        have em' : p_min (nI m + 1) = nI m' := em'
        rw [ecl, em']
        have emood : p_mood τ (gw S 10) (nI p) (nI k) = hd (gm S 6 p + p_fl τ (gm S) (nI p) (nI k)) (-99) 99 := by
          unfold p_mood
          rw [R_w h, it_nI _ p5 (by decide)]
        have gfin : gm (ri_wi (ri_wi (ri_wi S5 56 (5 * p + 2) (hd (gm S 6 p + p_fl τ (gm S) (nI p) (nI k)) (-99) 99)) 56 (5 * p + 3) (nI m')) 55 k (nI (u - 1))) = gset (gset (gset (gm S) 6 (upd (gm S 6) p (hd (gm S 6 p + p_fl τ (gm S) (nI p) (nI k)) (-99) 99))) 7 (upd (gm S 7) p (nI m'))) 2 (upd (gm S 2) k (nI (u - 1))) := by
          rw [gm_wi55 _ hk, gm_row3 _ p5, gm_row2 _ p5, g5]
          rfl
        have efin : p_eat τ (gw S 10) (nI p) (nI k) = gset (gset (gset (gm S) 6 (upd (gm S 6) p (hd (gm S 6 p + p_fl τ (gm S) (nI p) (nI k)) (-99) 99))) 7 (upd (gm S 7) p (nI m'))) 2 (upd (gm S 2) k (nI (u - 1))) := by
          unfold p_eat
          rw [emood, R_w h, pu_nI _ _ p5 (by decide), pu_nI _ _ p5 (by decide), pu_nI _ _ hk (by decide), it_nI _ p5 (by decide), it_nI _ hk (by decide), em, eu, em', show nI u - 1 = nI (u - 1) from pk_sub (b := 1) hu1]
        have b1 : am MX MG S1 (ri_wi (ri_wi (ri_wi S5 56 (5 * p + 2) (hd (gm S 6 p + p_fl τ (gm S) (nI p) (nI k)) (-99) 99)) 56 (5 * p + 3) (nI m')) 55 k (nI (u - 1))) := am_wi (am_wi (am_wi (am_mo a5 (by decide) (by decide)) (by decide) (by decide)) (by decide) (by decide)) (by decide) (by decide)
        rw [emood]
        refine hQ _ _ ⟨T, τ, R_wr h a1 b1 ?_ ?_⟩
        · rw [gfin, gw_am (by decide) b1 (in8 (by decide)), e1, efin]
        · rw [gfin]
          have q1 := gwd_6 (j := p) h.1.2 (x := hd (gm S 6 p + p_fl τ (gm S) (nI p) (nI k)) (-99) 99) mood_b
          have q2 := gwd_7 (j := p) q1 hm'
          exact gwd_2 (j := k) q2 (v := u - 1) (by omega)
      · have hu0 : u = 0 := by
          rcases Nat.lt_or_ge u 1 with q | q
          · omega
          · exact absurd (nI_le q (by omega)) c
        show w173 (nI p) (nI k) S (fun r2 S2 => Q (-1003) r2 S2)
        unfold w173
        refine w104_ok hL l2 (fun _ _ _ => ⟨fun c => absurd c (by decide), fun _ => w106_ok (fun _ _ _ => ⟨fun _ => ?_, fun c => absurd (by decide) c⟩) (fun hh => absurd rfl (hh k hk))⟩) (fun hh => absurd rfl (hh p hp))
        rw [nI_clamp (n := k) (by omega), gm_2 hk, eu]
        subst hu0
        exact ⟨vp_in_nI hk (by decide), fun c => absurd rfl c, fun _ => hQ _ _ h0⟩
    · have hw2 : wi b 24 = 0 := hw2
      rw [hw2]
      refine ⟨fun c => absurd rfl c, fun _ => ?_⟩
      exact w104_ok hL l2 (fun _ _ _ => ⟨fun c => absurd c (by decide), fun _ => w106_ok (fun j hj e => absurd e (hne2 j hj)) (fun _ => ⟨fun c => absurd rfl c, fun _ => hQ _ _ h0⟩)⟩) (fun hh => absurd rfl (hh p hp))
  · rw [hw]
    exact ⟨fun _ => w104_ok hL l2 (fun j hj e => absurd e (hne j hj)) (fun _ => ⟨fun _ => hQ _ _ h0, fun c => absurd rfl c⟩), fun c => absurd rfl c⟩
theorem f_count (h : RR S) (hQ : ∀ r S', RR S' → Q r r S') : w70 a S (fun r S1 => w198 a S1 (fun r2 S2 => Q r r2 S2)) := by
  have h0 := h
  obtain ⟨T, τ, h⟩ := h
  obtain ⟨L, hL, l1, l2, l3⟩ := R_L h
  obtain ⟨t1, t2, t3, t4, t5⟩ := h.2.1
  obtain ⟨n, hn, e1, e2, e3⟩ := h.2.2.1
  unfold w70
  have lit : ∀ {x y : Int32}, ¬ x = y → ∀ {P : Prop}, ¬ ¬ x = y → P := fun h _ c => absurd h c
  rcases wi_d a (n := 6) (by decide) with ⟨k, hk, rfl, hw⟩ | ⟨hw, hne⟩
  · have M : ∀ (r : Int32), ((¬ nI k = 0 → ((¬ nI k = (1 : Int32) → ((¬ nI k = (2 : Int32) → ((¬ nI k = (3 : Int32) → ((¬ nI k = (4 : Int32) → Q r (S.1 50 4) S) ∧ (¬ (¬ nI k = (4 : Int32)) → Q r (S.1 50 6) S))) ∧ (¬ (¬ nI k = (3 : Int32)) → Q r (S.1 50 3) S))) ∧ (¬ (¬ nI k = (2 : Int32)) → Q r (S.1 50 7) S))) ∧ (¬ (¬ nI k = (1 : Int32)) → w169 S (fun (r4 : Int32) (S3 : ri_H) => Q r r4 S3)))) ∧ (¬ (¬ nI k = 0) → Q r (S.1 50 11) S)) → w198 (nI k) S (fun r2 S2 => Q r r2 S2) := fun r hM =>
      w102_n (m := 5) (by decide) (by decide) (fun _ _ _ => ⟨fun _ => hM, fun c => absurd (by decide) c⟩) (fun hh => absurd rfl (hh k hk))
    match k, hk, M with
    | 0, _, M =>
      refine ⟨fun c => absurd c (by decide), fun _ => M _ ⟨fun c => absurd rfl c, fun _ => ?_⟩, fun c => absurd c (by decide), fun c => absurd c (by decide), fun c => absurd c (by decide), fun c => absurd c (by decide), fun c => absurd c (by decide)⟩
      rw [l1, l2]
      exact hQ _ _ h0
    | 1, _, M =>
      refine ⟨fun c => absurd c (by decide), fun c => absurd c (by decide), fun _ => w37_ok (M _ ⟨fun _ => ⟨fun c => absurd rfl c, fun _ => w169_ok ?_⟩, fun c => lit (show ¬ nI 1 = 0 by decide) c⟩), fun c => absurd c (by decide), fun c => absurd c (by decide), fun c => absurd c (by decide), fun c => absurd c (by decide)⟩
      rw [R_w h]
      exact hQ _ _ h0
    | 2, _, M =>
      refine ⟨fun c => absurd c (by decide), fun c => absurd c (by decide), fun c => absurd c (by decide), fun _ => M _ ⟨fun _ => ⟨fun _ => ⟨fun c => absurd rfl c, fun _ => ?_⟩, fun c => lit (show ¬ nI 2 = 1 by decide) c⟩, fun c => lit (show ¬ nI 2 = 0 by decide) c⟩, fun c => absurd c (by decide), fun c => absurd c (by decide), fun c => absurd c (by decide)⟩
      rw [gw_0 S 10 10 (by decide), R_w h, gm_10]
      exact hQ _ _ h0
    | 3, _, M =>
      refine ⟨fun c => absurd c (by decide), fun c => absurd c (by decide), fun c => absurd c (by decide), fun c => absurd c (by decide), fun _ => M _ ⟨fun _ => ⟨fun _ => ⟨fun _ => ⟨fun c => absurd rfl c, fun _ => ?_⟩, fun c => lit (show ¬ nI 3 = 2 by decide) c⟩, fun c => lit (show ¬ nI 3 = 1 by decide) c⟩, fun c => lit (show ¬ nI 3 = 0 by decide) c⟩, fun c => absurd c (by decide), fun c => absurd c (by decide)⟩
      rw [t3, t4]
      exact hQ _ _ h0
    | 4, _, M =>
      refine ⟨fun c => absurd c (by decide), fun c => absurd c (by decide), fun c => absurd c (by decide), fun c => absurd c (by decide), fun c => absurd c (by decide), fun _ => M _ ⟨fun _ => ⟨fun _ => ⟨fun _ => ⟨fun _ => ⟨fun c => absurd rfl c, fun _ => ?_⟩, fun c => lit (show ¬ nI 4 = 3 by decide) c⟩, fun c => lit (show ¬ nI 4 = 2 by decide) c⟩, fun c => lit (show ¬ nI 4 = 1 by decide) c⟩, fun c => lit (show ¬ nI 4 = 0 by decide) c⟩, fun c => absurd c (by decide)⟩
      rw [e1, e2]
      exact hQ _ _ h0
    | 5, _, M =>
      refine ⟨fun c => absurd c (by decide), fun c => absurd c (by decide), fun c => absurd c (by decide), fun c => absurd c (by decide), fun c => absurd c (by decide), fun c => absurd c (by decide), fun _ => M _ ⟨fun _ => ⟨fun _ => ⟨fun _ => ⟨fun _ => ⟨fun _ => ?_, fun c => lit (show ¬ nI 5 = 4 by decide) c⟩, fun c => lit (show ¬ nI 5 = 3 by decide) c⟩, fun c => lit (show ¬ nI 5 = 2 by decide) c⟩, fun c => lit (show ¬ nI 5 = 1 by decide) c⟩, fun c => lit (show ¬ nI 5 = 0 by decide) c⟩⟩
      rw [gw_0 S 10 11 (by decide), R_w h, gm_11]
      exact hQ _ _ h0
    | k + 6, hk, _ => exact absurd hk (by omega)
  · have fin : w198 a S (fun r2 S2 => Q (-2) r2 S2) := w102_n (m := 5) (by decide) (by decide) (fun j hj e => absurd e (hne j hj)) (fun _ => ⟨fun c => absurd rfl c, fun _ => hQ _ _ h0⟩)
    exact ⟨fun _ => fin, fun c => absurd c (hne 0 (by decide)), fun c => absurd c (hne 1 (by decide)), fun c => absurd c (hne 2 (by decide)), fun c => absurd c (hne 3 (by decide)), fun c => absurd c (hne 4 (by decide)), fun c => absurd c (hne 5 (by decide))⟩
end FORCE
