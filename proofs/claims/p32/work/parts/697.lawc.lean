/-! the law, a turn of it, from its row of two on -/
section LC
variable {E : ri_E} {S : ri_H} {Q : Int32 → ri_H → Prop}
theorem nI_lt999 {a : Nat} (h : a < 999) : nI a < 999 := nI_lt (b := 999) h (by decide)
theorem rem12 {n : Nat} (h : n < 2 ^ 31) : nI n - nI n / 12 * 12 = nI (n % 12) := pk_rem (d := 12) h (by decide) (by decide)
theorem rem2n {n : Nat} (h : n < 2 ^ 31) : nI n - nI n / 2 * 2 = nI (n % 2) := pk_rem (d := 2) h (by decide) (by decide)
/-- spoons, then all laid back, then a film and what it tells -/
theorem l678_ok {t L y fr has jar : Nat} {a a0 w : Nat → Nat} (hL : 1 ≤ L ∧ L ≤ 5) (hy : y < 20) (hf : fr < 12) (ea : a0 0 = fr) (hj : jar < 24) (hh : has ≤ 10) (hQ : ∀ S', Q (nI t) S') : ∀ d k S, k + d = has → R 1 ta0 S → pw (gw S 10) L (y + 1) a (upn w jar (has - k)) → gw S 10 6 0 = nI (5 * k) → gw S 10 7 0 = nI k → gwd 1 (gw S 28) → pw (gw S 28) L y a0 zv → S.1 0 10 = 1 → wLC_l678 E Q (d + 1) (nI t) (nI fr) (nI jar) (nI has) (nI (k + 1)) S
  | 0, k, S, hk, hR, hp, e6, e7, hw28, hp28, i1 => by
    have hk : k = has := by omega
    subst hk
    unfold wLC_l678
    refine ⟨fun _ => ?_, fun c => absurd (nI_lt (by omega) (by omega)) c⟩
    refine c_spoon (p := 0) (u := 0) hR (l9_of hp) hL.2 hL.1 hj ?_ (by decide) (fun h => absurd h (by decide)) (fun _ => ?_)
    · rw [hp.2.2.2.2.1 jar hj]
      unfold upn
      rw [if_pos rfl, Nat.sub_self]
    refine ⟨fun _ => ?_, fun c => absurd rfl c⟩
    refine c_back i1 (fun S1 a1 e1 r => ?_)
    have hR1 : R 1 ta0 S1 := R_of hR a1 (by decide) (by
      have e : gm S1 = gw S 28 := e1
      rw [e]
      exact hw28)
    have hp1 : pw (gw S1 10) L y a0 zv := by rw [e1]; exact hp28
    have z1 : ∀ k, k < 24 → it (gw S1 10 2) 24 (nI k) ≤ 0 := fun k hk => by
      rw [jar_pl hp1 hk]
      exact Int32.le_refl _
    refine c_best0 (p := 0) hR1 (l9_of hp1) hL.2 hL.1 (fun S2 a2 => ?_)
    rw [sp_none z1 24 (Nat.le_refl _)]
    refine ⟨fun c => absurd rfl c, fun _ => ?_⟩
    have g2 : gw S2 10 = gw S1 10 := c_gm a2
    have hR2 := R_c hR1 a2
    have hp2 : pw (gw S2 10) L y a0 zv := by rw [g2]; exact hp1
    refine c_best2 (p := 0) (l9_of hp2) hL.2 hL.1 ?_
    rw [g2, sf_none z1 24 (Nat.le_refl _)]
    refine ⟨fun c => absurd rfl c, fun _ => ?_⟩
    refine c_count1 ?_
    rw [all_pl hp2, smN_z]
    refine ⟨fun _ => ?_, fun c => absurd rfl c⟩
    refine c_film (p := 0) (n := 9) hR2 (l9_of hp2) hL.2 hL.1 (by decide) (fun S3 t3 => ?_)
    obtain ⟨a3, _, f1, f2, f3⟩ := t3
    have g3 : gw S3 10 = gw S2 10 := gw_ag a3 (in8 (by decide))
    have hR3 : R 1 ta0 S3 := R_of hR2 a3 (by decide) (by
      have e : gm S3 = gw S2 10 := g3
      rw [e]
      exact hR2.1.2)
    have hp3 : pw (gw S3 10) L y a0 zv := by rw [g3]; exact hp2
    have sz := smN_z
    have hf3 : ∀ j, j < 9 → S3.1 39 j = nI (psN y 100 (j + 1) (a0 0)) := fun j hj => by
      have b : 2 * L * (j + 1) ≤ 2 * 5 * 9 := Nat.mul_le_mul (by omega) (by omega)
      have q := f3 j hj
      rw [show 39 + 2 * 0 = 39 from rfl] at q
      rw [q]
      unfold p_flm
      exact at_yrs hp2 hL (by omega) (by omega)
    have e38 : S3.1 38 1 = 0 := f1
    have e38b : S3.1 38 2 = nI 9 := f2
    have tell : ∀ (w : Nat) (S4 : ri_H) (K : Int32 → ri_H → Prop), w < 8 → ag CX S3 S4 → (∀ S', ag CX S3 S' → K (p_tells ta0 (gw S3 10) (fun i => S3.1 39 i) 0 9 L 1 w) S') → w64 (nI 0) (nI 0) (nI w) S4 K := by
      intro w S4 K hw a4 hK
      have g4 : gw S4 10 = gw S3 10 := c_gm a4
      refine c_tell (p := 0) (z := 9) (R_c hR3 a4) (l9_of (k := L) (y := y) (a := a0) (v := zv) (by rw [g4]; exact hp3)) hL.2 hL.1 (by decide) ?_ ?_ hw (fun S5 a5 => ?_)
      · rw [(a4 38 (by decide)).1]
        exact e38
      · rw [(a4 38 (by decide)).1]
        exact e38b
      · rw [g4, (a4 39 (by decide)).1]
        exact hK S5 (ag_tr a4 a5)
    refine tell 0 S3 _ (by decide) (ag_refl _ _) (fun S4 a4 => ?_)
    rw [tells_0 hp3 hL (by omega) sz hf3]
    refine ⟨fun c => absurd rfl c, fun _ => ?_⟩
    refine tell 2 S4 _ (by decide) a4 (fun S5 a5 => ?_)
    rw [tells_2 hp3 hL (by omega) sz hf3]
    refine ⟨fun c => absurd rfl c, fun _ => ?_⟩
    refine tell 4 S5 _ (by decide) a5 (fun S6 a6 => ?_)
    rw [tells_4 hp3 hL (by omega) sz hf3]
    refine ⟨fun c => absurd rfl c, fun _ => ?_⟩
    refine tell 5 S6 _ (by decide) a6 (fun S7 a7 => ?_)
    rw [tells_5 hp3 hL (by omega) sz hf3]
    refine ⟨fun c => absurd rfl c, fun _ => ?_⟩
    refine tell 1 S7 _ (by decide) a7 (fun S8 a8 => ?_)
    rw [tells_1 hp3 hL (by omega) sz hf3]
    refine ⟨fun c => absurd rfl c, fun _ => ?_⟩
    refine tell 3 S8 _ (by decide) a8 (fun S9 a9 => ?_)
    have q3 := tells_3 hp3 hL (by omega) sz hf3
    rw [ea] at q3
    rw [q3]
    exact ⟨fun _ => hQ S9, fun c => absurd rfl c⟩
  | d + 1, k, S, hk, hR, hp, e6, e7, hw28, hp28, i1 => by
    have hu : upn w jar (has - k) jar = has - k := by
      unfold upn
      rw [if_pos rfl]
    unfold wLC_l678
    refine ⟨fun c => ?_, fun _ => ?_⟩
    · have := (nI_ltI (by omega) (by omega)).mp c
      omega
    have pos : ¬ it (gw S 10 2) 24 (nI jar) ≤ 0 := by
      rw [jar_pl hp hj, hu]
      intro c
      have := (nI_leI (b := 0) (by omega) (by decide)).mp c
      omega
    obtain ⟨i, hi, es⟩ := sp_ex (τ := ta0) (one := nI 0) pos hj
    refine c_best1 (p := 0) hR (l9_of hp) hL.2 hL.1 hi es (fun S1 a1 => ?_)
    rw [fl_pl (by decide) (hp.2.2.2.2.2 0 hL.1).1 hp.2.2.1]
    refine ⟨fun c => absurd rfl c, fun _ => ?_⟩
    have g1 : gw S1 10 = gw S 10 := c_gm a1
    have hR1 := R_c hR a1
    have hp1 : pw (gw S1 10) L (y + 1) a (upn w jar (has - k)) := by rw [g1]; exact hp
    have e61 : gw S1 10 6 0 = nI (5 * k) := by rw [g1]; exact e6
    have e71 : gw S1 10 7 0 = nI k := by rw [g1]; exact e7
    have ev : gw S1 10 2 jar = nI (has - k) := by
      rw [hp1.2.2.2.2.1 jar hj, hu]
    refine c_spoon (p := 0) (u := has - k) hR1 (l9_of hp1) hL.2 hL.1 hj ev (by omega) (fun _ S2 a2 e2 => ?_) (fun h => absurd h (by omega))
    have ee := eat_pl hp1 hL.1 (by omega) e61 (by omega) e71 hj (by rw [hu]; omega)
    rw [hu] at ee
    rw [ee] at e2
    rw [mood_pl hp1 hL.1 (by omega) e61]
    have e5 : (5 : Int32) * nI (k + 1) = nI (5 * (k + 1)) := pk_mul 5 (k + 1)
    rw [e5, if_pos (show nI (5 * (k + 1)) < 99 from nI_lt (b := 99) (by omega) (by decide)), show 5 * k + 5 = 5 * (k + 1) by omega]
    refine ⟨fun c => absurd rfl c, fun _ => ?_⟩
    have hp2 : pw (gw S2 10) L (y + 1) a (upn w jar (has - (k + 1))) := by
      rw [e2]
      have q := pw_eat hp1 (k := jar) (x := has - k - 1) (f6 := upd (gw S1 10 6) 0 (nI (5 * k + 5))) (f7 := upd (gw S1 10 7) 0 (nI (k + 1)))
      have eu : upn (upn w jar (has - k)) jar (has - k - 1) = upn w jar (has - (k + 1)) := by
        funext j
        unfold upn
        by_cases e : j = jar
        · rw [if_pos e, if_pos e]
          omega
        · rw [if_neg e, if_neg e, if_neg e]
      rw [eu] at q
      exact q
    have hR2 : R 1 ta0 S2 := R_of hR1 a2 (by decide) (by
      have e : gm S2 = _ := e2
      rw [e]
      have q1 := gwd_6 (j := 0) hR1.1.2 (x := nI (5 * k + 5)) (by rw [nI_toInt (by omega)]; omega)
      have q2 := gwd_7 (j := 0) q1 (v := k + 1) (by omega)
      exact gwd_2 (j := jar) q2 (v := has - k - 1) (by omega))
    have e62 : gw S2 10 6 0 = nI (5 * (k + 1)) := by
      rw [e2, gset_o _ _ (by decide), gset_o _ _ (by decide), gset_s, pk_us]
      rfl
    have e72 : gw S2 10 7 0 = nI (k + 1) := by
      rw [e2, gset_o _ _ (by decide), gset_s, pk_us]
    have e22 : gw S2 10 2 jar = nI (has - (k + 1)) := by
      rw [hp2.2.2.2.2.1 jar hj]
      unfold upn
      rw [if_pos rfl]
    refine c_told6 (p := 0) (l9_of hp2) hL.2 hL.1 ?_
    rw [e72]
    refine ⟨fun c => absurd rfl c, fun _ => ?_⟩
    refine c_told1 hj ?_
    rw [e22, pk_sub (show k + 1 ≤ has by omega)]
    refine ⟨fun _ => ?_, fun c => absurd rfl c⟩
    rw [nI_1 (k + 1)]
    have a12 : ag CW S S2 := ag_tr (ag_mo a1 (by decide)) a2
    have g28 : gw S2 28 = gw S 28 := gw_ag a12 (in8 (by decide))
    exact l678_ok hL hy hf ea hj hh hQ d (k + 1) S2 (by omega) hR2 hp2 e62 e72 (by rw [g28]; exact hw28) (by rw [g28]; exact hp28) (by rw [(a12 0 (by decide)).1]; exact i1)
/-- a year, truly -/
theorem b599_ok {t L y fr : Nat} (hL : 1 ≤ L ∧ L ≤ 5) (hy : y < 20) (hf : fr < 12) (h : LV S L y fr) (hQ : ∀ S', Q (nI t) S') : wLC_b599 E Q (nI t) (nI L) (nI fr) (nI y) S := by
  obtain ⟨a, hR, hp, h3⟩ := h
  obtain ⟨ea, e6, e7⟩ := h3 hL.1
  unfold wLC_b599
  intro e1 he1
  rw [nI_add, rem2n (by omega)] at he1
  have hr : (fr + y) % 2 ≤ 1 := by omega
  have ej : e1 = nI (2 * fr + 1 - (fr + y) % 2) := by
    rw [he1, x2_1, pk_sub (by omega)]
  subst ej
  rw [nI_add, rem2n (by omega), nI_1, nI_add, rem12 (by omega)]
  refine c_image (fun S1 a1 g28 i1 r => ?_)
  have g1 : gw S1 10 = gw S 10 := gw_ag a1 (in8 (by decide))
  have hR1 : R 1 ta0 S1 := R_of hR a1 (by decide) (by
    have e : gm S1 = gw S 10 := g1
    rw [e]
    exact hR.1.2)
  have hp1 : pw (gw S1 10) L y a zv := by rw [g1]; exact hp
  have sz := smN_z
  refine c_year hR1 hp1.1 hL.2 (by omega) hp1.2.1 (fun S2 a2 e2 => ?_)
  obtain ⟨hy2, ho2⟩ := yr_pl (fl := 0) hp1 hL.2 (by decide) (by omega) (by omega)
  have e2' : gw S2 10 = p_yr ta0 (flI 0) (gw S1 10) := e2
  rw [← e2'] at hy2 ho2
  have hs : smN (vyN 0 y a zv L) 24 = 2 * L := by
    rw [vy_sum (fun p hp' => (hp.2.2.2.2.2 p hp').2.2) L (Nat.le_refl _), sz, Nat.zero_add]
  rw [all_pl hy2, hs, x2_0]
  refine ⟨fun c => absurd rfl c, fun _ => ?_⟩
  have hR2 : R 1 ta0 S2 := R_of hR1 a2 (by decide) (by
    have e : gm S2 = p_yr ta0 (-1) (gw S1 10) := e2
    rw [e]
    refine ⟨gok_yr (R_ok hR1), ⟨y + 1, by omega, ?_⟩, ?_⟩
    · rw [yr_10, hp1.2.1, nI_1]
    · rw [yr_o _ _ _ (by decide)]
      exact hR1.1.2.2.2)
  have rd : rdN 0 y 0 fr = (fr + y) % 2 := by
    unfold rdN
    rw [if_neg (fun h => absurd h.2 (by decide))]
  refine c_told4 (p := 0) (l9_of hy2) hL.2 hL.1 ?_
  have e5 : gw S2 10 5 0 = nI ((fr + 1 + (fr + y) % 2) % 12) := by
    rw [(hy2.2.2.2.2.2 0 hL.1).2.1]
    show nI (stN 0 y 0 (a 0)) = _
    rw [ea]
    unfold stN
    rw [rd]
  rw [e5]
  refine ⟨fun c => absurd rfl c, fun _ => ?_⟩
  have hj : 2 * fr + 1 - (fr + y) % 2 < 24 := by omega
  have vj := vy_jar 0 y a zv hL.1
  rw [ea, rd] at vj
  have vle := smN_le (vyN 0 y a zv L) 24 hj
  rw [hs] at vle
  refine c_told1 hj ?_
  rw [hy2.2.2.2.2.1 _ hj]
  refine ⟨fun _ => ?_, fun c => absurd (nI_le (a := 2) (by omega) (by omega)) c⟩
  refine c_told1 hj ?_
  rw [hy2.2.2.2.2.1 _ hj]
  have z1 : ∀ n, n = vyN 0 y a zv L (2 * fr + 1 - (fr + y) % 2) → wLC_l678 E Q (n + 1) (nI t) (nI fr) (nI (2 * fr + 1 - (fr + y) % 2)) (nI n) (nI (0 + 1)) S2 := by
    intro n hn
    have g28' : gw S2 28 = gw S 10 := by
      rw [gw_ag a2 (in8 (by decide)), g28]
    refine l678_ok (a := fun p => stN 0 y p (a p)) (a0 := a) (w := vyN 0 y a zv L) hL hy hf ea hj (by omega) hQ n 0 S2 (by omega) hR2 ?_ ?_ ?_ ?_ ?_ ?_
    · have eu : upn (vyN 0 y a zv L) (2 * fr + 1 - (fr + y) % 2) (n - 0) = vyN 0 y a zv L := by
        funext j
        unfold upn
        by_cases e : j = 2 * fr + 1 - (fr + y) % 2
        · rw [if_pos e, e, hn, Nat.sub_zero]
        · rw [if_neg e]
      rw [eu]
      exact hy2
    · rw [ho2 6 (by decide) (by decide) (by decide), g1]
      exact e6
    · rw [ho2 7 (by decide) (by decide) (by decide), g1]
      exact e7
    · rw [g28']
      exact hR.1.2
    · rw [g28']
      exact hp
    · rw [(a2 0 (by decide)).1]
      exact i1
  exact ⟨_, z1 _ rfl⟩
/-- one other turn -/
theorem l532_ok {t L y fr n kk : Nat} (hL : 1 ≤ L ∧ L ≤ 5) (hy : y < 20) (hf : fr < 12) (hn : n < 31) (hkk : kk < n) (h : LV S L y fr) (hQ : ∀ S', Q (nI t) S') : ∀ d k, k + d = n → wLC_l532 E Q (d + 1) (nI t) (nI L) (nI fr) (nI y) (nI n) (nI kk) (nI (psN y kk k fr)) (nI k) S
  | 0, k, hk => by
    have hk : k = n := by omega
    subst hk
    have h0 := h
    obtain ⟨a, hR, hp, h3⟩ := h
    have b : 2 * L * k ≤ 2 * 5 * 31 := Nat.mul_le_mul (by omega) (by omega)
    have sz := smN_z
    unfold wLC_l532
    refine ⟨fun _ => ?_, fun c => absurd (nI_le (Nat.le_refl _) (by omega)) c⟩
    refine c_other (p := 0) hR (l9_of hp) hL.2 hL.1 (by omega) hkk (fun S1 a1 => ?_)
    rw [at_yro kk hp hL (by omega) (by omega), (h3 hL.1).1]
    exact ⟨fun _ => b599_ok hL hy hf (LV_ag h0 a1) hQ, fun c => absurd rfl c⟩
  | d + 1, k, hk => by
    have hlt := psN_lt y kk hf k
    have ih := l532_ok hL hy hf hn hkk h hQ d (k + 1) (by omega)
    unfold wLC_l532
    refine ⟨fun c => absurd c (nI_ge (by omega) (by omega)), fun _ e48 he => ?_⟩
    rw [nI_add, nI_add, rem2n (by omega)] at he
    subst he
    have nx : ∀ r, r = rdN (if k = kk then 1 else 0) (y + k) 0 (psN y kk k fr) → wLC_b571 E (fun x1 x3 x4 x5 x6 x19 x20 x21 S => wLC_l532 E Q (d + 1) x1 x3 x4 x5 x6 x19 x20 x21 S) Q (nI t) (nI L) (nI fr) (nI y) (nI n) (nI kk) (nI k) (nI r) (nI (psN y kk k fr) + 1) S := by
      intro r hr
      have r1 := rdN_le (if k = kk then 1 else 0) (y + k) 0 (psN y kk k fr)
      unfold wLC_b571
      rw [nI_1, nI_add, rem12 (by omega), nI_1]
      have e : (psN y kk k fr + 1 + r) % 12 = psN y kk (k + 1) fr := by
        rw [hr]
        rfl
      rw [e]
      exact ih
    refine ⟨fun c => nx _ ?_, fun c => ?_⟩
    · have ne : ¬ k = kk := fun e => c (by rw [e])
      unfold rdN
      rw [if_neg ne, if_neg (fun h => absurd h.2 (by decide)), Nat.add_assoc]
    · have ek : k = kk := nI_inj (by omega) (by omega) (Decidable.not_not.mp c)
      rw [show (1 : Int32) - nI ((psN y kk k fr + y + k) % 2) = nI (1 - (psN y kk k fr + y + k) % 2) from pk_sub (a := 1) (by omega)]
      refine nx _ ?_
      unfold rdN
      rw [if_pos ek, if_pos ⟨rfl, rfl⟩, Nat.add_assoc]
/-- by how few other turns: always by one road -/
theorem l434_ok {t L y fr n few road : Nat} {K : Int32 → Int32 → Int32 → Int32 → Int32 → Int32 → Int32 → ri_H → Prop} (hL : 1 ≤ L ∧ L ≤ 5) (hy : y < 20) (hf : fr < 12) (hfew : few < 11) (hr : road ≤ 1) (hK : ∀ S', LV S' L y fr → S'.1 50 1 = (if road = 0 then 0 else S'.1 50 1) → K (nI t) (nI L) (nI fr) (nI y) (nI n) (nI few) (nI (road + 1)) S') : ∀ d k S, k + d = few → LV S L y fr → S.1 50 road = nI (otN road y fr k) → (road = 0 → S.1 50 1 = 0) → wLC_l434 E K Q (d + 1) (nI t) (nI L) (nI fr) (nI y) (nI n) (nI few) (nI road) (nI (cnN road fr k)) (nI k) S
  | 0, k, S, hk, h, e50, e51 => by
    have hk : k = few := by omega
    subst hk
    have h0 := h
    obtain ⟨a, hR, hp, h3⟩ := h
    have hc := cnN_lt road hf k
    have le := otN_le road y fr k
    unfold wLC_l434
    refine ⟨fun _ => ?_, fun c => absurd (nI_le (Nat.le_refl _) (by omega)) c⟩
    refine c_fewest (p := 0) (y := y) (c0 := fr) hR (l9_of hp) hL.2 hL.1 hc (by omega) (by omega) hp.2.1 hf (by rw [(hp.2.2.2.2.2 0 hL.1).2.1, (h3 hL.1).1]) (fun S1 a1 => ?_)
    rw [fw_end hp hL.1 hf hr k (by omega) (by omega), nI_clamp (n := road) (by omega), (a1 50 (by decide)).1, e50]
    have ee : enc (otN road y fr k) = nI (otN road y fr k) := by
      unfold enc
      rw [if_neg (by omega)]
    rw [ee, nI_1]
    refine ⟨vp_in_nI (by omega) (by decide), fun _ => hK S1 (LV_ag h0 a1) ?_, fun c => absurd rfl c⟩
    by_cases z : road = 0
    · rw [if_pos z, (a1 50 (by decide)).1]
      exact e51 z
    · rw [if_neg z]
  | d + 1, k, S, hk, h, e50, e51 => by
    have hc := cnN_lt road hf k
    have le := otN_le road y fr k
    unfold wLC_l434
    refine ⟨fun c => absurd c (nI_ge (by omega) (by omega)), fun _ => ?_⟩
    rw [nI_add, nI_add, rem2n (by omega), nI_clamp (n := road) (by omega), e50, nI_1]
    have nx : ∀ S', LV S' L y fr → S'.1 50 road = nI (otN road y fr (k + 1)) → (road = 0 → S'.1 50 1 = 0) → wLC_b465 E K (fun x1 x3 x4 x5 x6 x17 x19 x20 x21 S => wLC_l434 E K Q (d + 1) x1 x3 x4 x5 x6 x17 x19 x20 x21 S) Q (nI t) (nI L) (nI fr) (nI y) (nI n) (nI few) (nI road) (nI (cnN road fr k)) (nI k) S' := by
      intro S' h' f50 f51
      unfold wLC_b465
      intro e51' he
      rw [nI_1, nI_add, rem12 (by omega)] at he
      subst he
      rw [nI_1]
      exact l434_ok hL hy hf hfew hr hK d (k + 1) S' (by omega) h' f50 f51
    have as : cnN road fr k + y + k = cnN road fr k + (y + k) := Nat.add_assoc _ _ _
    refine ⟨fun c => nx S h ?_ e51, fun c => ⟨vp_in_nI (by omega) (by decide), vp_in_nI (by omega) (by decide), ?_⟩⟩
    · have ec : (cnN road fr k + y + k) % 2 = road := nI_inj (by omega) (by omega) c
      rw [e50]
      show _ = nI (otN road y fr k + if (cnN road fr k + (y + k)) % 2 = road then 0 else 1)
      rw [if_pos (by rw [← as]; exact ec)]
      rfl
    · have ec : ¬ (cnN road fr k + y + k) % 2 = road := fun e => c (by rw [e])
      have a1 : ag [50] S (ri_wi S 50 road (nI (otN road y fr k + 1))) := ag_wi (ag_refl _ _) (by decide)
      refine nx _ ?_ ?_ (fun z => ?_)
      · obtain ⟨f, h1, h2, h3⟩ := h
        have e : gw (ri_wi S 50 road (nI (otN road y fr k + 1))) 10 = gw S 10 := gw_ag a1 (in8 (by decide))
        exact ⟨f, R_of h1 a1 (by decide) (by
          have e' : gm (ri_wi S 50 road (nI (otN road y fr k + 1))) = gw S 10 := e
          rw [e']
          exact h1.1.2), by rw [e]; exact h2, by rw [e]; exact h3⟩
      · rw [ri_wi_1, pk_us]
        show _ = nI (otN road y fr k + if (cnN road fr k + (y + k)) % 2 = road then 0 else 1)
        rw [if_neg (by rw [← as]; exact ec)]
      · rw [ri_wi_1, pk_un (by omega)]
        exact e51 z
theorem lawC_ok {t L y fr n few : Nat} (hE : E.1 < 2 ^ 20) (ht : t < 3) (hL : 1 ≤ L ∧ L ≤ 5) (hy : y < 20) (hf : fr < 12) (hn : n < 31) (hfew : few < 11) (h : LV S L y fr) (e0 : S.1 50 0 = 0) (e1 : S.1 50 1 = 0) (hQ : ∀ S', Q (nI t) S') : wLC E Q (nI t) (nI L) (nI fr) (nI y) (nI n) (nI few) S := by
  unfold wLC
  refine ⟨0 + 1 + 1 + 1, ?_⟩
  have fin : ∀ S', LV S' L y fr → wLC_l421 E Q (0 + 1) (nI t) (nI L) (nI fr) (nI y) (nI n) (nI few) (nI 2) S' := by
    intro S' h'
    unfold wLC_l421
    refine ⟨fun _ => ⟨fun _ => b599_ok hL hy hf h' hQ, fun c => ?_⟩, fun c => absurd (Int32.le_refl _) c⟩
    have hn0 : 0 < n := by
      rcases Nat.eq_zero_or_pos n with z | z
      · exact absurd (by rw [z]; exact Int32.le_refl _) c
      · exact z
    refine some_at (a := 36) (t := t) (m := n) hE (nI_add 36 t) (by omega) rfl hn0 (by omega) (fun kk hkk => ⟨n + 1, ?_⟩)
    exact l532_ok hL hy hf hn hkk h' hQ n 0 (by omega)
  have one : ∀ S', LV S' L y fr → S'.1 50 1 = 0 → wLC_l421 E Q (0 + 1 + 1) (nI t) (nI L) (nI fr) (nI y) (nI n) (nI few) (nI 1) S' := by
    intro S' h' e'
    unfold wLC_l421
    refine ⟨fun c => absurd c (by decide), fun _ => ⟨few + 1, ?_⟩⟩
    exact l434_ok (road := 1) hL hy hf hfew (by decide) (fun S'' h'' _ => fin S'' h'') few 0 S' (by omega) h' e' (fun z => absurd z (by decide))
  unfold wLC_l421
  refine ⟨fun c => absurd c (by decide), fun _ => ⟨few + 1, ?_⟩⟩
  exact l434_ok (road := 0) hL hy hf hfew (by decide) (fun S'' h'' z => one S'' h'' (by rw [if_pos rfl] at z; exact z)) few 0 S (by omega) h e0 (fun _ => e1)
end LC
