/-! film -/
section FILM
variable {a b g : Int32} {S S0 : ri_H} {T : Nat} {τ : Int32 → Int32 → List Int32}
/-- the flavour of one, after so many years in thought -/
def p_flm (τ : Int32 → Int32 → List Int32) (g : Nat → Nat → Int32) (p j : Nat) : Int32 := it (yrs τ g (j + 1) 5) 5 (nI p)
theorem nrw_c : ∀ c, c < 12 → nrw 0 (nI c) = nI c := by decide +kernel
theorem p_flm_nrw {g : Nat → Nat → Int32} (hg : gok g) {p : Nat} (hp : p < 5) (j : Nat) : nrw 0 (p_flm τ g p j) = p_flm τ g p j := by
  obtain ⟨c, hc, e⟩ := (gok_yrs (τ := τ) hg (j + 1)).2.2.2.2.2.1 p hp
  unfold p_flm
  rw [it_nI _ hp (by decide), e]
  exact nrw_c c hc
/-- the class on its way -/
def tf (τ : Int32 → Int32 → List Int32) (S0 S : ri_H) (s p n k : Nat) : Prop := ag (SX s) S0 S ∧ gw S 19 = yrs τ (gw S0 10) k ∧ S.1 (38 + 2 * s) 1 = nI 0 ∧ S.1 (38 + 2 * s) 2 = nI n ∧ ∀ j, j < k → S.1 (39 + 2 * s) j = p_flm τ (gw S0 10) p j
def fb (k : Nat) (K : Int32 → Int32 → Int32 → ri_H → Prop) (Q : Int32 → ri_H → Prop) (x2 x3 x5 : Int32) (S : ri_H) : Prop := ((x3 ≤ x5 → Q x3 S) ∧ (¬ (x3 ≤ x5) → w39 19 (-1 : Int32) S (fun (S3 : ri_H) => w25 k x5 (it (S3.1 24) 5 x2) S3 (fun (S4 : ri_H) => K x2 x3 (x5 + (1 : Int32)) S4))))
theorem sx_gw {s w : Nat} (hs : s < 4) (hw : w = 10 ∨ w = 19) : ∀ o, o < 8 → w + o ≠ 38 + 2 * s ∧ w + o ≠ 39 + 2 * s := by
  intro o ho
  rcases hw with rfl | rfl <;> omega
theorem fc_ok {Q : Int32 → ri_H → Prop} {s p n : Nat} (hs : s < 4) (hp : p < 5) (hn : n ≤ 30) (h : rT T τ S0) (hg : gwd T (gw S0 10)) {L : Nat → Int32 → Int32 → Int32 → ri_H → Prop} (hL : ∀ n x2 x3 x5 S, fb (38 + 2 * s) (L n) Q x2 x3 x5 S → L (n + 1) x2 x3 x5 S) (hQ : ∀ S', tf τ S0 S' s p n n → Q (nI n) S') : ∀ e k S, k + e = n → tf τ S0 S s p n k → L (e + 1) (nI p) (nI n) (nI k) S
  | 0, k, S, hk, ht => by
    have hk' : k = n := hk
    subst hk'
    exact hL _ _ _ _ _ ⟨fun _ => hQ S ht, fun c => absurd (nI_le (Nat.le_refl _) (by omega)) c⟩
  | e + 1, k, S, hk, ht => by
    refine hL _ _ _ _ _ ?_
    unfold fb
    rw [nI_1]
    obtain ⟨⟨⟨l, hl, el⟩, _⟩, _, r, hr, er⟩ := id hg
    obtain ⟨a, t1, t2, t3, t4⟩ := ht
    have e9 : gw S 19 0 9 = nI l := by rw [t1, yrs_o _ _ (by decide)]; exact el
    have e11 : gw S 19 0 11 = nI r := by rw [t1, yrs_o _ _ (by decide)]; exact er
    have s2 : 2 ∉ SX s := nin (l := [2, 3]) hs (by decide) 2 (by decide)
    have s3 : 3 ∉ SX s := nin (l := [2, 3]) hs (by decide) 3 (by decide)
    refine ⟨fun c => absurd c (nI_ge (by omega) (by omega)), fun _ => w39_ok (Or.inr rfl) e9 (by omega) (by rw [e11]; exact tc_ag a s2 s3 (tc_of h hr)) (fun S1 a1 g1 => ?_)⟩
    have y1 : gw S1 19 = yrs τ (gw S0 10) (k + 1) := by
      rw [g1, t1]
      rfl
    have m38 : ∀ c, 38 ≤ c → c ≤ 45 → S1.1 c = S.1 c := fun c h1 h2 => (a1 c (by simp; omega)).1
    refine w25_ok (t := 0) (by decide) (by omega) (by rw [m38 _ (by omega) (by omega)]; exact t2) ?_
    rw [gw_it S1 19 5 5 rfl (by decide), y1]
    have a2 : ag (SX s) S0 S1 := ag_tr a (fun c hc => a1 c (fun hx => hc (CX_SX c ((by decide : ∀ c, c ∈ [19 + 8, 4, 19 + 2, 19 + 5, 19] → c ∈ CX) c hx))))
    refine fc_ok hs hp hn h hg hL hQ e (k + 1) _ (by omega) ⟨ag_wr a2 SX_1, ?_, ?_, ?_, fun j hj => ?_⟩
    · rw [← y1]
      exact gw_ag (ag_wr (ag_refl [39 + 2 * s] _) List.mem_cons_self) (fun o ho => by
        have := sx_gw (w := 19) hs (Or.inr rfl) o ho
        simp
        omega)
    · rw [ri_wr_o _ _ (by omega), m38 _ (by omega) (by omega)]
      exact t2
    · rw [ri_wr_o _ _ (by omega), m38 _ (by omega) (by omega)]
      exact t3
    · rw [ri_wr_1]
      by_cases ej : j = k
      · subst ej
        rw [pk_us]
        exact p_flm_nrw hg.1 hp j
      · rw [pk_un ej, m38 _ (by omega) (by omega)]
        exact t4 j (by omega)
/-- the model on its way -/
def mf (τ : Int32 → Int32 → List Int32) (S0 S : ri_H) (s p k : Nat) : Prop := am (69 :: MY) (7 :: F1) S0 S ∧ asd S0 S ∧ gm S = yrs τ (gm S0) k ∧ (∀ j, j < k → S.1 69 (40 * s + j) = p_flm τ (gm S0) p j) ∧ ∀ i, i < 40 * s ∨ 40 * s + 40 ≤ i → S.1 69 i = S0.1 69 i
theorem fm_ok {Q : Int32 → ri_H → Prop} {s p n : Nat} (hs : s < 4) (hp : p < 5) (hn : n ≤ 30) (hm : mt S0 τ (gm S0 0 11)) (hg : gok (gm S0)) (hQ : ∀ S' S'', mf τ S0 S' s p n → am [55, 56] [7] S' S'' → gm S'' = gm S0 → Q (nI n) S'') : ∀ e k S, k + e = n → mf τ S0 S s p k → w192_l45 Q (e + 1) (nI s) (nI p) (nI n) (nI k) S
  | 0, k, S, hk, ht => by
    have hk' : k = n := hk
    subst hk'
    unfold w192_l45
    exact ⟨fun _ => w175_x ht.1 (by decide) (by decide) (by decide) ht.2.1 (fun S' a e => hQ S S' ht a e), fun c => absurd (nI_le (Nat.le_refl _) (by omega)) c⟩
  | e + 1, k, S, hk, ht => by
    unfold w192_l45
    rw [nI_1, x40, nI_clamp (n := 40 * s + k) (by omega)]
    obtain ⟨a, t1, t2, t3, t4⟩ := ht
    refine ⟨fun c => absurd c (nI_ge (by omega) (by omega)), fun _ => w171_ok (τ := τ) (by rw [t2]; exact gok_yrs hg k) ?_ (fun S1 a1 g1 => w114_ok hp ⟨vp_in_nI (by omega) (by decide), ?_⟩)⟩
    · rw [t2, yrs_o _ _ (by decide)]
      exact mt_am hm a (by decide) (by decide)
    · have y1 : gm S1 = yrs τ (gm S0) (k + 1) := by
        rw [g1, t2]
        rfl
      have o : ∀ c, c ∈ [57, 69] → S1.1 c = S.1 c := fun c hc => (a1.1 c (by
        have : c ∈ [57, 69] → c ∉ [55, 56] := (by decide : ∀ c, c ∈ [57, 69] → c ∉ [55, 56]) c
        exact this hc) ((by decide : ∀ c, c ∈ [57, 69] → c ≠ 50) c hc)).1
      have e69 : (ri_wi S1 69 (40 * s + k) (gm S1 5 p)).1 57 = S.1 57 := by
        rw [ri_wi_o _ _ _ (by decide)]
        exact o 57 (by decide)
      refine fm_ok hs hp hn hm hg hQ e (k + 1) _ (by omega) ⟨am_wi (am_tr a (am_mo a1 (by decide) (by decide))) (by decide) (by decide), asd_k t1 e69, ?_, fun j hj => ?_, fun i hi => ?_⟩
      · rw [← y1]
        exact gm_ag (ag_wi (ag_refl [69] S1) (by decide)) (by decide)
      · rw [ri_wi_1]
        by_cases ej : j = k
        · subst ej
          rw [pk_us, y1]
          unfold p_flm
          rw [it_nI _ hp (by decide)]
        · rw [pk_un (by omega), o 69 (by decide)]
          exact t3 j (by omega)
      · rw [ri_wi_1, pk_un (by omega), o 69 (by decide)]
        exact t4 i hi
def c65 (b g : Int32) (S : ri_H) (Q : Int32 → ri_H → Prop) (L : Nat → Int32 → Int32 → Int32 → ri_H → Prop) (k : Nat) : Prop := (((wi b (S.1 10 9)) = 0 → Q (-2 : Int32) S) ∧ (¬ (wi b (S.1 10 9)) = 0 → ((g < 0 → Q (-2 : Int32) S) ∧ (¬ (g < 0) → ((g ≤ (30 : Int32) → w24 k (0 : Int32) g S (fun (S1 : ri_H) => w33 19 10 S1 (fun (S2 : ri_H) => ∃ nn, L nn b g (0 : Int32) S2))) ∧ (¬ (g ≤ (30 : Int32)) → Q (-2 : Int32) S))))))
theorem d65 {Q : Int32 → Int32 → ri_H → Prop} {s : Nat} (hs : s < 4) (h : RR S) (hQ : ∀ r S', RR S' → Q r r S') {L : Nat → Int32 → Int32 → Int32 → ri_H → Prop} (hL : ∀ n x2 x3 x5 S, fb (38 + 2 * s) (L n) (fun r S1 => w192 (nI s) b g S1 (fun r2 S2 => Q r r2 S2)) x2 x3 x5 S → L (n + 1) x2 x3 x5 S) : c65 b g S (fun r S1 => w192 (nI s) b g S1 (fun r2 S2 => Q r r2 S2)) L (38 + 2 * s) := by
  have h0 := h
  obtain ⟨T, τ, h⟩ := h
  obtain ⟨l, hl, l1, l2, l3⟩ := R_L h
  have bad : ((∀ p, p < l → b ≠ nI p) ∨ (∀ n, n < 31 → g ≠ nI n)) → w192 (nI s) b g S (fun r2 S2 => Q (-2) r2 S2) := by
    intro hb
    unfold w192
    refine w199_ok (fun _ _ _ => ⟨fun c => absurd c (by decide), fun _ => w104_ok hl l2 (fun p hp ep => ⟨fun c => absurd c (by decide), fun _ => w102_n (m := 30) (by decide) (by decide) (fun n hn en => ?_) (fun _ => ⟨fun c => absurd rfl c, fun _ => hQ _ _ h0⟩)⟩) (fun _ => ⟨fun _ => hQ _ _ h0, fun c => absurd rfl c⟩)⟩) (fun hh => absurd rfl (hh s hs))
    rcases hb with q | q
    · exact absurd ep (q p hp)
    · exact absurd en (q n hn)
  unfold c65
  rw [l1]
  rcases wi_d b (n := l) (by omega) with ⟨p, hp, rfl, hw⟩ | ⟨hw, hne⟩
  · rw [hw]
    refine ⟨fun c => absurd c (by decide), fun _ => ⟨fun c => bad (Or.inr (fun n hn e => nI_pos (n := n) (by omega) (by rw [← e]; exact c))), fun c => ⟨fun c2 => ?_, fun c2 => bad (Or.inr (fun n hn e => c2 (by rw [e]; exact nI_le (b := 30) (by omega) (by decide))))⟩⟩⟩
    obtain ⟨n, hn, rfl⟩ := nI_of2 (x := g) (M := 30) (n := 30) rfl c c2
    refine w24_ok (fun S1 a1 e1 e2 e3 => w33_t (fun S2 a2 g2 => ⟨n + 1, ?_⟩))
    have a12 : ag (SX s) S S2 := ag_tr a1 (ag_mo a2 CX_SX)
    have n38 : ∀ c, 38 ≤ c → c ≤ 45 → S2.1 c = S1.1 c := fun c h1 h2 => (a2 c (by simp [CX]; omega)).1
    have g10 : ∀ S', ag (SX s) S S' → gw S' 10 = gw S 10 := fun S' a => gw_ag a (fun o ho hx => by
      rcases SX_c hx with q | q | q
      · omega
      · omega
      · exact in8 (w := 10) (X := CX) (by decide) o ho q)
    have hwd : gwd T (gw S 10) := by
      rw [R_w h]
      exact h.1.2
    refine fc_ok (T := T) (τ := τ) (S0 := S) hs (by omega) hn h.2.1 hwd hL (fun S3 t3 => ?_) n 0 S2 (by omega) ⟨a12, ?_, ?_, ?_, fun j hj => absurd hj (Nat.not_lt_zero j)⟩
    · obtain ⟨a3, _, t2, t3, t4⟩ := t3
      have gg : gm S3 = gm S := gm_ag a3 (nin hs (by decide))
      unfold w192
      refine w199_ok (fun _ _ _ => ⟨fun c => absurd c (by decide), fun _ => w104_ok hl (by rw [gm_9, gg]; exact l3) (fun _ _ _ => ⟨fun c => absurd c (by decide), fun _ => w102_n (m := 30) (by decide) (by decide) (fun _ _ _ => ⟨fun _ => ?_, fun c => absurd (by decide) c⟩) (fun hh => absurd rfl (hh n (by omega)))⟩) (fun hh => absurd rfl (hh p hp))⟩) (fun hh => absurd rfl (hh s hs))
      refine m200 hs (t := 0) (by decide) (by omega) (fun S4 a4 f1 f2 f3 f4 f5 => w174_ok (fun S5 a5 d5 => ⟨n + 1, ?_⟩))
      have g4 : gm S4 = gm S := (gm_am a4 (by decide) (by decide) (by decide) (by decide) (by decide) (by decide)).trans gg
      have hm : mt S4 τ (gm S4 0 11) := by
        rw [g4]
        refine mt_am ?_ a4 (by decide) (by decide)
        obtain ⟨k1, k2, k3, k4, k5, k6⟩ := kT_ag a3 (nin hs (by decide))
        obtain ⟨r, hr, er⟩ := h.1.2.2.2
        rw [er]
        exact mt_of_R (rT_k h.2.1 ⟨k1, k2, k3, k4, k5, k6⟩) hr
      refine fm_ok hs (by omega) hn hm (by rw [g4]; exact R_ok h) (fun S6 S7 t6 a7 g7 => ?_) n 0 S5 (by omega) ⟨am_mo a5 (by decide) (by decide), d5, gm_am a5 (by decide) (by decide) (by decide) (by decide) (by decide) (by decide), fun j hj => absurd hj (Nat.not_lt_zero j), fun i _ => by rw [(a5.1 69 (by decide) (by decide)).1]⟩
      obtain ⟨a6, _, _, u3, u4⟩ := t6
      have tot : am SM MF S3 S7 := am_tr (am_mo a4 (by decide) (by decide)) (am_tr (am_mo a6 (by decide) (by decide)) (am_mo a7 (by decide) (by decide)))
      have o7 : ∀ c, c ∈ [66, 67, 68] → S7.1 c = S4.1 c := fun c hc => by
        rw [(a7.1 c ((by decide : ∀ c, c ∈ [66, 67, 68] → c ∉ [55, 56]) c hc) ((by decide : ∀ c, c ∈ [66, 67, 68] → c ≠ 50) c hc)).1, (a6.1 c ((by decide : ∀ c, c ∈ [66, 67, 68] → c ∉ 69 :: MY) c hc) ((by decide : ∀ c, c ∈ [66, 67, 68] → c ≠ 50) c hc)).1]
      have o69 : S7.1 69 = S6.1 69 := (a7.1 69 (by decide) (by decide)).1
      have o38 : ∀ c, 38 ≤ c → c ≤ 45 → S7.1 c = S3.1 c := fun c h1 h2 => (tot.1 c (by simp [SM, MX]; omega) (by omega)).1
      refine hQ _ _ ⟨T, τ, R_sh hs h a3 tot ?_ ?_⟩
      · rw [g7, g4, gg]
      · refine rS_1 hs h.2.2.2.2 a3 (fun i hi => ?_) (fun i hi => ?_) (fun i hi => ?_) (fun i hi => ?_) o38 (Or.inr ⟨0, n, by decide, by omega, ?_, ?_, ?_, ?_, ?_, fun j hj => ?_⟩)
        · rw [o7 66 (by decide), f1, pk_un hi]
        · rw [o7 67 (by decide), f2, pk_un hi]
        · rw [o7 68 (by decide), f3, pk_un hi]
        · rw [o69, u4 i hi, f5 i hi]
        · rw [o38 _ (by omega) (by omega)]
          exact t2
        · rw [o38 _ (by omega) (by omega)]
          exact t3
        · rw [o7 66 (by decide), f1, pk_us]
        · rw [o7 67 (by decide), f2, pk_us]
        · rw [o7 68 (by decide), f3, pk_us]
        · rw [o38 _ (by omega) (by omega), t4 j hj, o69, u3 j hj, g4, R_w h]
    · rw [g2, g10 S1 a1]
      rfl
    · rw [n38 _ (by omega) (by omega)]
      exact e1
    · rw [n38 _ (by omega) (by omega)]
      exact e2
  · rw [hw]
    exact ⟨fun _ => bad (Or.inl hne), fun c => absurd rfl c⟩
theorem f_film {Q : Int32 → Int32 → ri_H → Prop} (h : RR S) (hQ : ∀ r S', RR S' → Q r r S') : w65 a b g S (fun r S1 => w192 a b g S1 (fun r2 S2 => Q r r2 S2)) := by
  rcases wi_d a (n := 4) (by decide) with ⟨s, hs, ea, hw⟩ | ⟨hw, hne⟩
  · subst ea
    refine pick5 hs rfl (fun e => ?_) (fun e => ?_) (fun e => ?_) (fun e => ?_)
    · subst e
      refine d65 (s := 0) (L := w65_l57 (fun r S1 => w192 (nI 0) b g S1 (fun r2 S2 => Q r r2 S2))) (by decide) h hQ (fun n x2 x3 x5 S hh => ?_)
      unfold w65_l57
      exact hh
    · subst e
      refine d65 (s := 1) (L := w65_l57a (fun r S1 => w192 (nI 1) b g S1 (fun r2 S2 => Q r r2 S2))) (by decide) h hQ (fun n x2 x3 x5 S hh => ?_)
      unfold w65_l57a
      exact hh
    · subst e
      refine d65 (s := 2) (L := w65_l57b (fun r S1 => w192 (nI 2) b g S1 (fun r2 S2 => Q r r2 S2))) (by decide) h hQ (fun n x2 x3 x5 S hh => ?_)
      unfold w65_l57b
      exact hh
    · subst e
      refine d65 (s := 3) (L := w65_l57c (fun r S1 => w192 (nI 3) b g S1 (fun r2 S2 => Q r r2 S2))) (by decide) h hQ (fun n x2 x3 x5 S hh => ?_)
      unfold w65_l57c
      exact hh
  · have fin : w192 a b g S (fun r2 S2 => Q (-2) r2 S2) := w199_ok (fun j hj e => absurd e (hne j hj)) (fun _ => ⟨fun _ => hQ _ _ h, fun c => absurd rfl c⟩)
    exact ⟨fun c => absurd c (hne 0 (by decide)), fun c => absurd c (hne 1 (by decide)), fun c => absurd c (hne 2 (by decide)), fun c => absurd c (hne 3 (by decide)), fun _ => fin⟩
end FILM
