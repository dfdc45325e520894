/-! what the class answers, call by call, where all is as told -/
section FACES
variable {S : ri_H} {T : Nat} {τ : Int32 → Int32 → List Int32} {L p : Nat}
theorem c_set2 {b : Int32} {Q : Int32 → ri_H → Prop} {v : Nat} (hv : v < 1000) (hQ : ∀ S', ag [10] S S' → gw S' 10 = gset (gw S 10) 0 (upd (gw S 10 0) 10 (nI v)) → ∀ r, Q r S') : w47 2 b (nI v) S Q := by
  refine ⟨fun c => absurd rfl c, fun _ => ?_⟩
  unfold w76
  exact ⟨fun c => absurd c (nI_pos (by omega)), fun _ => ⟨fun _ => hQ _ (ag_wi (ag_refl _ _) (by decide)) (by rw [gw_wi0 _ 10 10 _ (by decide)]) _, fun c => absurd (nI_le (b := 999) (by omega) (by decide)) c⟩⟩
theorem c_life {Q : Int32 → ri_H → Prop} {k u c : Nat} (l3 : gw S 10 0 9 = nI L) (hL : L < 5) (hk : k < 6) (hu : u < 10) (hc : c < 12) (hQ : ∀ S', ag CW S S' → gw S' 10 = p_com (gw S 10) (nI k) (nI u) (nI c) → Q (nI L) S') : w48 (nI k) (nI u) (nI c) S Q := by
  unfold w48
  rw [show wi (nI k) 6 = 1 from wi_1 (n := 6) hk (by decide), show wi (nI u) 10 = 1 from wi_1 (n := 10) hu (by decide), show wi (nI c) 12 = 1 from wi_1 (n := 12) hc (by decide)]
  refine ⟨fun c => absurd c (by decide), fun _ => ⟨fun c => absurd c (by decide), fun _ => ⟨fun _ => w35_ok (fun hlt S1 a1 e1 => ?_) (fun hge => ?_), fun c => absurd (by decide) c⟩⟩⟩
  · have q := hQ S1 (ag_mo a1 (by decide)) e1
    rw [l3]
    exact q
  · exact absurd (by rw [l3]; exact nI_lt hL (by decide)) hge
theorem c_told9 {Q : Int32 → ri_H → Prop} (h : R T τ S) (l1 : S.1 10 9 = nI L) (hL : L ≤ 5) (hp : p < L) (hQ : ∀ S', ag CX S S' → Q (p_pt τ (gw S 10) (nI p)) S') : w49 (nI p) 9 S Q := by
  refine ⟨fun c => absurd c (by decide), fun c => absurd c (by decide), fun c => absurd c (by decide), fun c => absurd c (by decide), fun c => absurd c (by decide), fun c => absurd c (by decide), fun c => absurd c (by decide), fun c => absurd c (by decide), fun _ => ?_, fun c => absurd c (by decide)⟩
  rw [l1, wi_1 hp (by omega)]
  exact ⟨fun c => absurd c (by decide), fun _ => w41_ok (Or.inl rfl) (R_tc h) (fun S1 a1 => hQ S1 (ag_mo a1 (by decide)))⟩
theorem c_told1 {Q : Int32 → ri_H → Prop} {j : Nat} (hj : j < 24) (hQ : Q (gw S 10 2 j) S) : w49 (nI j) 1 S Q := by
  refine ⟨fun _ => ⟨fun _ => ⟨fun c => absurd c (by decide), fun _ => ?_, fun c => absurd c (by decide), fun c => absurd c (by decide), fun c => absurd c (by decide), fun c => absurd c (by decide), fun c => absurd c (by decide)⟩, fun c => absurd (show ¬ nI 1 = (7 : Int32) by decide) c⟩, fun c => absurd c (by decide), fun c => absurd c (by decide), fun c => absurd c (by decide), fun c => absurd c (by decide), fun c => absurd c (by decide), fun c => absurd c (by decide), fun c => absurd c (by decide), fun c => absurd c (by decide), fun c => absurd c (by decide)⟩
  unfold w49_b157a
  refine w78_1 ?_
  rw [show wi (nI j) 24 = 1 from wi_1 (n := 24) hj (by decide), it_nI _ hj (by decide)]
  refine ⟨fun _ => ?_, fun c => absurd (by decide) c⟩
  have e : S.1 12 j = gw S 10 2 j := gw_at (w := 10) (o := 2) (by decide) hj
  rw [e]
  exact hQ
theorem c_told4 {Q : Int32 → ri_H → Prop} (l1 : S.1 10 9 = nI L) (hL : L ≤ 5) (hp : p < L) (hQ : Q (gw S 10 5 p) S) : w49 (nI p) 4 S Q := by
  refine ⟨fun c => absurd c (by decide), fun c => absurd c (by decide), fun c => absurd c (by decide), fun _ => ⟨fun _ => ⟨fun c => absurd c (by decide), fun c => absurd c (by decide), fun c => absurd c (by decide), fun _ => ?_, fun c => absurd c (by decide), fun c => absurd c (by decide), fun c => absurd c (by decide)⟩, fun c => absurd (show ¬ nI 4 = (7 : Int32) by decide) c⟩, fun c => absurd c (by decide), fun c => absurd c (by decide), fun c => absurd c (by decide), fun c => absurd c (by decide), fun c => absurd c (by decide), fun c => absurd c (by decide)⟩
  unfold w49_b157c
  refine w78_n (by decide) (by decide) ?_
  rw [l1, wi_1 hp (by omega), it_nI _ (show p < 5 by omega) (by decide)]
  refine ⟨fun _ => ?_, fun c => absurd (by decide) c⟩
  have e : S.1 15 p = gw S 10 5 p := gw_at (w := 10) (o := 5) (by decide) (show p < 5 by omega)
  rw [e]
  exact hQ
theorem c_told6 {Q : Int32 → ri_H → Prop} (l1 : S.1 10 9 = nI L) (hL : L ≤ 5) (hp : p < L) (hQ : Q (gw S 10 7 p) S) : w49 (nI p) 6 S Q := by
  refine ⟨fun c => absurd c (by decide), fun c => absurd c (by decide), fun c => absurd c (by decide), fun c => absurd c (by decide), fun c => absurd c (by decide), fun _ => ⟨fun _ => ⟨fun c => absurd c (by decide), fun c => absurd c (by decide), fun c => absurd c (by decide), fun c => absurd c (by decide), fun c => absurd c (by decide), fun _ => ?_, fun c => absurd c (by decide)⟩, fun c => absurd (show ¬ nI 6 = (7 : Int32) by decide) c⟩, fun c => absurd c (by decide), fun c => absurd c (by decide), fun c => absurd c (by decide), fun c => absurd c (by decide)⟩
  unfold w49_b157e
  refine w78_n (by decide) (by decide) ?_
  rw [l1, wi_1 hp (by omega), it_nI _ (show p < 5 by omega) (by decide)]
  refine ⟨fun _ => ?_, fun c => absurd (by decide) c⟩
  have e : S.1 17 p = gw S 10 7 p := gw_at (w := 10) (o := 7) (by decide) (show p < 5 by omega)
  rw [e]
  exact hQ
theorem c_run {Q : Int32 → ri_H → Prop} {n w : Nat} (h : R T τ S) (l1 : S.1 10 9 = nI L) (hL : L ≤ 5) (hp : p < L) (hn : n ≤ 60) (hw : w < 3) (hQ : ∀ S', ag CX S S' → Q (p_run τ (gw S 10) (nI p) n (nI w)) S') : w56 (nI p) (nI n) (nI w) S Q := by
  have fin : w56_b56 Q (nI p) (nI n) (nI w) S := by
    unfold w56_b56
    refine w33_t (fun S1 a1 e1 => ⟨n + 1, ?_⟩)
    rw [gw_it S1 19 5 5 rfl (by decide), e1]
    have t0 : tw τ (gw S 10) S S1 0 := ⟨a1, e1⟩
    exact l86_ok hn h.2.1 h.1.2 hQ n 0 S1 (by omega) t0
  have b17 : w56_b17 Q (nI p) (nI n) (nI w) 0 S := by
    unfold w56_b17
    rw [l1, wi_1 hp (by omega), show wi (nI w) 3 = 1 from wi_1 (n := 3) hw (by decide)]
    refine ⟨fun c => absurd c (by decide), fun _ => ⟨fun c => absurd c (nI_pos (by omega)), fun _ => ⟨fun c2 => ?_, fun _ => ⟨fun c3 => absurd rfl c3, fun _ => ⟨fun _ => fin, fun c => absurd (by decide) c⟩⟩⟩⟩⟩
    have := (nI_ltI (a := 60) (b := n) (by decide) (by omega)).mp c2
    omega
  unfold w56 w56_b16
  exact ⟨fun _ => b17, fun c => absurd (nI_lt (b := 10) (by omega) (by decide)) c⟩
theorem c_other {Q : Int32 → ri_H → Prop} {n kk : Nat} (h : R T τ S) (l1 : S.1 10 9 = nI L) (hL : L ≤ 5) (hp : p < L) (hn : n ≤ 40) (hkk : kk < n) (hQ : ∀ S', ag CX S S' → Q (it (yro τ (gw S 10) (nI p) kk n 5) 5 (nI p)) S') : w57 (nI p) (nI n) (nI kk) S Q := by
  unfold w57
  rw [l1, wi_1 hp (by omega), wi_1 hkk (by omega)]
  refine ⟨fun c => absurd c (by decide), fun _ => ⟨fun c => ?_, fun _ => ⟨fun c2 => ?_, fun _ => ⟨fun _ => w33_t (fun S1 a1 e1 => ⟨n + 1, ?_⟩), fun c => absurd (by decide) c⟩⟩⟩⟩
  · have := (nI_ltI (b := 1) (by omega) (by decide)).mp c
    omega
  · have := (nI_ltI (a := 40) (by decide) (by omega)).mp c2
    omega
  · exact l47_ok hn hkk h.2.1 (g0 := gw S 10) h.1.2 hQ n 0 S1 (by omega) a1 e1
theorem c_turns {Q : Int64 → ri_H → Prop} {fr t n : Nat} (h : R T τ S) (hf : fr < 12) (ht : t < 12) (hn : n ≤ 30) (hQ : ∀ S', ag CX S S' → Q (lN (p_ws (gw S 10) fr n t)) S') : w58 (nI fr) (nI t) (nI n) S Q := by
  unfold w58 w58_b28
  rw [show wi (nI fr) 12 = 1 from wi_1 (n := 12) hf (by decide), show wi (nI t) 12 = 1 from wi_1 (n := 12) ht (by decide)]
  refine ⟨fun c => absurd c (by decide), fun _ => ⟨fun c => absurd c (by decide), fun _ => ⟨fun c => absurd c (nI_pos (by omega)), fun _ => ⟨fun _ => ?_, fun c2 => absurd (nI_le (b := 30) (by omega) (by decide)) c2⟩⟩⟩⟩
  exact w80_ok (g := gw S 10) hf ht hn (R_ok h).2.1 rfl hQ
theorem c_likely {Q : Int64 → ri_H → Prop} {fr t n w : Nat} (h : R T τ S) (hf : fr < 12) (ht : t < 12) (hn : n ≤ 30) (hw : w < 2) (hQ : ∀ S', ag CX S S' → Q (p_low (p_ws (gw S 10) fr n t) (2 ^ n) (nI w)) S') : w59 (nI fr) (nI t) (nI n) (nI w) S Q := by
  unfold w59 w59_b37
  rw [show wi (nI fr) 12 = 1 from wi_1 (n := 12) hf (by decide), show wi (nI t) 12 = 1 from wi_1 (n := 12) ht (by decide), show wi (nI w) 2 = 1 from wi_1 (n := 2) hw (by decide)]
  refine ⟨fun c => absurd c (by decide), fun _ => ⟨fun c => absurd c (by decide), fun _ => ⟨fun c => absurd c (nI_pos (by omega)), fun _ => ⟨fun c2 => ?_, fun _ => ⟨fun _ => w80_ok (g := gw S 10) hf ht hn (R_ok h).2.1 rfl (fun S1 a1 => ?_), fun c => absurd (by decide) c⟩⟩⟩⟩⟩
  · have := (nI_ltI (a := 30) (by decide) (by omega)).mp c2
    omega
  · have hA : p_ws (gw S 10) fr n t < 2 ^ 31 := by
      have := ws_le (R_ok h).2.1 hf ht hn
      have e : gm S = gw S 10 := rfl
      rw [e] at this
      omega
    have hB : 2 ^ n < 2 ^ 31 := Nat.pow_lt_pow_right (by decide) (by omega)
    have hB1 : 1 ≤ 2 ^ n := Nat.one_le_two_pow
    rw [sh1L n (by omega)]
    exact low_c hA hB hB1 (hQ S1 a1)
theorem c_fewest {Q : Int32 → ri_H → Prop} {t n y c0 : Nat} (h : R T τ S) (l1 : S.1 10 9 = nI L) (hL : L ≤ 5) (hp : p < L) (ht : t < 12) (hn : n ≤ 30) (hy : y ≤ 999) (ey : gw S 10 0 10 = nI y) (hc0 : c0 < 12) (ec0 : gw S 10 5 p = nI c0) (hQ : ∀ S', ag CX S S' → Q (enc (p_fw τ (gw S 10) y p c0 n t)) S') : w60 (nI p) (nI t) (nI n) S Q := by
  unfold w60
  rw [l1, wi_1 hp (by omega), show wi (nI t) 12 = 1 from wi_1 (n := 12) ht (by decide)]
  refine ⟨fun c => absurd c (by decide), fun _ => ⟨fun c => absurd c (by decide), fun _ => ⟨fun c => absurd c (nI_pos (by omega)), fun _ => ⟨fun _ => ?_, fun c2 => absurd (nI_le (b := 30) (by omega) (by decide)) c2⟩⟩⟩⟩
  have p5 : p < 5 := by omega
  refine w33_t (fun S1 a1 e1 => ⟨n + 1, ?_⟩)
  have e15 : it (S1.1 15) 5 (nI p) = nI c0 := by
    rw [gw_it S1 10 5 5 rfl (by decide), gw_ag a1 (in8 (by decide)), it_nI _ p5 (by decide), ec0]
  rw [e15, pu_nI _ _ hc0 (by decide)]
  refine l74_ok (τ := τ) (g := gw S 10) (y := y) (c0 := c0) p5 hy ht hn h.2.1 h.1.2 hQ n 0 _ (by omega) (ag_wr (ag_wr a1 (by decide)) (by decide)) ?_ (fun j hj => ?_)
  · rw [gw_ag (ag_wr (ag_wr (ag_refl [48] S1) (by decide)) (by decide)) (in8 (by decide)), e1]
    exact ⟨ey, fun _ _ => rfl, fun _ _ => rfl, fun _ _ _ => rfl⟩
  · rw [ri_wr_1]
    show _ = enc (if j = c0 then 0 else 1000)
    by_cases e : j = c0
    · rw [e, pk_us, if_pos rfl]
      rfl
    · rw [pk_un e, if_neg e]
      unfold fil
      rw [if_pos hj]
      rfl
theorem c_image {Q : Int32 → ri_H → Prop} (hQ : ∀ S', ag [0, 28, 29, 30, 31, 32, 33, 34, 35] S S' → gw S' 28 = gw S 10 → S'.1 0 10 = 1 → ∀ r, Q r S') : w68 S Q := by
  unfold w68
  refine w33_ok (Or.inr (Or.inr ⟨rfl, rfl⟩)) (fun S1 a1 e1 => ?_)
  refine hQ _ (ag_wi (ag_mo a1 (by decide)) (by decide)) ?_ (by rw [ri_wi_1, pk_us]) _
  rw [← e1]
  exact gw_ag (ag_wi (ag_refl [0] S1) (by decide)) (in8 (by decide))
theorem c_back {Q : Int32 → ri_H → Prop} (i1 : S.1 0 10 = 1) (hQ : ∀ S', ag CW S S' → gw S' 10 = gw S 28 → ∀ r, Q r S') : w69 S Q := by
  unfold w69
  rw [i1]
  exact ⟨fun _ => w33_ok (Or.inl ⟨rfl, rfl⟩) (fun S1 a1 e1 => hQ S1 (ag_mo a1 (by decide)) e1 _), fun c => absurd (by decide) c⟩
theorem c_year {Q : Int32 → ri_H → Prop} {y : Nat} (h : R T τ S) (l3 : gw S 10 0 9 = nI L) (hL : L ≤ 5) (hy : y < 999) (ey : gw S 10 0 10 = nI y) (hQ : ∀ S', ag CW S S' → gw S' 10 = p_yr τ (-1) (gw S 10) → Q (p_all (gw S' 10)) S') : w54 S Q := by
  unfold w54
  rw [show S.1 10 10 = nI y by rw [gw_0 S 10 10 (by decide), ey]]
  refine ⟨fun _ => w39_ok (Or.inl rfl) l3 (by omega) (R_tc h) (fun S1 a1 e1 => w37_ok ?_), fun c => absurd (nI_lt (b := 999) hy (by decide)) c⟩
  exact hQ S1 (ag_mo a1 (by decide)) e1
theorem c_best1 {Q : Int32 → ri_H → Prop} {j : Nat} (h : R T τ S) (l1 : S.1 10 9 = nI L) (hL : L ≤ 5) (hp : p < L) (hj : j < 24) (es : p_sp τ (gw S 10) (nI p) 24 = (nI j, p_fl τ (gw S 10) (nI p) (nI j))) (hQ : ∀ S', ag CX S S' → Q (p_fl τ (gw S 10) (nI p) (nI j)) S') : w63 (nI p) 1 S Q := by
  unfold w63
  rw [l1, wi_1 hp (by omega), show wi (1 : Int32) 3 = 1 from wi_1 (j := 1) (n := 3) (by decide) (by decide)]
  refine ⟨fun c => absurd c (by decide), fun _ => ⟨fun _ => ⟨fun _ => ⟨25, ?_⟩, fun c2 => absurd (show ¬ (1 : Int32) = 2 by decide) c2⟩, fun c => absurd (by decide) c⟩⟩
  refine l7_ok (one := nI p) h (fun S1 a1 => ?_) 24 0 S rfl (ag_refl _ _)
  have h1 := R_c h a1
  have e : (p_sp τ (gm S) (nI p) 24).1 = nI j := congrArg Prod.fst es
  rw [e]
  refine ⟨fun _ => ⟨fun _ => w42_ok (Or.inl rfl) (R_tc h1) (fun S2 a2 => ?_), fun c1 => ?_⟩, fun c0 => absurd (show ¬ (1 : Int32) = 0 by decide) c0⟩
  · have q := hQ S2 (ag_tr a1 (ag_mo a2 (by decide)))
    have g1 : gw S1 10 = gw S 10 := c_gm a1
    rw [g1]
    exact q
  · have c1 := Decidable.not_not.mp c1
    exact absurd c1 (fun q => nI_pos (n := j) (by omega) (by rw [q]; decide))
theorem c_best0 {Q : Int32 → ri_H → Prop} (h : R T τ S) (l1 : S.1 10 9 = nI L) (hL : L ≤ 5) (hp : p < L) (hQ : ∀ S', ag CX S S' → Q (p_sp τ (gw S 10) (nI p) 24).1 S') : w63 (nI p) 0 S Q := by
  unfold w63
  rw [l1, wi_1 hp (by omega), show wi (0 : Int32) 3 = 1 from wi_1 (j := 0) (n := 3) (by decide) (by decide)]
  refine ⟨fun c => absurd c (by decide), fun _ => ⟨fun _ => ⟨fun _ => ⟨25, ?_⟩, fun c2 => absurd (show ¬ (0 : Int32) = 2 by decide) c2⟩, fun c => absurd (by decide) c⟩⟩
  refine l7_ok (one := nI p) h (fun S1 a1 => ?_) 24 0 S rfl (ag_refl _ _)
  exact ⟨fun c0 => absurd rfl c0, fun _ => hQ S1 a1⟩
theorem c_best2 {Q : Int32 → ri_H → Prop} (l1 : S.1 10 9 = nI L) (hL : L ≤ 5) (hp : p < L) (hQ : Q (p_sf (gw S 10) 24).1 S) : w63 (nI p) 2 S Q := by
  unfold w63
  rw [l1, wi_1 hp (by omega), show wi (2 : Int32) 3 = 1 from wi_1 (j := 2) (n := 3) (by decide) (by decide)]
  exact ⟨fun c => absurd c (by decide), fun _ => ⟨fun _ => ⟨fun c2 => absurd rfl c2, fun _ => ⟨25, l6_ok hQ 24 0 rfl⟩⟩, fun c => absurd (by decide) c⟩⟩
theorem c_spoon {Q : Int32 → ri_H → Prop} {k u : Nat} (h : R T τ S) (l1 : S.1 10 9 = nI L) (hL : L ≤ 5) (hp : p < L) (hk : k < 24) (eu : gw S 10 2 k = nI u) (hu : u < 1000) (hQ : 1 ≤ u → ∀ S', ag CW S S' → gw S' 10 = p_eat τ (gw S 10) (nI p) (nI k) → Q (p_mood τ (gw S 10) (nI p) (nI k)) S') (h0 : u = 0 → Q (-1003) S) : w55 (nI p) (nI k) S Q := by
  unfold w55
  rw [l1, wi_1 hp (by omega), show wi (nI k) 24 = 1 from wi_1 (n := 24) hk (by decide)]
  have ej : it (S.1 12) 24 (nI k) = nI u := by
    rw [gw_it S 10 2 24 rfl (by decide), it_nI _ hk (by decide), eu]
  rw [ej]
  refine ⟨fun c => absurd c (by decide), fun _ => ⟨fun _ => ⟨fun c => w43_ok (Or.inl rfl) (R_tc h) (fun S1 a1 e1 => hQ ((nI_leI (a := 1) (by decide) (by omega)).mp c) S1 (ag_mo a1 (by decide)) e1), fun c => h0 ?_⟩, fun c => absurd (by decide) c⟩⟩
  rcases Nat.lt_or_ge u 1 with q | q
  · omega
  · exact absurd (nI_le q (by omega)) c
theorem c_count1 {Q : Int32 → ri_H → Prop} (hQ : Q (p_all (gw S 10)) S) : w70 1 S Q := by
  unfold w70
  exact ⟨fun c => absurd c (by decide), fun c => absurd c (by decide), fun _ => w37_ok hQ, fun c => absurd c (by decide), fun c => absurd c (by decide), fun c => absurd c (by decide), fun c => absurd c (by decide)⟩
end FACES
