/-! the law, a turn of it, to the making of its row of two -/
def zv : Nat → Nat := fun _ => 0
theorem smN_z : smN zv 24 = 0 := by decide
section LA
variable {E : ri_E} {S : ri_H}
theorem i32_n (x : Int32) : x = nI x.toBitVec.toNat := by
  apply Int32.toBitVec_inj.mp
  apply BitVec.eq_of_toNat_eq
  rw [pk_tn x.toBitVec.isLt]
theorem some_ok {K : Int32 → ri_H → Prop} {j m : Nat} (hE : E.1 < 2 ^ 20) (hj : j < 2 ^ 20) (hm : 0 < m) (hm2 : m < 2 ^ 31) (hK : ∀ r, r < m → K (nI r) S) : w216 E (nI j) (nI m) S K := by
  have fin : ∀ x : Int32, (¬ nI m = 0) ∧ (K ((x.toUInt32 >>> (((3 : Int32)).toUInt32 &&& Int32.toUInt32 31)).toInt32 - (x.toUInt32 >>> (((3 : Int32)).toUInt32 &&& Int32.toUInt32 31)).toInt32 / nI m * nI m) S) := by
    intro x
    refine ⟨nI_ne0 hm hm2, ?_⟩
    have e := pk_ushr x (3 : Int32) 3 (by decide)
    have hlt : x.toBitVec.toNat < 2 ^ 32 := x.toBitVec.isLt
    have en := i32_n (x.toUInt32 >>> (((3 : Int32)).toUInt32 &&& Int32.toUInt32 31)).toInt32
    rw [e] at en
    rw [en, pk_rem (by omega) hm hm2]
    exact hK _ (Nat.mod_lt _ hm)
  unfold w216 w215
  refine ⟨fun _ => fin _, fun c => ⟨?_, fin _⟩⟩
  have hlt : j < E.1 := by
    rcases Nat.lt_or_ge j E.1 with q | q
    · exact q
    · exact absurd (nI_le q (by omega)) c
  exact vp_in_nI hlt (by omega)
theorem some_at {K : Int32 → ri_H → Prop} {a t m : Nat} {k n : Int32} (hE : E.1 < 2 ^ 20) (ek : k = nI (a + t)) (ha : a + t < 2 ^ 20) (en : n = nI m) (hm : 0 < m) (hm2 : m < 2 ^ 31) (hK : ∀ r, r < m → K (nI r) S) : w216 E k n S K := by
  rw [ek, en]
  exact some_ok hE ha hm hm2 hK
theorem pw_com {g : Nat → Nat → Int32} {L y u c : Nat} {a v : Nat → Nat} (h : pw g L y a v) (hL : L < 5) (hc : c < 12) : pw (p_com g (nI 0) (nI u) (nI c)) (L + 1) y (fun p => if p = L then c else a p) v := by
  obtain ⟨h9, h10, h11, h1, h2, hp⟩ := h
  unfold p_com
  rw [h9, pu_nI _ _ hL (by decide), pu_nI _ _ hL (by decide), pu_nI _ _ hL (by decide), pu_nI _ _ hL (by decide), pu_nI _ _ hL (by decide), nI_1]
  refine ⟨?_, ?_, ?_, h1, h2, fun p hp2 => ?_⟩
  · rw [gset_s, pk_us]
  · rw [gset_s, pk_un (by decide)]
    exact h10
  · rw [gset_s, pk_un (by decide)]
    exact h11
  · show upd (g 3) L (nI 0) p = 0 ∧ upd (g 5) L (nI c) p = nI (if p = L then c else a p) ∧ (if p = L then c else a p) < 12
    unfold upd
    by_cases e : p = L
    · rw [if_pos e, if_pos e, if_pos e]
      exact ⟨rfl, rfl, hc⟩
    · rw [if_neg e, if_neg e, if_neg e]
      exact hp p (by omega)
/-- so many lives have come -/
def LV (S : ri_H) (k y first : Nat) : Prop := ∃ a, R 1 ta0 S ∧ pw (gw S 10) k y a zv ∧ (1 ≤ k → a 0 = first ∧ gw S 10 6 0 = nI 0 ∧ gw S 10 7 0 = nI 0)
theorem LV_ag {S' : ri_H} {k y first : Nat} (h : LV S k y first) (a : ag CX S S') : LV S' k y first := by
  obtain ⟨f, h1, h2, h3⟩ := h
  have e : gw S' 10 = gw S 10 := c_gm a
  exact ⟨f, R_c h1 a, by rw [e]; exact h2, by rw [e]; exact h3⟩
theorem l9_of {k y : Nat} {a v : Nat → Nat} (h : pw (gw S 10) k y a v) : S.1 10 9 = nI k := by
  rw [gw_0 S 10 9 (by decide)]
  exact h.1
theorem b101_ok {K : Int32 → Int32 → Int32 → Int32 → Int32 → ri_H → Prop} {Q : Int32 → Int32 → Int32 → Int32 → Int32 → Int32 → Int32 → ri_H → Prop} {x1 x3 x4 x5 : Int32} {k y first c u : Nat} (h : LV S k y first) (hk : k < 5) (hc : c < 12) (hu : u < 10) (h0 : k = 0 → c = first) (hK : ∀ S', LV S' (k + 1) y first → K x1 x3 x4 x5 (nI (k + 1)) S') : wLA_b101 E K Q x1 x3 x4 x5 (nI k) (nI c) (nI u) 0 S := by
  obtain ⟨a, hR, hp, h3⟩ := h
  unfold wLA_b101
  refine c_life (k := 0) hp.1 hk (by decide) hu hc (fun S1 a1 e1 => ?_)
  refine ⟨fun c => absurd rfl c, fun _ => ?_⟩
  have hp1 : pw (gw S1 10) (k + 1) y (fun p => if p = k then c else a p) zv := by
    rw [e1]
    exact pw_com hp hk hc
  have hR1 : R 1 ta0 S1 := R_of hR a1 (by decide) (by
    have e : gm S1 = p_com (gw S 10) (nI 0) (nI u) (nI c) := e1
    rw [e]
    exact gwd_com hR.1.2 hk hp.1 (by decide) hu hc)
  have hV : LV S1 (k + 1) y first := by
    refine ⟨_, hR1, hp1, fun _ => ⟨?_, ?_, ?_⟩⟩
    · by_cases e : 0 = k
      · show (if 0 = k then c else a 0) = first
        rw [if_pos e]
        exact h0 e.symm
      · show (if 0 = k then c else a 0) = first
        rw [if_neg e]
        exact (h3 (by omega)).1
    · rw [e1]
      unfold p_com
      rw [hp.1, pu_nI _ _ hk (by decide), pu_nI _ _ hk (by decide), pu_nI _ _ hk (by decide), pu_nI _ _ hk (by decide), pu_nI _ _ hk (by decide)]
      show upd (gw S 10 6) k 0 0 = nI 0
      unfold upd
      by_cases e : 0 = k
      · rw [if_pos e]
        rfl
      · rw [if_neg e]
        exact (h3 (by omega)).2.1
    · rw [e1]
      unfold p_com
      rw [hp.1, pu_nI _ _ hk (by decide), pu_nI _ _ hk (by decide), pu_nI _ _ hk (by decide), pu_nI _ _ hk (by decide), pu_nI _ _ hk (by decide)]
      show upd (gw S 10 7) k 0 0 = nI 0
      unfold upd
      by_cases e : 0 = k
      · rw [if_pos e]
        rfl
      · rw [if_neg e]
        exact (h3 (by omega)).2.2
  refine c_told9 hR1 (l9_of hp1) (by omega) (show k < k + 1 by omega) (fun S2 a2 => ?_)
  rw [pt_pl (by omega) (hp1.2.2.2.2.2 k (by omega)).1 hp1.2.2.1, nI_1]
  exact ⟨fun _ => hK S2 (LV_ag hV a2), fun c => absurd rfl c⟩
/-- the two, over the line and under it -/
theorem cut_ok {A B : Nat} (hA : A < 2 ^ 31) (hB : B < 2 ^ 31) (hB1 : 1 ≤ B) : 0 < B / eu 200 A B ∧ A / eu 200 A B * (B / (B / eu 200 A B)) = A ∧ B % (B / eu 200 A B) = 0 := by
  have ed := ed200 A hB
  have hp := eu_pos 200 A B ed (Or.inr (by omega))
  obtain ⟨d1, d2⟩ := eu_dvd 200 A B ed
  obtain ⟨q1, e1⟩ := d1
  obtain ⟨q2, e2⟩ := d2
  generalize eu 200 A B = e at hp e1 e2
  have f1 : A / e = q1 := by rw [e1, Nat.mul_div_cancel_left _ hp]
  have f2 : B / e = q2 := by rw [e2, Nat.mul_div_cancel_left _ hp]
  have q2p : 0 < q2 := by
    rcases Nat.eq_zero_or_pos q2 with z | z
    · rw [z, Nat.mul_zero] at e2
      omega
    · exact z
  rw [f1, f2]
  refine ⟨q2p, ?_, ?_⟩
  · rw [e2, Nat.mul_div_cancel _ q2p, Nat.mul_comm]
    exact e1.symm
  · rw [e2, Nat.mul_mod_left]
theorem low_0 (A B : Nat) : p_low A B (nI 0) = lN (A / eu 200 A B) := by
  unfold p_low
  rw [if_pos (show nI 0 = 0 from rfl)]
theorem low_1 (A B : Nat) : p_low A B (nI 1) = lN (B / eu 200 A B) := by
  unfold p_low
  rw [if_neg (show ¬ nI 1 = 0 by decide)]
variable {Q : Int32 → Int32 → Int32 → Int32 → Int32 → Int32 → Int32 → ri_H → Prop}
/-- the ways counted, and asked -/
theorem l278_ok {t n fr to y L : Nat} {x3 x5 x6 : Int32} {a : Nat → Nat} (hE : E.1 < 2 ^ 20) (ht : t < 3) (hn : n < 31) (hf : fr < 12) (hto : to < 12) (hR : R 1 ta0 S) (hp : pw (gw S 10) L y a zv) (hQ : ∀ S' few, few < 11 → ag CX S S' → Q (nI t) x3 (nI fr) x5 x6 (nI few) 2 S') : ∀ d s, s + d = n + 1 → wLA_l278 E Q (d + 1) (nI t) x3 (nI fr) x5 x6 (nI n) (nI to) (lN (wsN n fr to s)) (lN (chs n s)) (nI s) S
  | 0, s, hs => by
    have hs : s = n + 1 := by omega
    subst hs
    unfold wLA_l278
    refine ⟨fun _ => ?_, fun c => absurd (nI_lt (by omega) (by omega)) c⟩
    refine c_turns hR hf hto (by omega) (fun S1 a1 => ?_)
    have ew : p_ws (gw S 10) fr n to = wsN n fr to (n + 1) := ws_N hp.2.2.2.1 hf n (by omega) to hto
    have hA : p_ws (gw S 10) fr n to < 2 ^ 31 := by
      have := ws_le (R_ok hR).2.1 hf hto (show n ≤ 30 by omega)
      have e : gm S = gw S 10 := rfl
      rw [e] at this
      omega
    rw [← ew]
    refine ⟨fun _ => ?_, fun c => absurd ((lg_cmp_eq _ _).mpr rfl) c⟩
    have g1 : gw S1 10 = gw S 10 := c_gm a1
    refine c_likely (w := 1) (R_c hR a1) hf hto (by omega) (by decide) (fun S2 a2 => ?_)
    have a12 := ag_tr a1 a2
    have g2 : gw S2 10 = gw S 10 := c_gm a12
    refine c_likely (w := 0) (R_c hR a12) hf hto (by omega) (by decide) (fun S3 a3 => ?_)
    rw [g1, g2, low_0, low_1]
    have hB : 2 ^ n < 2 ^ 31 := Nat.pow_lt_pow_right (by decide) (by omega)
    obtain ⟨c1, c2, c3⟩ := cut_ok hA hB Nat.one_le_two_pow
    generalize p_ws (gw S 10) fr n to = A at *
    have lq : 2 ^ n / eu 200 A (2 ^ n) ≤ 2 ^ n := Nat.div_le_self _ _
    have ne : ¬ lN (2 ^ n / eu 200 A (2 ^ n)) = 0 := fun e => by
      have := (pk_lEQ (b := 0) (by omega) (by decide)).mp e
      omega
    rw [sh1L n hn, pk_lDiv (by omega) c1 (by omega), lN_mul, c2]
    have er : lN (2 ^ n) - lN (2 ^ n / (2 ^ n / eu 200 A (2 ^ n))) * lN (2 ^ n / eu 200 A (2 ^ n)) = 0 := by
      have q := pk_lRem (a := 2 ^ n) (b := 2 ^ n / eu 200 A (2 ^ n)) (by omega) c1 (by omega)
      rw [pk_lDiv (by omega) c1 (by omega), c3] at q
      exact q
    rw [er]
    refine ⟨ne, fun c => absurd ((lg_cmp_eq _ _).mpr rfl) c, fun _ => ⟨ne, fun _ => ?_, fun c => absurd ((lg_cmp_eq _ _).mpr rfl) c⟩⟩
    exact some_at (a := 33) (t := t) (m := 11) hE (nI_add 33 t) (by omega) rfl (by decide) (by decide) (fun r hr => hQ S3 r hr (ag_tr a12 a3))
  | d + 1, s, hs => by
    have hsn : s ≤ n := by omega
    unfold wLA_l278
    refine ⟨fun c => ?_, fun _ => ?_⟩
    · have := (nI_ltI (by omega) (by omega)).mp c
      omega
    rw [nI_add, nI_add, show nI (fr + n + s) - nI (fr + n + s) / 12 * 12 = nI ((fr + n + s) % 12) from pk_rem (d := 12) (by omega) (by decide) (by decide)]
    have ih := l278_ok hE ht hn hf hto hR hp hQ d (s + 1) (by omega)
    have nx : ∀ w, w = wsN n fr to (s + 1) → wLA_b308 E (fun x1 x3 x4 x5 x6 x9 x10 y11 y13 x15 S => wLA_l278 E Q (d + 1) x1 x3 x4 x5 x6 x9 x10 y11 y13 x15 S) Q (nI t) x3 (nI fr) x5 x6 (nI n) (nI to) (lN w) (lN (chs n s)) (nI s) S := by
      intro w hw
      subst hw
      unfold wLA_b308
      rw [nI_1, nI_l (by omega), show nI n - nI s = nI (n - s) from pk_sub hsn, nI_l (by omega), lN_mul]
      have b := chs_le n hn s (by omega)
      have b2 : chs n s * (n - s) ≤ 2 ^ 31 * 31 := Nat.mul_le_mul (by omega) (by omega)
      refine ⟨fun e => ?_, fun e29 he => ?_⟩
      · have := (pk_lEQ (a := s + 1) (b := 0) (by omega) (by decide)).mp e
        omega
      · rw [he, pk_lDiv (by omega) (by omega) (by omega)]
        exact ih
    refine ⟨fun c => nx _ ?_, fun c => ?_⟩
    · show _ = wsN n fr to s + (if (fr + n + s) % 12 = to then chs n s else 0)
      rw [if_neg (fun e => c (by rw [e]))]
      rfl
    · rw [lN_add]
      refine nx _ ?_
      show _ = wsN n fr to s + (if (fr + n + s) % 12 = to then chs n s else 0)
      rw [if_pos (nI_inj (by omega) (by omega) (Decidable.not_not.mp c))]
/-- the years gone in thought -/
theorem l154_ok {t n fr y L : Nat} {a : Nat → Nat} (hE : E.1 < 2 ^ 20) (ht : t < 3) (hn : n < 31) (hy : y < 20) (hL : 1 ≤ L ∧ L ≤ 5) (hf : fr < 12) (ea : a 0 = fr) (hR : R 1 ta0 S) (hp : pw (gw S 10) L y a zv) (hQ : ∀ S' few, few < 11 → ag CX S S' → Q (nI t) (nI L) (nI fr) (nI y) (nI n) (nI few) 2 S') : ∀ d k, k + d = n → wLA_l154 E Q (d + 1) (nI t) (nI L) (nI fr) (nI y) (nI n) (nI (psN y 100 k fr)) (seN y fr k) (nI k) S
  | 0, k, hk => by
    have hk : k = n := by omega
    subst hk
    have b : 2 * L * k ≤ 2 * 5 * 31 := Nat.mul_le_mul (by omega) (by omega)
    have sz := smN_z
    unfold wLA_l154
    refine ⟨fun _ => ?_, fun c => absurd (nI_le (Nat.le_refl _) (by omega)) c⟩
    refine c_run (p := 0) (w := 0) hR (l9_of hp) hL.2 hL.1 (by omega) (by decide) (fun S1 a1 => ?_)
    have e0 : p_run ta0 (gw S 10) (nI 0) k (nI 0) = nI (psN y 100 k fr) := by
      unfold p_run
      rw [if_pos (show nI 0 = 0 from rfl), at_yrs hp hL (by omega) (by omega), ea]
    rw [e0]
    refine ⟨fun c => absurd rfl c, fun _ => ?_⟩
    have g1 : gw S1 10 = gw S 10 := c_gm a1
    refine c_run (p := 0) (w := 1) (R_c hR a1) (l9_of (k := L) (y := y) (a := a) (v := zv) (by rw [g1]; exact hp)) hL.2 hL.1 (by omega) (by decide) (fun S2 a2 => ?_)
    have e1 : p_run ta0 (gw S1 10) (nI 0) k (nI 1) = seN y fr k := by
      unfold p_run
      rw [if_neg (show ¬ nI 1 = 0 by decide), if_pos (show nI 1 = 1 from rfl), g1, seen_pl hp hL (by omega) k (by omega) (by omega), ea]
    rw [e1]
    refine ⟨fun c => absurd rfl c, fun _ => ?_⟩
    have a12 := ag_tr a1 a2
    have g2 : gw S2 10 = gw S 10 := c_gm a12
    refine c_run (p := 0) (w := 2) (R_c hR a12) (l9_of (k := L) (y := y) (a := a) (v := zv) (by rw [g2]; exact hp)) hL.2 hL.1 (by omega) (by decide) (fun S3 a3 => ?_)
    have e2 : p_run ta0 (gw S2 10) (nI 0) k (nI 2) = 2 * nI L * nI k := by
      unfold p_run
      rw [if_neg (show ¬ nI 2 = 0 by decide), if_neg (show ¬ nI 2 = 1 by decide), if_pos (show nI 2 = 2 from rfl), g2, all_yrs hp hL (by omega) (by omega), smN_z, x2_0, pk_mul, Nat.zero_add]
    rw [e2]
    refine ⟨fun _ => ?_, fun c => absurd rfl c⟩
    have a13 := ag_tr a12 a3
    have g3 : gw S3 10 = gw S 10 := c_gm a13
    refine some_at (a := 27) (t := t) (m := 31) hE (nI_add 27 t) (by omega) rfl (by decide) (by decide) (fun n2 hn2 => ?_)
    refine some_at (a := 30) (t := t) (m := 12) hE (nI_add 30 t) (by omega) rfl (by decide) (by decide) (fun to hto => ⟨n2 + 1 + 1, ?_⟩)
    exact l278_ok (L := L) (y := y) (a := a) hE ht hn2 hf hto (R_c hR a13) (by rw [g3]; exact hp) (fun S' few hfew a' => hQ S' few hfew (ag_tr a13 a')) (n2 + 1) 0 (by omega)
  | d + 1, k, hk => by
    have hlt := psN_lt y 100 hf k
    unfold wLA_l154
    refine ⟨fun c => absurd c (nI_ge (by omega) (by omega)), fun _ e30 h30 e31 h31 => ?_⟩
    rw [nI_add, nI_add, show nI (psN y 100 k fr + y + k) - nI (psN y 100 k fr + y + k) / 2 * 2 = nI ((psN y 100 k fr + y + k) % 2) from pk_rem (d := 2) (by omega) (by decide) (by decide)] at h30
    rw [h30, nI_1, nI_add, show nI (psN y 100 k fr + 1 + (psN y 100 k fr + y + k) % 2) - nI (psN y 100 k fr + 1 + (psN y 100 k fr + y + k) % 2) / 12 * 12 = nI ((psN y 100 k fr + 1 + (psN y 100 k fr + y + k) % 2) % 12) from pk_rem (d := 12) (by omega) (by decide) (by decide)] at h31
    have e : (psN y 100 k fr + 1 + (psN y 100 k fr + y + k) % 2) % 12 = psN y 100 (k + 1) fr := by
      show _ = stN (if k = 100 then 1 else 0) (y + k) 0 (psN y 100 k fr)
      rw [if_neg (by omega)]
      unfold stN rdN
      rw [if_neg (fun h => absurd h.2 (by decide)), Nat.add_assoc (psN y 100 k fr) y k]
    rw [e] at h31
    subst h31
    have ih := l154_ok hE ht hn hy hL hf ea hR hp hQ d (k + 1) (by omega)
    rw [nI_1]
    exact ih
/-- the lives come -/
theorem l59_ok {t y fr L : Nat} (hE : E.1 < 2 ^ 20) (ht : t < 3) (hy : y < 20) (hL : 1 ≤ L ∧ L ≤ 5) (hf : fr < 12) (hQ : ∀ S' years few, years < 31 → few < 11 → LV S' L y fr → Q (nI t) (nI L) (nI fr) (nI y) (nI years) (nI few) 2 S') : ∀ d k S, k + d = L → LV S k y fr → wLA_l59 E Q (d + 1) (nI t) (nI L) (nI fr) (nI y) (nI k) S
  | 0, k, S, hk, h => by
    have hk : k = L := by omega
    subst hk
    unfold wLA_l59
    refine ⟨fun _ => ?_, fun c => absurd (nI_le (Nat.le_refl _) (by omega)) c⟩
    refine some_at (a := 24) (t := t) (m := 31) hE (nI_add 24 t) (by omega) rfl (by decide) (by decide) (fun n hn => ⟨n + 1, ?_⟩)
    have h0 := h
    obtain ⟨a, hR, hp, h3⟩ := h
    exact l154_ok hE ht hn hy hL hf (h3 hL.1).1 hR hp (fun S' few hfew a' => hQ S' n few hn hfew (LV_ag h0 a')) n 0 (by omega)
  | d + 1, k, S, hk, h => by
    unfold wLA_l59
    refine ⟨fun c => absurd c (nI_ge (by omega) (by omega)), fun _ => ?_⟩
    have nx : ∀ S', LV S' (k + 1) y fr → wLA_l59 E Q (d + 1) (nI t) (nI L) (nI fr) (nI y) (nI (k + 1)) S' := fun S' h' => l59_ok hE ht hy hL hf hQ d (k + 1) S' (by omega) h'
    refine some_at (a := 9) (t := k) (m := 10) hE (nI_add 9 k) (by omega) rfl (by decide) (by decide) (fun u hu => ⟨fun cz => ?_, fun _ => ?_⟩)
    · refine some_at (a := 16 + k) (t := t) (m := 12) hE ?_ (by omega) rfl (by decide) (by decide) (fun c hc => ?_)
      · have e : (16 : Int32) + nI k = nI (16 + k) := nI_add 16 k
        rw [e, nI_add]
      · exact b101_ok h (by omega) hc hu (fun e => absurd (by rw [e]; rfl) cz) nx
    · exact b101_ok h (by omega) hf hu (fun _ => rfl) nx
theorem lawA_ok {t : Nat} {a : Nat → Nat} (hE : E.1 < 2 ^ 20) (ht : t < 3) (hR : R 1 ta0 S) (hp : pw (gw S 10) 0 0 a zv) (hQ : ∀ S' L y fr years few, 1 ≤ L → L ≤ 5 → y < 20 → fr < 12 → years < 31 → few < 11 → LV S' L y fr → Q (nI t) (nI L) (nI fr) (nI y) (nI years) (nI few) 2 S') : wLA E Q (nI t) S := by
  unfold wLA
  refine some_at (a := 0) (t := t) (m := 5) hE (by rw [Nat.zero_add]) (by omega) rfl (by decide) (by decide) (fun l hl => ?_)
  refine some_at (a := 3) (t := t) (m := 12) hE (nI_add 3 t) (by omega) rfl (by decide) (by decide) (fun fr hf => ?_)
  refine some_at (a := 6) (t := t) (m := 20) hE (nI_add 6 t) (by omega) rfl (by decide) (by decide) (fun y hy => ?_)
  refine c_set2 (by omega) (fun S1 a1 e1 r => ⟨l + 1 + 1, ?_⟩)
  have e : (1 : Int32) + nI l = nI (l + 1) := by
    have q : nI 1 + nI l = nI (1 + l) := nI_add 1 l
    rw [Nat.add_comm] at q
    exact q
  rw [e]
  refine l59_ok hE ht hy ⟨by omega, by omega⟩ hf (fun S' years few hy1 hf1 hV => hQ S' (l + 1) y fr years few (by omega) (by omega) hy hf hy1 hf1 hV) (l + 1) 0 S1 (by omega) ?_
  refine ⟨a, R_of hR a1 (by decide) ?_, ?_, fun h => absurd h (by decide)⟩
  · have e2 : gm S1 = gset (gw S 10) 0 (upd (gw S 10 0) 10 (nI y)) := e1
    rw [e2]
    exact gwd_y hR.1.2 (by omega)
  · rw [e1]
    obtain ⟨h9, h10, h11, h1, h2, h3⟩ := hp
    refine ⟨?_, ?_, ?_, h1, h2, fun p hp => absurd hp (Nat.not_lt_zero p)⟩
    · rw [gset_s, pk_un (by decide)]
      exact h9
    · rw [gset_s, pk_us]
    · rw [gset_s, pk_un (by decide)]
      exact h11
end LA
