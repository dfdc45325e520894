/-! copy -/
theorem w26_ok {S : ri_H} {Q : Int32 → ri_H → Prop} {k z : Nat} {i n : Int32} (hz : z ≤ 40) (e2 : S.1 k 2 = nI z) (h1 : ∀ i' n', i = nI i' → n = nI n' → i' + n' ≤ z → Q 1 S) (h0 : (∀ i' n', i = nI i' → n = nI n' → z < i' + n' ∨ 2 ^ 31 ≤ i' ∨ 2 ^ 31 ≤ n') → Q 0 S) : w26 k i n S Q := by
  unfold w26
  rw [e2]
  refine ⟨fun c => h0 (fun i' n' _ en => ?_), fun c => ⟨fun c2 => h0 (fun i' n' _ en => ?_), fun c2 => ⟨fun c40 => absurd ((nI_ltI (a := 40) (by omega) (by omega)).mp c40) (by omega), fun _ => ⟨fun c3 => h0 (fun i' n' ei _ => ?_), fun c3 => ?_⟩⟩⟩⟩
  · rcases Nat.lt_or_ge n' (2 ^ 31) with q | q
    · rw [en] at c
      exact absurd c (nI_pos q)
    · exact Or.inr (Or.inr q)
  · rcases Nat.lt_or_ge n' (2 ^ 31) with q | q
    · rw [en] at c2
      have := (nI_ltI (by omega) q).mp c2
      exact Or.inl (by omega)
    · exact Or.inr (Or.inr q)
  · rcases Nat.lt_or_ge i' (2 ^ 31) with q | q
    · rw [ei] at c3
      exact absurd c3 (nI_pos q)
    · exact Or.inr (Or.inl q)
  · obtain ⟨n', hn, rfl⟩ := nI_of2 (x := n) (M := nI z) (n := z) (nI_toInt (by omega)) c (Int32.not_lt.mp c2)
    rw [pk_sub hn]
    refine ⟨fun c4 => h0 (fun i2 n2 ei en => ?_), fun c4 => ?_⟩
    · rcases Nat.lt_or_ge i2 (2 ^ 31) with q | q
      · rcases Nat.lt_or_ge n2 (2 ^ 31) with q2 | q2
        · have := nI_inj (by omega) q2 en
          subst this
          rw [ei] at c4
          have := (nI_ltI (by omega) q).mp c4
          exact Or.inl (by omega)
        · exact Or.inr (Or.inr q2)
      · exact Or.inr (Or.inl q)
    · obtain ⟨i', hi, rfl⟩ := nI_of2 (x := i) (M := nI (z - n')) (n := z - n') (nI_toInt (by omega)) c3 (Int32.not_lt.mp c4)
      exact h1 i' n' rfl rfl (by omega)
theorem sub_int {z n : Nat} (hz : z < 2 ^ 31) (hn : n < 2 ^ 31) : (nI z - nI n).toInt = (z : Int) - n := by
  rw [Int32.toInt_sub, nI_toInt hz, nI_toInt hn]
  exact Int.bmod_eq_of_le (by omega) (by omega)
section COPY
variable {a b g d q : Int32} {S S0 : ri_H} {T : Nat} {τ : Int32 → Int32 → List Int32}
def c73 (b d q : Int32) (S : ri_H) (Q : Int32 → ri_H → Prop) (k k2 : Nat) : Prop := w22 k S (fun (r2 : Int32) (S1 : ri_H) => ((¬ r2 = 0 → Q (-11 : Int32) S1) ∧ (¬ (¬ r2 = 0) → w22 k2 S1 (fun (r4 : Int32) (S3 : ri_H) => ((r4 = 0 → (((S3.1 k 1) = (S3.1 k2 1) → w26 k b q S3 (fun (r6 : Int32) (S5 : ri_H) => ((r6 = 0 → Q (-12 : Int32) S5) ∧ (¬ (r6 = 0) → w26 k2 d q S5 (fun (r8 : Int32) (S7 : ri_H) => ((r8 = 0 → Q (-12 : Int32) S7) ∧ (¬ (r8 = 0) → ((¬ b < 0 ∧ ¬ d < 0 ∧ ¬ q < 0 ∧ (b).toNatClampNeg + (q).toNatClampNeg ≤ 40 ∧ (d).toNatClampNeg + (q).toNatClampNeg ≤ 40) ∧ Q q (ri_wr S7 (k2 + 1) (va_cpy (S7.1 (k + 1)) (S7.1 (k2 + 1)) (b).toNatClampNeg (d).toNatClampNeg (q).toNatClampNeg)))))))))) ∧ (¬ (S3.1 k 1) = (S3.1 k2 1) → Q (-13 : Int32) S3))) ∧ (¬ (r4 = 0) → Q (-11 : Int32) S3))))))
/-- the numbers come over, one by one -/
theorem l121_ok {Q : Int32 → ri_H → Prop} {s1 s2 i j n : Nat} {up : Int32} (h1 : s1 < 4) (h2 : s2 < 4) (hi : i + n ≤ 40) (hj : j + n ≤ 40) (hup : (up = 0 ∧ (s1 = s2 → j ≤ i)) ∨ (up = 1 ∧ s1 = s2 ∧ i < j)) (hQ : ∀ S', am [69] [] S0 S' → (∀ m, m < n → S'.1 69 (40 * s2 + j + m) = S0.1 69 (40 * s1 + i + m)) → (∀ x, x < 40 * s2 + j ∨ 40 * s2 + j + n ≤ x → S'.1 69 x = S0.1 69 x) → Q (nI n) S') : ∀ e k S, k + e = n → am [69] [] S0 S → (∀ m, m < n → (up = 0 → m < k) → (up = 1 → n - k ≤ m) → S.1 69 (40 * s2 + j + m) = S0.1 69 (40 * s1 + i + m)) → (∀ x, (∀ m, m < n → (up = 0 → m < k) → (up = 1 → n - k ≤ m) → x ≠ 40 * s2 + j + m) → S.1 69 x = S0.1 69 x) → w202_l121 Q (e + 1) (nI s1) (nI i) (nI s2) (nI j) (nI n) up (nI k) S
  | 0, k, S, hk, a, g1, g2 => by
    have hk' : k = n := hk
    subst hk'
    unfold w202_l121
    refine ⟨fun _ => hQ S a (fun m hm => g1 m hm (fun _ => hm) (fun _ => by omega)) (fun x hx => g2 x (fun m hm _ _ => by omega)), fun c => absurd (nI_le (Nat.le_refl _) (by omega)) c⟩
  | e + 1, k, S, hk, a, g1, g2 => by
    unfold w202_l121 w202_b145
    rw [x40, x40, nI_1 k]
    have n1 : nI n - 1 = nI (n - 1) := pk_sub (b := 1) (by omega)
    rw [n1, pk_sub (a := n - 1) (b := k) (by omega)]
    have go : ∀ m : Nat, m < n → (up = 0 → m = k) → (up = 1 → m = n - 1 - k) → vp_in (nI (40 * s1 + i) + nI m) 160 ∧ (vp_in (nI (40 * s2 + j) + nI m) 160 ∧ w202_l121 Q (e + 1) (nI s1) (nI i) (nI s2) (nI j) (nI n) up (nI (k + 1)) (ri_wi S 69 (nI (40 * s2 + j) + nI m).toNatClampNeg (S.1 69 (nI (40 * s1 + i) + nI m).toNatClampNeg))) := by
      intro m hm u0 u1
      rw [nI_add, nI_add, nI_clamp (n := 40 * s2 + j + m) (by omega), nI_clamp (n := 40 * s1 + i + m) (by omega)]
      refine ⟨vp_in_nI (by omega) (by decide), vp_in_nI (by omega) (by decide), ?_⟩
      have src : S.1 69 (40 * s1 + i + m) = S0.1 69 (40 * s1 + i + m) := by
        refine g2 _ (fun m' hm' v0 v1 e2 => ?_)
        rcases hup with ⟨hu, hs⟩ | ⟨hu, hs, hl⟩
        · have w0 := v0 hu
          have w1 := u0 hu
          by_cases es : s1 = s2
          · have := hs es
            omega
          · omega
        · have w0 := v1 hu
          have w1 := u1 hu
          omega
      refine l121_ok h1 h2 hi hj hup hQ e (k + 1) _ (by omega) (am_wi a (by decide) (by decide)) (fun m' hm' v0 v1 => ?_) (fun x hx => ?_)
      · rw [ri_wi_1]
        by_cases em : m' = m
        · subst em
          rw [pk_us]
          exact src
        · rw [pk_un (by omega)]
          refine g1 m' hm' (fun hu => ?_) (fun hu => ?_)
          · have := v0 hu
            have := u0 hu
            omega
          · have := v1 hu
            have := u1 hu
            omega
      · rw [ri_wi_1, pk_un]
        · refine g2 x (fun m' hm' v0 v1 => hx m' hm' (fun hu => ?_) (fun hu => ?_))
          · have := v0 hu
            omega
          · have := v1 hu
            omega
        · refine hx m hm (fun hu => ?_) (fun hu => ?_)
          · have := u0 hu
            omega
          · have := u1 hu
            omega
    refine ⟨fun c => absurd c (nI_ge (by omega) (by omega)), fun _ => ⟨fun c => ?_, fun c => ?_⟩⟩
    · exact go k (by omega) (fun _ => rfl) (fun u => absurd (u.symm.trans c) (by decide))
    · exact go (n - 1 - k) (by omega) (fun u => absurd u c) (fun _ => rfl)
theorem f_copy {Q : Int32 → Int32 → ri_H → Prop} (h : RR S) (hQ : ∀ r S', RR S' → Q r r S') : w73 a b g d q S (fun r S1 => w202 a b g d q S1 (fun r2 S2 => Q r r2 S2)) := by
  have h0 := h
  obtain ⟨T, τ, h⟩ := h
  rcases wi_d a (n := 4) (by decide) with ⟨s1, hs1, ea, hw⟩ | ⟨hw, hne⟩
  · rcases wi_d g (n := 4) (by decide) with ⟨s2, hs2, eg, hw2⟩ | ⟨hw2, hne2⟩
    · refine pick4 (P := fun k => (g = 0 → c73 b d q S (fun r S1 => w202 a b g d q S1 (fun r2 S2 => Q r r2 S2)) k 38) ∧ (g = 1 → c73 b d q S (fun r S1 => w202 a b g d q S1 (fun r2 S2 => Q r r2 S2)) k 40) ∧ (g = 2 → c73 b d q S (fun r S1 => w202 a b g d q S1 (fun r2 S2 => Q r r2 S2)) k 42) ∧ (g = 3 → c73 b d q S (fun r S1 => w202 a b g d q S1 (fun r2 S2 => Q r r2 S2)) k 44) ∧ (wi g 4 = 0 → w202 a b g d q S (fun r2 S2 => Q (-2) r2 S2))) hs1 ea ?_
      refine pick4 (P := fun k2 => c73 b d q S (fun r S1 => w202 a b g d q S1 (fun r2 S2 => Q r r2 S2)) (38 + 2 * s1) k2) hs2 eg ?_
      subst ea
      subst eg
      unfold c73
      have M : ∀ (S1 : ri_H) (K : Int32 → ri_H → Prop), (vp_in (nI s1) 4 ∧ (((S1.1 66 s1) = 0 → K (-11 : Int32) S1) ∧ (¬ (S1.1 66 s1) = 0 → (vp_in (nI s2) 4 ∧ ((¬ (S1.1 66 s2) = 0 → (vp_in (nI s1) 4 ∧ (vp_in (nI s2) 4 ∧ (((S1.1 67 s1) = (S1.1 67 s2) → ((q < 0 → K (-12 : Int32) S1) ∧ (¬ (q < 0) → ((b < 0 → K (-12 : Int32) S1) ∧ (¬ (b < 0) → ((d < 0 → K (-12 : Int32) S1) ∧ (¬ (d < 0) → (vp_in (nI s1) 4 ∧ ((((S1.1 68 s1) - q) < b → K (-12 : Int32) S1) ∧ (¬ ((S1.1 68 s1) - q) < b → (vp_in (nI s2) 4 ∧ ((d ≤ ((S1.1 68 s2) - q) → ((¬ nI s1 = nI s2 → w202_b115 K (nI s1) b (nI s2) d q S1) ∧ (¬ (¬ nI s1 = nI s2) → ((d ≤ b → w202_b115 K (nI s1) b (nI s2) d q S1) ∧ (¬ (d ≤ b) → w202_b116 K (nI s1) b (nI s2) d q (1 : Int32) S1))))) ∧ (¬ (d ≤ ((S1.1 68 s2) - q)) → K (-12 : Int32) S1))))))))))))) ∧ (¬ (S1.1 67 s1) = (S1.1 67 s2) → K (-13 : Int32) S1))))) ∧ (¬ (¬ (S1.1 66 s2) = 0) → K (-11 : Int32) S1)))))) → w202 (nI s1) b (nI s2) d q S1 K := by
        intro S1 K hK
        unfold w202
        rw [nI_clamp (n := s1) (by omega), nI_clamp (n := s2) (by omega)]
        exact w199_ok (fun _ _ _ => ⟨fun c => absurd c (by decide), fun _ => w199_ok (fun _ _ _ => ⟨fun _ => hK, fun c => absurd (by decide) c⟩) (fun hh => absurd rfl (hh s2 hs2))⟩) (fun hh => absurd rfl (hh s1 hs1))
      rcases h.2.2.2.2 s1 hs1 with ⟨e1, e2⟩ | ⟨t, z, ht, hz, e1, e2, e3, e4, e5, e6⟩
      · refine w22_ok (fun c => absurd e1 c) (fun _ => ⟨fun _ => M S _ ⟨vp_in_nI hs1 (by decide), fun _ => hQ _ _ h0, fun c => absurd e2 c⟩, fun c => absurd (by decide) c⟩)
      · refine w22_ok (fun _ => ⟨fun c => absurd rfl c, fun _ => ?_⟩) (fun c => absurd (e1.symm.trans c) (nt_m1 (by omega)))
        have n3 : ¬ S.1 66 s1 = 0 := by rw [e3]; decide
        rcases h.2.2.2.2 s2 hs2 with ⟨f1, f2⟩ | ⟨t', z', ht', hz', f1, f2, f3, f4, f5, f6⟩
        · refine w22_ok (fun c => absurd f1 c) (fun _ => ⟨fun c => absurd c (by decide), fun _ => M S _ ⟨vp_in_nI hs1 (by decide), fun c => absurd c n3, fun _ => ⟨vp_in_nI hs2 (by decide), fun c => absurd f2 c, fun _ => hQ _ _ h0⟩⟩⟩)
        · refine w22_ok (fun _ => ⟨fun _ => ?_, fun c => absurd rfl c⟩) (fun c => absurd (f1.symm.trans c) (nt_m1 (by omega)))
          have n4 : ¬ S.1 66 s2 = 0 := by rw [f3]; decide
          refine ⟨fun c => ?_, fun c => M S _ ⟨vp_in_nI hs1 (by decide), fun c => absurd c n3, fun _ => ⟨vp_in_nI hs2 (by decide), fun _ => ⟨vp_in_nI hs1 (by decide), vp_in_nI hs2 (by decide), fun c2 => absurd ?_ c, fun _ => hQ _ _ h0⟩, fun c => absurd n4 c⟩⟩⟩
          · have ett : S.1 67 s1 = S.1 67 s2 := by rw [e4, f4, ← e1, ← f1]; exact c
            -- where it isn't within
            have bad : (∀ i' j' n', b = nI i' → d = nI j' → q = nI n' → i' < 2 ^ 31 → j' < 2 ^ 31 → n' < 2 ^ 31 → z < i' + n' ∨ z' < j' + n') → w202 (nI s1) b (nI s2) d q S (fun r2 S2 => Q (-12) r2 S2) := by
              intro hb
              refine M S _ ⟨vp_in_nI hs1 (by decide), fun c => absurd c n3, fun _ => ⟨vp_in_nI hs2 (by decide), fun _ => ⟨vp_in_nI hs1 (by decide), vp_in_nI hs2 (by decide), fun _ => ⟨fun _ => hQ _ _ h0, fun cq => ⟨fun _ => hQ _ _ h0, fun cb => ⟨fun _ => hQ _ _ h0, fun cd => ⟨vp_in_nI hs1 (by decide), fun _ => hQ _ _ h0, fun c1 => ⟨vp_in_nI hs2 (by decide), fun c2 => ?_, fun _ => hQ _ _ h0⟩⟩⟩⟩⟩, fun c => absurd ett c⟩, fun c => absurd n4 c⟩⟩
              obtain ⟨n', hn, rfl⟩ := nI_of cq
              obtain ⟨i', hi, rfl⟩ := nI_of cb
              obtain ⟨j', hj, rfl⟩ := nI_of cd
              exfalso
              rw [e5] at c1
              rw [f5] at c2
              have d1 : ¬ (nI z - nI n').toInt < (nI i').toInt := fun q => c1 (Int32.lt_iff_toInt_lt.mpr q)
              have d2 : (nI j').toInt ≤ (nI z' - nI n').toInt := Int32.le_iff_toInt_le.mp c2
              rw [sub_int (by omega) hn, nI_toInt hi] at d1
              rw [sub_int (by omega) hn, nI_toInt hj] at d2
              rcases hb i' j' n' rfl rfl rfl hi hj hn with k | k <;> omega
            refine w26_ok hz e2 (fun i n ei en hin => ⟨fun c => absurd c (by decide), fun _ => w26_ok hz' f2 (fun j n2 ej en2 hjn => ⟨fun c => absurd c (by decide), fun _ => ?_⟩) (fun hb => ⟨fun _ => bad (fun i' j' n' e1 e2 e3 q1 q2 q3 => ?_), fun c => absurd rfl c⟩)⟩) (fun hb => ⟨fun _ => bad (fun i' j' n' e1 e2 e3 q1 q2 q3 => ?_), fun c => absurd rfl c⟩)
            · have : n2 = n := nI_inj (by omega) (by omega) (en2.symm.trans en)
              subst this
              subst ei
              subst ej
              subst en
              rw [nI_clamp (n := i) (by omega), nI_clamp (n := j) (by omega), nI_clamp (n := n2) (by omega)]
              refine ⟨⟨nI_pos (by omega), nI_pos (by omega), nI_pos (by omega), by omega, by omega⟩, ?_⟩
              have e39 : 38 + 2 * s1 + 1 = 39 + 2 * s1 := by omega
              have e39' : 38 + 2 * s2 + 1 = 39 + 2 * s2 := by omega
              rw [e39, e39']
              have a1 : ag (SX s2) S (ri_wr S (39 + 2 * s2) (va_cpy (S.1 (39 + 2 * s1)) (S.1 (39 + 2 * s2)) i j n2)) := ag_wr (ag_refl _ _) SX_1
              have o : ∀ c, c ∈ [66, 67, 68, 69] → (ri_wr S (39 + 2 * s2) (va_cpy (S.1 (39 + 2 * s1)) (S.1 (39 + 2 * s2)) i j n2)).1 c = S.1 c := fun c hc => (a1 c (nin hs2 (by decide) c hc)).1
              have fin : ∀ S2, am [69] [] (ri_wr S (39 + 2 * s2) (va_cpy (S.1 (39 + 2 * s1)) (S.1 (39 + 2 * s2)) i j n2)) S2 → (∀ m, m < n2 → S2.1 69 (40 * s2 + j + m) = S.1 69 (40 * s1 + i + m)) → (∀ x, x < 40 * s2 + j ∨ 40 * s2 + j + n2 ≤ x → S2.1 69 x = S.1 69 x) → Q (nI n2) (nI n2) S2 := by
                intro S2 a2 g1 g2
                have k38 := (a2.1 (38 + 2 * s2) (by simp; omega) (by omega)).1
                have k39 := (a2.1 (39 + 2 * s2) (by simp; omega) (by omega)).1
                refine hQ _ _ ⟨T, τ, R_sh hs2 h a1 (am_mo a2 (by decide) (by decide)) (gm_am a2 (by decide) (by decide) (by decide) (by decide) (by decide) (by decide)) ?_⟩
                refine rS_1 hs2 h.2.2.2.2 a1 (fun _ _ => by rw [(a2.1 66 (by decide) (by decide)).1]) (fun _ _ => by rw [(a2.1 67 (by decide) (by decide)).1]) (fun _ _ => by rw [(a2.1 68 (by decide) (by decide)).1]) (fun x hx => ?_) (fun c hc1 hc2 => (a2.1 c (by simp; omega) (by omega)).1) (Or.inr ⟨t', z', ht', hz', ?_, ?_, ?_, ?_, ?_, fun m hm => ?_⟩)
                · rw [g2 x (by omega), o 69 (by decide)]
                · rw [k38, ri_wr_o _ _ (by omega)]
                  exact f1
                · rw [k38, ri_wr_o _ _ (by omega)]
                  exact f2
                · rw [(a2.1 66 (by decide) (by decide)).1, o 66 (by decide)]
                  exact f3
                · rw [(a2.1 67 (by decide) (by decide)).1, o 67 (by decide)]
                  exact f4
                · rw [(a2.1 68 (by decide) (by decide)).1, o 68 (by decide)]
                  exact f5
                · rw [k39, ri_wr_1]
                  by_cases cm : j ≤ m ∧ m < j + n2
                  · rw [pk_cpy_in cm.1 cm.2]
                    have := g1 (m - j) (by omega)
                    rw [show 40 * s2 + j + (m - j) = 40 * s2 + m by omega] at this
                    rw [this, show 40 * s1 + i + (m - j) = 40 * s1 + (i + (m - j)) by omega]
                    exact e6 _ (by omega)
                  · rw [pk_cpy_out (by omega), g2 (40 * s2 + m) (by omega)]
                    exact f6 m hm
              have loop : ∀ up : Int32, ((up = 0 ∧ (s1 = s2 → j ≤ i)) ∨ (up = 1 ∧ s1 = s2 ∧ i < j)) → w202_b116 (fun r2 S2 => Q (nI n2) r2 S2) (nI s1) (nI i) (nI s2) (nI j) (nI n2) up (ri_wr S (39 + 2 * s2) (va_cpy (S.1 (39 + 2 * s1)) (S.1 (39 + 2 * s2)) i j n2)) := by
                intro up hup
                refine ⟨n2 + 1, l121_ok hs1 hs2 (by omega) (by omega) hup (fun S2 a2 g1 g2 => fin S2 a2 (fun m hm => ?_) (fun x hx => ?_)) n2 0 _ (by omega) (am_refl _ _ _) (fun m hm u0 u1 => ?_) (fun x _ => rfl)⟩
                · rw [g1 m hm, o 69 (by decide)]
                · rw [g2 x hx, o 69 (by decide)]
                · rcases hup with ⟨hu, _⟩ | ⟨hu, _⟩
                  · exact absurd (u0 hu) (Nat.not_lt_zero m)
                  · have := u1 hu
                    omega
              refine M _ _ ?_
              rw [o 66 (by decide), o 67 (by decide), o 68 (by decide), e5, f5, pk_sub (show n2 ≤ z by omega), pk_sub (show n2 ≤ z' by omega)]
              refine ⟨vp_in_nI hs1 (by decide), fun c => absurd c n3, fun _ => ⟨vp_in_nI hs2 (by decide), fun _ => ⟨vp_in_nI hs1 (by decide), vp_in_nI hs2 (by decide), fun _ => ⟨fun c => absurd c (nI_pos (by omega)), fun _ => ⟨fun c => absurd c (nI_pos (by omega)), fun _ => ⟨fun c => absurd c (nI_pos (by omega)), fun _ => ⟨vp_in_nI hs1 (by decide), fun c => absurd c (nI_nlt (by omega) (by omega)), fun _ => ⟨vp_in_nI hs2 (by decide), fun _ => ⟨fun cne => loop 0 (Or.inl ⟨rfl, fun e => absurd (by rw [e]) cne⟩), fun ce => ⟨fun cle => loop 0 (Or.inl ⟨rfl, fun _ => (nI_leI (by omega) (by omega)).mp cle⟩), fun cgt => loop 1 (Or.inr ⟨rfl, nI_inj (by omega) (by omega) (Decidable.not_not.mp ce), ?_⟩)⟩⟩, fun c => absurd (nI_le (by omega) (by omega)) c⟩⟩⟩⟩⟩, fun c => absurd ett c⟩, fun c => absurd n4 c⟩⟩
              rcases Nat.lt_or_ge i j with k | k
              · exact k
              · exact absurd (nI_le k (by omega)) cgt
            · have := hb j' n' e2 e3
              omega
            · have := hb i' n' e1 e3
              omega
          · rw [e1, f1, ← e4, ← f4]
            exact c2
    · have fin : w202 a b g d q S (fun r2 S2 => Q (-2) r2 S2) := w199_ok (fun _ _ _ => ⟨fun c => absurd c (by decide), fun _ => w199_ok (fun j hj e => absurd e (hne2 j hj)) (fun _ => ⟨fun c => absurd rfl c, fun _ => hQ _ _ h0⟩)⟩) (fun hh => absurd ea (hh s1 hs1))
      refine pick4 (P := fun k => (g = 0 → c73 b d q S (fun r S1 => w202 a b g d q S1 (fun r2 S2 => Q r r2 S2)) k 38) ∧ (g = 1 → c73 b d q S (fun r S1 => w202 a b g d q S1 (fun r2 S2 => Q r r2 S2)) k 40) ∧ (g = 2 → c73 b d q S (fun r S1 => w202 a b g d q S1 (fun r2 S2 => Q r r2 S2)) k 42) ∧ (g = 3 → c73 b d q S (fun r S1 => w202 a b g d q S1 (fun r2 S2 => Q r r2 S2)) k 44) ∧ (wi g 4 = 0 → w202 a b g d q S (fun r2 S2 => Q (-2) r2 S2))) hs1 ea ?_
      exact pick0 (P := fun k2 => c73 b d q S (fun r S1 => w202 a b g d q S1 (fun r2 S2 => Q r r2 S2)) (38 + 2 * s1) k2) hne2 fin
  · have fin : w202 a b g d q S (fun r2 S2 => Q (-2) r2 S2) := w199_ok (fun j hj e => absurd e (hne j hj)) (fun _ => ⟨fun _ => hQ _ _ h0, fun c => absurd rfl c⟩)
    exact pick0 (P := fun k => (g = 0 → c73 b d q S (fun r S1 => w202 a b g d q S1 (fun r2 S2 => Q r r2 S2)) k 38) ∧ (g = 1 → c73 b d q S (fun r S1 => w202 a b g d q S1 (fun r2 S2 => Q r r2 S2)) k 40) ∧ (g = 2 → c73 b d q S (fun r S1 => w202 a b g d q S1 (fun r2 S2 => Q r r2 S2)) k 42) ∧ (g = 3 → c73 b d q S (fun r S1 => w202 a b g d q S1 (fun r2 S2 => Q r r2 S2)) k 44) ∧ (wi g 4 = 0 → w202 a b g d q S (fun r2 S2 => Q (-2) r2 S2))) hne ⟨fun _ => fin, fun _ => fin, fun _ => fin, fun _ => fin, fun _ => fin⟩
end COPY
