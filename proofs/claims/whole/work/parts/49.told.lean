/-! told -/
theorem w78_0 {S : ri_H} {Q : Int32 → ri_H → Prop} (hQ : Q 24 S) : w78 0 S Q := ⟨fun _ => hQ, fun c => absurd rfl c⟩
theorem w78_1 {S : ri_H} {Q : Int32 → ri_H → Prop} (hQ : Q 24 S) : w78 1 S Q := ⟨fun c => absurd c (by decide), fun _ => ⟨fun c => absurd rfl c, fun _ => hQ⟩⟩
theorem w78_n {S : ri_H} {Q : Int32 → ri_H → Prop} {a : Int32} (h0 : ¬ a = 0) (h1 : ¬ a = 1) (hQ : Q (S.1 10 9) S) : w78 a S Q := ⟨fun c => absurd c h0, fun _ => ⟨fun _ => hQ, fun c => absurd h1 c⟩⟩
theorem gw_at {S : ri_H} {w o j : Nat} (ho : o ≠ 0) (hj : j < gsz o) : S.1 (w + o) j = gw S w o j := by
  rw [gw_p _ _ ho]
  unfold nz
  rw [if_pos hj]
theorem x5_k (p k : Nat) (hk : 3 ≤ k) : (5 : Int32) * nI p + nI k - 3 = nI (5 * p + (k - 3)) := by
  rw [x5_0, nI_add, show nI (5 * p + k) - 3 = nI (5 * p + k - 3) from pk_sub (b := 3) (by omega)]
  congr 1
  omega
theorem out_k {b : Int32} {n : Nat} (hn : n < 2 ^ 31) (h : ∀ j, j < n → b ≠ nI j) : b < 0 ∨ nI n ≤ b := by
  rcases pk_ix b hn with q | q | ⟨j, hj, e⟩
  · exact Or.inl q
  · exact Or.inr q
  · exact absurd e (h j hj)
section ISOF
variable {S : ri_H} {Q : Int32 → ri_H → Prop} {x : Int32}
theorem isOf_2 (hQ : Q 1 S) : w107 2 x S Q := ⟨fun c => absurd c (by decide), fun _ => ⟨fun _ => hQ, fun c => absurd rfl c⟩⟩
theorem isOf_j {k : Int32} (h3 : ¬ 3 ≤ k) (h2 : ¬ k = 2) (h1 : ∀ j, j < 24 → x = nI j → Q 1 S) (h0 : (∀ j, j < 24 → x ≠ nI j) → Q 0 S) : w107 k x S Q :=
  ⟨fun c => absurd c h3, fun _ => ⟨fun c => absurd c h2, fun _ => w106_ok (fun j hj e => ⟨fun c => absurd c (by decide), fun _ => h1 j hj e⟩) (fun h => ⟨fun _ => h0 h, fun c => absurd rfl c⟩)⟩⟩
theorem isOf_c (h1 : ∀ j, j < 12 → x = nI j → Q 1 S) (h0 : (∀ j, j < 12 → x ≠ nI j) → Q 0 S) : w107 10 x S Q :=
  ⟨fun _ => ⟨fun c => absurd rfl c, fun _ => w105_ok (fun j hj e => ⟨Or.inr rfl, h1 j hj e⟩) (fun h => ⟨Or.inl rfl, h0 h⟩)⟩, fun c => absurd (by decide) c⟩
theorem isOf_o {k : Int32} {L : Nat} (hL : L ≤ 5) (e : S.1 50 11 = nI L) (h3 : 3 ≤ k) (h10 : ¬ k = 10) (h1 : ∀ p, p < L → x = nI p → Q 1 S) (h0 : (∀ p, p < L → x ≠ nI p) → Q 0 S) : w107 k x S Q :=
  ⟨fun _ => ⟨fun _ => w104_ok hL e (fun j hj e => ⟨Or.inr rfl, h1 j hj e⟩) (fun h => ⟨Or.inl rfl, h0 h⟩), fun c => absurd h10 c⟩, fun c => absurd h3 c⟩
end ISOF
section ROW
variable {S : ri_H} {p : Nat}
theorem row_0 (h : p < 5) : S.1 56 (5 * p + 0) = gm S 4 p := gm_4 h
theorem row_1 (h : p < 5) : S.1 56 (5 * p + 1) = gm S 5 p := gm_5 h
theorem row_2 (h : p < 5) : S.1 56 (5 * p + 2) = gm S 6 p := gm_6 h
theorem row_3 (h : p < 5) : S.1 56 (5 * p + 3) = gm S 7 p := gm_7 h
theorem row_4 (h : p < 5) : S.1 56 (5 * p + 4) = gm S 3 p := gm_3 h
end ROW
section TOLD
variable {a b : Int32} {S : ri_H} {Q : Int32 → Int32 → ri_H → Prop} {T : Nat} {τ : Int32 → Int32 → List Int32}
theorem tm_in {Q : Int32 → ri_H → Prop} {k : Nat} (hk : k < 11) (hQ : w107 (nI k) a S (fun r4 S3 => ((¬ r4 = 0 → (((3 : Int32) ≤ nI k → (((8 : Int32) ≤ nI k → ((¬ nI k = (8 : Int32) → ((¬ nI k = (9 : Int32) → w113 a S3 (fun (r6 : Int32) (S5 : ri_H) => Q r6 S5)) ∧ (¬ (¬ nI k = (9 : Int32)) → w166 a S3 (fun (r8 : Int32) (S7 : ri_H) => Q r8 S7)))) ∧ (¬ (¬ nI k = (8 : Int32)) → w165 a S3 (fun (r10 : Int32) (S9 : ri_H) => Q r10 S9)))) ∧ (¬ (8 : Int32) ≤ nI k → (vp_in ((((5 : Int32) * a) + nI k) - (3 : Int32)) 25 ∧ Q (S3.1 56 (((((5 : Int32) * a) + nI k) - (3 : Int32))).toNatClampNeg) S3)))) ∧ (¬ (3 : Int32) ≤ nI k → ((¬ nI k = 0 → ((¬ nI k = (1 : Int32) → Q (S3.1 50 7) S3) ∧ (¬ (¬ nI k = (1 : Int32)) → (vp_in a 24 ∧ Q (S3.1 55 (a).toNatClampNeg) S3)))) ∧ (¬ (¬ nI k = 0) → (vp_in a 24 ∧ Q (S3.1 54 (a).toNatClampNeg) S3)))))) ∧ (¬ (¬ r4 = 0) → Q (-1000 : Int32) S3)))) : w112 a (nI k) S Q :=
  w102_n (m := 10) (by decide) (by decide) (fun _ _ _ => ⟨fun c => absurd c (by decide), fun _ => hQ⟩) (fun h => absurd rfl (h k hk))
theorem tm_out {Q : Int32 → ri_H → Prop} (hb : ∀ j, j < 11 → b ≠ nI j) (hQ : Q (-1000) S) : w112 a b S Q :=
  w102_n (m := 10) (by decide) (by decide) (fun j hj e => absurd e (hb j hj)) (fun _ => ⟨fun _ => hQ, fun c => absurd rfl c⟩)

theorem told0 (h : R T τ S) (hQ : ∀ r S', RR S' → Q r r S') : w49 a (nI 0) S (fun r S1 => w112 a (nI 0) S1 (fun r2 S2 => Q r r2 S2)) := by
  have h0 : RR S := ⟨T, τ, h⟩
  refine ⟨fun _ => ⟨fun _ => ⟨fun _ => ?_, fun c => absurd c (by decide), fun c => absurd c (by decide), fun c => absurd c (by decide), fun c => absurd c (by decide), fun c => absurd c (by decide), fun c => absurd c (by decide)⟩, fun c => absurd (show ¬ nI 0 = (7 : Int32) by decide) c⟩, fun c => absurd c (by decide), fun c => absurd c (by decide), fun c => absurd c (by decide), fun c => absurd c (by decide), fun c => absurd c (by decide), fun c => absurd c (by decide), fun c => absurd c (by decide), fun c => absurd c (by decide), fun c => absurd c (by decide)⟩
  unfold w49_b157
  refine w78_0 ?_
  rcases wi_d a (n := 24) (by decide) with ⟨j, hj, rfl, hw⟩ | ⟨hw, hne⟩
  · have hw : wi (nI j) 24 = 1 := hw
    rw [hw, it_nI _ (show j < 24 from hj) (by decide)]
    refine ⟨fun _ => ?_, fun c => absurd (by decide) c⟩
    refine tm_in (by decide) (isOf_j (by decide) (by decide) (fun j' hj' e => ⟨fun _ => ⟨fun c => absurd c (by decide), fun _ => ?_⟩, fun c => absurd (by decide) c⟩) (fun hn => absurd rfl (hn j hj)))
    refine ⟨fun c => absurd rfl c, fun _ => ⟨vp_in_nI hj (by decide), ?_⟩⟩
    rw [nI_clamp (by omega), gm_1 hj, ← R_w h]
    have e : S.1 11 j = gw S 10 1 j := gw_at (w := 10) (o := 1) (by decide) hj
    rw [e]
    exact hQ _ _ h0
  · have hw : wi a 24 = 0 := hw
    rw [hw]
    refine ⟨fun c => absurd rfl c, fun _ => tm_in (by decide) (isOf_j (by decide) (by decide) (fun j' hj' e => absurd e (hne j' hj')) (fun _ => ⟨fun c => absurd rfl c, fun _ => hQ _ _ h0⟩))⟩
theorem told1 (h : R T τ S) (hQ : ∀ r S', RR S' → Q r r S') : w49 a (nI 1) S (fun r S1 => w112 a (nI 1) S1 (fun r2 S2 => Q r r2 S2)) := by
  have h0 : RR S := ⟨T, τ, h⟩
  refine ⟨fun _ => ⟨fun _ => ⟨fun c => absurd c (by decide), fun _ => ?_, fun c => absurd c (by decide), fun c => absurd c (by decide), fun c => absurd c (by decide), fun c => absurd c (by decide), fun c => absurd c (by decide)⟩, fun c => absurd (show ¬ nI 1 = (7 : Int32) by decide) c⟩, fun c => absurd c (by decide), fun c => absurd c (by decide), fun c => absurd c (by decide), fun c => absurd c (by decide), fun c => absurd c (by decide), fun c => absurd c (by decide), fun c => absurd c (by decide), fun c => absurd c (by decide), fun c => absurd c (by decide)⟩
  unfold w49_b157a
  refine w78_1 ?_
  rcases wi_d a (n := 24) (by decide) with ⟨j, hj, rfl, hw⟩ | ⟨hw, hne⟩
  · have hw : wi (nI j) 24 = 1 := hw
    rw [hw, it_nI _ (show j < 24 from hj) (by decide)]
    refine ⟨fun _ => ?_, fun c => absurd (by decide) c⟩
    refine tm_in (by decide) (isOf_j (by decide) (by decide) (fun j' hj' e => ⟨fun _ => ⟨fun c => absurd c (by decide), fun _ => ?_⟩, fun c => absurd (by decide) c⟩) (fun hn => absurd rfl (hn j hj)))
    refine ⟨fun _ => ⟨fun c => absurd rfl c, fun _ => ⟨vp_in_nI hj (by decide), ?_⟩⟩, fun c => absurd (show ¬ nI 1 = 0 by decide) c⟩
    rw [nI_clamp (by omega), gm_2 hj, ← R_w h]
    have e : S.1 12 j = gw S 10 2 j := gw_at (w := 10) (o := 2) (by decide) hj
    rw [e]
    exact hQ _ _ h0
  · have hw : wi a 24 = 0 := hw
    rw [hw]
    refine ⟨fun c => absurd rfl c, fun _ => tm_in (by decide) (isOf_j (by decide) (by decide) (fun j' hj' e => absurd e (hne j' hj')) (fun _ => ⟨fun c => absurd rfl c, fun _ => hQ _ _ h0⟩))⟩
theorem told2 (h : R T τ S) (hQ : ∀ r S', RR S' → Q r r S') : w49 a (nI 2) S (fun r S1 => w112 a (nI 2) S1 (fun r2 S2 => Q r r2 S2)) := by
  refine ⟨fun c => absurd c (by decide), fun _ => ?_, fun c => absurd c (by decide), fun c => absurd c (by decide), fun c => absurd c (by decide), fun c => absurd c (by decide), fun c => absurd c (by decide), fun c => absurd c (by decide), fun c => absurd c (by decide), fun c => absurd c (by decide)⟩
  refine tm_in (by decide) (isOf_2 ⟨fun _ => ⟨fun c => absurd c (by decide), fun _ => ⟨fun _ => ⟨fun _ => ?_, fun c => absurd (show ¬ nI 2 = (1 : Int32) by decide) c⟩, fun c => absurd (show ¬ nI 2 = 0 by decide) c⟩⟩, fun c => absurd (by decide) c⟩)
  rw [gw_0 S 10 10 (by decide), gm_10, ← R_w h]
  exact hQ _ _ ⟨T, τ, h⟩
theorem told3 (h : R T τ S) (hQ : ∀ r S', RR S' → Q r r S') : w49 a (nI 3) S (fun r S1 => w112 a (nI 3) S1 (fun r2 S2 => Q r r2 S2)) := by
  have h0 : RR S := ⟨T, τ, h⟩
  obtain ⟨L, hL, l1, l2, l3⟩ := R_L h
  refine ⟨fun c => absurd c (by decide), fun c => absurd c (by decide), fun _ => ⟨fun _ => ⟨fun c => absurd c (by decide), fun c => absurd c (by decide), fun _ => ?_, fun c => absurd c (by decide), fun c => absurd c (by decide), fun c => absurd c (by decide), fun c => absurd c (by decide)⟩, fun c => absurd (show ¬ nI 3 = (7 : Int32) by decide) c⟩, fun c => absurd c (by decide), fun c => absurd c (by decide), fun c => absurd c (by decide), fun c => absurd c (by decide), fun c => absurd c (by decide), fun c => absurd c (by decide), fun c => absurd c (by decide)⟩
  unfold w49_b157b
  refine w78_n (by decide) (by decide) ?_
  rw [l1]
  rcases wi_d a (n := L) (by omega) with ⟨p, hp, rfl, hw⟩ | ⟨hw, hne⟩
  · have hw5 : wi (nI p) 5 = 1 := wi_1 (n := 5) (by omega) (by decide)
    rw [hw, it_nI _ (show p < 5 by omega) (by decide)]
    refine ⟨fun _ => ?_, fun c => absurd (by decide) c⟩
    refine tm_in (by decide) (isOf_o hL l2 (by decide) (by decide) (fun j' hj' e => ⟨fun _ => ⟨fun _ => ⟨fun c => absurd c (by decide), fun _ => ?_⟩, fun c => absurd (by decide) c⟩, fun c => absurd (by decide) c⟩) (fun hn => absurd rfl (hn p hp)))
    rw [x5_k p 3 (by decide), nI_clamp (by omega), row_0 (by omega), ← R_w h]
    have e : S.1 14 p = gw S 10 4 p := gw_at (w := 10) (o := 4) (by decide) (show p < 5 by omega)
    rw [e]
    exact ⟨vp_in_nI (by omega) (by decide), hQ _ _ h0⟩
  · rw [hw]
    refine ⟨fun c => absurd rfl c, fun _ => tm_in (by decide) (isOf_o hL l2 (by decide) (by decide) (fun j' hj' e => absurd e (hne j' hj')) (fun _ => ⟨fun c => absurd rfl c, fun _ => hQ _ _ h0⟩))⟩
theorem told4 (h : R T τ S) (hQ : ∀ r S', RR S' → Q r r S') : w49 a (nI 4) S (fun r S1 => w112 a (nI 4) S1 (fun r2 S2 => Q r r2 S2)) := by
  have h0 : RR S := ⟨T, τ, h⟩
  obtain ⟨L, hL, l1, l2, l3⟩ := R_L h
  refine ⟨fun c => absurd c (by decide), fun c => absurd c (by decide), fun c => absurd c (by decide), fun _ => ⟨fun _ => ⟨fun c => absurd c (by decide), fun c => absurd c (by decide), fun c => absurd c (by decide), fun _ => ?_, fun c => absurd c (by decide), fun c => absurd c (by decide), fun c => absurd c (by decide)⟩, fun c => absurd (show ¬ nI 4 = (7 : Int32) by decide) c⟩, fun c => absurd c (by decide), fun c => absurd c (by decide), fun c => absurd c (by decide), fun c => absurd c (by decide), fun c => absurd c (by decide), fun c => absurd c (by decide)⟩
  unfold w49_b157c
  refine w78_n (by decide) (by decide) ?_
  rw [l1]
  rcases wi_d a (n := L) (by omega) with ⟨p, hp, rfl, hw⟩ | ⟨hw, hne⟩
  · have hw5 : wi (nI p) 5 = 1 := wi_1 (n := 5) (by omega) (by decide)
    rw [hw, it_nI _ (show p < 5 by omega) (by decide)]
    refine ⟨fun _ => ?_, fun c => absurd (by decide) c⟩
    refine tm_in (by decide) (isOf_o hL l2 (by decide) (by decide) (fun j' hj' e => ⟨fun _ => ⟨fun _ => ⟨fun c => absurd c (by decide), fun _ => ?_⟩, fun c => absurd (by decide) c⟩, fun c => absurd (by decide) c⟩) (fun hn => absurd rfl (hn p hp)))
    rw [x5_k p 4 (by decide), nI_clamp (by omega), row_1 (by omega), ← R_w h]
    have e : S.1 15 p = gw S 10 5 p := gw_at (w := 10) (o := 5) (by decide) (show p < 5 by omega)
    rw [e]
    exact ⟨vp_in_nI (by omega) (by decide), hQ _ _ h0⟩
  · rw [hw]
    refine ⟨fun c => absurd rfl c, fun _ => tm_in (by decide) (isOf_o hL l2 (by decide) (by decide) (fun j' hj' e => absurd e (hne j' hj')) (fun _ => ⟨fun c => absurd rfl c, fun _ => hQ _ _ h0⟩))⟩
theorem told5 (h : R T τ S) (hQ : ∀ r S', RR S' → Q r r S') : w49 a (nI 5) S (fun r S1 => w112 a (nI 5) S1 (fun r2 S2 => Q r r2 S2)) := by
  have h0 : RR S := ⟨T, τ, h⟩
  obtain ⟨L, hL, l1, l2, l3⟩ := R_L h
  refine ⟨fun c => absurd c (by decide), fun c => absurd c (by decide), fun c => absurd c (by decide), fun c => absurd c (by decide), fun _ => ⟨fun _ => ⟨fun c => absurd c (by decide), fun c => absurd c (by decide), fun c => absurd c (by decide), fun c => absurd c (by decide), fun _ => ?_, fun c => absurd c (by decide), fun c => absurd c (by decide)⟩, fun c => absurd (show ¬ nI 5 = (7 : Int32) by decide) c⟩, fun c => absurd c (by decide), fun c => absurd c (by decide), fun c => absurd c (by decide), fun c => absurd c (by decide), fun c => absurd c (by decide)⟩
  unfold w49_b157d
  refine w78_n (by decide) (by decide) ?_
  rw [l1]
  rcases wi_d a (n := L) (by omega) with ⟨p, hp, rfl, hw⟩ | ⟨hw, hne⟩
  · have hw5 : wi (nI p) 5 = 1 := wi_1 (n := 5) (by omega) (by decide)
    rw [hw, it_nI _ (show p < 5 by omega) (by decide)]
    refine ⟨fun _ => ?_, fun c => absurd (by decide) c⟩
    refine tm_in (by decide) (isOf_o hL l2 (by decide) (by decide) (fun j' hj' e => ⟨fun _ => ⟨fun _ => ⟨fun c => absurd c (by decide), fun _ => ?_⟩, fun c => absurd (by decide) c⟩, fun c => absurd (by decide) c⟩) (fun hn => absurd rfl (hn p hp)))
    rw [x5_k p 5 (by decide), nI_clamp (by omega), row_2 (by omega), ← R_w h]
    have e : S.1 16 p = gw S 10 6 p := gw_at (w := 10) (o := 6) (by decide) (show p < 5 by omega)
    rw [e]
    exact ⟨vp_in_nI (by omega) (by decide), hQ _ _ h0⟩
  · rw [hw]
    refine ⟨fun c => absurd rfl c, fun _ => tm_in (by decide) (isOf_o hL l2 (by decide) (by decide) (fun j' hj' e => absurd e (hne j' hj')) (fun _ => ⟨fun c => absurd rfl c, fun _ => hQ _ _ h0⟩))⟩
theorem told6 (h : R T τ S) (hQ : ∀ r S', RR S' → Q r r S') : w49 a (nI 6) S (fun r S1 => w112 a (nI 6) S1 (fun r2 S2 => Q r r2 S2)) := by
  have h0 : RR S := ⟨T, τ, h⟩
  obtain ⟨L, hL, l1, l2, l3⟩ := R_L h
  refine ⟨fun c => absurd c (by decide), fun c => absurd c (by decide), fun c => absurd c (by decide), fun c => absurd c (by decide), fun c => absurd c (by decide), fun _ => ⟨fun _ => ⟨fun c => absurd c (by decide), fun c => absurd c (by decide), fun c => absurd c (by decide), fun c => absurd c (by decide), fun c => absurd c (by decide), fun _ => ?_, fun c => absurd c (by decide)⟩, fun c => absurd (show ¬ nI 6 = (7 : Int32) by decide) c⟩, fun c => absurd c (by decide), fun c => absurd c (by decide), fun c => absurd c (by decide), fun c => absurd c (by decide)⟩
  unfold w49_b157e
  refine w78_n (by decide) (by decide) ?_
  rw [l1]
  rcases wi_d a (n := L) (by omega) with ⟨p, hp, rfl, hw⟩ | ⟨hw, hne⟩
  · have hw5 : wi (nI p) 5 = 1 := wi_1 (n := 5) (by omega) (by decide)
    rw [hw, it_nI _ (show p < 5 by omega) (by decide)]
    refine ⟨fun _ => ?_, fun c => absurd (by decide) c⟩
    refine tm_in (by decide) (isOf_o hL l2 (by decide) (by decide) (fun j' hj' e => ⟨fun _ => ⟨fun _ => ⟨fun c => absurd c (by decide), fun _ => ?_⟩, fun c => absurd (by decide) c⟩, fun c => absurd (by decide) c⟩) (fun hn => absurd rfl (hn p hp)))
    rw [x5_k p 6 (by decide), nI_clamp (by omega), row_3 (by omega), ← R_w h]
    have e : S.1 17 p = gw S 10 7 p := gw_at (w := 10) (o := 7) (by decide) (show p < 5 by omega)
    rw [e]
    exact ⟨vp_in_nI (by omega) (by decide), hQ _ _ h0⟩
  · rw [hw]
    refine ⟨fun c => absurd rfl c, fun _ => tm_in (by decide) (isOf_o hL l2 (by decide) (by decide) (fun j' hj' e => absurd e (hne j' hj')) (fun _ => ⟨fun c => absurd rfl c, fun _ => hQ _ _ h0⟩))⟩
theorem told7 (h : R T τ S) (hQ : ∀ r S', RR S' → Q r r S') : w49 a (nI 7) S (fun r S1 => w112 a (nI 7) S1 (fun r2 S2 => Q r r2 S2)) := by
  have h0 : RR S := ⟨T, τ, h⟩
  obtain ⟨L, hL, l1, l2, l3⟩ := R_L h
  refine ⟨fun c => absurd c (by decide), fun c => absurd c (by decide), fun c => absurd c (by decide), fun c => absurd c (by decide), fun c => absurd c (by decide), fun c => absurd c (by decide), fun _ => ⟨fun c => absurd rfl c, fun _ => ?_⟩, fun c => absurd c (by decide), fun c => absurd c (by decide), fun c => absurd c (by decide)⟩
  unfold w49_b157g
  refine w78_n (by decide) (by decide) ?_
  rw [l1]
  rcases wi_d a (n := L) (by omega) with ⟨p, hp, rfl, hw⟩ | ⟨hw, hne⟩
  · have hw5 : wi (nI p) 5 = 1 := wi_1 (n := 5) (by omega) (by decide)
    rw [hw, it_nI _ (show p < 5 by omega) (by decide)]
    refine ⟨fun _ => ?_, fun c => absurd (by decide) c⟩
    refine tm_in (by decide) (isOf_o hL l2 (by decide) (by decide) (fun j' hj' e => ⟨fun _ => ⟨fun _ => ⟨fun c => absurd c (by decide), fun _ => ?_⟩, fun c => absurd (by decide) c⟩, fun c => absurd (by decide) c⟩) (fun hn => absurd rfl (hn p hp)))
    rw [x5_k p 7 (by decide), nI_clamp (by omega), row_4 (by omega), ← R_w h]
    have e : S.1 13 p = gw S 10 3 p := gw_at (w := 10) (o := 3) (by decide) (show p < 5 by omega)
    rw [e]
    exact ⟨vp_in_nI (by omega) (by decide), hQ _ _ h0⟩
  · rw [hw]
    refine ⟨fun c => absurd rfl c, fun _ => tm_in (by decide) (isOf_o hL l2 (by decide) (by decide) (fun j' hj' e => absurd e (hne j' hj')) (fun _ => ⟨fun c => absurd rfl c, fun _ => hQ _ _ h0⟩))⟩
theorem told8 (h : R T τ S) (hQ : ∀ r S', RR S' → Q r r S') : w49 a (nI 8) S (fun r S1 => w112 a (nI 8) S1 (fun r2 S2 => Q r r2 S2)) := by
  have h0 : RR S := ⟨T, τ, h⟩
  obtain ⟨L, hL, l1, l2, l3⟩ := R_L h
  refine ⟨fun c => absurd c (by decide), fun c => absurd c (by decide), fun c => absurd c (by decide), fun c => absurd c (by decide), fun c => absurd c (by decide), fun c => absurd c (by decide), fun c => absurd c (by decide), fun _ => ?_, fun c => absurd c (by decide), fun c => absurd c (by decide)⟩
  rw [l1]
  rcases wi_d a (n := L) (by omega) with ⟨p, hp, rfl, hw⟩ | ⟨hw, hne⟩
  · rw [hw]
    refine ⟨fun c => absurd c (by decide), fun _ => w40_ok (Or.inl rfl) (R_tc h) (fun S1 a1 => ?_)⟩
    have a1 : ag CX S S1 := ag_mo a1 (by decide)
    have h1 := R_c h a1
    have g1 := c_gm a1
    have l2' : S1.1 50 11 = nI L := by rw [gm_9, g1]; exact l3
    refine tm_in (by decide) (isOf_o hL l2' (by decide) (by decide) (fun j' hj' e => ⟨fun _ => ⟨fun _ => ⟨fun _ => ⟨fun c => absurd rfl c, fun _ => ?_⟩, fun c => absurd (by decide) c⟩, fun c => absurd (by decide) c⟩, fun c => absurd (by decide) c⟩) (fun hn => absurd rfl (hn p hp)))
    refine w165_ok (by omega) (R_ok h1).2.2.2.2.2.1 (R_mt h1) (fun S2 a2 => ?_)
    rw [g1, ← R_w h]
    exact hQ _ _ ⟨T, τ, R_F1 h1 a2⟩
  · rw [hw]
    refine ⟨fun _ => tm_in (by decide) (isOf_o hL l2 (by decide) (by decide) (fun j' hj' e => absurd e (hne j' hj')) (fun _ => ⟨fun c => absurd rfl c, fun _ => hQ _ _ h0⟩)), fun c => absurd rfl c⟩
theorem told9 (h : R T τ S) (hQ : ∀ r S', RR S' → Q r r S') : w49 a (nI 9) S (fun r S1 => w112 a (nI 9) S1 (fun r2 S2 => Q r r2 S2)) := by
  have h0 : RR S := ⟨T, τ, h⟩
  obtain ⟨L, hL, l1, l2, l3⟩ := R_L h
  refine ⟨fun c => absurd c (by decide), fun c => absurd c (by decide), fun c => absurd c (by decide), fun c => absurd c (by decide), fun c => absurd c (by decide), fun c => absurd c (by decide), fun c => absurd c (by decide), fun c => absurd c (by decide), fun _ => ?_, fun c => absurd c (by decide)⟩
  rw [l1]
  rcases wi_d a (n := L) (by omega) with ⟨p, hp, rfl, hw⟩ | ⟨hw, hne⟩
  · rw [hw]
    refine ⟨fun c => absurd c (by decide), fun _ => w41_ok (Or.inl rfl) (R_tc h) (fun S1 a1 => ?_)⟩
    have a1 : ag CX S S1 := ag_mo a1 (by decide)
    have h1 := R_c h a1
    have g1 := c_gm a1
    have l2' : S1.1 50 11 = nI L := by rw [gm_9, g1]; exact l3
    refine tm_in (by decide) (isOf_o hL l2' (by decide) (by decide) (fun j' hj' e => ⟨fun _ => ⟨fun _ => ⟨fun _ => ⟨fun _ => ⟨fun c => absurd rfl c, fun _ => ?_⟩, fun c => absurd (show ¬ nI 9 = (8 : Int32) by decide) c⟩, fun c => absurd (by decide) c⟩, fun c => absurd (by decide) c⟩, fun c => absurd (by decide) c⟩) (fun hn => absurd rfl (hn p hp)))
    refine w166_ok (by omega) (R_ok h1).2.2.2.2.2.1 (R_mt h1) (fun S2 a2 => ?_)
    rw [g1, ← R_w h]
    exact hQ _ _ ⟨T, τ, R_F1 h1 a2⟩
  · rw [hw]
    refine ⟨fun _ => tm_in (by decide) (isOf_o hL l2 (by decide) (by decide) (fun j' hj' e => absurd e (hne j' hj')) (fun _ => ⟨fun c => absurd rfl c, fun _ => hQ _ _ h0⟩)), fun c => absurd rfl c⟩
theorem sh1_bt {k : Nat} (hk : k < 31) : (1 : Int32) <<< (nI k &&& 31) = bt (nI k) := by
  unfold bt
  rw [if_neg (by rw [show wi (nI k) 31 = 1 from wi_1 (n := 31) hk (by decide)]; decide)]
theorem sh0 : ∀ k, k < 5 → (0 : Int32) <<< (nI k &&& 31) = 0 := by decide
theorem or0 (x : Int32) : x ||| 0 = x := by
  apply Int32.toBitVec_inj.mp
  simp
theorem w113_loop {Q : Int32 → ri_H → Prop} {x : Int32} {L : Nat} (hL : L ≤ 5) (l2 : S.1 50 11 = nI L) (hQ : Q (p_whol (gm S) x L) S) : ∀ d k, k + d = L → w113_l4 Q (d + 1) x (p_whol (gm S) x k) (nI k) S
  | 0, k, hk => by
    have hk' : k = L := hk
    subst hk'
    unfold w113_l4
    rw [l2]
    exact ⟨fun _ => hQ, fun c => absurd (nI_le (Nat.le_refl _) (by omega)) c⟩
  | d + 1, k, hk => by
    unfold w113_l4 w113_b32
    rw [l2, x5_1, nI_clamp (by omega), nI_1, row_1 (show k < 5 by omega)]
    have := w113_loop hL l2 hQ d (k + 1) (by omega)
    unfold p_whol at this
    rw [it_nI _ (show k < 5 by omega) (by decide)] at this
    refine ⟨fun c => absurd c (nI_ge (by omega) (by omega)), fun _ => ⟨vp_in_nI (by omega) (by decide), fun c => ?_, fun c => ?_⟩⟩
    · rw [if_neg c] at this
      rw [sh0 k (by omega), or0]
      exact this
    · rw [if_pos (Decidable.not_not.mp c)] at this
      rw [sh1_bt (by omega)]
      exact this
theorem w113_ok {Q : Int32 → ri_H → Prop} {x : Int32} {L : Nat} (hL : L ≤ 5) (l2 : S.1 50 11 = nI L) (hQ : Q (p_who (gm S) x) S) : w113 x S Q := by
  unfold p_who at hQ
  rw [← gm_9, l2, nI_clamp (by omega)] at hQ
  exact ⟨L + 1, w113_loop hL l2 hQ L 0 (by omega)⟩
theorem told10 (h : R T τ S) (hQ : ∀ r S', RR S' → Q r r S') : w49 a (nI 10) S (fun r S1 => w112 a (nI 10) S1 (fun r2 S2 => Q r r2 S2)) := by
  have h0 : RR S := ⟨T, τ, h⟩
  obtain ⟨L, hL, l1, l2, l3⟩ := R_L h
  refine ⟨fun c => absurd c (by decide), fun c => absurd c (by decide), fun c => absurd c (by decide), fun c => absurd c (by decide), fun c => absurd c (by decide), fun c => absurd c (by decide), fun c => absurd c (by decide), fun c => absurd c (by decide), fun c => absurd c (by decide), fun _ => ?_⟩
  rcases wi_d a (n := 12) (by decide) with ⟨p, hp, rfl, hw⟩ | ⟨hw, hne⟩
  · have hw : wi (nI p) 12 = 1 := hw
    rw [hw]
    refine ⟨fun c => absurd c (by decide), fun _ => w36_ok (L := L) (by rw [R_w h]; exact l3) (by omega) ?_⟩
    refine tm_in (by decide) (isOf_c (fun j' hj' e => ⟨fun _ => ⟨fun _ => ⟨fun _ => ⟨fun _ => ⟨fun _ => ?_, fun c => absurd (show ¬ nI 10 = (9 : Int32) by decide) c⟩, fun c => absurd (show ¬ nI 10 = (8 : Int32) by decide) c⟩, fun c => absurd (by decide) c⟩, fun c => absurd (by decide) c⟩, fun c => absurd (by decide) c⟩) (fun hn => absurd rfl (hn p hp)))
    refine w113_ok hL l2 ?_
    rw [R_w h]
    exact hQ _ _ h0
  · have hw : wi a 12 = 0 := hw
    rw [hw]
    refine ⟨fun _ => tm_in (by decide) (isOf_c (fun j' hj' e => absurd e (hne j' hj')) (fun _ => ⟨fun c => absurd rfl c, fun _ => hQ _ _ h0⟩)), fun c => absurd rfl c⟩
theorem f_told (h : RR S) (hQ : ∀ r S', RR S' → Q r r S') : w49 a b S (fun r S1 => w112 a b S1 (fun r2 S2 => Q r r2 S2)) := by
  have h0 := h
  obtain ⟨T, τ, h⟩ := h
  rcases wi_d b (n := 11) (by decide) with ⟨k, hk, rfl, hw⟩ | ⟨hw, hne⟩
  · match k, hk with
    | 0, _ => exact told0 h hQ
    | 1, _ => exact told1 h hQ
    | 2, _ => exact told2 h hQ
    | 3, _ => exact told3 h hQ
    | 4, _ => exact told4 h hQ
    | 5, _ => exact told5 h hQ
    | 6, _ => exact told6 h hQ
    | 7, _ => exact told7 h hQ
    | 8, _ => exact told8 h hQ
    | 9, _ => exact told9 h hQ
    | 10, _ => exact told10 h hQ
    | k + 11, hk => exact absurd hk (by omega)
  · have fin : w112 a b S (fun r2 S2 => Q (-1000) r2 S2) := tm_out hne (hQ _ _ h0)
    refine ⟨fun _ => ⟨fun _ => ⟨fun c => absurd c (hne 0 (by decide)), fun c => absurd c (hne 1 (by decide)), fun c => absurd c (hne 3 (by decide)), fun c => absurd c (hne 4 (by decide)), fun c => absurd c (hne 5 (by decide)), fun c => absurd c (hne 6 (by decide)), fun _ => fin⟩, fun c => absurd (Decidable.not_not.mp c) (hne 7 (by decide))⟩, fun c => absurd c (hne 2 (by decide)), fun c => absurd c (hne 3 (by decide)), fun c => absurd c (hne 4 (by decide)), fun c => absurd c (hne 5 (by decide)), fun c => absurd c (hne 6 (by decide)), fun c => absurd c (hne 7 (by decide)), fun c => absurd c (hne 8 (by decide)), fun c => absurd c (hne 9 (by decide)), fun c => absurd c (hne 10 (by decide))⟩
end TOLD
