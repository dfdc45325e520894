/-! the model: what a text says of one -/
def mnm (S : ri_H) : Nat → Int32 := fun j => if j = 5 then S.1 50 17 else if j = 4 then S.1 50 16 else if j = 3 then S.1 50 15 else if j = 2 then S.1 50 14 else if j = 1 then S.1 50 13 else if j = 0 then S.1 50 12 else 0
def mt (S : ri_H) (τ : Int32 → Int32 → List Int32) (a : Int32) : Prop := ∀ b : Int32, (b = 0 ∨ b = 1 ∨ b = 2) → ∀ (S1 : ri_H) (Q : Int32 → ri_H → Prop), S1.1 51 = S.1 51 → S1.1 52 = S.1 52 → (∀ S', am [] [18, 19, 20, 21, 22, 23, 24, 25, 26] S1 S' → Q (vl (mnm S1) (τ a b)) S') → w161 a b S1 Q
theorem mt_of {S S' : ri_H} {τ : Int32 → Int32 → List Int32} {a : Int32} (h : mt S τ a) (h1 : S'.1 51 = S.1 51) (h2 : S'.1 52 = S.1 52) : mt S' τ a :=
  fun b hb S1 Q e1 e2 hQ => h b hb S1 Q (e1.trans h1) (e2.trans h2) hQ
theorem mt_am {X F : List Nat} {S S' : ri_H} {τ : Int32 → Int32 → List Int32} {a : Int32} (h : mt S τ a) (ha : am X F S S') (h51 : 51 ∉ X) (h52 : 52 ∉ X) : mt S' τ a :=
  mt_of h (ha.1 51 h51 (by decide)).1 (ha.1 52 h52 (by decide)).1
theorem mx_hd (v : Int32) : p_mx (hd v (-99) 99) = hd v 0 99 := by
  have h1 := hd_int v (-99) 99 (by decide)
  have h2 := hd_int v 0 99 (by decide)
  have e1 : (-99 : Int32).toInt = -99 := rfl
  have e2 : (99 : Int32).toInt = 99 := rfl
  have e3 : (0 : Int32).toInt = 0 := rfl
  rw [e1, e2] at h1
  rw [e2, e3] at h2
  apply Int32.toInt_inj.mp
  unfold p_mx
  by_cases c : 0 < hd v (-99) 99
  · have c' := Int32.lt_iff_toInt_lt.mp c
    rw [e3, h1] at c'
    rw [if_pos c, h1, h2]
    split at c' <;> (try split at c') <;> split <;> (try split) <;> (try split) <;> omega
  · have c' : ¬ (0 : Int32).toInt < (hd v (-99) 99).toInt := fun h => c (Int32.lt_iff_toInt_lt.mpr h)
    rw [e3, h1] at c'
    rw [if_neg c, h2, e3]
    split at c' <;> (try split at c') <;> split <;> (try split) <;> omega
section SAYS
variable {S : ri_H} {p : Nat} {τ : Int32 → Int32 → List Int32} {b jar x : Int32} {Q : Int32 → ri_H → Prop}
def F1 : List Nat := [12, 13, 14, 15, 16, 17, 18, 19, 20, 21, 22, 23, 24, 25, 26]
def mlo (b : Int32) : Int32 := if b = 1 then 0 else -99
theorem w164_b49_ok (hp : p < 5) (hb : b = 0 ∨ b = 1 ∨ b = 2) (hm : mt S τ (gm S 0 11)) (hQ : ∀ S', am [] F1 S S' → Q (hd (vl (p_nm (gm S) (nI p) jar) (τ (gm S 0 11) b)) (mlo b) 99) S') : w164_b49 Q b (nI p) jar (ri_wi S 50 12 (gm S 5 p)) := by
  unfold w164_b49
  rw [x5_2, x5_3, x5_0, nI_clamp (by omega), nI_clamp (by omega), nI_clamp (by omega)]
  refine ⟨vp_in_nI (by omega) (by decide), vp_in_nI (by omega) (by decide), vp_in_nI (by omega) (by decide), ?_⟩
  have hr : (ri_wi S 50 12 (gm S 5 p)).1 50 4 = gm S 0 11 := by
    rw [ri_wi_1]
    rfl
  rw [hr]
  refine hm b hb _ _ ?_ ?_ (fun S' ha => ?_)
  · rw [ri_wi_o _ _ _ (by decide), ri_wi_o _ _ _ (by decide), ri_wi_o _ _ _ (by decide), ri_wi_o _ _ _ (by decide), ri_wi_o _ _ _ (by decide), ri_wi_o _ _ _ (by decide)]
  · rw [ri_wi_o _ _ _ (by decide), ri_wi_o _ _ _ (by decide), ri_wi_o _ _ _ (by decide), ri_wi_o _ _ _ (by decide), ri_wi_o _ _ _ (by decide), ri_wi_o _ _ _ (by decide)]
  · have hnm : mnm (ri_wi (ri_wi (ri_wi (ri_wi (ri_wi (ri_wi S 50 12 (gm S 5 p)) 50 13 jar) 50 14 ((ri_wi S 50 12 (gm S 5 p)).1 56 (5 * p))) 50 15 ((ri_wi S 50 12 (gm S 5 p)).1 50 7)) 50 16 ((ri_wi S 50 12 (gm S 5 p)).1 56 (5 * p + 2))) 50 17 ((ri_wi S 50 12 (gm S 5 p)).1 56 (5 * p + 3))) = p_nm (gm S) (nI p) jar := by
      funext j
      unfold mnm p_nm
      simp only [ri_wi_1]
      rw [ri_wi_o S (c := 56) (k := 50) _ _ (by decide), gm_4 hp, gm_6 hp, gm_7 hp, it_nI _ hp (by decide), it_nI _ hp (by decide), it_nI _ hp (by decide), it_nI _ hp (by decide)]
      rfl
    rw [hnm]
    have hq := hQ S' (am_tr (am_f (am_f (am_f (am_f (am_f (am_f (am_refl _ _ _) ?_) ?_) ?_) ?_) ?_) ?_) (am_mo ha (fun c hc => hc) ?_))
    · unfold w164_b120
      unfold mlo at hq
      refine ⟨fun c => ?_, fun c => ?_⟩
      · rw [if_neg c] at hq
        exact w103_ok (by decide) hq
      · rw [if_pos (Decidable.not_not.mp c)] at hq
        exact w103_ok (by decide) hq
    · decide
    · decide
    · decide
    · decide
    · decide
    · decide
    · intro c hc
      simp at hc
      simp [F1]
      omega
theorem w164_none (hp : p < 5) (hg : rg (gm S 5) 5 12) (hb : b = 0 ∨ b = 1 ∨ b = 2) (hm : mt S τ (gm S 0 11)) (hQ : ∀ S', am [] F1 S S' → Q (hd (vl (p_nm (gm S) (nI p) (p_bj (gm S) (it (gm S 5) 5 (nI p)))) (τ (gm S 0 11) b)) (mlo b) 99) S') : w164 b (nI p) (-1) S Q := by
  unfold w164
  refine w114_ok hp ⟨fun c => absurd rfl c, fun _ => ?_⟩
  obtain ⟨v, hv, e⟩ := hg p hp
  have hq := @w164_b49_ok S p τ b (p_bj (gm S) (it (gm S 5) 5 (nI p))) Q hp hb hm hQ
  rw [it_nI _ hp (by decide), e] at hq
  unfold p_bj at hq
  rw [x2_1, x2_0, it_nI _ (by omega) (by decide), it_nI _ (by omega) (by decide)] at hq
  rw [e, x2_1, x2_0, nI_clamp (by omega), nI_clamp (by omega), gm_2 (by omega), gm_2 (by omega)]
  exact ⟨vp_in_nI (by omega) (by decide), vp_in_nI (by omega) (by decide), hq⟩
theorem w164_jar {k : Nat} (hp : p < 5) (hk : k < 24) (hb : b = 0 ∨ b = 1 ∨ b = 2) (hm : mt S τ (gm S 0 11)) (hQ : ∀ S', am [] F1 S S' → Q (hd (vl (p_nm (gm S) (nI p) (it (gm S 2) 24 (nI k))) (τ (gm S 0 11) b)) (mlo b) 99) S') : w164 b (nI p) (nI k) S Q := by
  unfold w164
  refine w114_ok hp ⟨fun _ => ?_, fun c => absurd (show ¬ nI k = -1 from fun h => nI_pos (n := k) (by omega) (by rw [h]; decide)) c⟩
  have hq := @w164_b49_ok S p τ b (it (gm S 2) 24 (nI k)) Q hp hb hm hQ
  rw [it_nI _ hk (by decide)] at hq
  rw [nI_clamp (by omega), gm_2 hk]
  exact ⟨vp_in_nI hk (by decide), hq⟩
theorem gm_F1 {S' : ri_H} (h : am [] F1 S S') : gm S' = gm S := gm_am h (by decide) (by decide) (by decide) (by decide) (by decide) (by decide)
theorem mlo_0 : mlo 0 = -99 := rfl
theorem w165_b133_ok (hp : p < 5) {s0 x4 : Int32} (hQ : Q (if it (gm S 3) 5 (nI p) = 0 then x4 else if it (gm S 3) 5 (nI p) = 3 then (if 0 ≤ it (gm S 6) 5 (nI p) then s0 else 1 - s0) else s0) S) : w165_b133 Q (nI p) (it (gm S 3) 5 (nI p)) x4 s0 S := by
  unfold w165_b133
  refine ⟨fun c => ⟨fun c3 => ?_, fun c3 => ?_⟩, fun c => ?_⟩
  · rw [if_neg c, if_neg c3] at hQ
    exact hQ
  · rw [if_neg c, if_pos (Decidable.not_not.mp c3), it_nI _ hp (by decide)] at hQ
    rw [x5_2, nI_clamp (by omega), gm_6 hp]
    refine ⟨vp_in_nI (by omega) (by decide), fun c4 => ?_, fun c4 => ?_⟩
    · rw [if_pos c4] at hQ
      exact hQ
    · rw [if_neg c4] at hQ
      exact hQ
  · rw [if_pos (Decidable.not_not.mp c)] at hQ
    exact hQ
theorem w165_b113_ok (hp : p < 5) {s0 : Int32} (hQ : Q (p_r2 (gm S) (nI p) (p_r1 (gm S) (nI p) s0)) S) : w165_b113 Q (nI p) (it (gm S 3) 5 (nI p)) (it (gm S 5) 5 (nI p)) s0 S := by
  unfold w165_b113
  rw [x5_0, nI_clamp (by omega), gm_4 hp]
  unfold p_r1 p_r2 at hQ
  rw [it_nI (gm S 4) hp (by decide)] at hQ
  refine ⟨vp_in_nI (by omega) (by decide), fun c => ?_, fun c => ?_⟩
  · refine w165_b133_ok hp ?_
    rw [if_neg c] at hQ
    by_cases c0 : it (gm S 3) 5 (nI p) = 0
    · rw [if_pos c0] at hQ ⊢
      rw [c0, if_neg (by decide)] at hQ
      exact hQ
    · rw [if_neg c0] at hQ ⊢
      exact hQ
  · refine w165_b133_ok hp ?_
    rw [if_pos (Decidable.not_not.mp c)] at hQ
    by_cases c0 : it (gm S 3) 5 (nI p) = 0
    · rw [if_pos c0] at hQ ⊢
      rw [c0, if_neg (by decide)] at hQ
      exact hQ
    · rw [if_neg c0] at hQ ⊢
      exact hQ
theorem w165_b83_0 (hQ : Q 1 S) : w165_b83 Q 0 S := ⟨fun _ => hQ, fun c => absurd rfl c⟩
theorem w165_b83_1 (hQ : Q 0 S) : w165_b83 Q 1 S := ⟨fun c => absurd c (by decide), fun _ => hQ⟩
theorem w165_b57_ok {c : Nat} (hc : c < 12) (hQ : Q (if it (gm S 2) 24 (2 * nI c) ≤ it (gm S 2) 24 (2 * nI c + 1) then 0 else 1) S) : w165_b57 Q (nI c) S := by
  unfold w165_b57
  rw [x2_1, x2_0, it_nI _ (by omega) (by decide), it_nI _ (by omega) (by decide)] at hQ
  rw [x2_1, x2_0, nI_clamp (by omega), nI_clamp (by omega), gm_2 (by omega), gm_2 (by omega)]
  refine ⟨vp_in_nI (by omega) (by decide), vp_in_nI (by omega) (by decide), fun c1 => ?_, fun c1 => ?_⟩
  · rw [if_neg (Int32.not_le.mpr c1)] at hQ
    exact w165_b83_0 hQ
  · rw [if_pos (Int32.not_lt.mp c1)] at hQ
    exact w165_b83_1 hQ
theorem w165_ok (hp : p < 5) (hg : rg (gm S 5) 5 12) (hm : mt S τ (gm S 0 11)) (hQ : ∀ S', am [] F1 S S' → Q (p_tk τ (gm S) (nI p)) S') : w165 (nI p) S Q := by
  unfold w165
  have hk : it (gm S 3) 5 (nI p) = gm S 3 p := it_nI _ hp (by decide)
  rw [x5_4, x5_0, nI_clamp (by omega), nI_clamp (by omega), gm_3 hp, ← hk]
  unfold p_tk at hQ
  refine ⟨vp_in_nI (by omega) (by decide), w114_ok hp ⟨fun c5 => ?_, fun c5 => ⟨vp_in_nI (by omega) (by decide), ?_⟩⟩⟩
  · rw [if_neg c5] at hQ
    obtain ⟨c, hc, e⟩ := hg p hp
    have ha : it (gm S 5) 5 (nI p) = nI c := by rw [it_nI _ hp (by decide), e]
    have b43 : (it (gm S 3) 5 (nI p) = 2 ∨ it (gm S 3) 5 (nI p) = 4) → w165_b43 Q (it (gm S 3) 5 (nI p)) (gm S 5 p) S := by
      intro hh
      rw [if_pos hh, ha] at hQ
      have hq := hQ S (am_refl _ _ _)
      unfold w165_b43
      rw [e, gm_10]
      refine ⟨fun c4 => ?_, fun c4 => ⟨fun cy => ?_, fun cy => ?_⟩⟩
      · rw [if_neg (fun h => c4 h.1)] at hq
        exact w165_b57_ok hc hq
      · rw [if_pos ⟨Decidable.not_not.mp c4, cy⟩] at hq
        exact w165_b83_1 hq
      · rw [if_neg (fun h => cy h.2)] at hq
        exact w165_b57_ok hc hq
    refine ⟨fun c2 => b43 (Or.inl c2), fun c2 => ⟨fun c4 => ?_, fun c4 => b43 (Or.inr (Decidable.not_not.mp c4))⟩⟩
    rw [if_neg (fun h => c4 h.1), if_neg (fun h => h.elim c2 c4)] at hQ
    refine w164_none hp hg (Or.inl rfl) hm (fun S' h => ?_)
    have hq := hQ S' h
    have hgm := gm_F1 h
    rw [← it_nI (gm S 5) hp (by decide)]
    rw [mlo_0]
    unfold tl at hq
    rw [← hgm] at hq ⊢
    refine ⟨fun c => ?_, fun c => ?_⟩
    · rw [if_neg c] at hq
      exact w165_b113_ok hp hq
    · rw [if_pos (Decidable.not_not.mp c)] at hq
      exact w165_b113_ok hp hq
  · rw [if_pos (Decidable.not_not.mp c5), it_nI _ hp (by decide)] at hQ
    rw [gm_4 hp]
    exact hQ S (am_refl _ _ _)
theorem mlo_1 : mlo 1 = 0 := rfl
theorem w166_b88_ok {v : Int32} (hQ : Q (hd v 0 99) S) : w166_b88 Q v S := w103_ok (by decide) hQ
theorem w166_ok (hp : p < 5) (hg : rg (gm S 5) 5 12) (hm : mt S τ (gm S 0 11)) (hQ : ∀ S', am [] F1 S S' → Q (p_pt τ (gm S) (nI p)) S') : w166 (nI p) S Q := by
  unfold w166
  have hk : it (gm S 3) 5 (nI p) = gm S 3 p := it_nI _ hp (by decide)
  rw [x5_4, x5_0, nI_clamp (by omega), nI_clamp (by omega), gm_3 hp, ← hk]
  unfold p_pt at hQ
  refine ⟨vp_in_nI (by omega) (by decide), fun c5 => ?_, fun c5 => ?_⟩
  · rw [if_neg c5] at hQ
    refine w164_none hp hg (Or.inr (Or.inl rfl)) hm (fun S' h => ?_)
    have hq := hQ S' h
    have hgm := gm_F1 h
    rw [mlo_1, ← mx_hd]
    unfold tl at hq
    refine ⟨fun c1 => ⟨fun c2 => ⟨fun c3 => ⟨fun c4 => ?_, fun c4 => ?_⟩, fun c3 => ⟨vp_in_nI (by omega) (by decide), ?_⟩⟩, fun c2 => ?_⟩, fun c1 => ?_⟩
    · rw [if_neg c1, if_neg c2, if_neg c3, if_neg c4] at hq
      exact w166_b88_ok hq
    · rw [if_neg c1, if_neg c2, if_neg c3, if_pos (Decidable.not_not.mp c4)] at hq
      exact w166_b88_ok hq
    · rw [if_neg c1, if_neg c2, if_pos (Decidable.not_not.mp c3), it_nI (gm S 4) hp (by decide)] at hq
      rw [gm_4 hp, hgm]
      exact w166_b88_ok hq
    · rw [if_neg c1, if_pos (Decidable.not_not.mp c2)] at hq
      exact w166_b88_ok hq
    · rw [if_pos (Decidable.not_not.mp c1)] at hq
      exact w166_b88_ok hq
  · rw [if_pos (Decidable.not_not.mp c5)] at hQ
    exact hQ S (am_refl _ _ _)
theorem w167_b62_ok (hp : p < 5) {v : Int32} (hQ : Q (p_fk (gm S) (nI p) v) S) (h5 : ¬ it (gm S 3) 5 (nI p) = 5) : w167_b62 Q (nI p) (it (gm S 3) 5 (nI p)) v (p_mx v) (p_tn (gm S) (nI p) v) S := by
  unfold w167_b62
  rw [x5_0, nI_clamp (by omega), gm_4 hp]
  unfold p_fk at hQ
  refine ⟨fun c1 => ⟨fun c3 => ⟨fun c2 => ⟨fun c4 => ?_, fun c4 => ⟨vp_in_nI (by omega) (by decide), ?_⟩⟩, fun c2 => ?_⟩, fun c3 => ?_⟩, fun c1 => ?_⟩
  · rw [if_neg c1, if_neg c2, if_neg c3, if_neg c4, if_neg h5] at hQ
    exact hQ
  · rw [if_neg c1, if_neg c2, if_neg c3, if_pos (Decidable.not_not.mp c4), it_nI (gm S 4) hp (by decide)] at hQ
    exact hQ
  · rw [if_neg c1, if_pos (Decidable.not_not.mp c2)] at hQ
    exact hQ
  · rw [if_neg c1, Decidable.not_not.mp c3, if_neg (by decide), if_pos rfl] at hQ
    exact hQ
  · rw [if_pos (Decidable.not_not.mp c1)] at hQ
    exact hQ
theorem mlo_2 : mlo 2 = -99 := rfl
theorem le2_lt3 (x : Int32) : x ≤ 2 ↔ x < 3 := by
  rw [Int32.le_iff_toInt_le, Int32.lt_iff_toInt_lt]
  have e2 : (2 : Int32).toInt = 2 := rfl
  have e3 : (3 : Int32).toInt = 3 := rfl
  rw [e2, e3]
  omega
theorem p_mx_pos {v : Int32} (h : 0 ≤ v) : p_mx v = v := by
  unfold p_mx
  split
  · rfl
  · rename_i c
    have h1 := Int32.le_iff_toInt_le.mp h
    have h2 : ¬ (0 : Int32).toInt < v.toInt := fun e => c (Int32.lt_iff_toInt_lt.mpr e)
    exact Int32.toInt_inj.mp (by omega)
theorem p_mx_neg {v : Int32} (h : ¬ 0 ≤ v) : p_mx v = 0 := by
  unfold p_mx
  rw [if_neg (fun c => h (Int32.le_of_lt c))]
theorem w167_b38_ok (hp : p < 5) {v : Int32} (hQ : Q (p_fk (gm S) (nI p) v) S) (h5 : ¬ it (gm S 3) 5 (nI p) = 5) : w167_b38 Q (nI p) (it (gm S 3) 5 (nI p)) v (p_mx v) S := by
  unfold w167_b38
  rw [x5_3, nI_clamp (by omega), gm_7 hp]
  have h := w167_b62_ok hp hQ h5
  unfold p_tn at h
  rw [it_nI (gm S 7) hp (by decide)] at h
  refine ⟨vp_in_nI (by omega) (by decide), fun c => ?_, fun c => ?_⟩
  · rw [if_pos ((le2_lt3 _).mp c)] at h
    exact h
  · rw [if_neg (fun e => c ((le2_lt3 _).mpr e))] at h
    exact h
theorem w167_ok {k : Nat} (hp : p < 5) (hk : k < 24) (hm : mt S τ (gm S 0 11)) (hQ : ∀ S', am [] F1 S S' → Q (p_fl τ (gm S) (nI p) (nI k)) S') : w167 (nI p) (nI k) S Q := by
  unfold w167
  have e3 : it (gm S 3) 5 (nI p) = gm S 3 p := it_nI _ hp (by decide)
  rw [x5_4, nI_clamp (by omega), gm_3 hp, ← e3]
  unfold p_fl at hQ
  refine ⟨vp_in_nI (by omega) (by decide), fun c5 => ?_, fun c5 => ?_⟩
  · refine w164_jar hp hk (Or.inr (Or.inr rfl)) hm (fun S' h => ?_)
    have hq := hQ S' h
    have hgm := gm_F1 h
    rw [mlo_2]
    unfold tl at hq
    rw [← hgm] at hq c5 ⊢
    have := w167_b38_ok hp hq c5
    refine ⟨fun c => ?_, fun c => ?_⟩
    · rw [p_mx_pos c] at this
      exact this
    · rw [p_mx_neg c] at this
      exact this
  · have hq := hQ S (am_refl _ _ _)
    unfold p_fk at hq
    rw [Decidable.not_not.mp c5, if_neg (by decide), if_neg (by decide), if_neg (by decide), if_neg (by decide), if_pos rfl] at hq
    exact hq
end SAYS
