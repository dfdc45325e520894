/-! the model: a text is read -/
section MT
variable {f : Nat → Int32} {n fr h : Nat} {S0 S : ri_H} {Q : Int32 → ri_H → Prop}
theorem b48_bad {v : Int32} (hb : ¬ S.1 50 25 = 0) (hQ : Q v S) : w160_b48 Q v S := ⟨fun _ => hQ, fun c => absurd hb c⟩
theorem b34_bad {v : Int32} (hb : ¬ S.1 50 25 = 0) (hQ : Q v S) : w160_b34 Q v S :=
  w121_bad hb ⟨fun c => absurd rfl c, fun _ => w118_bad hb (b48_bad hb hQ)⟩
theorem w160_0 {k : Int32} (hm : mM f n fr S0 S h 0) (hk : pso f n h ≠ k) (hQ : MRp f n fr (ppt f n k h) S0 0 Q) : w160 0 S Q := by
  unfold ppt at hQ
  rw [if_neg hk] at hQ
  refine ⟨fun c => absurd rfl c, fun _ => w118_ok hm (fun S' hf => ?_)⟩
  have bad := mFl_bad hf
  exact ⟨fun _ => ⟨fun c => absurd c bad, fun _ => b34_bad bad (hQ.1 _ _ S' rfl hf)⟩, fun c => absurd bad c⟩
theorem w160_1 {k : Int32} (hn : n ≤ 160) (hk0 : k ≠ 0) (hk1 : k ≠ 1) (hm : mM f n fr S0 S h 0) (hk : pso f n h = k) (hQ : MRp f n fr (ppt f n k h) S0 0 Q) : w160 1 S Q := by
  unfold ppt at hQ
  rw [if_pos hk] at hQ
  refine ⟨fun _ => ⟨fun c => absurd hm.2.2.2.2.2 c, fun _ => nx_ok hm (by rw [hk]; exact hk0) (by rw [hk]; exact hk1) (fun S7 hm7 => ?_)⟩, fun c => absurd (by decide) c⟩
  refine ⟨fun _ => mM_call (mAt_MR hn 5 (Nat.le_refl _)).2.2 hm7 (fun x v S' e hf => b34_bad (mFl_bad hf) (hQ.1 x v S' (by rw [e]; rfl) hf)) (fun c h2 S' e hm2 => ?_), fun c => absurd hm7.2.2.2.2.2 c⟩
  rw [e] at hQ
  have hQ : MRp f n fr (if pso f n h2 = 59 then .inr (c, pen f n h2) else .inl (ppl f n h2)) S0 0 Q := hQ
  refine w121_ok sg59 hm2.2 (fun e59 => ⟨fun _ => ⟨fun q => absurd hm2.2.2.2.2.2 q, fun _ => ?_⟩, fun q => absurd (by decide) q⟩) (fun e59 => ⟨fun q => absurd rfl q, fun _ => w118_ok hm2 (fun S3 hf => b48_bad (mFl_bad hf) ?_)⟩)
  · rw [if_pos e59] at hQ
    exact nx_ok hm2 (by rw [e59]; decide) (by rw [e59]; decide) (fun S3 hm3 => hQ.2 _ _ S3 rfl hm3)
  · rw [if_neg e59] at hQ
    exact hQ.1 _ _ _ rfl hf
theorem part3 (hn : n ≤ 160) (hm : mM f n fr S0 S h 0) (hQ : MRp f n fr (ppt f n 3 h) S0 0 Q) : w120 116 97 107 101 115 0 0 0 S (fun r S1 => w160 r S1 Q) :=
  is3 hm.2 (fun e => w160_1 hn (by decide) (by decide) hm e hQ) (fun e => w160_0 hm e hQ)
theorem part4 (hn : n ≤ 160) (hm : mM f n fr S0 S h 0) (hQ : MRp f n fr (ppt f n 4 h) S0 0 Q) : w120 112 117 116 115 0 0 0 0 S (fun r S1 => w160 r S1 Q) :=
  is4 hm.2 (fun e => w160_1 hn (by decide) (by decide) hm e hQ) (fun e => w160_0 hm e hQ)
theorem part5 (hn : n ≤ 160) (hm : mM f n fr S0 S h 0) (hQ : MRp f n fr (ppt f n 5 h) S0 0 Q) : w120 102 101 101 108 115 0 0 0 S (fun r S1 => w160 r S1 Q) :=
  is5 hm.2 (fun e => w160_1 hn (by decide) (by decide) hm e hQ) (fun e => w160_0 hm e hQ)
theorem tok0 (hd : md f n h S) : S.1 50 21 = 0 ↔ pso f n h = 0 := by
  rcases md_cases hd with q | q | q | q | q
  · exact ⟨fun _ => q.2.1, fun _ => q.2.2⟩
  · rw [q.2.2.2.1, q.2.2.1]
    exact ⟨fun e => absurd e (by decide), fun e => absurd e (wsort_ne0 _)⟩
  · rw [q.2.2.1, q.2.1]
  · rw [q.2.2, q.2.1]
    exact ⟨fun e => absurd e (by decide), fun e => absurd e (by decide)⟩
  · rw [q.2.2.2.1, q.2.1]
    refine ⟨fun e => absurd e (by decide), fun e => ?_⟩
    have := q.2.2.1
    rw [e] at this
    exact absurd this (by decide)
def G9 : List Nat := [18, 19, 20, 21, 22, 23, 24, 25, 26]
/-- which part is asked for -/
def wpt (b x y z : Int32) : Int32 := if b = 0 then x else if b = 1 then y else z
theorem b145_ok {b x y z : Int32} (hQ : Q (wpt b x y z) S) : w161_b145 Q b x y z S := by
  unfold wpt at hQ
  refine ⟨fun c => ⟨fun c2 => ?_, fun c2 => ?_⟩, fun c => ?_⟩
  · rw [if_neg c, if_neg c2] at hQ
    exact hQ
  · rw [if_neg c, if_pos (Decidable.not_not.mp c2)] at hQ
    exact hQ
  · rw [if_pos (Decidable.not_not.mp c)] at hQ
    exact hQ
theorem b125_bad {b x y z : Int32} (hb : ¬ S.1 50 25 = 0) (hQ : ∀ v, Q v S) : w161_b125 Q b x y z S := ⟨fun _ => b145_ok (hQ _), fun c => absurd hb c⟩
theorem b91_bad {b x y : Int32} (hb : ¬ S.1 50 25 = 0) (hQ : ∀ v, Q v S) : w161_b91 Q b x y S := ⟨fun c => absurd c hb, fun _ => b125_bad hb hQ⟩
theorem w161_ok {T : Nat} {b : Int32} (hT : T < 6) (hn : n ≤ 160) (h52 : S.1 52 T = nI n) (h51 : ∀ j, j < n → S.1 51 (160 * T + j) = f j ∧ 0 ≤ f j) (h1 : ∀ x v S', ptx f n = .inl x → am [] G9 S S' → S'.1 50 25 = 1 → S'.1 50 26 = nI x → Q v S') (h2 : ∀ c0 c1 c2 S', ptx f n = .inr (c0, c1, c2) → am [] G9 S S' → S'.1 50 25 = 0 → Q (wpt b (vl (mnm S) c0) (vl (mnm S) c1) (vl (mnm S) c2)) S') : w161 (nI T) b S Q := by
  unfold w161
  refine ⟨vp_in_nI hT (by decide), ?_⟩
  have m160 : (160 : Int32) * nI T = nI (160 * T) := pk_mul 160 T
  rw [nI_clamp (by omega), h52, m160]
  have a0 : am [] G9 S (ri_wi (ri_wi (ri_wi (ri_wi (ri_wi S 50 18 (nI (160 * T))) 50 19 (nI n)) 50 20 0) 50 24 0) 50 25 0) := am_f (am_f (am_f (am_f (am_f (am_refl _ _ _) (by decide)) (by decide)) (by decide)) (by decide)) (by decide)
  have B : mB f n (160 * T) (ri_wi (ri_wi (ri_wi (ri_wi (ri_wi S 50 18 (nI (160 * T))) 50 19 (nI n)) 50 20 0) 50 24 0) 50 25 0) := by
    refine ⟨hn, by omega, ?_, ?_, fun j hj => ?_⟩
    · rw [ri_wi_1, pk_un (by decide), ri_wi_1, pk_un (by decide), ri_wi_1, pk_un (by decide), ri_wi_1, pk_un (by decide), ri_wi_1, pk_us]
    · rw [ri_wi_1, pk_un (by decide), ri_wi_1, pk_un (by decide), ri_wi_1, pk_un (by decide), ri_wi_1, pk_us]
    · rw [(a0.1 51 (by decide) (by decide)).1]
      exact h51 j hj
  refine next_ok (h := 0) (Nat.zero_le _) B ?_ (fun S1 a1 d1 => ?_)
  · rw [ri_wi_1, pk_un (by decide), ri_wi_1, pk_un (by decide), ri_wi_1, pk_us]
    rfl
  · have hm : mM f n (160 * T) S1 S1 0 0 := by
      refine mM_0 ⟨mB_am B a1 (by decide) (by decide) (by decide), Nat.zero_le _, d1, ?_, ?_⟩
      · rw [(a1.2 24 (by decide)).1, ri_wi_1, pk_un (by decide), ri_wi_1, pk_us]
        rfl
      · rw [(a1.2 25 (by decide)).1, ri_wi_1, pk_us]
    have aa : am [] G9 S S1 := am_q a0 a1 (by decide)
    have names : mnm S1 = mnm S := by
      unfold mnm
      rw [(aa.2 17 (by decide)).1, (aa.2 16 (by decide)).1, (aa.2 15 (by decide)).1, (aa.2 14 (by decide)).1, (aa.2 13 (by decide)).1, (aa.2 12 (by decide)).1]
    have fin1 : ∀ x v S', ptx f n = .inl x → mFl S1 x S' → Q v S' := fun x v S' e hf => h1 x v S' e (am_q aa hf.1 (by decide)) hf.2.1 hf.2.2
    have fin2 : ∀ c0 c1 c2 S' h', ptx f n = .inr (c0, c1, c2) → mM f n (160 * T) S1 S' h' 0 → Q (wpt b (vl (mnm S1) c0) (vl (mnm S1) c1) (vl (mnm S1) c2)) S' := by
      intro c0 c1 c2 S' h' e hm'
      rw [names]
      exact h2 c0 c1 c2 S' e (am_q aa hm'.1 (by decide)) hm'.2.2.2.2.2
    refine part3 hn hm ⟨fun x v S4 e0 hf => ⟨fun c => absurd c (mFl_bad hf), fun _ => b91_bad (mFl_bad hf) (fun v => fin1 x v S4 ?_ hf)⟩, fun c0 h0 S4 e0 hm4 => ⟨fun _ => ?_, fun c => absurd hm4.2.2.2.2.2 c⟩⟩
    · unfold ptx
      rw [e0]
    · have hh0 := hm4.2.2.1
      refine part4 hn hm4 ⟨fun x v S8 e1 hf => b91_bad (mFl_bad hf) (fun v => fin1 x v S8 ?_ hf), fun c1 h1' S8 e1 hm8 => ⟨fun _ => ?_, fun c => absurd hm8.2.2.2.2.2 c⟩⟩
      · unfold ptx
        rw [e0]
        show (match ppt f n 4 h0 with
          | .inl x => _
          | .inr (c1, h1) => _) = _
        rw [e1]
      · refine part5 hn hm8 ⟨fun x v S12 e2 hf => b125_bad (mFl_bad hf) (fun v => fin1 x v S12 ?_ hf), fun c2 h2' S12 e2 hm12 => ?_⟩
        · unfold ptx
          rw [e0]
          show (match ppt f n 4 h0 with
            | .inl x => _
            | .inr (c1, h1) => _) = _
          rw [e1]
          show (match ppt f n 5 h1' with
            | .inl x => _
            | .inr (c2, h2) => _) = _
          rw [e2]
        · have ep : ptx f n = if pso f n h2' = 0 then .inr (c0, c1, c2) else .inl (ppl f n h2') := by
            unfold ptx
            rw [e0]
            show (match ppt f n 4 h0 with
              | .inl x => _
              | .inr (c1, h1) => _) = _
            rw [e1]
            show (match ppt f n 5 h1' with
              | .inl x => _
              | .inr (c2, h2) => _) = _
            rw [e2]
          refine ⟨fun c => absurd hm12.2.2.2.2.2 c, fun _ => ⟨fun c => ?_, fun c => ?_⟩⟩
          · rw [if_pos ((tok0 hm12.2.2.2.1).mp c)] at ep
            exact b145_ok (fin2 c0 c1 c2 S12 h2' ep hm12)
          · rw [if_neg (fun q => c ((tok0 hm12.2.2.2.1).mpr q))] at ep
            exact w118_ok hm12 (fun S14 hf => b145_ok (fin1 _ _ S14 ep hf))
end MT
