/-! the class reads: chains, not, one, levels -/
section CH
variable {f : Nat → Int32} {n m : Nat}
def pP1 (P : Int32 → Option Int32) : Prop := ∀ s t, P s = some t → s ≠ 1
/-- a loop of a chain: bad, done, a turn -/
def cLb (L : (ri_H → Prop) → Nat → Int32 → Int32 → ri_H → Prop) (x1 : Int32) : Prop := ∀ Q k y S, ¬ S.1 5 7 = -1 → Q S → L Q (k + 1) x1 y S
def cLe (L : (ri_H → Prop) → Nat → Int32 → Int32 → ri_H → Prop) (x1 : Int32) : Prop := ∀ Q k S, Q S → L Q (k + 1) x1 (nI 160) S
def cLs (f : Nat → Int32) (n m : Nat) (P : Int32 → Option Int32) (C : Int32 → ri_H → (ri_H → Prop) → Prop) (L : (ri_H → Prop) → Nat → Int32 → Int32 → ri_H → Prop) (x1 : Int32) : Prop := ∀ Q k j S i w, j < 160 → cS f n m S i w → (P (pso f n (hs f n i)) = none → Q S) → (∀ s, P (pso f n (hs f n i)) = some s → C x1 (ri_wi S 5 6 (nI (i + 1))) (fun S4 => w28 s S4 (fun S5 => L Q k x1 (nI (j + 1)) S5))) → L Q (k + 1) x1 (nI j) S
theorem cl_loop {P : Int32 → Option Int32} {F : pF} {C : Int32 → ri_H → (ri_H → Prop) → Prop} {x1 : Int32} {L : (ri_H → Prop) → Nat → Int32 → Int32 → ri_H → Prop} {Q : ri_H → Prop} {S0 : ri_H} {i0 w : Nat} (hn : n ≤ 160) (hP : pP P) (hP1 : pP1 P) (hC : CR f n m F (C x1)) (hF : pgd n F) (hb : cLb L x1) (he : cLe L x1) (hs1 : cLs f n m P C L x1) (hw : w + (n - hs f n i0) ≤ 960) : ∀ k j S i c, j + k = 160 → cM f n m S0 i0 w 0 c S i → CRp f n m (plp f n P F k c (hs f n i)) S0 i0 w Q → L Q (k + 1) x1 (nI j) S
  | 0, j, S, i, c, hj, h, hQ => by
    have hj' : j = 160 := hj
    subst hj'
    exact he Q 0 S (hQ.2 c S i rfl h)
  | k + 1, j, S, i, c, hj, h, hQ => by
    unfold plp at hQ
    refine hs1 Q (k + 1) j S i _ (by omega) h.2.1 (fun e => ?_) (fun s e => ?_)
    · rw [e] at hQ
      exact hQ.2 c S i rfl h
    · rw [e] at hQ
      have hm := cM_nx h (hP _ _ e).1 (hP1 _ _ e)
      refine cM_call hC hF hm (fun x S' w' e2 hf => ?_) (fun d S' i' e2 hm2 => ?_)
      · refine cFl_wr' hf hw (fun S2 w2 hf2 => hb Q k _ S2 (cFl_bad hf2 hn) (hQ.1 x S2 w2 ?_ hf2))
        have e3 : F (pen f n (hs f n i)) = .inl x := e2
        show pbd (F (pen f n (hs f n i))) _ = _
        rw [e3]
        rfl
      · refine cM_wr' hm2 hw (fun S2 hm3 => cl_loop hn hP hP1 hC hF hb he hs1 hw k (j + 1) S2 i' (c ++ d ++ [s]) (by omega) hm3 ?_)
        have e3 : F (pen f n (hs f n i)) = .inr (d, hs f n i') := e2
        have hQ2 : CRp f n m (pbd (F (pen f n (hs f n i))) (fun d h2 => plp f n P F k (c ++ d ++ [s]) h2)) S0 i0 w Q := hQ
        rw [e3] at hQ2
        exact hQ2
theorem ch_ok {P : Int32 → Option Int32} {F : pF} {C : Int32 → ri_H → (ri_H → Prop) → Prop} {x1 : Int32} {L : (ri_H → Prop) → Nat → Int32 → Int32 → ri_H → Prop} (hn : n ≤ 160) (hP : pP P) (hP1 : pP1 P) (hC : CR f n m F (C x1)) (hF : pgd n F) (hb : cLb L x1) (he : cLe L x1) (hs1 : cLs f n m P C L x1) : CR f n m (pch f n P F) (fun S Q => C x1 S (fun S1 => ∃ nn, L Q nn x1 0 S1)) := by
  intro S i w Q hS hQ
  unfold pch at hQ
  refine cM_call hC hF (cM_0 hS) (fun x S' w' e hf => ⟨1, hb Q 0 _ S' (cFl_bad hf hn) (hQ.1 x S' w' ?_ hf)⟩) (fun d S' i' e hm => ⟨161, ?_⟩)
  · rw [e]
    rfl
  · rw [e] at hQ
    exact cl_loop hn hP hP1 hC hF hb he hs1 hS.2.2.2.2.2 160 0 S' i' d rfl hm hQ
theorem ch_bad {C : Int32 → ri_H → (ri_H → Prop) → Prop} {x1 : Int32} {L : (ri_H → Prop) → Nat → Int32 → Int32 → ri_H → Prop} (hC : CB (C x1)) (hb : cLb L x1) : CB (fun S Q => C x1 S (fun S1 => ∃ nn, L Q nn x1 0 S1)) := by
  intro S Q h hQ
  exact hC S _ h ⟨1, hb Q 0 _ S h hQ⟩
theorem pP1_term : pP1 Pterm := by
  intro s t h e
  subst e
  cases h
theorem pP1_sum : pP1 Psum := by
  intro s t h e
  subst e
  cases h
theorem pP1_and : pP1 Pand := by
  intro s t h e
  subst e
  cases h
theorem pP1_or : pP1 Por := by
  intro s t h e
  subst e
  cases h
theorem i160 {j : Nat} (h : j < 160) : ¬ (160 : Int32) ≤ nI j := nI_ge (b := 160) h (by decide)
theorem w16_CR (hn : n ≤ 160) {C : Int32 → ri_H → (ri_H → Prop) → Prop} {a : Int32} {F : pF} (hC : CR f n m F (C a)) (hF : pgd n F) : CR f n m (pch f n Por F) (w16 C a) := by
  refine ch_ok hn pP_or pP1_or hC hF (L := fun Q => w16_l7 C Q) ?_ ?_ ?_
  · intro Q k y S h hQ
    show w16_l7 C Q (k + 1) _ _ S
    unfold w16_l7
    exact ⟨fun _ => hQ, fun _ => w13_bad h (by decide) ⟨fun _ => hQ, fun c => absurd rfl c⟩⟩
  · intro Q k S hQ
    show w16_l7 C Q (k + 1) _ _ S
    unfold w16_l7
    exact ⟨fun _ => hQ, fun c => absurd (show (160 : Int32) ≤ nI 160 by decide) c⟩
  · intro Q k j S i w hj hS h0 h1
    show w16_l7 C Q (k + 1) _ _ S
    unfold w16_l7
    refine ⟨fun c => absurd c (i160 hj), fun _ => w13_ok hn hS (fun e => ⟨fun c => absurd c (by decide), fun _ => ?_⟩) (fun e => ⟨fun _ => h0 (if_neg e), fun c => absurd rfl c⟩)⟩
    rw [nI_1]
    exact h1 _ (if_pos e)
theorem w17_CR (hn : n ≤ 160) {C : Int32 → ri_H → (ri_H → Prop) → Prop} {a : Int32} {F : pF} (hC : CR f n m F (C a)) (hF : pgd n F) : CR f n m (pch f n Pand F) (w17 C a) := by
  refine ch_ok hn pP_and pP1_and hC hF (L := fun Q => w17_l7 C Q) ?_ ?_ ?_
  · intro Q k y S h hQ
    show w17_l7 C Q (k + 1) _ _ S
    unfold w17_l7
    exact ⟨fun _ => hQ, fun _ => w13_bad h (by decide) ⟨fun _ => hQ, fun c => absurd rfl c⟩⟩
  · intro Q k S hQ
    show w17_l7 C Q (k + 1) _ _ S
    unfold w17_l7
    exact ⟨fun _ => hQ, fun c => absurd (show (160 : Int32) ≤ nI 160 by decide) c⟩
  · intro Q k j S i w hj hS h0 h1
    show w17_l7 C Q (k + 1) _ _ S
    unfold w17_l7
    refine ⟨fun c => absurd c (i160 hj), fun _ => w13_ok hn hS (fun e => ⟨fun c => absurd c (by decide), fun _ => ?_⟩) (fun e => ⟨fun _ => h0 (if_neg e), fun c => absurd rfl c⟩)⟩
    rw [nI_1]
    exact h1 _ (if_pos e)
theorem w20_CR (hn : n ≤ 160) {C : Int32 → ri_H → (ri_H → Prop) → Prop} {a : Int32} {F : pF} (hC : CR f n m F (C a)) (hF : pgd n F) : CR f n m (pch f n Pterm F) (w20 C a) := by
  refine ch_ok hn pP_term pP1_term hC hF (L := fun Q => w20_l7 C Q) ?_ ?_ ?_
  · intro Q k y S h hQ
    show w20_l7 C Q (k + 1) _ _ S
    unfold w20_l7
    exact ⟨fun _ => hQ, fun _ => w13_bad h (by decide) ⟨fun _ => hQ, fun c => absurd rfl c⟩⟩
  · intro Q k S hQ
    show w20_l7 C Q (k + 1) _ _ S
    unfold w20_l7
    exact ⟨fun _ => hQ, fun c => absurd (show (160 : Int32) ≤ nI 160 by decide) c⟩
  · intro Q k j S i w hj hS h0 h1
    show w20_l7 C Q (k + 1) _ _ S
    unfold w20_l7
    refine ⟨fun c => absurd c (i160 hj), fun _ => w13_ok hn hS (fun e => ⟨fun c => absurd c (by decide), fun _ => ?_⟩) (fun e => ⟨fun _ => h0 (if_neg e), fun c => absurd rfl c⟩)⟩
    rw [nI_1]
    exact h1 _ (if_pos e)
theorem w19_CR (hn : n ≤ 160) {C : Int32 → ri_H → (ri_H → Prop) → Prop} {a : Int32} {F : pF} (hC : CR f n m F (C a)) (hF : pgd n F) : CR f n m (pch f n Psum F) (w19 C a) := by
  refine ch_ok hn pP_sum pP1_sum hC hF (L := fun Q => w19_l7 C Q) ?_ ?_ ?_
  · intro Q k y S h hQ
    show w19_l7 C Q (k + 1) _ _ S
    unfold w19_l7
    exact ⟨fun _ => hQ, fun _ => w12_bad h ⟨fun c => absurd c (by decide), fun _ => w12_bad h ⟨fun _ => hQ, fun c => absurd (by decide) c⟩⟩⟩
  · intro Q k S hQ
    show w19_l7 C Q (k + 1) _ _ S
    unfold w19_l7
    exact ⟨fun _ => hQ, fun c => absurd (show (160 : Int32) ≤ nI 160 by decide) c⟩
  · intro Q k j S i w hj hS h0 h1
    show w19_l7 C Q (k + 1) _ _ S
    unfold w19_l7 w19_b32 w19_b48
    rw [nI_1]
    unfold Psum at h0 h1
    have e56 : S.1 5 6 + 1 = nI (i + 1) := by rw [hS.2.2.1, nI_1]
    refine ⟨fun c => absurd c (i160 hj), fun _ => w12_ok hn hS ⟨fun c => w12_ok hn hS ⟨fun c2 => absurd c c2, fun _ => by rw [e56]; exact h1 _ (if_pos c)⟩, fun c => w12_ok hn hS ⟨fun c2 => h0 ?_, fun c2 => w12_ok hn hS ⟨fun _ => by rw [e56]; refine h1 _ ?_; rw [if_neg c, if_pos (Decidable.not_not.mp c2)], fun c3 => absurd c c3⟩⟩⟩⟩
    rw [if_neg c, if_neg c2]
theorem w16_CB {C : Int32 → ri_H → (ri_H → Prop) → Prop} {a : Int32} (hC : CB (C a)) : CB (w16 C a) := by
  refine ch_bad hC (L := fun Q => w16_l7 C Q) ?_
  intro Q k y S h hQ
  show w16_l7 C Q (k + 1) _ _ S
  unfold w16_l7
  exact ⟨fun _ => hQ, fun _ => w13_bad h (by decide) ⟨fun _ => hQ, fun c => absurd rfl c⟩⟩
theorem w17_CB {C : Int32 → ri_H → (ri_H → Prop) → Prop} {a : Int32} (hC : CB (C a)) : CB (w17 C a) := by
  refine ch_bad hC (L := fun Q => w17_l7 C Q) ?_
  intro Q k y S h hQ
  show w17_l7 C Q (k + 1) _ _ S
  unfold w17_l7
  exact ⟨fun _ => hQ, fun _ => w13_bad h (by decide) ⟨fun _ => hQ, fun c => absurd rfl c⟩⟩
theorem w20_CB {C : Int32 → ri_H → (ri_H → Prop) → Prop} {a : Int32} (hC : CB (C a)) : CB (w20 C a) := by
  refine ch_bad hC (L := fun Q => w20_l7 C Q) ?_
  intro Q k y S h hQ
  show w20_l7 C Q (k + 1) _ _ S
  unfold w20_l7
  exact ⟨fun _ => hQ, fun _ => w13_bad h (by decide) ⟨fun _ => hQ, fun c => absurd rfl c⟩⟩
theorem w19_CB {C : Int32 → ri_H → (ri_H → Prop) → Prop} {a : Int32} (hC : CB (C a)) : CB (w19 C a) := by
  refine ch_bad hC (L := fun Q => w19_l7 C Q) ?_
  intro Q k y S h hQ
  show w19_l7 C Q (k + 1) _ _ S
  unfold w19_l7
  exact ⟨fun _ => hQ, fun _ => w12_bad h ⟨fun c => absurd c (by decide), fun _ => w12_bad h ⟨fun _ => hQ, fun c => absurd (by decide) c⟩⟩⟩
theorem w18_CB {C18 C19 : Int32 → ri_H → (ri_H → Prop) → Prop} {a : Int32} (hC : CB (C19 a)) : CB (w18 C18 C19 a) := by
  intro S Q h hQ
  unfold w18 w18_b41 w18_b62
  refine w12_bad h ⟨fun _ => hC S _ h (w12_bad h ⟨fun _ => ?_, fun c => absurd (by decide) c⟩), fun c => absurd (by decide) c⟩
  exact w13_bad h (by decide) ⟨fun c => absurd rfl c, fun _ => w13_bad h (by decide) ⟨fun _ => hQ, fun c => absurd rfl c⟩⟩
theorem w18_b41_ok (hn : n ≤ 160) {C18 C19 : Int32 → ri_H → (ri_H → Prop) → Prop} {a : Int32} {F : pF} {S : ri_H} {i w : Nat} {Q : ri_H → Prop} (hF : CR f n m F (C19 a)) (gF : pgd n F) (hS : cS f n m S i w) (hQ : CRp f n m (pbd (F (hs f n i)) (fun c h2 =>
    if pso f n h2 = 60 then pbd (F (pen f n h2)) (fun d h3 => .inr (c ++ d ++ [-11], h3))
    else if pso f n h2 = 61 then pbd (F (pen f n h2)) (fun d h3 => .inr (c ++ d ++ [-12], h3))
    else .inr (c, h2))) S i w Q) : w18_b41 C18 C19 Q a S := by
  unfold w18_b41
  have hw := hS.2.2.2.2.2
  refine cM_call hF gF (cM_0 hS) (fun x S' w' e hf => ?_) (fun d S' i' e hm => ?_)
  · have bad := cFl_bad hf hn
    refine w12_bad bad ⟨fun _ => ?_, fun c => absurd (by decide) c⟩
    unfold w18_b62
    refine w13_bad bad (by decide) ⟨fun c => absurd rfl c, fun _ => w13_bad bad (by decide) ⟨fun _ => hQ.1 x S' w' ?_ hf, fun c => absurd rfl c⟩⟩
    rw [e]
    rfl
  · rw [e] at hQ
    have hQ : CRp f n m (if pso f n (hs f n i') = 60 then pbd (F (pen f n (hs f n i'))) (fun d2 h3 => .inr (d ++ d2 ++ [-11], h3)) else if pso f n (hs f n i') = 61 then pbd (F (pen f n (hs f n i'))) (fun d2 h3 => .inr (d ++ d2 ++ [-12], h3)) else .inr (d, hs f n i')) S i w Q := hQ
    have more : ∀ s : Int32, pso f n (hs f n i') ≠ 0 → pso f n (hs f n i') ≠ 1 → CRp f n m (pbd (F (pen f n (hs f n i'))) (fun d2 h3 => .inr (d ++ d2 ++ [s], h3))) S i w Q → w18_b81 C18 C19 Q a s (ri_wi S' 5 6 (nI (i' + 1))) := by
      intro s p0 p1 hQ
      unfold w18_b81
      have hm1 := cM_nx hm p0 p1
      refine cM_call hF gF hm1 (fun x S2 w2 e2 hf => cFl_wr' hf hw (fun S3 w3 hf2 => hQ.1 x S3 w3 ?_ hf2)) (fun d2 S2 i2 e2 hm2 => cM_wr' hm2 hw (fun S3 hm3 => hQ.2 _ S3 i2 ?_ hm3))
      · have e3 : F (pen f n (hs f n i')) = .inl x := e2
        rw [e3]
        rfl
      · have e3 : F (pen f n (hs f n i')) = .inr (d2, hs f n i2) := e2
        rw [e3]
        rfl
    refine w12_ok hn hm.2.1 ⟨fun c => ?_, fun c => ?_⟩
    · rw [if_neg c] at hQ
      unfold w18_b62
      refine w13_ok hn hm.2.1 (fun c2 => absurd c2 c) (fun _ => ⟨fun c => absurd rfl c, fun _ => w13_ok hn hm.2.1 (fun c2 => ⟨fun c => absurd c (by decide), fun _ => ?_⟩) (fun c2 => ⟨fun _ => ?_, fun c => absurd rfl c⟩)⟩)
      · rw [if_pos c2] at hQ
        exact more _ (by rw [c2]; decide) (by rw [c2]; decide) hQ
      · rw [if_neg c2] at hQ
        exact hQ.2 d S' i' rfl hm
    · have c := Decidable.not_not.mp c
      rw [if_pos c] at hQ
      unfold w18_b62
      refine w13_ok hn hm.2.1 (fun c2 => ⟨fun _ => more _ (by rw [c2]; decide) (by rw [c2]; decide) hQ, fun c => absurd (by decide) c⟩) (fun c2 => absurd c c2)
theorem w18_CR (hn : n ≤ 160) {C18 C19 : Int32 → ri_H → (ri_H → Prop) → Prop} {a : Int32} {b : Bool} {N F : pF} (hb : b = true → ¬ (5 : Int32) ≤ a) (hb0 : b = false → (5 : Int32) ≤ a) (hN : b = true → CR f n m N (C18 (a + 1))) (gN : pgd n N) (hF : CR f n m F (C19 a)) (gF : pgd n F) (hF8 : ∀ h, pso f n h = 8 → F h = .inl (ppl f n h)) : CR f n m (pno f n b N F) (w18 C18 C19 a) := by
  intro S i w Q hS hQ
  unfold pno at hQ
  unfold w18
  have hw := hS.2.2.2.2.2
  refine w12_ok hn hS ⟨fun c8 => ?_, fun c8 => ?_⟩
  · rw [if_neg c8] at hQ
    exact w18_b41_ok hn hF gF hS hQ
  · have c8 := Decidable.not_not.mp c8
    rw [if_pos c8] at hQ
    refine ⟨fun c => ?_, fun c => ?_⟩
    · rw [if_neg (fun e => hb e c)] at hQ
      refine w18_b41_ok hn hF gF hS ?_
      rw [hF8 _ c8]
      exact hQ
    · have eb : b = true := by
        cases b with
        | true => rfl
        | false => exact absurd (hb0 rfl) c
      rw [if_pos eb] at hQ
      have hm := cM_nx (cM_0 hS) (by rw [c8]; decide) (by rw [c8]; decide)
      rw [hS.2.2.1, nI_1]
      refine cM_call (hN eb) gN hm (fun x S' w' e hf => cFl_wr' hf hw (fun S2 w2 hf2 => hQ.1 x S2 w2 ?_ hf2)) (fun d S' i' e hm2 => cM_wr' hm2 hw (fun S2 hm3 => hQ.2 _ S2 i' ?_ hm3))
      · have e3 : N (pen f n (hs f n i)) = .inl x := e
        rw [e3]
        rfl
      · have e3 : N (pen f n (hs f n i)) = .inr (d, hs f n i') := e
        rw [e3]
        rfl
theorem wrt_nx (S : ri_H) (w : Nat) (a v : Int32) : ri_wi (wrt S w a) 5 6 v = wrt (ri_wi S 5 6 v) w a := by
  refine Prod.ext (funext fun c => ?_) rfl
  by_cases c5 : c = 5
  · subst c5
    rw [ri_wi_1, wrt_5, wrt_5, ri_wi_1]
  · rw [ri_wi_o _ _ _ c5]
    by_cases c1 : c = 1
    · subst c1
      rw [wrt_1, wrt_1, ri_wi_o _ _ _ (by decide)]
    · by_cases c2 : c = 2
      · subst c2
        rw [wrt_2, wrt_2, ri_wi_o _ _ _ (by decide)]
      · unfold wrt
        rw [ri_wi_o _ _ _ c1, ri_wr_o _ _ c2, ri_wi_o _ _ _ c1, ri_wr_o _ _ c2, ri_wi_o _ _ _ c5]
/-- a step is written, then a token on -/
theorem cM_wn {S0 S : ri_H} {i0 w sl i : Nat} {c : List Int32} {a : Int32} {Q : ri_H → Prop} (h : cM f n m S0 i0 w sl c S i) (p0 : pso f n (hs f n i) ≠ 0) (p1 : pso f n (hs f n i) ≠ 1) (hw : w + (n - hs f n i0) ≤ 960) (hQ : ∀ S', cM f n m S0 i0 w sl (c ++ [a]) S' (i + 1) → Q S') : w28 a S (fun S4 => Q (ri_wi S4 5 6 (S4.1 5 6 + 1))) := by
  obtain ⟨k1, k2⟩ := cM_wr (a := a) (cM_nx h p0 p1) hw
  refine w28_ok h.2.1.2.2.2.2.1 k1 ?_
  rw [wrt_nx, wrt_5, h.2.1.2.2.1, nI_1]
  exact hQ _ k2
theorem w21_CB {C214 : Int32 → Int32 → ri_H → (ri_H → Prop) → Prop} {a : Int32} : CB (w21 C214 a) := by
  intro S Q h hQ
  unfold w21 w21_b43 w21_b117
  refine w12_bad h ⟨fun c => absurd c (by decide), fun _ => ⟨fun _ => ⟨fun _ => ⟨fun _ => w15_bad h hQ, fun c => absurd (by decide) c⟩, fun c => absurd (by decide) c⟩, fun c => absurd (by decide) c⟩⟩
theorem w21_CR (hn : n ≤ 160) {C16 C21 : Int32 → ri_H → (ri_H → Prop) → Prop} {a : Int32} {b : Bool} {O N : pF} (hb : b = true → ¬ (5 : Int32) ≤ a) (hb0 : b = false → (5 : Int32) ≤ a) (hO : b = true → CR f n m O (C16 (a + 1))) (gO : pgd n O) (hN : b = true → CR f n m N (C21 (a + 1))) (gN : pgd n N) : CR f n m (pon f n b O N) (w21 (w214 C16 C21) a) := by
  intro S i w Q hS hQ
  unfold pon at hQ
  unfold w21
  have hw := hS.2.2.2.2.2
  have hm0 := cM_0 hS
  have fail0 : CRp f n m (.inl (ppl f n (hs f n i))) S i w Q → w21_b117 (w214 C16 C21) Q S := by
    intro hQ
    unfold w21_b117
    exact w15_at hn hm0 (fun S2 w2 hf => hQ.1 _ S2 w2 rfl hf)
  have open5 : ∀ x2 : Int32, x2 ≠ 2 → ¬ x2 < 10 → (15 : Int32) < x2 → (b = false → CRp f n m (.inl (ppl f n (hs f n i))) S i w Q) → (b = true → w214 C16 C21 x2 (a + 1) (ri_wi S 5 6 (nI (i + 1))) Q) → w21_b17 (w214 C16 C21) Q a x2 S := by
    intro x2 n2 n10 n15 h0 h1
    unfold w21_b17
    rw [hS.2.2.1, nI_1]
    refine ⟨fun c => ?_, fun c => h1 ?_⟩
    · unfold w21_b43
      refine ⟨fun _ => ⟨fun c10 => absurd c10 n10, fun _ => ⟨fun _ => fail0 (h0 ?_), fun c15 => absurd n15 c15⟩⟩, fun c2 => absurd n2 c2⟩
      cases b with
      | true => exact absurd c (hb rfl)
      | false => rfl
    · cases b with
      | true => rfl
      | false => exact absurd (hb0 rfl) c
  refine w12_ok hn hS ⟨fun c40 => ?_, fun c40 => ⟨fun c45 => ?_, fun c45 => ?_⟩⟩
  · rw [if_pos c40] at hQ
    have hm := cM_nx hm0 (by rw [c40]; decide) (by rw [c40]; decide)
    refine open5 _ (by rw [c40]; decide) (by rw [c40]; decide) (by rw [c40]; decide) (fun eb => ?_) (fun eb => ?_)
    · rw [if_neg (by rw [eb]; decide)] at hQ
      exact hQ
    · rw [if_pos eb] at hQ
      unfold w214
      refine ⟨fun c => absurd c40 c, fun _ => ?_⟩
      refine cM_call (hO eb) gO hm (fun x S' w' e hf => w14_bad (cFl_bad hf hn) (by decide) (hQ.1 x S' w' ?_ (cFl_0' hf))) (fun d S' i' e hm2 => ?_)
      · have e3 : O (pen f n (hs f n i)) = .inl x := e
        rw [e3]
        rfl
      · have e3 : O (pen f n (hs f n i)) = .inr (d, hs f n i') := e
        rw [e3] at hQ
        have hQ : CRp f n m (if pso f n (hs f n i') = 41 then .inr (d, pen f n (hs f n i')) else .inl (ppl f n (hs f n i'))) S i w Q := hQ
        refine w14_ok hn hm2 (by decide) (fun e2 S2 _ h2 => ?_) (fun e2 S2 w2 hf => ?_)
        · rw [if_pos e2] at hQ
          exact hQ.2 _ S2 (i' + 1) rfl (cM_0' (h2 (by decide)))
        · rw [if_neg e2] at hQ
          exact hQ.1 _ S2 w2 rfl (cFl_0' hf)
  · rw [if_neg c40, if_neg c45] at hQ
    unfold w21_b43
    by_cases c2 : pso f n (hs f n i) = 2
    · rw [if_pos c2] at hQ
      refine ⟨fun c => absurd c2 c, fun _ => ?_⟩
      rw [hS.2.2.1, it_nI _ (show i < 161 by have h1 := hS.1.1; have h2 := hS.2.1; omega) (by decide), (hS.1.2.1 i hS.2.1).2.1 c2]
      exact cM_wn hm0 (by rw [c2]; decide) (by rw [c2]; decide) hw (fun S2 hm2 => hQ.2 _ S2 (i + 1) rfl hm2)
    · rw [if_neg c2] at hQ
      refine ⟨fun _ => ⟨fun c10 => ?_, fun c10 => ⟨fun c15 => ?_, fun c15 => ?_⟩⟩, fun c => absurd c2 c⟩
      · rw [if_neg (fun h => absurd c10 (Int32.not_lt.mpr h.1))] at hQ
        exact fail0 hQ
      · rw [if_neg (fun h => absurd c15 (Int32.not_lt.mpr h.2))] at hQ
        exact fail0 hQ
      · have cn : 10 ≤ pso f n (hs f n i) ∧ pso f n (hs f n i) ≤ 15 := ⟨Int32.not_lt.mp c10, Int32.not_lt.mp c15⟩
        rw [if_pos cn] at hQ
        exact cM_wn hm0 (fun e0 => by rw [e0] at cn; exact absurd cn.1 (by decide)) (fun e0 => by rw [e0] at cn; exact absurd cn.1 (by decide)) hw (fun S2 hm2 => hQ.2 _ S2 (i + 1) rfl hm2)
  · have c45 := Decidable.not_not.mp c45
    rw [if_neg c40, if_pos c45] at hQ
    have hm := cM_nx hm0 (by rw [c45]; decide) (by rw [c45]; decide)
    refine open5 _ (by rw [c45]; decide) (by rw [c45]; decide) (by rw [c45]; decide) (fun eb => ?_) (fun eb => ?_)
    · rw [if_neg (by rw [eb]; decide)] at hQ
      exact hQ
    · rw [if_pos eb] at hQ
      unfold w214
      refine ⟨fun _ => ?_, fun c => absurd c40 c⟩
      refine cM_call (hN eb) gN hm (fun x S' w' e hf => cFl_wr' hf hw (fun S2 w2 hf2 => hQ.1 x S2 w2 ?_ hf2)) (fun d S' i' e hm2 => cM_wr' hm2 hw (fun S2 hm3 => hQ.2 _ S2 i' ?_ hm3))
      · have e3 : N (pen f n (hs f n i)) = .inl x := e
        rw [e3]
        rfl
      · have e3 : N (pen f n (hs f n i)) = .inr (d, hs f n i') := e
        rw [e3]
        rfl
theorem pon_8 {b : Bool} {O N : pF} {h : Nat} (e : pso f n h = 8) : pon f n b O N h = .inl (ppl f n h) := by
  unfold pon
  rw [e, if_neg (by decide), if_neg (by decide), if_neg (by decide), if_neg (by decide)]
theorem pch_inl {P : Int32 → Option Int32} {F : pF} {h x : Nat} (e : F h = .inl x) : pch f n P F h = .inl x := by
  unfold pch
  rw [e]
  rfl
/-- all levels -/
theorem gl_CB : ∀ k a, CB ((gl (k + 1)).1 a) := fun k a => w16_CB (w17_CB (w18_CB (w19_CB (w20_CB w21_CB))))
theorem gl_up (hn : n ≤ 160) {G : ct × ct × ct} {P : pF × pF × pF} {a : Int32} {b : Bool} (hb : b = true → ¬ (5 : Int32) ≤ a) (hb0 : b = false → (5 : Int32) ≤ a) (h1 : b = true → CR f n m P.1 (G.1 (a + 1))) (g1 : pgd n P.1) (h2 : b = true → CR f n m P.2.1 (G.2.1 (a + 1))) (g2 : pgd n P.2.1) (h3 : b = true → CR f n m P.2.2 (G.2.2 (a + 1))) (g3 : pgd n P.2.2) : CR f n m (pup f n b P).1 ((grpUp G).1 a) ∧ CR f n m (pup f n b P).2.1 ((grpUp G).2.1 a) ∧ CR f n m (pup f n b P).2.2 ((grpUp G).2.2 a) := by
  have k1 := w21_CR hn hb hb0 h1 g1 h3 g3
  have gg := pup_gd (f := f) (b := b) g1 g2 g3
  have q1 : pgd n (pon f n b P.1 P.2.2) := gg.2.2
  have k2 := w20_CR hn k1 q1
  have q2 := pch_gd (f := f) pP_term q1
  have k3 := w19_CR hn k2 q2
  have q3 := pch_gd (f := f) pP_sum q2
  have k4 := w18_CR hn hb hb0 h2 g2 k3 q3 (fun h e => pch_inl (pch_inl (pon_8 e)))
  have q4 : pgd n (pno f n b P.2.1 (pch f n Psum (pch f n Pterm (pon f n b P.1 P.2.2)))) := gg.2.1
  have k5 := w17_CR hn k4 q4
  have q5 := pch_gd (f := f) pP_and q4
  exact ⟨w16_CR hn k5 q5, k4, k1⟩
theorem gl_CR (hn : n ≤ 160) : ∀ k, k ≤ 5 → CR f n m (pgl f n (k + 1)).1 ((gl (k + 1)).1 (nI (5 - k))) ∧ CR f n m (pgl f n (k + 1)).2.1 ((gl (k + 1)).2.1 (nI (5 - k))) ∧ CR f n m (pgl f n (k + 1)).2.2 ((gl (k + 1)).2.2 (nI (5 - k)))
  | 0, _ => gl_up hn (b := false) (fun e => by cases e) (fun _ => by decide) (fun e => by cases e) pgd_no (fun e => by cases e) pgd_no (fun e => by cases e) pgd_no
  | k + 1, hk => by
    obtain ⟨h1, h2, h3⟩ := gl_CR hn k (by omega)
    have e : nI (5 - (k + 1)) + 1 = nI (5 - k) := by
      rw [nI_1]
      congr 1
      omega
    have g := pgl_gd (f := f) (n := n) (k + 1)
    exact gl_up hn (b := true) (fun _ => nI_ge (b := 5) (by omega) (by decide)) (fun e => by cases e) (fun _ => by rw [e]; exact h1) g.1 (fun _ => by rw [e]; exact h2) g.2.1 (fun _ => by rw [e]; exact h3) g.2.2
theorem gl6_CR (hn : n ≤ 160) : CR f n m (pgl f n 6).1 ((gl 6).1 0) := (gl_CR hn 5 (Nat.le_refl _)).1
end CH
