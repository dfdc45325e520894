/-! the model reads -/
theorem mnm_am {S S' : ri_H} (h : am [] PF S S') : mnm S' = mnm S := by
  unfold mnm
  rw [(h.2 17 (by decide)).1, (h.2 16 (by decide)).1, (h.2 15 (by decide)).1, (h.2 14 (by decide)).1, (h.2 13 (by decide)).1, (h.2 12 (by decide)).1]
theorem mnm_j {S : ri_H} : ∀ j, j < 6 → mnm S j = S.1 50 (12 + j)
  | 0, _ => rfl
  | 1, _ => rfl
  | 2, _ => rfl
  | 3, _ => rfl
  | 4, _ => rfl
  | 5, _ => rfl
  | j + 6, h => absurd h (by omega)
def MRp (f : Nat → Int32) (n fr : Nat) (r : pR) (S0 : ri_H) (o : Nat) (Q : Int32 → ri_H → Prop) : Prop := (∀ x v S', r = .inl x → mFl S0 x S' → Q v S') ∧ ∀ c h2 S', r = .inr (c, h2) → mM f n fr S0 S' h2 o → Q (vl (mnm S0) c) S'
def MR (f : Nat → Int32) (n fr o : Nat) (F : pF) (C : ri_H → (Int32 → ri_H → Prop) → Prop) : Prop := ∀ S h Q, mS f n fr S h o → MRp f n fr (F h) S o Q → C S Q
def MBd (C : ri_H → (Int32 → ri_H → Prop) → Prop) : Prop := ∀ S Q, ¬ S.1 50 25 = 0 → (∀ v, Q v S) → C S Q
section MREAD
variable {f : Nat → Int32} {n fr o h : Nat} {S0 S : ri_H} {Q : Int32 → ri_H → Prop}
theorem mM_0 (hm : mS f n fr S h o) : mM f n fr S S h o := ⟨am_refl _ _ _, hm⟩
theorem mM_call {F : pF} {C : ri_H → (Int32 → ri_H → Prop) → Prop} (hC : MR f n fr o F C) (hm : mM f n fr S0 S h o) (h1 : ∀ x v S', F h = .inl x → mFl S0 x S' → Q v S') (h2 : ∀ c h2 S', F h = .inr (c, h2) → mM f n fr S0 S' h2 o → Q (vl (mnm S0) c) S') : C S Q := by
  refine hC S h Q hm.2 ⟨fun x v S' e hf => h1 x v S' e ⟨am_tr hm.1 hf.1, hf.2⟩, fun c h3 S' e hm' => ?_⟩
  rw [mnm_am hm.1]
  exact h2 c h3 S' e ⟨am_tr hm.1 hm'.1, hm'.2⟩
/-- a loop of a chain -/
def mLb (L : (Int32 → ri_H → Prop) → Nat → Int32 → ri_H → Prop) : Prop := ∀ Q k v S, ¬ S.1 50 25 = 0 → Q v S → L Q (k + 1) v S
def mLs (f : Nat → Int32) (n fr o : Nat) (P : Int32 → Option Int32) (C : ri_H → (Int32 → ri_H → Prop) → Prop) (L : (Int32 → ri_H → Prop) → Nat → Int32 → ri_H → Prop) : Prop := ∀ Q k v S h, mS f n fr S h o → (P (pso f n h) = none → Q v S) → (∀ s, P (pso f n h) = some s → w117 S (fun S5 => C S5 (fun r7 S6 => L Q k (jn s v r7) S6))) → L Q (k + 1) v S
theorem ml_loop {P : Int32 → Option Int32} {F : pF} {C : ri_H → (Int32 → ri_H → Prop) → Prop} {L : (Int32 → ri_H → Prop) → Nat → Int32 → ri_H → Prop} (hP : pP P) (hP1 : pP1 P) (hC : MR f n fr o F C) (hF : pgd n F) (hb : mLb L) (hs : mLs f n fr o P C L) : ∀ k h c S, n ≤ h + k → mM f n fr S0 S h o → cw c → MRp f n fr (plp f n P F k c h) S0 o Q → L Q (k + 1) (vl (mnm S0) c) S
  | 0, h, c, S, hk, hm, hc, hQ => by
    have hh := hm.2.2.1
    have e : h = n := by omega
    subst e
    refine hs Q 0 _ S h hm.2 (fun _ => hQ.2 c h S rfl hm) (fun s es => ?_)
    rw [pso_n] at es
    exact absurd rfl (hP _ _ es).1
  | k + 1, h, c, S, hk, hm, hc, hQ => by
    have hh := hm.2.2.1
    unfold plp at hQ
    refine hs Q (k + 1) _ S h hm.2 (fun e => ?_) (fun s e => ?_)
    · rw [e] at hQ
      exact hQ.2 c h S rfl hm
    · rw [e] at hQ
      have hQ : MRp f n fr (pbd (F (pen f n h)) (fun d h2 => plp f n P F k (c ++ d ++ [s]) h2)) S0 o Q := hQ
      have p0 := (hP _ _ e).1
      have p1 := hP1 _ _ e
      refine nx_ok hm p0 p1 (fun S5 hm5 => mM_call hC hm5 (fun x v S' e2 hf => ?_) (fun d h2 S' e2 hm2 => ?_))
      · refine hb Q k _ S' (mFl_bad hf) (hQ.1 x _ S' ?_ hf)
        rw [e2]
        rfl
      · obtain ⟨a1, a2, a3, a4⟩ := hF _ _ _ (pen_b hh).2 e2
        have hl := pen_lt hh p0
        have cb := cw_bin (hP _ _ e).2 hc a4
        rw [← cb.2]
        refine ml_loop hP hP1 hC hF hb hs k h2 (c ++ d ++ [s]) S' (by omega) hm2 cb.1 ?_
        rw [e2] at hQ
        exact hQ
theorem mch_ok {P : Int32 → Option Int32} {F : pF} {C : ri_H → (Int32 → ri_H → Prop) → Prop} {L : (Int32 → ri_H → Prop) → Nat → Int32 → ri_H → Prop} (hn : n ≤ 160) (hP : pP P) (hP1 : pP1 P) (hC : MR f n fr o F C) (hF : pgd n F) (hb : mLb L) (hs : mLs f n fr o P C L) : MR f n fr o (pch f n P F) (fun S Q => C S (fun r2 S1 => ∃ nn, L Q nn r2 S1)) := by
  intro S h Q hm hQ
  unfold pch at hQ
  refine mM_call hC (mM_0 hm) (fun x v S' e hf => ⟨1, hb Q 0 v S' (mFl_bad hf) (hQ.1 x v S' ?_ hf)⟩) (fun c h2 S' e hm2 => ⟨161, ?_⟩)
  · rw [e]
    rfl
  · rw [e] at hQ
    obtain ⟨a1, a2, a3, a4⟩ := hF _ _ _ hm.2.1 e
    exact ml_loop hP hP1 hC hF hb hs 160 h2 c S' (by omega) hm2 a4 hQ
theorem mch_bad {C : ri_H → (Int32 → ri_H → Prop) → Prop} {L : (Int32 → ri_H → Prop) → Nat → Int32 → ri_H → Prop} (hC : MBd C) (hb : mLb L) : MBd (fun S Q => C S (fun r2 S1 => ∃ nn, L Q nn r2 S1)) := by
  intro S Q h hQ
  exact hC S _ h (fun v => ⟨1, hb Q 0 v S h (hQ v)⟩)
theorem term_b {C : ri_H → (Int32 → ri_H → Prop) → Prop} : mLb (fun Q => wterm_l5 C Q) := by
  intro Q k v S h hQ
  show wterm_l5 C Q (k + 1) v S
  unfold wterm_l5
  exact w121_bad h ⟨fun _ => hQ, fun c => absurd rfl c⟩
theorem term_s {C : ri_H → (Int32 → ri_H → Prop) → Prop} : mLs f n fr o Pterm C (fun Q => wterm_l5 C Q) := by
  intro Q k v S h hm h0 h1
  show wterm_l5 C Q (k + 1) v S
  unfold wterm_l5
  exact w121_ok sg42 hm (fun e => ⟨fun c => absurd c (by decide), fun _ => h1 _ (if_pos e)⟩) (fun e => ⟨fun _ => h0 (if_neg e), fun c => absurd rfl c⟩)
theorem added_b {C : ri_H → (Int32 → ri_H → Prop) → Prop} : mLb (fun Q => wadded_l5 C Q) := by
  intro Q k v S h hQ
  show wadded_l5 C Q (k + 1) v S
  unfold wadded_l5
  exact w121_bad h ⟨fun c => absurd rfl c, fun _ => w121_bad h ⟨fun _ => hQ, fun c => absurd rfl c⟩⟩
theorem added_s {C : ri_H → (Int32 → ri_H → Prop) → Prop} : mLs f n fr o Psum C (fun Q => wadded_l5 C Q) := by
  intro Q k v S h hm h0 h1
  show wadded_l5 C Q (k + 1) v S
  unfold wadded_l5 wadded_b23 wadded_b39 wadded_b62
  unfold Psum at h0 h1
  have ev0 : (fun (r7 : Int32) (S6 : ri_H) => (((0 : Int32) = 0 → (fun x1 S => wadded_l5 C Q k x1 S) (v - r7) S6) ∧ (¬ ((0 : Int32) = 0) → (fun x1 S => wadded_l5 C Q k x1 S) (v + r7) S6))) = (fun r7 S6 => wadded_l5 C Q k (jn (-14) v r7) S6) := by
    funext r7 S6
    exact propext ⟨fun q => q.1 rfl, fun q => ⟨fun _ => q, fun c => absurd rfl c⟩⟩
  have ev1 : (fun (r7 : Int32) (S6 : ri_H) => (((1 : Int32) = 0 → (fun x1 S => wadded_l5 C Q k x1 S) (v - r7) S6) ∧ (¬ ((1 : Int32) = 0) → (fun x1 S => wadded_l5 C Q k x1 S) (v + r7) S6))) = (fun r7 S6 => wadded_l5 C Q k (jn (-13) v r7) S6) := by
    funext r7 S6
    exact propext ⟨fun q => q.2 (by decide), fun q => ⟨fun c => absurd c (by decide), fun _ => q⟩⟩
  rw [ev0, ev1]
  refine w121_ok sg43 hm (fun e => ⟨fun _ => ⟨fun c => absurd ((lg_cmp_eq _ _).mpr (mS_worth sg43 hm e)) c, fun _ => ?_⟩, fun c => absurd (by decide) c⟩) (fun e => ⟨fun c => absurd rfl c, fun _ => ?_⟩)
  · exact h1 _ (if_pos e)
  · refine w121_ok sg45 hm (fun e2 => ⟨fun c => absurd c (by decide), fun _ => ⟨fun _ => ?_, fun c => ?_⟩⟩) (fun e2 => ⟨fun _ => h0 ?_, fun c => absurd rfl c⟩)
    · refine h1 _ ?_
      rw [if_neg e, if_pos e2]
    · have w := mS_worth sg45 hm e2
      rw [w] at c
      exact absurd c (by decide)
    · rw [if_neg e, if_neg e2]
theorem both_b {C : ri_H → (Int32 → ri_H → Prop) → Prop} : mLb (fun Q => wboth_l5 C Q) := by
  intro Q k v S h hQ
  show wboth_l5 C Q (k + 1) v S
  unfold wboth_l5
  exact w120_bad h ⟨fun _ => hQ, fun c => absurd rfl c⟩
theorem jn10 (x y : Int32) : jn (-10) x y = if x = 0 then 0 else (if y = 0 then 0 else 1) := rfl
theorem jn9 (x y : Int32) : jn (-9) x y = if x = 0 then (if y = 0 then 0 else 1) else 1 := rfl
theorem both_s {C : ri_H → (Int32 → ri_H → Prop) → Prop} : mLs f n fr o Pand C (fun Q => wboth_l5 C Q) := by
  intro Q k v S h hm h0 h1
  show wboth_l5 C Q (k + 1) v S
  unfold wboth_l5 wboth_b44 wboth_b45
  refine is7 hm (fun e => ⟨fun c => absurd c (by decide), fun _ => ?_⟩) (fun e => ⟨fun _ => h0 (if_neg e), fun c => absurd rfl c⟩)
  have := h1 _ (if_pos e)
  have ev : (fun (r7 : Int32) (S6 : ri_H) => ((v = 0 → (fun x1 S => wboth_l5 C Q k x1 S) (0 : Int32) S6) ∧ (¬ (v = 0) → ((r7 = 0 → (fun x1 S => wboth_l5 C Q k x1 S) (0 : Int32) S6) ∧ (¬ (r7 = 0) → (fun x1 S => wboth_l5 C Q k x1 S) (1 : Int32) S6))))) = (fun r7 S6 => wboth_l5 C Q k (jn (-10) v r7) S6) := by
    funext r7 S6
    rw [jn10]
    by_cases c1 : v = 0
    · rw [if_pos c1]
      exact propext ⟨fun q => q.1 c1, fun q => ⟨fun _ => q, fun c => absurd c1 c⟩⟩
    · rw [if_neg c1]
      by_cases c2 : r7 = 0
      · rw [if_pos c2]
        exact propext ⟨fun q => (q.2 c1).1 c2, fun q => ⟨fun c => absurd c c1, fun _ => ⟨fun _ => q, fun c => absurd c2 c⟩⟩⟩
      · rw [if_neg c2]
        exact propext ⟨fun q => (q.2 c1).2 c2, fun q => ⟨fun c => absurd c c1, fun _ => ⟨fun c => absurd c c2, fun _ => q⟩⟩⟩
  rw [ev]
  exact this
theorem either_b {C : ri_H → (Int32 → ri_H → Prop) → Prop} : mLb (fun Q => weither_l5 C Q) := by
  intro Q k v S h hQ
  show weither_l5 C Q (k + 1) v S
  unfold weither_l5
  exact w120_bad h ⟨fun _ => hQ, fun c => absurd rfl c⟩
theorem either_s {C : ri_H → (Int32 → ri_H → Prop) → Prop} : mLs f n fr o Por C (fun Q => weither_l5 C Q) := by
  intro Q k v S h hm h0 h1
  show weither_l5 C Q (k + 1) v S
  unfold weither_l5 weither_b39 weither_b44
  refine is6 hm (fun e => ⟨fun c => absurd c (by decide), fun _ => ?_⟩) (fun e => ⟨fun _ => h0 (if_neg e), fun c => absurd rfl c⟩)
  have := h1 _ (if_pos e)
  have ev : (fun (r7 : Int32) (S6 : ri_H) => ((¬ v = 0 → (fun x1 S => weither_l5 C Q k x1 S) (1 : Int32) S6) ∧ (¬ (¬ v = 0) → ((r7 = 0 → (fun x1 S => weither_l5 C Q k x1 S) (0 : Int32) S6) ∧ (¬ (r7 = 0) → (fun x1 S => weither_l5 C Q k x1 S) (1 : Int32) S6))))) = (fun r7 S6 => weither_l5 C Q k (jn (-9) v r7) S6) := by
    funext r7 S6
    rw [jn9]
    by_cases c1 : v = 0
    · rw [if_pos c1]
      by_cases c2 : r7 = 0
      · rw [if_pos c2]
        exact propext ⟨fun q => (q.2 (fun c => c c1)).1 c2, fun q => ⟨fun c => absurd c1 c, fun _ => ⟨fun _ => q, fun c => absurd c2 c⟩⟩⟩
      · rw [if_neg c2]
        exact propext ⟨fun q => (q.2 (fun c => c c1)).2 c2, fun q => ⟨fun c => absurd c1 c, fun _ => ⟨fun c => absurd c c2, fun _ => q⟩⟩⟩
    · rw [if_neg c1]
      exact propext ⟨fun q => q.1 c1, fun q => ⟨fun _ => q, fun c => absurd c1 c⟩⟩
  rw [ev]
  exact this
theorem wterm_MR {F : pF} {C : ri_H → (Int32 → ri_H → Prop) → Prop} (hn : n ≤ 160) (hC : MR f n fr o F C) (hF : pgd n F) : MR f n fr o (pch f n Pterm F) (wterm C) := mch_ok hn pP_term pP1_term hC hF term_b term_s
theorem wadded_MR {F : pF} {C : ri_H → (Int32 → ri_H → Prop) → Prop} (hn : n ≤ 160) (hC : MR f n fr o F C) (hF : pgd n F) : MR f n fr o (pch f n Psum F) (wadded C) := mch_ok hn pP_sum pP1_sum hC hF added_b added_s
theorem wboth_MR {F : pF} {C : ri_H → (Int32 → ri_H → Prop) → Prop} (hn : n ≤ 160) (hC : MR f n fr o F C) (hF : pgd n F) : MR f n fr o (pch f n Pand F) (wboth C) := mch_ok hn pP_and pP1_and hC hF both_b both_s
theorem weither_MR {F : pF} {C : ri_H → (Int32 → ri_H → Prop) → Prop} (hn : n ≤ 160) (hC : MR f n fr o F C) (hF : pgd n F) : MR f n fr o (pch f n Por F) (weither C) := mch_ok hn pP_or pP1_or hC hF either_b either_s
theorem wterm_B {C : ri_H → (Int32 → ri_H → Prop) → Prop} (hC : MBd C) : MBd (wterm C) := mch_bad hC term_b
theorem wadded_B {C : ri_H → (Int32 → ri_H → Prop) → Prop} (hC : MBd C) : MBd (wadded C) := mch_bad hC added_b
theorem wboth_B {C : ri_H → (Int32 → ri_H → Prop) → Prop} (hC : MBd C) : MBd (wboth C) := mch_bad hC both_b
theorem weither_B {C : ri_H → (Int32 → ri_H → Prop) → Prop} (hC : MBd C) : MBd (weither C) := mch_bad hC either_b
/-! a comparison -/
def cmpK (CD : ri_H → (Int32 → ri_H → Prop) → Prop) (Q : Int32 → ri_H → Prop) (x1 s0 : Int32) (S : ri_H) : Prop := w117 S (fun (S7 : ri_H) => CD S7 (fun (r9 : Int32) (S8 : ri_H) => ((s0 = 0 → ((¬ x1 = r9 → Q (0 : Int32) S8) ∧ (¬ (¬ x1 = r9) → Q (1 : Int32) S8))) ∧ (¬ (s0 = 0) → ((r9 ≤ x1 → Q (0 : Int32) S8) ∧ (¬ (r9 ≤ x1) → Q (1 : Int32) S8))))))
def cmpB (CD : ri_H → (Int32 → ri_H → Prop) → Prop) (Q : Int32 → ri_H → Prop) (x1 : Int32) (S : ri_H) : Prop := ((¬ (lg_cmp (S.2 50 23) (60 : Int64)) = 0 → cmpK CD Q x1 (0 : Int32) S) ∧ (¬ (¬ (lg_cmp (S.2 50 23) (60 : Int64)) = 0) → cmpK CD Q x1 (1 : Int32) S))
def cmpA (CD : ri_H → (Int32 → ri_H → Prop) → Prop) (Q : Int32 → ri_H → Prop) (S : ri_H) : Prop := CD S (fun (r4 : Int32) (S3 : ri_H) => w121 (60 : Int32) S3 (fun (r6 : Int32) (S5 : ri_H) => ((¬ r6 = 0 → cmpB CD Q r4 S5) ∧ (¬ (¬ r6 = 0) → w121 (61 : Int32) S5 (fun (r11 : Int32) (S10 : ri_H) => ((¬ r11 = 0 → cmpB CD Q r4 S10) ∧ (¬ (¬ r11 = 0) → Q r4 S10)))))))
theorem jn11 (x y : Int32) : jn (-11) x y = if x < y then 1 else 0 := rfl
theorem jn12 (x y : Int32) : jn (-12) x y = if x = y then 1 else 0 := rfl
theorem cmpA_ok {F : pF} {CD : ri_H → (Int32 → ri_H → Prop) → Prop} (hC : MR f n fr o F CD) (hF : pgd n F) (hm : mM f n fr S0 S h o) (hQ : MRp f n fr (pbd (F h) (fun c h2 =>
    if pso f n h2 = 60 then pbd (F (pen f n h2)) (fun d h3 => .inr (c ++ d ++ [-11], h3))
    else if pso f n h2 = 61 then pbd (F (pen f n h2)) (fun d h3 => .inr (c ++ d ++ [-12], h3))
    else .inr (c, h2))) S0 o Q) : cmpA CD Q S := by
  unfold cmpA
  refine mM_call hC hm (fun x v S' e hf => ?_) (fun c h2 S' e hm2 => ?_)
  · have bad := mFl_bad hf
    refine w121_bad bad ⟨fun c => absurd rfl c, fun _ => w121_bad bad ⟨fun c => absurd rfl c, fun _ => hQ.1 x v S' ?_ hf⟩⟩
    rw [e]
    rfl
  · rw [e] at hQ
    have hQ : MRp f n fr (if pso f n h2 = 60 then pbd (F (pen f n h2)) (fun d h3 => .inr (c ++ d ++ [-11], h3)) else if pso f n h2 = 61 then pbd (F (pen f n h2)) (fun d h3 => .inr (c ++ d ++ [-12], h3)) else .inr (c, h2)) S0 o Q := hQ
    obtain ⟨a1, a2, a3, a4⟩ := hF _ _ _ hm.2.2.1 e
    refine w121_ok sg60 hm2.2 (fun e60 => ⟨fun _ => ?_, fun c => absurd (by decide) c⟩) (fun e60 => ⟨fun c => absurd rfl c, fun _ => ?_⟩)
    · rw [if_pos e60] at hQ
      unfold cmpB cmpK
      rw [lg_cmp_eq]
      refine ⟨fun c => absurd (mS_worth sg60 hm2.2 e60) c, fun _ => nx_ok hm2 (by rw [e60]; decide) (by rw [e60]; decide) (fun S7 hm7 => mM_call hC hm7 (fun x v S' e2 hf => ?_) (fun d h3 S' e2 hm3 => ⟨fun c => absurd c (by decide), fun _ => ?_⟩))⟩
      · have k := fun v => hQ.1 x v S' (by rw [e2]; rfl) hf
        exact ⟨fun _ => ⟨fun _ => k _, fun _ => k _⟩, fun _ => ⟨fun _ => k _, fun _ => k _⟩⟩
      · obtain ⟨b1, b2, b3, b4⟩ := hF _ _ _ (pen_b hm2.2.2.1).2 e2
        have k := hQ.2 (c ++ d ++ [-11]) h3 S' (by rw [e2]; rfl) hm3
        rw [(cw_bin (s := -11) (by decide) a4 b4).2, jn11] at k
        refine ⟨fun q => ?_, fun q => ?_⟩
        · rw [if_neg (Int32.not_lt.mpr q)] at k
          exact k
        · rw [if_pos (Int32.not_le.mp q)] at k
          exact k
    · rw [if_neg e60] at hQ
      refine w121_ok sg61 hm2.2 (fun e61 => ⟨fun _ => ?_, fun c => absurd (by decide) c⟩) (fun e61 => ⟨fun c => absurd rfl c, fun _ => ?_⟩)
      · rw [if_pos e61] at hQ
        unfold cmpB cmpK
        rw [lg_cmp_eq, mS_worth sg61 hm2.2 e61]
        refine ⟨fun _ => nx_ok hm2 (by rw [e61]; decide) (by rw [e61]; decide) (fun S7 hm7 => mM_call hC hm7 (fun x v S' e2 hf => ?_) (fun d h3 S' e2 hm3 => ⟨fun _ => ?_, fun c => absurd rfl c⟩)), fun c => absurd (show ¬ (61 : Int32).toInt64 = 60 by decide) c⟩
        · have k := fun v => hQ.1 x v S' (by rw [e2]; rfl) hf
          exact ⟨fun _ => ⟨fun _ => k _, fun _ => k _⟩, fun _ => ⟨fun _ => k _, fun _ => k _⟩⟩
        · obtain ⟨b1, b2, b3, b4⟩ := hF _ _ _ (pen_b hm2.2.2.1).2 e2
          have k := hQ.2 (c ++ d ++ [-12]) h3 S' (by rw [e2]; rfl) hm3
          rw [(cw_bin (s := -12) (by decide) a4 b4).2, jn12] at k
          refine ⟨fun q => ?_, fun q => ?_⟩
          · rw [if_neg q] at k
            exact k
          · rw [if_pos (Decidable.not_not.mp q)] at k
            exact k
      · rw [if_neg e61] at hQ
        exact hQ.2 c h2 S' rfl hm2
theorem cmpA_bad {CD : ri_H → (Int32 → ri_H → Prop) → Prop} (hC : MBd CD) (hb : ¬ S.1 50 25 = 0) (hQ : ∀ v, Q v S) : cmpA CD Q S :=
  hC S _ hb (fun v => w121_bad hb ⟨fun c => absurd rfl c, fun _ => w121_bad hb ⟨fun c => absurd rfl c, fun _ => hQ v⟩⟩)
/-! one fewer is open -/
theorem mFl_24 {x : Nat} {v : Int32} (hf : mFl S0 x S) : mFl S0 x (ri_wi S 50 24 v) := by
  refine ⟨am_f hf.1 (by decide), ?_, ?_⟩
  · rw [ri_wi_1, pk_un (by decide)]
    exact hf.2.1
  · rw [ri_wi_1, pk_un (by decide)]
    exact hf.2.2
theorem mM_24 (hm : mM f n fr S0 S h (o + 1)) : mM f n fr S0 (ri_wi S 50 24 (S.1 50 24 - 1)) h o := by
  obtain ⟨a, hB, hh, hd, ho, hb⟩ := hm
  have a1 : am [] [24] S (ri_wi S 50 24 (S.1 50 24 - 1)) := am_f (am_refl _ _ _) (by decide)
  refine ⟨am_q a a1 (by decide), mB_am hB a1 (by decide) (by decide) (by decide), hh, ?_, ?_, ?_⟩
  · unfold md at hd ⊢
    rw [(a1.2 22 (by decide)).1, (a1.2 21 (by decide)).1, (a1.2 20 (by decide)).1, (a1.2 23 (by decide)).2]
    exact hd
  · rw [ri_wi_1, pk_us, ho, nI_pred]
  · rw [ri_wi_1, pk_un (by decide)]
    exact hb
theorem wnot_MR {F N : pF} {CN CD : ri_H → (Int32 → ri_H → Prop) → Prop} (ho : o < 5) (hN : MR f n fr (o + 1) N CN) (gN : pgd n N) (hC : MR f n fr o F CD) (hF : pgd n F) : MR f n fr o (pno f n true N F) (wnot CN CD) := by
  intro S h Q hm hQ
  unfold pno at hQ
  unfold wnot
  refine is8 hm (fun e => ⟨fun c => absurd c (by decide), fun _ => ?_⟩) (fun e => ⟨fun _ => ?_, fun c => absurd rfl c⟩)
  · rw [if_pos e, if_pos rfl] at hQ
    refine w122_ok (mM_0 hm) (by rw [e]; decide) (by rw [e]; decide) ho (fun S' hm1 => ⟨fun _ => mM_call hN hm1 (fun x v S2 e2 hf => ?_) (fun c h2 S2 e2 hm2 => ?_), fun c => absurd (by decide) c⟩)
    · have k := fun v => hQ.1 x v (ri_wi S2 50 24 (S2.1 50 24 - 1)) (by rw [e2]; rfl) (mFl_24 hf)
      exact ⟨fun _ => k _, fun _ => k _⟩
    · obtain ⟨b1, b2, b3, b4⟩ := gN _ _ _ (pen_b hm.2.1).2 e2
      have k := hQ.2 (c ++ [-8]) h2 _ (by rw [e2]; rfl) (mM_24 hm2)
      rw [(cw_not b4).2] at k
      refine ⟨fun q => ?_, fun q => ?_⟩
      · rw [if_neg q] at k
        exact k
      · rw [if_pos (Decidable.not_not.mp q)] at k
        exact k
  · rw [if_neg e] at hQ
    exact cmpA_ok hC hF (mM_0 hm) hQ
theorem wnot5_MR {F N : pF} {CD : ri_H → (Int32 → ri_H → Prop) → Prop} (hC : MR f n fr 5 F CD) (hF : pgd n F) : MR f n fr 5 (pno f n false N F) (wnot5 CD) := by
  intro S h Q hm hQ
  unfold pno at hQ
  unfold wnot5
  refine is8 hm (fun e => ⟨fun c => absurd c (by decide), fun _ => ?_⟩) (fun e => ⟨fun _ => ?_, fun c => absurd rfl c⟩)
  · rw [if_pos e, if_neg (by decide)] at hQ
    exact w122_no (mM_0 hm) (fun S' hf => hQ.1 _ _ S' rfl hf)
  · rw [if_neg e] at hQ
    exact cmpA_ok hC hF (mM_0 hm) hQ
theorem wnot_B {CN CD : ri_H → (Int32 → ri_H → Prop) → Prop} (hC : MBd CD) : MBd (wnot CN CD) := by
  intro S Q hb hQ
  unfold wnot
  exact w120_bad hb ⟨fun _ => cmpA_bad hC hb hQ, fun c => absurd rfl c⟩
theorem wnot5_B {CD : ri_H → (Int32 → ri_H → Prop) → Prop} (hC : MBd CD) : MBd (wnot5 CD) := by
  intro S Q hb hQ
  unfold wnot5
  exact w120_bad hb ⟨fun _ => cmpA_bad hC hb hQ, fun c => absurd rfl c⟩
/-! a one -/
def onB (Q : Int32 → ri_H → Prop) (S : ri_H) : Prop := ((¬ (S.1 50 25) = 0 → w118 S (fun S5 => Q 0 S5)) ∧ (¬ (¬ (S.1 50 25) = 0) → ((¬ (S.1 50 21) = (1 : Int32) → w118 S (fun S5 => Q 0 S5)) ∧ (¬ (¬ (S.1 50 21) = (1 : Int32)) → w123 S (fun (r7 : Int32) (S6 : ri_H) => ((¬ (S6.1 50 25) = 0 → Q r7 S6) ∧ (¬ (¬ (S6.1 50 25) = 0) → w117 S6 (fun (S8 : ri_H) => Q r7 S8))))))))
def onA (Q : Int32 → ri_H → Prop) (S : ri_H) : Prop := ((¬ (S.1 50 25) = 0 → onB Q S) ∧ (¬ (¬ (S.1 50 25) = 0) → ((¬ (S.1 50 21) = (2 : Int32) → onB Q S) ∧ (¬ (¬ (S.1 50 21) = (2 : Int32)) → w117 S (fun (S9 : ri_H) => Q ((S.2 50 23)).toInt32 S9)))))
theorem onA_bad (hb : ¬ S.1 50 25 = 0) (hQ : ∀ v, Q v S) : onA Q S := ⟨fun _ => ⟨fun _ => w118_bad hb (hQ _), fun c => absurd hb c⟩, fun c => absurd hb c⟩
theorem onA_ok (hm : mS f n fr S h o) {b : Bool} {O N : pF} (n40 : pso f n h ≠ 40) (n45 : pso f n h ≠ 45) (hQ : MRp f n fr (pon f n b O N h) S o Q) : onA Q S := by
  unfold pon at hQ
  rw [if_neg n40, if_neg n45] at hQ
  have hb := hm.2.2.2.2
  have hm0 := mM_0 hm
  have fb : onB Q S → (¬ S.1 50 21 = 2) → onA Q S := fun k k2 => ⟨fun c => absurd hb c, fun _ => ⟨fun _ => k, fun c => absurd k2 c⟩⟩
  by_cases c2 : pso f n h = 2
  · rw [if_pos c2] at hQ
    obtain ⟨w1, w2⟩ := pwo_nI c2
    have tk2 : S.1 50 21 = 2 ∧ S.2 50 23 = lN (numN f (tkb f n h) (pen f n h - tkb f n h)) := by
      rcases md_cases hm.2.2.1 with q | q | q | q | q
      · rw [c2] at q
        exact absurd q.2.1 (by decide)
      · exact absurd (q.2.2.1.symm.trans c2) (wsort_ne2 _)
      · exact ⟨q.2.2.1, q.2.2.2.2⟩
      · rw [c2] at q
        exact absurd q.2.1 (by decide)
      · have e := q.2.1.symm.trans c2
        have e2 := q.2.2.1
        rw [e] at e2
        exact absurd e2 (by decide)
    refine ⟨fun c => absurd hb c, fun _ => ⟨fun c => absurd tk2.1 c, fun _ => nx_ok hm0 (by rw [c2]; decide) (by rw [c2]; decide) (fun S' hm' => ?_)⟩⟩
    have k := hQ.2 _ _ S' rfl hm'
    have c1 := (pso_2 c2).1
    rw [(cw_one (s := pwo f n h) (by rw [w1]; exact Int32.le_trans (by decide) (nI_pos' (by omega)))).2, if_neg (by rw [w1]; exact nI_pos (by omega)), w1, ← (tk_in c1).2.2.1] at k
    rw [tk2.2, lN_i]
    exact k
  · rw [if_neg c2] at hQ
    have nt2 : ¬ S.1 50 21 = 2 := by
      intro e
      rcases md_cases hm.2.2.1 with q | q | q | q | q
      · exact absurd (q.2.2.symm.trans e) (by decide)
      · exact absurd (q.2.2.2.1.symm.trans e) (by decide)
      · exact c2 q.2.1
      · exact absurd (q.2.2.symm.trans e) (by decide)
      · exact absurd (q.2.2.2.1.symm.trans e) (by decide)
    refine fb ?_ nt2
    by_cases cn : 10 ≤ pso f n h ∧ pso f n h ≤ 15
    · rw [if_pos cn] at hQ
      obtain ⟨j, hj, ej, en, el, ei⟩ := pname cn
      have tk1 : S.1 50 21 = 1 := by
        rcases md_cases hm.2.2.1 with q | q | q | q | q
        · rw [q.2.1] at cn
          exact absurd cn.1 (by decide)
        · exact q.2.2.2.1
        · exact absurd q.2.1 c2
        · rw [q.2.1] at cn
          exact absurd cn.1 (by decide)
        · have e := q.2.2.1
          have e3 := ssort_ge (k := pso f n h) (fun e => by rw [e] at cn; exact absurd cn.1 (by decide)) (by
            have := Int32.le_iff_toInt_le.mp cn.2
            refine Int32.lt_iff_toInt_lt.mpr ?_
            have e1 : (15 : Int32).toInt = 15 := rfl
            have e2 : (40 : Int32).toInt = 40 := rfl
            omega) (f (tkb f n h))
          exact absurd (e.trans q.2.1.symm) e3
      refine ⟨fun c => absurd hb c, fun _ => ⟨fun c => absurd tk1 c, fun _ => w123_ok hm0 (fun i hi e => ?_) (fun q => absurd ej (q j hj))⟩⟩
      have eij : i = j := by
        have e2 := e.symm.trans ej
        have := (nI_eq (by omega) (by omega)).mp e2
        omega
      subst eij
      refine ⟨fun c => absurd hb c, fun _ => nx_ok hm0 (fun e0 => by rw [e0] at cn; exact absurd cn.1 (by decide)) (fun e0 => by rw [e0] at cn; exact absurd cn.1 (by decide)) (fun S' hm' => ?_)⟩
      have k := hQ.2 _ _ S' rfl hm'
      rw [(cw_one el).2, if_pos en, ei, it_nI _ hj (by decide), mnm_j i hj] at k
      exact k
    · rw [if_neg cn] at hQ
      refine ⟨fun c => absurd hb c, fun _ => ⟨fun _ => w118_ok hm0 (fun S' hf => hQ.1 _ _ S' rfl hf), fun _ => w123_ok hm0 (fun i hi e => ?_) (fun q S' hf => ⟨fun _ => hQ.1 _ _ S' rfl hf, fun c => absurd (mFl_bad hf) c⟩)⟩⟩
      refine absurd ?_ cn
      rw [e]
      exact ⟨nI_le (a := 10) (by omega) (by omega), nI_le (b := 15) (by omega) (by decide)⟩
theorem watom5_B : MBd watom5 := by
  intro S Q hb hQ
  unfold watom5
  exact w121_bad hb ⟨fun _ => w121_bad hb ⟨fun _ => onA_bad hb hQ, fun c => absurd rfl c⟩, fun c => absurd rfl c⟩
theorem watom_B {CA CE : ri_H → (Int32 → ri_H → Prop) → Prop} : MBd (watom CA CE) := by
  intro S Q hb hQ
  unfold watom
  exact w121_bad hb ⟨fun _ => w121_bad hb ⟨fun _ => onA_bad hb hQ, fun c => absurd rfl c⟩, fun c => absurd rfl c⟩
theorem watom5_MR {O N : pF} : MR f n fr 5 (pon f n false O N) watom5 := by
  intro S h Q hm hQ
  unfold watom5
  have hm0 := mM_0 hm
  refine w121_ok sg45 hm (fun e => ⟨fun c => absurd c (by decide), fun _ => ?_⟩) (fun e45 => ⟨fun _ => ?_, fun c => absurd rfl c⟩)
  · unfold pon at hQ
    rw [if_neg (by rw [e]; decide), if_pos e, if_neg (by decide)] at hQ
    exact w122_no hm0 (fun S' hf => hQ.1 _ _ S' rfl hf)
  · refine w121_ok sg40 hm (fun e => ⟨fun c => absurd c (by decide), fun _ => ?_⟩) (fun e40 => ⟨fun _ => onA_ok hm e40 e45 hQ, fun c => absurd rfl c⟩)
    unfold pon at hQ
    rw [if_pos e, if_neg (by decide)] at hQ
    exact w122_no hm0 (fun S' hf => hQ.1 _ _ S' rfl hf)
theorem watom_MR {O N : pF} {CA CE : ri_H → (Int32 → ri_H → Prop) → Prop} (ho : o < 5) (hO : MR f n fr (o + 1) O CE) (gO : pgd n O) (hN : MR f n fr (o + 1) N CA) (gN : pgd n N) : MR f n fr o (pon f n true O N) (watom CA CE) := by
  intro S h Q hm hQ
  unfold watom
  have hm0 := mM_0 hm
  refine w121_ok sg45 hm (fun e => ⟨fun c => absurd c (by decide), fun _ => ?_⟩) (fun e45 => ⟨fun _ => ?_, fun c => absurd rfl c⟩)
  · unfold pon at hQ
    rw [if_neg (by rw [e]; decide), if_pos e, if_pos rfl] at hQ
    refine w122_ok hm0 (by rw [e]; decide) (by rw [e]; decide) ho (fun S' hm1 => ⟨fun c => absurd c (by decide), fun _ => mM_call hN hm1 (fun x v S2 e2 hf => ?_) (fun c h2 S2 e2 hm2 => ?_)⟩)
    · exact hQ.1 x _ _ (by rw [e2]; rfl) (mFl_24 hf)
    · obtain ⟨b1, b2, b3, b4⟩ := gN _ _ _ (pen_b hm.2.1).2 e2
      have k := hQ.2 (c ++ [-7]) h2 _ (by rw [e2]; rfl) (mM_24 hm2)
      rw [(cw_neg b4).2] at k
      exact k
  · refine w121_ok sg40 hm (fun e => ⟨fun c => absurd c (by decide), fun _ => ?_⟩) (fun e40 => ⟨fun _ => onA_ok hm e40 e45 hQ, fun c => absurd rfl c⟩)
    unfold pon at hQ
    rw [if_pos e, if_pos rfl] at hQ
    refine w122_ok hm0 (by rw [e]; decide) (by rw [e]; decide) ho (fun S' hm1 => ⟨fun c => absurd c (by decide), fun _ => mM_call hO hm1 (fun x v S2 e2 hf => ?_) (fun c h2 S2 e2 hm2 => ?_)⟩)
    · have bad := mFl_bad hf
      refine w121_bad bad ⟨fun c => absurd rfl c, fun _ => w118_bad bad ⟨fun _ => hQ.1 x _ _ (by rw [e2]; rfl) (mFl_24 hf), fun c => absurd bad c⟩⟩
    · rw [e2] at hQ
      have hQ : MRp f n fr (if pso f n h2 = 41 then .inr (c, pen f n h2) else .inl (ppl f n h2)) S o Q := hQ
      refine w121_ok sg41 hm2.2 (fun e41 => ⟨fun _ => ⟨fun c => absurd hm2.2.2.2.2.2 c, fun _ => ?_⟩, fun c => absurd (by decide) c⟩) (fun e41 => ⟨fun c => absurd rfl c, fun _ => w118_ok hm2 (fun S3 hf => ⟨fun _ => ?_, fun c => absurd (mFl_bad hf) c⟩)⟩)
      · rw [if_pos e41] at hQ
        exact nx_ok (mM_24 hm2) (by rw [e41]; decide) (by rw [e41]; decide) (fun S3 hm3 => hQ.2 _ _ S3 rfl hm3)
      · rw [if_neg e41] at hQ
        exact hQ.1 _ _ _ rfl (mFl_24 hf)
/-- all levels -/
theorem mAt_B : ∀ k, MBd (mAt k).2.2
  | 0 => weither_B (wboth_B (wnot5_B (wadded_B (wterm_B watom5_B))))
  | k + 1 => weither_B (wboth_B (wnot_B (wadded_B (wterm_B watom_B))))
theorem mAt_MR (hn : n ≤ 160) : ∀ k, k ≤ 5 → MR f n fr (5 - k) (pgl f n (k + 1)).2.2 (mAt k).1 ∧ MR f n fr (5 - k) (pgl f n (k + 1)).2.1 (mAt k).2.1 ∧ MR f n fr (5 - k) (pgl f n (k + 1)).1 (mAt k).2.2
  | 0, _ => by
    have g := pgl_gd (f := f) (n := n) 1
    have g1 : pgd n (pon f n false (fun _ => .inl 0) (fun _ => .inl 0)) := g.2.2
    have g4 : pgd n (pno f n false (fun _ => .inl 0) (pch f n Psum (pch f n Pterm (pon f n false (fun _ => .inl 0) (fun _ => .inl 0))))) := g.2.1
    have k1 : MR f n fr 5 (pon f n false (fun _ => .inl 0) (fun _ => .inl 0)) watom5 := watom5_MR
    have g2 := pch_gd (f := f) pP_term g1
    have g3 := pch_gd (f := f) pP_sum g2
    have k4 := wnot5_MR (N := fun _ => .inl 0) (wadded_MR hn (wterm_MR hn k1 g1) g2) g3
    exact ⟨k1, k4, weither_MR hn (wboth_MR hn k4 g4) (pch_gd pP_and g4)⟩
  | k + 1, hk => by
    obtain ⟨h1, h2, h3⟩ := mAt_MR hn k (by omega)
    have e : 5 - k = 5 - (k + 1) + 1 := by omega
    rw [e] at h1 h2 h3
    have g := pgl_gd (f := f) (n := n) (k + 1)
    have gg := pgl_gd (f := f) (n := n) (k + 2)
    have g1 : pgd n (pon f n true (pgl f n (k + 1)).1 (pgl f n (k + 1)).2.2) := gg.2.2
    have g4 : pgd n (pno f n true (pgl f n (k + 1)).2.1 (pch f n Psum (pch f n Pterm (pon f n true (pgl f n (k + 1)).1 (pgl f n (k + 1)).2.2)))) := gg.2.1
    have k1 := watom_MR (o := 5 - (k + 1)) (by omega) h3 g.1 h1 g.2.2
    have g2 := pch_gd (f := f) pP_term g1
    have g3 := pch_gd (f := f) pP_sum g2
    have k4 := wnot_MR (o := 5 - (k + 1)) (by omega) h2 g.2.1 (wadded_MR hn (wterm_MR hn k1 g1) g2) g3
    exact ⟨k1, k4, weither_MR hn (wboth_MR hn k4 g4) (pch_gd pP_and g4)⟩
end MREAD
