/-! the class: a text is read from the tape -/
def gC : Int32 → ri_H → (ri_H → Prop) → Prop := (gl 6).1
section CT
variable {f : Nat → Int32} {n m : Nat}
theorem ppt_gd {k : Int32} (hk0 : k ≠ 0) {h : Nat} {c : List Int32} {h2 : Nat} (hh : h ≤ n) (e : ppt f n k h = .inr (c, h2)) : h2 ≤ n ∧ c.length + h ≤ h2 ∧ cw c := by
  unfold ppt at e
  by_cases c1 : pso f n h = k
  · rw [if_pos c1] at e
    obtain ⟨c2, h3, e1, e2⟩ := pbd_inr e
    have q1 := pen_lt (f := f) hh (by rw [c1]; exact hk0)
    have q2 := pen_b (f := f) hh
    obtain ⟨a1, a2, a3, a4⟩ := (pgl_gd (f := f) (n := n) 6).1 _ _ _ q2.2 e1
    by_cases c59 : pso f n h3 = 59
    · rw [if_pos c59] at e2
      cases e2
      have q3 := pen_b (f := f) a2
      exact ⟨q3.2, by omega, a4⟩
    · rw [if_neg c59] at e2
      cases e2
  · rw [if_neg c1] at e
    cases e
theorem part_ok (hn : n ≤ 160) {k : Int32} (hk0 : k ≠ 0) (hk1 : k ≠ 1) {S : ri_H} {i w : Nat} {Q : ri_H → Prop} (hS : cS f n m S i w) (hQ : CRp f n m (ppt f n k (hs f n i)) S i w Q) : w14 k S (fun S4 => gC 0 S4 (fun S5 => w14 59 S5 (fun S6 => Q S6))) := by
  unfold ppt at hQ
  refine w14_ok hn (cM_0 hS) hk1 (fun e S4 _ hm => ?_) (fun e S4 w4 hf => ?_)
  · rw [if_pos e] at hQ
    have hm := hm hk0
    refine cM_call (gl6_CR hn) (pgl_gd 6).1 hm (fun x S5 w5 e2 hf => w14_bad (cFl_bad hf hn) (by decide) (hQ.1 x S5 w5 ?_ (cFl_0' hf))) (fun d S5 i5 e2 hm2 => ?_)
    · have e3 : (pgl f n 6).1 (pen f n (hs f n i)) = .inl x := e2
      rw [e3]
      rfl
    · have e3 : (pgl f n 6).1 (pen f n (hs f n i)) = .inr (d, hs f n i5) := e2
      rw [e3] at hQ
      have hQ : CRp f n m (if pso f n (hs f n i5) = 59 then .inr (d, pen f n (hs f n i5)) else .inl (ppl f n (hs f n i5))) S i w Q := hQ
      refine w14_ok hn hm2 (by decide) (fun e4 S6 _ hm3 => ?_) (fun e4 S6 w6 hf => ?_)
      · rw [if_pos e4] at hQ
        exact hQ.2 _ S6 (i5 + 1) rfl (cM_0' (hm3 (by decide)))
      · rw [if_neg e4] at hQ
        exact hQ.1 _ S6 w6 rfl (cFl_0' hf)
  · rw [if_neg e] at hQ
    have bad := cFl_bad hf hn
    exact gl_CB 5 0 S4 _ bad (w14_bad bad (by decide) (hQ.1 _ S4 w4 rfl hf))
end CT
def xfr (T : Nat) (S S' : ri_H) : Prop := ag [1, 2, 3, 5, 7, 8, 9] S S' ∧ (∀ j, j < 160 * T → S'.1 2 j = S.1 2 j) ∧ ∀ j, j < 4 * T → S'.1 3 j = S.1 3 j
theorem xfr_cR {T w : Nat} {S0 S S' : ri_H} (h : xfr T S0 S) (hw : 160 * T ≤ w) (h2 : cR w S S') : xfr T S0 S' := by
  refine ⟨ag_tr h.1 (ag_mo h2.1.1 (by decide)), fun j hj => ?_, fun j hj => ?_⟩
  · rw [h2.2 j (by omega)]
    exact h.2.1 j hj
  · rw [(h2.1.1 3 (by decide)).1]
    exact h.2.2 j hj
theorem xfr_3 {T k : Nat} {S0 S : ri_H} {v : Int32} (h : xfr T S0 S) (hk : 4 * T ≤ k) : xfr T S0 (ri_wr S 3 (upd (S.1 3) k v)) := by
  refine ⟨ag_wr h.1 (by decide), fun j hj => ?_, fun j hj => ?_⟩
  · rw [ri_wr_o _ _ (by decide)]
    exact h.2.1 j hj
  · rw [ri_wr_1, pk_un (by omega)]
    exact h.2.2 j hj
theorem w29_ok {S : ri_H} {Q : ri_H → Prop} {T k : Nat} (hT : T < 6) (h13 : S.1 1 3 = nI T) (hk : k < 3) (hQ : Q (ri_wr S 3 (upd (S.1 3) (4 * T + k + 1) (S.1 1 4)))) : w29 (nI k) S Q := by
  unfold w29
  have e : S.1 1 3 * 4 + nI k + 1 = nI (4 * T + k + 1) := by
    rw [h13]
    have e2 : nI T * 4 = nI (T * 4) := pk_mul T 4
    rw [e2, nI_add, nI_1, Nat.mul_comm]
  rw [e, pu_nI _ _ (show 4 * T + k + 1 < 24 by omega) (by decide)]
  exact hQ
theorem l28_bad {T : Nat} (hT : T < 6) {Q : Int32 → ri_H → Prop} {S0 : ri_H} {x : Nat} (hx : x ≤ 160) (hQ : ∀ S', xfr T S0 S' → S'.1 1 3 = nI T → S'.1 5 4 = 0 → Q (nI x) S') : ∀ k j S, j + k = 3 → xfr T S0 S → S.1 1 3 = nI T → S.1 5 4 = 0 → S.1 5 7 = nI x → w1_l28 gC Q (k + 1) (nI j) S
  | 0, j, S, hj, h1, h2, h4, h3 => by
    have hj' : j = 3 := hj
    subst hj'
    unfold w1_l28 w1_b91
    have bad : ¬ S.1 5 7 = -1 := by
      rw [h3]
      intro e
      exact nI_pos (n := x) (by omega) (by rw [e]; decide)
    refine ⟨fun _ => w14_bad bad (by decide) ⟨fun _ => ?_, fun c => absurd bad c⟩, fun c => absurd (show (3 : Int32) ≤ nI 3 by decide) c⟩
    rw [h3]
    exact hQ S h1 h2 h4
  | k + 1, j, S, hj, h1, h2, h4, h3 => by
    unfold w1_l28
    have bad : ¬ S.1 5 7 = -1 := by
      rw [h3]
      intro e
      exact nI_pos (n := x) (by omega) (by rw [e]; decide)
    have n1 : ¬ 1 = (3 : Int32) + nI j := by
      have e : (3 : Int32) + nI j = nI (3 + j) := nI_add 3 j
      rw [e]
      intro e2
      have e3 : nI 1 = nI (3 + j) := e2
      have := (nI_eq (by decide) (by omega)).mp e3
      omega
    refine ⟨fun c => absurd c (nI_ge (b := 3) (by omega) (by decide)), fun _ => w14_bad bad n1 (gl_CB 5 0 S _ bad (w14_bad bad (by decide) (w29_ok hT h2 (by omega) ?_)))⟩
    rw [nI_1]
    refine l28_bad hT hx hQ k (j + 1) _ (by omega) (xfr_3 h1 (by omega)) ?_ ?_ ?_
    · rw [ri_wr_o _ _ (by decide)]
      exact h2
    · rw [ri_wr_o _ _ (by decide)]
      exact h4
    · rw [ri_wr_o _ _ (by decide)]
      exact h3
/-- so many parts of a text stand -/
def tK (f : Nat → Int32) (n m T : Nat) (S0 : ri_H) (cs : List (List Int32)) (S : ri_H) (i : Nat) : Prop := xfr T S0 S ∧ cS f n m S i (160 * T + cs.flatten.length) ∧ S.1 1 3 = nI T ∧ S.1 5 4 = 0 ∧ (∀ j, j < cs.flatten.length → S.1 2 (160 * T + j) = cs.flatten.getD j 0) ∧ (∀ j, j ≤ cs.length → S.1 3 (4 * T + j) = nI (160 * T + (cs.take j).flatten.length)) ∧ cs.flatten.length ≤ hs f n i
theorem tK_part {f : Nat → Int32} {n m T : Nat} (hn : n ≤ 160) (hT : T < 6) {S0 S : ri_H} {cs : List (List Int32)} {i : Nat} (h : tK f n m T S0 cs S i) {k : Int32} (hk0 : k ≠ 0) (hk1 : k ≠ 1) (hl : cs.length < 3) {Q : ri_H → Prop} (h1 : ∀ x S', ppt f n k (hs f n i) = .inl x → x ≤ n → xfr T S0 S' → S'.1 1 3 = nI T → S'.1 5 4 = 0 → S'.1 5 7 = nI x → Q S') (h2 : ∀ c S' i', ppt f n k (hs f n i) = .inr (c, hs f n i') → tK f n m T S0 (cs ++ [c]) S' i' → Q S') : w14 k S (fun S4 => gC 0 S4 (fun S5 => w14 59 S5 (fun S6 => w29 (nI cs.length) S6 (fun S7 => Q S7)))) := by
  obtain ⟨t1, t2, t3, t4, t5, t6, t7⟩ := h
  refine part_ok hn hk0 hk1 t2 ⟨fun x S' w' e hf => ?_, fun c S' i' e hm => ?_⟩
  · obtain ⟨g1, g2, g3, g4, g5, g6⟩ := hf
    have e13 : S'.1 1 3 = nI T := (g1.1.2.2 3 (by decide)).trans t3
    have e54 : S'.1 5 4 = 0 := (g1.1.2.1 4 (by decide) (by decide)).trans t4
    refine w29_ok hT e13 hl (h1 x _ e g3 (xfr_3 (xfr_cR t1 (by omega) g1) (by omega)) ?_ ?_ ?_)
    · rw [ri_wr_o _ _ (by decide)]
      exact e13
    · rw [ri_wr_o _ _ (by decide)]
      exact e54
    · rw [ri_wr_o _ _ (by decide)]
      exact g2
  · obtain ⟨g1, g2, g3, g4⟩ := hm
    have e13 : S'.1 1 3 = nI T := (g1.1.2.2 3 (by decide)).trans t3
    have e54 : S'.1 5 4 = 0 := (g1.1.2.1 4 (by decide) (by decide)).trans t4
    have ec := (ppt_gd hk0 (hs_b i) e).2.1
    have el : (cs ++ [c]).flatten = cs.flatten ++ c := by simp
    refine w29_ok hT e13 hl (h2 c _ i' e ⟨xfr_3 (xfr_cR t1 (by omega) g1) (by omega), ?_, ?_, ?_, fun j hj => ?_, fun j hj => ?_, ?_⟩)
    · have e2 : 160 * T + (cs ++ [c]).flatten.length = 160 * T + cs.flatten.length + c.length := by
        rw [el, List.length_append]
        omega
      rw [e2]
      obtain ⟨q1, q2, q3, q4, q5, q6⟩ := g2
      refine ⟨ctk_ag q1 (ag_wr (ag_refl [3] _) (by decide)) (by decide) (by decide) (by decide), q2, ?_, ?_, ?_, q6⟩
      · rw [ri_wr_o _ _ (by decide)]
        exact q3
      · rw [ri_wr_o _ _ (by decide)]
        exact q4
      · rw [ri_wr_o _ _ (by decide)]
        exact q5
    · rw [ri_wr_o _ _ (by decide)]
      exact e13
    · rw [ri_wr_o _ _ (by decide)]
      exact e54
    · rw [ri_wr_o _ _ (by decide), el]
      rw [el, List.length_append] at hj
      by_cases q : j < cs.flatten.length
      · rw [getD_app1 q, g1.2 _ (by omega)]
        exact t5 j q
      · have e3 : 160 * T + j = 160 * T + cs.flatten.length + (j - cs.flatten.length) := by omega
        rw [getD_app2 (by omega), e3]
        exact g3 _ (by omega)
    · rw [ri_wr_1]
      simp at hj
      by_cases q : j = cs.length + 1
      · subst q
        rw [show 4 * T + (cs.length + 1) = 4 * T + cs.length + 1 by omega, pk_us, g2.2.2.2.2.1, List.take_of_length_le (by simp), el, List.length_append]
        congr 1
        omega
      · rw [pk_un (by omega), List.take_append_of_le_length (by omega), (g1.1.1 3 (by decide)).1]
        exact t6 j (by omega)
    · rw [el, List.length_append]
      omega
/-- the text a stands in the class -/
def ttx (S : ri_H) (a : Nat) (c0 c1 c2 : List Int32) : Prop := S.1 3 (4 * a) = nI (160 * a) ∧ S.1 3 (4 * a + 1) = nI (160 * a + c0.length) ∧ S.1 3 (4 * a + 2) = nI (160 * a + c0.length + c1.length) ∧ S.1 3 (4 * a + 3) = nI (160 * a + c0.length + c1.length + c2.length) ∧ (∀ j, j < (c0 ++ (c1 ++ c2)).length → S.1 2 (160 * a + j) = (c0 ++ (c1 ++ c2)).getD j 0) ∧ (c0 ++ (c1 ++ c2)).length ≤ 160 ∧ cw c0 ∧ cw c1 ∧ cw c2
theorem w1x_ok {S : ri_H} {Q : Int32 → ri_H → Prop} {T n : Nat} (hT : T < 6) (h13 : S.1 1 3 = nI T) (hn : n ≤ 160) (h54 : S.1 5 4 = nI n) (h1 : ∀ x S', ptx (S.1 6) n = .inl x → x ≤ n → xfr T S S' → S'.1 1 3 = nI T → S'.1 5 4 = 0 → Q (nI x) S') (h2 : ∀ c0 c1 c2 S', ptx (S.1 6) n = .inr (c0, c1, c2) → xfr T S S' → S'.1 1 3 = nI (T + 1) → S'.1 5 4 = 0 → ttx S' T c0 c1 c2 → Q (-1) S') : w1x S Q := by
  show w1 gC S Q
  unfold w1
  refine w2_ok hn h54 rfl (fun S1 m k1 k2 => ?_)
  unfold w27
  have e13 : (ri_wi (ri_wi (ri_wi S1 5 4 0) 5 6 0) 5 7 (-1)).1 1 3 = nI T := by
    rw [ri_wi_o _ _ _ (by decide), ri_wi_o _ _ _ (by decide), ri_wi_o _ _ _ (by decide), (k1.1 1 (by decide)).1]
    exact h13
  have m160 : nI T * 160 = nI (160 * T) := by
    rw [show nI T * 160 = nI (T * 160) from pk_mul T 160, Nat.mul_comm]
  have m4 : nI T * 4 = nI (4 * T) := by
    rw [show nI T * 4 = nI (T * 4) from pk_mul T 4, Nat.mul_comm]
  rw [e13, m160, m4, pu_nI _ _ (show 4 * T < 24 by omega) (by decide)]
  refine ⟨4, ?_⟩
  have x1 : xfr T S (ri_wi (ri_wi (ri_wi (ri_wi S1 5 4 0) 5 6 0) 5 7 (-1)) 1 4 (nI (160 * T))) := by
    refine ⟨ag_wi (ag_wi (ag_wi (ag_wi (ag_mo k1.1 (by decide)) (by decide)) (by decide)) (by decide)) (by decide), fun j hj => ?_, fun j hj => ?_⟩
    · rw [ri_wi_o _ _ _ (by decide), ri_wi_o _ _ _ (by decide), ri_wi_o _ _ _ (by decide), ri_wi_o _ _ _ (by decide), (k1.1 2 (by decide)).1]
    · rw [ri_wi_o _ _ _ (by decide), ri_wi_o _ _ _ (by decide), ri_wi_o _ _ _ (by decide), ri_wi_o _ _ _ (by decide), (k1.1 3 (by decide)).1]
  have x3 : (ri_wi (ri_wi (ri_wi S1 5 4 0) 5 6 0) 5 7 (-1)).1 3 = (ri_wi (ri_wi (ri_wi (ri_wi S1 5 4 0) 5 6 0) 5 7 (-1)) 1 4 (nI (160 * T))).1 3 := by
    rw [ri_wi_o _ 4 (nI (160 * T)) (show 3 ≠ 1 by decide)]
  rw [x3]
  have t0 : tK (S.1 6) n m T S [] (ri_wr (ri_wi (ri_wi (ri_wi (ri_wi S1 5 4 0) 5 6 0) 5 7 (-1)) 1 4 (nI (160 * T))) 3 (upd ((ri_wi (ri_wi (ri_wi (ri_wi S1 5 4 0) 5 6 0) 5 7 (-1)) 1 4 (nI (160 * T))).1 3) (4 * T) (nI (160 * T)))) 0 := by
    refine ⟨xfr_3 x1 (Nat.le_refl _), ⟨ctk_ag k2 (X := [3, 1, 5]) (ag_wr (ag_wi (ag_wi (ag_wi (ag_wi (ag_refl _ _) (by decide)) (by decide)) (by decide)) (by decide)) (by decide)) (by decide) (by decide) (by decide), Nat.zero_le _, ?_, ?_, ?_, ?_⟩, ?_, ?_, fun j hj => absurd hj (Nat.not_lt_zero j), fun j hj => ?_, Nat.zero_le _⟩
    · rw [ri_wr_o _ _ (by decide), ri_wi_o _ _ _ (by decide), ri_wi_1, pk_un (by decide), ri_wi_1, pk_us]
      rfl
    · rw [ri_wr_o _ _ (by decide), ri_wi_o _ _ _ (by decide), ri_wi_1, pk_us]
    · rw [ri_wr_o _ _ (by decide), ri_wi_1, pk_us]
      rfl
    · simp
      omega
    · rw [ri_wr_o _ _ (by decide), ri_wi_1, pk_un (by decide)]
      exact e13
    · rw [ri_wr_o _ _ (by decide), ri_wi_o _ _ _ (by decide), ri_wi_1, pk_un (by decide), ri_wi_1, pk_un (by decide), ri_wi_1, pk_us]
    · have ej : j = 0 := by simpa using hj
      subst ej
      rw [ri_wr_1]
      show upd _ (4 * T) (nI (160 * T)) (4 * T) = _
      rw [pk_us]
      rfl
  unfold w1_l28
  refine ⟨fun c => absurd c (by decide), fun _ => tK_part hn hT t0 (k := 3) (by decide) (by decide) (by decide) (fun x S2 e b1 b2 b3 b4 b5 => ?_) (fun c0 S2 i2 e t2 => ?_)⟩
  · refine l28_bad hT (by omega) (fun S' q1 q2 q3 => h1 x S' ?_ b1 q1 q2 q3) 2 1 S2 rfl b2 b3 b4 b5
    unfold ptx
    rw [show ppt (S.1 6) n 3 0 = .inl x from e]
  · unfold w1_l28
    refine ⟨fun c => absurd c (by decide), fun _ => tK_part hn hT t2 (k := 4) (by decide) (by decide) (by simp) (fun x S3 e3 b1 b2 b3 b4 b5 => ?_) (fun c1 S3 i3 e3 t3 => ?_)⟩
    · refine l28_bad hT (by omega) (fun S' q1 q2 q3 => h1 x S' ?_ b1 q1 q2 q3) 1 2 S3 rfl b2 b3 b4 b5
      unfold ptx
      rw [show ppt (S.1 6) n 3 0 = .inr (c0, hs (S.1 6) n i2) from e]
      show (match ppt (S.1 6) n 4 (hs (S.1 6) n i2) with
        | .inl x => _
        | .inr (c1, h1) => _) = _
      rw [e3]
    · unfold w1_l28
      refine ⟨fun c => absurd c (by decide), fun _ => tK_part hn hT t3 (k := 5) (by decide) (by decide) (by simp) (fun x S4 e4 b1 b2 b3 b4 b5 => ?_) (fun c2 S4 i4 e4 t4 => ?_)⟩
      · refine l28_bad hT (by omega) (fun S' q1 q2 q3 => h1 x S' ?_ b1 q1 q2 q3) 0 3 S4 rfl b2 b3 b4 b5
        unfold ptx
        rw [show ppt (S.1 6) n 3 0 = .inr (c0, hs (S.1 6) n i2) from e]
        show (match ppt (S.1 6) n 4 (hs (S.1 6) n i2) with
          | .inl x => _
          | .inr (c1, h1) => _) = _
        rw [e3]
        show (match ppt (S.1 6) n 5 (hs (S.1 6) n i3) with
          | .inl x => _
          | .inr (c2, h2) => _) = _
        rw [e4]
      · have ep : ptx (S.1 6) n = if pso (S.1 6) n (hs (S.1 6) n i4) = 0 then .inr (c0, c1, c2) else .inl (ppl (S.1 6) n (hs (S.1 6) n i4)) := by
          unfold ptx
          rw [show ppt (S.1 6) n 3 0 = .inr (c0, hs (S.1 6) n i2) from e]
          show (match ppt (S.1 6) n 4 (hs (S.1 6) n i2) with
            | .inl x => _
            | .inr (c1, h1) => _) = _
          rw [e3]
          show (match ppt (S.1 6) n 5 (hs (S.1 6) n i3) with
            | .inl x => _
            | .inr (c2, h2) => _) = _
          rw [e4]
        unfold w1_l28 w1_b91
        obtain ⟨t1, t2', t3', t4', t5', t6', t7'⟩ := t4
        refine ⟨fun _ => w14_ok hn (cM_0 t2') (by decide) (fun e5 S5 e6 _ => ?_) (fun e5 S5 w5 hf => ?_), fun c => absurd (by decide) c⟩
        · rw [if_pos e5] at ep
          have h57 : S5.1 5 7 = -1 := by
            rw [e6, ri_wi_1, pk_un (by decide)]
            exact t2'.2.2.2.1
          refine ⟨fun c => absurd h57 c, fun _ => ?_⟩
          have g57 : (ri_wi S5 1 3 (S5.1 1 3 + 1)).1 5 7 = -1 := by
            rw [ri_wi_o _ _ _ (by decide)]
            exact h57
          rw [g57]
          have s3 : (ri_wi S5 1 3 (S5.1 1 3 + 1)).1 3 = S4.1 3 := by
            rw [ri_wi_o _ _ _ (by decide), e6, ri_wi_o _ _ _ (by decide)]
          have s2 : (ri_wi S5 1 3 (S5.1 1 3 + 1)).1 2 = S4.1 2 := by
            rw [ri_wi_o _ _ _ (by decide), e6, ri_wi_o _ _ _ (by decide)]
          refine h2 c0 c1 c2 _ ep ⟨?_, fun j hj => ?_, fun j hj => ?_⟩ ?_ ?_ ?_
          · rw [e6]
            exact ag_wi (ag_wi t1.1 (by decide)) (by decide)
          · rw [s2]
            exact t1.2.1 j hj
          · rw [s3]
            exact t1.2.2 j hj
          · rw [ri_wi_1, pk_us, e6, ri_wi_o _ _ _ (by decide), t3', nI_1]
          · rw [ri_wi_o _ _ _ (by decide), e6, ri_wi_1, pk_un (by decide)]
            exact t4'
          · have hb := hs_b (f := S.1 6) (n := n) i4
            have fl : ([] ++ [c0] ++ [c1] ++ [c2] : List (List Int32)).flatten = c0 ++ (c1 ++ c2) := by simp
            rw [fl] at t5' t7'
            have a0 := t6' 0 (by simp)
            have a1 := t6' 1 (by simp)
            have a2 := t6' 2 (by simp)
            have a3 := t6' 3 (by simp)
            simp at a0 a1 a2 a3
            unfold ttx
            rw [s2, s3]
            refine ⟨a0, a1, ?_, ?_, t5', by omega, (ppt_gd (by decide) (Nat.zero_le _) e).2.2, (ppt_gd (by decide) (hs_b _) e3).2.2, (ppt_gd (by decide) (hs_b _) e4).2.2⟩
            · rw [a2]
              congr 1
              omega
            · rw [a3]
              congr 1
              omega
        · rw [if_neg e5] at ep
          have bad := cFl_bad hf hn
          refine ⟨fun _ => ?_, fun c => absurd bad c⟩
          rw [hf.2.1]
          refine h1 _ S5 ep hf.2.2.1 (xfr_cR t1 (by omega) hf.1) ((hf.1.1.2.2 3 (by decide)).trans t3') ((hf.1.1.2.1 4 (by decide) (by decide)).trans t4')
