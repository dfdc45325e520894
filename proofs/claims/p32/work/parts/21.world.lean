/-! the worlds -/
theorem vin_c {i : Int32} {n : Nat} (h : decide (¬ (i < 0 ∨ n ≤ i.toNatClampNeg)) = true) : vp_in i n := by
  unfold vp_in
  exact of_decide_eq_true h
def jn (s a b : Int32) : Int32 :=
  if s = -9 then (if a = 0 then (if b = 0 then 0 else 1) else 1)
  else if s = -10 then (if a = 0 then 0 else (if b = 0 then 0 else 1))
  else if s = -11 then (if a < b then 1 else 0)
  else if s = -12 then (if a = b then 1 else 0)
  else if s = -13 then a + b
  else if s = -14 then a - b
  else a * b
theorem sp_joined {E : ri_E} {S : ri_H} {Q : Option Value → ri_H → Prop} (s a b : Int32) (h : Q (some (.int (jn s a b))) S) : ri_A E 0 (ri_en 32 [.int s, .int a, .int b]) S Q := by
  refine A_imp (wt32 s a b (Q := fun r S1 => r = jn s a b ∧ S1 = S) ?_) (fun v S1 hv => ?_)
  · unfold w32 jn
    refine ⟨fun c => ?_, fun c => ?_, fun c => ?_, fun c => ?_, fun c => ?_, fun c => ?_, fun c => ?_⟩
    · have hh : ∀ k : Int32, ¬ (k < -14 ∨ -9 < k) → s ≠ k := fun k hk e => hk (e ▸ c)
      rw [if_neg (hh _ (by decide)), if_neg (hh _ (by decide)), if_neg (hh _ (by decide)), if_neg (hh _ (by decide)), if_neg (hh _ (by decide)), if_neg (hh _ (by decide))]
      exact ⟨rfl, rfl⟩
    · subst c; rw [if_neg (by decide), if_neg (by decide), if_neg (by decide), if_neg (by decide), if_neg (by decide), if_pos rfl]; exact ⟨rfl, rfl⟩
    · subst c; rw [if_neg (by decide), if_neg (by decide), if_neg (by decide), if_neg (by decide), if_pos rfl]; exact ⟨rfl, rfl⟩
    · subst c; rw [if_neg (by decide), if_neg (by decide), if_neg (by decide), if_pos rfl]
      refine ⟨fun c => ?_, fun c => ?_⟩
      · rw [if_neg c]; exact ⟨rfl, rfl⟩
      · rw [if_pos (Decidable.not_not.mp c)]; exact ⟨rfl, rfl⟩
    · subst c; rw [if_neg (by decide), if_neg (by decide), if_pos rfl]
      refine ⟨fun c => ?_, fun c => ?_⟩
      · rw [if_neg (Int32.not_lt.mpr c)]; exact ⟨rfl, rfl⟩
      · rw [if_pos (Int32.not_le.mp c)]; exact ⟨rfl, rfl⟩
    · subst c; rw [if_neg (by decide), if_pos rfl]
      refine ⟨fun c => ?_, fun c => ?_⟩
      · rw [if_pos c]; exact ⟨rfl, rfl⟩
      · rw [if_neg c]
        refine ⟨fun c => ?_, fun c => ?_⟩
        · rw [if_pos c]; exact ⟨rfl, rfl⟩
        · rw [if_neg c]; exact ⟨rfl, rfl⟩
    · subst c; rw [if_pos rfl]
      unfold w32_b48
      refine ⟨fun c => ?_, fun c => ?_⟩
      · rw [if_neg c]; exact ⟨rfl, rfl⟩
      · rw [if_pos (Decidable.not_not.mp c)]
        refine ⟨fun c => ?_, fun c => ?_⟩
        · rw [if_pos c]; exact ⟨rfl, rfl⟩
        · rw [if_neg c]; exact ⟨rfl, rfl⟩
  · obtain ⟨r, rfl, rfl, rfl⟩ := hv
    exact h
/-! X2_tell, depth 1 -/
def w30_b226 (q : Nat) (Q : Int32 → ri_H → Prop)  (S : ri_H) : Prop := Q (hd (it (S.1 4) 160 (0 : Int32)) (-99 : Int32) (99 : Int32)) S
set_option maxRecDepth 10000 in
set_option maxHeartbeats 1000000 in
theorem wt30_b226 {E : ri_E} (q : Nat) (hw : q = 18 ∨ q = 27) {Q : Int32 → ri_H → Prop}  (S : ri_H) (h : w30_b226 q  Q  S) : ri_A E 1 (30, 226, [some (.ref 1), none, none, none, none, none, none, none, none], []) S (Qi Q) := by
  rcases hw with rfl | rfl
  · unfold w30_b226 at h
    refine A_call (j := 98) (As := [.ref 4, .int (0 : Int32)]) (fr' := (30, 234, [some (.ref 1), none, none, none, none, none, none, none, none], [])) (S' := S) 4 rfl (e := 0) (by omega) (sp_item 4 160 _ ⟨by decide, by decide, rfl⟩ (by decide) ?_)
    refine A_call (j := 96) (As := [.int (it (S.1 4) 160 (0 : Int32)), .int (-99 : Int32), .int (99 : Int32)]) (fr' := (30, 241, [some (.ref 1), none, none, none, none, none, none, none, none], [])) (S' := S) 3 rfl (e := 0) (by omega) (sp_held _ _ _ ?_)
    exact A_ret 1 (m := 30) (v := some (.int (hd (it (S.1 4) 160 (0 : Int32)) (-99 : Int32) (99 : Int32)))) (S' := S) rfl rfl ⟨_, rfl, h⟩
  · unfold w30_b226 at h
    refine A_call (j := 98) (As := [.ref 4, .int (0 : Int32)]) (fr' := (30, 234, [some (.ref 1), none, none, none, none, none, none, none, none], [])) (S' := S) 4 rfl (e := 0) (by omega) (sp_item 4 160 _ ⟨by decide, by decide, rfl⟩ (by decide) ?_)
    refine A_call (j := 96) (As := [.int (it (S.1 4) 160 (0 : Int32)), .int (-99 : Int32), .int (99 : Int32)]) (fr' := (30, 241, [some (.ref 1), none, none, none, none, none, none, none, none], [])) (S' := S) 3 rfl (e := 0) (by omega) (sp_held _ _ _ ?_)
    exact A_ret 1 (m := 30) (v := some (.int (hd (it (S.1 4) 160 (0 : Int32)) (-99 : Int32) (99 : Int32)))) (S' := S) rfl rfl ⟨_, rfl, h⟩
def w30_b220 (q : Nat) (K37 : Int32 → Int32 → Int32 → ri_H → Prop) (Q : Int32 → ri_H → Prop) (x5 : Int32) (x6 : Int32) (x7 : Int32) (S : ri_H) : Prop := K37 x5 x6 (x7 + (1 : Int32)) S
set_option maxRecDepth 10000 in
set_option maxHeartbeats 1000000 in
theorem wt30_b220 {E : ri_E} (q : Nat) (hw : q = 18 ∨ q = 27) {K37 : Int32 → Int32 → Int32 → ri_H → Prop} {Q : Int32 → ri_H → Prop} (hK37 : ∀ (x5 : Int32) (x6 : Int32) (x7 : Int32) (S : ri_H), K37 x5 x6 x7 S → ri_A E 1 (30, 37, [some (.ref 1), none, none, some (.ref q), none, some (.int x5), some (.int x6), some (.int x7), none], []) S (Qi Q)) (x5 : Int32) (x6 : Int32) (x7 : Int32) (S : ri_H) (h : w30_b220 q K37 Q x5 x6 x7 S) : ri_A E 1 (30, 220, [some (.ref 1), none, none, some (.ref q), none, some (.int x5), some (.int x6), some (.int x7), none], []) S (Qi Q) := by
  rcases hw with rfl | rfl
  · unfold w30_b220 at h
    refine A_nx 2 (fr' := (30, 37, [some (.ref 1), none, none, some (.ref 18), none, some (.int x5), some (.int x6), some (.int (x7 + (1 : Int32))), none], [])) (S' := S) rfl ?_
    refine ri_A.less (m := 30) (pc := 37) (L := [some (.ref 1), none, none, some (.ref 18), none, some (.int x5), some (.int x6), some (.int (x7 + (1 : Int32))), none]) (L' := [some (.ref 1), none, none, some (.ref 18), none, some (.int x5), some (.int x6), some (.int (x7 + (1 : Int32))), none]) (st := []) ⟨rfl, ⟨rfl, ⟨rfl, ⟨rfl, ⟨rfl, trivial⟩⟩⟩⟩⟩ ?_
    exact hK37 _ _ _ _ h
  · unfold w30_b220 at h
    refine A_nx 2 (fr' := (30, 37, [some (.ref 1), none, none, some (.ref 27), none, some (.int x5), some (.int x6), some (.int (x7 + (1 : Int32))), none], [])) (S' := S) rfl ?_
    refine ri_A.less (m := 30) (pc := 37) (L := [some (.ref 1), none, none, some (.ref 27), none, some (.int x5), some (.int x6), some (.int (x7 + (1 : Int32))), none]) (L' := [some (.ref 1), none, none, some (.ref 27), none, some (.int x5), some (.int x6), some (.int (x7 + (1 : Int32))), none]) (st := []) ⟨rfl, ⟨rfl, ⟨rfl, ⟨rfl, ⟨rfl, trivial⟩⟩⟩⟩⟩ ?_
    exact hK37 _ _ _ _ h
def w30_b175 (q : Nat) (K37 : Int32 → Int32 → Int32 → ri_H → Prop) (Q : Int32 → ri_H → Prop) (x5 : Int32) (x6 : Int32) (x7 : Int32) (s0 : Int32) (s1 : Int32) (S : ri_H) : Prop := w30_b220 q K37 Q x5 x6 x7 (ri_wr S 4 (pu 160 (S.1 4) s1 s0))
set_option maxRecDepth 10000 in
set_option maxHeartbeats 1000000 in
theorem wt30_b175 {E : ri_E} (q : Nat) (hw : q = 18 ∨ q = 27) {K37 : Int32 → Int32 → Int32 → ri_H → Prop} {Q : Int32 → ri_H → Prop} (hK37 : ∀ (x5 : Int32) (x6 : Int32) (x7 : Int32) (S : ri_H), K37 x5 x6 x7 S → ri_A E 1 (30, 37, [some (.ref 1), none, none, some (.ref q), none, some (.int x5), some (.int x6), some (.int x7), none], []) S (Qi Q)) (x5 : Int32) (x6 : Int32) (x7 : Int32) (s0 : Int32) (s1 : Int32) (S : ri_H) (h : w30_b175 q K37 Q x5 x6 x7 s0 s1 S) : ri_A E 1 (30, 175, [some (.ref 1), none, none, some (.ref q), none, some (.int x5), some (.int x6), some (.int x7), none], [.int s0, .int s1, .ref 4]) S (Qi Q) := by
  rcases hw with rfl | rfl
  · unfold w30_b175 at h
    refine A_call (j := 99) (As := [.ref 4, .int s1, .int s0]) (fr' := (30, 178, [some (.ref 1), none, none, some (.ref 18), none, some (.int x5), some (.int x6), some (.int x7), none], [])) (S' := S) 1 rfl (e := 0) (by omega) (sp_putItem 4 160 _ _ ⟨by decide, by decide, rfl⟩ (by decide) ?_)
    refine A_nx 1 (fr' := (30, 220, [some (.ref 1), none, none, some (.ref 18), none, some (.int x5), some (.int x6), some (.int x7), none], [])) (S' := (ri_wr S 4 (pu 160 (S.1 4) s1 s0))) rfl ?_
    refine ri_A.less (m := 30) (pc := 220) (L := [some (.ref 1), none, none, some (.ref 18), none, some (.int x5), some (.int x6), some (.int x7), none]) (L' := [some (.ref 1), none, none, some (.ref 18), none, some (.int x5), some (.int x6), some (.int x7), none]) (st := []) ⟨rfl, ⟨rfl, ⟨rfl, ⟨rfl, ⟨rfl, trivial⟩⟩⟩⟩⟩ ?_
    exact wt30_b220 18 (by decide) hK37 _ _ _ _ h
  · unfold w30_b175 at h
    refine A_call (j := 99) (As := [.ref 4, .int s1, .int s0]) (fr' := (30, 178, [some (.ref 1), none, none, some (.ref 27), none, some (.int x5), some (.int x6), some (.int x7), none], [])) (S' := S) 1 rfl (e := 0) (by omega) (sp_putItem 4 160 _ _ ⟨by decide, by decide, rfl⟩ (by decide) ?_)
    refine A_nx 1 (fr' := (30, 220, [some (.ref 1), none, none, some (.ref 27), none, some (.int x5), some (.int x6), some (.int x7), none], [])) (S' := (ri_wr S 4 (pu 160 (S.1 4) s1 s0))) rfl ?_
    refine ri_A.less (m := 30) (pc := 220) (L := [some (.ref 1), none, none, some (.ref 27), none, some (.int x5), some (.int x6), some (.int x7), none]) (L' := [some (.ref 1), none, none, some (.ref 27), none, some (.int x5), some (.int x6), some (.int x7), none]) (st := []) ⟨rfl, ⟨rfl, ⟨rfl, ⟨rfl, ⟨rfl, trivial⟩⟩⟩⟩⟩ ?_
    exact wt30_b220 27 (by decide) hK37 _ _ _ _ h
def w30_b99 (q : Nat) (K37 : Int32 → Int32 → Int32 → ri_H → Prop) (Q : Int32 → ri_H → Prop) (x5 : Int32) (x6 : Int32) (x7 : Int32) (s0 : Int32) (s1 : Int32) (S : ri_H) : Prop := w30_b220 q K37 Q x5 (x6 + (1 : Int32)) x7 (ri_wr S 4 (pu 160 (S.1 4) s1 s0))
set_option maxRecDepth 10000 in
set_option maxHeartbeats 1000000 in
theorem wt30_b99 {E : ri_E} (q : Nat) (hw : q = 18 ∨ q = 27) {K37 : Int32 → Int32 → Int32 → ri_H → Prop} {Q : Int32 → ri_H → Prop} (hK37 : ∀ (x5 : Int32) (x6 : Int32) (x7 : Int32) (S : ri_H), K37 x5 x6 x7 S → ri_A E 1 (30, 37, [some (.ref 1), none, none, some (.ref q), none, some (.int x5), some (.int x6), some (.int x7), none], []) S (Qi Q)) (x5 : Int32) (x6 : Int32) (x7 : Int32) (s0 : Int32) (s1 : Int32) (S : ri_H) (h : w30_b99 q K37 Q x5 x6 x7 s0 s1 S) : ri_A E 1 (30, 99, [some (.ref 1), none, none, some (.ref q), none, some (.int x5), some (.int x6), some (.int x7), none], [.int s0, .int s1, .ref 4]) S (Qi Q) := by
  rcases hw with rfl | rfl
  · unfold w30_b99 at h
    refine A_call (j := 99) (As := [.ref 4, .int s1, .int s0]) (fr' := (30, 102, [some (.ref 1), none, none, some (.ref 18), none, some (.int x5), some (.int x6), some (.int x7), none], [])) (S' := S) 1 rfl (e := 0) (by omega) (sp_putItem 4 160 _ _ ⟨by decide, by decide, rfl⟩ (by decide) ?_)
    refine A_nx 2 (fr' := (30, 220, [some (.ref 1), none, none, some (.ref 18), none, some (.int x5), some (.int (x6 + (1 : Int32))), some (.int x7), none], [])) (S' := (ri_wr S 4 (pu 160 (S.1 4) s1 s0))) rfl ?_
    refine ri_A.less (m := 30) (pc := 220) (L := [some (.ref 1), none, none, some (.ref 18), none, some (.int x5), some (.int (x6 + (1 : Int32))), some (.int x7), none]) (L' := [some (.ref 1), none, none, some (.ref 18), none, some (.int x5), some (.int (x6 + (1 : Int32))), some (.int x7), none]) (st := []) ⟨rfl, ⟨rfl, ⟨rfl, ⟨rfl, ⟨rfl, trivial⟩⟩⟩⟩⟩ ?_
    exact wt30_b220 18 (by decide) hK37 _ _ _ _ h
  · unfold w30_b99 at h
    refine A_call (j := 99) (As := [.ref 4, .int s1, .int s0]) (fr' := (30, 102, [some (.ref 1), none, none, some (.ref 27), none, some (.int x5), some (.int x6), some (.int x7), none], [])) (S' := S) 1 rfl (e := 0) (by omega) (sp_putItem 4 160 _ _ ⟨by decide, by decide, rfl⟩ (by decide) ?_)
    refine A_nx 2 (fr' := (30, 220, [some (.ref 1), none, none, some (.ref 27), none, some (.int x5), some (.int (x6 + (1 : Int32))), some (.int x7), none], [])) (S' := (ri_wr S 4 (pu 160 (S.1 4) s1 s0))) rfl ?_
    refine ri_A.less (m := 30) (pc := 220) (L := [some (.ref 1), none, none, some (.ref 27), none, some (.int x5), some (.int (x6 + (1 : Int32))), some (.int x7), none]) (L' := [some (.ref 1), none, none, some (.ref 27), none, some (.int x5), some (.int (x6 + (1 : Int32))), some (.int x7), none]) (st := []) ⟨rfl, ⟨rfl, ⟨rfl, ⟨rfl, ⟨rfl, trivial⟩⟩⟩⟩⟩ ?_
    exact wt30_b220 27 (by decide) hK37 _ _ _ _ h
def w30_l37 (q : Nat) (Q : Int32 → ri_H → Prop) : Nat → Int32 → Int32 → Int32 → ri_H → Prop
  | 0, _, _, _, _ => False
  | n + 1, x5, x6, x7, S => ((x7 < 0 → w30_b226 q  Q  S) ∧ (¬ (x7 < 0) → ((x5 ≤ x7 → w30_b226 q  Q  S) ∧ (¬ (x5 ≤ x7) → (((960 : Int32) ≤ x7 → w30_b226 q  Q  S) ∧ (¬ (960 : Int32) ≤ x7 → (vp_in x7 960 ∧ (((S.1 2 (x7).toNatClampNeg) < (-6 : Int32) → ((¬ (S.1 2 (x7).toNatClampNeg) = (-7 : Int32) → ((¬ (S.1 2 (x7).toNatClampNeg) = (-8 : Int32) → w30_b220 q (fun x5 x6 x7 S => w30_l37 q  Q n x5 x6 x7 S) Q x5 (x6 + (-1 : Int32)) x7 (ri_wr S 4 (pu 160 (S.1 4) ((x6 + (-1 : Int32)) - (1 : Int32)) (jn (S.1 2 (x7).toNatClampNeg) (it (S.1 4) 160 ((x6 + (-1 : Int32)) - (1 : Int32))) (it (S.1 4) 160 (x6 + (-1 : Int32))))))) ∧ (¬ (¬ (S.1 2 (x7).toNatClampNeg) = (-8 : Int32)) → ((¬ (it (S.1 4) 160 (x6 - (1 : Int32))) = 0 → w30_b175 q (fun x5 x6 x7 S => w30_l37 q  Q n x5 x6 x7 S) Q x5 x6 x7 (0 : Int32) (x6 - (1 : Int32)) S) ∧ (¬ (¬ (it (S.1 4) 160 (x6 - (1 : Int32))) = 0) → w30_b175 q (fun x5 x6 x7 S => w30_l37 q  Q n x5 x6 x7 S) Q x5 x6 x7 (1 : Int32) (x6 - (1 : Int32)) S))))) ∧ (¬ (¬ (S.1 2 (x7).toNatClampNeg) = (-7 : Int32)) → w30_b220 q (fun x5 x6 x7 S => w30_l37 q  Q n x5 x6 x7 S) Q x5 x6 x7 (ri_wr S 4 (pu 160 (S.1 4) (x6 - (1 : Int32)) (-(it (S.1 4) 160 (x6 - (1 : Int32))))))))) ∧ (¬ (S.1 2 (x7).toNatClampNeg) < (-6 : Int32) → (((S.1 2 (x7).toNatClampNeg) < 0 → w30_b99 q (fun x5 x6 x7 S => w30_l37 q  Q n x5 x6 x7 S) Q x5 x6 x7 (it (S.1 q) 6 ((-1 : Int32) - (S.1 2 (x7).toNatClampNeg))) x6 S) ∧ (¬ (S.1 2 (x7).toNatClampNeg) < 0 → w30_b99 q (fun x5 x6 x7 S => w30_l37 q  Q n x5 x6 x7 S) Q x5 x6 x7 (S.1 2 (x7).toNatClampNeg) x6 S)))))))))))
set_option maxRecDepth 10000 in
set_option maxHeartbeats 1000000 in
theorem wt30_l37 {E : ri_E} (q : Nat) (hw : q = 18 ∨ q = 27) {Q : Int32 → ri_H → Prop} : ∀ (n : Nat) (x5 : Int32) (x6 : Int32) (x7 : Int32) (S : ri_H), w30_l37 q  Q n x5 x6 x7 S → ri_A E 1 (30, 37, [some (.ref 1), none, none, some (.ref q), none, some (.int x5), some (.int x6), some (.int x7), none], []) S (Qi Q) := by
  rcases hw with rfl | rfl
  · intro n
    induction n with
    | zero => intro x5 x6 x7 S h; exact h.elim
    | succ n ih =>
      intro x5 x6 x7 S h
      unfold w30_l37 at h
      refine A_br (x7 < 0) (r1 := ((30, 226, [some (.ref 1), none, none, some (.ref 18), none, some (.int x5), some (.int x6), some (.int x7), none], []), S)) (r2 := ((30, 42, [some (.ref 1), none, none, some (.ref 18), none, some (.int x5), some (.int x6), some (.int x7), none], []), S)) 2 rfl (fun c => ?_) (fun c => ?_)
      · have h := h.1 c
        refine ri_A.less (m := 30) (pc := 226) (L := [some (.ref 1), none, none, some (.ref 18), none, some (.int x5), some (.int x6), some (.int x7), none]) (L' := [some (.ref 1), none, none, none, none, none, none, none, none]) (st := []) ⟨rfl, trivial⟩ ?_
        exact wt30_b226 18 (by decide)  _ h
      · have h := h.2 c
        refine A_br (x5 ≤ x7) (r1 := ((30, 226, [some (.ref 1), none, none, some (.ref 18), none, some (.int x5), some (.int x6), some (.int x7), none], []), S)) (r2 := ((30, 49, [some (.ref 1), none, none, some (.ref 18), none, some (.int x5), some (.int x6), some (.int x7), none], []), S)) 3 rfl (fun c => ?_) (fun c => ?_)
        · have h := h.1 c
          refine ri_A.less (m := 30) (pc := 226) (L := [some (.ref 1), none, none, some (.ref 18), none, some (.int x5), some (.int x6), some (.int x7), none]) (L' := [some (.ref 1), none, none, none, none, none, none, none, none]) (st := []) ⟨rfl, trivial⟩ ?_
          exact wt30_b226 18 (by decide)  _ h
        · have h := h.2 c
          refine A_br ((960 : Int32) ≤ x7) (r1 := ((30, 226, [some (.ref 1), none, none, some (.ref 18), none, some (.int x5), some (.int x6), some (.int x7), none], []), S)) (r2 := ((30, 59, [some (.ref 1), none, none, some (.ref 18), none, some (.int x5), some (.int x6), some (.int x7), none], []), S)) 5 rfl (fun c => ?_) (fun c => ?_)
          · have h := h.1 c
            refine ri_A.less (m := 30) (pc := 226) (L := [some (.ref 1), none, none, some (.ref 18), none, some (.int x5), some (.int x6), some (.int x7), none]) (L' := [some (.ref 1), none, none, none, none, none, none, none, none]) (st := []) ⟨rfl, trivial⟩ ?_
            exact wt30_b226 18 (by decide)  _ h
          · have h := h.2 c
            refine A_ix x7 960 (r1 := ((30, 66, [some (.ref 1), none, none, some (.ref 18), none, some (.int x5), some (.int x6), some (.int x7), none], [.int (S.1 2 (x7).toNatClampNeg)]), S)) 4 rfl h.1 ?_
            have h := h.2
            refine A_br ((S.1 2 (x7).toNatClampNeg) < (-6 : Int32)) (r1 := ((30, 108, [some (.ref 1), none, none, some (.ref 18), none, some (.int x5), some (.int x6), some (.int x7), some (.int (S.1 2 (x7).toNatClampNeg))], []), S)) (r2 := ((30, 75, [some (.ref 1), none, none, some (.ref 18), none, some (.int x5), some (.int x6), some (.int x7), some (.int (S.1 2 (x7).toNatClampNeg))], []), S)) 4 rfl (fun c => ?_) (fun c => ?_)
            · have h := h.1 c
              refine A_br (¬ (S.1 2 (x7).toNatClampNeg) = (-7 : Int32)) (r1 := ((30, 141, [some (.ref 1), none, none, some (.ref 18), none, some (.int x5), some (.int x6), some (.int x7), some (.int (S.1 2 (x7).toNatClampNeg))], []), S)) (r2 := ((30, 115, [some (.ref 1), none, none, some (.ref 18), none, some (.int x5), some (.int x6), some (.int x7), some (.int (S.1 2 (x7).toNatClampNeg))], []), S)) 3 rfl (fun c => ?_) (fun c => ?_)
              · have h := h.1 c
                refine A_br (¬ (S.1 2 (x7).toNatClampNeg) = (-8 : Int32)) (r1 := ((30, 181, [some (.ref 1), none, none, some (.ref 18), none, some (.int x5), some (.int x6), some (.int x7), some (.int (S.1 2 (x7).toNatClampNeg))], []), S)) (r2 := ((30, 148, [some (.ref 1), none, none, some (.ref 18), none, some (.int x5), some (.int x6), some (.int x7), some (.int (S.1 2 (x7).toNatClampNeg))], []), S)) 3 rfl (fun c => ?_) (fun c => ?_)
                · have h := h.1 c
                  refine A_call (j := 98) (As := [.ref 4, .int ((x6 + (-1 : Int32)) - (1 : Int32))]) (fr' := (30, 205, [some (.ref 1), none, none, some (.ref 18), none, some (.int x5), some (.int (x6 + (-1 : Int32))), some (.int x7), some (.int (S.1 2 (x7).toNatClampNeg))], [.int (S.1 2 (x7).toNatClampNeg), .int ((x6 + (-1 : Int32)) - (1 : Int32)), .ref 4])) (S' := S) 13 rfl (e := 0) (by omega) (sp_item 4 160 _ ⟨by decide, by decide, rfl⟩ (by decide) ?_)
                  refine A_call (j := 98) (As := [.ref 4, .int (x6 + (-1 : Int32))]) (fr' := (30, 214, [some (.ref 1), none, none, some (.ref 18), none, some (.int x5), some (.int (x6 + (-1 : Int32))), some (.int x7), some (.int (S.1 2 (x7).toNatClampNeg))], [.int (it (S.1 4) 160 ((x6 + (-1 : Int32)) - (1 : Int32))), .int (S.1 2 (x7).toNatClampNeg), .int ((x6 + (-1 : Int32)) - (1 : Int32)), .ref 4])) (S' := S) 4 rfl (e := 0) (by omega) (sp_item 4 160 _ ⟨by decide, by decide, rfl⟩ (by decide) ?_)
                  refine A_call (j := 32) (As := [.int (S.1 2 (x7).toNatClampNeg), .int (it (S.1 4) 160 ((x6 + (-1 : Int32)) - (1 : Int32))), .int (it (S.1 4) 160 (x6 + (-1 : Int32)))]) (fr' := (30, 217, [some (.ref 1), none, none, some (.ref 18), none, some (.int x5), some (.int (x6 + (-1 : Int32))), some (.int x7), some (.int (S.1 2 (x7).toNatClampNeg))], [.int ((x6 + (-1 : Int32)) - (1 : Int32)), .ref 4])) (S' := S) 1 rfl (e := 0) (by omega) (sp_joined _ _ _ ?_)
                  refine A_call (j := 99) (As := [.ref 4, .int ((x6 + (-1 : Int32)) - (1 : Int32)), .int (jn (S.1 2 (x7).toNatClampNeg) (it (S.1 4) 160 ((x6 + (-1 : Int32)) - (1 : Int32))) (it (S.1 4) 160 (x6 + (-1 : Int32))))]) (fr' := (30, 220, [some (.ref 1), none, none, some (.ref 18), none, some (.int x5), some (.int (x6 + (-1 : Int32))), some (.int x7), some (.int (S.1 2 (x7).toNatClampNeg))], [])) (S' := S) 1 rfl (e := 0) (by omega) (sp_putItem 4 160 _ _ ⟨by decide, by decide, rfl⟩ (by decide) ?_)
                  refine ri_A.less (m := 30) (pc := 220) (L := [some (.ref 1), none, none, some (.ref 18), none, some (.int x5), some (.int (x6 + (-1 : Int32))), some (.int x7), some (.int (S.1 2 (x7).toNatClampNeg))]) (L' := [some (.ref 1), none, none, some (.ref 18), none, some (.int x5), some (.int (x6 + (-1 : Int32))), some (.int x7), none]) (st := []) ⟨rfl, ⟨rfl, ⟨rfl, ⟨rfl, ⟨rfl, trivial⟩⟩⟩⟩⟩ ?_
                  exact wt30_b220 18 (by decide) (fun x5 x6 x7 S hk => ih x5 x6 x7 S hk) _ _ _ _ h
                · have h := h.2 c
                  refine A_call (j := 98) (As := [.ref 4, .int (x6 - (1 : Int32))]) (fr' := (30, 167, [some (.ref 1), none, none, some (.ref 18), none, some (.int x5), some (.int x6), some (.int x7), some (.int (S.1 2 (x7).toNatClampNeg))], [.int (x6 - (1 : Int32)), .ref 4])) (S' := S) 11 rfl (e := 0) (by omega) (sp_item 4 160 _ ⟨by decide, by decide, rfl⟩ (by decide) ?_)
                  refine A_br (¬ (it (S.1 4) 160 (x6 - (1 : Int32))) = 0) (r1 := ((30, 174, [some (.ref 1), none, none, some (.ref 18), none, some (.int x5), some (.int x6), some (.int x7), some (.int (S.1 2 (x7).toNatClampNeg))], [.int (x6 - (1 : Int32)), .ref 4]), S)) (r2 := ((30, 170, [some (.ref 1), none, none, some (.ref 18), none, some (.int x5), some (.int x6), some (.int x7), some (.int (S.1 2 (x7).toNatClampNeg))], [.int (x6 - (1 : Int32)), .ref 4]), S)) 1 rfl (fun c => ?_) (fun c => ?_)
                  · have h := h.1 c
                    refine A_nx 1 (fr' := (30, 175, [some (.ref 1), none, none, some (.ref 18), none, some (.int x5), some (.int x6), some (.int x7), some (.int (S.1 2 (x7).toNatClampNeg))], [.int (0 : Int32), .int (x6 - (1 : Int32)), .ref 4])) (S' := S) rfl ?_
                    refine ri_A.less (m := 30) (pc := 175) (L := [some (.ref 1), none, none, some (.ref 18), none, some (.int x5), some (.int x6), some (.int x7), some (.int (S.1 2 (x7).toNatClampNeg))]) (L' := [some (.ref 1), none, none, some (.ref 18), none, some (.int x5), some (.int x6), some (.int x7), none]) (st := [.int (0 : Int32), .int (x6 - (1 : Int32)), .ref 4]) ⟨rfl, ⟨rfl, ⟨rfl, ⟨rfl, ⟨rfl, trivial⟩⟩⟩⟩⟩ ?_
                    exact wt30_b175 18 (by decide) (fun x5 x6 x7 S hk => ih x5 x6 x7 S hk) _ _ _ _ _ _ h
                  · have h := h.2 c
                    refine A_nx 2 (fr' := (30, 175, [some (.ref 1), none, none, some (.ref 18), none, some (.int x5), some (.int x6), some (.int x7), some (.int (S.1 2 (x7).toNatClampNeg))], [.int (1 : Int32), .int (x6 - (1 : Int32)), .ref 4])) (S' := S) rfl ?_
                    refine ri_A.less (m := 30) (pc := 175) (L := [some (.ref 1), none, none, some (.ref 18), none, some (.int x5), some (.int x6), some (.int x7), some (.int (S.1 2 (x7).toNatClampNeg))]) (L' := [some (.ref 1), none, none, some (.ref 18), none, some (.int x5), some (.int x6), some (.int x7), none]) (st := [.int (1 : Int32), .int (x6 - (1 : Int32)), .ref 4]) ⟨rfl, ⟨rfl, ⟨rfl, ⟨rfl, ⟨rfl, trivial⟩⟩⟩⟩⟩ ?_
                    exact wt30_b175 18 (by decide) (fun x5 x6 x7 S hk => ih x5 x6 x7 S hk) _ _ _ _ _ _ h
              · have h := h.2 c
                refine A_call (j := 98) (As := [.ref 4, .int (x6 - (1 : Int32))]) (fr' := (30, 134, [some (.ref 1), none, none, some (.ref 18), none, some (.int x5), some (.int x6), some (.int x7), some (.int (S.1 2 (x7).toNatClampNeg))], [.int (x6 - (1 : Int32)), .ref 4])) (S' := S) 11 rfl (e := 0) (by omega) (sp_item 4 160 _ ⟨by decide, by decide, rfl⟩ (by decide) ?_)
                refine A_call (j := 99) (As := [.ref 4, .int (x6 - (1 : Int32)), .int (-(it (S.1 4) 160 (x6 - (1 : Int32))))]) (fr' := (30, 138, [some (.ref 1), none, none, some (.ref 18), none, some (.int x5), some (.int x6), some (.int x7), some (.int (S.1 2 (x7).toNatClampNeg))], [])) (S' := S) 2 rfl (e := 0) (by omega) (sp_putItem 4 160 _ _ ⟨by decide, by decide, rfl⟩ (by decide) ?_)
                refine A_nx 1 (fr' := (30, 220, [some (.ref 1), none, none, some (.ref 18), none, some (.int x5), some (.int x6), some (.int x7), some (.int (S.1 2 (x7).toNatClampNeg))], [])) (S' := (ri_wr S 4 (pu 160 (S.1 4) (x6 - (1 : Int32)) (-(it (S.1 4) 160 (x6 - (1 : Int32))))))) rfl ?_
                refine ri_A.less (m := 30) (pc := 220) (L := [some (.ref 1), none, none, some (.ref 18), none, some (.int x5), some (.int x6), some (.int x7), some (.int (S.1 2 (x7).toNatClampNeg))]) (L' := [some (.ref 1), none, none, some (.ref 18), none, some (.int x5), some (.int x6), some (.int x7), none]) (st := []) ⟨rfl, ⟨rfl, ⟨rfl, ⟨rfl, ⟨rfl, trivial⟩⟩⟩⟩⟩ ?_
                exact wt30_b220 18 (by decide) (fun x5 x6 x7 S hk => ih x5 x6 x7 S hk) _ _ _ _ h
            · have h := h.2 c
              refine A_br ((S.1 2 (x7).toNatClampNeg) < 0) (r1 := ((30, 91, [some (.ref 1), none, none, some (.ref 18), none, some (.int x5), some (.int x6), some (.int x7), some (.int (S.1 2 (x7).toNatClampNeg))], [.int x6, .ref 4]), S)) (r2 := ((30, 86, [some (.ref 1), none, none, some (.ref 18), none, some (.int x5), some (.int x6), some (.int x7), some (.int (S.1 2 (x7).toNatClampNeg))], [.int x6, .ref 4]), S)) 5 rfl (fun c => ?_) (fun c => ?_)
              · have h := h.1 c
                refine A_call (j := 98) (As := [.ref 18, .int ((-1 : Int32) - (S.1 2 (x7).toNatClampNeg))]) (fr' := (30, 99, [some (.ref 1), none, none, some (.ref 18), none, some (.int x5), some (.int x6), some (.int x7), some (.int (S.1 2 (x7).toNatClampNeg))], [.int x6, .ref 4])) (S' := S) 5 rfl (e := 0) (by omega) (sp_item 18 6 _ ⟨by decide, by decide, rfl⟩ (by decide) ?_)
                refine ri_A.less (m := 30) (pc := 99) (L := [some (.ref 1), none, none, some (.ref 18), none, some (.int x5), some (.int x6), some (.int x7), some (.int (S.1 2 (x7).toNatClampNeg))]) (L' := [some (.ref 1), none, none, some (.ref 18), none, some (.int x5), some (.int x6), some (.int x7), none]) (st := [.int (it (S.1 18) 6 ((-1 : Int32) - (S.1 2 (x7).toNatClampNeg))), .int x6, .ref 4]) ⟨rfl, ⟨rfl, ⟨rfl, ⟨rfl, ⟨rfl, trivial⟩⟩⟩⟩⟩ ?_
                exact wt30_b99 18 (by decide) (fun x5 x6 x7 S hk => ih x5 x6 x7 S hk) _ _ _ _ _ _ h
              · have h := h.2 c
                refine A_nx 2 (fr' := (30, 99, [some (.ref 1), none, none, some (.ref 18), none, some (.int x5), some (.int x6), some (.int x7), some (.int (S.1 2 (x7).toNatClampNeg))], [.int (S.1 2 (x7).toNatClampNeg), .int x6, .ref 4])) (S' := S) rfl ?_
                refine ri_A.less (m := 30) (pc := 99) (L := [some (.ref 1), none, none, some (.ref 18), none, some (.int x5), some (.int x6), some (.int x7), some (.int (S.1 2 (x7).toNatClampNeg))]) (L' := [some (.ref 1), none, none, some (.ref 18), none, some (.int x5), some (.int x6), some (.int x7), none]) (st := [.int (S.1 2 (x7).toNatClampNeg), .int x6, .ref 4]) ⟨rfl, ⟨rfl, ⟨rfl, ⟨rfl, ⟨rfl, trivial⟩⟩⟩⟩⟩ ?_
                exact wt30_b99 18 (by decide) (fun x5 x6 x7 S hk => ih x5 x6 x7 S hk) _ _ _ _ _ _ h
  · intro n
    induction n with
    | zero => intro x5 x6 x7 S h; exact h.elim
    | succ n ih =>
      intro x5 x6 x7 S h
      unfold w30_l37 at h
      refine A_br (x7 < 0) (r1 := ((30, 226, [some (.ref 1), none, none, some (.ref 27), none, some (.int x5), some (.int x6), some (.int x7), none], []), S)) (r2 := ((30, 42, [some (.ref 1), none, none, some (.ref 27), none, some (.int x5), some (.int x6), some (.int x7), none], []), S)) 2 rfl (fun c => ?_) (fun c => ?_)
      · have h := h.1 c
        refine ri_A.less (m := 30) (pc := 226) (L := [some (.ref 1), none, none, some (.ref 27), none, some (.int x5), some (.int x6), some (.int x7), none]) (L' := [some (.ref 1), none, none, none, none, none, none, none, none]) (st := []) ⟨rfl, trivial⟩ ?_
        exact wt30_b226 27 (by decide)  _ h
      · have h := h.2 c
        refine A_br (x5 ≤ x7) (r1 := ((30, 226, [some (.ref 1), none, none, some (.ref 27), none, some (.int x5), some (.int x6), some (.int x7), none], []), S)) (r2 := ((30, 49, [some (.ref 1), none, none, some (.ref 27), none, some (.int x5), some (.int x6), some (.int x7), none], []), S)) 3 rfl (fun c => ?_) (fun c => ?_)
        · have h := h.1 c
          refine ri_A.less (m := 30) (pc := 226) (L := [some (.ref 1), none, none, some (.ref 27), none, some (.int x5), some (.int x6), some (.int x7), none]) (L' := [some (.ref 1), none, none, none, none, none, none, none, none]) (st := []) ⟨rfl, trivial⟩ ?_
          exact wt30_b226 27 (by decide)  _ h
        · have h := h.2 c
          refine A_br ((960 : Int32) ≤ x7) (r1 := ((30, 226, [some (.ref 1), none, none, some (.ref 27), none, some (.int x5), some (.int x6), some (.int x7), none], []), S)) (r2 := ((30, 59, [some (.ref 1), none, none, some (.ref 27), none, some (.int x5), some (.int x6), some (.int x7), none], []), S)) 5 rfl (fun c => ?_) (fun c => ?_)
          · have h := h.1 c
            refine ri_A.less (m := 30) (pc := 226) (L := [some (.ref 1), none, none, some (.ref 27), none, some (.int x5), some (.int x6), some (.int x7), none]) (L' := [some (.ref 1), none, none, none, none, none, none, none, none]) (st := []) ⟨rfl, trivial⟩ ?_
            exact wt30_b226 27 (by decide)  _ h
          · have h := h.2 c
            refine A_ix x7 960 (r1 := ((30, 66, [some (.ref 1), none, none, some (.ref 27), none, some (.int x5), some (.int x6), some (.int x7), none], [.int (S.1 2 (x7).toNatClampNeg)]), S)) 4 rfl h.1 ?_
            have h := h.2
            refine A_br ((S.1 2 (x7).toNatClampNeg) < (-6 : Int32)) (r1 := ((30, 108, [some (.ref 1), none, none, some (.ref 27), none, some (.int x5), some (.int x6), some (.int x7), some (.int (S.1 2 (x7).toNatClampNeg))], []), S)) (r2 := ((30, 75, [some (.ref 1), none, none, some (.ref 27), none, some (.int x5), some (.int x6), some (.int x7), some (.int (S.1 2 (x7).toNatClampNeg))], []), S)) 4 rfl (fun c => ?_) (fun c => ?_)
            · have h := h.1 c
              refine A_br (¬ (S.1 2 (x7).toNatClampNeg) = (-7 : Int32)) (r1 := ((30, 141, [some (.ref 1), none, none, some (.ref 27), none, some (.int x5), some (.int x6), some (.int x7), some (.int (S.1 2 (x7).toNatClampNeg))], []), S)) (r2 := ((30, 115, [some (.ref 1), none, none, some (.ref 27), none, some (.int x5), some (.int x6), some (.int x7), some (.int (S.1 2 (x7).toNatClampNeg))], []), S)) 3 rfl (fun c => ?_) (fun c => ?_)
              · have h := h.1 c
                refine A_br (¬ (S.1 2 (x7).toNatClampNeg) = (-8 : Int32)) (r1 := ((30, 181, [some (.ref 1), none, none, some (.ref 27), none, some (.int x5), some (.int x6), some (.int x7), some (.int (S.1 2 (x7).toNatClampNeg))], []), S)) (r2 := ((30, 148, [some (.ref 1), none, none, some (.ref 27), none, some (.int x5), some (.int x6), some (.int x7), some (.int (S.1 2 (x7).toNatClampNeg))], []), S)) 3 rfl (fun c => ?_) (fun c => ?_)
                · have h := h.1 c
                  refine A_call (j := 98) (As := [.ref 4, .int ((x6 + (-1 : Int32)) - (1 : Int32))]) (fr' := (30, 205, [some (.ref 1), none, none, some (.ref 27), none, some (.int x5), some (.int (x6 + (-1 : Int32))), some (.int x7), some (.int (S.1 2 (x7).toNatClampNeg))], [.int (S.1 2 (x7).toNatClampNeg), .int ((x6 + (-1 : Int32)) - (1 : Int32)), .ref 4])) (S' := S) 13 rfl (e := 0) (by omega) (sp_item 4 160 _ ⟨by decide, by decide, rfl⟩ (by decide) ?_)
                  refine A_call (j := 98) (As := [.ref 4, .int (x6 + (-1 : Int32))]) (fr' := (30, 214, [some (.ref 1), none, none, some (.ref 27), none, some (.int x5), some (.int (x6 + (-1 : Int32))), some (.int x7), some (.int (S.1 2 (x7).toNatClampNeg))], [.int (it (S.1 4) 160 ((x6 + (-1 : Int32)) - (1 : Int32))), .int (S.1 2 (x7).toNatClampNeg), .int ((x6 + (-1 : Int32)) - (1 : Int32)), .ref 4])) (S' := S) 4 rfl (e := 0) (by omega) (sp_item 4 160 _ ⟨by decide, by decide, rfl⟩ (by decide) ?_)
                  refine A_call (j := 32) (As := [.int (S.1 2 (x7).toNatClampNeg), .int (it (S.1 4) 160 ((x6 + (-1 : Int32)) - (1 : Int32))), .int (it (S.1 4) 160 (x6 + (-1 : Int32)))]) (fr' := (30, 217, [some (.ref 1), none, none, some (.ref 27), none, some (.int x5), some (.int (x6 + (-1 : Int32))), some (.int x7), some (.int (S.1 2 (x7).toNatClampNeg))], [.int ((x6 + (-1 : Int32)) - (1 : Int32)), .ref 4])) (S' := S) 1 rfl (e := 0) (by omega) (sp_joined _ _ _ ?_)
                  refine A_call (j := 99) (As := [.ref 4, .int ((x6 + (-1 : Int32)) - (1 : Int32)), .int (jn (S.1 2 (x7).toNatClampNeg) (it (S.1 4) 160 ((x6 + (-1 : Int32)) - (1 : Int32))) (it (S.1 4) 160 (x6 + (-1 : Int32))))]) (fr' := (30, 220, [some (.ref 1), none, none, some (.ref 27), none, some (.int x5), some (.int (x6 + (-1 : Int32))), some (.int x7), some (.int (S.1 2 (x7).toNatClampNeg))], [])) (S' := S) 1 rfl (e := 0) (by omega) (sp_putItem 4 160 _ _ ⟨by decide, by decide, rfl⟩ (by decide) ?_)
                  refine ri_A.less (m := 30) (pc := 220) (L := [some (.ref 1), none, none, some (.ref 27), none, some (.int x5), some (.int (x6 + (-1 : Int32))), some (.int x7), some (.int (S.1 2 (x7).toNatClampNeg))]) (L' := [some (.ref 1), none, none, some (.ref 27), none, some (.int x5), some (.int (x6 + (-1 : Int32))), some (.int x7), none]) (st := []) ⟨rfl, ⟨rfl, ⟨rfl, ⟨rfl, ⟨rfl, trivial⟩⟩⟩⟩⟩ ?_
                  exact wt30_b220 27 (by decide) (fun x5 x6 x7 S hk => ih x5 x6 x7 S hk) _ _ _ _ h
                · have h := h.2 c
                  refine A_call (j := 98) (As := [.ref 4, .int (x6 - (1 : Int32))]) (fr' := (30, 167, [some (.ref 1), none, none, some (.ref 27), none, some (.int x5), some (.int x6), some (.int x7), some (.int (S.1 2 (x7).toNatClampNeg))], [.int (x6 - (1 : Int32)), .ref 4])) (S' := S) 11 rfl (e := 0) (by omega) (sp_item 4 160 _ ⟨by decide, by decide, rfl⟩ (by decide) ?_)
                  refine A_br (¬ (it (S.1 4) 160 (x6 - (1 : Int32))) = 0) (r1 := ((30, 174, [some (.ref 1), none, none, some (.ref 27), none, some (.int x5), some (.int x6), some (.int x7), some (.int (S.1 2 (x7).toNatClampNeg))], [.int (x6 - (1 : Int32)), .ref 4]), S)) (r2 := ((30, 170, [some (.ref 1), none, none, some (.ref 27), none, some (.int x5), some (.int x6), some (.int x7), some (.int (S.1 2 (x7).toNatClampNeg))], [.int (x6 - (1 : Int32)), .ref 4]), S)) 1 rfl (fun c => ?_) (fun c => ?_)
                  · have h := h.1 c
                    refine A_nx 1 (fr' := (30, 175, [some (.ref 1), none, none, some (.ref 27), none, some (.int x5), some (.int x6), some (.int x7), some (.int (S.1 2 (x7).toNatClampNeg))], [.int (0 : Int32), .int (x6 - (1 : Int32)), .ref 4])) (S' := S) rfl ?_
                    refine ri_A.less (m := 30) (pc := 175) (L := [some (.ref 1), none, none, some (.ref 27), none, some (.int x5), some (.int x6), some (.int x7), some (.int (S.1 2 (x7).toNatClampNeg))]) (L' := [some (.ref 1), none, none, some (.ref 27), none, some (.int x5), some (.int x6), some (.int x7), none]) (st := [.int (0 : Int32), .int (x6 - (1 : Int32)), .ref 4]) ⟨rfl, ⟨rfl, ⟨rfl, ⟨rfl, ⟨rfl, trivial⟩⟩⟩⟩⟩ ?_
                    exact wt30_b175 27 (by decide) (fun x5 x6 x7 S hk => ih x5 x6 x7 S hk) _ _ _ _ _ _ h
                  · have h := h.2 c
                    refine A_nx 2 (fr' := (30, 175, [some (.ref 1), none, none, some (.ref 27), none, some (.int x5), some (.int x6), some (.int x7), some (.int (S.1 2 (x7).toNatClampNeg))], [.int (1 : Int32), .int (x6 - (1 : Int32)), .ref 4])) (S' := S) rfl ?_
                    refine ri_A.less (m := 30) (pc := 175) (L := [some (.ref 1), none, none, some (.ref 27), none, some (.int x5), some (.int x6), some (.int x7), some (.int (S.1 2 (x7).toNatClampNeg))]) (L' := [some (.ref 1), none, none, some (.ref 27), none, some (.int x5), some (.int x6), some (.int x7), none]) (st := [.int (1 : Int32), .int (x6 - (1 : Int32)), .ref 4]) ⟨rfl, ⟨rfl, ⟨rfl, ⟨rfl, ⟨rfl, trivial⟩⟩⟩⟩⟩ ?_
                    exact wt30_b175 27 (by decide) (fun x5 x6 x7 S hk => ih x5 x6 x7 S hk) _ _ _ _ _ _ h
              · have h := h.2 c
                refine A_call (j := 98) (As := [.ref 4, .int (x6 - (1 : Int32))]) (fr' := (30, 134, [some (.ref 1), none, none, some (.ref 27), none, some (.int x5), some (.int x6), some (.int x7), some (.int (S.1 2 (x7).toNatClampNeg))], [.int (x6 - (1 : Int32)), .ref 4])) (S' := S) 11 rfl (e := 0) (by omega) (sp_item 4 160 _ ⟨by decide, by decide, rfl⟩ (by decide) ?_)
                refine A_call (j := 99) (As := [.ref 4, .int (x6 - (1 : Int32)), .int (-(it (S.1 4) 160 (x6 - (1 : Int32))))]) (fr' := (30, 138, [some (.ref 1), none, none, some (.ref 27), none, some (.int x5), some (.int x6), some (.int x7), some (.int (S.1 2 (x7).toNatClampNeg))], [])) (S' := S) 2 rfl (e := 0) (by omega) (sp_putItem 4 160 _ _ ⟨by decide, by decide, rfl⟩ (by decide) ?_)
                refine A_nx 1 (fr' := (30, 220, [some (.ref 1), none, none, some (.ref 27), none, some (.int x5), some (.int x6), some (.int x7), some (.int (S.1 2 (x7).toNatClampNeg))], [])) (S' := (ri_wr S 4 (pu 160 (S.1 4) (x6 - (1 : Int32)) (-(it (S.1 4) 160 (x6 - (1 : Int32))))))) rfl ?_
                refine ri_A.less (m := 30) (pc := 220) (L := [some (.ref 1), none, none, some (.ref 27), none, some (.int x5), some (.int x6), some (.int x7), some (.int (S.1 2 (x7).toNatClampNeg))]) (L' := [some (.ref 1), none, none, some (.ref 27), none, some (.int x5), some (.int x6), some (.int x7), none]) (st := []) ⟨rfl, ⟨rfl, ⟨rfl, ⟨rfl, ⟨rfl, trivial⟩⟩⟩⟩⟩ ?_
                exact wt30_b220 27 (by decide) (fun x5 x6 x7 S hk => ih x5 x6 x7 S hk) _ _ _ _ h
            · have h := h.2 c
              refine A_br ((S.1 2 (x7).toNatClampNeg) < 0) (r1 := ((30, 91, [some (.ref 1), none, none, some (.ref 27), none, some (.int x5), some (.int x6), some (.int x7), some (.int (S.1 2 (x7).toNatClampNeg))], [.int x6, .ref 4]), S)) (r2 := ((30, 86, [some (.ref 1), none, none, some (.ref 27), none, some (.int x5), some (.int x6), some (.int x7), some (.int (S.1 2 (x7).toNatClampNeg))], [.int x6, .ref 4]), S)) 5 rfl (fun c => ?_) (fun c => ?_)
              · have h := h.1 c
                refine A_call (j := 98) (As := [.ref 27, .int ((-1 : Int32) - (S.1 2 (x7).toNatClampNeg))]) (fr' := (30, 99, [some (.ref 1), none, none, some (.ref 27), none, some (.int x5), some (.int x6), some (.int x7), some (.int (S.1 2 (x7).toNatClampNeg))], [.int x6, .ref 4])) (S' := S) 5 rfl (e := 0) (by omega) (sp_item 27 6 _ ⟨by decide, by decide, rfl⟩ (by decide) ?_)
                refine ri_A.less (m := 30) (pc := 99) (L := [some (.ref 1), none, none, some (.ref 27), none, some (.int x5), some (.int x6), some (.int x7), some (.int (S.1 2 (x7).toNatClampNeg))]) (L' := [some (.ref 1), none, none, some (.ref 27), none, some (.int x5), some (.int x6), some (.int x7), none]) (st := [.int (it (S.1 27) 6 ((-1 : Int32) - (S.1 2 (x7).toNatClampNeg))), .int x6, .ref 4]) ⟨rfl, ⟨rfl, ⟨rfl, ⟨rfl, ⟨rfl, trivial⟩⟩⟩⟩⟩ ?_
                exact wt30_b99 27 (by decide) (fun x5 x6 x7 S hk => ih x5 x6 x7 S hk) _ _ _ _ _ _ h
              · have h := h.2 c
                refine A_nx 2 (fr' := (30, 99, [some (.ref 1), none, none, some (.ref 27), none, some (.int x5), some (.int x6), some (.int x7), some (.int (S.1 2 (x7).toNatClampNeg))], [.int (S.1 2 (x7).toNatClampNeg), .int x6, .ref 4])) (S' := S) rfl ?_
                refine ri_A.less (m := 30) (pc := 99) (L := [some (.ref 1), none, none, some (.ref 27), none, some (.int x5), some (.int x6), some (.int x7), some (.int (S.1 2 (x7).toNatClampNeg))]) (L' := [some (.ref 1), none, none, some (.ref 27), none, some (.int x5), some (.int x6), some (.int x7), none]) (st := [.int (S.1 2 (x7).toNatClampNeg), .int x6, .ref 4]) ⟨rfl, ⟨rfl, ⟨rfl, ⟨rfl, ⟨rfl, trivial⟩⟩⟩⟩⟩ ?_
                exact wt30_b99 27 (by decide) (fun x5 x6 x7 S hk => ih x5 x6 x7 S hk) _ _ _ _ _ _ h
def w30 (q : Nat) (a : Int32) (b : Int32) (S : ri_H) (Q : Int32 → ri_H → Prop) : Prop := ∃ nn, w30_l37 q  Q nn (it (S.1 3) 24 (((a * (4 : Int32)) + b) + (1 : Int32))) (0 : Int32) (it (S.1 3) 24 ((a * (4 : Int32)) + b)) S
set_option maxRecDepth 10000 in
set_option maxHeartbeats 1000000 in
theorem wt30 {E : ri_E} (q : Nat) (hw : q = 18 ∨ q = 27) (a : Int32) (b : Int32) {S : ri_H} {Q : Int32 → ri_H → Prop} (h : w30 q a b S Q) : ri_A E 1 (ri_en 30 [.ref 1, .int a, .int b, .ref q]) S (Qi Q) := by
  rcases hw with rfl | rfl
  · unfold w30 at h
    show ri_A E 1 (30, 0, [some (.ref 1), some (.int a), some (.int b), some (.ref 18), none, none, none, none, none], []) S (Qi Q)
    refine A_call (j := 98) (As := [.ref 3, .int ((a * (4 : Int32)) + b)]) (fr' := (30, 12, [some (.ref 1), some (.int a), some (.int b), some (.ref 18), none, none, none, none, none], [])) (S' := S) 8 rfl (e := 0) (by omega) (sp_item 3 24 _ ⟨by decide, by decide, rfl⟩ (by decide) ?_)
    refine A_call (j := 98) (As := [.ref 3, .int (((a * (4 : Int32)) + b) + (1 : Int32))]) (fr' := (30, 28, [some (.ref 1), some (.int a), some (.int b), some (.ref 18), some (.int (it (S.1 3) 24 ((a * (4 : Int32)) + b))), none, none, none, none], [])) (S' := S) 11 rfl (e := 0) (by omega) (sp_item 3 24 _ ⟨by decide, by decide, rfl⟩ (by decide) ?_)
    refine A_nx 5 (fr' := (30, 37, [some (.ref 1), some (.int a), some (.int b), some (.ref 18), some (.int (it (S.1 3) 24 ((a * (4 : Int32)) + b))), some (.int (it (S.1 3) 24 (((a * (4 : Int32)) + b) + (1 : Int32)))), some (.int (0 : Int32)), some (.int (it (S.1 3) 24 ((a * (4 : Int32)) + b))), none], [])) (S' := S) rfl ?_
    refine ri_A.less (m := 30) (pc := 37) (L := [some (.ref 1), some (.int a), some (.int b), some (.ref 18), some (.int (it (S.1 3) 24 ((a * (4 : Int32)) + b))), some (.int (it (S.1 3) 24 (((a * (4 : Int32)) + b) + (1 : Int32)))), some (.int (0 : Int32)), some (.int (it (S.1 3) 24 ((a * (4 : Int32)) + b))), none]) (L' := [some (.ref 1), none, none, some (.ref 18), none, some (.int (it (S.1 3) 24 (((a * (4 : Int32)) + b) + (1 : Int32)))), some (.int (0 : Int32)), some (.int (it (S.1 3) 24 ((a * (4 : Int32)) + b))), none]) (st := []) ⟨rfl, ⟨rfl, ⟨rfl, ⟨rfl, ⟨rfl, trivial⟩⟩⟩⟩⟩ ?_
    obtain ⟨nn, h⟩ := h
    exact wt30_l37 18 (by decide)  nn _ _ _ _ h
  · unfold w30 at h
    show ri_A E 1 (30, 0, [some (.ref 1), some (.int a), some (.int b), some (.ref 27), none, none, none, none, none], []) S (Qi Q)
    refine A_call (j := 98) (As := [.ref 3, .int ((a * (4 : Int32)) + b)]) (fr' := (30, 12, [some (.ref 1), some (.int a), some (.int b), some (.ref 27), none, none, none, none, none], [])) (S' := S) 8 rfl (e := 0) (by omega) (sp_item 3 24 _ ⟨by decide, by decide, rfl⟩ (by decide) ?_)
    refine A_call (j := 98) (As := [.ref 3, .int (((a * (4 : Int32)) + b) + (1 : Int32))]) (fr' := (30, 28, [some (.ref 1), some (.int a), some (.int b), some (.ref 27), some (.int (it (S.1 3) 24 ((a * (4 : Int32)) + b))), none, none, none, none], [])) (S' := S) 11 rfl (e := 0) (by omega) (sp_item 3 24 _ ⟨by decide, by decide, rfl⟩ (by decide) ?_)
    refine A_nx 5 (fr' := (30, 37, [some (.ref 1), some (.int a), some (.int b), some (.ref 27), some (.int (it (S.1 3) 24 ((a * (4 : Int32)) + b))), some (.int (it (S.1 3) 24 (((a * (4 : Int32)) + b) + (1 : Int32)))), some (.int (0 : Int32)), some (.int (it (S.1 3) 24 ((a * (4 : Int32)) + b))), none], [])) (S' := S) rfl ?_
    refine ri_A.less (m := 30) (pc := 37) (L := [some (.ref 1), some (.int a), some (.int b), some (.ref 27), some (.int (it (S.1 3) 24 ((a * (4 : Int32)) + b))), some (.int (it (S.1 3) 24 (((a * (4 : Int32)) + b) + (1 : Int32)))), some (.int (0 : Int32)), some (.int (it (S.1 3) 24 ((a * (4 : Int32)) + b))), none]) (L' := [some (.ref 1), none, none, some (.ref 27), none, some (.int (it (S.1 3) 24 (((a * (4 : Int32)) + b) + (1 : Int32)))), some (.int (0 : Int32)), some (.int (it (S.1 3) 24 ((a * (4 : Int32)) + b))), none]) (st := []) ⟨rfl, ⟨rfl, ⟨rfl, ⟨rfl, ⟨rfl, trivial⟩⟩⟩⟩⟩ ?_
    obtain ⟨nn, h⟩ := h
    exact wt30_l37 27 (by decide)  nn _ _ _ _ h
/-! X3_becomes, depth 1 -/
def w33 (w : Nat) (o : Nat)  (S : ri_H) (Q : ri_H → Prop) : Prop := Q (ri_wi (ri_wi (ri_wi (ri_wr (ri_wr (ri_wr (ri_wr (ri_wr (ri_wr (ri_wr S (w + 1) (cpr 24 (S.1 (o + 1)) (S.1 (w + 1)))) (w + 2) (cpr 24 (S.1 (o + 2)) (S.1 (w + 2)))) (w + 3) (cpr 5 (S.1 (o + 3)) (S.1 (w + 3)))) (w + 4) (cpr 5 (S.1 (o + 4)) (S.1 (w + 4)))) (w + 5) (cpr 5 (S.1 (o + 5)) (S.1 (w + 5)))) (w + 6) (cpr 5 (S.1 (o + 6)) (S.1 (w + 6)))) (w + 7) (cpr 5 (S.1 (o + 7)) (S.1 (w + 7)))) w 9 (S.1 o 9)) w 10 (S.1 o 10)) w 11 (S.1 o 11))
set_option maxRecDepth 10000 in
set_option maxHeartbeats 1000000 in
theorem wt33 {E : ri_E} (w : Nat) (o : Nat) (hw : w = 10 ∧ o = 28 ∨ w = 19 ∧ o = 10 ∨ w = 28 ∧ o = 10)  {S : ri_H} {Q : ri_H → Prop} (h : w33 w o  S Q) : ri_A E 1 (ri_en 33 [.ref w, .ref o]) S (Qv Q) := by
  rcases hw with ⟨rfl, rfl⟩ | ⟨rfl, rfl⟩ | ⟨rfl, rfl⟩
  · unfold w33 at h
    show ri_A E 1 (33, 0, [some (.ref 10), some (.ref 28)], []) S (Qv Q)
    refine A_call (j := 101) (As := [.ref 29, .ref 11]) (fr' := (33, 11, [some (.ref 10), some (.ref 28)], [])) (S' := S) 5 rfl (e := 0) (by omega) (sp_copyRow 29 11 24 ⟨by decide, by decide, rfl⟩ ⟨by decide, by decide, rfl⟩ (by decide) (by decide) ?_)
    refine A_call (j := 101) (As := [.ref 30, .ref 12]) (fr' := (33, 22, [some (.ref 10), some (.ref 28)], [])) (S' := (ri_wr S 11 (cpr 24 (S.1 29) (S.1 11)))) 5 rfl (e := 0) (by omega) (sp_copyRow 30 12 24 ⟨by decide, by decide, rfl⟩ ⟨by decide, by decide, rfl⟩ (by decide) (by decide) ?_)
    refine A_call (j := 101) (As := [.ref 31, .ref 13]) (fr' := (33, 33, [some (.ref 10), some (.ref 28)], [])) (S' := (ri_wr (ri_wr S 11 (cpr 24 (S.1 29) (S.1 11))) 12 (cpr 24 (S.1 30) (S.1 12)))) 5 rfl (e := 0) (by omega) (sp_copyRow 31 13 5 ⟨by decide, by decide, rfl⟩ ⟨by decide, by decide, rfl⟩ (by decide) (by decide) ?_)
    refine A_call (j := 101) (As := [.ref 32, .ref 14]) (fr' := (33, 44, [some (.ref 10), some (.ref 28)], [])) (S' := (ri_wr (ri_wr (ri_wr S 11 (cpr 24 (S.1 29) (S.1 11))) 12 (cpr 24 (S.1 30) (S.1 12))) 13 (cpr 5 (S.1 31) (S.1 13)))) 5 rfl (e := 0) (by omega) (sp_copyRow 32 14 5 ⟨by decide, by decide, rfl⟩ ⟨by decide, by decide, rfl⟩ (by decide) (by decide) ?_)
    refine A_call (j := 101) (As := [.ref 33, .ref 15]) (fr' := (33, 55, [some (.ref 10), some (.ref 28)], [])) (S' := (ri_wr (ri_wr (ri_wr (ri_wr S 11 (cpr 24 (S.1 29) (S.1 11))) 12 (cpr 24 (S.1 30) (S.1 12))) 13 (cpr 5 (S.1 31) (S.1 13))) 14 (cpr 5 (S.1 32) (S.1 14)))) 5 rfl (e := 0) (by omega) (sp_copyRow 33 15 5 ⟨by decide, by decide, rfl⟩ ⟨by decide, by decide, rfl⟩ (by decide) (by decide) ?_)
    refine A_call (j := 101) (As := [.ref 34, .ref 16]) (fr' := (33, 66, [some (.ref 10), some (.ref 28)], [])) (S' := (ri_wr (ri_wr (ri_wr (ri_wr (ri_wr S 11 (cpr 24 (S.1 29) (S.1 11))) 12 (cpr 24 (S.1 30) (S.1 12))) 13 (cpr 5 (S.1 31) (S.1 13))) 14 (cpr 5 (S.1 32) (S.1 14))) 15 (cpr 5 (S.1 33) (S.1 15)))) 5 rfl (e := 0) (by omega) (sp_copyRow 34 16 5 ⟨by decide, by decide, rfl⟩ ⟨by decide, by decide, rfl⟩ (by decide) (by decide) ?_)
    refine A_call (j := 101) (As := [.ref 35, .ref 17]) (fr' := (33, 77, [some (.ref 10), some (.ref 28)], [])) (S' := (ri_wr (ri_wr (ri_wr (ri_wr (ri_wr (ri_wr S 11 (cpr 24 (S.1 29) (S.1 11))) 12 (cpr 24 (S.1 30) (S.1 12))) 13 (cpr 5 (S.1 31) (S.1 13))) 14 (cpr 5 (S.1 32) (S.1 14))) 15 (cpr 5 (S.1 33) (S.1 15))) 16 (cpr 5 (S.1 34) (S.1 16)))) 5 rfl (e := 0) (by omega) (sp_copyRow 35 17 5 ⟨by decide, by decide, rfl⟩ ⟨by decide, by decide, rfl⟩ (by decide) (by decide) ?_)
    exact A_ret 13 (m := 33) (v := none) (S' := (ri_wi (ri_wi (ri_wi (ri_wr (ri_wr (ri_wr (ri_wr (ri_wr (ri_wr (ri_wr S 11 (cpr 24 (S.1 29) (S.1 11))) 12 (cpr 24 (S.1 30) (S.1 12))) 13 (cpr 5 (S.1 31) (S.1 13))) 14 (cpr 5 (S.1 32) (S.1 14))) 15 (cpr 5 (S.1 33) (S.1 15))) 16 (cpr 5 (S.1 34) (S.1 16))) 17 (cpr 5 (S.1 35) (S.1 17))) 10 9 (S.1 28 9)) 10 10 (S.1 28 10)) 10 11 (S.1 28 11))) rfl rfl ⟨rfl, h⟩
  · unfold w33 at h
    show ri_A E 1 (33, 0, [some (.ref 19), some (.ref 10)], []) S (Qv Q)
    refine A_call (j := 101) (As := [.ref 11, .ref 20]) (fr' := (33, 11, [some (.ref 19), some (.ref 10)], [])) (S' := S) 5 rfl (e := 0) (by omega) (sp_copyRow 11 20 24 ⟨by decide, by decide, rfl⟩ ⟨by decide, by decide, rfl⟩ (by decide) (by decide) ?_)
    refine A_call (j := 101) (As := [.ref 12, .ref 21]) (fr' := (33, 22, [some (.ref 19), some (.ref 10)], [])) (S' := (ri_wr S 20 (cpr 24 (S.1 11) (S.1 20)))) 5 rfl (e := 0) (by omega) (sp_copyRow 12 21 24 ⟨by decide, by decide, rfl⟩ ⟨by decide, by decide, rfl⟩ (by decide) (by decide) ?_)
    refine A_call (j := 101) (As := [.ref 13, .ref 22]) (fr' := (33, 33, [some (.ref 19), some (.ref 10)], [])) (S' := (ri_wr (ri_wr S 20 (cpr 24 (S.1 11) (S.1 20))) 21 (cpr 24 (S.1 12) (S.1 21)))) 5 rfl (e := 0) (by omega) (sp_copyRow 13 22 5 ⟨by decide, by decide, rfl⟩ ⟨by decide, by decide, rfl⟩ (by decide) (by decide) ?_)
    refine A_call (j := 101) (As := [.ref 14, .ref 23]) (fr' := (33, 44, [some (.ref 19), some (.ref 10)], [])) (S' := (ri_wr (ri_wr (ri_wr S 20 (cpr 24 (S.1 11) (S.1 20))) 21 (cpr 24 (S.1 12) (S.1 21))) 22 (cpr 5 (S.1 13) (S.1 22)))) 5 rfl (e := 0) (by omega) (sp_copyRow 14 23 5 ⟨by decide, by decide, rfl⟩ ⟨by decide, by decide, rfl⟩ (by decide) (by decide) ?_)
    refine A_call (j := 101) (As := [.ref 15, .ref 24]) (fr' := (33, 55, [some (.ref 19), some (.ref 10)], [])) (S' := (ri_wr (ri_wr (ri_wr (ri_wr S 20 (cpr 24 (S.1 11) (S.1 20))) 21 (cpr 24 (S.1 12) (S.1 21))) 22 (cpr 5 (S.1 13) (S.1 22))) 23 (cpr 5 (S.1 14) (S.1 23)))) 5 rfl (e := 0) (by omega) (sp_copyRow 15 24 5 ⟨by decide, by decide, rfl⟩ ⟨by decide, by decide, rfl⟩ (by decide) (by decide) ?_)
    refine A_call (j := 101) (As := [.ref 16, .ref 25]) (fr' := (33, 66, [some (.ref 19), some (.ref 10)], [])) (S' := (ri_wr (ri_wr (ri_wr (ri_wr (ri_wr S 20 (cpr 24 (S.1 11) (S.1 20))) 21 (cpr 24 (S.1 12) (S.1 21))) 22 (cpr 5 (S.1 13) (S.1 22))) 23 (cpr 5 (S.1 14) (S.1 23))) 24 (cpr 5 (S.1 15) (S.1 24)))) 5 rfl (e := 0) (by omega) (sp_copyRow 16 25 5 ⟨by decide, by decide, rfl⟩ ⟨by decide, by decide, rfl⟩ (by decide) (by decide) ?_)
    refine A_call (j := 101) (As := [.ref 17, .ref 26]) (fr' := (33, 77, [some (.ref 19), some (.ref 10)], [])) (S' := (ri_wr (ri_wr (ri_wr (ri_wr (ri_wr (ri_wr S 20 (cpr 24 (S.1 11) (S.1 20))) 21 (cpr 24 (S.1 12) (S.1 21))) 22 (cpr 5 (S.1 13) (S.1 22))) 23 (cpr 5 (S.1 14) (S.1 23))) 24 (cpr 5 (S.1 15) (S.1 24))) 25 (cpr 5 (S.1 16) (S.1 25)))) 5 rfl (e := 0) (by omega) (sp_copyRow 17 26 5 ⟨by decide, by decide, rfl⟩ ⟨by decide, by decide, rfl⟩ (by decide) (by decide) ?_)
    exact A_ret 13 (m := 33) (v := none) (S' := (ri_wi (ri_wi (ri_wi (ri_wr (ri_wr (ri_wr (ri_wr (ri_wr (ri_wr (ri_wr S 20 (cpr 24 (S.1 11) (S.1 20))) 21 (cpr 24 (S.1 12) (S.1 21))) 22 (cpr 5 (S.1 13) (S.1 22))) 23 (cpr 5 (S.1 14) (S.1 23))) 24 (cpr 5 (S.1 15) (S.1 24))) 25 (cpr 5 (S.1 16) (S.1 25))) 26 (cpr 5 (S.1 17) (S.1 26))) 19 9 (S.1 10 9)) 19 10 (S.1 10 10)) 19 11 (S.1 10 11))) rfl rfl ⟨rfl, h⟩
  · unfold w33 at h
    show ri_A E 1 (33, 0, [some (.ref 28), some (.ref 10)], []) S (Qv Q)
    refine A_call (j := 101) (As := [.ref 11, .ref 29]) (fr' := (33, 11, [some (.ref 28), some (.ref 10)], [])) (S' := S) 5 rfl (e := 0) (by omega) (sp_copyRow 11 29 24 ⟨by decide, by decide, rfl⟩ ⟨by decide, by decide, rfl⟩ (by decide) (by decide) ?_)
    refine A_call (j := 101) (As := [.ref 12, .ref 30]) (fr' := (33, 22, [some (.ref 28), some (.ref 10)], [])) (S' := (ri_wr S 29 (cpr 24 (S.1 11) (S.1 29)))) 5 rfl (e := 0) (by omega) (sp_copyRow 12 30 24 ⟨by decide, by decide, rfl⟩ ⟨by decide, by decide, rfl⟩ (by decide) (by decide) ?_)
    refine A_call (j := 101) (As := [.ref 13, .ref 31]) (fr' := (33, 33, [some (.ref 28), some (.ref 10)], [])) (S' := (ri_wr (ri_wr S 29 (cpr 24 (S.1 11) (S.1 29))) 30 (cpr 24 (S.1 12) (S.1 30)))) 5 rfl (e := 0) (by omega) (sp_copyRow 13 31 5 ⟨by decide, by decide, rfl⟩ ⟨by decide, by decide, rfl⟩ (by decide) (by decide) ?_)
    refine A_call (j := 101) (As := [.ref 14, .ref 32]) (fr' := (33, 44, [some (.ref 28), some (.ref 10)], [])) (S' := (ri_wr (ri_wr (ri_wr S 29 (cpr 24 (S.1 11) (S.1 29))) 30 (cpr 24 (S.1 12) (S.1 30))) 31 (cpr 5 (S.1 13) (S.1 31)))) 5 rfl (e := 0) (by omega) (sp_copyRow 14 32 5 ⟨by decide, by decide, rfl⟩ ⟨by decide, by decide, rfl⟩ (by decide) (by decide) ?_)
    refine A_call (j := 101) (As := [.ref 15, .ref 33]) (fr' := (33, 55, [some (.ref 28), some (.ref 10)], [])) (S' := (ri_wr (ri_wr (ri_wr (ri_wr S 29 (cpr 24 (S.1 11) (S.1 29))) 30 (cpr 24 (S.1 12) (S.1 30))) 31 (cpr 5 (S.1 13) (S.1 31))) 32 (cpr 5 (S.1 14) (S.1 32)))) 5 rfl (e := 0) (by omega) (sp_copyRow 15 33 5 ⟨by decide, by decide, rfl⟩ ⟨by decide, by decide, rfl⟩ (by decide) (by decide) ?_)
    refine A_call (j := 101) (As := [.ref 16, .ref 34]) (fr' := (33, 66, [some (.ref 28), some (.ref 10)], [])) (S' := (ri_wr (ri_wr (ri_wr (ri_wr (ri_wr S 29 (cpr 24 (S.1 11) (S.1 29))) 30 (cpr 24 (S.1 12) (S.1 30))) 31 (cpr 5 (S.1 13) (S.1 31))) 32 (cpr 5 (S.1 14) (S.1 32))) 33 (cpr 5 (S.1 15) (S.1 33)))) 5 rfl (e := 0) (by omega) (sp_copyRow 16 34 5 ⟨by decide, by decide, rfl⟩ ⟨by decide, by decide, rfl⟩ (by decide) (by decide) ?_)
    refine A_call (j := 101) (As := [.ref 17, .ref 35]) (fr' := (33, 77, [some (.ref 28), some (.ref 10)], [])) (S' := (ri_wr (ri_wr (ri_wr (ri_wr (ri_wr (ri_wr S 29 (cpr 24 (S.1 11) (S.1 29))) 30 (cpr 24 (S.1 12) (S.1 30))) 31 (cpr 5 (S.1 13) (S.1 31))) 32 (cpr 5 (S.1 14) (S.1 32))) 33 (cpr 5 (S.1 15) (S.1 33))) 34 (cpr 5 (S.1 16) (S.1 34)))) 5 rfl (e := 0) (by omega) (sp_copyRow 17 35 5 ⟨by decide, by decide, rfl⟩ ⟨by decide, by decide, rfl⟩ (by decide) (by decide) ?_)
    exact A_ret 13 (m := 33) (v := none) (S' := (ri_wi (ri_wi (ri_wi (ri_wr (ri_wr (ri_wr (ri_wr (ri_wr (ri_wr (ri_wr S 29 (cpr 24 (S.1 11) (S.1 29))) 30 (cpr 24 (S.1 12) (S.1 30))) 31 (cpr 5 (S.1 13) (S.1 31))) 32 (cpr 5 (S.1 14) (S.1 32))) 33 (cpr 5 (S.1 15) (S.1 33))) 34 (cpr 5 (S.1 16) (S.1 34))) 35 (cpr 5 (S.1 17) (S.1 35))) 28 9 (S.1 10 9)) 28 10 (S.1 10 10)) 28 11 (S.1 10 11))) rfl rfl ⟨rfl, h⟩
/-! X3_comes, depth 1 -/
def w35 (w : Nat) (a : Int32) (b : Int32) (g : Int32) (S : ri_H) (Q : Int32 → ri_H → Prop) : Prop := (((S.1 w 9) < (5 : Int32) → Q (S.1 w 9) (ri_wi (ri_wr (ri_wr (ri_wr (ri_wr (ri_wr S (w + 3) (pu 5 (S.1 (w + 3)) (S.1 w 9) a)) (w + 4) (pu 5 (S.1 (w + 4)) (S.1 w 9) b)) (w + 5) (pu 5 (S.1 (w + 5)) (S.1 w 9) g)) (w + 6) (pu 5 (S.1 (w + 6)) (S.1 w 9) (0 : Int32))) (w + 7) (pu 5 (S.1 (w + 7)) (S.1 w 9) (0 : Int32))) w 9 ((S.1 w 9) + (1 : Int32)))) ∧ (¬ (S.1 w 9) < (5 : Int32) → Q (-4 : Int32) S))
set_option maxRecDepth 10000 in
set_option maxHeartbeats 1000000 in
theorem wt35 {E : ri_E} (w : Nat) (hw : w = 10 ∨ w = 19) (a : Int32) (b : Int32) (g : Int32) {S : ri_H} {Q : Int32 → ri_H → Prop} (h : w35 w a b g S Q) : ri_A E 1 (ri_en 35 [.ref w, .int a, .int b, .int g]) S (Qi Q) := by
  rcases hw with rfl | rfl
  · unfold w35 at h
    show ri_A E 1 (35, 0, [some (.ref 10), some (.int a), some (.int b), some (.int g), none], []) S (Qi Q)
    refine A_br ((S.1 10 9) < (5 : Int32)) (r1 := ((35, 11, [some (.ref 10), some (.int a), some (.int b), some (.int g), none], []), S)) (r2 := ((35, 8, [some (.ref 10), some (.int a), some (.int b), some (.int g), none], []), S)) 4 rfl (fun c => ?_) (fun c => ?_)
    · have h := h.1 c
      refine A_call (j := 99) (As := [.ref 13, .int (S.1 10 9), .int a]) (fr' := (35, 27, [some (.ref 10), some (.int a), some (.int b), some (.int g), some (.int (S.1 10 9))], [])) (S' := S) 8 rfl (e := 0) (by omega) (sp_putItem 13 5 _ _ ⟨by decide, by decide, rfl⟩ (by decide) ?_)
      refine A_call (j := 99) (As := [.ref 14, .int (S.1 10 9), .int b]) (fr' := (35, 37, [some (.ref 10), some (.int a), some (.int b), some (.int g), some (.int (S.1 10 9))], [])) (S' := (ri_wr S 13 (pu 5 (S.1 13) (S.1 10 9) a))) 5 rfl (e := 0) (by omega) (sp_putItem 14 5 _ _ ⟨by decide, by decide, rfl⟩ (by decide) ?_)
      refine A_call (j := 99) (As := [.ref 15, .int (S.1 10 9), .int g]) (fr' := (35, 47, [some (.ref 10), some (.int a), some (.int b), some (.int g), some (.int (S.1 10 9))], [])) (S' := (ri_wr (ri_wr S 13 (pu 5 (S.1 13) (S.1 10 9) a)) 14 (pu 5 (S.1 14) (S.1 10 9) b))) 5 rfl (e := 0) (by omega) (sp_putItem 15 5 _ _ ⟨by decide, by decide, rfl⟩ (by decide) ?_)
      refine A_call (j := 99) (As := [.ref 16, .int (S.1 10 9), .int (0 : Int32)]) (fr' := (35, 57, [some (.ref 10), some (.int a), some (.int b), some (.int g), some (.int (S.1 10 9))], [])) (S' := (ri_wr (ri_wr (ri_wr S 13 (pu 5 (S.1 13) (S.1 10 9) a)) 14 (pu 5 (S.1 14) (S.1 10 9) b)) 15 (pu 5 (S.1 15) (S.1 10 9) g))) 5 rfl (e := 0) (by omega) (sp_putItem 16 5 _ _ ⟨by decide, by decide, rfl⟩ (by decide) ?_)
      refine A_call (j := 99) (As := [.ref 17, .int (S.1 10 9), .int (0 : Int32)]) (fr' := (35, 67, [some (.ref 10), some (.int a), some (.int b), some (.int g), some (.int (S.1 10 9))], [])) (S' := (ri_wr (ri_wr (ri_wr (ri_wr S 13 (pu 5 (S.1 13) (S.1 10 9) a)) 14 (pu 5 (S.1 14) (S.1 10 9) b)) 15 (pu 5 (S.1 15) (S.1 10 9) g)) 16 (pu 5 (S.1 16) (S.1 10 9) (0 : Int32)))) 5 rfl (e := 0) (by omega) (sp_putItem 17 5 _ _ ⟨by decide, by decide, rfl⟩ (by decide) ?_)
      exact A_ret 8 (m := 35) (v := some (.int (S.1 10 9))) (S' := (ri_wi (ri_wr (ri_wr (ri_wr (ri_wr (ri_wr S 13 (pu 5 (S.1 13) (S.1 10 9) a)) 14 (pu 5 (S.1 14) (S.1 10 9) b)) 15 (pu 5 (S.1 15) (S.1 10 9) g)) 16 (pu 5 (S.1 16) (S.1 10 9) (0 : Int32))) 17 (pu 5 (S.1 17) (S.1 10 9) (0 : Int32))) 10 9 ((S.1 10 9) + (1 : Int32)))) rfl rfl ⟨_, rfl, h⟩
    · have h := h.2 c
      exact A_ret 2 (m := 35) (v := some (.int (-4 : Int32))) (S' := S) rfl rfl ⟨_, rfl, h⟩
  · unfold w35 at h
    show ri_A E 1 (35, 0, [some (.ref 19), some (.int a), some (.int b), some (.int g), none], []) S (Qi Q)
    refine A_br ((S.1 19 9) < (5 : Int32)) (r1 := ((35, 11, [some (.ref 19), some (.int a), some (.int b), some (.int g), none], []), S)) (r2 := ((35, 8, [some (.ref 19), some (.int a), some (.int b), some (.int g), none], []), S)) 4 rfl (fun c => ?_) (fun c => ?_)
    · have h := h.1 c
      refine A_call (j := 99) (As := [.ref 22, .int (S.1 19 9), .int a]) (fr' := (35, 27, [some (.ref 19), some (.int a), some (.int b), some (.int g), some (.int (S.1 19 9))], [])) (S' := S) 8 rfl (e := 0) (by omega) (sp_putItem 22 5 _ _ ⟨by decide, by decide, rfl⟩ (by decide) ?_)
      refine A_call (j := 99) (As := [.ref 23, .int (S.1 19 9), .int b]) (fr' := (35, 37, [some (.ref 19), some (.int a), some (.int b), some (.int g), some (.int (S.1 19 9))], [])) (S' := (ri_wr S 22 (pu 5 (S.1 22) (S.1 19 9) a))) 5 rfl (e := 0) (by omega) (sp_putItem 23 5 _ _ ⟨by decide, by decide, rfl⟩ (by decide) ?_)
      refine A_call (j := 99) (As := [.ref 24, .int (S.1 19 9), .int g]) (fr' := (35, 47, [some (.ref 19), some (.int a), some (.int b), some (.int g), some (.int (S.1 19 9))], [])) (S' := (ri_wr (ri_wr S 22 (pu 5 (S.1 22) (S.1 19 9) a)) 23 (pu 5 (S.1 23) (S.1 19 9) b))) 5 rfl (e := 0) (by omega) (sp_putItem 24 5 _ _ ⟨by decide, by decide, rfl⟩ (by decide) ?_)
      refine A_call (j := 99) (As := [.ref 25, .int (S.1 19 9), .int (0 : Int32)]) (fr' := (35, 57, [some (.ref 19), some (.int a), some (.int b), some (.int g), some (.int (S.1 19 9))], [])) (S' := (ri_wr (ri_wr (ri_wr S 22 (pu 5 (S.1 22) (S.1 19 9) a)) 23 (pu 5 (S.1 23) (S.1 19 9) b)) 24 (pu 5 (S.1 24) (S.1 19 9) g))) 5 rfl (e := 0) (by omega) (sp_putItem 25 5 _ _ ⟨by decide, by decide, rfl⟩ (by decide) ?_)
      refine A_call (j := 99) (As := [.ref 26, .int (S.1 19 9), .int (0 : Int32)]) (fr' := (35, 67, [some (.ref 19), some (.int a), some (.int b), some (.int g), some (.int (S.1 19 9))], [])) (S' := (ri_wr (ri_wr (ri_wr (ri_wr S 22 (pu 5 (S.1 22) (S.1 19 9) a)) 23 (pu 5 (S.1 23) (S.1 19 9) b)) 24 (pu 5 (S.1 24) (S.1 19 9) g)) 25 (pu 5 (S.1 25) (S.1 19 9) (0 : Int32)))) 5 rfl (e := 0) (by omega) (sp_putItem 26 5 _ _ ⟨by decide, by decide, rfl⟩ (by decide) ?_)
      exact A_ret 8 (m := 35) (v := some (.int (S.1 19 9))) (S' := (ri_wi (ri_wr (ri_wr (ri_wr (ri_wr (ri_wr S 22 (pu 5 (S.1 22) (S.1 19 9) a)) 23 (pu 5 (S.1 23) (S.1 19 9) b)) 24 (pu 5 (S.1 24) (S.1 19 9) g)) 25 (pu 5 (S.1 25) (S.1 19 9) (0 : Int32))) 26 (pu 5 (S.1 26) (S.1 19 9) (0 : Int32))) 19 9 ((S.1 19 9) + (1 : Int32)))) rfl rfl ⟨_, rfl, h⟩
    · have h := h.2 c
      exact A_ret 2 (m := 35) (v := some (.int (-4 : Int32))) (S' := S) rfl rfl ⟨_, rfl, h⟩
/-! X3_whoAreAt, depth 2 -/
def w36_b31 (w : Nat) (K4 : Int32 → Int32 → Int32 → ri_H → Prop) (Q : Int32 → ri_H → Prop) (x1 : Int32) (x2 : Int32) (x3 : Int32) (S : ri_H) : Prop := K4 x1 x2 (x3 + (1 : Int32)) S
set_option maxRecDepth 10000 in
set_option maxHeartbeats 1000000 in
theorem wt36_b31 {E : ri_E} (w : Nat) (hw : w = 10 ∨ w = 19) {K4 : Int32 → Int32 → Int32 → ri_H → Prop} {Q : Int32 → ri_H → Prop} (hK4 : ∀ (x1 : Int32) (x2 : Int32) (x3 : Int32) (S : ri_H), K4 x1 x2 x3 S → ri_A E 2 (36, 4, [some (.ref w), some (.int x1), some (.int x2), some (.int x3)], []) S (Qi Q)) (x1 : Int32) (x2 : Int32) (x3 : Int32) (S : ri_H) (h : w36_b31 w K4 Q x1 x2 x3 S) : ri_A E 2 (36, 31, [some (.ref w), some (.int x1), some (.int x2), some (.int x3)], []) S (Qi Q) := by
  rcases hw with rfl | rfl
  · unfold w36_b31 at h
    refine A_nx 2 (fr' := (36, 4, [some (.ref 10), some (.int x1), some (.int x2), some (.int (x3 + (1 : Int32)))], [])) (S' := S) rfl ?_
    refine ri_A.less (m := 36) (pc := 4) (L := [some (.ref 10), some (.int x1), some (.int x2), some (.int (x3 + (1 : Int32)))]) (L' := [some (.ref 10), some (.int x1), some (.int x2), some (.int (x3 + (1 : Int32)))]) (st := []) ⟨rfl, ⟨rfl, ⟨rfl, ⟨rfl, trivial⟩⟩⟩⟩ ?_
    exact hK4 _ _ _ _ h
  · unfold w36_b31 at h
    refine A_nx 2 (fr' := (36, 4, [some (.ref 19), some (.int x1), some (.int x2), some (.int (x3 + (1 : Int32)))], [])) (S' := S) rfl ?_
    refine ri_A.less (m := 36) (pc := 4) (L := [some (.ref 19), some (.int x1), some (.int x2), some (.int (x3 + (1 : Int32)))]) (L' := [some (.ref 19), some (.int x1), some (.int x2), some (.int (x3 + (1 : Int32)))]) (st := []) ⟨rfl, ⟨rfl, ⟨rfl, ⟨rfl, trivial⟩⟩⟩⟩ ?_
    exact hK4 _ _ _ _ h
def w36_l4 (w : Nat) (Q : Int32 → ri_H → Prop) : Nat → Int32 → Int32 → Int32 → ri_H → Prop
  | 0, _, _, _, _ => False
  | n + 1, x1, x2, x3, S => (((S.1 w 9) ≤ x3 → Q x2 S) ∧ (¬ (S.1 w 9) ≤ x3 → ((¬ (it (S.1 (w + 5)) 5 x3) = x1 → w36_b31 w (fun x1 x2 x3 S => w36_l4 w  Q n x1 x2 x3 S) Q x1 x2 x3 S) ∧ (¬ (¬ (it (S.1 (w + 5)) 5 x3) = x1) → w36_b31 w (fun x1 x2 x3 S => w36_l4 w  Q n x1 x2 x3 S) Q x1 (x2 ||| (bt x3)) x3 S))))
set_option maxRecDepth 10000 in
set_option maxHeartbeats 1000000 in
theorem wt36_l4 {E : ri_E} (w : Nat) (hw : w = 10 ∨ w = 19) {Q : Int32 → ri_H → Prop} : ∀ (n : Nat) (x1 : Int32) (x2 : Int32) (x3 : Int32) (S : ri_H), w36_l4 w  Q n x1 x2 x3 S → ri_A E 2 (36, 4, [some (.ref w), some (.int x1), some (.int x2), some (.int x3)], []) S (Qi Q) := by
  rcases hw with rfl | rfl
  · intro n
    induction n with
    | zero => intro x1 x2 x3 S h; exact h.elim
    | succ n ih =>
      intro x1 x2 x3 S h
      unfold w36_l4 at h
      refine A_br ((S.1 10 9) ≤ x3) (r1 := ((36, 37, [some (.ref 10), some (.int x1), some (.int x2), some (.int x3)], []), S)) (r2 := ((36, 12, [some (.ref 10), some (.int x1), some (.int x2), some (.int x3)], []), S)) 4 rfl (fun c => ?_) (fun c => ?_)
      · have h := h.1 c
        exact A_ret 2 (m := 36) (v := some (.int x2)) (S' := S) rfl rfl ⟨_, rfl, h⟩
      · have h := h.2 c
        refine A_call (j := 98) (As := [.ref 15, .int x3]) (fr' := (36, 20, [some (.ref 10), some (.int x1), some (.int x2), some (.int x3)], [])) (S' := S) 4 rfl (e := 0) (by omega) (sp_item 15 5 _ ⟨by decide, by decide, rfl⟩ (by decide) ?_)
        refine A_br (¬ (it (S.1 15) 5 x3) = x1) (r1 := ((36, 31, [some (.ref 10), some (.int x1), some (.int x2), some (.int x3)], []), S)) (r2 := ((36, 24, [some (.ref 10), some (.int x1), some (.int x2), some (.int x3)], []), S)) 2 rfl (fun c => ?_) (fun c => ?_)
        · have h := h.1 c
          refine ri_A.less (m := 36) (pc := 31) (L := [some (.ref 10), some (.int x1), some (.int x2), some (.int x3)]) (L' := [some (.ref 10), some (.int x1), some (.int x2), some (.int x3)]) (st := []) ⟨rfl, ⟨rfl, ⟨rfl, ⟨rfl, trivial⟩⟩⟩⟩ ?_
          exact wt36_b31 10 (by decide) (fun x1 x2 x3 S hk => ih x1 x2 x3 S hk) _ _ _ _ h
        · have h := h.2 c
          refine A_call (j := 97) (As := [.int x3]) (fr' := (36, 29, [some (.ref 10), some (.int x1), some (.int x2), some (.int x3)], [.int x2])) (S' := S) 3 rfl (e := 1) (by omega) (sp_bit _ ?_)
          refine A_nx 2 (fr' := (36, 31, [some (.ref 10), some (.int x1), some (.int (x2 ||| (bt x3))), some (.int x3)], [])) (S' := S) rfl ?_
          refine ri_A.less (m := 36) (pc := 31) (L := [some (.ref 10), some (.int x1), some (.int (x2 ||| (bt x3))), some (.int x3)]) (L' := [some (.ref 10), some (.int x1), some (.int (x2 ||| (bt x3))), some (.int x3)]) (st := []) ⟨rfl, ⟨rfl, ⟨rfl, ⟨rfl, trivial⟩⟩⟩⟩ ?_
          exact wt36_b31 10 (by decide) (fun x1 x2 x3 S hk => ih x1 x2 x3 S hk) _ _ _ _ h
  · intro n
    induction n with
    | zero => intro x1 x2 x3 S h; exact h.elim
    | succ n ih =>
      intro x1 x2 x3 S h
      unfold w36_l4 at h
      refine A_br ((S.1 19 9) ≤ x3) (r1 := ((36, 37, [some (.ref 19), some (.int x1), some (.int x2), some (.int x3)], []), S)) (r2 := ((36, 12, [some (.ref 19), some (.int x1), some (.int x2), some (.int x3)], []), S)) 4 rfl (fun c => ?_) (fun c => ?_)
      · have h := h.1 c
        exact A_ret 2 (m := 36) (v := some (.int x2)) (S' := S) rfl rfl ⟨_, rfl, h⟩
      · have h := h.2 c
        refine A_call (j := 98) (As := [.ref 24, .int x3]) (fr' := (36, 20, [some (.ref 19), some (.int x1), some (.int x2), some (.int x3)], [])) (S' := S) 4 rfl (e := 0) (by omega) (sp_item 24 5 _ ⟨by decide, by decide, rfl⟩ (by decide) ?_)
        refine A_br (¬ (it (S.1 24) 5 x3) = x1) (r1 := ((36, 31, [some (.ref 19), some (.int x1), some (.int x2), some (.int x3)], []), S)) (r2 := ((36, 24, [some (.ref 19), some (.int x1), some (.int x2), some (.int x3)], []), S)) 2 rfl (fun c => ?_) (fun c => ?_)
        · have h := h.1 c
          refine ri_A.less (m := 36) (pc := 31) (L := [some (.ref 19), some (.int x1), some (.int x2), some (.int x3)]) (L' := [some (.ref 19), some (.int x1), some (.int x2), some (.int x3)]) (st := []) ⟨rfl, ⟨rfl, ⟨rfl, ⟨rfl, trivial⟩⟩⟩⟩ ?_
          exact wt36_b31 19 (by decide) (fun x1 x2 x3 S hk => ih x1 x2 x3 S hk) _ _ _ _ h
        · have h := h.2 c
          refine A_call (j := 97) (As := [.int x3]) (fr' := (36, 29, [some (.ref 19), some (.int x1), some (.int x2), some (.int x3)], [.int x2])) (S' := S) 3 rfl (e := 1) (by omega) (sp_bit _ ?_)
          refine A_nx 2 (fr' := (36, 31, [some (.ref 19), some (.int x1), some (.int (x2 ||| (bt x3))), some (.int x3)], [])) (S' := S) rfl ?_
          refine ri_A.less (m := 36) (pc := 31) (L := [some (.ref 19), some (.int x1), some (.int (x2 ||| (bt x3))), some (.int x3)]) (L' := [some (.ref 19), some (.int x1), some (.int (x2 ||| (bt x3))), some (.int x3)]) (st := []) ⟨rfl, ⟨rfl, ⟨rfl, ⟨rfl, trivial⟩⟩⟩⟩ ?_
          exact wt36_b31 19 (by decide) (fun x1 x2 x3 S hk => ih x1 x2 x3 S hk) _ _ _ _ h
def w36 (w : Nat) (a : Int32) (S : ri_H) (Q : Int32 → ri_H → Prop) : Prop := ∃ nn, w36_l4 w  Q nn a (0 : Int32) (0 : Int32) S
set_option maxRecDepth 10000 in
set_option maxHeartbeats 1000000 in
theorem wt36 {E : ri_E} (w : Nat) (hw : w = 10 ∨ w = 19) (a : Int32) {S : ri_H} {Q : Int32 → ri_H → Prop} (h : w36 w a S Q) : ri_A E 2 (ri_en 36 [.ref w, .int a]) S (Qi Q) := by
  rcases hw with rfl | rfl
  · unfold w36 at h
    show ri_A E 2 (36, 0, [some (.ref 10), some (.int a), none, none], []) S (Qi Q)
    refine A_nx 4 (fr' := (36, 4, [some (.ref 10), some (.int a), some (.int (0 : Int32)), some (.int (0 : Int32))], [])) (S' := S) rfl ?_
    refine ri_A.less (m := 36) (pc := 4) (L := [some (.ref 10), some (.int a), some (.int (0 : Int32)), some (.int (0 : Int32))]) (L' := [some (.ref 10), some (.int a), some (.int (0 : Int32)), some (.int (0 : Int32))]) (st := []) ⟨rfl, ⟨rfl, ⟨rfl, ⟨rfl, trivial⟩⟩⟩⟩ ?_
    obtain ⟨nn, h⟩ := h
    exact wt36_l4 10 (by decide)  nn _ _ _ _ h
  · unfold w36 at h
    show ri_A E 2 (36, 0, [some (.ref 19), some (.int a), none, none], []) S (Qi Q)
    refine A_nx 4 (fr' := (36, 4, [some (.ref 19), some (.int a), some (.int (0 : Int32)), some (.int (0 : Int32))], [])) (S' := S) rfl ?_
    refine ri_A.less (m := 36) (pc := 4) (L := [some (.ref 19), some (.int a), some (.int (0 : Int32)), some (.int (0 : Int32))]) (L' := [some (.ref 19), some (.int a), some (.int (0 : Int32)), some (.int (0 : Int32))]) (st := []) ⟨rfl, ⟨rfl, ⟨rfl, ⟨rfl, trivial⟩⟩⟩⟩ ?_
    obtain ⟨nn, h⟩ := h
    exact wt36_l4 19 (by decide)  nn _ _ _ _ h
/-! X3_inAllJars, depth 0 -/
def w37_l4 (w : Nat) (Q : Int32 → ri_H → Prop) : Nat → Int32 → Int32 → ri_H → Prop
  | 0, _, _, _ => False
  | n + 1, x1, x2, S => (((24 : Int32) ≤ x2 → Q x1 S) ∧ (¬ (24 : Int32) ≤ x2 → (vp_in x2 24 ∧ w37_l4 w  Q n (x1 + (S.1 (w + 2) (x2).toNatClampNeg)) (x2 + (1 : Int32)) S)))
set_option maxRecDepth 10000 in
set_option maxHeartbeats 1000000 in
theorem wt37_l4 {E : ri_E} (w : Nat) (hw : w = 10 ∨ w = 19) {Q : Int32 → ri_H → Prop} : ∀ (n : Nat) (x1 : Int32) (x2 : Int32) (S : ri_H), w37_l4 w  Q n x1 x2 S → ri_A E 0 (37, 4, [some (.ref w), some (.int x1), some (.int x2)], []) S (Qi Q) := by
  rcases hw with rfl | rfl
  · intro n
    induction n with
    | zero => intro x1 x2 S h; exact h.elim
    | succ n ih =>
      intro x1 x2 S h
      unfold w37_l4 at h
      refine A_br ((24 : Int32) ≤ x2) (r1 := ((37, 28, [some (.ref 10), some (.int x1), some (.int x2)], []), S)) (r2 := ((37, 13, [some (.ref 10), some (.int x1), some (.int x2)], []), S)) 5 rfl (fun c => ?_) (fun c => ?_)
      · have h := h.1 c
        exact A_ret 2 (m := 37) (v := some (.int x1)) (S' := S) rfl rfl ⟨_, rfl, h⟩
      · have h := h.2 c
        refine A_ix x2 24 (r1 := ((37, 20, [some (.ref 10), some (.int x1), some (.int x2)], [.int (S.1 12 (x2).toNatClampNeg), .int x1]), S)) 5 rfl h.1 ?_
        have h := h.2
        refine A_nx 4 (fr' := (37, 4, [some (.ref 10), some (.int (x1 + (S.1 12 (x2).toNatClampNeg))), some (.int (x2 + (1 : Int32)))], [])) (S' := S) rfl ?_
        refine ri_A.less (m := 37) (pc := 4) (L := [some (.ref 10), some (.int (x1 + (S.1 12 (x2).toNatClampNeg))), some (.int (x2 + (1 : Int32)))]) (L' := [some (.ref 10), some (.int (x1 + (S.1 12 (x2).toNatClampNeg))), some (.int (x2 + (1 : Int32)))]) (st := []) ⟨rfl, ⟨rfl, ⟨rfl, trivial⟩⟩⟩ ?_
        exact ih _ _ _ h
  · intro n
    induction n with
    | zero => intro x1 x2 S h; exact h.elim
    | succ n ih =>
      intro x1 x2 S h
      unfold w37_l4 at h
      refine A_br ((24 : Int32) ≤ x2) (r1 := ((37, 28, [some (.ref 19), some (.int x1), some (.int x2)], []), S)) (r2 := ((37, 13, [some (.ref 19), some (.int x1), some (.int x2)], []), S)) 5 rfl (fun c => ?_) (fun c => ?_)
      · have h := h.1 c
        exact A_ret 2 (m := 37) (v := some (.int x1)) (S' := S) rfl rfl ⟨_, rfl, h⟩
      · have h := h.2 c
        refine A_ix x2 24 (r1 := ((37, 20, [some (.ref 19), some (.int x1), some (.int x2)], [.int (S.1 21 (x2).toNatClampNeg), .int x1]), S)) 5 rfl h.1 ?_
        have h := h.2
        refine A_nx 4 (fr' := (37, 4, [some (.ref 19), some (.int (x1 + (S.1 21 (x2).toNatClampNeg))), some (.int (x2 + (1 : Int32)))], [])) (S' := S) rfl ?_
        refine ri_A.less (m := 37) (pc := 4) (L := [some (.ref 19), some (.int (x1 + (S.1 21 (x2).toNatClampNeg))), some (.int (x2 + (1 : Int32)))]) (L' := [some (.ref 19), some (.int (x1 + (S.1 21 (x2).toNatClampNeg))), some (.int (x2 + (1 : Int32)))]) (st := []) ⟨rfl, ⟨rfl, ⟨rfl, trivial⟩⟩⟩ ?_
        exact ih _ _ _ h
def w37 (w : Nat)  (S : ri_H) (Q : Int32 → ri_H → Prop) : Prop := ∃ nn, w37_l4 w  Q nn (0 : Int32) (0 : Int32) S
set_option maxRecDepth 10000 in
set_option maxHeartbeats 1000000 in
theorem wt37 {E : ri_E} (w : Nat) (hw : w = 10 ∨ w = 19)  {S : ri_H} {Q : Int32 → ri_H → Prop} (h : w37 w  S Q) : ri_A E 0 (ri_en 37 [.ref w]) S (Qi Q) := by
  rcases hw with rfl | rfl
  · unfold w37 at h
    show ri_A E 0 (37, 0, [some (.ref 10), none, none], []) S (Qi Q)
    refine A_nx 4 (fr' := (37, 4, [some (.ref 10), some (.int (0 : Int32)), some (.int (0 : Int32))], [])) (S' := S) rfl ?_
    refine ri_A.less (m := 37) (pc := 4) (L := [some (.ref 10), some (.int (0 : Int32)), some (.int (0 : Int32))]) (L' := [some (.ref 10), some (.int (0 : Int32)), some (.int (0 : Int32))]) (st := []) ⟨rfl, ⟨rfl, ⟨rfl, trivial⟩⟩⟩ ?_
    obtain ⟨nn, h⟩ := h
    exact wt37_l4 10 (by decide)  nn _ _ _ h
  · unfold w37 at h
    show ri_A E 0 (37, 0, [some (.ref 19), none, none], []) S (Qi Q)
    refine A_nx 4 (fr' := (37, 4, [some (.ref 19), some (.int (0 : Int32)), some (.int (0 : Int32))], [])) (S' := S) rfl ?_
    refine ri_A.less (m := 37) (pc := 4) (L := [some (.ref 19), some (.int (0 : Int32)), some (.int (0 : Int32))]) (L' := [some (.ref 19), some (.int (0 : Int32)), some (.int (0 : Int32))]) (st := []) ⟨rfl, ⟨rfl, ⟨rfl, trivial⟩⟩⟩ ?_
    obtain ⟨nn, h⟩ := h
    exact wt37_l4 19 (by decide)  nn _ _ _ h
/-! X3_bothJars, depth 1 -/
def w44 (w : Nat) (a : Int32) (S : ri_H) (Q : Int32 → ri_H → Prop) : Prop := Q ((it (S.1 (w + 2)) 24 ((2 : Int32) * a)) + (it (S.1 (w + 2)) 24 (((2 : Int32) * a) + (1 : Int32)))) S
set_option maxRecDepth 10000 in
set_option maxHeartbeats 1000000 in
theorem wt44 {E : ri_E} (w : Nat) (hw : w = 10 ∨ w = 19) (a : Int32) {S : ri_H} {Q : Int32 → ri_H → Prop} (h : w44 w a S Q) : ri_A E 1 (ri_en 44 [.ref w, .int a]) S (Qi Q) := by
  rcases hw with rfl | rfl
  · unfold w44 at h
    show ri_A E 1 (44, 0, [some (.ref 10), some (.int a)], []) S (Qi Q)
    refine A_call (j := 98) (As := [.ref 12, .int ((2 : Int32) * a)]) (fr' := (44, 10, [some (.ref 10), some (.int a)], [])) (S' := S) 6 rfl (e := 0) (by omega) (sp_item 12 24 _ ⟨by decide, by decide, rfl⟩ (by decide) ?_)
    refine A_call (j := 98) (As := [.ref 12, .int (((2 : Int32) * a) + (1 : Int32))]) (fr' := (44, 22, [some (.ref 10), some (.int a)], [.int (it (S.1 12) 24 ((2 : Int32) * a))])) (S' := S) 8 rfl (e := 0) (by omega) (sp_item 12 24 _ ⟨by decide, by decide, rfl⟩ (by decide) ?_)
    exact A_ret 2 (m := 44) (v := some (.int ((it (S.1 12) 24 ((2 : Int32) * a)) + (it (S.1 12) 24 (((2 : Int32) * a) + (1 : Int32)))))) (S' := S) rfl rfl ⟨_, rfl, h⟩
  · unfold w44 at h
    show ri_A E 1 (44, 0, [some (.ref 19), some (.int a)], []) S (Qi Q)
    refine A_call (j := 98) (As := [.ref 21, .int ((2 : Int32) * a)]) (fr' := (44, 10, [some (.ref 19), some (.int a)], [])) (S' := S) 6 rfl (e := 0) (by omega) (sp_item 21 24 _ ⟨by decide, by decide, rfl⟩ (by decide) ?_)
    refine A_call (j := 98) (As := [.ref 21, .int (((2 : Int32) * a) + (1 : Int32))]) (fr' := (44, 22, [some (.ref 19), some (.int a)], [.int (it (S.1 21) 24 ((2 : Int32) * a))])) (S' := S) 8 rfl (e := 0) (by omega) (sp_item 21 24 _ ⟨by decide, by decide, rfl⟩ (by decide) ?_)
    exact A_ret 2 (m := 44) (v := some (.int ((it (S.1 21) 24 ((2 : Int32) * a)) + (it (S.1 21) 24 (((2 : Int32) * a) + (1 : Int32)))))) (S' := S) rfl rfl ⟨_, rfl, h⟩
/-! X3_namesOf, depth 1 -/
def w45 (w : Nat) (a : Int32) (b : Int32) (S : ri_H) (Q : Option Nat → ri_H → Prop) : Prop := Q (some (w + 8)) (ri_wr (ri_wr (ri_wr (ri_wr (ri_wr (ri_wr S (w + 8) (pu 6 (S.1 (w + 8)) (0 : Int32) (it (S.1 (w + 5)) 5 a))) (w + 8) (pu 6 (pu 6 (S.1 (w + 8)) (0 : Int32) (it (S.1 (w + 5)) 5 a)) (1 : Int32) b)) (w + 8) (pu 6 (pu 6 (pu 6 (S.1 (w + 8)) (0 : Int32) (it (S.1 (w + 5)) 5 a)) (1 : Int32) b) (2 : Int32) (it (S.1 (w + 4)) 5 a))) (w + 8) (pu 6 (pu 6 (pu 6 (pu 6 (S.1 (w + 8)) (0 : Int32) (it (S.1 (w + 5)) 5 a)) (1 : Int32) b) (2 : Int32) (it (S.1 (w + 4)) 5 a)) (3 : Int32) (S.1 w 10))) (w + 8) (pu 6 (pu 6 (pu 6 (pu 6 (pu 6 (S.1 (w + 8)) (0 : Int32) (it (S.1 (w + 5)) 5 a)) (1 : Int32) b) (2 : Int32) (it (S.1 (w + 4)) 5 a)) (3 : Int32) (S.1 w 10)) (4 : Int32) (it (S.1 (w + 6)) 5 a))) (w + 8) (pu 6 (pu 6 (pu 6 (pu 6 (pu 6 (pu 6 (S.1 (w + 8)) (0 : Int32) (it (S.1 (w + 5)) 5 a)) (1 : Int32) b) (2 : Int32) (it (S.1 (w + 4)) 5 a)) (3 : Int32) (S.1 w 10)) (4 : Int32) (it (S.1 (w + 6)) 5 a)) (5 : Int32) (it (S.1 (w + 7)) 5 a)))
set_option maxRecDepth 10000 in
set_option maxHeartbeats 1000000 in
theorem wt45 {E : ri_E} (w : Nat) (hw : w = 10 ∨ w = 19) (a : Int32) (b : Int32) {S : ri_H} {Q : Option Nat → ri_H → Prop} (h : w45 w a b S Q) : ri_A E 1 (ri_en 45 [.ref w, .int a, .int b]) S (Qr Q) := by
  rcases hw with rfl | rfl
  · unfold w45 at h
    show ri_A E 1 (45, 0, [some (.ref 10), some (.int a), some (.int b)], []) S (Qr Q)
    refine A_call (j := 98) (As := [.ref 15, .int a]) (fr' := (45, 13, [some (.ref 10), some (.int a), some (.int b)], [.int (0 : Int32), .ref 18])) (S' := S) 7 rfl (e := 0) (by omega) (sp_item 15 5 _ ⟨by decide, by decide, rfl⟩ (by decide) ?_)
    refine A_call (j := 99) (As := [.ref 18, .int (0 : Int32), .int (it (S.1 15) 5 a)]) (fr' := (45, 16, [some (.ref 10), some (.int a), some (.int b)], [])) (S' := S) 1 rfl (e := 0) (by omega) (sp_putItem 18 6 _ _ ⟨by decide, by decide, rfl⟩ (by decide) ?_)
    refine A_call (j := 99) (As := [.ref 18, .int (1 : Int32), .int b]) (fr' := (45, 25, [some (.ref 10), some (.int a), some (.int b)], [])) (S' := (ri_wr S 18 (pu 6 (S.1 18) (0 : Int32) (it (S.1 15) 5 a)))) 5 rfl (e := 0) (by omega) (sp_putItem 18 6 _ _ ⟨by decide, by decide, rfl⟩ (by decide) ?_)
    refine A_call (j := 98) (As := [.ref 14, .int a]) (fr' := (45, 38, [some (.ref 10), some (.int a), some (.int b)], [.int (2 : Int32), .ref 18])) (S' := (ri_wr (ri_wr S 18 (pu 6 (S.1 18) (0 : Int32) (it (S.1 15) 5 a))) 18 (pu 6 (pu 6 (S.1 18) (0 : Int32) (it (S.1 15) 5 a)) (1 : Int32) b))) 7 rfl (e := 0) (by omega) (sp_item 14 5 _ ⟨by decide, by decide, rfl⟩ (by decide) ?_)
    refine A_call (j := 99) (As := [.ref 18, .int (2 : Int32), .int (it (S.1 14) 5 a)]) (fr' := (45, 41, [some (.ref 10), some (.int a), some (.int b)], [])) (S' := (ri_wr (ri_wr S 18 (pu 6 (S.1 18) (0 : Int32) (it (S.1 15) 5 a))) 18 (pu 6 (pu 6 (S.1 18) (0 : Int32) (it (S.1 15) 5 a)) (1 : Int32) b))) 1 rfl (e := 0) (by omega) (sp_putItem 18 6 _ _ ⟨by decide, by decide, rfl⟩ (by decide) ?_)
    refine A_call (j := 99) (As := [.ref 18, .int (3 : Int32), .int (S.1 10 10)]) (fr' := (45, 53, [some (.ref 10), some (.int a), some (.int b)], [])) (S' := (ri_wr (ri_wr (ri_wr S 18 (pu 6 (S.1 18) (0 : Int32) (it (S.1 15) 5 a))) 18 (pu 6 (pu 6 (S.1 18) (0 : Int32) (it (S.1 15) 5 a)) (1 : Int32) b)) 18 (pu 6 (pu 6 (pu 6 (S.1 18) (0 : Int32) (it (S.1 15) 5 a)) (1 : Int32) b) (2 : Int32) (it (S.1 14) 5 a)))) 6 rfl (e := 0) (by omega) (sp_putItem 18 6 _ _ ⟨by decide, by decide, rfl⟩ (by decide) ?_)
    refine A_call (j := 98) (As := [.ref 16, .int a]) (fr' := (45, 66, [some (.ref 10), some (.int a), some (.int b)], [.int (4 : Int32), .ref 18])) (S' := (ri_wr (ri_wr (ri_wr (ri_wr S 18 (pu 6 (S.1 18) (0 : Int32) (it (S.1 15) 5 a))) 18 (pu 6 (pu 6 (S.1 18) (0 : Int32) (it (S.1 15) 5 a)) (1 : Int32) b)) 18 (pu 6 (pu 6 (pu 6 (S.1 18) (0 : Int32) (it (S.1 15) 5 a)) (1 : Int32) b) (2 : Int32) (it (S.1 14) 5 a))) 18 (pu 6 (pu 6 (pu 6 (pu 6 (S.1 18) (0 : Int32) (it (S.1 15) 5 a)) (1 : Int32) b) (2 : Int32) (it (S.1 14) 5 a)) (3 : Int32) (S.1 10 10)))) 7 rfl (e := 0) (by omega) (sp_item 16 5 _ ⟨by decide, by decide, rfl⟩ (by decide) ?_)
    refine A_call (j := 99) (As := [.ref 18, .int (4 : Int32), .int (it (S.1 16) 5 a)]) (fr' := (45, 69, [some (.ref 10), some (.int a), some (.int b)], [])) (S' := (ri_wr (ri_wr (ri_wr (ri_wr S 18 (pu 6 (S.1 18) (0 : Int32) (it (S.1 15) 5 a))) 18 (pu 6 (pu 6 (S.1 18) (0 : Int32) (it (S.1 15) 5 a)) (1 : Int32) b)) 18 (pu 6 (pu 6 (pu 6 (S.1 18) (0 : Int32) (it (S.1 15) 5 a)) (1 : Int32) b) (2 : Int32) (it (S.1 14) 5 a))) 18 (pu 6 (pu 6 (pu 6 (pu 6 (S.1 18) (0 : Int32) (it (S.1 15) 5 a)) (1 : Int32) b) (2 : Int32) (it (S.1 14) 5 a)) (3 : Int32) (S.1 10 10)))) 1 rfl (e := 0) (by omega) (sp_putItem 18 6 _ _ ⟨by decide, by decide, rfl⟩ (by decide) ?_)
    refine A_call (j := 98) (As := [.ref 17, .int a]) (fr' := (45, 82, [some (.ref 10), some (.int a), some (.int b)], [.int (5 : Int32), .ref 18])) (S' := (ri_wr (ri_wr (ri_wr (ri_wr (ri_wr S 18 (pu 6 (S.1 18) (0 : Int32) (it (S.1 15) 5 a))) 18 (pu 6 (pu 6 (S.1 18) (0 : Int32) (it (S.1 15) 5 a)) (1 : Int32) b)) 18 (pu 6 (pu 6 (pu 6 (S.1 18) (0 : Int32) (it (S.1 15) 5 a)) (1 : Int32) b) (2 : Int32) (it (S.1 14) 5 a))) 18 (pu 6 (pu 6 (pu 6 (pu 6 (S.1 18) (0 : Int32) (it (S.1 15) 5 a)) (1 : Int32) b) (2 : Int32) (it (S.1 14) 5 a)) (3 : Int32) (S.1 10 10))) 18 (pu 6 (pu 6 (pu 6 (pu 6 (pu 6 (S.1 18) (0 : Int32) (it (S.1 15) 5 a)) (1 : Int32) b) (2 : Int32) (it (S.1 14) 5 a)) (3 : Int32) (S.1 10 10)) (4 : Int32) (it (S.1 16) 5 a)))) 7 rfl (e := 0) (by omega) (sp_item 17 5 _ ⟨by decide, by decide, rfl⟩ (by decide) ?_)
    refine A_call (j := 99) (As := [.ref 18, .int (5 : Int32), .int (it (S.1 17) 5 a)]) (fr' := (45, 85, [some (.ref 10), some (.int a), some (.int b)], [])) (S' := (ri_wr (ri_wr (ri_wr (ri_wr (ri_wr S 18 (pu 6 (S.1 18) (0 : Int32) (it (S.1 15) 5 a))) 18 (pu 6 (pu 6 (S.1 18) (0 : Int32) (it (S.1 15) 5 a)) (1 : Int32) b)) 18 (pu 6 (pu 6 (pu 6 (S.1 18) (0 : Int32) (it (S.1 15) 5 a)) (1 : Int32) b) (2 : Int32) (it (S.1 14) 5 a))) 18 (pu 6 (pu 6 (pu 6 (pu 6 (S.1 18) (0 : Int32) (it (S.1 15) 5 a)) (1 : Int32) b) (2 : Int32) (it (S.1 14) 5 a)) (3 : Int32) (S.1 10 10))) 18 (pu 6 (pu 6 (pu 6 (pu 6 (pu 6 (S.1 18) (0 : Int32) (it (S.1 15) 5 a)) (1 : Int32) b) (2 : Int32) (it (S.1 14) 5 a)) (3 : Int32) (S.1 10 10)) (4 : Int32) (it (S.1 16) 5 a)))) 1 rfl (e := 0) (by omega) (sp_putItem 18 6 _ _ ⟨by decide, by decide, rfl⟩ (by decide) ?_)
    exact A_ret 3 (m := 45) (v := some (.ref 18)) (S' := (ri_wr (ri_wr (ri_wr (ri_wr (ri_wr (ri_wr S 18 (pu 6 (S.1 18) (0 : Int32) (it (S.1 15) 5 a))) 18 (pu 6 (pu 6 (S.1 18) (0 : Int32) (it (S.1 15) 5 a)) (1 : Int32) b)) 18 (pu 6 (pu 6 (pu 6 (S.1 18) (0 : Int32) (it (S.1 15) 5 a)) (1 : Int32) b) (2 : Int32) (it (S.1 14) 5 a))) 18 (pu 6 (pu 6 (pu 6 (pu 6 (S.1 18) (0 : Int32) (it (S.1 15) 5 a)) (1 : Int32) b) (2 : Int32) (it (S.1 14) 5 a)) (3 : Int32) (S.1 10 10))) 18 (pu 6 (pu 6 (pu 6 (pu 6 (pu 6 (S.1 18) (0 : Int32) (it (S.1 15) 5 a)) (1 : Int32) b) (2 : Int32) (it (S.1 14) 5 a)) (3 : Int32) (S.1 10 10)) (4 : Int32) (it (S.1 16) 5 a))) 18 (pu 6 (pu 6 (pu 6 (pu 6 (pu 6 (pu 6 (S.1 18) (0 : Int32) (it (S.1 15) 5 a)) (1 : Int32) b) (2 : Int32) (it (S.1 14) 5 a)) (3 : Int32) (S.1 10 10)) (4 : Int32) (it (S.1 16) 5 a)) (5 : Int32) (it (S.1 17) 5 a)))) rfl rfl ⟨(some 18), rfl, h⟩
  · unfold w45 at h
    show ri_A E 1 (45, 0, [some (.ref 19), some (.int a), some (.int b)], []) S (Qr Q)
    refine A_call (j := 98) (As := [.ref 24, .int a]) (fr' := (45, 13, [some (.ref 19), some (.int a), some (.int b)], [.int (0 : Int32), .ref 27])) (S' := S) 7 rfl (e := 0) (by omega) (sp_item 24 5 _ ⟨by decide, by decide, rfl⟩ (by decide) ?_)
    refine A_call (j := 99) (As := [.ref 27, .int (0 : Int32), .int (it (S.1 24) 5 a)]) (fr' := (45, 16, [some (.ref 19), some (.int a), some (.int b)], [])) (S' := S) 1 rfl (e := 0) (by omega) (sp_putItem 27 6 _ _ ⟨by decide, by decide, rfl⟩ (by decide) ?_)
    refine A_call (j := 99) (As := [.ref 27, .int (1 : Int32), .int b]) (fr' := (45, 25, [some (.ref 19), some (.int a), some (.int b)], [])) (S' := (ri_wr S 27 (pu 6 (S.1 27) (0 : Int32) (it (S.1 24) 5 a)))) 5 rfl (e := 0) (by omega) (sp_putItem 27 6 _ _ ⟨by decide, by decide, rfl⟩ (by decide) ?_)
    refine A_call (j := 98) (As := [.ref 23, .int a]) (fr' := (45, 38, [some (.ref 19), some (.int a), some (.int b)], [.int (2 : Int32), .ref 27])) (S' := (ri_wr (ri_wr S 27 (pu 6 (S.1 27) (0 : Int32) (it (S.1 24) 5 a))) 27 (pu 6 (pu 6 (S.1 27) (0 : Int32) (it (S.1 24) 5 a)) (1 : Int32) b))) 7 rfl (e := 0) (by omega) (sp_item 23 5 _ ⟨by decide, by decide, rfl⟩ (by decide) ?_)
    refine A_call (j := 99) (As := [.ref 27, .int (2 : Int32), .int (it (S.1 23) 5 a)]) (fr' := (45, 41, [some (.ref 19), some (.int a), some (.int b)], [])) (S' := (ri_wr (ri_wr S 27 (pu 6 (S.1 27) (0 : Int32) (it (S.1 24) 5 a))) 27 (pu 6 (pu 6 (S.1 27) (0 : Int32) (it (S.1 24) 5 a)) (1 : Int32) b))) 1 rfl (e := 0) (by omega) (sp_putItem 27 6 _ _ ⟨by decide, by decide, rfl⟩ (by decide) ?_)
    refine A_call (j := 99) (As := [.ref 27, .int (3 : Int32), .int (S.1 19 10)]) (fr' := (45, 53, [some (.ref 19), some (.int a), some (.int b)], [])) (S' := (ri_wr (ri_wr (ri_wr S 27 (pu 6 (S.1 27) (0 : Int32) (it (S.1 24) 5 a))) 27 (pu 6 (pu 6 (S.1 27) (0 : Int32) (it (S.1 24) 5 a)) (1 : Int32) b)) 27 (pu 6 (pu 6 (pu 6 (S.1 27) (0 : Int32) (it (S.1 24) 5 a)) (1 : Int32) b) (2 : Int32) (it (S.1 23) 5 a)))) 6 rfl (e := 0) (by omega) (sp_putItem 27 6 _ _ ⟨by decide, by decide, rfl⟩ (by decide) ?_)
    refine A_call (j := 98) (As := [.ref 25, .int a]) (fr' := (45, 66, [some (.ref 19), some (.int a), some (.int b)], [.int (4 : Int32), .ref 27])) (S' := (ri_wr (ri_wr (ri_wr (ri_wr S 27 (pu 6 (S.1 27) (0 : Int32) (it (S.1 24) 5 a))) 27 (pu 6 (pu 6 (S.1 27) (0 : Int32) (it (S.1 24) 5 a)) (1 : Int32) b)) 27 (pu 6 (pu 6 (pu 6 (S.1 27) (0 : Int32) (it (S.1 24) 5 a)) (1 : Int32) b) (2 : Int32) (it (S.1 23) 5 a))) 27 (pu 6 (pu 6 (pu 6 (pu 6 (S.1 27) (0 : Int32) (it (S.1 24) 5 a)) (1 : Int32) b) (2 : Int32) (it (S.1 23) 5 a)) (3 : Int32) (S.1 19 10)))) 7 rfl (e := 0) (by omega) (sp_item 25 5 _ ⟨by decide, by decide, rfl⟩ (by decide) ?_)
    refine A_call (j := 99) (As := [.ref 27, .int (4 : Int32), .int (it (S.1 25) 5 a)]) (fr' := (45, 69, [some (.ref 19), some (.int a), some (.int b)], [])) (S' := (ri_wr (ri_wr (ri_wr (ri_wr S 27 (pu 6 (S.1 27) (0 : Int32) (it (S.1 24) 5 a))) 27 (pu 6 (pu 6 (S.1 27) (0 : Int32) (it (S.1 24) 5 a)) (1 : Int32) b)) 27 (pu 6 (pu 6 (pu 6 (S.1 27) (0 : Int32) (it (S.1 24) 5 a)) (1 : Int32) b) (2 : Int32) (it (S.1 23) 5 a))) 27 (pu 6 (pu 6 (pu 6 (pu 6 (S.1 27) (0 : Int32) (it (S.1 24) 5 a)) (1 : Int32) b) (2 : Int32) (it (S.1 23) 5 a)) (3 : Int32) (S.1 19 10)))) 1 rfl (e := 0) (by omega) (sp_putItem 27 6 _ _ ⟨by decide, by decide, rfl⟩ (by decide) ?_)
    refine A_call (j := 98) (As := [.ref 26, .int a]) (fr' := (45, 82, [some (.ref 19), some (.int a), some (.int b)], [.int (5 : Int32), .ref 27])) (S' := (ri_wr (ri_wr (ri_wr (ri_wr (ri_wr S 27 (pu 6 (S.1 27) (0 : Int32) (it (S.1 24) 5 a))) 27 (pu 6 (pu 6 (S.1 27) (0 : Int32) (it (S.1 24) 5 a)) (1 : Int32) b)) 27 (pu 6 (pu 6 (pu 6 (S.1 27) (0 : Int32) (it (S.1 24) 5 a)) (1 : Int32) b) (2 : Int32) (it (S.1 23) 5 a))) 27 (pu 6 (pu 6 (pu 6 (pu 6 (S.1 27) (0 : Int32) (it (S.1 24) 5 a)) (1 : Int32) b) (2 : Int32) (it (S.1 23) 5 a)) (3 : Int32) (S.1 19 10))) 27 (pu 6 (pu 6 (pu 6 (pu 6 (pu 6 (S.1 27) (0 : Int32) (it (S.1 24) 5 a)) (1 : Int32) b) (2 : Int32) (it (S.1 23) 5 a)) (3 : Int32) (S.1 19 10)) (4 : Int32) (it (S.1 25) 5 a)))) 7 rfl (e := 0) (by omega) (sp_item 26 5 _ ⟨by decide, by decide, rfl⟩ (by decide) ?_)
    refine A_call (j := 99) (As := [.ref 27, .int (5 : Int32), .int (it (S.1 26) 5 a)]) (fr' := (45, 85, [some (.ref 19), some (.int a), some (.int b)], [])) (S' := (ri_wr (ri_wr (ri_wr (ri_wr (ri_wr S 27 (pu 6 (S.1 27) (0 : Int32) (it (S.1 24) 5 a))) 27 (pu 6 (pu 6 (S.1 27) (0 : Int32) (it (S.1 24) 5 a)) (1 : Int32) b)) 27 (pu 6 (pu 6 (pu 6 (S.1 27) (0 : Int32) (it (S.1 24) 5 a)) (1 : Int32) b) (2 : Int32) (it (S.1 23) 5 a))) 27 (pu 6 (pu 6 (pu 6 (pu 6 (S.1 27) (0 : Int32) (it (S.1 24) 5 a)) (1 : Int32) b) (2 : Int32) (it (S.1 23) 5 a)) (3 : Int32) (S.1 19 10))) 27 (pu 6 (pu 6 (pu 6 (pu 6 (pu 6 (S.1 27) (0 : Int32) (it (S.1 24) 5 a)) (1 : Int32) b) (2 : Int32) (it (S.1 23) 5 a)) (3 : Int32) (S.1 19 10)) (4 : Int32) (it (S.1 25) 5 a)))) 1 rfl (e := 0) (by omega) (sp_putItem 27 6 _ _ ⟨by decide, by decide, rfl⟩ (by decide) ?_)
    exact A_ret 3 (m := 45) (v := some (.ref 27)) (S' := (ri_wr (ri_wr (ri_wr (ri_wr (ri_wr (ri_wr S 27 (pu 6 (S.1 27) (0 : Int32) (it (S.1 24) 5 a))) 27 (pu 6 (pu 6 (S.1 27) (0 : Int32) (it (S.1 24) 5 a)) (1 : Int32) b)) 27 (pu 6 (pu 6 (pu 6 (S.1 27) (0 : Int32) (it (S.1 24) 5 a)) (1 : Int32) b) (2 : Int32) (it (S.1 23) 5 a))) 27 (pu 6 (pu 6 (pu 6 (pu 6 (S.1 27) (0 : Int32) (it (S.1 24) 5 a)) (1 : Int32) b) (2 : Int32) (it (S.1 23) 5 a)) (3 : Int32) (S.1 19 10))) 27 (pu 6 (pu 6 (pu 6 (pu 6 (pu 6 (S.1 27) (0 : Int32) (it (S.1 24) 5 a)) (1 : Int32) b) (2 : Int32) (it (S.1 23) 5 a)) (3 : Int32) (S.1 19 10)) (4 : Int32) (it (S.1 25) 5 a))) 27 (pu 6 (pu 6 (pu 6 (pu 6 (pu 6 (pu 6 (S.1 27) (0 : Int32) (it (S.1 24) 5 a)) (1 : Int32) b) (2 : Int32) (it (S.1 23) 5 a)) (3 : Int32) (S.1 19 10)) (4 : Int32) (it (S.1 25) 5 a)) (5 : Int32) (it (S.1 26) 5 a)))) rfl rfl ⟨(some 27), rfl, h⟩
def nms (S : ri_H) (w : Nat) (a b : Int32) : ri_H := ri_wi (ri_wi (ri_wi (ri_wi (ri_wi (ri_wi S (w + 8) 0 (it (S.1 (w + 5)) 5 a)) (w + 8) 1 b) (w + 8) 2 (it (S.1 (w + 4)) 5 a)) (w + 8) 3 (S.1 w 10)) (w + 8) 4 (it (S.1 (w + 6)) 5 a)) (w + 8) 5 (it (S.1 (w + 7)) 5 a)
theorem pu_c {n : Nat} {f : Nat → Int32} {i v : Int32} (h : decide (i < 0) = false) (h2 : decide (Int32.ofNat n ≤ i) = false) : pu n f i v = upd f i.toNatClampNeg v := by
  unfold pu
  rw [if_neg (of_decide_eq_false h), if_neg (of_decide_eq_false h2)]
theorem sp_namesOf {E : ri_E} {S : ri_H} {Q : Option Value → ri_H → Prop} (w : Nat) (hw : w = 10 ∨ w = 19) (a b : Int32) (h : Q (some (.ref (w + 8))) (nms S w a b)) : ri_A E 1 (ri_en 45 [.ref w, .int a, .int b]) S Q := by
  refine A_imp (wt45 w hw a b (Q := fun r S1 => r = some (w + 8) ∧ S1 = nms S w a b) ?_) (fun v S1 hv => ?_)
  · unfold w45 nms
    refine ⟨rfl, ?_⟩
    simp only [ri_wr_wr, ri_wi_wr, ri_wr_eq]
    rw [pu_c (i := 0) rfl rfl, pu_c (i := 1) rfl rfl, pu_c (i := 2) rfl rfl, pu_c (i := 3) rfl rfl, pu_c (i := 4) rfl rfl, pu_c (i := 5) rfl rfl]
    rfl
  · obtain ⟨k, hk, rfl, rfl⟩ := hv
    subst hk
    exact h
/-! X3_takes, depth 2 -/
def w40_b60 (w : Nat) (Q : Int32 → ri_H → Prop) (x3 : Int32) (S : ri_H) : Prop := (((it (S.1 (w + 2)) 24 ((2 : Int32) * x3)) ≤ (it (S.1 (w + 2)) 24 (((2 : Int32) * x3) + (1 : Int32))) → Q (0 : Int32) S) ∧ (¬ (it (S.1 (w + 2)) 24 ((2 : Int32) * x3)) ≤ (it (S.1 (w + 2)) 24 (((2 : Int32) * x3) + (1 : Int32))) → Q (1 : Int32) S))
set_option maxRecDepth 10000 in
set_option maxHeartbeats 1000000 in
theorem wt40_b60 {E : ri_E} (w : Nat) (hw : w = 10 ∨ w = 19) {Q : Int32 → ri_H → Prop} (x3 : Int32) (S : ri_H) (h : w40_b60 w  Q x3 S) : ri_A E 2 (40, 60, [some (.ref w), none, none, some (.int x3), none], []) S (Qi Q) := by
  rcases hw with rfl | rfl
  · unfold w40_b60 at h
    refine A_call (j := 98) (As := [.ref 12, .int (((2 : Int32) * x3) + (1 : Int32))]) (fr' := (40, 72, [some (.ref 10), none, none, some (.int x3), none], [])) (S' := S) 8 rfl (e := 0) (by omega) (sp_item 12 24 _ ⟨by decide, by decide, rfl⟩ (by decide) ?_)
    refine A_call (j := 98) (As := [.ref 12, .int ((2 : Int32) * x3)]) (fr' := (40, 82, [some (.ref 10), none, none, some (.int x3), none], [.int (it (S.1 12) 24 (((2 : Int32) * x3) + (1 : Int32)))])) (S' := S) 6 rfl (e := 0) (by omega) (sp_item 12 24 _ ⟨by decide, by decide, rfl⟩ (by decide) ?_)
    refine A_br ((it (S.1 12) 24 ((2 : Int32) * x3)) ≤ (it (S.1 12) 24 (((2 : Int32) * x3) + (1 : Int32)))) (r1 := ((40, 89, [some (.ref 10), none, none, some (.int x3), none], []), S)) (r2 := ((40, 85, [some (.ref 10), none, none, some (.int x3), none], []), S)) 1 rfl (fun c => ?_) (fun c => ?_)
    · have h := h.1 c
      exact A_ret 2 (m := 40) (v := some (.int (0 : Int32))) (S' := S) rfl rfl ⟨_, rfl, h⟩
    · have h := h.2 c
      exact A_ret 3 (m := 40) (v := some (.int (1 : Int32))) (S' := S) rfl rfl ⟨_, rfl, h⟩
  · unfold w40_b60 at h
    refine A_call (j := 98) (As := [.ref 21, .int (((2 : Int32) * x3) + (1 : Int32))]) (fr' := (40, 72, [some (.ref 19), none, none, some (.int x3), none], [])) (S' := S) 8 rfl (e := 0) (by omega) (sp_item 21 24 _ ⟨by decide, by decide, rfl⟩ (by decide) ?_)
    refine A_call (j := 98) (As := [.ref 21, .int ((2 : Int32) * x3)]) (fr' := (40, 82, [some (.ref 19), none, none, some (.int x3), none], [.int (it (S.1 21) 24 (((2 : Int32) * x3) + (1 : Int32)))])) (S' := S) 6 rfl (e := 0) (by omega) (sp_item 21 24 _ ⟨by decide, by decide, rfl⟩ (by decide) ?_)
    refine A_br ((it (S.1 21) 24 ((2 : Int32) * x3)) ≤ (it (S.1 21) 24 (((2 : Int32) * x3) + (1 : Int32)))) (r1 := ((40, 89, [some (.ref 19), none, none, some (.int x3), none], []), S)) (r2 := ((40, 85, [some (.ref 19), none, none, some (.int x3), none], []), S)) 1 rfl (fun c => ?_) (fun c => ?_)
    · have h := h.1 c
      exact A_ret 2 (m := 40) (v := some (.int (0 : Int32))) (S' := S) rfl rfl ⟨_, rfl, h⟩
    · have h := h.2 c
      exact A_ret 3 (m := 40) (v := some (.int (1 : Int32))) (S' := S) rfl rfl ⟨_, rfl, h⟩
def w40_b144 (w : Nat) (Q : Int32 → ri_H → Prop) (x1 : Int32) (x2 : Int32) (x4 : Int32) (S : ri_H) : Prop := ((¬ x2 = (3 : Int32) → Q x4 S) ∧ (¬ (¬ x2 = (3 : Int32)) → ((0 ≤ (it (S.1 (w + 6)) 5 x1) → Q x4 S) ∧ (¬ (0 ≤ (it (S.1 (w + 6)) 5 x1)) → Q ((1 : Int32) - x4) S))))
set_option maxRecDepth 10000 in
set_option maxHeartbeats 1000000 in
theorem wt40_b144 {E : ri_E} (w : Nat) (hw : w = 10 ∨ w = 19) {Q : Int32 → ri_H → Prop} (x1 : Int32) (x2 : Int32) (x4 : Int32) (S : ri_H) (h : w40_b144 w  Q x1 x2 x4 S) : ri_A E 2 (40, 144, [some (.ref w), some (.int x1), some (.int x2), none, some (.int x4)], []) S (Qi Q) := by
  rcases hw with rfl | rfl
  · unfold w40_b144 at h
    refine A_br (¬ x2 = (3 : Int32)) (r1 := ((40, 167, [some (.ref 10), some (.int x1), some (.int x2), none, some (.int x4)], []), S)) (r2 := ((40, 149, [some (.ref 10), some (.int x1), some (.int x2), none, some (.int x4)], []), S)) 3 rfl (fun c => ?_) (fun c => ?_)
    · have h := h.1 c
      exact A_ret 2 (m := 40) (v := some (.int x4)) (S' := S) rfl rfl ⟨_, rfl, h⟩
    · have h := h.2 c
      refine A_call (j := 98) (As := [.ref 16, .int x1]) (fr' := (40, 157, [some (.ref 10), some (.int x1), some (.int x2), none, some (.int x4)], [])) (S' := S) 4 rfl (e := 0) (by omega) (sp_item 16 5 _ ⟨by decide, by decide, rfl⟩ (by decide) ?_)
      refine A_br (0 ≤ (it (S.1 16) 5 x1)) (r1 := ((40, 167, [some (.ref 10), some (.int x1), some (.int x2), none, some (.int x4)], []), S)) (r2 := ((40, 160, [some (.ref 10), some (.int x1), some (.int x2), none, some (.int x4)], []), S)) 1 rfl (fun c => ?_) (fun c => ?_)
      · have h := h.1 c
        exact A_ret 2 (m := 40) (v := some (.int x4)) (S' := S) rfl rfl ⟨_, rfl, h⟩
      · have h := h.2 c
        exact A_ret 5 (m := 40) (v := some (.int ((1 : Int32) - x4))) (S' := S) rfl rfl ⟨_, rfl, h⟩
  · unfold w40_b144 at h
    refine A_br (¬ x2 = (3 : Int32)) (r1 := ((40, 167, [some (.ref 19), some (.int x1), some (.int x2), none, some (.int x4)], []), S)) (r2 := ((40, 149, [some (.ref 19), some (.int x1), some (.int x2), none, some (.int x4)], []), S)) 3 rfl (fun c => ?_) (fun c => ?_)
    · have h := h.1 c
      exact A_ret 2 (m := 40) (v := some (.int x4)) (S' := S) rfl rfl ⟨_, rfl, h⟩
    · have h := h.2 c
      refine A_call (j := 98) (As := [.ref 25, .int x1]) (fr' := (40, 157, [some (.ref 19), some (.int x1), some (.int x2), none, some (.int x4)], [])) (S' := S) 4 rfl (e := 0) (by omega) (sp_item 25 5 _ ⟨by decide, by decide, rfl⟩ (by decide) ?_)
      refine A_br (0 ≤ (it (S.1 25) 5 x1)) (r1 := ((40, 167, [some (.ref 19), some (.int x1), some (.int x2), none, some (.int x4)], []), S)) (r2 := ((40, 160, [some (.ref 19), some (.int x1), some (.int x2), none, some (.int x4)], []), S)) 1 rfl (fun c => ?_) (fun c => ?_)
      · have h := h.1 c
        exact A_ret 2 (m := 40) (v := some (.int x4)) (S' := S) rfl rfl ⟨_, rfl, h⟩
      · have h := h.2 c
        exact A_ret 5 (m := 40) (v := some (.int ((1 : Int32) - x4))) (S' := S) rfl rfl ⟨_, rfl, h⟩
def w40_b123 (w : Nat) (Q : Int32 → ri_H → Prop) (x1 : Int32) (x2 : Int32) (x3 : Int32) (s0 : Int32) (S : ri_H) : Prop := ((x2 = 0 → w40_b144 w  Q x1 x2 s0 S) ∧ (¬ (x2 = 0) → ((¬ x3 = (it (S.1 (w + 4)) 5 x1) → w40_b144 w  Q x1 x2 s0 S) ∧ (¬ (¬ x3 = (it (S.1 (w + 4)) 5 x1)) → w40_b144 w  Q x1 x2 (1 : Int32) S))))
set_option maxRecDepth 10000 in
set_option maxHeartbeats 1000000 in
theorem wt40_b123 {E : ri_E} (w : Nat) (hw : w = 10 ∨ w = 19) {Q : Int32 → ri_H → Prop} (x1 : Int32) (x2 : Int32) (x3 : Int32) (s0 : Int32) (S : ri_H) (h : w40_b123 w  Q x1 x2 x3 s0 S) : ri_A E 2 (40, 123, [some (.ref w), some (.int x1), some (.int x2), some (.int x3), none], [.int s0]) S (Qi Q) := by
  rcases hw with rfl | rfl
  · unfold w40_b123 at h
    refine A_br (x2 = 0) (r1 := ((40, 144, [some (.ref 10), some (.int x1), some (.int x2), some (.int x3), some (.int s0)], []), S)) (r2 := ((40, 129, [some (.ref 10), some (.int x1), some (.int x2), some (.int x3), some (.int s0)], []), S)) 3 rfl (fun c => ?_) (fun c => ?_)
    · have h := h.1 c
      refine ri_A.less (m := 40) (pc := 144) (L := [some (.ref 10), some (.int x1), some (.int x2), some (.int x3), some (.int s0)]) (L' := [some (.ref 10), some (.int x1), some (.int x2), none, some (.int s0)]) (st := []) ⟨rfl, ⟨rfl, ⟨rfl, ⟨rfl, trivial⟩⟩⟩⟩ ?_
      exact wt40_b144 10 (by decide)  _ _ _ _ h
    · have h := h.2 c
      refine A_call (j := 98) (As := [.ref 14, .int x1]) (fr' := (40, 138, [some (.ref 10), some (.int x1), some (.int x2), some (.int x3), some (.int s0)], [.int x3])) (S' := S) 5 rfl (e := 0) (by omega) (sp_item 14 5 _ ⟨by decide, by decide, rfl⟩ (by decide) ?_)
      refine A_br (¬ x3 = (it (S.1 14) 5 x1)) (r1 := ((40, 144, [some (.ref 10), some (.int x1), some (.int x2), some (.int x3), some (.int s0)], []), S)) (r2 := ((40, 141, [some (.ref 10), some (.int x1), some (.int x2), some (.int x3), some (.int s0)], []), S)) 1 rfl (fun c => ?_) (fun c => ?_)
      · have h := h.1 c
        refine ri_A.less (m := 40) (pc := 144) (L := [some (.ref 10), some (.int x1), some (.int x2), some (.int x3), some (.int s0)]) (L' := [some (.ref 10), some (.int x1), some (.int x2), none, some (.int s0)]) (st := []) ⟨rfl, ⟨rfl, ⟨rfl, ⟨rfl, trivial⟩⟩⟩⟩ ?_
        exact wt40_b144 10 (by decide)  _ _ _ _ h
      · have h := h.2 c
        refine A_nx 2 (fr' := (40, 144, [some (.ref 10), some (.int x1), some (.int x2), some (.int x3), some (.int (1 : Int32))], [])) (S' := S) rfl ?_
        refine ri_A.less (m := 40) (pc := 144) (L := [some (.ref 10), some (.int x1), some (.int x2), some (.int x3), some (.int (1 : Int32))]) (L' := [some (.ref 10), some (.int x1), some (.int x2), none, some (.int (1 : Int32))]) (st := []) ⟨rfl, ⟨rfl, ⟨rfl, ⟨rfl, trivial⟩⟩⟩⟩ ?_
        exact wt40_b144 10 (by decide)  _ _ _ _ h
  · unfold w40_b123 at h
    refine A_br (x2 = 0) (r1 := ((40, 144, [some (.ref 19), some (.int x1), some (.int x2), some (.int x3), some (.int s0)], []), S)) (r2 := ((40, 129, [some (.ref 19), some (.int x1), some (.int x2), some (.int x3), some (.int s0)], []), S)) 3 rfl (fun c => ?_) (fun c => ?_)
    · have h := h.1 c
      refine ri_A.less (m := 40) (pc := 144) (L := [some (.ref 19), some (.int x1), some (.int x2), some (.int x3), some (.int s0)]) (L' := [some (.ref 19), some (.int x1), some (.int x2), none, some (.int s0)]) (st := []) ⟨rfl, ⟨rfl, ⟨rfl, ⟨rfl, trivial⟩⟩⟩⟩ ?_
      exact wt40_b144 19 (by decide)  _ _ _ _ h
    · have h := h.2 c
      refine A_call (j := 98) (As := [.ref 23, .int x1]) (fr' := (40, 138, [some (.ref 19), some (.int x1), some (.int x2), some (.int x3), some (.int s0)], [.int x3])) (S' := S) 5 rfl (e := 0) (by omega) (sp_item 23 5 _ ⟨by decide, by decide, rfl⟩ (by decide) ?_)
      refine A_br (¬ x3 = (it (S.1 23) 5 x1)) (r1 := ((40, 144, [some (.ref 19), some (.int x1), some (.int x2), some (.int x3), some (.int s0)], []), S)) (r2 := ((40, 141, [some (.ref 19), some (.int x1), some (.int x2), some (.int x3), some (.int s0)], []), S)) 1 rfl (fun c => ?_) (fun c => ?_)
      · have h := h.1 c
        refine ri_A.less (m := 40) (pc := 144) (L := [some (.ref 19), some (.int x1), some (.int x2), some (.int x3), some (.int s0)]) (L' := [some (.ref 19), some (.int x1), some (.int x2), none, some (.int s0)]) (st := []) ⟨rfl, ⟨rfl, ⟨rfl, ⟨rfl, trivial⟩⟩⟩⟩ ?_
        exact wt40_b144 19 (by decide)  _ _ _ _ h
      · have h := h.2 c
        refine A_nx 2 (fr' := (40, 144, [some (.ref 19), some (.int x1), some (.int x2), some (.int x3), some (.int (1 : Int32))], [])) (S' := S) rfl ?_
        refine ri_A.less (m := 40) (pc := 144) (L := [some (.ref 19), some (.int x1), some (.int x2), some (.int x3), some (.int (1 : Int32))]) (L' := [some (.ref 19), some (.int x1), some (.int x2), none, some (.int (1 : Int32))]) (st := []) ⟨rfl, ⟨rfl, ⟨rfl, ⟨rfl, trivial⟩⟩⟩⟩ ?_
        exact wt40_b144 19 (by decide)  _ _ _ _ h
def w40_b50 (w : Nat) (Q : Int32 → ri_H → Prop) (x1 : Int32) (x2 : Int32) (x3 : Int32) (S : ri_H) : Prop := ((x2 = (2 : Int32) → w40_b60 w  Q x3 S) ∧ (¬ (x2 = (2 : Int32)) → ((¬ x2 = (4 : Int32) → w44 w x3 S (fun (r2 : Int32) (S1 : ri_H) => w30 (w + 8) (S.1 w 11) (0 : Int32) (nms S1 w x1 r2) (fun (r4 : Int32) (S3 : ri_H) => ((¬ (r4 - r4 / (2 : Int32) * (2 : Int32)) = 0 → w40_b123 w  Q x1 x2 x3 (1 : Int32) S3) ∧ (¬ (¬ (r4 - r4 / (2 : Int32) * (2 : Int32)) = 0) → w40_b123 w  Q x1 x2 x3 (0 : Int32) S3))))) ∧ (¬ (¬ x2 = (4 : Int32)) → w40_b60 w  Q x3 S))))
set_option maxRecDepth 10000 in
set_option maxHeartbeats 1000000 in
theorem wt40_b50 {E : ri_E} (w : Nat) (hw : w = 10 ∨ w = 19) {Q : Int32 → ri_H → Prop} (x1 : Int32) (x2 : Int32) (x3 : Int32) (S : ri_H) (h : w40_b50 w  Q x1 x2 x3 S) : ri_A E 2 (40, 50, [some (.ref w), some (.int x1), some (.int x2), some (.int x3), none], []) S (Qi Q) := by
  rcases hw with rfl | rfl
  · unfold w40_b50 at h
    refine A_br (x2 = (2 : Int32)) (r1 := ((40, 60, [some (.ref 10), some (.int x1), some (.int x2), some (.int x3), none], []), S)) (r2 := ((40, 55, [some (.ref 10), some (.int x1), some (.int x2), some (.int x3), none], []), S)) 3 rfl (fun c => ?_) (fun c => ?_)
    · have h := h.1 c
      refine ri_A.less (m := 40) (pc := 60) (L := [some (.ref 10), some (.int x1), some (.int x2), some (.int x3), none]) (L' := [some (.ref 10), none, none, some (.int x3), none]) (st := []) ⟨rfl, ⟨rfl, trivial⟩⟩ ?_
      exact wt40_b60 10 (by decide)  _ _ h
    · have h := h.2 c
      refine A_br (¬ x2 = (4 : Int32)) (r1 := ((40, 91, [some (.ref 10), some (.int x1), some (.int x2), some (.int x3), none], []), S)) (r2 := ((40, 60, [some (.ref 10), some (.int x1), some (.int x2), some (.int x3), none], []), S)) 3 rfl (fun c => ?_) (fun c => ?_)
      · have h := h.1 c
        refine A_call (j := 44) (As := [.ref 10, .int x3]) (fr' := (40, 107, [some (.ref 10), some (.int x1), some (.int x2), some (.int x3), none], [.int x1, .ref 10, .int (0 : Int32), .int (S.1 10 11), .ref 1])) (S' := S) 10 rfl (e := 1) (by omega) (A_imp (wt44 10 (by decide) x3 h) (fun v S1 hq => ?_))
        obtain ⟨r2, hv, h⟩ := hq
        subst hv
        refine A_call (j := 45) (As := [.ref 10, .int x1, .int r2]) (fr' := (40, 110, [some (.ref 10), some (.int x1), some (.int x2), some (.int x3), none], [.int (0 : Int32), .int (S.1 10 11), .ref 1])) (S' := S1) 1 rfl (e := 1) (by omega) (sp_namesOf 10 (by decide) _ _ ?_)
        refine A_call (j := 30) (As := [.ref 1, .int (S.1 10 11), .int (0 : Int32), .ref 18]) (fr' := (40, 113, [some (.ref 10), some (.int x1), some (.int x2), some (.int x3), none], [])) (S' := (nms S1 10 x1 r2)) 1 rfl (e := 1) (by omega) (A_imp (wt30 18 (by decide) (S.1 10 11) (0 : Int32) h) (fun v S3 hq => ?_))
        obtain ⟨r4, hv, h⟩ := hq
        subst hv
        refine A_gd (¬ (2 : Int32) = 0) (r1 := ((40, 115, [some (.ref 10), some (.int x1), some (.int x2), some (.int x3), none], [.int (r4 - r4 / (2 : Int32) * (2 : Int32))]), S3)) 2 rfl (by decide) ?_
        refine A_br (¬ (r4 - r4 / (2 : Int32) * (2 : Int32)) = 0) (r1 := ((40, 122, [some (.ref 10), some (.int x1), some (.int x2), some (.int x3), none], []), S3)) (r2 := ((40, 118, [some (.ref 10), some (.int x1), some (.int x2), some (.int x3), none], []), S3)) 1 rfl (fun c => ?_) (fun c => ?_)
        · have h := h.1 c
          refine A_nx 1 (fr' := (40, 123, [some (.ref 10), some (.int x1), some (.int x2), some (.int x3), none], [.int (1 : Int32)])) (S' := S3) rfl ?_
          refine ri_A.less (m := 40) (pc := 123) (L := [some (.ref 10), some (.int x1), some (.int x2), some (.int x3), none]) (L' := [some (.ref 10), some (.int x1), some (.int x2), some (.int x3), none]) (st := [.int (1 : Int32)]) ⟨rfl, ⟨rfl, ⟨rfl, ⟨rfl, trivial⟩⟩⟩⟩ ?_
          exact wt40_b123 10 (by decide)  _ _ _ _ _ h
        · have h := h.2 c
          refine A_nx 2 (fr' := (40, 123, [some (.ref 10), some (.int x1), some (.int x2), some (.int x3), none], [.int (0 : Int32)])) (S' := S3) rfl ?_
          refine ri_A.less (m := 40) (pc := 123) (L := [some (.ref 10), some (.int x1), some (.int x2), some (.int x3), none]) (L' := [some (.ref 10), some (.int x1), some (.int x2), some (.int x3), none]) (st := [.int (0 : Int32)]) ⟨rfl, ⟨rfl, ⟨rfl, ⟨rfl, trivial⟩⟩⟩⟩ ?_
          exact wt40_b123 10 (by decide)  _ _ _ _ _ h
      · have h := h.2 c
        refine ri_A.less (m := 40) (pc := 60) (L := [some (.ref 10), some (.int x1), some (.int x2), some (.int x3), none]) (L' := [some (.ref 10), none, none, some (.int x3), none]) (st := []) ⟨rfl, ⟨rfl, trivial⟩⟩ ?_
        exact wt40_b60 10 (by decide)  _ _ h
  · unfold w40_b50 at h
    refine A_br (x2 = (2 : Int32)) (r1 := ((40, 60, [some (.ref 19), some (.int x1), some (.int x2), some (.int x3), none], []), S)) (r2 := ((40, 55, [some (.ref 19), some (.int x1), some (.int x2), some (.int x3), none], []), S)) 3 rfl (fun c => ?_) (fun c => ?_)
    · have h := h.1 c
      refine ri_A.less (m := 40) (pc := 60) (L := [some (.ref 19), some (.int x1), some (.int x2), some (.int x3), none]) (L' := [some (.ref 19), none, none, some (.int x3), none]) (st := []) ⟨rfl, ⟨rfl, trivial⟩⟩ ?_
      exact wt40_b60 19 (by decide)  _ _ h
    · have h := h.2 c
      refine A_br (¬ x2 = (4 : Int32)) (r1 := ((40, 91, [some (.ref 19), some (.int x1), some (.int x2), some (.int x3), none], []), S)) (r2 := ((40, 60, [some (.ref 19), some (.int x1), some (.int x2), some (.int x3), none], []), S)) 3 rfl (fun c => ?_) (fun c => ?_)
      · have h := h.1 c
        refine A_call (j := 44) (As := [.ref 19, .int x3]) (fr' := (40, 107, [some (.ref 19), some (.int x1), some (.int x2), some (.int x3), none], [.int x1, .ref 19, .int (0 : Int32), .int (S.1 19 11), .ref 1])) (S' := S) 10 rfl (e := 1) (by omega) (A_imp (wt44 19 (by decide) x3 h) (fun v S1 hq => ?_))
        obtain ⟨r2, hv, h⟩ := hq
        subst hv
        refine A_call (j := 45) (As := [.ref 19, .int x1, .int r2]) (fr' := (40, 110, [some (.ref 19), some (.int x1), some (.int x2), some (.int x3), none], [.int (0 : Int32), .int (S.1 19 11), .ref 1])) (S' := S1) 1 rfl (e := 1) (by omega) (sp_namesOf 19 (by decide) _ _ ?_)
        refine A_call (j := 30) (As := [.ref 1, .int (S.1 19 11), .int (0 : Int32), .ref 27]) (fr' := (40, 113, [some (.ref 19), some (.int x1), some (.int x2), some (.int x3), none], [])) (S' := (nms S1 19 x1 r2)) 1 rfl (e := 1) (by omega) (A_imp (wt30 27 (by decide) (S.1 19 11) (0 : Int32) h) (fun v S3 hq => ?_))
        obtain ⟨r4, hv, h⟩ := hq
        subst hv
        refine A_gd (¬ (2 : Int32) = 0) (r1 := ((40, 115, [some (.ref 19), some (.int x1), some (.int x2), some (.int x3), none], [.int (r4 - r4 / (2 : Int32) * (2 : Int32))]), S3)) 2 rfl (by decide) ?_
        refine A_br (¬ (r4 - r4 / (2 : Int32) * (2 : Int32)) = 0) (r1 := ((40, 122, [some (.ref 19), some (.int x1), some (.int x2), some (.int x3), none], []), S3)) (r2 := ((40, 118, [some (.ref 19), some (.int x1), some (.int x2), some (.int x3), none], []), S3)) 1 rfl (fun c => ?_) (fun c => ?_)
        · have h := h.1 c
          refine A_nx 1 (fr' := (40, 123, [some (.ref 19), some (.int x1), some (.int x2), some (.int x3), none], [.int (1 : Int32)])) (S' := S3) rfl ?_
          refine ri_A.less (m := 40) (pc := 123) (L := [some (.ref 19), some (.int x1), some (.int x2), some (.int x3), none]) (L' := [some (.ref 19), some (.int x1), some (.int x2), some (.int x3), none]) (st := [.int (1 : Int32)]) ⟨rfl, ⟨rfl, ⟨rfl, ⟨rfl, trivial⟩⟩⟩⟩ ?_
          exact wt40_b123 19 (by decide)  _ _ _ _ _ h
        · have h := h.2 c
          refine A_nx 2 (fr' := (40, 123, [some (.ref 19), some (.int x1), some (.int x2), some (.int x3), none], [.int (0 : Int32)])) (S' := S3) rfl ?_
          refine ri_A.less (m := 40) (pc := 123) (L := [some (.ref 19), some (.int x1), some (.int x2), some (.int x3), none]) (L' := [some (.ref 19), some (.int x1), some (.int x2), some (.int x3), none]) (st := [.int (0 : Int32)]) ⟨rfl, ⟨rfl, ⟨rfl, ⟨rfl, trivial⟩⟩⟩⟩ ?_
          exact wt40_b123 19 (by decide)  _ _ _ _ _ h
      · have h := h.2 c
        refine ri_A.less (m := 40) (pc := 60) (L := [some (.ref 19), some (.int x1), some (.int x2), some (.int x3), none]) (L' := [some (.ref 19), none, none, some (.int x3), none]) (st := []) ⟨rfl, ⟨rfl, trivial⟩⟩ ?_
        exact wt40_b60 19 (by decide)  _ _ h
def w40 (w : Nat) (a : Int32) (S : ri_H) (Q : Int32 → ri_H → Prop) : Prop := ((¬ (it (S.1 (w + 3)) 5 a) = (5 : Int32) → ((¬ (it (S.1 (w + 3)) 5 a) = (4 : Int32) → w40_b50 w  Q a (it (S.1 (w + 3)) 5 a) (it (S.1 (w + 5)) 5 a) S) ∧ (¬ (¬ (it (S.1 (w + 3)) 5 a) = (4 : Int32)) → ((¬ ((S.1 w 10) - (S.1 w 10) / (3 : Int32) * (3 : Int32)) = 0 → w40_b50 w  Q a (it (S.1 (w + 3)) 5 a) (it (S.1 (w + 5)) 5 a) S) ∧ (¬ (¬ ((S.1 w 10) - (S.1 w 10) / (3 : Int32) * (3 : Int32)) = 0) → Q (0 : Int32) S))))) ∧ (¬ (¬ (it (S.1 (w + 3)) 5 a) = (5 : Int32)) → Q ((it (S.1 (w + 4)) 5 a) - (it (S.1 (w + 4)) 5 a) / (2 : Int32) * (2 : Int32)) S))
set_option maxRecDepth 10000 in
set_option maxHeartbeats 1000000 in
theorem wt40 {E : ri_E} (w : Nat) (hw : w = 10 ∨ w = 19) (a : Int32) {S : ri_H} {Q : Int32 → ri_H → Prop} (h : w40 w a S Q) : ri_A E 2 (ri_en 40 [.ref w, .int a]) S (Qi Q) := by
  rcases hw with rfl | rfl
  · unfold w40 at h
    show ri_A E 2 (40, 0, [some (.ref 10), some (.int a), none, none, none], []) S (Qi Q)
    refine A_call (j := 98) (As := [.ref 13, .int a]) (fr' := (40, 8, [some (.ref 10), some (.int a), none, none, none], [])) (S' := S) 4 rfl (e := 0) (by omega) (sp_item 13 5 _ ⟨by decide, by decide, rfl⟩ (by decide) ?_)
    refine A_call (j := 98) (As := [.ref 15, .int a]) (fr' := (40, 17, [some (.ref 10), some (.int a), some (.int (it (S.1 13) 5 a)), none, none], [])) (S' := S) 5 rfl (e := 0) (by omega) (sp_item 15 5 _ ⟨by decide, by decide, rfl⟩ (by decide) ?_)
    refine A_br (¬ (it (S.1 13) 5 a) = (5 : Int32)) (r1 := ((40, 34, [some (.ref 10), some (.int a), some (.int (it (S.1 13) 5 a)), some (.int (it (S.1 15) 5 a)), none], []), S)) (r2 := ((40, 23, [some (.ref 10), some (.int a), some (.int (it (S.1 13) 5 a)), some (.int (it (S.1 15) 5 a)), none], []), S)) 4 rfl (fun c => ?_) (fun c => ?_)
    · have h := h.1 c
      refine A_br (¬ (it (S.1 13) 5 a) = (4 : Int32)) (r1 := ((40, 50, [some (.ref 10), some (.int a), some (.int (it (S.1 13) 5 a)), some (.int (it (S.1 15) 5 a)), none], []), S)) (r2 := ((40, 39, [some (.ref 10), some (.int a), some (.int (it (S.1 13) 5 a)), some (.int (it (S.1 15) 5 a)), none], []), S)) 3 rfl (fun c => ?_) (fun c => ?_)
      · have h := h.1 c
        refine ri_A.less (m := 40) (pc := 50) (L := [some (.ref 10), some (.int a), some (.int (it (S.1 13) 5 a)), some (.int (it (S.1 15) 5 a)), none]) (L' := [some (.ref 10), some (.int a), some (.int (it (S.1 13) 5 a)), some (.int (it (S.1 15) 5 a)), none]) (st := []) ⟨rfl, ⟨rfl, ⟨rfl, ⟨rfl, trivial⟩⟩⟩⟩ ?_
        exact wt40_b50 10 (by decide)  _ _ _ _ h
      · have h := h.2 c
        refine A_gd (¬ (3 : Int32) = 0) (r1 := ((40, 45, [some (.ref 10), some (.int a), some (.int (it (S.1 13) 5 a)), some (.int (it (S.1 15) 5 a)), none], [.int ((S.1 10 10) - (S.1 10 10) / (3 : Int32) * (3 : Int32))]), S)) 4 rfl (by decide) ?_
        refine A_br (¬ ((S.1 10 10) - (S.1 10 10) / (3 : Int32) * (3 : Int32)) = 0) (r1 := ((40, 50, [some (.ref 10), some (.int a), some (.int (it (S.1 13) 5 a)), some (.int (it (S.1 15) 5 a)), none], []), S)) (r2 := ((40, 48, [some (.ref 10), some (.int a), some (.int (it (S.1 13) 5 a)), some (.int (it (S.1 15) 5 a)), none], []), S)) 1 rfl (fun c => ?_) (fun c => ?_)
        · have h := h.1 c
          refine ri_A.less (m := 40) (pc := 50) (L := [some (.ref 10), some (.int a), some (.int (it (S.1 13) 5 a)), some (.int (it (S.1 15) 5 a)), none]) (L' := [some (.ref 10), some (.int a), some (.int (it (S.1 13) 5 a)), some (.int (it (S.1 15) 5 a)), none]) (st := []) ⟨rfl, ⟨rfl, ⟨rfl, ⟨rfl, trivial⟩⟩⟩⟩ ?_
          exact wt40_b50 10 (by decide)  _ _ _ _ h
        · have h := h.2 c
          exact A_ret 2 (m := 40) (v := some (.int (0 : Int32))) (S' := S) rfl rfl ⟨_, rfl, h⟩
    · have h := h.2 c
      refine A_call (j := 98) (As := [.ref 14, .int a]) (fr' := (40, 31, [some (.ref 10), some (.int a), some (.int (it (S.1 13) 5 a)), some (.int (it (S.1 15) 5 a)), none], [])) (S' := S) 4 rfl (e := 0) (by omega) (sp_item 14 5 _ ⟨by decide, by decide, rfl⟩ (by decide) ?_)
      refine A_gd (¬ (2 : Int32) = 0) (r1 := ((40, 33, [some (.ref 10), some (.int a), some (.int (it (S.1 13) 5 a)), some (.int (it (S.1 15) 5 a)), none], [.int ((it (S.1 14) 5 a) - (it (S.1 14) 5 a) / (2 : Int32) * (2 : Int32))]), S)) 2 rfl (by decide) ?_
      exact A_ret 1 (m := 40) (v := some (.int ((it (S.1 14) 5 a) - (it (S.1 14) 5 a) / (2 : Int32) * (2 : Int32)))) (S' := S) rfl rfl ⟨_, rfl, h⟩
  · unfold w40 at h
    show ri_A E 2 (40, 0, [some (.ref 19), some (.int a), none, none, none], []) S (Qi Q)
    refine A_call (j := 98) (As := [.ref 22, .int a]) (fr' := (40, 8, [some (.ref 19), some (.int a), none, none, none], [])) (S' := S) 4 rfl (e := 0) (by omega) (sp_item 22 5 _ ⟨by decide, by decide, rfl⟩ (by decide) ?_)
    refine A_call (j := 98) (As := [.ref 24, .int a]) (fr' := (40, 17, [some (.ref 19), some (.int a), some (.int (it (S.1 22) 5 a)), none, none], [])) (S' := S) 5 rfl (e := 0) (by omega) (sp_item 24 5 _ ⟨by decide, by decide, rfl⟩ (by decide) ?_)
    refine A_br (¬ (it (S.1 22) 5 a) = (5 : Int32)) (r1 := ((40, 34, [some (.ref 19), some (.int a), some (.int (it (S.1 22) 5 a)), some (.int (it (S.1 24) 5 a)), none], []), S)) (r2 := ((40, 23, [some (.ref 19), some (.int a), some (.int (it (S.1 22) 5 a)), some (.int (it (S.1 24) 5 a)), none], []), S)) 4 rfl (fun c => ?_) (fun c => ?_)
    · have h := h.1 c
      refine A_br (¬ (it (S.1 22) 5 a) = (4 : Int32)) (r1 := ((40, 50, [some (.ref 19), some (.int a), some (.int (it (S.1 22) 5 a)), some (.int (it (S.1 24) 5 a)), none], []), S)) (r2 := ((40, 39, [some (.ref 19), some (.int a), some (.int (it (S.1 22) 5 a)), some (.int (it (S.1 24) 5 a)), none], []), S)) 3 rfl (fun c => ?_) (fun c => ?_)
      · have h := h.1 c
        refine ri_A.less (m := 40) (pc := 50) (L := [some (.ref 19), some (.int a), some (.int (it (S.1 22) 5 a)), some (.int (it (S.1 24) 5 a)), none]) (L' := [some (.ref 19), some (.int a), some (.int (it (S.1 22) 5 a)), some (.int (it (S.1 24) 5 a)), none]) (st := []) ⟨rfl, ⟨rfl, ⟨rfl, ⟨rfl, trivial⟩⟩⟩⟩ ?_
        exact wt40_b50 19 (by decide)  _ _ _ _ h
      · have h := h.2 c
        refine A_gd (¬ (3 : Int32) = 0) (r1 := ((40, 45, [some (.ref 19), some (.int a), some (.int (it (S.1 22) 5 a)), some (.int (it (S.1 24) 5 a)), none], [.int ((S.1 19 10) - (S.1 19 10) / (3 : Int32) * (3 : Int32))]), S)) 4 rfl (by decide) ?_
        refine A_br (¬ ((S.1 19 10) - (S.1 19 10) / (3 : Int32) * (3 : Int32)) = 0) (r1 := ((40, 50, [some (.ref 19), some (.int a), some (.int (it (S.1 22) 5 a)), some (.int (it (S.1 24) 5 a)), none], []), S)) (r2 := ((40, 48, [some (.ref 19), some (.int a), some (.int (it (S.1 22) 5 a)), some (.int (it (S.1 24) 5 a)), none], []), S)) 1 rfl (fun c => ?_) (fun c => ?_)
        · have h := h.1 c
          refine ri_A.less (m := 40) (pc := 50) (L := [some (.ref 19), some (.int a), some (.int (it (S.1 22) 5 a)), some (.int (it (S.1 24) 5 a)), none]) (L' := [some (.ref 19), some (.int a), some (.int (it (S.1 22) 5 a)), some (.int (it (S.1 24) 5 a)), none]) (st := []) ⟨rfl, ⟨rfl, ⟨rfl, ⟨rfl, trivial⟩⟩⟩⟩ ?_
          exact wt40_b50 19 (by decide)  _ _ _ _ h
        · have h := h.2 c
          exact A_ret 2 (m := 40) (v := some (.int (0 : Int32))) (S' := S) rfl rfl ⟨_, rfl, h⟩
    · have h := h.2 c
      refine A_call (j := 98) (As := [.ref 23, .int a]) (fr' := (40, 31, [some (.ref 19), some (.int a), some (.int (it (S.1 22) 5 a)), some (.int (it (S.1 24) 5 a)), none], [])) (S' := S) 4 rfl (e := 0) (by omega) (sp_item 23 5 _ ⟨by decide, by decide, rfl⟩ (by decide) ?_)
      refine A_gd (¬ (2 : Int32) = 0) (r1 := ((40, 33, [some (.ref 19), some (.int a), some (.int (it (S.1 22) 5 a)), some (.int (it (S.1 24) 5 a)), none], [.int ((it (S.1 23) 5 a) - (it (S.1 23) 5 a) / (2 : Int32) * (2 : Int32))]), S)) 2 rfl (by decide) ?_
      exact A_ret 1 (m := 40) (v := some (.int ((it (S.1 23) 5 a) - (it (S.1 23) 5 a) / (2 : Int32) * (2 : Int32)))) (S' := S) rfl rfl ⟨_, rfl, h⟩
/-! X3_putsBy, depth 2 -/
def w41_b119 (w : Nat) (Q : Int32 → ri_H → Prop) (x3 : Int32) (S : ri_H) : Prop := Q (hd x3 (0 : Int32) (99 : Int32)) S
set_option maxRecDepth 10000 in
set_option maxHeartbeats 1000000 in
theorem wt41_b119 {E : ri_E} (w : Nat) (hw : w = 10 ∨ w = 19) {Q : Int32 → ri_H → Prop} (x3 : Int32) (S : ri_H) (h : w41_b119 w  Q x3 S) : ri_A E 2 (41, 119, [none, none, none, some (.int x3)], []) S (Qi Q) := by
  rcases hw with rfl | rfl
  · unfold w41_b119 at h
    refine A_call (j := 96) (As := [.int x3, .int (0 : Int32), .int (99 : Int32)]) (fr' := (41, 126, [none, none, none, some (.int x3)], [])) (S' := S) 4 rfl (e := 0) (by omega) (sp_held _ _ _ ?_)
    exact A_ret 1 (m := 41) (v := some (.int (hd x3 (0 : Int32) (99 : Int32)))) (S' := S) rfl rfl ⟨_, rfl, h⟩
  · unfold w41_b119 at h
    refine A_call (j := 96) (As := [.int x3, .int (0 : Int32), .int (99 : Int32)]) (fr' := (41, 126, [none, none, none, some (.int x3)], [])) (S' := S) 4 rfl (e := 0) (by omega) (sp_held _ _ _ ?_)
    exact A_ret 1 (m := 41) (v := some (.int (hd x3 (0 : Int32) (99 : Int32)))) (S' := S) rfl rfl ⟨_, rfl, h⟩
def w41 (w : Nat) (a : Int32) (S : ri_H) (Q : Int32 → ri_H → Prop) : Prop := ((¬ (it (S.1 (w + 3)) 5 a) = (5 : Int32) → w44 w (it (S.1 (w + 5)) 5 a) S (fun (r2 : Int32) (S1 : ri_H) => w30 (w + 8) (S.1 w 11) (1 : Int32) (nms S1 w a r2) (fun (r4 : Int32) (S3 : ri_H) => ((((it (S.1 (w + 3)) 5 a) < (1 : Int32) ∨ (4 : Int32) < (it (S.1 (w + 3)) 5 a)) → w41_b119 w  Q (if (0 : Int32) < r4 then r4 else (0 : Int32)) S3) ∧ ((it (S.1 (w + 3)) 5 a) = (1 : Int32) → ∀ e5 : Int32, e5 = ((2 : Int32) * (if (0 : Int32) < r4 then r4 else (0 : Int32))) → w41_b119 w  Q e5 S3) ∧ ((it (S.1 (w + 3)) 5 a) = (2 : Int32) → ∀ e6 : Int32, e6 = ((if (0 : Int32) < r4 then r4 else (0 : Int32)) + (1 : Int32)) → w41_b119 w  Q e6 S3) ∧ ((it (S.1 (w + 3)) 5 a) = (3 : Int32) → ∀ e7 : Int32, e7 = (((2 : Int32) * (if (0 : Int32) < r4 then r4 else (0 : Int32))) + (it (S3.1 (w + 4)) 5 a)) → w41_b119 w  Q e7 S3) ∧ ((it (S.1 (w + 3)) 5 a) = (4 : Int32) → ∀ e8 : Int32, e8 = (((if (0 : Int32) < r4 then r4 else (0 : Int32)) + (1 : Int32)) / (2 : Int32)) → w41_b119 w  Q e8 S3))))) ∧ (¬ (¬ (it (S.1 (w + 3)) 5 a) = (5 : Int32)) → Q (0 : Int32) S))
set_option maxRecDepth 10000 in
set_option maxHeartbeats 1000000 in
theorem wt41 {E : ri_E} (w : Nat) (hw : w = 10 ∨ w = 19) (a : Int32) {S : ri_H} {Q : Int32 → ri_H → Prop} (h : w41 w a S Q) : ri_A E 2 (ri_en 41 [.ref w, .int a]) S (Qi Q) := by
  rcases hw with rfl | rfl
  · unfold w41 at h
    show ri_A E 2 (41, 0, [some (.ref 10), some (.int a), none, none], []) S (Qi Q)
    refine A_call (j := 98) (As := [.ref 13, .int a]) (fr' := (41, 8, [some (.ref 10), some (.int a), none, none], [])) (S' := S) 4 rfl (e := 0) (by omega) (sp_item 13 5 _ ⟨by decide, by decide, rfl⟩ (by decide) ?_)
    refine A_br (¬ (it (S.1 13) 5 a) = (5 : Int32)) (r1 := ((41, 16, [some (.ref 10), some (.int a), some (.int (it (S.1 13) 5 a)), none], []), S)) (r2 := ((41, 14, [some (.ref 10), some (.int a), some (.int (it (S.1 13) 5 a)), none], []), S)) 4 rfl (fun c => ?_) (fun c => ?_)
    · have h := h.1 c
      refine A_call (j := 98) (As := [.ref 15, .int a]) (fr' := (41, 37, [some (.ref 10), some (.int a), some (.int (it (S.1 13) 5 a)), none], [.ref 10, .int a, .ref 10, .int (1 : Int32), .int (S.1 10 11), .ref 1, .int (0 : Int32)])) (S' := S) 13 rfl (e := 0) (by omega) (sp_item 15 5 _ ⟨by decide, by decide, rfl⟩ (by decide) ?_)
      refine A_call (j := 44) (As := [.ref 10, .int (it (S.1 15) 5 a)]) (fr' := (41, 40, [some (.ref 10), some (.int a), some (.int (it (S.1 13) 5 a)), none], [.int a, .ref 10, .int (1 : Int32), .int (S.1 10 11), .ref 1, .int (0 : Int32)])) (S' := S) 1 rfl (e := 1) (by omega) (A_imp (wt44 10 (by decide) (it (S.1 15) 5 a) h) (fun v S1 hq => ?_))
      obtain ⟨r2, hv, h⟩ := hq
      subst hv
      refine A_call (j := 45) (As := [.ref 10, .int a, .int r2]) (fr' := (41, 43, [some (.ref 10), some (.int a), some (.int (it (S.1 13) 5 a)), none], [.int (1 : Int32), .int (S.1 10 11), .ref 1, .int (0 : Int32)])) (S' := S1) 1 rfl (e := 1) (by omega) (sp_namesOf 10 (by decide) _ _ ?_)
      refine A_call (j := 30) (As := [.ref 1, .int (S.1 10 11), .int (1 : Int32), .ref 18]) (fr' := (41, 46, [some (.ref 10), some (.int a), some (.int (it (S.1 13) 5 a)), none], [.int (0 : Int32)])) (S' := (nms S1 10 a r2)) 1 rfl (e := 1) (by omega) (A_imp (wt30 18 (by decide) (S.1 10 11) (1 : Int32) h) (fun v S3 hq => ?_))
      obtain ⟨r4, hv, h⟩ := hq
      subst hv
      refine A_nx 4 (fr' := (41, ri_tgt 51 (68) (1) (4) [29, 36, 43, 59] (it (S.1 13) 5 a), [some (.ref 10), some (.int a), some (.int (it (S.1 13) 5 a)), some (.int (if (0 : Int32) < r4 then r4 else (0 : Int32)))], [])) (S' := S3) rfl ?_
      rcases ri_swc (it (S.1 13) 5 a) (1) 4 (by decide) (by decide) with c | ⟨i, hi, c⟩
      · have c : (it (S.1 13) 5 a) < Int32.ofInt (1) ∨ Int32.ofInt (4) < (it (S.1 13) 5 a) := c
        have h := h.1 c
        rw [ri_tgt_out (it (S.1 13) 5 a) c (by decide) (by decide)]
        refine ri_A.less (m := 41) (pc := 119) (L := [some (.ref 10), some (.int a), some (.int (it (S.1 13) 5 a)), some (.int (if (0 : Int32) < r4 then r4 else (0 : Int32)))]) (L' := [none, none, none, some (.int (if (0 : Int32) < r4 then r4 else (0 : Int32)))]) (st := []) ⟨rfl, trivial⟩ ?_
        exact wt41_b119 10 (by decide)  _ _ h
      · have h := h.2
        match i, hi, c with
        | 0, hi, c =>
          have c : (it (S.1 13) 5 a) = (1 : Int32) := c
          have h := h.1 c
          rw [show ri_tgt 51 (68) (1) (4) [29, 36, 43, 59] (it (S.1 13) 5 a) = 80 by rw [c]; decide]
          have h := h _ rfl
          refine A_nx 5 (fr' := (41, 119, [some (.ref 10), some (.int a), some (.int (it (S.1 13) 5 a)), some (.int ((2 : Int32) * (if (0 : Int32) < r4 then r4 else (0 : Int32))))], [])) (S' := S3) rfl ?_
          refine ri_A.less (m := 41) (pc := 119) (L := [some (.ref 10), some (.int a), some (.int (it (S.1 13) 5 a)), some (.int ((2 : Int32) * (if (0 : Int32) < r4 then r4 else (0 : Int32))))]) (L' := [none, none, none, some (.int ((2 : Int32) * (if (0 : Int32) < r4 then r4 else (0 : Int32))))]) (st := []) ⟨rfl, trivial⟩ ?_
          exact wt41_b119 10 (by decide)  _ _ h
        | 1, hi, c =>
          have c : (it (S.1 13) 5 a) = (2 : Int32) := c
          have h := h.2.1 c
          rw [show ri_tgt 51 (68) (1) (4) [29, 36, 43, 59] (it (S.1 13) 5 a) = 87 by rw [c]; decide]
          have h := h _ rfl
          refine A_nx 5 (fr' := (41, 119, [some (.ref 10), some (.int a), some (.int (it (S.1 13) 5 a)), some (.int ((if (0 : Int32) < r4 then r4 else (0 : Int32)) + (1 : Int32)))], [])) (S' := S3) rfl ?_
          refine ri_A.less (m := 41) (pc := 119) (L := [some (.ref 10), some (.int a), some (.int (it (S.1 13) 5 a)), some (.int ((if (0 : Int32) < r4 then r4 else (0 : Int32)) + (1 : Int32)))]) (L' := [none, none, none, some (.int ((if (0 : Int32) < r4 then r4 else (0 : Int32)) + (1 : Int32)))]) (st := []) ⟨rfl, trivial⟩ ?_
          exact wt41_b119 10 (by decide)  _ _ h
        | 2, hi, c =>
          have c : (it (S.1 13) 5 a) = (3 : Int32) := c
          have h := h.2.2.1 c
          rw [show ri_tgt 51 (68) (1) (4) [29, 36, 43, 59] (it (S.1 13) 5 a) = 94 by rw [c]; decide]
          refine A_call (j := 98) (As := [.ref 14, .int a]) (fr' := (41, 105, [some (.ref 10), some (.int a), some (.int (it (S.1 13) 5 a)), some (.int (if (0 : Int32) < r4 then r4 else (0 : Int32)))], [.int ((2 : Int32) * (if (0 : Int32) < r4 then r4 else (0 : Int32)))])) (S' := S3) 7 rfl (e := 0) (by omega) (sp_item 14 5 _ ⟨by decide, by decide, rfl⟩ (by decide) ?_)
          have h := h _ rfl
          refine A_nx 3 (fr' := (41, 119, [some (.ref 10), some (.int a), some (.int (it (S.1 13) 5 a)), some (.int (((2 : Int32) * (if (0 : Int32) < r4 then r4 else (0 : Int32))) + (it (S3.1 14) 5 a)))], [])) (S' := S3) rfl ?_
          refine ri_A.less (m := 41) (pc := 119) (L := [some (.ref 10), some (.int a), some (.int (it (S.1 13) 5 a)), some (.int (((2 : Int32) * (if (0 : Int32) < r4 then r4 else (0 : Int32))) + (it (S3.1 14) 5 a)))]) (L' := [none, none, none, some (.int (((2 : Int32) * (if (0 : Int32) < r4 then r4 else (0 : Int32))) + (it (S3.1 14) 5 a)))]) (st := []) ⟨rfl, trivial⟩ ?_
          exact wt41_b119 10 (by decide)  _ _ h
        | 3, hi, c =>
          have c : (it (S.1 13) 5 a) = (4 : Int32) := c
          have h := h.2.2.2 c
          rw [show ri_tgt 51 (68) (1) (4) [29, 36, 43, 59] (it (S.1 13) 5 a) = 110 by rw [c]; decide]
          refine A_gd (¬ (2 : Int32) = 0) (r1 := ((41, 115, [some (.ref 10), some (.int a), some (.int (it (S.1 13) 5 a)), some (.int (if (0 : Int32) < r4 then r4 else (0 : Int32)))], [.int (((if (0 : Int32) < r4 then r4 else (0 : Int32)) + (1 : Int32)) / (2 : Int32))]), S3)) 5 rfl (by decide) ?_
          have h := h _ rfl
          refine A_nx 2 (fr' := (41, 119, [some (.ref 10), some (.int a), some (.int (it (S.1 13) 5 a)), some (.int (((if (0 : Int32) < r4 then r4 else (0 : Int32)) + (1 : Int32)) / (2 : Int32)))], [])) (S' := S3) rfl ?_
          refine ri_A.less (m := 41) (pc := 119) (L := [some (.ref 10), some (.int a), some (.int (it (S.1 13) 5 a)), some (.int (((if (0 : Int32) < r4 then r4 else (0 : Int32)) + (1 : Int32)) / (2 : Int32)))]) (L' := [none, none, none, some (.int (((if (0 : Int32) < r4 then r4 else (0 : Int32)) + (1 : Int32)) / (2 : Int32)))]) (st := []) ⟨rfl, trivial⟩ ?_
          exact wt41_b119 10 (by decide)  _ _ h
        | i + 4, hi, c => exact absurd hi (by omega)
    · have h := h.2 c
      exact A_ret 2 (m := 41) (v := some (.int (0 : Int32))) (S' := S) rfl rfl ⟨_, rfl, h⟩
  · unfold w41 at h
    show ri_A E 2 (41, 0, [some (.ref 19), some (.int a), none, none], []) S (Qi Q)
    refine A_call (j := 98) (As := [.ref 22, .int a]) (fr' := (41, 8, [some (.ref 19), some (.int a), none, none], [])) (S' := S) 4 rfl (e := 0) (by omega) (sp_item 22 5 _ ⟨by decide, by decide, rfl⟩ (by decide) ?_)
    refine A_br (¬ (it (S.1 22) 5 a) = (5 : Int32)) (r1 := ((41, 16, [some (.ref 19), some (.int a), some (.int (it (S.1 22) 5 a)), none], []), S)) (r2 := ((41, 14, [some (.ref 19), some (.int a), some (.int (it (S.1 22) 5 a)), none], []), S)) 4 rfl (fun c => ?_) (fun c => ?_)
    · have h := h.1 c
      refine A_call (j := 98) (As := [.ref 24, .int a]) (fr' := (41, 37, [some (.ref 19), some (.int a), some (.int (it (S.1 22) 5 a)), none], [.ref 19, .int a, .ref 19, .int (1 : Int32), .int (S.1 19 11), .ref 1, .int (0 : Int32)])) (S' := S) 13 rfl (e := 0) (by omega) (sp_item 24 5 _ ⟨by decide, by decide, rfl⟩ (by decide) ?_)
      refine A_call (j := 44) (As := [.ref 19, .int (it (S.1 24) 5 a)]) (fr' := (41, 40, [some (.ref 19), some (.int a), some (.int (it (S.1 22) 5 a)), none], [.int a, .ref 19, .int (1 : Int32), .int (S.1 19 11), .ref 1, .int (0 : Int32)])) (S' := S) 1 rfl (e := 1) (by omega) (A_imp (wt44 19 (by decide) (it (S.1 24) 5 a) h) (fun v S1 hq => ?_))
      obtain ⟨r2, hv, h⟩ := hq
      subst hv
      refine A_call (j := 45) (As := [.ref 19, .int a, .int r2]) (fr' := (41, 43, [some (.ref 19), some (.int a), some (.int (it (S.1 22) 5 a)), none], [.int (1 : Int32), .int (S.1 19 11), .ref 1, .int (0 : Int32)])) (S' := S1) 1 rfl (e := 1) (by omega) (sp_namesOf 19 (by decide) _ _ ?_)
      refine A_call (j := 30) (As := [.ref 1, .int (S.1 19 11), .int (1 : Int32), .ref 27]) (fr' := (41, 46, [some (.ref 19), some (.int a), some (.int (it (S.1 22) 5 a)), none], [.int (0 : Int32)])) (S' := (nms S1 19 a r2)) 1 rfl (e := 1) (by omega) (A_imp (wt30 27 (by decide) (S.1 19 11) (1 : Int32) h) (fun v S3 hq => ?_))
      obtain ⟨r4, hv, h⟩ := hq
      subst hv
      refine A_nx 4 (fr' := (41, ri_tgt 51 (68) (1) (4) [29, 36, 43, 59] (it (S.1 22) 5 a), [some (.ref 19), some (.int a), some (.int (it (S.1 22) 5 a)), some (.int (if (0 : Int32) < r4 then r4 else (0 : Int32)))], [])) (S' := S3) rfl ?_
      rcases ri_swc (it (S.1 22) 5 a) (1) 4 (by decide) (by decide) with c | ⟨i, hi, c⟩
      · have c : (it (S.1 22) 5 a) < Int32.ofInt (1) ∨ Int32.ofInt (4) < (it (S.1 22) 5 a) := c
        have h := h.1 c
        rw [ri_tgt_out (it (S.1 22) 5 a) c (by decide) (by decide)]
        refine ri_A.less (m := 41) (pc := 119) (L := [some (.ref 19), some (.int a), some (.int (it (S.1 22) 5 a)), some (.int (if (0 : Int32) < r4 then r4 else (0 : Int32)))]) (L' := [none, none, none, some (.int (if (0 : Int32) < r4 then r4 else (0 : Int32)))]) (st := []) ⟨rfl, trivial⟩ ?_
        exact wt41_b119 19 (by decide)  _ _ h
      · have h := h.2
        match i, hi, c with
        | 0, hi, c =>
          have c : (it (S.1 22) 5 a) = (1 : Int32) := c
          have h := h.1 c
          rw [show ri_tgt 51 (68) (1) (4) [29, 36, 43, 59] (it (S.1 22) 5 a) = 80 by rw [c]; decide]
          have h := h _ rfl
          refine A_nx 5 (fr' := (41, 119, [some (.ref 19), some (.int a), some (.int (it (S.1 22) 5 a)), some (.int ((2 : Int32) * (if (0 : Int32) < r4 then r4 else (0 : Int32))))], [])) (S' := S3) rfl ?_
          refine ri_A.less (m := 41) (pc := 119) (L := [some (.ref 19), some (.int a), some (.int (it (S.1 22) 5 a)), some (.int ((2 : Int32) * (if (0 : Int32) < r4 then r4 else (0 : Int32))))]) (L' := [none, none, none, some (.int ((2 : Int32) * (if (0 : Int32) < r4 then r4 else (0 : Int32))))]) (st := []) ⟨rfl, trivial⟩ ?_
          exact wt41_b119 19 (by decide)  _ _ h
        | 1, hi, c =>
          have c : (it (S.1 22) 5 a) = (2 : Int32) := c
          have h := h.2.1 c
          rw [show ri_tgt 51 (68) (1) (4) [29, 36, 43, 59] (it (S.1 22) 5 a) = 87 by rw [c]; decide]
          have h := h _ rfl
          refine A_nx 5 (fr' := (41, 119, [some (.ref 19), some (.int a), some (.int (it (S.1 22) 5 a)), some (.int ((if (0 : Int32) < r4 then r4 else (0 : Int32)) + (1 : Int32)))], [])) (S' := S3) rfl ?_
          refine ri_A.less (m := 41) (pc := 119) (L := [some (.ref 19), some (.int a), some (.int (it (S.1 22) 5 a)), some (.int ((if (0 : Int32) < r4 then r4 else (0 : Int32)) + (1 : Int32)))]) (L' := [none, none, none, some (.int ((if (0 : Int32) < r4 then r4 else (0 : Int32)) + (1 : Int32)))]) (st := []) ⟨rfl, trivial⟩ ?_
          exact wt41_b119 19 (by decide)  _ _ h
        | 2, hi, c =>
          have c : (it (S.1 22) 5 a) = (3 : Int32) := c
          have h := h.2.2.1 c
          rw [show ri_tgt 51 (68) (1) (4) [29, 36, 43, 59] (it (S.1 22) 5 a) = 94 by rw [c]; decide]
          refine A_call (j := 98) (As := [.ref 23, .int a]) (fr' := (41, 105, [some (.ref 19), some (.int a), some (.int (it (S.1 22) 5 a)), some (.int (if (0 : Int32) < r4 then r4 else (0 : Int32)))], [.int ((2 : Int32) * (if (0 : Int32) < r4 then r4 else (0 : Int32)))])) (S' := S3) 7 rfl (e := 0) (by omega) (sp_item 23 5 _ ⟨by decide, by decide, rfl⟩ (by decide) ?_)
          have h := h _ rfl
          refine A_nx 3 (fr' := (41, 119, [some (.ref 19), some (.int a), some (.int (it (S.1 22) 5 a)), some (.int (((2 : Int32) * (if (0 : Int32) < r4 then r4 else (0 : Int32))) + (it (S3.1 23) 5 a)))], [])) (S' := S3) rfl ?_
          refine ri_A.less (m := 41) (pc := 119) (L := [some (.ref 19), some (.int a), some (.int (it (S.1 22) 5 a)), some (.int (((2 : Int32) * (if (0 : Int32) < r4 then r4 else (0 : Int32))) + (it (S3.1 23) 5 a)))]) (L' := [none, none, none, some (.int (((2 : Int32) * (if (0 : Int32) < r4 then r4 else (0 : Int32))) + (it (S3.1 23) 5 a)))]) (st := []) ⟨rfl, trivial⟩ ?_
          exact wt41_b119 19 (by decide)  _ _ h
        | 3, hi, c =>
          have c : (it (S.1 22) 5 a) = (4 : Int32) := c
          have h := h.2.2.2 c
          rw [show ri_tgt 51 (68) (1) (4) [29, 36, 43, 59] (it (S.1 22) 5 a) = 110 by rw [c]; decide]
          refine A_gd (¬ (2 : Int32) = 0) (r1 := ((41, 115, [some (.ref 19), some (.int a), some (.int (it (S.1 22) 5 a)), some (.int (if (0 : Int32) < r4 then r4 else (0 : Int32)))], [.int (((if (0 : Int32) < r4 then r4 else (0 : Int32)) + (1 : Int32)) / (2 : Int32))]), S3)) 5 rfl (by decide) ?_
          have h := h _ rfl
          refine A_nx 2 (fr' := (41, 119, [some (.ref 19), some (.int a), some (.int (it (S.1 22) 5 a)), some (.int (((if (0 : Int32) < r4 then r4 else (0 : Int32)) + (1 : Int32)) / (2 : Int32)))], [])) (S' := S3) rfl ?_
          refine ri_A.less (m := 41) (pc := 119) (L := [some (.ref 19), some (.int a), some (.int (it (S.1 22) 5 a)), some (.int (((if (0 : Int32) < r4 then r4 else (0 : Int32)) + (1 : Int32)) / (2 : Int32)))]) (L' := [none, none, none, some (.int (((if (0 : Int32) < r4 then r4 else (0 : Int32)) + (1 : Int32)) / (2 : Int32)))]) (st := []) ⟨rfl, trivial⟩ ?_
          exact wt41_b119 19 (by decide)  _ _ h
        | i + 4, hi, c => exact absurd hi (by omega)
    · have h := h.2 c
      exact A_ret 2 (m := 41) (v := some (.int (0 : Int32))) (S' := S) rfl rfl ⟨_, rfl, h⟩
/-! X3_feels, depth 2 -/
def w42_b44 (w : Nat) (Q : Int32 → ri_H → Prop) (x1 : Int32) (x3 : Int32) (s0 : Int32) (S : ri_H) : Prop := ((((it (S.1 (w + 3)) 5 x1) < (1 : Int32) ∨ (5 : Int32) < (it (S.1 (w + 3)) 5 x1)) → Q x3 S) ∧ ((it (S.1 (w + 3)) 5 x1) = (1 : Int32) → Q (if (0 : Int32) < x3 then x3 else (0 : Int32)) S) ∧ ((it (S.1 (w + 3)) 5 x1) = (2 : Int32) → Q s0 S) ∧ ((it (S.1 (w + 3)) 5 x1) = (3 : Int32) → Q ((2 : Int32) * (if (0 : Int32) < x3 then x3 else (0 : Int32))) S) ∧ ((it (S.1 (w + 3)) 5 x1) = (4 : Int32) → Q (s0 + (it (S.1 (w + 4)) 5 x1)) S) ∧ ((it (S.1 (w + 3)) 5 x1) = (5 : Int32) → Q (0 : Int32) S))
set_option maxRecDepth 10000 in
set_option maxHeartbeats 1000000 in
theorem wt42_b44 {E : ri_E} (w : Nat) (hw : w = 10 ∨ w = 19) {Q : Int32 → ri_H → Prop} (x1 : Int32) (x3 : Int32) (s0 : Int32) (S : ri_H) (h : w42_b44 w  Q x1 x3 s0 S) : ri_A E 2 (42, 44, [some (.ref w), some (.int x1), none, some (.int x3), none], [.int s0]) S (Qi Q) := by
  rcases hw with rfl | rfl
  · unfold w42_b44 at h
    refine A_call (j := 98) (As := [.ref 13, .int x1]) (fr' := (42, 54, [some (.ref 10), some (.int x1), none, some (.int x3), some (.int s0)], [])) (S' := S) 5 rfl (e := 0) (by omega) (sp_item 13 5 _ ⟨by decide, by decide, rfl⟩ (by decide) ?_)
    refine A_nx 1 (fr' := (42, ri_tgt 54 (65) (1) (5) [34, 40, 43, 51, 63] (it (S.1 13) 5 x1), [some (.ref 10), some (.int x1), none, some (.int x3), some (.int s0)], [])) (S' := S) rfl ?_
    rcases ri_swc (it (S.1 13) 5 x1) (1) 5 (by decide) (by decide) with c | ⟨i, hi, c⟩
    · have c : (it (S.1 13) 5 x1) < Int32.ofInt (1) ∨ Int32.ofInt (5) < (it (S.1 13) 5 x1) := c
      have h := h.1 c
      rw [ri_tgt_out (it (S.1 13) 5 x1) c (by decide) (by decide)]
      exact A_ret 2 (m := 42) (v := some (.int x3)) (S' := S) rfl rfl ⟨_, rfl, h⟩
    · have h := h.2
      match i, hi, c with
      | 0, hi, c =>
        have c : (it (S.1 13) 5 x1) = (1 : Int32) := c
        have h := h.1 c
        rw [show ri_tgt 54 (65) (1) (5) [34, 40, 43, 51, 63] (it (S.1 13) 5 x1) = 88 by rw [c]; decide]
        exact A_ret 4 (m := 42) (v := some (.int (if (0 : Int32) < x3 then x3 else (0 : Int32)))) (S' := S) rfl rfl ⟨_, rfl, h⟩
      | 1, hi, c =>
        have c : (it (S.1 13) 5 x1) = (2 : Int32) := c
        have h := h.2.1 c
        rw [show ri_tgt 54 (65) (1) (5) [34, 40, 43, 51, 63] (it (S.1 13) 5 x1) = 94 by rw [c]; decide]
        exact A_ret 2 (m := 42) (v := some (.int s0)) (S' := S) rfl rfl ⟨_, rfl, h⟩
      | 2, hi, c =>
        have c : (it (S.1 13) 5 x1) = (3 : Int32) := c
        have h := h.2.2.1 c
        rw [show ri_tgt 54 (65) (1) (5) [34, 40, 43, 51, 63] (it (S.1 13) 5 x1) = 97 by rw [c]; decide]
        exact A_ret 6 (m := 42) (v := some (.int ((2 : Int32) * (if (0 : Int32) < x3 then x3 else (0 : Int32))))) (S' := S) rfl rfl ⟨_, rfl, h⟩
      | 3, hi, c =>
        have c : (it (S.1 13) 5 x1) = (4 : Int32) := c
        have h := h.2.2.2.1 c
        rw [show ri_tgt 54 (65) (1) (5) [34, 40, 43, 51, 63] (it (S.1 13) 5 x1) = 105 by rw [c]; decide]
        refine A_call (j := 98) (As := [.ref 14, .int x1]) (fr' := (42, 115, [some (.ref 10), some (.int x1), none, some (.int x3), some (.int s0)], [.int s0])) (S' := S) 5 rfl (e := 0) (by omega) (sp_item 14 5 _ ⟨by decide, by decide, rfl⟩ (by decide) ?_)
        exact A_ret 2 (m := 42) (v := some (.int (s0 + (it (S.1 14) 5 x1)))) (S' := S) rfl rfl ⟨_, rfl, h⟩
      | 4, hi, c =>
        have c : (it (S.1 13) 5 x1) = (5 : Int32) := c
        have h := h.2.2.2.2 c
        rw [show ri_tgt 54 (65) (1) (5) [34, 40, 43, 51, 63] (it (S.1 13) 5 x1) = 117 by rw [c]; decide]
        exact A_ret 2 (m := 42) (v := some (.int (0 : Int32))) (S' := S) rfl rfl ⟨_, rfl, h⟩
      | i + 5, hi, c => exact absurd hi (by omega)
  · unfold w42_b44 at h
    refine A_call (j := 98) (As := [.ref 22, .int x1]) (fr' := (42, 54, [some (.ref 19), some (.int x1), none, some (.int x3), some (.int s0)], [])) (S' := S) 5 rfl (e := 0) (by omega) (sp_item 22 5 _ ⟨by decide, by decide, rfl⟩ (by decide) ?_)
    refine A_nx 1 (fr' := (42, ri_tgt 54 (65) (1) (5) [34, 40, 43, 51, 63] (it (S.1 22) 5 x1), [some (.ref 19), some (.int x1), none, some (.int x3), some (.int s0)], [])) (S' := S) rfl ?_
    rcases ri_swc (it (S.1 22) 5 x1) (1) 5 (by decide) (by decide) with c | ⟨i, hi, c⟩
    · have c : (it (S.1 22) 5 x1) < Int32.ofInt (1) ∨ Int32.ofInt (5) < (it (S.1 22) 5 x1) := c
      have h := h.1 c
      rw [ri_tgt_out (it (S.1 22) 5 x1) c (by decide) (by decide)]
      exact A_ret 2 (m := 42) (v := some (.int x3)) (S' := S) rfl rfl ⟨_, rfl, h⟩
    · have h := h.2
      match i, hi, c with
      | 0, hi, c =>
        have c : (it (S.1 22) 5 x1) = (1 : Int32) := c
        have h := h.1 c
        rw [show ri_tgt 54 (65) (1) (5) [34, 40, 43, 51, 63] (it (S.1 22) 5 x1) = 88 by rw [c]; decide]
        exact A_ret 4 (m := 42) (v := some (.int (if (0 : Int32) < x3 then x3 else (0 : Int32)))) (S' := S) rfl rfl ⟨_, rfl, h⟩
      | 1, hi, c =>
        have c : (it (S.1 22) 5 x1) = (2 : Int32) := c
        have h := h.2.1 c
        rw [show ri_tgt 54 (65) (1) (5) [34, 40, 43, 51, 63] (it (S.1 22) 5 x1) = 94 by rw [c]; decide]
        exact A_ret 2 (m := 42) (v := some (.int s0)) (S' := S) rfl rfl ⟨_, rfl, h⟩
      | 2, hi, c =>
        have c : (it (S.1 22) 5 x1) = (3 : Int32) := c
        have h := h.2.2.1 c
        rw [show ri_tgt 54 (65) (1) (5) [34, 40, 43, 51, 63] (it (S.1 22) 5 x1) = 97 by rw [c]; decide]
        exact A_ret 6 (m := 42) (v := some (.int ((2 : Int32) * (if (0 : Int32) < x3 then x3 else (0 : Int32))))) (S' := S) rfl rfl ⟨_, rfl, h⟩
      | 3, hi, c =>
        have c : (it (S.1 22) 5 x1) = (4 : Int32) := c
        have h := h.2.2.2.1 c
        rw [show ri_tgt 54 (65) (1) (5) [34, 40, 43, 51, 63] (it (S.1 22) 5 x1) = 105 by rw [c]; decide]
        refine A_call (j := 98) (As := [.ref 23, .int x1]) (fr' := (42, 115, [some (.ref 19), some (.int x1), none, some (.int x3), some (.int s0)], [.int s0])) (S' := S) 5 rfl (e := 0) (by omega) (sp_item 23 5 _ ⟨by decide, by decide, rfl⟩ (by decide) ?_)
        exact A_ret 2 (m := 42) (v := some (.int (s0 + (it (S.1 23) 5 x1)))) (S' := S) rfl rfl ⟨_, rfl, h⟩
      | 4, hi, c =>
        have c : (it (S.1 22) 5 x1) = (5 : Int32) := c
        have h := h.2.2.2.2 c
        rw [show ri_tgt 54 (65) (1) (5) [34, 40, 43, 51, 63] (it (S.1 22) 5 x1) = 117 by rw [c]; decide]
        exact A_ret 2 (m := 42) (v := some (.int (0 : Int32))) (S' := S) rfl rfl ⟨_, rfl, h⟩
      | i + 5, hi, c => exact absurd hi (by omega)
def w42 (w : Nat) (a : Int32) (b : Int32) (S : ri_H) (Q : Int32 → ri_H → Prop) : Prop := w30 (w + 8) (S.1 w 11) (2 : Int32) (nms S w a (it (S.1 (w + 2)) 24 b)) (fun (r2 : Int32) (S1 : ri_H) => (((it (S1.1 (w + 7)) 5 a) < (3 : Int32) → w42_b44 w  Q a r2 r2 S1) ∧ (¬ (it (S1.1 (w + 7)) 5 a) < (3 : Int32) → w42_b44 w  Q a r2 (-r2) S1)))
set_option maxRecDepth 10000 in
set_option maxHeartbeats 1000000 in
theorem wt42 {E : ri_E} (w : Nat) (hw : w = 10 ∨ w = 19) (a : Int32) (b : Int32) {S : ri_H} {Q : Int32 → ri_H → Prop} (h : w42 w a b S Q) : ri_A E 2 (ri_en 42 [.ref w, .int a, .int b]) S (Qi Q) := by
  rcases hw with rfl | rfl
  · unfold w42 at h
    show ri_A E 2 (42, 0, [some (.ref 10), some (.int a), some (.int b), none, none], []) S (Qi Q)
    refine A_call (j := 98) (As := [.ref 12, .int b]) (fr' := (42, 19, [some (.ref 10), some (.int a), some (.int b), none, none], [.int a, .ref 10, .int (2 : Int32), .int (S.1 10 11), .ref 1])) (S' := S) 11 rfl (e := 0) (by omega) (sp_item 12 24 _ ⟨by decide, by decide, rfl⟩ (by decide) ?_)
    refine A_call (j := 45) (As := [.ref 10, .int a, .int (it (S.1 12) 24 b)]) (fr' := (42, 22, [some (.ref 10), some (.int a), some (.int b), none, none], [.int (2 : Int32), .int (S.1 10 11), .ref 1])) (S' := S) 1 rfl (e := 1) (by omega) (sp_namesOf 10 (by decide) _ _ ?_)
    refine A_call (j := 30) (As := [.ref 1, .int (S.1 10 11), .int (2 : Int32), .ref 18]) (fr' := (42, 25, [some (.ref 10), some (.int a), some (.int b), none, none], [])) (S' := (nms S 10 a (it (S.1 12) 24 b))) 1 rfl (e := 1) (by omega) (A_imp (wt30 18 (by decide) (S.1 10 11) (2 : Int32) h) (fun v S1 hq => ?_))
    obtain ⟨r2, hv, h⟩ := hq
    subst hv
    refine A_call (j := 98) (As := [.ref 17, .int a]) (fr' := (42, 34, [some (.ref 10), some (.int a), some (.int b), some (.int r2), none], [])) (S' := S1) 5 rfl (e := 0) (by omega) (sp_item 17 5 _ ⟨by decide, by decide, rfl⟩ (by decide) ?_)
    refine A_br ((it (S1.1 17) 5 a) < (3 : Int32)) (r1 := ((42, 43, [some (.ref 10), some (.int a), some (.int b), some (.int r2), none], []), S1)) (r2 := ((42, 38, [some (.ref 10), some (.int a), some (.int b), some (.int r2), none], []), S1)) 2 rfl (fun c => ?_) (fun c => ?_)
    · have h := h.1 c
      refine A_nx 1 (fr' := (42, 44, [some (.ref 10), some (.int a), some (.int b), some (.int r2), none], [.int r2])) (S' := S1) rfl ?_
      refine ri_A.less (m := 42) (pc := 44) (L := [some (.ref 10), some (.int a), some (.int b), some (.int r2), none]) (L' := [some (.ref 10), some (.int a), none, some (.int r2), none]) (st := [.int r2]) ⟨rfl, ⟨rfl, ⟨rfl, trivial⟩⟩⟩ ?_
      exact wt42_b44 10 (by decide)  _ _ _ _ h
    · have h := h.2 c
      refine A_nx 3 (fr' := (42, 44, [some (.ref 10), some (.int a), some (.int b), some (.int r2), none], [.int (-r2)])) (S' := S1) rfl ?_
      refine ri_A.less (m := 42) (pc := 44) (L := [some (.ref 10), some (.int a), some (.int b), some (.int r2), none]) (L' := [some (.ref 10), some (.int a), none, some (.int r2), none]) (st := [.int (-r2)]) ⟨rfl, ⟨rfl, ⟨rfl, trivial⟩⟩⟩ ?_
      exact wt42_b44 10 (by decide)  _ _ _ _ h
  · unfold w42 at h
    show ri_A E 2 (42, 0, [some (.ref 19), some (.int a), some (.int b), none, none], []) S (Qi Q)
    refine A_call (j := 98) (As := [.ref 21, .int b]) (fr' := (42, 19, [some (.ref 19), some (.int a), some (.int b), none, none], [.int a, .ref 19, .int (2 : Int32), .int (S.1 19 11), .ref 1])) (S' := S) 11 rfl (e := 0) (by omega) (sp_item 21 24 _ ⟨by decide, by decide, rfl⟩ (by decide) ?_)
    refine A_call (j := 45) (As := [.ref 19, .int a, .int (it (S.1 21) 24 b)]) (fr' := (42, 22, [some (.ref 19), some (.int a), some (.int b), none, none], [.int (2 : Int32), .int (S.1 19 11), .ref 1])) (S' := S) 1 rfl (e := 1) (by omega) (sp_namesOf 19 (by decide) _ _ ?_)
    refine A_call (j := 30) (As := [.ref 1, .int (S.1 19 11), .int (2 : Int32), .ref 27]) (fr' := (42, 25, [some (.ref 19), some (.int a), some (.int b), none, none], [])) (S' := (nms S 19 a (it (S.1 21) 24 b))) 1 rfl (e := 1) (by omega) (A_imp (wt30 27 (by decide) (S.1 19 11) (2 : Int32) h) (fun v S1 hq => ?_))
    obtain ⟨r2, hv, h⟩ := hq
    subst hv
    refine A_call (j := 98) (As := [.ref 26, .int a]) (fr' := (42, 34, [some (.ref 19), some (.int a), some (.int b), some (.int r2), none], [])) (S' := S1) 5 rfl (e := 0) (by omega) (sp_item 26 5 _ ⟨by decide, by decide, rfl⟩ (by decide) ?_)
    refine A_br ((it (S1.1 26) 5 a) < (3 : Int32)) (r1 := ((42, 43, [some (.ref 19), some (.int a), some (.int b), some (.int r2), none], []), S1)) (r2 := ((42, 38, [some (.ref 19), some (.int a), some (.int b), some (.int r2), none], []), S1)) 2 rfl (fun c => ?_) (fun c => ?_)
    · have h := h.1 c
      refine A_nx 1 (fr' := (42, 44, [some (.ref 19), some (.int a), some (.int b), some (.int r2), none], [.int r2])) (S' := S1) rfl ?_
      refine ri_A.less (m := 42) (pc := 44) (L := [some (.ref 19), some (.int a), some (.int b), some (.int r2), none]) (L' := [some (.ref 19), some (.int a), none, some (.int r2), none]) (st := [.int r2]) ⟨rfl, ⟨rfl, ⟨rfl, trivial⟩⟩⟩ ?_
      exact wt42_b44 19 (by decide)  _ _ _ _ h
    · have h := h.2 c
      refine A_nx 3 (fr' := (42, 44, [some (.ref 19), some (.int a), some (.int b), some (.int r2), none], [.int (-r2)])) (S' := S1) rfl ?_
      refine ri_A.less (m := 42) (pc := 44) (L := [some (.ref 19), some (.int a), some (.int b), some (.int r2), none]) (L' := [some (.ref 19), some (.int a), none, some (.int r2), none]) (st := [.int (-r2)]) ⟨rfl, ⟨rfl, ⟨rfl, trivial⟩⟩⟩ ?_
      exact wt42_b44 19 (by decide)  _ _ _ _ h
/-! X3_eats, depth 3 -/
def w43 (w : Nat) (a : Int32) (b : Int32) (S : ri_H) (Q : Int32 → ri_H → Prop) : Prop := w42 w a b S (fun (r2 : Int32) (S1 : ri_H) => Q (hd ((it (S.1 (w + 6)) 5 a) + r2) (-99 : Int32) (99 : Int32)) (ri_wr (ri_wr (ri_wr S1 (w + 6) (pu 5 (S1.1 (w + 6)) a (hd ((it (S.1 (w + 6)) 5 a) + r2) (-99 : Int32) (99 : Int32)))) (w + 7) (pu 5 (S1.1 (w + 7)) a (if ((it (S1.1 (w + 7)) 5 a) + (1 : Int32)) < (999 : Int32) then ((it (S1.1 (w + 7)) 5 a) + (1 : Int32)) else (999 : Int32)))) (w + 2) (pu 24 (S1.1 (w + 2)) b ((it (S1.1 (w + 2)) 24 b) - (1 : Int32)))))
set_option maxRecDepth 10000 in
set_option maxHeartbeats 1000000 in
theorem wt43 {E : ri_E} (w : Nat) (hw : w = 10 ∨ w = 19) (a : Int32) (b : Int32) {S : ri_H} {Q : Int32 → ri_H → Prop} (h : w43 w a b S Q) : ri_A E 3 (ri_en 43 [.ref w, .int a, .int b]) S (Qi Q) := by
  rcases hw with rfl | rfl
  · unfold w43 at h
    show ri_A E 3 (43, 0, [some (.ref 10), some (.int a), some (.int b), none], []) S (Qi Q)
    refine A_call (j := 98) (As := [.ref 16, .int a]) (fr' := (43, 8, [some (.ref 10), some (.int a), some (.int b), none], [])) (S' := S) 4 rfl (e := 0) (by omega) (sp_item 16 5 _ ⟨by decide, by decide, rfl⟩ (by decide) ?_)
    refine A_call (j := 42) (As := [.ref 10, .int a, .int b]) (fr' := (43, 14, [some (.ref 10), some (.int a), some (.int b), none], [.int (it (S.1 16) 5 a)])) (S' := S) 4 rfl (e := 2) (by omega) (A_imp (wt42 10 (by decide) a b h) (fun v S1 hq => ?_))
    obtain ⟨r2, hv, h⟩ := hq
    subst hv
    refine A_call (j := 96) (As := [.int ((it (S.1 16) 5 a) + r2), .int (-99 : Int32), .int (99 : Int32)]) (fr' := (43, 22, [some (.ref 10), some (.int a), some (.int b), none], [])) (S' := S1) 4 rfl (e := 0) (by omega) (sp_held _ _ _ ?_)
    refine A_call (j := 99) (As := [.ref 16, .int a, .int (hd ((it (S.1 16) 5 a) + r2) (-99 : Int32) (99 : Int32))]) (fr' := (43, 32, [some (.ref 10), some (.int a), some (.int b), some (.int (hd ((it (S.1 16) 5 a) + r2) (-99 : Int32) (99 : Int32)))], [])) (S' := S1) 6 rfl (e := 0) (by omega) (sp_putItem 16 5 _ _ ⟨by decide, by decide, rfl⟩ (by decide) ?_)
    refine A_call (j := 98) (As := [.ref 17, .int a]) (fr' := (43, 48, [some (.ref 10), some (.int a), some (.int b), some (.int (hd ((it (S.1 16) 5 a) + r2) (-99 : Int32) (99 : Int32)))], [.int (999 : Int32), .int a, .ref 17])) (S' := (ri_wr S1 16 (pu 5 (S1.1 16) a (hd ((it (S.1 16) 5 a) + r2) (-99 : Int32) (99 : Int32))))) 8 rfl (e := 0) (by omega) (sp_item 17 5 _ ⟨by decide, by decide, rfl⟩ (by decide) ?_)
    refine A_call (j := 99) (As := [.ref 17, .int a, .int (if ((it (S1.1 17) 5 a) + (1 : Int32)) < (999 : Int32) then ((it (S1.1 17) 5 a) + (1 : Int32)) else (999 : Int32))]) (fr' := (43, 56, [some (.ref 10), some (.int a), some (.int b), some (.int (hd ((it (S.1 16) 5 a) + r2) (-99 : Int32) (99 : Int32)))], [])) (S' := (ri_wr S1 16 (pu 5 (S1.1 16) a (hd ((it (S.1 16) 5 a) + r2) (-99 : Int32) (99 : Int32))))) 4 rfl (e := 0) (by omega) (sp_putItem 17 5 _ _ ⟨by decide, by decide, rfl⟩ (by decide) ?_)
    refine A_call (j := 98) (As := [.ref 12, .int b]) (fr' := (43, 69, [some (.ref 10), some (.int a), some (.int b), some (.int (hd ((it (S.1 16) 5 a) + r2) (-99 : Int32) (99 : Int32)))], [.int b, .ref 12])) (S' := (ri_wr (ri_wr S1 16 (pu 5 (S1.1 16) a (hd ((it (S.1 16) 5 a) + r2) (-99 : Int32) (99 : Int32)))) 17 (pu 5 (S1.1 17) a (if ((it (S1.1 17) 5 a) + (1 : Int32)) < (999 : Int32) then ((it (S1.1 17) 5 a) + (1 : Int32)) else (999 : Int32))))) 7 rfl (e := 0) (by omega) (sp_item 12 24 _ ⟨by decide, by decide, rfl⟩ (by decide) ?_)
    refine A_call (j := 99) (As := [.ref 12, .int b, .int ((it (S1.1 12) 24 b) - (1 : Int32))]) (fr' := (43, 74, [some (.ref 10), some (.int a), some (.int b), some (.int (hd ((it (S.1 16) 5 a) + r2) (-99 : Int32) (99 : Int32)))], [])) (S' := (ri_wr (ri_wr S1 16 (pu 5 (S1.1 16) a (hd ((it (S.1 16) 5 a) + r2) (-99 : Int32) (99 : Int32)))) 17 (pu 5 (S1.1 17) a (if ((it (S1.1 17) 5 a) + (1 : Int32)) < (999 : Int32) then ((it (S1.1 17) 5 a) + (1 : Int32)) else (999 : Int32))))) 3 rfl (e := 0) (by omega) (sp_putItem 12 24 _ _ ⟨by decide, by decide, rfl⟩ (by decide) ?_)
    exact A_ret 2 (m := 43) (v := some (.int (hd ((it (S.1 16) 5 a) + r2) (-99 : Int32) (99 : Int32)))) (S' := (ri_wr (ri_wr (ri_wr S1 16 (pu 5 (S1.1 16) a (hd ((it (S.1 16) 5 a) + r2) (-99 : Int32) (99 : Int32)))) 17 (pu 5 (S1.1 17) a (if ((it (S1.1 17) 5 a) + (1 : Int32)) < (999 : Int32) then ((it (S1.1 17) 5 a) + (1 : Int32)) else (999 : Int32)))) 12 (pu 24 (S1.1 12) b ((it (S1.1 12) 24 b) - (1 : Int32))))) rfl rfl ⟨_, rfl, h⟩
  · unfold w43 at h
    show ri_A E 3 (43, 0, [some (.ref 19), some (.int a), some (.int b), none], []) S (Qi Q)
    refine A_call (j := 98) (As := [.ref 25, .int a]) (fr' := (43, 8, [some (.ref 19), some (.int a), some (.int b), none], [])) (S' := S) 4 rfl (e := 0) (by omega) (sp_item 25 5 _ ⟨by decide, by decide, rfl⟩ (by decide) ?_)
    refine A_call (j := 42) (As := [.ref 19, .int a, .int b]) (fr' := (43, 14, [some (.ref 19), some (.int a), some (.int b), none], [.int (it (S.1 25) 5 a)])) (S' := S) 4 rfl (e := 2) (by omega) (A_imp (wt42 19 (by decide) a b h) (fun v S1 hq => ?_))
    obtain ⟨r2, hv, h⟩ := hq
    subst hv
    refine A_call (j := 96) (As := [.int ((it (S.1 25) 5 a) + r2), .int (-99 : Int32), .int (99 : Int32)]) (fr' := (43, 22, [some (.ref 19), some (.int a), some (.int b), none], [])) (S' := S1) 4 rfl (e := 0) (by omega) (sp_held _ _ _ ?_)
    refine A_call (j := 99) (As := [.ref 25, .int a, .int (hd ((it (S.1 25) 5 a) + r2) (-99 : Int32) (99 : Int32))]) (fr' := (43, 32, [some (.ref 19), some (.int a), some (.int b), some (.int (hd ((it (S.1 25) 5 a) + r2) (-99 : Int32) (99 : Int32)))], [])) (S' := S1) 6 rfl (e := 0) (by omega) (sp_putItem 25 5 _ _ ⟨by decide, by decide, rfl⟩ (by decide) ?_)
    refine A_call (j := 98) (As := [.ref 26, .int a]) (fr' := (43, 48, [some (.ref 19), some (.int a), some (.int b), some (.int (hd ((it (S.1 25) 5 a) + r2) (-99 : Int32) (99 : Int32)))], [.int (999 : Int32), .int a, .ref 26])) (S' := (ri_wr S1 25 (pu 5 (S1.1 25) a (hd ((it (S.1 25) 5 a) + r2) (-99 : Int32) (99 : Int32))))) 8 rfl (e := 0) (by omega) (sp_item 26 5 _ ⟨by decide, by decide, rfl⟩ (by decide) ?_)
    refine A_call (j := 99) (As := [.ref 26, .int a, .int (if ((it (S1.1 26) 5 a) + (1 : Int32)) < (999 : Int32) then ((it (S1.1 26) 5 a) + (1 : Int32)) else (999 : Int32))]) (fr' := (43, 56, [some (.ref 19), some (.int a), some (.int b), some (.int (hd ((it (S.1 25) 5 a) + r2) (-99 : Int32) (99 : Int32)))], [])) (S' := (ri_wr S1 25 (pu 5 (S1.1 25) a (hd ((it (S.1 25) 5 a) + r2) (-99 : Int32) (99 : Int32))))) 4 rfl (e := 0) (by omega) (sp_putItem 26 5 _ _ ⟨by decide, by decide, rfl⟩ (by decide) ?_)
    refine A_call (j := 98) (As := [.ref 21, .int b]) (fr' := (43, 69, [some (.ref 19), some (.int a), some (.int b), some (.int (hd ((it (S.1 25) 5 a) + r2) (-99 : Int32) (99 : Int32)))], [.int b, .ref 21])) (S' := (ri_wr (ri_wr S1 25 (pu 5 (S1.1 25) a (hd ((it (S.1 25) 5 a) + r2) (-99 : Int32) (99 : Int32)))) 26 (pu 5 (S1.1 26) a (if ((it (S1.1 26) 5 a) + (1 : Int32)) < (999 : Int32) then ((it (S1.1 26) 5 a) + (1 : Int32)) else (999 : Int32))))) 7 rfl (e := 0) (by omega) (sp_item 21 24 _ ⟨by decide, by decide, rfl⟩ (by decide) ?_)
    refine A_call (j := 99) (As := [.ref 21, .int b, .int ((it (S1.1 21) 24 b) - (1 : Int32))]) (fr' := (43, 74, [some (.ref 19), some (.int a), some (.int b), some (.int (hd ((it (S.1 25) 5 a) + r2) (-99 : Int32) (99 : Int32)))], [])) (S' := (ri_wr (ri_wr S1 25 (pu 5 (S1.1 25) a (hd ((it (S.1 25) 5 a) + r2) (-99 : Int32) (99 : Int32)))) 26 (pu 5 (S1.1 26) a (if ((it (S1.1 26) 5 a) + (1 : Int32)) < (999 : Int32) then ((it (S1.1 26) 5 a) + (1 : Int32)) else (999 : Int32))))) 3 rfl (e := 0) (by omega) (sp_putItem 21 24 _ _ ⟨by decide, by decide, rfl⟩ (by decide) ?_)
    exact A_ret 2 (m := 43) (v := some (.int (hd ((it (S.1 25) 5 a) + r2) (-99 : Int32) (99 : Int32)))) (S' := (ri_wr (ri_wr (ri_wr S1 25 (pu 5 (S1.1 25) a (hd ((it (S.1 25) 5 a) + r2) (-99 : Int32) (99 : Int32)))) 26 (pu 5 (S1.1 26) a (if ((it (S1.1 26) 5 a) + (1 : Int32)) < (999 : Int32) then ((it (S1.1 26) 5 a) + (1 : Int32)) else (999 : Int32)))) 21 (pu 24 (S1.1 21) b ((it (S1.1 21) 24 b) - (1 : Int32))))) rfl rfl ⟨_, rfl, h⟩
/-! X3_goYear, depth 3 -/
def w39_b30 (w : Nat) (K2 : Int32 → Int32 → ri_H → Prop) (Q : ri_H → Prop) (x1 : Int32) (x2 : Int32) (s0 : Int32) (S : ri_H) : Prop := w41 w x2 S (fun (r4 : Int32) (S3 : ri_H) => ∀ e5 : Int32, e5 = ((((2 : Int32) * (it (S3.1 (w + 5)) 5 x2)) + (1 : Int32)) - s0) → K2 x1 (x2 + (1 : Int32)) (ri_wr (ri_wr S3 (w + 2) (pu 24 (S3.1 (w + 2)) e5 (if ((it (S3.1 (w + 2)) 24 e5) + r4) < (999 : Int32) then ((it (S3.1 (w + 2)) 24 e5) + r4) else (999 : Int32)))) (w + 5) (pu 5 (S3.1 (w + 5)) x2 (it (S3.1 (w + 1)) 24 (((2 : Int32) * (it (S3.1 (w + 5)) 5 x2)) + s0)))))
set_option maxRecDepth 10000 in
set_option maxHeartbeats 1000000 in
theorem wt39_b30 {E : ri_E} (w : Nat) (hw : w = 10 ∨ w = 19) {K2 : Int32 → Int32 → ri_H → Prop} {Q : ri_H → Prop} (hK2 : ∀ (x1 : Int32) (x2 : Int32) (S : ri_H), K2 x1 x2 S → ri_A E 3 (39, 2, [some (.ref w), some (.int x1), some (.int x2), none, none, none, none], []) S (Qv Q)) (x1 : Int32) (x2 : Int32) (s0 : Int32) (S : ri_H) (h : w39_b30 w K2 Q x1 x2 s0 S) : ri_A E 3 (39, 30, [some (.ref w), some (.int x1), some (.int x2), none, none, none, none], [.int s0]) S (Qv Q) := by
  rcases hw with rfl | rfl
  · unfold w39_b30 at h
    refine A_call (j := 41) (As := [.ref 10, .int x2]) (fr' := (39, 36, [some (.ref 10), some (.int x1), some (.int x2), some (.int s0), none, none, none], [])) (S' := S) 4 rfl (e := 2) (by omega) (A_imp (wt41 10 (by decide) x2 h) (fun v S3 hq => ?_))
    obtain ⟨r4, hv, h⟩ := hq
    subst hv
    refine A_call (j := 98) (As := [.ref 15, .int x2]) (fr' := (39, 47, [some (.ref 10), some (.int x1), some (.int x2), some (.int s0), some (.int r4), none, none], [.int (2 : Int32)])) (S' := S3) 6 rfl (e := 0) (by omega) (sp_item 15 5 _ ⟨by decide, by decide, rfl⟩ (by decide) ?_)
    refine A_call (j := 98) (As := [.ref 15, .int x2]) (fr' := (39, 61, [some (.ref 10), some (.int x1), some (.int x2), some (.int s0), some (.int r4), some (.int (((2 : Int32) * (it (S3.1 15) 5 x2)) + s0)), none], [.int (2 : Int32)])) (S' := S3) 9 rfl (e := 0) (by omega) (sp_item 15 5 _ ⟨by decide, by decide, rfl⟩ (by decide) ?_)
    have h := h _ rfl
    refine A_call (j := 98) (As := [.ref 12, .int ((((2 : Int32) * (it (S3.1 15) 5 x2)) + (1 : Int32)) - s0)]) (fr' := (39, 86, [some (.ref 10), some (.int x1), some (.int x2), some (.int s0), some (.int r4), some (.int (((2 : Int32) * (it (S3.1 15) 5 x2)) + s0)), some (.int ((((2 : Int32) * (it (S3.1 15) 5 x2)) + (1 : Int32)) - s0))], [.int (999 : Int32), .int ((((2 : Int32) * (it (S3.1 15) 5 x2)) + (1 : Int32)) - s0), .ref 12])) (S' := S3) 14 rfl (e := 0) (by omega) (sp_item 12 24 _ ⟨by decide, by decide, rfl⟩ (by decide) ?_)
    refine A_call (j := 99) (As := [.ref 12, .int ((((2 : Int32) * (it (S3.1 15) 5 x2)) + (1 : Int32)) - s0), .int (if ((it (S3.1 12) 24 ((((2 : Int32) * (it (S3.1 15) 5 x2)) + (1 : Int32)) - s0)) + r4) < (999 : Int32) then ((it (S3.1 12) 24 ((((2 : Int32) * (it (S3.1 15) 5 x2)) + (1 : Int32)) - s0)) + r4) else (999 : Int32))]) (fr' := (39, 95, [some (.ref 10), some (.int x1), some (.int x2), some (.int s0), some (.int r4), some (.int (((2 : Int32) * (it (S3.1 15) 5 x2)) + s0)), some (.int ((((2 : Int32) * (it (S3.1 15) 5 x2)) + (1 : Int32)) - s0))], [])) (S' := S3) 4 rfl (e := 0) (by omega) (sp_putItem 12 24 _ _ ⟨by decide, by decide, rfl⟩ (by decide) ?_)
    refine A_call (j := 98) (As := [.ref 11, .int (((2 : Int32) * (it (S3.1 15) 5 x2)) + s0)]) (fr' := (39, 109, [some (.ref 10), some (.int x1), some (.int x2), some (.int s0), some (.int r4), some (.int (((2 : Int32) * (it (S3.1 15) 5 x2)) + s0)), some (.int ((((2 : Int32) * (it (S3.1 15) 5 x2)) + (1 : Int32)) - s0))], [.int x2, .ref 15])) (S' := (ri_wr S3 12 (pu 24 (S3.1 12) ((((2 : Int32) * (it (S3.1 15) 5 x2)) + (1 : Int32)) - s0) (if ((it (S3.1 12) 24 ((((2 : Int32) * (it (S3.1 15) 5 x2)) + (1 : Int32)) - s0)) + r4) < (999 : Int32) then ((it (S3.1 12) 24 ((((2 : Int32) * (it (S3.1 15) 5 x2)) + (1 : Int32)) - s0)) + r4) else (999 : Int32))))) 7 rfl (e := 0) (by omega) (sp_item 11 24 _ ⟨by decide, by decide, rfl⟩ (by decide) ?_)
    refine A_call (j := 99) (As := [.ref 15, .int x2, .int (it (S3.1 11) 24 (((2 : Int32) * (it (S3.1 15) 5 x2)) + s0))]) (fr' := (39, 112, [some (.ref 10), some (.int x1), some (.int x2), some (.int s0), some (.int r4), some (.int (((2 : Int32) * (it (S3.1 15) 5 x2)) + s0)), some (.int ((((2 : Int32) * (it (S3.1 15) 5 x2)) + (1 : Int32)) - s0))], [])) (S' := (ri_wr S3 12 (pu 24 (S3.1 12) ((((2 : Int32) * (it (S3.1 15) 5 x2)) + (1 : Int32)) - s0) (if ((it (S3.1 12) 24 ((((2 : Int32) * (it (S3.1 15) 5 x2)) + (1 : Int32)) - s0)) + r4) < (999 : Int32) then ((it (S3.1 12) 24 ((((2 : Int32) * (it (S3.1 15) 5 x2)) + (1 : Int32)) - s0)) + r4) else (999 : Int32))))) 1 rfl (e := 0) (by omega) (sp_putItem 15 5 _ _ ⟨by decide, by decide, rfl⟩ (by decide) ?_)
    refine A_nx 2 (fr' := (39, 2, [some (.ref 10), some (.int x1), some (.int (x2 + (1 : Int32))), some (.int s0), some (.int r4), some (.int (((2 : Int32) * (it (S3.1 15) 5 x2)) + s0)), some (.int ((((2 : Int32) * (it (S3.1 15) 5 x2)) + (1 : Int32)) - s0))], [])) (S' := (ri_wr (ri_wr S3 12 (pu 24 (S3.1 12) ((((2 : Int32) * (it (S3.1 15) 5 x2)) + (1 : Int32)) - s0) (if ((it (S3.1 12) 24 ((((2 : Int32) * (it (S3.1 15) 5 x2)) + (1 : Int32)) - s0)) + r4) < (999 : Int32) then ((it (S3.1 12) 24 ((((2 : Int32) * (it (S3.1 15) 5 x2)) + (1 : Int32)) - s0)) + r4) else (999 : Int32)))) 15 (pu 5 (S3.1 15) x2 (it (S3.1 11) 24 (((2 : Int32) * (it (S3.1 15) 5 x2)) + s0))))) rfl ?_
    refine ri_A.less (m := 39) (pc := 2) (L := [some (.ref 10), some (.int x1), some (.int (x2 + (1 : Int32))), some (.int s0), some (.int r4), some (.int (((2 : Int32) * (it (S3.1 15) 5 x2)) + s0)), some (.int ((((2 : Int32) * (it (S3.1 15) 5 x2)) + (1 : Int32)) - s0))]) (L' := [some (.ref 10), some (.int x1), some (.int (x2 + (1 : Int32))), none, none, none, none]) (st := []) ⟨rfl, ⟨rfl, ⟨rfl, trivial⟩⟩⟩ ?_
    exact hK2 _ _ _ h
  · unfold w39_b30 at h
    refine A_call (j := 41) (As := [.ref 19, .int x2]) (fr' := (39, 36, [some (.ref 19), some (.int x1), some (.int x2), some (.int s0), none, none, none], [])) (S' := S) 4 rfl (e := 2) (by omega) (A_imp (wt41 19 (by decide) x2 h) (fun v S3 hq => ?_))
    obtain ⟨r4, hv, h⟩ := hq
    subst hv
    refine A_call (j := 98) (As := [.ref 24, .int x2]) (fr' := (39, 47, [some (.ref 19), some (.int x1), some (.int x2), some (.int s0), some (.int r4), none, none], [.int (2 : Int32)])) (S' := S3) 6 rfl (e := 0) (by omega) (sp_item 24 5 _ ⟨by decide, by decide, rfl⟩ (by decide) ?_)
    refine A_call (j := 98) (As := [.ref 24, .int x2]) (fr' := (39, 61, [some (.ref 19), some (.int x1), some (.int x2), some (.int s0), some (.int r4), some (.int (((2 : Int32) * (it (S3.1 24) 5 x2)) + s0)), none], [.int (2 : Int32)])) (S' := S3) 9 rfl (e := 0) (by omega) (sp_item 24 5 _ ⟨by decide, by decide, rfl⟩ (by decide) ?_)
    have h := h _ rfl
    refine A_call (j := 98) (As := [.ref 21, .int ((((2 : Int32) * (it (S3.1 24) 5 x2)) + (1 : Int32)) - s0)]) (fr' := (39, 86, [some (.ref 19), some (.int x1), some (.int x2), some (.int s0), some (.int r4), some (.int (((2 : Int32) * (it (S3.1 24) 5 x2)) + s0)), some (.int ((((2 : Int32) * (it (S3.1 24) 5 x2)) + (1 : Int32)) - s0))], [.int (999 : Int32), .int ((((2 : Int32) * (it (S3.1 24) 5 x2)) + (1 : Int32)) - s0), .ref 21])) (S' := S3) 14 rfl (e := 0) (by omega) (sp_item 21 24 _ ⟨by decide, by decide, rfl⟩ (by decide) ?_)
    refine A_call (j := 99) (As := [.ref 21, .int ((((2 : Int32) * (it (S3.1 24) 5 x2)) + (1 : Int32)) - s0), .int (if ((it (S3.1 21) 24 ((((2 : Int32) * (it (S3.1 24) 5 x2)) + (1 : Int32)) - s0)) + r4) < (999 : Int32) then ((it (S3.1 21) 24 ((((2 : Int32) * (it (S3.1 24) 5 x2)) + (1 : Int32)) - s0)) + r4) else (999 : Int32))]) (fr' := (39, 95, [some (.ref 19), some (.int x1), some (.int x2), some (.int s0), some (.int r4), some (.int (((2 : Int32) * (it (S3.1 24) 5 x2)) + s0)), some (.int ((((2 : Int32) * (it (S3.1 24) 5 x2)) + (1 : Int32)) - s0))], [])) (S' := S3) 4 rfl (e := 0) (by omega) (sp_putItem 21 24 _ _ ⟨by decide, by decide, rfl⟩ (by decide) ?_)
    refine A_call (j := 98) (As := [.ref 20, .int (((2 : Int32) * (it (S3.1 24) 5 x2)) + s0)]) (fr' := (39, 109, [some (.ref 19), some (.int x1), some (.int x2), some (.int s0), some (.int r4), some (.int (((2 : Int32) * (it (S3.1 24) 5 x2)) + s0)), some (.int ((((2 : Int32) * (it (S3.1 24) 5 x2)) + (1 : Int32)) - s0))], [.int x2, .ref 24])) (S' := (ri_wr S3 21 (pu 24 (S3.1 21) ((((2 : Int32) * (it (S3.1 24) 5 x2)) + (1 : Int32)) - s0) (if ((it (S3.1 21) 24 ((((2 : Int32) * (it (S3.1 24) 5 x2)) + (1 : Int32)) - s0)) + r4) < (999 : Int32) then ((it (S3.1 21) 24 ((((2 : Int32) * (it (S3.1 24) 5 x2)) + (1 : Int32)) - s0)) + r4) else (999 : Int32))))) 7 rfl (e := 0) (by omega) (sp_item 20 24 _ ⟨by decide, by decide, rfl⟩ (by decide) ?_)
    refine A_call (j := 99) (As := [.ref 24, .int x2, .int (it (S3.1 20) 24 (((2 : Int32) * (it (S3.1 24) 5 x2)) + s0))]) (fr' := (39, 112, [some (.ref 19), some (.int x1), some (.int x2), some (.int s0), some (.int r4), some (.int (((2 : Int32) * (it (S3.1 24) 5 x2)) + s0)), some (.int ((((2 : Int32) * (it (S3.1 24) 5 x2)) + (1 : Int32)) - s0))], [])) (S' := (ri_wr S3 21 (pu 24 (S3.1 21) ((((2 : Int32) * (it (S3.1 24) 5 x2)) + (1 : Int32)) - s0) (if ((it (S3.1 21) 24 ((((2 : Int32) * (it (S3.1 24) 5 x2)) + (1 : Int32)) - s0)) + r4) < (999 : Int32) then ((it (S3.1 21) 24 ((((2 : Int32) * (it (S3.1 24) 5 x2)) + (1 : Int32)) - s0)) + r4) else (999 : Int32))))) 1 rfl (e := 0) (by omega) (sp_putItem 24 5 _ _ ⟨by decide, by decide, rfl⟩ (by decide) ?_)
    refine A_nx 2 (fr' := (39, 2, [some (.ref 19), some (.int x1), some (.int (x2 + (1 : Int32))), some (.int s0), some (.int r4), some (.int (((2 : Int32) * (it (S3.1 24) 5 x2)) + s0)), some (.int ((((2 : Int32) * (it (S3.1 24) 5 x2)) + (1 : Int32)) - s0))], [])) (S' := (ri_wr (ri_wr S3 21 (pu 24 (S3.1 21) ((((2 : Int32) * (it (S3.1 24) 5 x2)) + (1 : Int32)) - s0) (if ((it (S3.1 21) 24 ((((2 : Int32) * (it (S3.1 24) 5 x2)) + (1 : Int32)) - s0)) + r4) < (999 : Int32) then ((it (S3.1 21) 24 ((((2 : Int32) * (it (S3.1 24) 5 x2)) + (1 : Int32)) - s0)) + r4) else (999 : Int32)))) 24 (pu 5 (S3.1 24) x2 (it (S3.1 20) 24 (((2 : Int32) * (it (S3.1 24) 5 x2)) + s0))))) rfl ?_
    refine ri_A.less (m := 39) (pc := 2) (L := [some (.ref 19), some (.int x1), some (.int (x2 + (1 : Int32))), some (.int s0), some (.int r4), some (.int (((2 : Int32) * (it (S3.1 24) 5 x2)) + s0)), some (.int ((((2 : Int32) * (it (S3.1 24) 5 x2)) + (1 : Int32)) - s0))]) (L' := [some (.ref 19), some (.int x1), some (.int (x2 + (1 : Int32))), none, none, none, none]) (st := []) ⟨rfl, ⟨rfl, ⟨rfl, trivial⟩⟩⟩ ?_
    exact hK2 _ _ _ h
def w39_l2 (w : Nat) (Q : ri_H → Prop) : Nat → Int32 → Int32 → ri_H → Prop
  | 0, _, _, _ => False
  | n + 1, x1, x2, S => (((S.1 w 9) ≤ x2 → Q (ri_wi S w 10 ((S.1 w 10) + (1 : Int32)))) ∧ (¬ (S.1 w 9) ≤ x2 → ((¬ x2 = x1 → w40 w x2 S (fun (r2 : Int32) (S1 : ri_H) => w39_b30 w (fun x1 x2 S => w39_l2 w  Q n x1 x2 S) Q x1 x2 r2 S1)) ∧ (¬ (¬ x2 = x1) → w40 w x2 S (fun (r7 : Int32) (S6 : ri_H) => w39_b30 w (fun x1 x2 S => w39_l2 w  Q n x1 x2 S) Q x1 x2 ((1 : Int32) - r7) S6)))))
set_option maxRecDepth 10000 in
set_option maxHeartbeats 1000000 in
theorem wt39_l2 {E : ri_E} (w : Nat) (hw : w = 10 ∨ w = 19) {Q : ri_H → Prop} : ∀ (n : Nat) (x1 : Int32) (x2 : Int32) (S : ri_H), w39_l2 w  Q n x1 x2 S → ri_A E 3 (39, 2, [some (.ref w), some (.int x1), some (.int x2), none, none, none, none], []) S (Qv Q) := by
  rcases hw with rfl | rfl
  · intro n
    induction n with
    | zero => intro x1 x2 S h; exact h.elim
    | succ n ih =>
      intro x1 x2 S h
      unfold w39_l2 at h
      refine A_br ((S.1 10 9) ≤ x2) (r1 := ((39, 118, [some (.ref 10), some (.int x1), some (.int x2), none, none, none, none], []), S)) (r2 := ((39, 10, [some (.ref 10), some (.int x1), some (.int x2), none, none, none, none], []), S)) 4 rfl (fun c => ?_) (fun c => ?_)
      · have h := h.1 c
        exact A_ret 7 (m := 39) (v := none) (S' := (ri_wi S 10 10 ((S.1 10 10) + (1 : Int32)))) rfl rfl ⟨rfl, h⟩
      · have h := h.2 c
        refine A_br (¬ x2 = x1) (r1 := ((39, 25, [some (.ref 10), some (.int x1), some (.int x2), none, none, none, none], []), S)) (r2 := ((39, 15, [some (.ref 10), some (.int x1), some (.int x2), none, none, none, none], []), S)) 3 rfl (fun c => ?_) (fun c => ?_)
        · have h := h.1 c
          refine A_call (j := 40) (As := [.ref 10, .int x2]) (fr' := (39, 30, [some (.ref 10), some (.int x1), some (.int x2), none, none, none, none], [])) (S' := S) 3 rfl (e := 2) (by omega) (A_imp (wt40 10 (by decide) x2 h) (fun v S1 hq => ?_))
          obtain ⟨r2, hv, h⟩ := hq
          subst hv
          refine ri_A.less (m := 39) (pc := 30) (L := [some (.ref 10), some (.int x1), some (.int x2), none, none, none, none]) (L' := [some (.ref 10), some (.int x1), some (.int x2), none, none, none, none]) (st := [.int r2]) ⟨rfl, ⟨rfl, ⟨rfl, trivial⟩⟩⟩ ?_
          exact wt39_b30 10 (by decide) (fun x1 x2 S hk => ih x1 x2 S hk) _ _ _ _ h
        · have h := h.2 c
          refine A_call (j := 40) (As := [.ref 10, .int x2]) (fr' := (39, 21, [some (.ref 10), some (.int x1), some (.int x2), none, none, none, none], [.int (1 : Int32)])) (S' := S) 4 rfl (e := 2) (by omega) (A_imp (wt40 10 (by decide) x2 h) (fun v S6 hq => ?_))
          obtain ⟨r7, hv, h⟩ := hq
          subst hv
          refine A_nx 2 (fr' := (39, 30, [some (.ref 10), some (.int x1), some (.int x2), none, none, none, none], [.int ((1 : Int32) - r7)])) (S' := S6) rfl ?_
          refine ri_A.less (m := 39) (pc := 30) (L := [some (.ref 10), some (.int x1), some (.int x2), none, none, none, none]) (L' := [some (.ref 10), some (.int x1), some (.int x2), none, none, none, none]) (st := [.int ((1 : Int32) - r7)]) ⟨rfl, ⟨rfl, ⟨rfl, trivial⟩⟩⟩ ?_
          exact wt39_b30 10 (by decide) (fun x1 x2 S hk => ih x1 x2 S hk) _ _ _ _ h
  · intro n
    induction n with
    | zero => intro x1 x2 S h; exact h.elim
    | succ n ih =>
      intro x1 x2 S h
      unfold w39_l2 at h
      refine A_br ((S.1 19 9) ≤ x2) (r1 := ((39, 118, [some (.ref 19), some (.int x1), some (.int x2), none, none, none, none], []), S)) (r2 := ((39, 10, [some (.ref 19), some (.int x1), some (.int x2), none, none, none, none], []), S)) 4 rfl (fun c => ?_) (fun c => ?_)
      · have h := h.1 c
        exact A_ret 7 (m := 39) (v := none) (S' := (ri_wi S 19 10 ((S.1 19 10) + (1 : Int32)))) rfl rfl ⟨rfl, h⟩
      · have h := h.2 c
        refine A_br (¬ x2 = x1) (r1 := ((39, 25, [some (.ref 19), some (.int x1), some (.int x2), none, none, none, none], []), S)) (r2 := ((39, 15, [some (.ref 19), some (.int x1), some (.int x2), none, none, none, none], []), S)) 3 rfl (fun c => ?_) (fun c => ?_)
        · have h := h.1 c
          refine A_call (j := 40) (As := [.ref 19, .int x2]) (fr' := (39, 30, [some (.ref 19), some (.int x1), some (.int x2), none, none, none, none], [])) (S' := S) 3 rfl (e := 2) (by omega) (A_imp (wt40 19 (by decide) x2 h) (fun v S1 hq => ?_))
          obtain ⟨r2, hv, h⟩ := hq
          subst hv
          refine ri_A.less (m := 39) (pc := 30) (L := [some (.ref 19), some (.int x1), some (.int x2), none, none, none, none]) (L' := [some (.ref 19), some (.int x1), some (.int x2), none, none, none, none]) (st := [.int r2]) ⟨rfl, ⟨rfl, ⟨rfl, trivial⟩⟩⟩ ?_
          exact wt39_b30 19 (by decide) (fun x1 x2 S hk => ih x1 x2 S hk) _ _ _ _ h
        · have h := h.2 c
          refine A_call (j := 40) (As := [.ref 19, .int x2]) (fr' := (39, 21, [some (.ref 19), some (.int x1), some (.int x2), none, none, none, none], [.int (1 : Int32)])) (S' := S) 4 rfl (e := 2) (by omega) (A_imp (wt40 19 (by decide) x2 h) (fun v S6 hq => ?_))
          obtain ⟨r7, hv, h⟩ := hq
          subst hv
          refine A_nx 2 (fr' := (39, 30, [some (.ref 19), some (.int x1), some (.int x2), none, none, none, none], [.int ((1 : Int32) - r7)])) (S' := S6) rfl ?_
          refine ri_A.less (m := 39) (pc := 30) (L := [some (.ref 19), some (.int x1), some (.int x2), none, none, none, none]) (L' := [some (.ref 19), some (.int x1), some (.int x2), none, none, none, none]) (st := [.int ((1 : Int32) - r7)]) ⟨rfl, ⟨rfl, ⟨rfl, trivial⟩⟩⟩ ?_
          exact wt39_b30 19 (by decide) (fun x1 x2 S hk => ih x1 x2 S hk) _ _ _ _ h
def w39 (w : Nat) (a : Int32) (S : ri_H) (Q : ri_H → Prop) : Prop := ∃ nn, w39_l2 w  Q nn a (0 : Int32) S
set_option maxRecDepth 10000 in
set_option maxHeartbeats 1000000 in
theorem wt39 {E : ri_E} (w : Nat) (hw : w = 10 ∨ w = 19) (a : Int32) {S : ri_H} {Q : ri_H → Prop} (h : w39 w a S Q) : ri_A E 3 (ri_en 39 [.ref w, .int a]) S (Qv Q) := by
  rcases hw with rfl | rfl
  · unfold w39 at h
    show ri_A E 3 (39, 0, [some (.ref 10), some (.int a), none, none, none, none, none], []) S (Qv Q)
    refine A_nx 2 (fr' := (39, 2, [some (.ref 10), some (.int a), some (.int (0 : Int32)), none, none, none, none], [])) (S' := S) rfl ?_
    refine ri_A.less (m := 39) (pc := 2) (L := [some (.ref 10), some (.int a), some (.int (0 : Int32)), none, none, none, none]) (L' := [some (.ref 10), some (.int a), some (.int (0 : Int32)), none, none, none, none]) (st := []) ⟨rfl, ⟨rfl, ⟨rfl, trivial⟩⟩⟩ ?_
    obtain ⟨nn, h⟩ := h
    exact wt39_l2 10 (by decide)  nn _ _ _ h
  · unfold w39 at h
    show ri_A E 3 (39, 0, [some (.ref 19), some (.int a), none, none, none, none, none], []) S (Qv Q)
    refine A_nx 2 (fr' := (39, 2, [some (.ref 19), some (.int a), some (.int (0 : Int32)), none, none, none, none], [])) (S' := S) rfl ?_
    refine ri_A.less (m := 39) (pc := 2) (L := [some (.ref 19), some (.int a), some (.int (0 : Int32)), none, none, none, none]) (L' := [some (.ref 19), some (.int a), some (.int (0 : Int32)), none, none, none, none]) (st := []) ⟨rfl, ⟨rfl, ⟨rfl, trivial⟩⟩⟩ ?_
    obtain ⟨nn, h⟩ := h
    exact wt39_l2 19 (by decide)  nn _ _ _ h
