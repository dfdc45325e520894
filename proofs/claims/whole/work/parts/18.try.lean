def w95 (i : Int32) (n : Int32) (S : ri_H) (Q : Int32 → ri_H → Prop) : Prop := ((i < 0 → Q (0 : Int32) S) ∧ (¬ (i < 0) → ((n ≤ i → Q (0 : Int32) S) ∧ (¬ (n ≤ i) → Q (1 : Int32) S))))
set_option maxRecDepth 10000 in
set_option maxHeartbeats 1000000 in
theorem wt95 {E : ri_E} (i : Int32) (n : Int32) {S : ri_H} {Q : Int32 → ri_H → Prop} (h : w95  i n S Q) : ri_A E 0 (ri_en 95 [.int i, .int n]) S (Qi Q) := by
  unfold w95 at h
  show ri_A E 0 (95, 0, [some (.int i), some (.int n)], []) S (Qi Q)
  refine A_br (i < 0) (r1 := ((95, 13, [some (.int i), some (.int n)], []), S)) (r2 := ((95, 4, [some (.int i), some (.int n)], []), S)) 2 rfl (fun c => ?_) (fun c => ?_)
  · have h := h.1 c
    exact A_ret 2 (m := 95) (v := some (.int (0 : Int32))) (S' := S) rfl rfl ⟨_, rfl, h⟩
  · have h := h.2 c
    refine A_br (n ≤ i) (r1 := ((95, 13, [some (.int i), some (.int n)], []), S)) (r2 := ((95, 9, [some (.int i), some (.int n)], []), S)) 3 rfl (fun c => ?_) (fun c => ?_)
    · have h := h.1 c
      exact A_ret 2 (m := 95) (v := some (.int (0 : Int32))) (S' := S) rfl rfl ⟨_, rfl, h⟩
    · have h := h.2 c
      exact A_ret 3 (m := 95) (v := some (.int (1 : Int32))) (S' := S) rfl rfl ⟨_, rfl, h⟩
def w96 (v : Int32) (a : Int32) (b : Int32) (S : ri_H) (Q : Int32 → ri_H → Prop) : Prop := Q (if a < (if v < b then v else b) then (if v < b then v else b) else a) S
set_option maxRecDepth 10000 in
set_option maxHeartbeats 1000000 in
theorem wt96 {E : ri_E} (v : Int32) (a : Int32) (b : Int32) {S : ri_H} {Q : Int32 → ri_H → Prop} (h : w96  v a b S Q) : ri_A E 0 (ri_en 96 [.int v, .int a, .int b]) S (Qi Q) := by
  unfold w96 at h
  show ri_A E 0 (96, 0, [some (.int v), some (.int a), some (.int b)], []) S (Qi Q)
  exact A_ret 6 (m := 96) (v := some (.int (if a < (if v < b then v else b) then (if v < b then v else b) else a))) (S' := S) rfl rfl ⟨_, rfl, h⟩
def w102 (v : Int64) (a : Int64) (b : Int64) (S : ri_H) (Q : Int32 → ri_H → Prop) : Prop := (((lg_cmp v a) < 0 → Q (0 : Int32) S) ∧ (¬ (lg_cmp v a) < 0 → ((0 < (lg_cmp v b) → Q (0 : Int32) S) ∧ (¬ (0 < (lg_cmp v b)) → Q (1 : Int32) S))))
set_option maxRecDepth 10000 in
set_option maxHeartbeats 1000000 in
theorem wt102 {E : ri_E} (v : Int64) (a : Int64) (b : Int64) {S : ri_H} {Q : Int32 → ri_H → Prop} (h : w102  v a b S Q) : ri_A E 0 (ri_en 102 [.long v, .long a, .long b]) S (Qi Q) := by
  unfold w102 at h
  show ri_A E 0 (102, 0, [some (.long v), none, some (.long a), none, some (.long b), none], []) S (Qi Q)
  refine A_br ((lg_cmp v a) < 0) (r1 := ((102, 17, [some (.long v), none, some (.long a), none, some (.long b), none], []), S)) (r2 := ((102, 6, [some (.long v), none, some (.long a), none, some (.long b), none], []), S)) 4 rfl (fun c => ?_) (fun c => ?_)
  · have h := h.1 c
    exact A_ret 2 (m := 102) (v := some (.int (0 : Int32))) (S' := S) rfl rfl ⟨_, rfl, h⟩
  · have h := h.2 c
    refine A_br (0 < (lg_cmp v b)) (r1 := ((102, 17, [some (.long v), none, some (.long a), none, some (.long b), none], []), S)) (r2 := ((102, 13, [some (.long v), none, some (.long a), none, some (.long b), none], []), S)) 4 rfl (fun c => ?_) (fun c => ?_)
    · have h := h.1 c
      exact A_ret 2 (m := 102) (v := some (.int (0 : Int32))) (S' := S) rfl rfl ⟨_, rfl, h⟩
    · have h := h.2 c
      exact A_ret 3 (m := 102) (v := some (.int (1 : Int32))) (S' := S) rfl rfl ⟨_, rfl, h⟩
def w103 (v : Int32) (a : Int32) (b : Int32) (S : ri_H) (Q : Int32 → ri_H → Prop) : Prop := ((a ≤ v → ((v ≤ b → Q v S) ∧ (¬ (v ≤ b) → Q b S))) ∧ (¬ (a ≤ v) → Q a S))
set_option maxRecDepth 10000 in
set_option maxHeartbeats 1000000 in
theorem wt103 {E : ri_E} (v : Int32) (a : Int32) (b : Int32) {S : ri_H} {Q : Int32 → ri_H → Prop} (h : w103  v a b S Q) : ri_A E 0 (ri_en 103 [.int v, .int a, .int b]) S (Qi Q) := by
  unfold w103 at h
  show ri_A E 0 (103, 0, [some (.int v), some (.int a), some (.int b)], []) S (Qi Q)
  refine A_br (a ≤ v) (r1 := ((103, 9, [some (.int v), some (.int a), some (.int b)], []), S)) (r2 := ((103, 5, [some (.int v), some (.int a), some (.int b)], []), S)) 3 rfl (fun c => ?_) (fun c => ?_)
  · have h := h.1 c
    refine A_br (v ≤ b) (r1 := ((103, 18, [some (.int v), some (.int a), some (.int b)], []), S)) (r2 := ((103, 14, [some (.int v), some (.int a), some (.int b)], []), S)) 3 rfl (fun c => ?_) (fun c => ?_)
    · have h := h.1 c
      exact A_ret 2 (m := 103) (v := some (.int v)) (S' := S) rfl rfl ⟨_, rfl, h⟩
    · have h := h.2 c
      exact A_ret 3 (m := 103) (v := some (.int b)) (S' := S) rfl rfl ⟨_, rfl, h⟩
  · have h := h.2 c
    exact A_ret 3 (m := 103) (v := some (.int a)) (S' := S) rfl rfl ⟨_, rfl, h⟩
def w37_l4 (w : Nat) (Q : Int32 → ri_H → Prop) : Nat → Int32 → Int32 → ri_H → Prop
  | 0, _, _, _ => False
  | n + 1, x1, x2, S => (((24 : Int32) ≤ x2 → Q x1 S) ∧ (¬ (24 : Int32) ≤ x2 → (vp_in x2 24 ∧ w37_l4 w  Q n (x1 + (S.1 (w + 2) (x2).toNatClampNeg)) (x2 + (1 : Int32)) S)))
set_option maxRecDepth 10000 in
set_option maxHeartbeats 1000000 in
theorem wt37_l4 {E : ri_E} (w : Nat) (hw : w = 10 ∨ w = 19) {Q : Int32 → ri_H → Prop} : ∀ (n : Nat) (x1 : Int32) (x2 : Int32) (S : ri_H), w37_l4 w  Q n x1 x2 S → ri_A E 0 (37, 4, [some (.ref w), some (.int x1), some (.int x2)], []) S (Qi Q) := by
  rcases hw with rfl | rfl
  · intro n
    induction n with
    | zero => intro x1 x2 S h; exact h.elim
    | succ n ih =>
      intro x1 x2 S h
      unfold w37_l4 at h
      refine A_br ((24 : Int32) ≤ x2) (r1 := ((37, 28, [some (.ref 10), some (.int x1), some (.int x2)], []), S)) (r2 := ((37, 13, [some (.ref 10), some (.int x1), some (.int x2)], []), S)) 5 rfl (fun c => ?_) (fun c => ?_)
      · have h := h.1 c
        exact A_ret 2 (m := 37) (v := some (.int x1)) (S' := S) rfl rfl ⟨_, rfl, h⟩
      · have h := h.2 c
        refine A_ix x2 24 (r1 := ((37, 20, [some (.ref 10), some (.int x1), some (.int x2)], [.int (S.1 12 (x2).toNatClampNeg), .int x1]), S)) 5 rfl h.1 ?_
        have h := h.2
        refine A_nx 4 (fr' := (37, 4, [some (.ref 10), some (.int (x1 + (S.1 12 (x2).toNatClampNeg))), some (.int (x2 + (1 : Int32)))], [])) (S' := S) rfl ?_
        refine ri_A.less (m := 37) (pc := 4) (L := [some (.ref 10), some (.int (x1 + (S.1 12 (x2).toNatClampNeg))), some (.int (x2 + (1 : Int32)))]) (L' := [some (.ref 10), some (.int (x1 + (S.1 12 (x2).toNatClampNeg))), some (.int (x2 + (1 : Int32)))]) (st := []) ⟨rfl, ⟨rfl, ⟨rfl, trivial⟩⟩⟩ ?_
        exact ih _ _ _ h
  · intro n
    induction n with
    | zero => intro x1 x2 S h; exact h.elim
    | succ n ih =>
      intro x1 x2 S h
      unfold w37_l4 at h
      refine A_br ((24 : Int32) ≤ x2) (r1 := ((37, 28, [some (.ref 19), some (.int x1), some (.int x2)], []), S)) (r2 := ((37, 13, [some (.ref 19), some (.int x1), some (.int x2)], []), S)) 5 rfl (fun c => ?_) (fun c => ?_)
      · have h := h.1 c
        exact A_ret 2 (m := 37) (v := some (.int x1)) (S' := S) rfl rfl ⟨_, rfl, h⟩
      · have h := h.2 c
        refine A_ix x2 24 (r1 := ((37, 20, [some (.ref 19), some (.int x1), some (.int x2)], [.int (S.1 21 (x2).toNatClampNeg), .int x1]), S)) 5 rfl h.1 ?_
        have h := h.2
        refine A_nx 4 (fr' := (37, 4, [some (.ref 19), some (.int (x1 + (S.1 21 (x2).toNatClampNeg))), some (.int (x2 + (1 : Int32)))], [])) (S' := S) rfl ?_
        refine ri_A.less (m := 37) (pc := 4) (L := [some (.ref 19), some (.int (x1 + (S.1 21 (x2).toNatClampNeg))), some (.int (x2 + (1 : Int32)))]) (L' := [some (.ref 19), some (.int (x1 + (S.1 21 (x2).toNatClampNeg))), some (.int (x2 + (1 : Int32)))]) (st := []) ⟨rfl, ⟨rfl, ⟨rfl, trivial⟩⟩⟩ ?_
        exact ih _ _ _ h
def w37 (w : Nat)  (S : ri_H) (Q : Int32 → ri_H → Prop) : Prop := ∃ n, w37_l4 w  Q n (0 : Int32) (0 : Int32) S
set_option maxRecDepth 10000 in
set_option maxHeartbeats 1000000 in
theorem wt37 {E : ri_E} (w : Nat) (hw : w = 10 ∨ w = 19)  {S : ri_H} {Q : Int32 → ri_H → Prop} (h : w37 w  S Q) : ri_A E 0 (ri_en 37 [.ref w]) S (Qi Q) := by
  rcases hw with rfl | rfl
  · unfold w37 at h
    show ri_A E 0 (37, 0, [some (.ref 10), none, none], []) S (Qi Q)
    refine A_nx 4 (fr' := (37, 4, [some (.ref 10), some (.int (0 : Int32)), some (.int (0 : Int32))], [])) (S' := S) rfl ?_
    refine ri_A.less (m := 37) (pc := 4) (L := [some (.ref 10), some (.int (0 : Int32)), some (.int (0 : Int32))]) (L' := [some (.ref 10), some (.int (0 : Int32)), some (.int (0 : Int32))]) (st := []) ⟨rfl, ⟨rfl, ⟨rfl, trivial⟩⟩⟩ ?_
    obtain ⟨n, h⟩ := h
    exact wt37_l4 10 (by decide)  n _ _ _ h
  · unfold w37 at h
    show ri_A E 0 (37, 0, [some (.ref 19), none, none], []) S (Qi Q)
    refine A_nx 4 (fr' := (37, 4, [some (.ref 19), some (.int (0 : Int32)), some (.int (0 : Int32))], [])) (S' := S) rfl ?_
    refine ri_A.less (m := 37) (pc := 4) (L := [some (.ref 19), some (.int (0 : Int32)), some (.int (0 : Int32))]) (L' := [some (.ref 19), some (.int (0 : Int32)), some (.int (0 : Int32))]) (st := []) ⟨rfl, ⟨rfl, ⟨rfl, trivial⟩⟩⟩ ?_
    obtain ⟨n, h⟩ := h
    exact wt37_l4 19 (by decide)  n _ _ _ h
