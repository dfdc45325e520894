/-! leaves of the class -/
def wi (i n : Int32) : Int32 := if i < 0 then 0 else if n ≤ i then 0 else 1
def hd (v a b : Int32) : Int32 := if a < (if v < b then v else b) then (if v < b then v else b) else a
def bt (i : Int32) : Int32 := if wi i 31 = 0 then 0 else (1 : Int32) <<< (i &&& 31)
theorem wi_b (i n : Int32) : wi i n = 0 ∨ wi i n = 1 := by
  unfold wi
  split
  · exact Or.inl rfl
  · split
    · exact Or.inl rfl
    · exact Or.inr rfl
/-! X4_within, depth 0 -/
def w95 (i : Int32) (n : Int32) (S : ri_H) (Q : Int32 → ri_H → Prop) : Prop := ((i < 0 → Q (0 : Int32) S) ∧ (¬ (i < 0) → ((n ≤ i → Q (0 : Int32) S) ∧ (¬ (n ≤ i) → Q (1 : Int32) S))))
set_option maxRecDepth 10000 in
set_option maxHeartbeats 1000000 in
theorem wt95 {E : ri_E} (i : Int32) (n : Int32) {S : ri_H} {Q : Int32 → ri_H → Prop} (h : w95  i n S Q) : ri_A E 0 (ri_en 95 [.int i, .int n]) S (Qi Q) := by
  unfold w95 at h
  show ri_A E 0 (95, 0, [some (.int i), some (.int n)], []) S (Qi Q)
  refine A_br (i < 0) (r1 := ((95, 13, [some (.int i), some (.int n)], []), S)) (r2 := ((95, 4, [some (.int i), some (.int n)], []), S)) 2 rfl (fun c => ?_) (fun c => ?_)
  · have h := h.1 c
    exact A_ret 2 (m := 95) (v := some (.int (0 : Int32))) (S' := S) rfl rfl ⟨_, rfl, h⟩
  · have h := h.2 c
    refine A_br (n ≤ i) (r1 := ((95, 13, [some (.int i), some (.int n)], []), S)) (r2 := ((95, 9, [some (.int i), some (.int n)], []), S)) 3 rfl (fun c => ?_) (fun c => ?_)
    · have h := h.1 c
      exact A_ret 2 (m := 95) (v := some (.int (0 : Int32))) (S' := S) rfl rfl ⟨_, rfl, h⟩
    · have h := h.2 c
      exact A_ret 3 (m := 95) (v := some (.int (1 : Int32))) (S' := S) rfl rfl ⟨_, rfl, h⟩
theorem sp_within {E : ri_E} {S : ri_H} {Q : Option Value → ri_H → Prop} (i n : Int32) (h : Q (some (.int (wi i n))) S) : ri_A E 0 (ri_en 95 [.int i, .int n]) S Q := by
  refine A_imp (wt95 i n (Q := fun r S1 => r = wi i n ∧ S1 = S) ?_) (fun v S1 hv => ?_)
  · unfold w95 wi
    refine ⟨fun c => ?_, fun c => ?_⟩
    · rw [if_pos c]; exact ⟨rfl, rfl⟩
    · rw [if_neg c]
      refine ⟨fun c2 => ?_, fun c2 => ?_⟩
      · rw [if_pos c2]; exact ⟨rfl, rfl⟩
      · rw [if_neg c2]; exact ⟨rfl, rfl⟩
  · obtain ⟨r, rfl, rfl, rfl⟩ := hv
    exact h
/-! X4_held, depth 0 -/
def w96 (v : Int32) (a : Int32) (b : Int32) (S : ri_H) (Q : Int32 → ri_H → Prop) : Prop := Q (if a < (if v < b then v else b) then (if v < b then v else b) else a) S
set_option maxRecDepth 10000 in
set_option maxHeartbeats 1000000 in
theorem wt96 {E : ri_E} (v : Int32) (a : Int32) (b : Int32) {S : ri_H} {Q : Int32 → ri_H → Prop} (h : w96  v a b S Q) : ri_A E 0 (ri_en 96 [.int v, .int a, .int b]) S (Qi Q) := by
  unfold w96 at h
  show ri_A E 0 (96, 0, [some (.int v), some (.int a), some (.int b)], []) S (Qi Q)
  exact A_ret 6 (m := 96) (v := some (.int (if a < (if v < b then v else b) then (if v < b then v else b) else a))) (S' := S) rfl rfl ⟨_, rfl, h⟩
theorem sp_held {E : ri_E} {S : ri_H} {Q : Option Value → ri_H → Prop} (v a b : Int32) (h : Q (some (.int (hd v a b))) S) : ri_A E 0 (ri_en 96 [.int v, .int a, .int b]) S Q := by
  refine A_imp (wt96 v a b (Q := fun r S1 => r = hd v a b ∧ S1 = S) ?_) (fun v S1 hv => ?_)
  · exact ⟨rfl, rfl⟩
  · obtain ⟨r, rfl, rfl, rfl⟩ := hv
    exact h
/-! X4_bit, depth 1 -/
def w97 (i : Int32) (S : ri_H) (Q : Int32 → ri_H → Prop) : Prop := (((wi i (31 : Int32)) = 0 → Q (0 : Int32) S) ∧ (¬ (wi i (31 : Int32)) = 0 → Q ((1 : Int32) <<< (i &&& 31)) S))
set_option maxRecDepth 10000 in
set_option maxHeartbeats 1000000 in
theorem wt97 {E : ri_E} (i : Int32) {S : ri_H} {Q : Int32 → ri_H → Prop} (h : w97  i S Q) : ri_A E 1 (ri_en 97 [.int i]) S (Qi Q) := by
  unfold w97 at h
  show ri_A E 1 (97, 0, [some (.int i)], []) S (Qi Q)
  refine A_call (j := 95) (As := [.int i, .int (31 : Int32)]) (fr' := (97, 6, [some (.int i)], [])) (S' := S) 3 rfl (e := 0) (by omega) (sp_within _ _ ?_)
  refine A_br ((wi i (31 : Int32)) = 0) (r1 := ((97, 15, [some (.int i)], []), S)) (r2 := ((97, 9, [some (.int i)], []), S)) 1 rfl (fun c => ?_) (fun c => ?_)
  · have h := h.1 c
    exact A_ret 2 (m := 97) (v := some (.int (0 : Int32))) (S' := S) rfl rfl ⟨_, rfl, h⟩
  · have h := h.2 c
    exact A_ret 5 (m := 97) (v := some (.int ((1 : Int32) <<< (i &&& 31)))) (S' := S) rfl rfl ⟨_, rfl, h⟩
theorem sp_bit {E : ri_E} {S : ri_H} {Q : Option Value → ri_H → Prop} (i : Int32) (h : Q (some (.int (bt i))) S) : ri_A E 1 (ri_en 97 [.int i]) S Q := by
  refine A_imp (wt97 i (Q := fun r S1 => r = bt i ∧ S1 = S) ?_) (fun v S1 hv => ?_)
  · unfold w97 bt
    refine ⟨fun c => ?_, fun c => ?_⟩
    · rw [if_pos c]; exact ⟨rfl, rfl⟩
    · rw [if_neg c]; exact ⟨rfl, rfl⟩
  · obtain ⟨r, rfl, rfl, rfl⟩ := hv
    exact h
/-! X1_isMissing, depth 0 -/
def w22 (k : Nat)  (S : ri_H) (Q : Int32 → ri_H → Prop) : Prop := ((¬ (S.1 k 1) = (-1 : Int32) → Q (0 : Int32) S) ∧ (¬ (¬ (S.1 k 1) = (-1 : Int32)) → Q (1 : Int32) S))
set_option maxRecDepth 10000 in
set_option maxHeartbeats 1000000 in
theorem wt22 {E : ri_E} (k : Nat) (hw : k = 38 ∨ k = 40 ∨ k = 42 ∨ k = 44)  {S : ri_H} {Q : Int32 → ri_H → Prop} (h : w22 k  S Q) : ri_A E 0 (ri_en 22 [.ref k]) S (Qi Q) := by
  rcases hw with rfl | rfl | rfl | rfl
  · unfold w22 at h
    show ri_A E 0 (22, 0, [some (.ref 38)], []) S (Qi Q)
    refine A_br (¬ (S.1 38 1) = (-1 : Int32)) (r1 := ((22, 12, [some (.ref 38)], []), S)) (r2 := ((22, 8, [some (.ref 38)], []), S)) 4 rfl (fun c => ?_) (fun c => ?_)
    · have h := h.1 c
      exact A_ret 2 (m := 22) (v := some (.int (0 : Int32))) (S' := S) rfl rfl ⟨_, rfl, h⟩
    · have h := h.2 c
      exact A_ret 3 (m := 22) (v := some (.int (1 : Int32))) (S' := S) rfl rfl ⟨_, rfl, h⟩
  · unfold w22 at h
    show ri_A E 0 (22, 0, [some (.ref 40)], []) S (Qi Q)
    refine A_br (¬ (S.1 40 1) = (-1 : Int32)) (r1 := ((22, 12, [some (.ref 40)], []), S)) (r2 := ((22, 8, [some (.ref 40)], []), S)) 4 rfl (fun c => ?_) (fun c => ?_)
    · have h := h.1 c
      exact A_ret 2 (m := 22) (v := some (.int (0 : Int32))) (S' := S) rfl rfl ⟨_, rfl, h⟩
    · have h := h.2 c
      exact A_ret 3 (m := 22) (v := some (.int (1 : Int32))) (S' := S) rfl rfl ⟨_, rfl, h⟩
  · unfold w22 at h
    show ri_A E 0 (22, 0, [some (.ref 42)], []) S (Qi Q)
    refine A_br (¬ (S.1 42 1) = (-1 : Int32)) (r1 := ((22, 12, [some (.ref 42)], []), S)) (r2 := ((22, 8, [some (.ref 42)], []), S)) 4 rfl (fun c => ?_) (fun c => ?_)
    · have h := h.1 c
      exact A_ret 2 (m := 22) (v := some (.int (0 : Int32))) (S' := S) rfl rfl ⟨_, rfl, h⟩
    · have h := h.2 c
      exact A_ret 3 (m := 22) (v := some (.int (1 : Int32))) (S' := S) rfl rfl ⟨_, rfl, h⟩
  · unfold w22 at h
    show ri_A E 0 (22, 0, [some (.ref 44)], []) S (Qi Q)
    refine A_br (¬ (S.1 44 1) = (-1 : Int32)) (r1 := ((22, 12, [some (.ref 44)], []), S)) (r2 := ((22, 8, [some (.ref 44)], []), S)) 4 rfl (fun c => ?_) (fun c => ?_)
    · have h := h.1 c
      exact A_ret 2 (m := 22) (v := some (.int (0 : Int32))) (S' := S) rfl rfl ⟨_, rfl, h⟩
    · have h := h.2 c
      exact A_ret 3 (m := 22) (v := some (.int (1 : Int32))) (S' := S) rfl rfl ⟨_, rfl, h⟩
/-! X1_becomes, depth 1 -/
def w24 (k : Nat) (a : Int32) (b : Int32) (S : ri_H) (Q : ri_H → Prop) : Prop := Q (ri_wr (ri_wi (ri_wi S k 1 a) k 2 b) (k + 1) (fil 40 (0 : Int32) (S.1 (k + 1))))
set_option maxRecDepth 10000 in
set_option maxHeartbeats 1000000 in
theorem wt24 {E : ri_E} (k : Nat) (hw : k = 38 ∨ k = 40 ∨ k = 42 ∨ k = 44) (a : Int32) (b : Int32) {S : ri_H} {Q : ri_H → Prop} (h : w24 k a b S Q) : ri_A E 1 (ri_en 24 [.ref k, .int a, .int b]) S (Qv Q) := by
  rcases hw with rfl | rfl | rfl | rfl
  · unfold w24 at h
    show ri_A E 1 (24, 0, [some (.ref 38), some (.int a), some (.int b)], []) S (Qv Q)
    refine A_call (j := 100) (As := [.ref 39, .int (0 : Int32)]) (fr' := (24, 18, [some (.ref 38), some (.int a), some (.int b)], [])) (S' := (ri_wi (ri_wi S 38 1 a) 38 2 b)) 10 rfl (e := 0) (by omega) (sp_fill 39 40 _ ⟨by decide, by decide, rfl⟩ (by decide) ?_)
    exact A_ret 1 (m := 24) (v := none) (S' := (ri_wr (ri_wi (ri_wi S 38 1 a) 38 2 b) 39 (fil 40 (0 : Int32) (S.1 39)))) rfl rfl ⟨rfl, h⟩
  · unfold w24 at h
    show ri_A E 1 (24, 0, [some (.ref 40), some (.int a), some (.int b)], []) S (Qv Q)
    refine A_call (j := 100) (As := [.ref 41, .int (0 : Int32)]) (fr' := (24, 18, [some (.ref 40), some (.int a), some (.int b)], [])) (S' := (ri_wi (ri_wi S 40 1 a) 40 2 b)) 10 rfl (e := 0) (by omega) (sp_fill 41 40 _ ⟨by decide, by decide, rfl⟩ (by decide) ?_)
    exact A_ret 1 (m := 24) (v := none) (S' := (ri_wr (ri_wi (ri_wi S 40 1 a) 40 2 b) 41 (fil 40 (0 : Int32) (S.1 41)))) rfl rfl ⟨rfl, h⟩
  · unfold w24 at h
    show ri_A E 1 (24, 0, [some (.ref 42), some (.int a), some (.int b)], []) S (Qv Q)
    refine A_call (j := 100) (As := [.ref 43, .int (0 : Int32)]) (fr' := (24, 18, [some (.ref 42), some (.int a), some (.int b)], [])) (S' := (ri_wi (ri_wi S 42 1 a) 42 2 b)) 10 rfl (e := 0) (by omega) (sp_fill 43 40 _ ⟨by decide, by decide, rfl⟩ (by decide) ?_)
    exact A_ret 1 (m := 24) (v := none) (S' := (ri_wr (ri_wi (ri_wi S 42 1 a) 42 2 b) 43 (fil 40 (0 : Int32) (S.1 43)))) rfl rfl ⟨rfl, h⟩
  · unfold w24 at h
    show ri_A E 1 (24, 0, [some (.ref 44), some (.int a), some (.int b)], []) S (Qv Q)
    refine A_call (j := 100) (As := [.ref 45, .int (0 : Int32)]) (fr' := (24, 18, [some (.ref 44), some (.int a), some (.int b)], [])) (S' := (ri_wi (ri_wi S 44 1 a) 44 2 b)) 10 rfl (e := 0) (by omega) (sp_fill 45 40 _ ⟨by decide, by decide, rfl⟩ (by decide) ?_)
    exact A_ret 1 (m := 24) (v := none) (S' := (ri_wr (ri_wi (ri_wi S 44 1 a) 44 2 b) 45 (fil 40 (0 : Int32) (S.1 45)))) rfl rfl ⟨rfl, h⟩
/-! X1_lay, depth 1 -/
def w25_b31 (k : Nat) (Q : ri_H → Prop) (s0 : Int32) (s1 : Int32) (S : ri_H) : Prop := Q (ri_wr S (k + 1) (pu 40 (S.1 (k + 1)) s1 s0))
set_option maxRecDepth 10000 in
set_option maxHeartbeats 1000000 in
theorem wt25_b31 {E : ri_E} (k : Nat) (hw : k = 38 ∨ k = 40 ∨ k = 42 ∨ k = 44) {Q : ri_H → Prop} (s0 : Int32) (s1 : Int32) (S : ri_H) (h : w25_b31 k  Q s0 s1 S) : ri_A E 1 (25, 31, [none, none, none], [.int s0, .int s1, .ref (k + 1)]) S (Qv Q) := by
  rcases hw with rfl | rfl | rfl | rfl
  · unfold w25_b31 at h
    refine A_call (j := 99) (As := [.ref 39, .int s1, .int s0]) (fr' := (25, 34, [none, none, none], [])) (S' := S) 1 rfl (e := 0) (by omega) (sp_putItem 39 40 _ _ ⟨by decide, by decide, rfl⟩ (by decide) ?_)
    exact A_ret 1 (m := 25) (v := none) (S' := (ri_wr S 39 (pu 40 (S.1 39) s1 s0))) rfl rfl ⟨rfl, h⟩
  · unfold w25_b31 at h
    refine A_call (j := 99) (As := [.ref 41, .int s1, .int s0]) (fr' := (25, 34, [none, none, none], [])) (S' := S) 1 rfl (e := 0) (by omega) (sp_putItem 41 40 _ _ ⟨by decide, by decide, rfl⟩ (by decide) ?_)
    exact A_ret 1 (m := 25) (v := none) (S' := (ri_wr S 41 (pu 40 (S.1 41) s1 s0))) rfl rfl ⟨rfl, h⟩
  · unfold w25_b31 at h
    refine A_call (j := 99) (As := [.ref 43, .int s1, .int s0]) (fr' := (25, 34, [none, none, none], [])) (S' := S) 1 rfl (e := 0) (by omega) (sp_putItem 43 40 _ _ ⟨by decide, by decide, rfl⟩ (by decide) ?_)
    exact A_ret 1 (m := 25) (v := none) (S' := (ri_wr S 43 (pu 40 (S.1 43) s1 s0))) rfl rfl ⟨rfl, h⟩
  · unfold w25_b31 at h
    refine A_call (j := 99) (As := [.ref 45, .int s1, .int s0]) (fr' := (25, 34, [none, none, none], [])) (S' := S) 1 rfl (e := 0) (by omega) (sp_putItem 45 40 _ _ ⟨by decide, by decide, rfl⟩ (by decide) ?_)
    exact A_ret 1 (m := 25) (v := none) (S' := (ri_wr S 45 (pu 40 (S.1 45) s1 s0))) rfl rfl ⟨rfl, h⟩
def w25 (k : Nat) (a : Int32) (b : Int32) (S : ri_H) (Q : ri_H → Prop) : Prop := ((¬ (S.1 k 1) = 0 → ((¬ (S.1 k 1) = (1 : Int32) → w25_b31 k  Q b a S) ∧ (¬ (¬ (S.1 k 1) = (1 : Int32)) → w25_b31 k  Q (b).toInt16.toInt32 a S))) ∧ (¬ (¬ (S.1 k 1) = 0) → w25_b31 k  Q (b).toInt8.toInt32 a S))
set_option maxRecDepth 10000 in
set_option maxHeartbeats 1000000 in
theorem wt25 {E : ri_E} (k : Nat) (hw : k = 38 ∨ k = 40 ∨ k = 42 ∨ k = 44) (a : Int32) (b : Int32) {S : ri_H} {Q : ri_H → Prop} (h : w25 k a b S Q) : ri_A E 1 (ri_en 25 [.ref k, .int a, .int b]) S (Qv Q) := by
  rcases hw with rfl | rfl | rfl | rfl
  · unfold w25 at h
    show ri_A E 1 (25, 0, [some (.ref 38), some (.int a), some (.int b)], []) S (Qv Q)
    refine A_br (¬ (S.1 38 1) = 0) (r1 := ((25, 17, [some (.ref 38), some (.int a), some (.int b)], [.int a, .ref 39]), S)) (r2 := ((25, 12, [some (.ref 38), some (.int a), some (.int b)], [.int a, .ref 39]), S)) 6 rfl (fun c => ?_) (fun c => ?_)
    · have h := h.1 c
      refine A_br (¬ (S.1 38 1) = (1 : Int32)) (r1 := ((25, 30, [some (.ref 38), some (.int a), some (.int b)], [.int a, .ref 39]), S)) (r2 := ((25, 25, [some (.ref 38), some (.int a), some (.int b)], [.int a, .ref 39]), S)) 4 rfl (fun c => ?_) (fun c => ?_)
      · have h := h.1 c
        refine A_nx 1 (fr' := (25, 31, [some (.ref 38), some (.int a), some (.int b)], [.int b, .int a, .ref 39])) (S' := S) rfl ?_
        refine ri_A.less (m := 25) (pc := 31) (L := [some (.ref 38), some (.int a), some (.int b)]) (L' := [none, none, none]) (st := [.int b, .int a, .ref 39]) trivial ?_
        exact wt25_b31 38 (by decide)  _ _ _ h
      · have h := h.2 c
        refine A_nx 3 (fr' := (25, 31, [some (.ref 38), some (.int a), some (.int b)], [.int (b).toInt16.toInt32, .int a, .ref 39])) (S' := S) rfl ?_
        refine ri_A.less (m := 25) (pc := 31) (L := [some (.ref 38), some (.int a), some (.int b)]) (L' := [none, none, none]) (st := [.int (b).toInt16.toInt32, .int a, .ref 39]) trivial ?_
        exact wt25_b31 38 (by decide)  _ _ _ h
    · have h := h.2 c
      refine A_nx 3 (fr' := (25, 31, [some (.ref 38), some (.int a), some (.int b)], [.int (b).toInt8.toInt32, .int a, .ref 39])) (S' := S) rfl ?_
      refine ri_A.less (m := 25) (pc := 31) (L := [some (.ref 38), some (.int a), some (.int b)]) (L' := [none, none, none]) (st := [.int (b).toInt8.toInt32, .int a, .ref 39]) trivial ?_
      exact wt25_b31 38 (by decide)  _ _ _ h
  · unfold w25 at h
    show ri_A E 1 (25, 0, [some (.ref 40), some (.int a), some (.int b)], []) S (Qv Q)
    refine A_br (¬ (S.1 40 1) = 0) (r1 := ((25, 17, [some (.ref 40), some (.int a), some (.int b)], [.int a, .ref 41]), S)) (r2 := ((25, 12, [some (.ref 40), some (.int a), some (.int b)], [.int a, .ref 41]), S)) 6 rfl (fun c => ?_) (fun c => ?_)
    · have h := h.1 c
      refine A_br (¬ (S.1 40 1) = (1 : Int32)) (r1 := ((25, 30, [some (.ref 40), some (.int a), some (.int b)], [.int a, .ref 41]), S)) (r2 := ((25, 25, [some (.ref 40), some (.int a), some (.int b)], [.int a, .ref 41]), S)) 4 rfl (fun c => ?_) (fun c => ?_)
      · have h := h.1 c
        refine A_nx 1 (fr' := (25, 31, [some (.ref 40), some (.int a), some (.int b)], [.int b, .int a, .ref 41])) (S' := S) rfl ?_
        refine ri_A.less (m := 25) (pc := 31) (L := [some (.ref 40), some (.int a), some (.int b)]) (L' := [none, none, none]) (st := [.int b, .int a, .ref 41]) trivial ?_
        exact wt25_b31 40 (by decide)  _ _ _ h
      · have h := h.2 c
        refine A_nx 3 (fr' := (25, 31, [some (.ref 40), some (.int a), some (.int b)], [.int (b).toInt16.toInt32, .int a, .ref 41])) (S' := S) rfl ?_
        refine ri_A.less (m := 25) (pc := 31) (L := [some (.ref 40), some (.int a), some (.int b)]) (L' := [none, none, none]) (st := [.int (b).toInt16.toInt32, .int a, .ref 41]) trivial ?_
        exact wt25_b31 40 (by decide)  _ _ _ h
    · have h := h.2 c
      refine A_nx 3 (fr' := (25, 31, [some (.ref 40), some (.int a), some (.int b)], [.int (b).toInt8.toInt32, .int a, .ref 41])) (S' := S) rfl ?_
      refine ri_A.less (m := 25) (pc := 31) (L := [some (.ref 40), some (.int a), some (.int b)]) (L' := [none, none, none]) (st := [.int (b).toInt8.toInt32, .int a, .ref 41]) trivial ?_
      exact wt25_b31 40 (by decide)  _ _ _ h
  · unfold w25 at h
    show ri_A E 1 (25, 0, [some (.ref 42), some (.int a), some (.int b)], []) S (Qv Q)
    refine A_br (¬ (S.1 42 1) = 0) (r1 := ((25, 17, [some (.ref 42), some (.int a), some (.int b)], [.int a, .ref 43]), S)) (r2 := ((25, 12, [some (.ref 42), some (.int a), some (.int b)], [.int a, .ref 43]), S)) 6 rfl (fun c => ?_) (fun c => ?_)
    · have h := h.1 c
      refine A_br (¬ (S.1 42 1) = (1 : Int32)) (r1 := ((25, 30, [some (.ref 42), some (.int a), some (.int b)], [.int a, .ref 43]), S)) (r2 := ((25, 25, [some (.ref 42), some (.int a), some (.int b)], [.int a, .ref 43]), S)) 4 rfl (fun c => ?_) (fun c => ?_)
      · have h := h.1 c
        refine A_nx 1 (fr' := (25, 31, [some (.ref 42), some (.int a), some (.int b)], [.int b, .int a, .ref 43])) (S' := S) rfl ?_
        refine ri_A.less (m := 25) (pc := 31) (L := [some (.ref 42), some (.int a), some (.int b)]) (L' := [none, none, none]) (st := [.int b, .int a, .ref 43]) trivial ?_
        exact wt25_b31 42 (by decide)  _ _ _ h
      · have h := h.2 c
        refine A_nx 3 (fr' := (25, 31, [some (.ref 42), some (.int a), some (.int b)], [.int (b).toInt16.toInt32, .int a, .ref 43])) (S' := S) rfl ?_
        refine ri_A.less (m := 25) (pc := 31) (L := [some (.ref 42), some (.int a), some (.int b)]) (L' := [none, none, none]) (st := [.int (b).toInt16.toInt32, .int a, .ref 43]) trivial ?_
        exact wt25_b31 42 (by decide)  _ _ _ h
    · have h := h.2 c
      refine A_nx 3 (fr' := (25, 31, [some (.ref 42), some (.int a), some (.int b)], [.int (b).toInt8.toInt32, .int a, .ref 43])) (S' := S) rfl ?_
      refine ri_A.less (m := 25) (pc := 31) (L := [some (.ref 42), some (.int a), some (.int b)]) (L' := [none, none, none]) (st := [.int (b).toInt8.toInt32, .int a, .ref 43]) trivial ?_
      exact wt25_b31 42 (by decide)  _ _ _ h
  · unfold w25 at h
    show ri_A E 1 (25, 0, [some (.ref 44), some (.int a), some (.int b)], []) S (Qv Q)
    refine A_br (¬ (S.1 44 1) = 0) (r1 := ((25, 17, [some (.ref 44), some (.int a), some (.int b)], [.int a, .ref 45]), S)) (r2 := ((25, 12, [some (.ref 44), some (.int a), some (.int b)], [.int a, .ref 45]), S)) 6 rfl (fun c => ?_) (fun c => ?_)
    · have h := h.1 c
      refine A_br (¬ (S.1 44 1) = (1 : Int32)) (r1 := ((25, 30, [some (.ref 44), some (.int a), some (.int b)], [.int a, .ref 45]), S)) (r2 := ((25, 25, [some (.ref 44), some (.int a), some (.int b)], [.int a, .ref 45]), S)) 4 rfl (fun c => ?_) (fun c => ?_)
      · have h := h.1 c
        refine A_nx 1 (fr' := (25, 31, [some (.ref 44), some (.int a), some (.int b)], [.int b, .int a, .ref 45])) (S' := S) rfl ?_
        refine ri_A.less (m := 25) (pc := 31) (L := [some (.ref 44), some (.int a), some (.int b)]) (L' := [none, none, none]) (st := [.int b, .int a, .ref 45]) trivial ?_
        exact wt25_b31 44 (by decide)  _ _ _ h
      · have h := h.2 c
        refine A_nx 3 (fr' := (25, 31, [some (.ref 44), some (.int a), some (.int b)], [.int (b).toInt16.toInt32, .int a, .ref 45])) (S' := S) rfl ?_
        refine ri_A.less (m := 25) (pc := 31) (L := [some (.ref 44), some (.int a), some (.int b)]) (L' := [none, none, none]) (st := [.int (b).toInt16.toInt32, .int a, .ref 45]) trivial ?_
        exact wt25_b31 44 (by decide)  _ _ _ h
    · have h := h.2 c
      refine A_nx 3 (fr' := (25, 31, [some (.ref 44), some (.int a), some (.int b)], [.int (b).toInt8.toInt32, .int a, .ref 45])) (S' := S) rfl ?_
      refine ri_A.less (m := 25) (pc := 31) (L := [some (.ref 44), some (.int a), some (.int b)]) (L' := [none, none, none]) (st := [.int (b).toInt8.toInt32, .int a, .ref 45]) trivial ?_
      exact wt25_b31 44 (by decide)  _ _ _ h
/-! X3_has, depth 0 -/
def w34 (w : Nat) (a : Int32) (S : ri_H) (Q : Int32 → ri_H → Prop) : Prop := ((a < 0 → Q (0 : Int32) S) ∧ (¬ (a < 0) → (((S.1 w 9) ≤ a → Q (0 : Int32) S) ∧ (¬ (S.1 w 9) ≤ a → Q (1 : Int32) S))))
set_option maxRecDepth 10000 in
set_option maxHeartbeats 1000000 in
theorem wt34 {E : ri_E} (w : Nat) (hw : w = 10 ∨ w = 19) (a : Int32) {S : ri_H} {Q : Int32 → ri_H → Prop} (h : w34 w a S Q) : ri_A E 0 (ri_en 34 [.ref w, .int a]) S (Qi Q) := by
  rcases hw with rfl | rfl
  · unfold w34 at h
    show ri_A E 0 (34, 0, [some (.ref 10), some (.int a)], []) S (Qi Q)
    refine A_br (a < 0) (r1 := ((34, 16, [some (.ref 10), some (.int a)], []), S)) (r2 := ((34, 4, [some (.ref 10), some (.int a)], []), S)) 2 rfl (fun c => ?_) (fun c => ?_)
    · have h := h.1 c
      exact A_ret 2 (m := 34) (v := some (.int (0 : Int32))) (S' := S) rfl rfl ⟨_, rfl, h⟩
    · have h := h.2 c
      refine A_br ((S.1 10 9) ≤ a) (r1 := ((34, 16, [some (.ref 10), some (.int a)], []), S)) (r2 := ((34, 12, [some (.ref 10), some (.int a)], []), S)) 4 rfl (fun c => ?_) (fun c => ?_)
      · have h := h.1 c
        exact A_ret 2 (m := 34) (v := some (.int (0 : Int32))) (S' := S) rfl rfl ⟨_, rfl, h⟩
      · have h := h.2 c
        exact A_ret 3 (m := 34) (v := some (.int (1 : Int32))) (S' := S) rfl rfl ⟨_, rfl, h⟩
  · unfold w34 at h
    show ri_A E 0 (34, 0, [some (.ref 19), some (.int a)], []) S (Qi Q)
    refine A_br (a < 0) (r1 := ((34, 16, [some (.ref 19), some (.int a)], []), S)) (r2 := ((34, 4, [some (.ref 19), some (.int a)], []), S)) 2 rfl (fun c => ?_) (fun c => ?_)
    · have h := h.1 c
      exact A_ret 2 (m := 34) (v := some (.int (0 : Int32))) (S' := S) rfl rfl ⟨_, rfl, h⟩
    · have h := h.2 c
      refine A_br ((S.1 19 9) ≤ a) (r1 := ((34, 16, [some (.ref 19), some (.int a)], []), S)) (r2 := ((34, 12, [some (.ref 19), some (.int a)], []), S)) 4 rfl (fun c => ?_) (fun c => ?_)
      · have h := h.1 c
        exact A_ret 2 (m := 34) (v := some (.int (0 : Int32))) (S' := S) rfl rfl ⟨_, rfl, h⟩
      · have h := h.2 c
        exact A_ret 3 (m := 34) (v := some (.int (1 : Int32))) (S' := S) rfl rfl ⟨_, rfl, h⟩
theorem sp_has {E : ri_E} {S : ri_H} {Q : Option Value → ri_H → Prop} (w : Nat) (hw : w = 10 ∨ w = 19) (a : Int32) (h : Q (some (.int (wi a (S.1 w 9)))) S) : ri_A E 0 (ri_en 34 [.ref w, .int a]) S Q := by
  refine A_imp (wt34 w hw a (Q := fun r S1 => r = wi a (S.1 w 9) ∧ S1 = S) ?_) (fun v S1 hv => ?_)
  · unfold w34 wi
    refine ⟨fun c => ?_, fun c => ?_⟩
    · rw [if_pos c]; exact ⟨rfl, rfl⟩
    · rw [if_neg c]
      refine ⟨fun c2 => ?_, fun c2 => ?_⟩
      · rw [if_pos c2]; exact ⟨rfl, rfl⟩
      · rw [if_neg c2]; exact ⟨rfl, rfl⟩
  · obtain ⟨r, rfl, rfl, rfl⟩ := hv
    exact h
/-! X2_begin, depth 1 -/
def w27  (S : ri_H) (Q : ri_H → Prop) : Prop := Q (ri_wr (ri_wi S 1 4 ((S.1 1 3) * (160 : Int32))) 3 (pu 24 (S.1 3) ((S.1 1 3) * (4 : Int32)) ((S.1 1 3) * (160 : Int32))))
set_option maxRecDepth 10000 in
set_option maxHeartbeats 1000000 in
theorem wt27 {E : ri_E}  {S : ri_H} {Q : ri_H → Prop} (h : w27   S Q) : ri_A E 1 (ri_en 27 [.ref 1]) S (Qv Q) := by
  unfold w27 at h
  show ri_A E 1 (27, 0, [some (.ref 1)], []) S (Qv Q)
  refine A_call (j := 99) (As := [.ref 3, .int ((S.1 1 3) * (4 : Int32)), .int ((S.1 1 3) * (160 : Int32))]) (fr' := (27, 29, [some (.ref 1)], [])) (S' := (ri_wi S 1 4 ((S.1 1 3) * (160 : Int32)))) 15 rfl (e := 0) (by omega) (sp_putItem 3 24 _ _ ⟨by decide, by decide, rfl⟩ (by decide) ?_)
  exact A_ret 1 (m := 27) (v := none) (S' := (ri_wr (ri_wi S 1 4 ((S.1 1 3) * (160 : Int32))) 3 (pu 24 (S.1 3) ((S.1 1 3) * (4 : Int32)) ((S.1 1 3) * (160 : Int32))))) rfl rfl ⟨rfl, h⟩
/-! X2_write, depth 1 -/
def w28 (a : Int32) (S : ri_H) (Q : ri_H → Prop) : Prop := Q (ri_wi (ri_wr S 2 (pu 960 (S.1 2) (S.1 1 4) a)) 1 4 ((S.1 1 4) + (1 : Int32)))
set_option maxRecDepth 10000 in
set_option maxHeartbeats 1000000 in
theorem wt28 {E : ri_E} (a : Int32) {S : ri_H} {Q : ri_H → Prop} (h : w28  a S Q) : ri_A E 1 (ri_en 28 [.ref 1, .int a]) S (Qv Q) := by
  unfold w28 at h
  show ri_A E 1 (28, 0, [some (.ref 1), some (.int a)], []) S (Qv Q)
  refine A_call (j := 99) (As := [.ref 2, .int (S.1 1 4), .int a]) (fr' := (28, 12, [some (.ref 1), some (.int a)], [])) (S' := S) 6 rfl (e := 0) (by omega) (sp_putItem 2 960 _ _ ⟨by decide, by decide, rfl⟩ (by decide) ?_)
  exact A_ret 7 (m := 28) (v := none) (S' := (ri_wi (ri_wr S 2 (pu 960 (S.1 2) (S.1 1 4) a)) 1 4 ((S.1 1 4) + (1 : Int32)))) rfl rfl ⟨rfl, h⟩
/-! X2_endPart, depth 1 -/
def w29 (a : Int32) (S : ri_H) (Q : ri_H → Prop) : Prop := Q (ri_wr S 3 (pu 24 (S.1 3) ((((S.1 1 3) * (4 : Int32)) + a) + (1 : Int32)) (S.1 1 4)))
set_option maxRecDepth 10000 in
set_option maxHeartbeats 1000000 in
theorem wt29 {E : ri_E} (a : Int32) {S : ri_H} {Q : ri_H → Prop} (h : w29  a S Q) : ri_A E 1 (ri_en 29 [.ref 1, .int a]) S (Qv Q) := by
  unfold w29 at h
  show ri_A E 1 (29, 0, [some (.ref 1), some (.int a)], []) S (Qv Q)
  refine A_call (j := 99) (As := [.ref 3, .int ((((S.1 1 3) * (4 : Int32)) + a) + (1 : Int32)), .int (S.1 1 4)]) (fr' := (29, 21, [some (.ref 1), some (.int a)], [])) (S' := S) 13 rfl (e := 0) (by omega) (sp_putItem 3 24 _ _ ⟨by decide, by decide, rfl⟩ (by decide) ?_)
  exact A_ret 1 (m := 29) (v := none) (S' := (ri_wr S 3 (pu 24 (S.1 3) ((((S.1 1 3) * (4 : Int32)) + a) + (1 : Int32)) (S.1 1 4)))) rfl rfl ⟨rfl, h⟩
/-! X2_hasStep, depth 1 -/
def w31_l28 (Q : Int32 → ri_H → Prop) : Nat → Int32 → Int32 → Int32 → ri_H → Prop
  | 0, _, _, _, _ => False
  | n + 1, x2, x4, x5, S => ((x5 < 0 → Q (0 : Int32) S) ∧ (¬ (x5 < 0) → ((x4 ≤ x5 → Q (0 : Int32) S) ∧ (¬ (x4 ≤ x5) → (((960 : Int32) ≤ x5 → Q (0 : Int32) S) ∧ (¬ (960 : Int32) ≤ x5 → (vp_in x5 960 ∧ ((¬ (S.1 2 (x5).toNatClampNeg) = x2 → w31_l28   Q n x2 x4 (x5 + (1 : Int32)) S) ∧ (¬ (¬ (S.1 2 (x5).toNatClampNeg) = x2) → Q (1 : Int32) S)))))))))
set_option maxRecDepth 10000 in
set_option maxHeartbeats 1000000 in
theorem wt31_l28 {E : ri_E} {Q : Int32 → ri_H → Prop} : ∀ (n : Nat) (x2 : Int32) (x4 : Int32) (x5 : Int32) (S : ri_H), w31_l28   Q n x2 x4 x5 S → ri_A E 1 (31, 28, [some (.ref 1), none, some (.int x2), none, some (.int x4), some (.int x5)], []) S (Qi Q) := by
  intro n
  induction n with
  | zero => intro x2 x4 x5 S h; exact h.elim
  | succ n ih =>
    intro x2 x4 x5 S h
    unfold w31_l28 at h
    refine A_br (x5 < 0) (r1 := ((31, 69, [some (.ref 1), none, some (.int x2), none, some (.int x4), some (.int x5)], []), S)) (r2 := ((31, 33, [some (.ref 1), none, some (.int x2), none, some (.int x4), some (.int x5)], []), S)) 2 rfl (fun c => ?_) (fun c => ?_)
    · have h := h.1 c
      exact A_ret 2 (m := 31) (v := some (.int (0 : Int32))) (S' := S) rfl rfl ⟨_, rfl, h⟩
    · have h := h.2 c
      refine A_br (x4 ≤ x5) (r1 := ((31, 69, [some (.ref 1), none, some (.int x2), none, some (.int x4), some (.int x5)], []), S)) (r2 := ((31, 40, [some (.ref 1), none, some (.int x2), none, some (.int x4), some (.int x5)], []), S)) 3 rfl (fun c => ?_) (fun c => ?_)
      · have h := h.1 c
        exact A_ret 2 (m := 31) (v := some (.int (0 : Int32))) (S' := S) rfl rfl ⟨_, rfl, h⟩
      · have h := h.2 c
        refine A_br ((960 : Int32) ≤ x5) (r1 := ((31, 69, [some (.ref 1), none, some (.int x2), none, some (.int x4), some (.int x5)], []), S)) (r2 := ((31, 50, [some (.ref 1), none, some (.int x2), none, some (.int x4), some (.int x5)], []), S)) 5 rfl (fun c => ?_) (fun c => ?_)
        · have h := h.1 c
          exact A_ret 2 (m := 31) (v := some (.int (0 : Int32))) (S' := S) rfl rfl ⟨_, rfl, h⟩
        · have h := h.2 c
          refine A_ix x5 960 (r1 := ((31, 57, [some (.ref 1), none, some (.int x2), none, some (.int x4), some (.int x5)], [.int (S.1 2 (x5).toNatClampNeg)]), S)) 4 rfl h.1 ?_
          have h := h.2
          refine A_br (¬ (S.1 2 (x5).toNatClampNeg) = x2) (r1 := ((31, 63, [some (.ref 1), none, some (.int x2), none, some (.int x4), some (.int x5)], []), S)) (r2 := ((31, 61, [some (.ref 1), none, some (.int x2), none, some (.int x4), some (.int x5)], []), S)) 2 rfl (fun c => ?_) (fun c => ?_)
          · have h := h.1 c
            refine A_nx 2 (fr' := (31, 28, [some (.ref 1), none, some (.int x2), none, some (.int x4), some (.int (x5 + (1 : Int32)))], [])) (S' := S) rfl ?_
            refine ri_A.less (m := 31) (pc := 28) (L := [some (.ref 1), none, some (.int x2), none, some (.int x4), some (.int (x5 + (1 : Int32)))]) (L' := [some (.ref 1), none, some (.int x2), none, some (.int x4), some (.int (x5 + (1 : Int32)))]) (st := []) ⟨rfl, ⟨rfl, ⟨rfl, ⟨rfl, trivial⟩⟩⟩⟩ ?_
            exact ih _ _ _ _ h
          · have h := h.2 c
            exact A_ret 2 (m := 31) (v := some (.int (1 : Int32))) (S' := S) rfl rfl ⟨_, rfl, h⟩
def w31 (a : Int32) (b : Int32) (S : ri_H) (Q : Int32 → ri_H → Prop) : Prop := ∃ nn, w31_l28   Q nn b (it (S.1 3) 24 ((a * (4 : Int32)) + (2 : Int32))) (it (S.1 3) 24 (a * (4 : Int32))) S
set_option maxRecDepth 10000 in
set_option maxHeartbeats 1000000 in
theorem wt31 {E : ri_E} (a : Int32) (b : Int32) {S : ri_H} {Q : Int32 → ri_H → Prop} (h : w31  a b S Q) : ri_A E 1 (ri_en 31 [.ref 1, .int a, .int b]) S (Qi Q) := by
  unfold w31 at h
  show ri_A E 1 (31, 0, [some (.ref 1), some (.int a), some (.int b), none, none, none], []) S (Qi Q)
  refine A_call (j := 98) (As := [.ref 3, .int (a * (4 : Int32))]) (fr' := (31, 10, [some (.ref 1), some (.int a), some (.int b), none, none, none], [])) (S' := S) 6 rfl (e := 0) (by omega) (sp_item 3 24 _ ⟨by decide, by decide, rfl⟩ (by decide) ?_)
  refine A_call (j := 98) (As := [.ref 3, .int ((a * (4 : Int32)) + (2 : Int32))]) (fr' := (31, 23, [some (.ref 1), some (.int a), some (.int b), some (.int (it (S.1 3) 24 (a * (4 : Int32)))), none, none], [])) (S' := S) 9 rfl (e := 0) (by omega) (sp_item 3 24 _ ⟨by decide, by decide, rfl⟩ (by decide) ?_)
  refine A_nx 3 (fr' := (31, 28, [some (.ref 1), some (.int a), some (.int b), some (.int (it (S.1 3) 24 (a * (4 : Int32)))), some (.int (it (S.1 3) 24 ((a * (4 : Int32)) + (2 : Int32)))), some (.int (it (S.1 3) 24 (a * (4 : Int32))))], [])) (S' := S) rfl ?_
  refine ri_A.less (m := 31) (pc := 28) (L := [some (.ref 1), some (.int a), some (.int b), some (.int (it (S.1 3) 24 (a * (4 : Int32)))), some (.int (it (S.1 3) 24 ((a * (4 : Int32)) + (2 : Int32)))), some (.int (it (S.1 3) 24 (a * (4 : Int32))))]) (L' := [some (.ref 1), none, some (.int b), none, some (.int (it (S.1 3) 24 ((a * (4 : Int32)) + (2 : Int32)))), some (.int (it (S.1 3) 24 (a * (4 : Int32))))]) (st := []) ⟨rfl, ⟨rfl, ⟨rfl, ⟨rfl, trivial⟩⟩⟩⟩ ?_
  obtain ⟨nn, h⟩ := h
  exact wt31_l28   nn _ _ _ _ h
/-! X2_joined, depth 0 -/
def w32_b48 (Q : Int32 → ri_H → Prop)  (S : ri_H) : Prop := Q (1 : Int32) S
set_option maxRecDepth 10000 in
set_option maxHeartbeats 1000000 in
theorem wt32_b48 {E : ri_E} {Q : Int32 → ri_H → Prop}  (S : ri_H) (h : w32_b48   Q  S) : ri_A E 0 (32, 48, [none, none, none], []) S (Qi Q) := by
  unfold w32_b48 at h
  exact A_ret 3 (m := 32) (v := some (.int (1 : Int32))) (S' := S) rfl rfl ⟨_, rfl, h⟩
def w32 (a : Int32) (b : Int32) (g : Int32) (S : ri_H) (Q : Int32 → ri_H → Prop) : Prop := (((a < (-14 : Int32) ∨ (-9 : Int32) < a) → Q (b * g) S) ∧ (a = (-14 : Int32) → Q (b - g) S) ∧ (a = (-13 : Int32) → Q (b + g) S) ∧ (a = (-12 : Int32) → ((¬ b = g → Q (0 : Int32) S) ∧ (¬ (¬ b = g) → Q (1 : Int32) S))) ∧ (a = (-11 : Int32) → ((g ≤ b → Q (0 : Int32) S) ∧ (¬ (g ≤ b) → Q (1 : Int32) S))) ∧ (a = (-10 : Int32) → ((b = 0 → Q (0 : Int32) S) ∧ (¬ (b = 0) → ((g = 0 → Q (0 : Int32) S) ∧ (¬ (g = 0) → Q (1 : Int32) S))))) ∧ (a = (-9 : Int32) → ((¬ b = 0 → w32_b48   Q  S) ∧ (¬ (¬ b = 0) → ((g = 0 → Q (0 : Int32) S) ∧ (¬ (g = 0) → w32_b48   Q  S))))))
set_option maxRecDepth 10000 in
set_option maxHeartbeats 1000000 in
theorem wt32 {E : ri_E} (a : Int32) (b : Int32) (g : Int32) {S : ri_H} {Q : Int32 → ri_H → Prop} (h : w32  a b g S Q) : ri_A E 0 (ri_en 32 [.int a, .int b, .int g]) S (Qi Q) := by
  unfold w32 at h
  show ri_A E 0 (32, 0, [some (.int a), some (.int b), some (.int g)], []) S (Qi Q)
  refine A_nx 2 (fr' := (32, ri_tgt 1 (97) (-14) (-9) [93, 89, 78, 67, 53, 39] a, [some (.int a), some (.int b), some (.int g)], [])) (S' := S) rfl ?_
  rcases ri_swc a (-14) 6 (by decide) (by decide) with c | ⟨i, hi, c⟩
  · have c : a < Int32.ofInt (-14) ∨ Int32.ofInt (-9) < a := c
    have h := h.1 c
    rw [ri_tgt_out a c (by decide) (by decide)]
    exact A_ret 4 (m := 32) (v := some (.int (b * g))) (S' := S) rfl rfl ⟨_, rfl, h⟩
  · have h := h.2
    match i, hi, c with
    | 0, hi, c =>
      have c : a = (-14 : Int32) := c
      have h := h.1 c
      rw [show ri_tgt 1 (97) (-14) (-9) [93, 89, 78, 67, 53, 39] a = 94 by rw [c]; decide]
      exact A_ret 4 (m := 32) (v := some (.int (b - g))) (S' := S) rfl rfl ⟨_, rfl, h⟩
    | 1, hi, c =>
      have c : a = (-13 : Int32) := c
      have h := h.2.1 c
      rw [show ri_tgt 1 (97) (-14) (-9) [93, 89, 78, 67, 53, 39] a = 90 by rw [c]; decide]
      exact A_ret 4 (m := 32) (v := some (.int (b + g))) (S' := S) rfl rfl ⟨_, rfl, h⟩
    | 2, hi, c =>
      have c : a = (-12 : Int32) := c
      have h := h.2.2.1 c
      rw [show ri_tgt 1 (97) (-14) (-9) [93, 89, 78, 67, 53, 39] a = 79 by rw [c]; decide]
      refine A_br (¬ b = g) (r1 := ((32, 88, [some (.int a), some (.int b), some (.int g)], []), S)) (r2 := ((32, 84, [some (.int a), some (.int b), some (.int g)], []), S)) 3 rfl (fun c => ?_) (fun c => ?_)
      · have h := h.1 c
        exact A_ret 2 (m := 32) (v := some (.int (0 : Int32))) (S' := S) rfl rfl ⟨_, rfl, h⟩
      · have h := h.2 c
        exact A_ret 3 (m := 32) (v := some (.int (1 : Int32))) (S' := S) rfl rfl ⟨_, rfl, h⟩
    | 3, hi, c =>
      have c : a = (-11 : Int32) := c
      have h := h.2.2.2.1 c
      rw [show ri_tgt 1 (97) (-14) (-9) [93, 89, 78, 67, 53, 39] a = 68 by rw [c]; decide]
      refine A_br (g ≤ b) (r1 := ((32, 77, [some (.int a), some (.int b), some (.int g)], []), S)) (r2 := ((32, 73, [some (.int a), some (.int b), some (.int g)], []), S)) 3 rfl (fun c => ?_) (fun c => ?_)
      · have h := h.1 c
        exact A_ret 2 (m := 32) (v := some (.int (0 : Int32))) (S' := S) rfl rfl ⟨_, rfl, h⟩
      · have h := h.2 c
        exact A_ret 3 (m := 32) (v := some (.int (1 : Int32))) (S' := S) rfl rfl ⟨_, rfl, h⟩
    | 4, hi, c =>
      have c : a = (-10 : Int32) := c
      have h := h.2.2.2.2.1 c
      rw [show ri_tgt 1 (97) (-14) (-9) [93, 89, 78, 67, 53, 39] a = 54 by rw [c]; decide]
      refine A_br (b = 0) (r1 := ((32, 66, [some (.int a), some (.int b), some (.int g)], []), S)) (r2 := ((32, 58, [some (.int a), some (.int b), some (.int g)], []), S)) 2 rfl (fun c => ?_) (fun c => ?_)
      · have h := h.1 c
        exact A_ret 2 (m := 32) (v := some (.int (0 : Int32))) (S' := S) rfl rfl ⟨_, rfl, h⟩
      · have h := h.2 c
        refine A_br (g = 0) (r1 := ((32, 66, [some (.int a), some (.int b), some (.int g)], []), S)) (r2 := ((32, 62, [some (.int a), some (.int b), some (.int g)], []), S)) 2 rfl (fun c => ?_) (fun c => ?_)
        · have h := h.1 c
          exact A_ret 2 (m := 32) (v := some (.int (0 : Int32))) (S' := S) rfl rfl ⟨_, rfl, h⟩
        · have h := h.2 c
          exact A_ret 3 (m := 32) (v := some (.int (1 : Int32))) (S' := S) rfl rfl ⟨_, rfl, h⟩
    | 5, hi, c =>
      have c : a = (-9 : Int32) := c
      have h := h.2.2.2.2.2 c
      rw [show ri_tgt 1 (97) (-14) (-9) [93, 89, 78, 67, 53, 39] a = 40 by rw [c]; decide]
      refine A_br (¬ b = 0) (r1 := ((32, 48, [some (.int a), some (.int b), some (.int g)], []), S)) (r2 := ((32, 44, [some (.int a), some (.int b), some (.int g)], []), S)) 2 rfl (fun c => ?_) (fun c => ?_)
      · have h := h.1 c
        refine ri_A.less (m := 32) (pc := 48) (L := [some (.int a), some (.int b), some (.int g)]) (L' := [none, none, none]) (st := []) trivial ?_
        exact wt32_b48   _ h
      · have h := h.2 c
        refine A_br (g = 0) (r1 := ((32, 52, [some (.int a), some (.int b), some (.int g)], []), S)) (r2 := ((32, 48, [some (.int a), some (.int b), some (.int g)], []), S)) 2 rfl (fun c => ?_) (fun c => ?_)
        · have h := h.1 c
          exact A_ret 2 (m := 32) (v := some (.int (0 : Int32))) (S' := S) rfl rfl ⟨_, rfl, h⟩
        · have h := h.2 c
          refine ri_A.less (m := 32) (pc := 48) (L := [some (.int a), some (.int b), some (.int g)]) (L' := [none, none, none]) (st := []) trivial ?_
          exact wt32_b48   _ h
    | i + 6, hi, c => exact absurd hi (by omega)
