/-! take and readText over the 50 cells -/
-- 19.leaf
set_option maxRecDepth 10000 in
set_option maxHeartbeats 1000000 in
theorem j_wt95 {E : ri_E} (i : Int32) (n : Int32) {S : ri_H} {Q : Int32 → ri_H → Prop} (h : w95  i n S Q) : j_ri_A E 0 (ri_en 95 [.int i, .int n]) S (Qi Q) := by
  unfold w95 at h
  show j_ri_A E 0 (95, 0, [some (.int i), some (.int n)], []) S (Qi Q)
  refine j_A_br (i < 0) (r1 := ((95, 13, [some (.int i), some (.int n)], []), S)) (r2 := ((95, 4, [some (.int i), some (.int n)], []), S)) 2 rfl (fun c => ?_) (fun c => ?_)
  · have h := h.1 c
    exact j_A_ret 2 (m := 95) (v := some (.int (0 : Int32))) (S' := S) rfl rfl ⟨_, rfl, h⟩
  · have h := h.2 c
    refine j_A_br (n ≤ i) (r1 := ((95, 13, [some (.int i), some (.int n)], []), S)) (r2 := ((95, 9, [some (.int i), some (.int n)], []), S)) 3 rfl (fun c => ?_) (fun c => ?_)
    · have h := h.1 c
      exact j_A_ret 2 (m := 95) (v := some (.int (0 : Int32))) (S' := S) rfl rfl ⟨_, rfl, h⟩
    · have h := h.2 c
      exact j_A_ret 3 (m := 95) (v := some (.int (1 : Int32))) (S' := S) rfl rfl ⟨_, rfl, h⟩
theorem j_sp_within {E : ri_E} {S : ri_H} {Q : Option Value → ri_H → Prop} (i n : Int32) (h : Q (some (.int (wi i n))) S) : j_ri_A E 0 (ri_en 95 [.int i, .int n]) S Q := by
  refine j_A_imp (j_wt95 i n (Q := fun r S1 => r = wi i n ∧ S1 = S) ?_) (fun v S1 hv => ?_)
  · unfold w95 wi
    refine ⟨fun c => ?_, fun c => ?_⟩
    · rw [if_pos c]; exact ⟨rfl, rfl⟩
    · rw [if_neg c]
      refine ⟨fun c2 => ?_, fun c2 => ?_⟩
      · rw [if_pos c2]; exact ⟨rfl, rfl⟩
      · rw [if_neg c2]; exact ⟨rfl, rfl⟩
  · obtain ⟨r, rfl, rfl, rfl⟩ := hv
    exact h
set_option maxRecDepth 10000 in
set_option maxHeartbeats 1000000 in
theorem j_wt96 {E : ri_E} (v : Int32) (a : Int32) (b : Int32) {S : ri_H} {Q : Int32 → ri_H → Prop} (h : w96  v a b S Q) : j_ri_A E 0 (ri_en 96 [.int v, .int a, .int b]) S (Qi Q) := by
  unfold w96 at h
  show j_ri_A E 0 (96, 0, [some (.int v), some (.int a), some (.int b)], []) S (Qi Q)
  exact j_A_ret 6 (m := 96) (v := some (.int (if a < (if v < b then v else b) then (if v < b then v else b) else a))) (S' := S) rfl rfl ⟨_, rfl, h⟩
theorem j_sp_held {E : ri_E} {S : ri_H} {Q : Option Value → ri_H → Prop} (v a b : Int32) (h : Q (some (.int (hd v a b))) S) : j_ri_A E 0 (ri_en 96 [.int v, .int a, .int b]) S Q := by
  refine j_A_imp (j_wt96 v a b (Q := fun r S1 => r = hd v a b ∧ S1 = S) ?_) (fun v S1 hv => ?_)
  · exact ⟨rfl, rfl⟩
  · obtain ⟨r, rfl, rfl, rfl⟩ := hv
    exact h
set_option maxRecDepth 10000 in
set_option maxHeartbeats 1000000 in
theorem j_wt97 {E : ri_E} (i : Int32) {S : ri_H} {Q : Int32 → ri_H → Prop} (h : w97  i S Q) : j_ri_A E 1 (ri_en 97 [.int i]) S (Qi Q) := by
  unfold w97 at h
  show j_ri_A E 1 (97, 0, [some (.int i)], []) S (Qi Q)
  refine j_A_call (j := 95) (As := [.int i, .int (31 : Int32)]) (fr' := (97, 6, [some (.int i)], [])) (S' := S) 3 rfl (e := 0) (by omega) (j_sp_within _ _ ?_)
  refine j_A_br ((wi i (31 : Int32)) = 0) (r1 := ((97, 15, [some (.int i)], []), S)) (r2 := ((97, 9, [some (.int i)], []), S)) 1 rfl (fun c => ?_) (fun c => ?_)
  · have h := h.1 c
    exact j_A_ret 2 (m := 97) (v := some (.int (0 : Int32))) (S' := S) rfl rfl ⟨_, rfl, h⟩
  · have h := h.2 c
    exact j_A_ret 5 (m := 97) (v := some (.int ((1 : Int32) <<< (i &&& 31)))) (S' := S) rfl rfl ⟨_, rfl, h⟩
theorem j_sp_bit {E : ri_E} {S : ri_H} {Q : Option Value → ri_H → Prop} (i : Int32) (h : Q (some (.int (bt i))) S) : j_ri_A E 1 (ri_en 97 [.int i]) S Q := by
  refine j_A_imp (j_wt97 i (Q := fun r S1 => r = bt i ∧ S1 = S) ?_) (fun v S1 hv => ?_)
  · unfold w97 bt
    refine ⟨fun c => ?_, fun c => ?_⟩
    · rw [if_pos c]; exact ⟨rfl, rfl⟩
    · rw [if_neg c]; exact ⟨rfl, rfl⟩
  · obtain ⟨r, rfl, rfl, rfl⟩ := hv
    exact h
set_option maxRecDepth 10000 in
set_option maxHeartbeats 1000000 in
theorem j_wt34 {E : ri_E} (w : Nat) (hw : w = 10 ∨ w = 19) (a : Int32) {S : ri_H} {Q : Int32 → ri_H → Prop} (h : w34 w a S Q) : j_ri_A E 0 (ri_en 34 [.ref w, .int a]) S (Qi Q) := by
  rcases hw with rfl | rfl
  · unfold w34 at h
    show j_ri_A E 0 (34, 0, [some (.ref 10), some (.int a)], []) S (Qi Q)
    refine j_A_br (a < 0) (r1 := ((34, 16, [some (.ref 10), some (.int a)], []), S)) (r2 := ((34, 4, [some (.ref 10), some (.int a)], []), S)) 2 rfl (fun c => ?_) (fun c => ?_)
    · have h := h.1 c
      exact j_A_ret 2 (m := 34) (v := some (.int (0 : Int32))) (S' := S) rfl rfl ⟨_, rfl, h⟩
    · have h := h.2 c
      refine j_A_br ((S.1 10 9) ≤ a) (r1 := ((34, 16, [some (.ref 10), some (.int a)], []), S)) (r2 := ((34, 12, [some (.ref 10), some (.int a)], []), S)) 4 rfl (fun c => ?_) (fun c => ?_)
      · have h := h.1 c
        exact j_A_ret 2 (m := 34) (v := some (.int (0 : Int32))) (S' := S) rfl rfl ⟨_, rfl, h⟩
      · have h := h.2 c
        exact j_A_ret 3 (m := 34) (v := some (.int (1 : Int32))) (S' := S) rfl rfl ⟨_, rfl, h⟩
  · unfold w34 at h
    show j_ri_A E 0 (34, 0, [some (.ref 19), some (.int a)], []) S (Qi Q)
    refine j_A_br (a < 0) (r1 := ((34, 16, [some (.ref 19), some (.int a)], []), S)) (r2 := ((34, 4, [some (.ref 19), some (.int a)], []), S)) 2 rfl (fun c => ?_) (fun c => ?_)
    · have h := h.1 c
      exact j_A_ret 2 (m := 34) (v := some (.int (0 : Int32))) (S' := S) rfl rfl ⟨_, rfl, h⟩
    · have h := h.2 c
      refine j_A_br ((S.1 19 9) ≤ a) (r1 := ((34, 16, [some (.ref 19), some (.int a)], []), S)) (r2 := ((34, 12, [some (.ref 19), some (.int a)], []), S)) 4 rfl (fun c => ?_) (fun c => ?_)
      · have h := h.1 c
        exact j_A_ret 2 (m := 34) (v := some (.int (0 : Int32))) (S' := S) rfl rfl ⟨_, rfl, h⟩
      · have h := h.2 c
        exact j_A_ret 3 (m := 34) (v := some (.int (1 : Int32))) (S' := S) rfl rfl ⟨_, rfl, h⟩
theorem j_sp_has {E : ri_E} {S : ri_H} {Q : Option Value → ri_H → Prop} (w : Nat) (hw : w = 10 ∨ w = 19) (a : Int32) (h : Q (some (.int (wi a (S.1 w 9)))) S) : j_ri_A E 0 (ri_en 34 [.ref w, .int a]) S Q := by
  refine j_A_imp (j_wt34 w hw a (Q := fun r S1 => r = wi a (S.1 w 9) ∧ S1 = S) ?_) (fun v S1 hv => ?_)
  · unfold w34 wi
    refine ⟨fun c => ?_, fun c => ?_⟩
    · rw [if_pos c]; exact ⟨rfl, rfl⟩
    · rw [if_neg c]
      refine ⟨fun c2 => ?_, fun c2 => ?_⟩
      · rw [if_pos c2]; exact ⟨rfl, rfl⟩
      · rw [if_neg c2]; exact ⟨rfl, rfl⟩
  · obtain ⟨r, rfl, rfl, rfl⟩ := hv
    exact h
set_option maxRecDepth 10000 in
set_option maxHeartbeats 1000000 in
theorem j_wt27 {E : ri_E}  {S : ri_H} {Q : ri_H → Prop} (h : w27   S Q) : j_ri_A E 1 (ri_en 27 [.ref 1]) S (Qv Q) := by
  unfold w27 at h
  show j_ri_A E 1 (27, 0, [some (.ref 1)], []) S (Qv Q)
  refine j_A_call (j := 99) (As := [.ref 3, .int ((S.1 1 3) * (4 : Int32)), .int ((S.1 1 3) * (160 : Int32))]) (fr' := (27, 29, [some (.ref 1)], [])) (S' := (ri_wi S 1 4 ((S.1 1 3) * (160 : Int32)))) 15 rfl (e := 0) (by omega) (j_sp_putItem 3 24 _ _ ⟨by decide, by decide, rfl⟩ (by decide) ?_)
  exact j_A_ret 1 (m := 27) (v := none) (S' := (ri_wr (ri_wi S 1 4 ((S.1 1 3) * (160 : Int32))) 3 (pu 24 (S.1 3) ((S.1 1 3) * (4 : Int32)) ((S.1 1 3) * (160 : Int32))))) rfl rfl ⟨rfl, h⟩
set_option maxRecDepth 10000 in
set_option maxHeartbeats 1000000 in
theorem j_wt28 {E : ri_E} (a : Int32) {S : ri_H} {Q : ri_H → Prop} (h : w28  a S Q) : j_ri_A E 1 (ri_en 28 [.ref 1, .int a]) S (Qv Q) := by
  unfold w28 at h
  show j_ri_A E 1 (28, 0, [some (.ref 1), some (.int a)], []) S (Qv Q)
  refine j_A_call (j := 99) (As := [.ref 2, .int (S.1 1 4), .int a]) (fr' := (28, 12, [some (.ref 1), some (.int a)], [])) (S' := S) 6 rfl (e := 0) (by omega) (j_sp_putItem 2 960 _ _ ⟨by decide, by decide, rfl⟩ (by decide) ?_)
  exact j_A_ret 7 (m := 28) (v := none) (S' := (ri_wi (ri_wr S 2 (pu 960 (S.1 2) (S.1 1 4) a)) 1 4 ((S.1 1 4) + (1 : Int32)))) rfl rfl ⟨rfl, h⟩
set_option maxRecDepth 10000 in
set_option maxHeartbeats 1000000 in
theorem j_wt29 {E : ri_E} (a : Int32) {S : ri_H} {Q : ri_H → Prop} (h : w29  a S Q) : j_ri_A E 1 (ri_en 29 [.ref 1, .int a]) S (Qv Q) := by
  unfold w29 at h
  show j_ri_A E 1 (29, 0, [some (.ref 1), some (.int a)], []) S (Qv Q)
  refine j_A_call (j := 99) (As := [.ref 3, .int ((((S.1 1 3) * (4 : Int32)) + a) + (1 : Int32)), .int (S.1 1 4)]) (fr' := (29, 21, [some (.ref 1), some (.int a)], [])) (S' := S) 13 rfl (e := 0) (by omega) (j_sp_putItem 3 24 _ _ ⟨by decide, by decide, rfl⟩ (by decide) ?_)
  exact j_A_ret 1 (m := 29) (v := none) (S' := (ri_wr S 3 (pu 24 (S.1 3) ((((S.1 1 3) * (4 : Int32)) + a) + (1 : Int32)) (S.1 1 4)))) rfl rfl ⟨rfl, h⟩
set_option maxRecDepth 10000 in
set_option maxHeartbeats 1000000 in
theorem j_wt32_b48 {E : ri_E} {Q : Int32 → ri_H → Prop}  (S : ri_H) (h : w32_b48   Q  S) : j_ri_A E 0 (32, 48, [none, none, none], []) S (Qi Q) := by
  unfold w32_b48 at h
  exact j_A_ret 3 (m := 32) (v := some (.int (1 : Int32))) (S' := S) rfl rfl ⟨_, rfl, h⟩
set_option maxRecDepth 10000 in
set_option maxHeartbeats 1000000 in
theorem j_wt32 {E : ri_E} (a : Int32) (b : Int32) (g : Int32) {S : ri_H} {Q : Int32 → ri_H → Prop} (h : w32  a b g S Q) : j_ri_A E 0 (ri_en 32 [.int a, .int b, .int g]) S (Qi Q) := by
  unfold w32 at h
  show j_ri_A E 0 (32, 0, [some (.int a), some (.int b), some (.int g)], []) S (Qi Q)
  refine j_A_nx 2 (fr' := (32, ri_tgt 1 (97) (-14) (-9) [93, 89, 78, 67, 53, 39] a, [some (.int a), some (.int b), some (.int g)], [])) (S' := S) rfl ?_
  rcases ri_swc a (-14) 6 (by decide) (by decide) with c | ⟨i, hi, c⟩
  · have c : a < Int32.ofInt (-14) ∨ Int32.ofInt (-9) < a := c
    have h := h.1 c
    rw [ri_tgt_out a c (by decide) (by decide)]
    exact j_A_ret 4 (m := 32) (v := some (.int (b * g))) (S' := S) rfl rfl ⟨_, rfl, h⟩
  · have h := h.2
    match i, hi, c with
    | 0, hi, c =>
      have c : a = (-14 : Int32) := c
      have h := h.1 c
      rw [show ri_tgt 1 (97) (-14) (-9) [93, 89, 78, 67, 53, 39] a = 94 by rw [c]; decide]
      exact j_A_ret 4 (m := 32) (v := some (.int (b - g))) (S' := S) rfl rfl ⟨_, rfl, h⟩
    | 1, hi, c =>
      have c : a = (-13 : Int32) := c
      have h := h.2.1 c
      rw [show ri_tgt 1 (97) (-14) (-9) [93, 89, 78, 67, 53, 39] a = 90 by rw [c]; decide]
      exact j_A_ret 4 (m := 32) (v := some (.int (b + g))) (S' := S) rfl rfl ⟨_, rfl, h⟩
    | 2, hi, c =>
      have c : a = (-12 : Int32) := c
      have h := h.2.2.1 c
      rw [show ri_tgt 1 (97) (-14) (-9) [93, 89, 78, 67, 53, 39] a = 79 by rw [c]; decide]
      refine j_A_br (¬ b = g) (r1 := ((32, 88, [some (.int a), some (.int b), some (.int g)], []), S)) (r2 := ((32, 84, [some (.int a), some (.int b), some (.int g)], []), S)) 3 rfl (fun c => ?_) (fun c => ?_)
      · have h := h.1 c
        exact j_A_ret 2 (m := 32) (v := some (.int (0 : Int32))) (S' := S) rfl rfl ⟨_, rfl, h⟩
      · have h := h.2 c
        exact j_A_ret 3 (m := 32) (v := some (.int (1 : Int32))) (S' := S) rfl rfl ⟨_, rfl, h⟩
    | 3, hi, c =>
      have c : a = (-11 : Int32) := c
      have h := h.2.2.2.1 c
      rw [show ri_tgt 1 (97) (-14) (-9) [93, 89, 78, 67, 53, 39] a = 68 by rw [c]; decide]
      refine j_A_br (g ≤ b) (r1 := ((32, 77, [some (.int a), some (.int b), some (.int g)], []), S)) (r2 := ((32, 73, [some (.int a), some (.int b), some (.int g)], []), S)) 3 rfl (fun c => ?_) (fun c => ?_)
      · have h := h.1 c
        exact j_A_ret 2 (m := 32) (v := some (.int (0 : Int32))) (S' := S) rfl rfl ⟨_, rfl, h⟩
      · have h := h.2 c
        exact j_A_ret 3 (m := 32) (v := some (.int (1 : Int32))) (S' := S) rfl rfl ⟨_, rfl, h⟩
    | 4, hi, c =>
      have c : a = (-10 : Int32) := c
      have h := h.2.2.2.2.1 c
      rw [show ri_tgt 1 (97) (-14) (-9) [93, 89, 78, 67, 53, 39] a = 54 by rw [c]; decide]
      refine j_A_br (b = 0) (r1 := ((32, 66, [some (.int a), some (.int b), some (.int g)], []), S)) (r2 := ((32, 58, [some (.int a), some (.int b), some (.int g)], []), S)) 2 rfl (fun c => ?_) (fun c => ?_)
      · have h := h.1 c
        exact j_A_ret 2 (m := 32) (v := some (.int (0 : Int32))) (S' := S) rfl rfl ⟨_, rfl, h⟩
      · have h := h.2 c
        refine j_A_br (g = 0) (r1 := ((32, 66, [some (.int a), some (.int b), some (.int g)], []), S)) (r2 := ((32, 62, [some (.int a), some (.int b), some (.int g)], []), S)) 2 rfl (fun c => ?_) (fun c => ?_)
        · have h := h.1 c
          exact j_A_ret 2 (m := 32) (v := some (.int (0 : Int32))) (S' := S) rfl rfl ⟨_, rfl, h⟩
        · have h := h.2 c
          exact j_A_ret 3 (m := 32) (v := some (.int (1 : Int32))) (S' := S) rfl rfl ⟨_, rfl, h⟩
    | 5, hi, c =>
      have c : a = (-9 : Int32) := c
      have h := h.2.2.2.2.2 c
      rw [show ri_tgt 1 (97) (-14) (-9) [93, 89, 78, 67, 53, 39] a = 40 by rw [c]; decide]
      refine j_A_br (¬ b = 0) (r1 := ((32, 48, [some (.int a), some (.int b), some (.int g)], []), S)) (r2 := ((32, 44, [some (.int a), some (.int b), some (.int g)], []), S)) 2 rfl (fun c => ?_) (fun c => ?_)
      · have h := h.1 c
        refine j_ri_A.less (m := 32) (pc := 48) (L := [some (.int a), some (.int b), some (.int g)]) (L' := [none, none, none]) (st := []) trivial ?_
        exact j_wt32_b48   _ h
      · have h := h.2 c
        refine j_A_br (g = 0) (r1 := ((32, 52, [some (.int a), some (.int b), some (.int g)], []), S)) (r2 := ((32, 48, [some (.int a), some (.int b), some (.int g)], []), S)) 2 rfl (fun c => ?_) (fun c => ?_)
        · have h := h.1 c
          exact j_A_ret 2 (m := 32) (v := some (.int (0 : Int32))) (S' := S) rfl rfl ⟨_, rfl, h⟩
        · have h := h.2 c
          refine j_ri_A.less (m := 32) (pc := 48) (L := [some (.int a), some (.int b), some (.int g)]) (L' := [none, none, none]) (st := []) trivial ?_
          exact j_wt32_b48   _ h
    | i + 6, hi, c => exact absurd hi (by omega)
-- 20.reader
set_option maxRecDepth 10000 in
set_option maxHeartbeats 1000000 in
theorem j_wt208 {E : ri_E} (t : Nat) (hw : t = 1000 ∨ t = 1001 ∨ t = 1002 ∨ t = 1003 ∨ t = 1004 ∨ t = 1005 ∨ t = 1006 ∨ t = 1007 ∨ t = 1008 ∨ t = 1009 ∨ t = 1010 ∨ t = 1011 ∨ t = 1012)  {S : ri_H} {Q : Int32 → ri_H → Prop} (h : w208 t  S Q) : j_ri_A E 0 (ri_en 208 [.ref t]) S (Qi Q) := by
  rcases hw with rfl | rfl | rfl | rfl | rfl | rfl | rfl | rfl | rfl | rfl | rfl | rfl | rfl
  · unfold w208 at h
    show j_ri_A E 0 (208, 0, [some (.ref 1000)], []) S (Qi Q)
    refine j_A_br ((1 : Int32) = 0) (r1 := ((208, 13, [some (.ref 1000)], []), S)) (r2 := ((208, 6, [some (.ref 1000)], []), S)) 2 rfl (fun c => absurd c (by decide)) (fun c => ?_)
    exact j_A_ret 4 (m := 208) (v := some (.int (0 : Int32))) (S' := S) rfl rfl ⟨_, rfl, h⟩
  · unfold w208 at h
    show j_ri_A E 0 (208, 0, [some (.ref 1001)], []) S (Qi Q)
    refine j_A_br ((1 : Int32) = 0) (r1 := ((208, 13, [some (.ref 1001)], []), S)) (r2 := ((208, 6, [some (.ref 1001)], []), S)) 2 rfl (fun c => absurd c (by decide)) (fun c => ?_)
    exact j_A_ret 4 (m := 208) (v := some (.int (0 : Int32))) (S' := S) rfl rfl ⟨_, rfl, h⟩
  · unfold w208 at h
    show j_ri_A E 0 (208, 0, [some (.ref 1002)], []) S (Qi Q)
    refine j_A_br ((1 : Int32) = 0) (r1 := ((208, 13, [some (.ref 1002)], []), S)) (r2 := ((208, 6, [some (.ref 1002)], []), S)) 2 rfl (fun c => absurd c (by decide)) (fun c => ?_)
    exact j_A_ret 4 (m := 208) (v := some (.int (0 : Int32))) (S' := S) rfl rfl ⟨_, rfl, h⟩
  · unfold w208 at h
    show j_ri_A E 0 (208, 0, [some (.ref 1003)], []) S (Qi Q)
    refine j_A_br ((1 : Int32) = 0) (r1 := ((208, 13, [some (.ref 1003)], []), S)) (r2 := ((208, 6, [some (.ref 1003)], []), S)) 2 rfl (fun c => absurd c (by decide)) (fun c => ?_)
    exact j_A_ret 4 (m := 208) (v := some (.int (0 : Int32))) (S' := S) rfl rfl ⟨_, rfl, h⟩
  · unfold w208 at h
    show j_ri_A E 0 (208, 0, [some (.ref 1004)], []) S (Qi Q)
    refine j_A_br ((1 : Int32) = 0) (r1 := ((208, 13, [some (.ref 1004)], []), S)) (r2 := ((208, 6, [some (.ref 1004)], []), S)) 2 rfl (fun c => absurd c (by decide)) (fun c => ?_)
    exact j_A_ret 4 (m := 208) (v := some (.int (0 : Int32))) (S' := S) rfl rfl ⟨_, rfl, h⟩
  · unfold w208 at h
    show j_ri_A E 0 (208, 0, [some (.ref 1005)], []) S (Qi Q)
    refine j_A_br ((1 : Int32) = 0) (r1 := ((208, 13, [some (.ref 1005)], []), S)) (r2 := ((208, 6, [some (.ref 1005)], []), S)) 2 rfl (fun c => absurd c (by decide)) (fun c => ?_)
    exact j_A_ret 4 (m := 208) (v := some (.int (0 : Int32))) (S' := S) rfl rfl ⟨_, rfl, h⟩
  · unfold w208 at h
    show j_ri_A E 0 (208, 0, [some (.ref 1006)], []) S (Qi Q)
    refine j_A_br ((1 : Int32) = 0) (r1 := ((208, 13, [some (.ref 1006)], []), S)) (r2 := ((208, 6, [some (.ref 1006)], []), S)) 2 rfl (fun c => absurd c (by decide)) (fun c => ?_)
    exact j_A_ret 4 (m := 208) (v := some (.int (0 : Int32))) (S' := S) rfl rfl ⟨_, rfl, h⟩
  · unfold w208 at h
    show j_ri_A E 0 (208, 0, [some (.ref 1007)], []) S (Qi Q)
    refine j_A_br ((1 : Int32) = 0) (r1 := ((208, 13, [some (.ref 1007)], []), S)) (r2 := ((208, 6, [some (.ref 1007)], []), S)) 2 rfl (fun c => absurd c (by decide)) (fun c => ?_)
    exact j_A_ret 4 (m := 208) (v := some (.int (0 : Int32))) (S' := S) rfl rfl ⟨_, rfl, h⟩
  · unfold w208 at h
    show j_ri_A E 0 (208, 0, [some (.ref 1008)], []) S (Qi Q)
    refine j_A_br ((1 : Int32) = 0) (r1 := ((208, 13, [some (.ref 1008)], []), S)) (r2 := ((208, 6, [some (.ref 1008)], []), S)) 2 rfl (fun c => absurd c (by decide)) (fun c => ?_)
    exact j_A_ret 4 (m := 208) (v := some (.int (0 : Int32))) (S' := S) rfl rfl ⟨_, rfl, h⟩
  · unfold w208 at h
    show j_ri_A E 0 (208, 0, [some (.ref 1009)], []) S (Qi Q)
    refine j_A_br ((1 : Int32) = 0) (r1 := ((208, 13, [some (.ref 1009)], []), S)) (r2 := ((208, 6, [some (.ref 1009)], []), S)) 2 rfl (fun c => absurd c (by decide)) (fun c => ?_)
    exact j_A_ret 4 (m := 208) (v := some (.int (0 : Int32))) (S' := S) rfl rfl ⟨_, rfl, h⟩
  · unfold w208 at h
    show j_ri_A E 0 (208, 0, [some (.ref 1010)], []) S (Qi Q)
    refine j_A_br ((1 : Int32) = 0) (r1 := ((208, 13, [some (.ref 1010)], []), S)) (r2 := ((208, 6, [some (.ref 1010)], []), S)) 2 rfl (fun c => absurd c (by decide)) (fun c => ?_)
    exact j_A_ret 4 (m := 208) (v := some (.int (0 : Int32))) (S' := S) rfl rfl ⟨_, rfl, h⟩
  · unfold w208 at h
    show j_ri_A E 0 (208, 0, [some (.ref 1011)], []) S (Qi Q)
    refine j_A_br ((1 : Int32) = 0) (r1 := ((208, 13, [some (.ref 1011)], []), S)) (r2 := ((208, 6, [some (.ref 1011)], []), S)) 2 rfl (fun c => absurd c (by decide)) (fun c => ?_)
    exact j_A_ret 4 (m := 208) (v := some (.int (0 : Int32))) (S' := S) rfl rfl ⟨_, rfl, h⟩
  · unfold w208 at h
    show j_ri_A E 0 (208, 0, [some (.ref 1012)], []) S (Qi Q)
    refine j_A_br ((1 : Int32) = 0) (r1 := ((208, 13, [some (.ref 1012)], []), S)) (r2 := ((208, 6, [some (.ref 1012)], []), S)) 2 rfl (fun c => absurd c (by decide)) (fun c => ?_)
    exact j_A_ret 4 (m := 208) (v := some (.int (0 : Int32))) (S' := S) rfl rfl ⟨_, rfl, h⟩
set_option maxRecDepth 10000 in
set_option maxHeartbeats 1000000 in
theorem j_wt209 {E : ri_E} (t : Nat) (hw : t = 1000 ∨ t = 1001 ∨ t = 1002 ∨ t = 1003 ∨ t = 1004 ∨ t = 1005 ∨ t = 1006 ∨ t = 1007 ∨ t = 1008 ∨ t = 1009 ∨ t = 1010 ∨ t = 1011 ∨ t = 1012)  {S : ri_H} {Q : Int32 → ri_H → Prop} (h : w209 t  S Q) : j_ri_A E 0 (ri_en 209 [.ref t]) S (Qi Q) := by
  rcases hw with rfl | rfl | rfl | rfl | rfl | rfl | rfl | rfl | rfl | rfl | rfl | rfl | rfl
  · unfold w209 at h
    show j_ri_A E 0 (209, 0, [some (.ref 1000)], []) S (Qi Q)
    refine j_A_br ((1 : Int32) = 0) (r1 := ((209, 17, [some (.ref 1000)], []), S)) (r2 := ((209, 6, [some (.ref 1000)], []), S)) 2 rfl (fun c => absurd c (by decide)) (fun c => ?_)
    refine j_A_br (¬ (0 : Int32) = 0) (r1 := ((209, 17, [some (.ref 1000)], []), S)) (r2 := ((209, 13, [some (.ref 1000)], []), S)) 3 rfl (fun c => absurd c (by decide)) (fun c => ?_)
    exact j_A_ret 3 (m := 209) (v := some (.int (1 : Int32))) (S' := S) rfl rfl ⟨_, rfl, h⟩
  · unfold w209 at h
    show j_ri_A E 0 (209, 0, [some (.ref 1001)], []) S (Qi Q)
    refine j_A_br ((1 : Int32) = 0) (r1 := ((209, 17, [some (.ref 1001)], []), S)) (r2 := ((209, 6, [some (.ref 1001)], []), S)) 2 rfl (fun c => absurd c (by decide)) (fun c => ?_)
    refine j_A_br (¬ (0 : Int32) = 0) (r1 := ((209, 17, [some (.ref 1001)], []), S)) (r2 := ((209, 13, [some (.ref 1001)], []), S)) 3 rfl (fun c => absurd c (by decide)) (fun c => ?_)
    exact j_A_ret 3 (m := 209) (v := some (.int (1 : Int32))) (S' := S) rfl rfl ⟨_, rfl, h⟩
  · unfold w209 at h
    show j_ri_A E 0 (209, 0, [some (.ref 1002)], []) S (Qi Q)
    refine j_A_br ((1 : Int32) = 0) (r1 := ((209, 17, [some (.ref 1002)], []), S)) (r2 := ((209, 6, [some (.ref 1002)], []), S)) 2 rfl (fun c => absurd c (by decide)) (fun c => ?_)
    refine j_A_br (¬ (0 : Int32) = 0) (r1 := ((209, 17, [some (.ref 1002)], []), S)) (r2 := ((209, 13, [some (.ref 1002)], []), S)) 3 rfl (fun c => absurd c (by decide)) (fun c => ?_)
    exact j_A_ret 3 (m := 209) (v := some (.int (1 : Int32))) (S' := S) rfl rfl ⟨_, rfl, h⟩
  · unfold w209 at h
    show j_ri_A E 0 (209, 0, [some (.ref 1003)], []) S (Qi Q)
    refine j_A_br ((1 : Int32) = 0) (r1 := ((209, 17, [some (.ref 1003)], []), S)) (r2 := ((209, 6, [some (.ref 1003)], []), S)) 2 rfl (fun c => absurd c (by decide)) (fun c => ?_)
    refine j_A_br (¬ (0 : Int32) = 0) (r1 := ((209, 17, [some (.ref 1003)], []), S)) (r2 := ((209, 13, [some (.ref 1003)], []), S)) 3 rfl (fun c => absurd c (by decide)) (fun c => ?_)
    exact j_A_ret 3 (m := 209) (v := some (.int (1 : Int32))) (S' := S) rfl rfl ⟨_, rfl, h⟩
  · unfold w209 at h
    show j_ri_A E 0 (209, 0, [some (.ref 1004)], []) S (Qi Q)
    refine j_A_br ((1 : Int32) = 0) (r1 := ((209, 17, [some (.ref 1004)], []), S)) (r2 := ((209, 6, [some (.ref 1004)], []), S)) 2 rfl (fun c => absurd c (by decide)) (fun c => ?_)
    refine j_A_br (¬ (0 : Int32) = 0) (r1 := ((209, 17, [some (.ref 1004)], []), S)) (r2 := ((209, 13, [some (.ref 1004)], []), S)) 3 rfl (fun c => absurd c (by decide)) (fun c => ?_)
    exact j_A_ret 3 (m := 209) (v := some (.int (1 : Int32))) (S' := S) rfl rfl ⟨_, rfl, h⟩
  · unfold w209 at h
    show j_ri_A E 0 (209, 0, [some (.ref 1005)], []) S (Qi Q)
    refine j_A_br ((1 : Int32) = 0) (r1 := ((209, 17, [some (.ref 1005)], []), S)) (r2 := ((209, 6, [some (.ref 1005)], []), S)) 2 rfl (fun c => absurd c (by decide)) (fun c => ?_)
    refine j_A_br (¬ (0 : Int32) = 0) (r1 := ((209, 17, [some (.ref 1005)], []), S)) (r2 := ((209, 13, [some (.ref 1005)], []), S)) 3 rfl (fun c => absurd c (by decide)) (fun c => ?_)
    exact j_A_ret 3 (m := 209) (v := some (.int (1 : Int32))) (S' := S) rfl rfl ⟨_, rfl, h⟩
  · unfold w209 at h
    show j_ri_A E 0 (209, 0, [some (.ref 1006)], []) S (Qi Q)
    refine j_A_br ((1 : Int32) = 0) (r1 := ((209, 17, [some (.ref 1006)], []), S)) (r2 := ((209, 6, [some (.ref 1006)], []), S)) 2 rfl (fun c => absurd c (by decide)) (fun c => ?_)
    refine j_A_br (¬ (0 : Int32) = 0) (r1 := ((209, 17, [some (.ref 1006)], []), S)) (r2 := ((209, 13, [some (.ref 1006)], []), S)) 3 rfl (fun c => absurd c (by decide)) (fun c => ?_)
    exact j_A_ret 3 (m := 209) (v := some (.int (1 : Int32))) (S' := S) rfl rfl ⟨_, rfl, h⟩
  · unfold w209 at h
    show j_ri_A E 0 (209, 0, [some (.ref 1007)], []) S (Qi Q)
    refine j_A_br ((1 : Int32) = 0) (r1 := ((209, 17, [some (.ref 1007)], []), S)) (r2 := ((209, 6, [some (.ref 1007)], []), S)) 2 rfl (fun c => absurd c (by decide)) (fun c => ?_)
    refine j_A_br (¬ (0 : Int32) = 0) (r1 := ((209, 17, [some (.ref 1007)], []), S)) (r2 := ((209, 13, [some (.ref 1007)], []), S)) 3 rfl (fun c => absurd c (by decide)) (fun c => ?_)
    exact j_A_ret 3 (m := 209) (v := some (.int (1 : Int32))) (S' := S) rfl rfl ⟨_, rfl, h⟩
  · unfold w209 at h
    show j_ri_A E 0 (209, 0, [some (.ref 1008)], []) S (Qi Q)
    refine j_A_br ((1 : Int32) = 0) (r1 := ((209, 17, [some (.ref 1008)], []), S)) (r2 := ((209, 6, [some (.ref 1008)], []), S)) 2 rfl (fun c => absurd c (by decide)) (fun c => ?_)
    refine j_A_br (¬ (0 : Int32) = 0) (r1 := ((209, 17, [some (.ref 1008)], []), S)) (r2 := ((209, 13, [some (.ref 1008)], []), S)) 3 rfl (fun c => absurd c (by decide)) (fun c => ?_)
    exact j_A_ret 3 (m := 209) (v := some (.int (1 : Int32))) (S' := S) rfl rfl ⟨_, rfl, h⟩
  · unfold w209 at h
    show j_ri_A E 0 (209, 0, [some (.ref 1009)], []) S (Qi Q)
    refine j_A_br ((1 : Int32) = 0) (r1 := ((209, 17, [some (.ref 1009)], []), S)) (r2 := ((209, 6, [some (.ref 1009)], []), S)) 2 rfl (fun c => absurd c (by decide)) (fun c => ?_)
    refine j_A_br (¬ (0 : Int32) = 0) (r1 := ((209, 17, [some (.ref 1009)], []), S)) (r2 := ((209, 13, [some (.ref 1009)], []), S)) 3 rfl (fun c => absurd c (by decide)) (fun c => ?_)
    exact j_A_ret 3 (m := 209) (v := some (.int (1 : Int32))) (S' := S) rfl rfl ⟨_, rfl, h⟩
  · unfold w209 at h
    show j_ri_A E 0 (209, 0, [some (.ref 1010)], []) S (Qi Q)
    refine j_A_br ((1 : Int32) = 0) (r1 := ((209, 17, [some (.ref 1010)], []), S)) (r2 := ((209, 6, [some (.ref 1010)], []), S)) 2 rfl (fun c => absurd c (by decide)) (fun c => ?_)
    refine j_A_br (¬ (0 : Int32) = 0) (r1 := ((209, 17, [some (.ref 1010)], []), S)) (r2 := ((209, 13, [some (.ref 1010)], []), S)) 3 rfl (fun c => absurd c (by decide)) (fun c => ?_)
    exact j_A_ret 3 (m := 209) (v := some (.int (1 : Int32))) (S' := S) rfl rfl ⟨_, rfl, h⟩
  · unfold w209 at h
    show j_ri_A E 0 (209, 0, [some (.ref 1011)], []) S (Qi Q)
    refine j_A_br ((1 : Int32) = 0) (r1 := ((209, 17, [some (.ref 1011)], []), S)) (r2 := ((209, 6, [some (.ref 1011)], []), S)) 2 rfl (fun c => absurd c (by decide)) (fun c => ?_)
    refine j_A_br (¬ (0 : Int32) = 0) (r1 := ((209, 17, [some (.ref 1011)], []), S)) (r2 := ((209, 13, [some (.ref 1011)], []), S)) 3 rfl (fun c => absurd c (by decide)) (fun c => ?_)
    exact j_A_ret 3 (m := 209) (v := some (.int (1 : Int32))) (S' := S) rfl rfl ⟨_, rfl, h⟩
  · unfold w209 at h
    show j_ri_A E 0 (209, 0, [some (.ref 1012)], []) S (Qi Q)
    refine j_A_br ((1 : Int32) = 0) (r1 := ((209, 17, [some (.ref 1012)], []), S)) (r2 := ((209, 6, [some (.ref 1012)], []), S)) 2 rfl (fun c => absurd c (by decide)) (fun c => ?_)
    refine j_A_br (¬ (0 : Int32) = 0) (r1 := ((209, 17, [some (.ref 1012)], []), S)) (r2 := ((209, 13, [some (.ref 1012)], []), S)) 3 rfl (fun c => absurd c (by decide)) (fun c => ?_)
    exact j_A_ret 3 (m := 209) (v := some (.int (1 : Int32))) (S' := S) rfl rfl ⟨_, rfl, h⟩
set_option maxRecDepth 10000 in
set_option maxHeartbeats 1000000 in
theorem j_wt212_b9 {E : ri_E} {Q : Int32 → ri_H → Prop} (x0 : Int32) (x1 : Int32) (S : ri_H) (h : w212_b9   Q x0 x1 S) : j_ri_A E 0 (212, 9, [some (.int x0), some (.int x1), some (.ref 4000)], []) S (Qi Q) := by
  unfold w212_b9 at h
  exact h.elim
set_option maxRecDepth 10000 in
set_option maxHeartbeats 1000000 in
theorem j_wt212 {E : ri_E} (a : Int32) (b : Int32) {S : ri_H} {Q : Int32 → ri_H → Prop} (h : w212  a b S Q) : j_ri_A E 0 (ri_en 212 [.int a, .int b, .ref 4000]) S (Qi Q) := by
  unfold w212 at h
  show j_ri_A E 0 (212, 0, [some (.int a), some (.int b), some (.ref 4000)], []) S (Qi Q)
  refine j_A_br (a < 0) (r1 := ((212, 9, [some (.int a), some (.int b), some (.ref 4000)], []), S)) (r2 := ((212, 4, [some (.int a), some (.int b), some (.ref 4000)], []), S)) 2 rfl (fun c => ?_) (fun c => ?_)
  · have h := h.1 c
    refine j_ri_A.less (m := 212) (pc := 9) (L := [some (.int a), some (.int b), some (.ref 4000)]) (L' := [some (.int a), some (.int b), some (.ref 4000)]) (st := []) ⟨rfl, ⟨rfl, ⟨rfl, trivial⟩⟩⟩ ?_
    exact j_wt212_b9   _ _ _ h
  · have h := h.2 c
    refine j_A_br (a < b) (r1 := ((212, 16, [some (.int a), some (.int b), some (.ref 4000)], []), S)) (r2 := ((212, 9, [some (.int a), some (.int b), some (.ref 4000)], []), S)) 3 rfl (fun c => ?_) (fun c => ?_)
    · have h := h.1 c
      exact j_A_ret 2 (m := 212) (v := some (.int a)) (S' := S) rfl rfl ⟨_, rfl, h⟩
    · have h := h.2 c
      refine j_ri_A.less (m := 212) (pc := 9) (L := [some (.int a), some (.int b), some (.ref 4000)]) (L' := [some (.int a), some (.int b), some (.ref 4000)]) (st := []) ⟨rfl, ⟨rfl, ⟨rfl, trivial⟩⟩⟩ ?_
      exact j_wt212_b9   _ _ _ h
set_option maxRecDepth 10000 in
set_option maxHeartbeats 1000000 in
theorem j_wt210 {E : ri_E} (a : Int32) (b : Int32) {S : ri_H} {Q : ri_H → Prop} (h : w210  a b S Q) : j_ri_A E 1 (ri_en 210 [.int a, .int b]) S (Qv Q) := by
  unfold w210 at h
  show j_ri_A E 1 (210, 0, [some (.int a), some (.int b)], []) S (Qv Q)
  refine j_A_call (j := 212) (As := [.int a, .int b, .ref 4000]) (fr' := (210, 8, [some (.int a), some (.int b)], [])) (S' := S) 4 rfl (e := 0) (by omega) (j_A_imp (j_wt212 a b h) (fun v S1 hq => ?_))
  obtain ⟨r2, hv, h⟩ := hq
  subst hv
  exact j_A_ret 2 (m := 210) (v := none) (S' := S1) rfl rfl ⟨rfl, h⟩
set_option maxRecDepth 10000 in
set_option maxHeartbeats 1000000 in
theorem j_wt211 {E : ri_E} (u : Nat) (hw : u = 1100 ∨ u = 1101 ∨ u = 1102 ∨ u = 1103 ∨ u = 1104 ∨ u = 1105 ∨ u = 1106 ∨ u = 1107 ∨ u = 1108 ∨ u = 1109 ∨ u = 1110 ∨ u = 1111 ∨ u = 1112) (a : Int32) {S : ri_H} {Q : Int32 → ri_H → Prop} (h : w211 u a S Q) : j_ri_A E 2 (ri_en 211 [.ref u, .int a]) S (Qi Q) := by
  rcases hw with rfl | rfl | rfl | rfl | rfl | rfl | rfl | rfl | rfl | rfl | rfl | rfl | rfl
  · unfold w211 at h
    show j_ri_A E 2 (211, 0, [some (.ref 1100), some (.int a)], []) S (Qi Q)
    refine j_A_call (j := 210) (As := [.int a, .int (Int32.ofNat (ri_strl.getD (1100 - 1100) 0))]) (fr' := (211, 6, [some (.ref 1100), some (.int a)], [])) (S' := S) 4 rfl (e := 1) (by omega) (j_A_imp (j_wt210 a (Int32.ofNat (ri_strl.getD (1100 - 1100) 0)) h) (fun v S1 hq => ?_))
    obtain ⟨hv, h⟩ := hq
    subst hv
    refine j_A_ix a (ri_strl.getD (1100 - 1100) 0) (r1 := ((211, 9, [some (.ref 1100), some (.int a)], [.int ((ri_strb.getD (1100 - 1100) []).getD (a).toNatClampNeg 0)]), S1)) 3 rfl h.1 ?_
    have h := h.2
    exact j_A_ret 4 (m := 211) (v := some (.int (((((ri_strb.getD (1100 - 1100) []).getD (a).toNatClampNeg 0) &&& (255 : Int32))).toUInt32 % 65536).toInt32)) (S' := S1) rfl h.1 ⟨_, rfl, h.2⟩
  · unfold w211 at h
    show j_ri_A E 2 (211, 0, [some (.ref 1101), some (.int a)], []) S (Qi Q)
    refine j_A_call (j := 210) (As := [.int a, .int (Int32.ofNat (ri_strl.getD (1101 - 1100) 0))]) (fr' := (211, 6, [some (.ref 1101), some (.int a)], [])) (S' := S) 4 rfl (e := 1) (by omega) (j_A_imp (j_wt210 a (Int32.ofNat (ri_strl.getD (1101 - 1100) 0)) h) (fun v S1 hq => ?_))
    obtain ⟨hv, h⟩ := hq
    subst hv
    refine j_A_ix a (ri_strl.getD (1101 - 1100) 0) (r1 := ((211, 9, [some (.ref 1101), some (.int a)], [.int ((ri_strb.getD (1101 - 1100) []).getD (a).toNatClampNeg 0)]), S1)) 3 rfl h.1 ?_
    have h := h.2
    exact j_A_ret 4 (m := 211) (v := some (.int (((((ri_strb.getD (1101 - 1100) []).getD (a).toNatClampNeg 0) &&& (255 : Int32))).toUInt32 % 65536).toInt32)) (S' := S1) rfl h.1 ⟨_, rfl, h.2⟩
  · unfold w211 at h
    show j_ri_A E 2 (211, 0, [some (.ref 1102), some (.int a)], []) S (Qi Q)
    refine j_A_call (j := 210) (As := [.int a, .int (Int32.ofNat (ri_strl.getD (1102 - 1100) 0))]) (fr' := (211, 6, [some (.ref 1102), some (.int a)], [])) (S' := S) 4 rfl (e := 1) (by omega) (j_A_imp (j_wt210 a (Int32.ofNat (ri_strl.getD (1102 - 1100) 0)) h) (fun v S1 hq => ?_))
    obtain ⟨hv, h⟩ := hq
    subst hv
    refine j_A_ix a (ri_strl.getD (1102 - 1100) 0) (r1 := ((211, 9, [some (.ref 1102), some (.int a)], [.int ((ri_strb.getD (1102 - 1100) []).getD (a).toNatClampNeg 0)]), S1)) 3 rfl h.1 ?_
    have h := h.2
    exact j_A_ret 4 (m := 211) (v := some (.int (((((ri_strb.getD (1102 - 1100) []).getD (a).toNatClampNeg 0) &&& (255 : Int32))).toUInt32 % 65536).toInt32)) (S' := S1) rfl h.1 ⟨_, rfl, h.2⟩
  · unfold w211 at h
    show j_ri_A E 2 (211, 0, [some (.ref 1103), some (.int a)], []) S (Qi Q)
    refine j_A_call (j := 210) (As := [.int a, .int (Int32.ofNat (ri_strl.getD (1103 - 1100) 0))]) (fr' := (211, 6, [some (.ref 1103), some (.int a)], [])) (S' := S) 4 rfl (e := 1) (by omega) (j_A_imp (j_wt210 a (Int32.ofNat (ri_strl.getD (1103 - 1100) 0)) h) (fun v S1 hq => ?_))
    obtain ⟨hv, h⟩ := hq
    subst hv
    refine j_A_ix a (ri_strl.getD (1103 - 1100) 0) (r1 := ((211, 9, [some (.ref 1103), some (.int a)], [.int ((ri_strb.getD (1103 - 1100) []).getD (a).toNatClampNeg 0)]), S1)) 3 rfl h.1 ?_
    have h := h.2
    exact j_A_ret 4 (m := 211) (v := some (.int (((((ri_strb.getD (1103 - 1100) []).getD (a).toNatClampNeg 0) &&& (255 : Int32))).toUInt32 % 65536).toInt32)) (S' := S1) rfl h.1 ⟨_, rfl, h.2⟩
  · unfold w211 at h
    show j_ri_A E 2 (211, 0, [some (.ref 1104), some (.int a)], []) S (Qi Q)
    refine j_A_call (j := 210) (As := [.int a, .int (Int32.ofNat (ri_strl.getD (1104 - 1100) 0))]) (fr' := (211, 6, [some (.ref 1104), some (.int a)], [])) (S' := S) 4 rfl (e := 1) (by omega) (j_A_imp (j_wt210 a (Int32.ofNat (ri_strl.getD (1104 - 1100) 0)) h) (fun v S1 hq => ?_))
    obtain ⟨hv, h⟩ := hq
    subst hv
    refine j_A_ix a (ri_strl.getD (1104 - 1100) 0) (r1 := ((211, 9, [some (.ref 1104), some (.int a)], [.int ((ri_strb.getD (1104 - 1100) []).getD (a).toNatClampNeg 0)]), S1)) 3 rfl h.1 ?_
    have h := h.2
    exact j_A_ret 4 (m := 211) (v := some (.int (((((ri_strb.getD (1104 - 1100) []).getD (a).toNatClampNeg 0) &&& (255 : Int32))).toUInt32 % 65536).toInt32)) (S' := S1) rfl h.1 ⟨_, rfl, h.2⟩
  · unfold w211 at h
    show j_ri_A E 2 (211, 0, [some (.ref 1105), some (.int a)], []) S (Qi Q)
    refine j_A_call (j := 210) (As := [.int a, .int (Int32.ofNat (ri_strl.getD (1105 - 1100) 0))]) (fr' := (211, 6, [some (.ref 1105), some (.int a)], [])) (S' := S) 4 rfl (e := 1) (by omega) (j_A_imp (j_wt210 a (Int32.ofNat (ri_strl.getD (1105 - 1100) 0)) h) (fun v S1 hq => ?_))
    obtain ⟨hv, h⟩ := hq
    subst hv
    refine j_A_ix a (ri_strl.getD (1105 - 1100) 0) (r1 := ((211, 9, [some (.ref 1105), some (.int a)], [.int ((ri_strb.getD (1105 - 1100) []).getD (a).toNatClampNeg 0)]), S1)) 3 rfl h.1 ?_
    have h := h.2
    exact j_A_ret 4 (m := 211) (v := some (.int (((((ri_strb.getD (1105 - 1100) []).getD (a).toNatClampNeg 0) &&& (255 : Int32))).toUInt32 % 65536).toInt32)) (S' := S1) rfl h.1 ⟨_, rfl, h.2⟩
  · unfold w211 at h
    show j_ri_A E 2 (211, 0, [some (.ref 1106), some (.int a)], []) S (Qi Q)
    refine j_A_call (j := 210) (As := [.int a, .int (Int32.ofNat (ri_strl.getD (1106 - 1100) 0))]) (fr' := (211, 6, [some (.ref 1106), some (.int a)], [])) (S' := S) 4 rfl (e := 1) (by omega) (j_A_imp (j_wt210 a (Int32.ofNat (ri_strl.getD (1106 - 1100) 0)) h) (fun v S1 hq => ?_))
    obtain ⟨hv, h⟩ := hq
    subst hv
    refine j_A_ix a (ri_strl.getD (1106 - 1100) 0) (r1 := ((211, 9, [some (.ref 1106), some (.int a)], [.int ((ri_strb.getD (1106 - 1100) []).getD (a).toNatClampNeg 0)]), S1)) 3 rfl h.1 ?_
    have h := h.2
    exact j_A_ret 4 (m := 211) (v := some (.int (((((ri_strb.getD (1106 - 1100) []).getD (a).toNatClampNeg 0) &&& (255 : Int32))).toUInt32 % 65536).toInt32)) (S' := S1) rfl h.1 ⟨_, rfl, h.2⟩
  · unfold w211 at h
    show j_ri_A E 2 (211, 0, [some (.ref 1107), some (.int a)], []) S (Qi Q)
    refine j_A_call (j := 210) (As := [.int a, .int (Int32.ofNat (ri_strl.getD (1107 - 1100) 0))]) (fr' := (211, 6, [some (.ref 1107), some (.int a)], [])) (S' := S) 4 rfl (e := 1) (by omega) (j_A_imp (j_wt210 a (Int32.ofNat (ri_strl.getD (1107 - 1100) 0)) h) (fun v S1 hq => ?_))
    obtain ⟨hv, h⟩ := hq
    subst hv
    refine j_A_ix a (ri_strl.getD (1107 - 1100) 0) (r1 := ((211, 9, [some (.ref 1107), some (.int a)], [.int ((ri_strb.getD (1107 - 1100) []).getD (a).toNatClampNeg 0)]), S1)) 3 rfl h.1 ?_
    have h := h.2
    exact j_A_ret 4 (m := 211) (v := some (.int (((((ri_strb.getD (1107 - 1100) []).getD (a).toNatClampNeg 0) &&& (255 : Int32))).toUInt32 % 65536).toInt32)) (S' := S1) rfl h.1 ⟨_, rfl, h.2⟩
  · unfold w211 at h
    show j_ri_A E 2 (211, 0, [some (.ref 1108), some (.int a)], []) S (Qi Q)
    refine j_A_call (j := 210) (As := [.int a, .int (Int32.ofNat (ri_strl.getD (1108 - 1100) 0))]) (fr' := (211, 6, [some (.ref 1108), some (.int a)], [])) (S' := S) 4 rfl (e := 1) (by omega) (j_A_imp (j_wt210 a (Int32.ofNat (ri_strl.getD (1108 - 1100) 0)) h) (fun v S1 hq => ?_))
    obtain ⟨hv, h⟩ := hq
    subst hv
    refine j_A_ix a (ri_strl.getD (1108 - 1100) 0) (r1 := ((211, 9, [some (.ref 1108), some (.int a)], [.int ((ri_strb.getD (1108 - 1100) []).getD (a).toNatClampNeg 0)]), S1)) 3 rfl h.1 ?_
    have h := h.2
    exact j_A_ret 4 (m := 211) (v := some (.int (((((ri_strb.getD (1108 - 1100) []).getD (a).toNatClampNeg 0) &&& (255 : Int32))).toUInt32 % 65536).toInt32)) (S' := S1) rfl h.1 ⟨_, rfl, h.2⟩
  · unfold w211 at h
    show j_ri_A E 2 (211, 0, [some (.ref 1109), some (.int a)], []) S (Qi Q)
    refine j_A_call (j := 210) (As := [.int a, .int (Int32.ofNat (ri_strl.getD (1109 - 1100) 0))]) (fr' := (211, 6, [some (.ref 1109), some (.int a)], [])) (S' := S) 4 rfl (e := 1) (by omega) (j_A_imp (j_wt210 a (Int32.ofNat (ri_strl.getD (1109 - 1100) 0)) h) (fun v S1 hq => ?_))
    obtain ⟨hv, h⟩ := hq
    subst hv
    refine j_A_ix a (ri_strl.getD (1109 - 1100) 0) (r1 := ((211, 9, [some (.ref 1109), some (.int a)], [.int ((ri_strb.getD (1109 - 1100) []).getD (a).toNatClampNeg 0)]), S1)) 3 rfl h.1 ?_
    have h := h.2
    exact j_A_ret 4 (m := 211) (v := some (.int (((((ri_strb.getD (1109 - 1100) []).getD (a).toNatClampNeg 0) &&& (255 : Int32))).toUInt32 % 65536).toInt32)) (S' := S1) rfl h.1 ⟨_, rfl, h.2⟩
  · unfold w211 at h
    show j_ri_A E 2 (211, 0, [some (.ref 1110), some (.int a)], []) S (Qi Q)
    refine j_A_call (j := 210) (As := [.int a, .int (Int32.ofNat (ri_strl.getD (1110 - 1100) 0))]) (fr' := (211, 6, [some (.ref 1110), some (.int a)], [])) (S' := S) 4 rfl (e := 1) (by omega) (j_A_imp (j_wt210 a (Int32.ofNat (ri_strl.getD (1110 - 1100) 0)) h) (fun v S1 hq => ?_))
    obtain ⟨hv, h⟩ := hq
    subst hv
    refine j_A_ix a (ri_strl.getD (1110 - 1100) 0) (r1 := ((211, 9, [some (.ref 1110), some (.int a)], [.int ((ri_strb.getD (1110 - 1100) []).getD (a).toNatClampNeg 0)]), S1)) 3 rfl h.1 ?_
    have h := h.2
    exact j_A_ret 4 (m := 211) (v := some (.int (((((ri_strb.getD (1110 - 1100) []).getD (a).toNatClampNeg 0) &&& (255 : Int32))).toUInt32 % 65536).toInt32)) (S' := S1) rfl h.1 ⟨_, rfl, h.2⟩
  · unfold w211 at h
    show j_ri_A E 2 (211, 0, [some (.ref 1111), some (.int a)], []) S (Qi Q)
    refine j_A_call (j := 210) (As := [.int a, .int (Int32.ofNat (ri_strl.getD (1111 - 1100) 0))]) (fr' := (211, 6, [some (.ref 1111), some (.int a)], [])) (S' := S) 4 rfl (e := 1) (by omega) (j_A_imp (j_wt210 a (Int32.ofNat (ri_strl.getD (1111 - 1100) 0)) h) (fun v S1 hq => ?_))
    obtain ⟨hv, h⟩ := hq
    subst hv
    refine j_A_ix a (ri_strl.getD (1111 - 1100) 0) (r1 := ((211, 9, [some (.ref 1111), some (.int a)], [.int ((ri_strb.getD (1111 - 1100) []).getD (a).toNatClampNeg 0)]), S1)) 3 rfl h.1 ?_
    have h := h.2
    exact j_A_ret 4 (m := 211) (v := some (.int (((((ri_strb.getD (1111 - 1100) []).getD (a).toNatClampNeg 0) &&& (255 : Int32))).toUInt32 % 65536).toInt32)) (S' := S1) rfl h.1 ⟨_, rfl, h.2⟩
  · unfold w211 at h
    show j_ri_A E 2 (211, 0, [some (.ref 1112), some (.int a)], []) S (Qi Q)
    refine j_A_call (j := 210) (As := [.int a, .int (Int32.ofNat (ri_strl.getD (1112 - 1100) 0))]) (fr' := (211, 6, [some (.ref 1112), some (.int a)], [])) (S' := S) 4 rfl (e := 1) (by omega) (j_A_imp (j_wt210 a (Int32.ofNat (ri_strl.getD (1112 - 1100) 0)) h) (fun v S1 hq => ?_))
    obtain ⟨hv, h⟩ := hq
    subst hv
    refine j_A_ix a (ri_strl.getD (1112 - 1100) 0) (r1 := ((211, 9, [some (.ref 1112), some (.int a)], [.int ((ri_strb.getD (1112 - 1100) []).getD (a).toNatClampNeg 0)]), S1)) 3 rfl h.1 ?_
    have h := h.2
    exact j_A_ret 4 (m := 211) (v := some (.int (((((ri_strb.getD (1112 - 1100) []).getD (a).toNatClampNeg 0) &&& (255 : Int32))).toUInt32 % 65536).toInt32)) (S' := S1) rfl h.1 ⟨_, rfl, h.2⟩
set_option maxRecDepth 10000 in
set_option maxHeartbeats 1000000 in
theorem j_wt207 {E : ri_E} (t : Nat) (hw : t = 1000 ∨ t = 1001 ∨ t = 1002 ∨ t = 1003 ∨ t = 1004 ∨ t = 1005 ∨ t = 1006 ∨ t = 1007 ∨ t = 1008 ∨ t = 1009 ∨ t = 1010 ∨ t = 1011 ∨ t = 1012) (a : Int32) {S : ri_H} {Q : Int32 → ri_H → Prop} (h : w207 t a S Q) : j_ri_A E 3 (ri_en 207 [.ref t, .int a]) S (Qi Q) := by
  rcases hw with rfl | rfl | rfl | rfl | rfl | rfl | rfl | rfl | rfl | rfl | rfl | rfl | rfl
  · unfold w207 at h
    show j_ri_A E 3 (207, 0, [some (.ref 1000), some (.int a)], []) S (Qi Q)
    refine j_A_call (j := 209) (As := [.ref 1000]) (fr' := (207, 4, [some (.ref 1000), some (.int a)], [])) (S' := S) 2 rfl (e := 0) (by omega) (j_A_imp (j_wt209 1000 (by decide)  h) (fun v S1 hq => ?_))
    obtain ⟨r2, hv, h⟩ := hq
    subst hv
    refine j_A_br (r2 = 0) (r1 := ((207, 16, [some (.ref 1000), some (.int a)], []), S1)) (r2 := ((207, 7, [some (.ref 1000), some (.int a)], []), S1)) 1 rfl (fun c => ?_) (fun c => ?_)
    · have h := h.1 c
      exact h.elim
    · have h := h.2 c
      refine j_A_call (j := 211) (As := [.ref 1100, .int a]) (fr' := (207, 15, [some (.ref 1000), some (.int a)], [])) (S' := S1) 4 rfl (e := 2) (by omega) (j_A_imp (j_wt211 1100 (by decide) a h) (fun v S3 hq => ?_))
      obtain ⟨r4, hv, h⟩ := hq
      subst hv
      exact j_A_ret 1 (m := 207) (v := some (.int r4)) (S' := S3) rfl h.1 ⟨_, rfl, h.2⟩
  · unfold w207 at h
    show j_ri_A E 3 (207, 0, [some (.ref 1001), some (.int a)], []) S (Qi Q)
    refine j_A_call (j := 209) (As := [.ref 1001]) (fr' := (207, 4, [some (.ref 1001), some (.int a)], [])) (S' := S) 2 rfl (e := 0) (by omega) (j_A_imp (j_wt209 1001 (by decide)  h) (fun v S1 hq => ?_))
    obtain ⟨r2, hv, h⟩ := hq
    subst hv
    refine j_A_br (r2 = 0) (r1 := ((207, 16, [some (.ref 1001), some (.int a)], []), S1)) (r2 := ((207, 7, [some (.ref 1001), some (.int a)], []), S1)) 1 rfl (fun c => ?_) (fun c => ?_)
    · have h := h.1 c
      exact h.elim
    · have h := h.2 c
      refine j_A_call (j := 211) (As := [.ref 1101, .int a]) (fr' := (207, 15, [some (.ref 1001), some (.int a)], [])) (S' := S1) 4 rfl (e := 2) (by omega) (j_A_imp (j_wt211 1101 (by decide) a h) (fun v S3 hq => ?_))
      obtain ⟨r4, hv, h⟩ := hq
      subst hv
      exact j_A_ret 1 (m := 207) (v := some (.int r4)) (S' := S3) rfl h.1 ⟨_, rfl, h.2⟩
  · unfold w207 at h
    show j_ri_A E 3 (207, 0, [some (.ref 1002), some (.int a)], []) S (Qi Q)
    refine j_A_call (j := 209) (As := [.ref 1002]) (fr' := (207, 4, [some (.ref 1002), some (.int a)], [])) (S' := S) 2 rfl (e := 0) (by omega) (j_A_imp (j_wt209 1002 (by decide)  h) (fun v S1 hq => ?_))
    obtain ⟨r2, hv, h⟩ := hq
    subst hv
    refine j_A_br (r2 = 0) (r1 := ((207, 16, [some (.ref 1002), some (.int a)], []), S1)) (r2 := ((207, 7, [some (.ref 1002), some (.int a)], []), S1)) 1 rfl (fun c => ?_) (fun c => ?_)
    · have h := h.1 c
      exact h.elim
    · have h := h.2 c
      refine j_A_call (j := 211) (As := [.ref 1102, .int a]) (fr' := (207, 15, [some (.ref 1002), some (.int a)], [])) (S' := S1) 4 rfl (e := 2) (by omega) (j_A_imp (j_wt211 1102 (by decide) a h) (fun v S3 hq => ?_))
      obtain ⟨r4, hv, h⟩ := hq
      subst hv
      exact j_A_ret 1 (m := 207) (v := some (.int r4)) (S' := S3) rfl h.1 ⟨_, rfl, h.2⟩
  · unfold w207 at h
    show j_ri_A E 3 (207, 0, [some (.ref 1003), some (.int a)], []) S (Qi Q)
    refine j_A_call (j := 209) (As := [.ref 1003]) (fr' := (207, 4, [some (.ref 1003), some (.int a)], [])) (S' := S) 2 rfl (e := 0) (by omega) (j_A_imp (j_wt209 1003 (by decide)  h) (fun v S1 hq => ?_))
    obtain ⟨r2, hv, h⟩ := hq
    subst hv
    refine j_A_br (r2 = 0) (r1 := ((207, 16, [some (.ref 1003), some (.int a)], []), S1)) (r2 := ((207, 7, [some (.ref 1003), some (.int a)], []), S1)) 1 rfl (fun c => ?_) (fun c => ?_)
    · have h := h.1 c
      exact h.elim
    · have h := h.2 c
      refine j_A_call (j := 211) (As := [.ref 1103, .int a]) (fr' := (207, 15, [some (.ref 1003), some (.int a)], [])) (S' := S1) 4 rfl (e := 2) (by omega) (j_A_imp (j_wt211 1103 (by decide) a h) (fun v S3 hq => ?_))
      obtain ⟨r4, hv, h⟩ := hq
      subst hv
      exact j_A_ret 1 (m := 207) (v := some (.int r4)) (S' := S3) rfl h.1 ⟨_, rfl, h.2⟩
  · unfold w207 at h
    show j_ri_A E 3 (207, 0, [some (.ref 1004), some (.int a)], []) S (Qi Q)
    refine j_A_call (j := 209) (As := [.ref 1004]) (fr' := (207, 4, [some (.ref 1004), some (.int a)], [])) (S' := S) 2 rfl (e := 0) (by omega) (j_A_imp (j_wt209 1004 (by decide)  h) (fun v S1 hq => ?_))
    obtain ⟨r2, hv, h⟩ := hq
    subst hv
    refine j_A_br (r2 = 0) (r1 := ((207, 16, [some (.ref 1004), some (.int a)], []), S1)) (r2 := ((207, 7, [some (.ref 1004), some (.int a)], []), S1)) 1 rfl (fun c => ?_) (fun c => ?_)
    · have h := h.1 c
      exact h.elim
    · have h := h.2 c
      refine j_A_call (j := 211) (As := [.ref 1104, .int a]) (fr' := (207, 15, [some (.ref 1004), some (.int a)], [])) (S' := S1) 4 rfl (e := 2) (by omega) (j_A_imp (j_wt211 1104 (by decide) a h) (fun v S3 hq => ?_))
      obtain ⟨r4, hv, h⟩ := hq
      subst hv
      exact j_A_ret 1 (m := 207) (v := some (.int r4)) (S' := S3) rfl h.1 ⟨_, rfl, h.2⟩
  · unfold w207 at h
    show j_ri_A E 3 (207, 0, [some (.ref 1005), some (.int a)], []) S (Qi Q)
    refine j_A_call (j := 209) (As := [.ref 1005]) (fr' := (207, 4, [some (.ref 1005), some (.int a)], [])) (S' := S) 2 rfl (e := 0) (by omega) (j_A_imp (j_wt209 1005 (by decide)  h) (fun v S1 hq => ?_))
    obtain ⟨r2, hv, h⟩ := hq
    subst hv
    refine j_A_br (r2 = 0) (r1 := ((207, 16, [some (.ref 1005), some (.int a)], []), S1)) (r2 := ((207, 7, [some (.ref 1005), some (.int a)], []), S1)) 1 rfl (fun c => ?_) (fun c => ?_)
    · have h := h.1 c
      exact h.elim
    · have h := h.2 c
      refine j_A_call (j := 211) (As := [.ref 1105, .int a]) (fr' := (207, 15, [some (.ref 1005), some (.int a)], [])) (S' := S1) 4 rfl (e := 2) (by omega) (j_A_imp (j_wt211 1105 (by decide) a h) (fun v S3 hq => ?_))
      obtain ⟨r4, hv, h⟩ := hq
      subst hv
      exact j_A_ret 1 (m := 207) (v := some (.int r4)) (S' := S3) rfl h.1 ⟨_, rfl, h.2⟩
  · unfold w207 at h
    show j_ri_A E 3 (207, 0, [some (.ref 1006), some (.int a)], []) S (Qi Q)
    refine j_A_call (j := 209) (As := [.ref 1006]) (fr' := (207, 4, [some (.ref 1006), some (.int a)], [])) (S' := S) 2 rfl (e := 0) (by omega) (j_A_imp (j_wt209 1006 (by decide)  h) (fun v S1 hq => ?_))
    obtain ⟨r2, hv, h⟩ := hq
    subst hv
    refine j_A_br (r2 = 0) (r1 := ((207, 16, [some (.ref 1006), some (.int a)], []), S1)) (r2 := ((207, 7, [some (.ref 1006), some (.int a)], []), S1)) 1 rfl (fun c => ?_) (fun c => ?_)
    · have h := h.1 c
      exact h.elim
    · have h := h.2 c
      refine j_A_call (j := 211) (As := [.ref 1106, .int a]) (fr' := (207, 15, [some (.ref 1006), some (.int a)], [])) (S' := S1) 4 rfl (e := 2) (by omega) (j_A_imp (j_wt211 1106 (by decide) a h) (fun v S3 hq => ?_))
      obtain ⟨r4, hv, h⟩ := hq
      subst hv
      exact j_A_ret 1 (m := 207) (v := some (.int r4)) (S' := S3) rfl h.1 ⟨_, rfl, h.2⟩
  · unfold w207 at h
    show j_ri_A E 3 (207, 0, [some (.ref 1007), some (.int a)], []) S (Qi Q)
    refine j_A_call (j := 209) (As := [.ref 1007]) (fr' := (207, 4, [some (.ref 1007), some (.int a)], [])) (S' := S) 2 rfl (e := 0) (by omega) (j_A_imp (j_wt209 1007 (by decide)  h) (fun v S1 hq => ?_))
    obtain ⟨r2, hv, h⟩ := hq
    subst hv
    refine j_A_br (r2 = 0) (r1 := ((207, 16, [some (.ref 1007), some (.int a)], []), S1)) (r2 := ((207, 7, [some (.ref 1007), some (.int a)], []), S1)) 1 rfl (fun c => ?_) (fun c => ?_)
    · have h := h.1 c
      exact h.elim
    · have h := h.2 c
      refine j_A_call (j := 211) (As := [.ref 1107, .int a]) (fr' := (207, 15, [some (.ref 1007), some (.int a)], [])) (S' := S1) 4 rfl (e := 2) (by omega) (j_A_imp (j_wt211 1107 (by decide) a h) (fun v S3 hq => ?_))
      obtain ⟨r4, hv, h⟩ := hq
      subst hv
      exact j_A_ret 1 (m := 207) (v := some (.int r4)) (S' := S3) rfl h.1 ⟨_, rfl, h.2⟩
  · unfold w207 at h
    show j_ri_A E 3 (207, 0, [some (.ref 1008), some (.int a)], []) S (Qi Q)
    refine j_A_call (j := 209) (As := [.ref 1008]) (fr' := (207, 4, [some (.ref 1008), some (.int a)], [])) (S' := S) 2 rfl (e := 0) (by omega) (j_A_imp (j_wt209 1008 (by decide)  h) (fun v S1 hq => ?_))
    obtain ⟨r2, hv, h⟩ := hq
    subst hv
    refine j_A_br (r2 = 0) (r1 := ((207, 16, [some (.ref 1008), some (.int a)], []), S1)) (r2 := ((207, 7, [some (.ref 1008), some (.int a)], []), S1)) 1 rfl (fun c => ?_) (fun c => ?_)
    · have h := h.1 c
      exact h.elim
    · have h := h.2 c
      refine j_A_call (j := 211) (As := [.ref 1108, .int a]) (fr' := (207, 15, [some (.ref 1008), some (.int a)], [])) (S' := S1) 4 rfl (e := 2) (by omega) (j_A_imp (j_wt211 1108 (by decide) a h) (fun v S3 hq => ?_))
      obtain ⟨r4, hv, h⟩ := hq
      subst hv
      exact j_A_ret 1 (m := 207) (v := some (.int r4)) (S' := S3) rfl h.1 ⟨_, rfl, h.2⟩
  · unfold w207 at h
    show j_ri_A E 3 (207, 0, [some (.ref 1009), some (.int a)], []) S (Qi Q)
    refine j_A_call (j := 209) (As := [.ref 1009]) (fr' := (207, 4, [some (.ref 1009), some (.int a)], [])) (S' := S) 2 rfl (e := 0) (by omega) (j_A_imp (j_wt209 1009 (by decide)  h) (fun v S1 hq => ?_))
    obtain ⟨r2, hv, h⟩ := hq
    subst hv
    refine j_A_br (r2 = 0) (r1 := ((207, 16, [some (.ref 1009), some (.int a)], []), S1)) (r2 := ((207, 7, [some (.ref 1009), some (.int a)], []), S1)) 1 rfl (fun c => ?_) (fun c => ?_)
    · have h := h.1 c
      exact h.elim
    · have h := h.2 c
      refine j_A_call (j := 211) (As := [.ref 1109, .int a]) (fr' := (207, 15, [some (.ref 1009), some (.int a)], [])) (S' := S1) 4 rfl (e := 2) (by omega) (j_A_imp (j_wt211 1109 (by decide) a h) (fun v S3 hq => ?_))
      obtain ⟨r4, hv, h⟩ := hq
      subst hv
      exact j_A_ret 1 (m := 207) (v := some (.int r4)) (S' := S3) rfl h.1 ⟨_, rfl, h.2⟩
  · unfold w207 at h
    show j_ri_A E 3 (207, 0, [some (.ref 1010), some (.int a)], []) S (Qi Q)
    refine j_A_call (j := 209) (As := [.ref 1010]) (fr' := (207, 4, [some (.ref 1010), some (.int a)], [])) (S' := S) 2 rfl (e := 0) (by omega) (j_A_imp (j_wt209 1010 (by decide)  h) (fun v S1 hq => ?_))
    obtain ⟨r2, hv, h⟩ := hq
    subst hv
    refine j_A_br (r2 = 0) (r1 := ((207, 16, [some (.ref 1010), some (.int a)], []), S1)) (r2 := ((207, 7, [some (.ref 1010), some (.int a)], []), S1)) 1 rfl (fun c => ?_) (fun c => ?_)
    · have h := h.1 c
      exact h.elim
    · have h := h.2 c
      refine j_A_call (j := 211) (As := [.ref 1110, .int a]) (fr' := (207, 15, [some (.ref 1010), some (.int a)], [])) (S' := S1) 4 rfl (e := 2) (by omega) (j_A_imp (j_wt211 1110 (by decide) a h) (fun v S3 hq => ?_))
      obtain ⟨r4, hv, h⟩ := hq
      subst hv
      exact j_A_ret 1 (m := 207) (v := some (.int r4)) (S' := S3) rfl h.1 ⟨_, rfl, h.2⟩
  · unfold w207 at h
    show j_ri_A E 3 (207, 0, [some (.ref 1011), some (.int a)], []) S (Qi Q)
    refine j_A_call (j := 209) (As := [.ref 1011]) (fr' := (207, 4, [some (.ref 1011), some (.int a)], [])) (S' := S) 2 rfl (e := 0) (by omega) (j_A_imp (j_wt209 1011 (by decide)  h) (fun v S1 hq => ?_))
    obtain ⟨r2, hv, h⟩ := hq
    subst hv
    refine j_A_br (r2 = 0) (r1 := ((207, 16, [some (.ref 1011), some (.int a)], []), S1)) (r2 := ((207, 7, [some (.ref 1011), some (.int a)], []), S1)) 1 rfl (fun c => ?_) (fun c => ?_)
    · have h := h.1 c
      exact h.elim
    · have h := h.2 c
      refine j_A_call (j := 211) (As := [.ref 1111, .int a]) (fr' := (207, 15, [some (.ref 1011), some (.int a)], [])) (S' := S1) 4 rfl (e := 2) (by omega) (j_A_imp (j_wt211 1111 (by decide) a h) (fun v S3 hq => ?_))
      obtain ⟨r4, hv, h⟩ := hq
      subst hv
      exact j_A_ret 1 (m := 207) (v := some (.int r4)) (S' := S3) rfl h.1 ⟨_, rfl, h.2⟩
  · unfold w207 at h
    show j_ri_A E 3 (207, 0, [some (.ref 1012), some (.int a)], []) S (Qi Q)
    refine j_A_call (j := 209) (As := [.ref 1012]) (fr' := (207, 4, [some (.ref 1012), some (.int a)], [])) (S' := S) 2 rfl (e := 0) (by omega) (j_A_imp (j_wt209 1012 (by decide)  h) (fun v S1 hq => ?_))
    obtain ⟨r2, hv, h⟩ := hq
    subst hv
    refine j_A_br (r2 = 0) (r1 := ((207, 16, [some (.ref 1012), some (.int a)], []), S1)) (r2 := ((207, 7, [some (.ref 1012), some (.int a)], []), S1)) 1 rfl (fun c => ?_) (fun c => ?_)
    · have h := h.1 c
      exact h.elim
    · have h := h.2 c
      refine j_A_call (j := 211) (As := [.ref 1112, .int a]) (fr' := (207, 15, [some (.ref 1012), some (.int a)], [])) (S' := S1) 4 rfl (e := 2) (by omega) (j_A_imp (j_wt211 1112 (by decide) a h) (fun v S3 hq => ?_))
      obtain ⟨r4, hv, h⟩ := hq
      subst hv
      exact j_A_ret 1 (m := 207) (v := some (.int r4)) (S' := S3) rfl h.1 ⟨_, rfl, h.2⟩
set_option maxRecDepth 10000 in
set_option maxHeartbeats 1000000 in
theorem j_wt206 {E : ri_E} (t : Nat) (hw : t = 1000 ∨ t = 1001 ∨ t = 1002 ∨ t = 1003 ∨ t = 1004 ∨ t = 1005 ∨ t = 1006 ∨ t = 1007 ∨ t = 1008 ∨ t = 1009 ∨ t = 1010 ∨ t = 1011 ∨ t = 1012)  {S : ri_H} {Q : Int32 → ri_H → Prop} (h : w206 t  S Q) : j_ri_A E 1 (ri_en 206 [.ref t]) S (Qi Q) := by
  rcases hw with rfl | rfl | rfl | rfl | rfl | rfl | rfl | rfl | rfl | rfl | rfl | rfl | rfl
  · unfold w206 at h
    show j_ri_A E 1 (206, 0, [some (.ref 1000)], []) S (Qi Q)
    refine j_A_call (j := 208) (As := [.ref 1000]) (fr' := (206, 9, [some (.ref 1000)], [.int (Int32.ofNat (ri_strl.getD (1100 - 1100) 0))])) (S' := S) 5 rfl (e := 0) (by omega) (j_A_imp (j_wt208 1000 (by decide)  h) (fun v S1 hq => ?_))
    obtain ⟨r2, hv, h⟩ := hq
    subst hv
    exact j_A_ret 2 (m := 206) (v := some (.int ((Int32.ofNat (ri_strl.getD (1100 - 1100) 0)) >>> (r2 &&& 31)))) (S' := S1) rfl rfl ⟨_, rfl, h⟩
  · unfold w206 at h
    show j_ri_A E 1 (206, 0, [some (.ref 1001)], []) S (Qi Q)
    refine j_A_call (j := 208) (As := [.ref 1001]) (fr' := (206, 9, [some (.ref 1001)], [.int (Int32.ofNat (ri_strl.getD (1101 - 1100) 0))])) (S' := S) 5 rfl (e := 0) (by omega) (j_A_imp (j_wt208 1001 (by decide)  h) (fun v S1 hq => ?_))
    obtain ⟨r2, hv, h⟩ := hq
    subst hv
    exact j_A_ret 2 (m := 206) (v := some (.int ((Int32.ofNat (ri_strl.getD (1101 - 1100) 0)) >>> (r2 &&& 31)))) (S' := S1) rfl rfl ⟨_, rfl, h⟩
  · unfold w206 at h
    show j_ri_A E 1 (206, 0, [some (.ref 1002)], []) S (Qi Q)
    refine j_A_call (j := 208) (As := [.ref 1002]) (fr' := (206, 9, [some (.ref 1002)], [.int (Int32.ofNat (ri_strl.getD (1102 - 1100) 0))])) (S' := S) 5 rfl (e := 0) (by omega) (j_A_imp (j_wt208 1002 (by decide)  h) (fun v S1 hq => ?_))
    obtain ⟨r2, hv, h⟩ := hq
    subst hv
    exact j_A_ret 2 (m := 206) (v := some (.int ((Int32.ofNat (ri_strl.getD (1102 - 1100) 0)) >>> (r2 &&& 31)))) (S' := S1) rfl rfl ⟨_, rfl, h⟩
  · unfold w206 at h
    show j_ri_A E 1 (206, 0, [some (.ref 1003)], []) S (Qi Q)
    refine j_A_call (j := 208) (As := [.ref 1003]) (fr' := (206, 9, [some (.ref 1003)], [.int (Int32.ofNat (ri_strl.getD (1103 - 1100) 0))])) (S' := S) 5 rfl (e := 0) (by omega) (j_A_imp (j_wt208 1003 (by decide)  h) (fun v S1 hq => ?_))
    obtain ⟨r2, hv, h⟩ := hq
    subst hv
    exact j_A_ret 2 (m := 206) (v := some (.int ((Int32.ofNat (ri_strl.getD (1103 - 1100) 0)) >>> (r2 &&& 31)))) (S' := S1) rfl rfl ⟨_, rfl, h⟩
  · unfold w206 at h
    show j_ri_A E 1 (206, 0, [some (.ref 1004)], []) S (Qi Q)
    refine j_A_call (j := 208) (As := [.ref 1004]) (fr' := (206, 9, [some (.ref 1004)], [.int (Int32.ofNat (ri_strl.getD (1104 - 1100) 0))])) (S' := S) 5 rfl (e := 0) (by omega) (j_A_imp (j_wt208 1004 (by decide)  h) (fun v S1 hq => ?_))
    obtain ⟨r2, hv, h⟩ := hq
    subst hv
    exact j_A_ret 2 (m := 206) (v := some (.int ((Int32.ofNat (ri_strl.getD (1104 - 1100) 0)) >>> (r2 &&& 31)))) (S' := S1) rfl rfl ⟨_, rfl, h⟩
  · unfold w206 at h
    show j_ri_A E 1 (206, 0, [some (.ref 1005)], []) S (Qi Q)
    refine j_A_call (j := 208) (As := [.ref 1005]) (fr' := (206, 9, [some (.ref 1005)], [.int (Int32.ofNat (ri_strl.getD (1105 - 1100) 0))])) (S' := S) 5 rfl (e := 0) (by omega) (j_A_imp (j_wt208 1005 (by decide)  h) (fun v S1 hq => ?_))
    obtain ⟨r2, hv, h⟩ := hq
    subst hv
    exact j_A_ret 2 (m := 206) (v := some (.int ((Int32.ofNat (ri_strl.getD (1105 - 1100) 0)) >>> (r2 &&& 31)))) (S' := S1) rfl rfl ⟨_, rfl, h⟩
  · unfold w206 at h
    show j_ri_A E 1 (206, 0, [some (.ref 1006)], []) S (Qi Q)
    refine j_A_call (j := 208) (As := [.ref 1006]) (fr' := (206, 9, [some (.ref 1006)], [.int (Int32.ofNat (ri_strl.getD (1106 - 1100) 0))])) (S' := S) 5 rfl (e := 0) (by omega) (j_A_imp (j_wt208 1006 (by decide)  h) (fun v S1 hq => ?_))
    obtain ⟨r2, hv, h⟩ := hq
    subst hv
    exact j_A_ret 2 (m := 206) (v := some (.int ((Int32.ofNat (ri_strl.getD (1106 - 1100) 0)) >>> (r2 &&& 31)))) (S' := S1) rfl rfl ⟨_, rfl, h⟩
  · unfold w206 at h
    show j_ri_A E 1 (206, 0, [some (.ref 1007)], []) S (Qi Q)
    refine j_A_call (j := 208) (As := [.ref 1007]) (fr' := (206, 9, [some (.ref 1007)], [.int (Int32.ofNat (ri_strl.getD (1107 - 1100) 0))])) (S' := S) 5 rfl (e := 0) (by omega) (j_A_imp (j_wt208 1007 (by decide)  h) (fun v S1 hq => ?_))
    obtain ⟨r2, hv, h⟩ := hq
    subst hv
    exact j_A_ret 2 (m := 206) (v := some (.int ((Int32.ofNat (ri_strl.getD (1107 - 1100) 0)) >>> (r2 &&& 31)))) (S' := S1) rfl rfl ⟨_, rfl, h⟩
  · unfold w206 at h
    show j_ri_A E 1 (206, 0, [some (.ref 1008)], []) S (Qi Q)
    refine j_A_call (j := 208) (As := [.ref 1008]) (fr' := (206, 9, [some (.ref 1008)], [.int (Int32.ofNat (ri_strl.getD (1108 - 1100) 0))])) (S' := S) 5 rfl (e := 0) (by omega) (j_A_imp (j_wt208 1008 (by decide)  h) (fun v S1 hq => ?_))
    obtain ⟨r2, hv, h⟩ := hq
    subst hv
    exact j_A_ret 2 (m := 206) (v := some (.int ((Int32.ofNat (ri_strl.getD (1108 - 1100) 0)) >>> (r2 &&& 31)))) (S' := S1) rfl rfl ⟨_, rfl, h⟩
  · unfold w206 at h
    show j_ri_A E 1 (206, 0, [some (.ref 1009)], []) S (Qi Q)
    refine j_A_call (j := 208) (As := [.ref 1009]) (fr' := (206, 9, [some (.ref 1009)], [.int (Int32.ofNat (ri_strl.getD (1109 - 1100) 0))])) (S' := S) 5 rfl (e := 0) (by omega) (j_A_imp (j_wt208 1009 (by decide)  h) (fun v S1 hq => ?_))
    obtain ⟨r2, hv, h⟩ := hq
    subst hv
    exact j_A_ret 2 (m := 206) (v := some (.int ((Int32.ofNat (ri_strl.getD (1109 - 1100) 0)) >>> (r2 &&& 31)))) (S' := S1) rfl rfl ⟨_, rfl, h⟩
  · unfold w206 at h
    show j_ri_A E 1 (206, 0, [some (.ref 1010)], []) S (Qi Q)
    refine j_A_call (j := 208) (As := [.ref 1010]) (fr' := (206, 9, [some (.ref 1010)], [.int (Int32.ofNat (ri_strl.getD (1110 - 1100) 0))])) (S' := S) 5 rfl (e := 0) (by omega) (j_A_imp (j_wt208 1010 (by decide)  h) (fun v S1 hq => ?_))
    obtain ⟨r2, hv, h⟩ := hq
    subst hv
    exact j_A_ret 2 (m := 206) (v := some (.int ((Int32.ofNat (ri_strl.getD (1110 - 1100) 0)) >>> (r2 &&& 31)))) (S' := S1) rfl rfl ⟨_, rfl, h⟩
  · unfold w206 at h
    show j_ri_A E 1 (206, 0, [some (.ref 1011)], []) S (Qi Q)
    refine j_A_call (j := 208) (As := [.ref 1011]) (fr' := (206, 9, [some (.ref 1011)], [.int (Int32.ofNat (ri_strl.getD (1111 - 1100) 0))])) (S' := S) 5 rfl (e := 0) (by omega) (j_A_imp (j_wt208 1011 (by decide)  h) (fun v S1 hq => ?_))
    obtain ⟨r2, hv, h⟩ := hq
    subst hv
    exact j_A_ret 2 (m := 206) (v := some (.int ((Int32.ofNat (ri_strl.getD (1111 - 1100) 0)) >>> (r2 &&& 31)))) (S' := S1) rfl rfl ⟨_, rfl, h⟩
  · unfold w206 at h
    show j_ri_A E 1 (206, 0, [some (.ref 1012)], []) S (Qi Q)
    refine j_A_call (j := 208) (As := [.ref 1012]) (fr' := (206, 9, [some (.ref 1012)], [.int (Int32.ofNat (ri_strl.getD (1112 - 1100) 0))])) (S' := S) 5 rfl (e := 0) (by omega) (j_A_imp (j_wt208 1012 (by decide)  h) (fun v S1 hq => ?_))
    obtain ⟨r2, hv, h⟩ := hq
    subst hv
    exact j_A_ret 2 (m := 206) (v := some (.int ((Int32.ofNat (ri_strl.getD (1112 - 1100) 0)) >>> (r2 &&& 31)))) (S' := S1) rfl rfl ⟨_, rfl, h⟩
set_option maxRecDepth 10000 in
set_option maxHeartbeats 1000000 in
theorem j_wt0 {E : ri_E} (a : Int32) {S : ri_H} {Q : Int32 → ri_H → Prop} (h : w0  a S Q) : j_ri_A E 1 (ri_en 0 [.ref 5, .int a]) S (Qi Q) := by
  unfold w0 at h
  show j_ri_A E 1 (0, 0, [some (.ref 5), some (.int a)], []) S (Qi Q)
  refine j_A_br ((S.1 5 4) < (160 : Int32)) (r1 := ((0, 13, [some (.ref 5), some (.int a)], []), S)) (r2 := ((0, 10, [some (.ref 5), some (.int a)], []), S)) 4 rfl (fun c => ?_) (fun c => ?_)
  · have h := h.1 c
    refine j_A_call (j := 99) (As := [.ref 6, .int (S.1 5 4), .int a]) (fr' := (0, 25, [some (.ref 5), some (.int a)], [])) (S' := S) 6 rfl (e := 0) (by omega) (j_sp_putItem 6 160 _ _ ⟨by decide, by decide, rfl⟩ (by decide) ?_)
    exact j_A_ret 9 (m := 0) (v := some (.int ((S.1 5 4) + (1 : Int32)))) (S' := (ri_wi (ri_wr S 6 (pu 160 (S.1 6) (S.1 5 4) a)) 5 4 ((S.1 5 4) + (1 : Int32)))) rfl rfl ⟨_, rfl, h⟩
  · have h := h.2 c
    exact j_A_ret 2 (m := 0) (v := some (.int (-4 : Int32))) (S' := S) rfl rfl ⟨_, rfl, h⟩
set_option maxRecDepth 10000 in
set_option maxHeartbeats 1000000 in
theorem j_wt9_b12 {E : ri_E} {Q : Int32 → ri_H → Prop}  (S : ri_H) (h : w9_b12   Q  S) : j_ri_A E 0 (9, 12, [none], []) S (Qi Q) := by
  unfold w9_b12 at h
  exact j_A_ret 3 (m := 9) (v := some (.int (1 : Int32))) (S' := S) rfl rfl ⟨_, rfl, h⟩
set_option maxRecDepth 10000 in
set_option maxHeartbeats 1000000 in
theorem j_wt9 {E : ri_E} (a : Int32) {S : ri_H} {Q : Int32 → ri_H → Prop} (h : w9  a S Q) : j_ri_A E 0 (ri_en 9 [.int a]) S (Qi Q) := by
  unfold w9 at h
  show j_ri_A E 0 (9, 0, [some (.int a)], []) S (Qi Q)
  refine j_A_br (a = (32 : Int32)) (r1 := ((9, 12, [some (.int a)], []), S)) (r2 := ((9, 6, [some (.int a)], []), S)) 3 rfl (fun c => ?_) (fun c => ?_)
  · have h := h.1 c
    refine j_ri_A.less (m := 9) (pc := 12) (L := [some (.int a)]) (L' := [none]) (st := []) trivial ?_
    exact j_wt9_b12   _ h
  · have h := h.2 c
    refine j_A_br (¬ a = (10 : Int32)) (r1 := ((9, 16, [some (.int a)], []), S)) (r2 := ((9, 12, [some (.int a)], []), S)) 3 rfl (fun c => ?_) (fun c => ?_)
    · have h := h.1 c
      exact j_A_ret 2 (m := 9) (v := some (.int (0 : Int32))) (S' := S) rfl rfl ⟨_, rfl, h⟩
    · have h := h.2 c
      refine j_ri_A.less (m := 9) (pc := 12) (L := [some (.int a)]) (L' := [none]) (st := []) trivial ?_
      exact j_wt9_b12   _ h
set_option maxRecDepth 10000 in
set_option maxHeartbeats 1000000 in
theorem j_wt10 {E : ri_E} (a : Int32) {S : ri_H} {Q : Int32 → ri_H → Prop} (h : w10  a S Q) : j_ri_A E 0 (ri_en 10 [.int a]) S (Qi Q) := by
  unfold w10 at h
  show j_ri_A E 0 (10, 0, [some (.int a)], []) S (Qi Q)
  refine j_A_br (a < (97 : Int32)) (r1 := ((10, 16, [some (.int a)], []), S)) (r2 := ((10, 6, [some (.int a)], []), S)) 3 rfl (fun c => ?_) (fun c => ?_)
  · have h := h.1 c
    exact j_A_ret 2 (m := 10) (v := some (.int (0 : Int32))) (S' := S) rfl rfl ⟨_, rfl, h⟩
  · have h := h.2 c
    refine j_A_br ((122 : Int32) < a) (r1 := ((10, 16, [some (.int a)], []), S)) (r2 := ((10, 12, [some (.int a)], []), S)) 3 rfl (fun c => ?_) (fun c => ?_)
    · have h := h.1 c
      exact j_A_ret 2 (m := 10) (v := some (.int (0 : Int32))) (S' := S) rfl rfl ⟨_, rfl, h⟩
    · have h := h.2 c
      exact j_A_ret 3 (m := 10) (v := some (.int (1 : Int32))) (S' := S) rfl rfl ⟨_, rfl, h⟩
set_option maxRecDepth 10000 in
set_option maxHeartbeats 1000000 in
theorem j_wt11 {E : ri_E} (a : Int32) {S : ri_H} {Q : Int32 → ri_H → Prop} (h : w11  a S Q) : j_ri_A E 0 (ri_en 11 [.int a]) S (Qi Q) := by
  unfold w11 at h
  show j_ri_A E 0 (11, 0, [some (.int a)], []) S (Qi Q)
  refine j_A_br (a < (48 : Int32)) (r1 := ((11, 16, [some (.int a)], []), S)) (r2 := ((11, 6, [some (.int a)], []), S)) 3 rfl (fun c => ?_) (fun c => ?_)
  · have h := h.1 c
    exact j_A_ret 2 (m := 11) (v := some (.int (0 : Int32))) (S' := S) rfl rfl ⟨_, rfl, h⟩
  · have h := h.2 c
    refine j_A_br ((57 : Int32) < a) (r1 := ((11, 16, [some (.int a)], []), S)) (r2 := ((11, 12, [some (.int a)], []), S)) 3 rfl (fun c => ?_) (fun c => ?_)
    · have h := h.1 c
      exact j_A_ret 2 (m := 11) (v := some (.int (0 : Int32))) (S' := S) rfl rfl ⟨_, rfl, h⟩
    · have h := h.2 c
      exact j_A_ret 3 (m := 11) (v := some (.int (1 : Int32))) (S' := S) rfl rfl ⟨_, rfl, h⟩
set_option maxRecDepth 10000 in
set_option maxHeartbeats 1000000 in
theorem j_wt4_b63 {E : ri_E} {K13 : Int32 → Int32 → ri_H → Prop} {Q : Int32 → ri_H → Prop} (hK13 : ∀ (x2 : Int32) (x3 : Int32) (S : ri_H), K13 x2 x3 S → j_ri_A E 1 (4, 13, [some (.ref 5), none, some (.int x2), some (.int x3)], []) S (Qi Q)) (x2 : Int32) (x3 : Int32) (S : ri_H) (h : w4_b63  K13 Q x2 x3 S) : j_ri_A E 1 (4, 63, [some (.ref 5), none, some (.int x2), some (.int x3)], []) S (Qi Q) := by
  unfold w4_b63 at h
  refine j_A_nx 2 (fr' := (4, 13, [some (.ref 5), none, some (.int x2), some (.int (x3 + (1 : Int32)))], [])) (S' := S) rfl ?_
  refine j_ri_A.less (m := 4) (pc := 13) (L := [some (.ref 5), none, some (.int x2), some (.int (x3 + (1 : Int32)))]) (L' := [some (.ref 5), none, some (.int x2), some (.int (x3 + (1 : Int32)))]) (st := []) ⟨rfl, ⟨rfl, ⟨rfl, trivial⟩⟩⟩ ?_
  exact hK13 _ _ _ h
set_option maxRecDepth 10000 in
set_option maxHeartbeats 1000000 in
theorem j_wt4_b42 {E : ri_E} {K13 : Int32 → Int32 → ri_H → Prop} {Q : Int32 → ri_H → Prop} (hK13 : ∀ (x2 : Int32) (x3 : Int32) (S : ri_H), K13 x2 x3 S → j_ri_A E 1 (4, 13, [some (.ref 5), none, some (.int x2), some (.int x3)], []) S (Qi Q)) (x2 : Int32) (x3 : Int32) (S : ri_H) (h : w4_b42  K13 Q x2 x3 S) : j_ri_A E 1 (4, 42, [some (.ref 5), none, some (.int x2), some (.int x3)], []) S (Qi Q) := by
  unfold w4_b42 at h
  refine j_A_call (j := 11) (As := [.int x2]) (fr' := (4, 46, [some (.ref 5), none, some (.int x2), some (.int x3)], [])) (S' := S) 2 rfl (e := 0) (by omega) (j_A_imp (j_wt11 x2 h) (fun v S3 hq => ?_))
  obtain ⟨r4, hv, h⟩ := hq
  subst hv
  refine j_A_br (r4 = 0) (r1 := ((4, 69, [some (.ref 5), none, some (.int x2), some (.int x3)], []), S3)) (r2 := ((4, 49, [some (.ref 5), none, some (.int x2), some (.int x3)], []), S3)) 1 rfl (fun c => ?_) (fun c => ?_)
  · have h := h.1 c
    exact j_A_ret 2 (m := 4) (v := some (.int x3)) (S' := S3) rfl rfl ⟨_, rfl, h⟩
  · have h := h.2 c
    refine j_A_call (j := 98) (As := [.ref 6, .int x3]) (fr' := (4, 57, [some (.ref 5), none, some (.int x2), some (.int x3)], [])) (S' := S3) 4 rfl (e := 0) (by omega) (j_sp_item 6 160 _ ⟨by decide, by decide, rfl⟩ (by decide) ?_)
    refine j_A_call (j := 11) (As := [.int (it (S3.1 6) 160 x3)]) (fr' := (4, 60, [some (.ref 5), none, some (.int x2), some (.int x3)], [])) (S' := S3) 1 rfl (e := 0) (by omega) (j_A_imp (j_wt11 (it (S3.1 6) 160 x3) h) (fun v S5 hq => ?_))
    obtain ⟨r6, hv, h⟩ := hq
    subst hv
    refine j_A_br (r6 = 0) (r1 := ((4, 69, [some (.ref 5), none, some (.int x2), some (.int x3)], []), S5)) (r2 := ((4, 63, [some (.ref 5), none, some (.int x2), some (.int x3)], []), S5)) 1 rfl (fun c => ?_) (fun c => ?_)
    · have h := h.1 c
      exact j_A_ret 2 (m := 4) (v := some (.int x3)) (S' := S5) rfl rfl ⟨_, rfl, h⟩
    · have h := h.2 c
      refine j_ri_A.less (m := 4) (pc := 63) (L := [some (.ref 5), none, some (.int x2), some (.int x3)]) (L' := [some (.ref 5), none, some (.int x2), some (.int x3)]) (st := []) ⟨rfl, ⟨rfl, ⟨rfl, trivial⟩⟩⟩ ?_
      exact j_wt4_b63  hK13 _ _ _ h
set_option maxRecDepth 10000 in
set_option maxHeartbeats 1000000 in
theorem j_wt4_l13 {E : ri_E} {Q : Int32 → ri_H → Prop} : ∀ (n : Nat) (x2 : Int32) (x3 : Int32) (S : ri_H), w4_l13   Q n x2 x3 S → j_ri_A E 1 (4, 13, [some (.ref 5), none, some (.int x2), some (.int x3)], []) S (Qi Q) := by
  intro n
  induction n with
  | zero => intro x2 x3 S h; exact h.elim
  | succ n ih =>
    intro x2 x3 S h
    unfold w4_l13 at h
    refine j_A_br ((S.1 5 4) ≤ x3) (r1 := ((4, 69, [some (.ref 5), none, some (.int x2), some (.int x3)], []), S)) (r2 := ((4, 21, [some (.ref 5), none, some (.int x2), some (.int x3)], []), S)) 4 rfl (fun c => ?_) (fun c => ?_)
    · have h := h.1 c
      exact j_A_ret 2 (m := 4) (v := some (.int x3)) (S' := S) rfl rfl ⟨_, rfl, h⟩
    · have h := h.2 c
      refine j_A_call (j := 10) (As := [.int x2]) (fr' := (4, 25, [some (.ref 5), none, some (.int x2), some (.int x3)], [])) (S' := S) 2 rfl (e := 0) (by omega) (j_A_imp (j_wt10 x2 h) (fun v S1 hq => ?_))
      obtain ⟨r2, hv, h⟩ := hq
      subst hv
      refine j_A_br (r2 = 0) (r1 := ((4, 42, [some (.ref 5), none, some (.int x2), some (.int x3)], []), S1)) (r2 := ((4, 28, [some (.ref 5), none, some (.int x2), some (.int x3)], []), S1)) 1 rfl (fun c => ?_) (fun c => ?_)
      · have h := h.1 c
        refine j_ri_A.less (m := 4) (pc := 42) (L := [some (.ref 5), none, some (.int x2), some (.int x3)]) (L' := [some (.ref 5), none, some (.int x2), some (.int x3)]) (st := []) ⟨rfl, ⟨rfl, ⟨rfl, trivial⟩⟩⟩ ?_
        exact j_wt4_b42  (fun x2 x3 S hk => ih x2 x3 S hk) _ _ _ h
      · have h := h.2 c
        refine j_A_call (j := 98) (As := [.ref 6, .int x3]) (fr' := (4, 36, [some (.ref 5), none, some (.int x2), some (.int x3)], [])) (S' := S1) 4 rfl (e := 0) (by omega) (j_sp_item 6 160 _ ⟨by decide, by decide, rfl⟩ (by decide) ?_)
        refine j_A_call (j := 10) (As := [.int (it (S1.1 6) 160 x3)]) (fr' := (4, 39, [some (.ref 5), none, some (.int x2), some (.int x3)], [])) (S' := S1) 1 rfl (e := 0) (by omega) (j_A_imp (j_wt10 (it (S1.1 6) 160 x3) h) (fun v S7 hq => ?_))
        obtain ⟨r8, hv, h⟩ := hq
        subst hv
        refine j_A_br (¬ r8 = 0) (r1 := ((4, 63, [some (.ref 5), none, some (.int x2), some (.int x3)], []), S7)) (r2 := ((4, 42, [some (.ref 5), none, some (.int x2), some (.int x3)], []), S7)) 1 rfl (fun c => ?_) (fun c => ?_)
        · have h := h.1 c
          refine j_ri_A.less (m := 4) (pc := 63) (L := [some (.ref 5), none, some (.int x2), some (.int x3)]) (L' := [some (.ref 5), none, some (.int x2), some (.int x3)]) (st := []) ⟨rfl, ⟨rfl, ⟨rfl, trivial⟩⟩⟩ ?_
          exact j_wt4_b63  (fun x2 x3 S hk => ih x2 x3 S hk) _ _ _ h
        · have h := h.2 c
          refine j_ri_A.less (m := 4) (pc := 42) (L := [some (.ref 5), none, some (.int x2), some (.int x3)]) (L' := [some (.ref 5), none, some (.int x2), some (.int x3)]) (st := []) ⟨rfl, ⟨rfl, ⟨rfl, trivial⟩⟩⟩ ?_
          exact j_wt4_b42  (fun x2 x3 S hk => ih x2 x3 S hk) _ _ _ h
set_option maxRecDepth 10000 in
set_option maxHeartbeats 1000000 in
theorem j_wt4 {E : ri_E} (a : Int32) {S : ri_H} {Q : Int32 → ri_H → Prop} (h : w4  a S Q) : j_ri_A E 1 (ri_en 4 [.ref 5, .int a]) S (Qi Q) := by
  unfold w4 at h
  show j_ri_A E 1 (4, 0, [some (.ref 5), some (.int a), none, none], []) S (Qi Q)
  refine j_A_call (j := 98) (As := [.ref 6, .int a]) (fr' := (4, 8, [some (.ref 5), some (.int a), none, none], [])) (S' := S) 4 rfl (e := 0) (by omega) (j_sp_item 6 160 _ ⟨by decide, by decide, rfl⟩ (by decide) ?_)
  refine j_A_nx 5 (fr' := (4, 13, [some (.ref 5), some (.int a), some (.int (it (S.1 6) 160 a)), some (.int (a + (1 : Int32)))], [])) (S' := S) rfl ?_
  refine j_ri_A.less (m := 4) (pc := 13) (L := [some (.ref 5), some (.int a), some (.int (it (S.1 6) 160 a)), some (.int (a + (1 : Int32)))]) (L' := [some (.ref 5), none, some (.int (it (S.1 6) 160 a)), some (.int (a + (1 : Int32)))]) (st := []) ⟨rfl, ⟨rfl, ⟨rfl, trivial⟩⟩⟩ ?_
  obtain ⟨nn, h⟩ := h
  exact j_wt4_l13   nn _ _ _ h
set_option maxRecDepth 10000 in
set_option maxHeartbeats 1000000 in
theorem j_wt8_l5 {E : ri_E} {Q : Int32 → ri_H → Prop} : ∀ (n : Nat) (x2 : Int32) (x3 : Int32) (x4 : Int32) (S : ri_H), w8_l5   Q n x2 x3 x4 S → j_ri_A E 1 (8, 5, [some (.ref 5), none, some (.int x2), some (.int x3), some (.int x4)], []) S (Qi Q) := by
  intro n
  induction n with
  | zero => intro x2 x3 x4 S h; exact h.elim
  | succ n ih =>
    intro x2 x3 x4 S h
    unfold w8_l5 at h
    refine j_A_br (x2 ≤ x4) (r1 := ((8, 35, [some (.ref 5), none, some (.int x2), some (.int x3), some (.int x4)], []), S)) (r2 := ((8, 11, [some (.ref 5), none, some (.int x2), some (.int x3), some (.int x4)], []), S)) 3 rfl (fun c => ?_) (fun c => ?_)
    · have h := h.1 c
      exact j_A_ret 2 (m := 8) (v := some (.int x3)) (S' := S) rfl rfl ⟨_, rfl, h⟩
    · have h := h.2 c
      refine j_A_call (j := 98) (As := [.ref 6, .int x4]) (fr' := (8, 24, [some (.ref 5), none, some (.int x2), some (.int x3), some (.int x4)], [.int (x3 * (10 : Int32))])) (S' := S) 7 rfl (e := 0) (by omega) (j_sp_item 6 160 _ ⟨by decide, by decide, rfl⟩ (by decide) ?_)
      refine j_A_nx 6 (fr' := (8, 5, [some (.ref 5), none, some (.int x2), some (.int (((x3 * (10 : Int32)) + (it (S.1 6) 160 x4)) - (48 : Int32))), some (.int (x4 + (1 : Int32)))], [])) (S' := S) rfl ?_
      refine j_ri_A.less (m := 8) (pc := 5) (L := [some (.ref 5), none, some (.int x2), some (.int (((x3 * (10 : Int32)) + (it (S.1 6) 160 x4)) - (48 : Int32))), some (.int (x4 + (1 : Int32)))]) (L' := [some (.ref 5), none, some (.int x2), some (.int (((x3 * (10 : Int32)) + (it (S.1 6) 160 x4)) - (48 : Int32))), some (.int (x4 + (1 : Int32)))]) (st := []) ⟨rfl, ⟨rfl, ⟨rfl, ⟨rfl, trivial⟩⟩⟩⟩ ?_
      exact ih _ _ _ _ h
set_option maxRecDepth 10000 in
set_option maxHeartbeats 1000000 in
theorem j_wt8 {E : ri_E} (a : Int32) (b : Int32) {S : ri_H} {Q : Int32 → ri_H → Prop} (h : w8  a b S Q) : j_ri_A E 1 (ri_en 8 [.ref 5, .int a, .int b]) S (Qi Q) := by
  unfold w8 at h
  show j_ri_A E 1 (8, 0, [some (.ref 5), some (.int a), some (.int b), none, none], []) S (Qi Q)
  refine j_A_nx 4 (fr' := (8, 5, [some (.ref 5), some (.int a), some (.int b), some (.int (0 : Int32)), some (.int a)], [])) (S' := S) rfl ?_
  refine j_ri_A.less (m := 8) (pc := 5) (L := [some (.ref 5), some (.int a), some (.int b), some (.int (0 : Int32)), some (.int a)]) (L' := [some (.ref 5), none, some (.int b), some (.int (0 : Int32)), some (.int a)]) (st := []) ⟨rfl, ⟨rfl, ⟨rfl, ⟨rfl, trivial⟩⟩⟩⟩ ?_
  obtain ⟨nn, h⟩ := h
  exact j_wt8_l5   nn _ _ _ _ h
set_option maxRecDepth 10000 in
set_option maxHeartbeats 1000000 in
theorem j_wt3 {E : ri_E} (a : Int32) (b : Int32) (g : Int32) {S : ri_H} {Q : ri_H → Prop} (h : w3  a b g S Q) : j_ri_A E 1 (ri_en 3 [.ref 5, .int a, .int b, .int g]) S (Qv Q) := by
  unfold w3 at h
  show j_ri_A E 1 (3, 0, [some (.ref 5), some (.int a), some (.int b), some (.int g)], []) S (Qv Q)
  refine j_A_call (j := 99) (As := [.ref 7, .int (S.1 5 5), .int a]) (fr' := (3, 12, [some (.ref 5), some (.int a), some (.int b), some (.int g)], [])) (S' := S) 6 rfl (e := 0) (by omega) (j_sp_putItem 7 161 _ _ ⟨by decide, by decide, rfl⟩ (by decide) ?_)
  refine j_A_call (j := 99) (As := [.ref 8, .int (S.1 5 5), .int b]) (fr' := (3, 24, [some (.ref 5), some (.int a), some (.int b), some (.int g)], [])) (S' := (ri_wr S 7 (pu 161 (S.1 7) (S.1 5 5) a))) 6 rfl (e := 0) (by omega) (j_sp_putItem 8 161 _ _ ⟨by decide, by decide, rfl⟩ (by decide) ?_)
  refine j_A_call (j := 99) (As := [.ref 9, .int (S.1 5 5), .int g]) (fr' := (3, 36, [some (.ref 5), some (.int a), some (.int b), some (.int g)], [])) (S' := (ri_wr (ri_wr S 7 (pu 161 (S.1 7) (S.1 5 5) a)) 8 (pu 161 (S.1 8) (S.1 5 5) b))) 6 rfl (e := 0) (by omega) (j_sp_putItem 9 161 _ _ ⟨by decide, by decide, rfl⟩ (by decide) ?_)
  exact j_A_ret 7 (m := 3) (v := none) (S' := (ri_wi (ri_wr (ri_wr (ri_wr S 7 (pu 161 (S.1 7) (S.1 5 5) a)) 8 (pu 161 (S.1 8) (S.1 5 5) b)) 9 (pu 161 (S.1 9) (S.1 5 5) g)) 5 5 ((S.1 5 5) + (1 : Int32)))) rfl rfl ⟨rfl, h⟩
set_option maxRecDepth 10000 in
set_option maxHeartbeats 1000000 in
theorem j_wt7_l15 {E : ri_E} (t : Nat) (hw : t = 1001 ∨ t = 1002 ∨ t = 1003 ∨ t = 1004 ∨ t = 1005 ∨ t = 1006 ∨ t = 1007 ∨ t = 1008 ∨ t = 1009 ∨ t = 1010 ∨ t = 1011 ∨ t = 1012) {Q : Int32 → ri_H → Prop} : ∀ (n : Nat) (x2 : Int32) (x4 : Int32) (S : ri_H), w7_l15 t  Q n x2 x4 S → j_ri_A E 4 (7, 15, [some (.ref 5), some (.ref t), some (.int x2), none, some (.int x4)], []) S (Qi Q) := by
  rcases hw with rfl | rfl | rfl | rfl | rfl | rfl | rfl | rfl | rfl | rfl | rfl | rfl
  · intro n
    induction n with
    | zero => intro x2 x4 S h; exact h.elim
    | succ n ih =>
      intro x2 x4 S h
      unfold w7_l15 at h
      refine j_A_call (j := 206) (As := [.ref 1001]) (fr' := (7, 21, [some (.ref 5), some (.ref 1001), some (.int x2), none, some (.int x4)], [.int x4])) (S' := S) 3 rfl (e := 1) (by omega) (j_A_imp (j_wt206 1001 (by decide)  h) (fun v S3 hq => ?_))
      obtain ⟨r4, hv, h⟩ := hq
      subst hv
      refine j_A_br (r4 ≤ x4) (r1 := ((7, 52, [some (.ref 5), some (.ref 1001), some (.int x2), none, some (.int x4)], []), S3)) (r2 := ((7, 24, [some (.ref 5), some (.ref 1001), some (.int x2), none, some (.int x4)], []), S3)) 1 rfl (fun c => ?_) (fun c => ?_)
      · have h := h.1 c
        exact j_A_ret 2 (m := 7) (v := some (.int (1 : Int32))) (S' := S3) rfl rfl ⟨_, rfl, h⟩
      · have h := h.2 c
        refine j_A_call (j := 98) (As := [.ref 6, .int (x2 + x4)]) (fr' := (7, 35, [some (.ref 5), some (.ref 1001), some (.int x2), none, some (.int x4)], [])) (S' := S3) 6 rfl (e := 0) (by omega) (j_sp_item 6 160 _ ⟨by decide, by decide, rfl⟩ (by decide) ?_)
        refine j_A_call (j := 207) (As := [.ref 1001, .int x4]) (fr' := (7, 41, [some (.ref 5), some (.ref 1001), some (.int x2), none, some (.int x4)], [.int (it (S3.1 6) 160 (x2 + x4))])) (S' := S3) 3 rfl (e := 3) (by omega) (j_A_imp (j_wt207 1001 (by decide) x4 h) (fun v S5 hq => ?_))
        obtain ⟨r6, hv, h⟩ := hq
        subst hv
        refine j_A_br ((it (S3.1 6) 160 (x2 + x4)) = r6) (r1 := ((7, 46, [some (.ref 5), some (.ref 1001), some (.int x2), none, some (.int x4)], []), S5)) (r2 := ((7, 44, [some (.ref 5), some (.ref 1001), some (.int x2), none, some (.int x4)], []), S5)) 1 rfl (fun c => ?_) (fun c => ?_)
        · have h := h.1 c
          refine j_A_nx 2 (fr' := (7, 15, [some (.ref 5), some (.ref 1001), some (.int x2), none, some (.int (x4 + (1 : Int32)))], [])) (S' := S5) rfl ?_
          refine j_ri_A.less (m := 7) (pc := 15) (L := [some (.ref 5), some (.ref 1001), some (.int x2), none, some (.int (x4 + (1 : Int32)))]) (L' := [some (.ref 5), some (.ref 1001), some (.int x2), none, some (.int (x4 + (1 : Int32)))]) (st := []) ⟨rfl, ⟨rfl, ⟨rfl, ⟨rfl, trivial⟩⟩⟩⟩ ?_
          exact ih _ _ _ h
        · have h := h.2 c
          exact j_A_ret 2 (m := 7) (v := some (.int (0 : Int32))) (S' := S5) rfl rfl ⟨_, rfl, h⟩
  · intro n
    induction n with
    | zero => intro x2 x4 S h; exact h.elim
    | succ n ih =>
      intro x2 x4 S h
      unfold w7_l15 at h
      refine j_A_call (j := 206) (As := [.ref 1002]) (fr' := (7, 21, [some (.ref 5), some (.ref 1002), some (.int x2), none, some (.int x4)], [.int x4])) (S' := S) 3 rfl (e := 1) (by omega) (j_A_imp (j_wt206 1002 (by decide)  h) (fun v S3 hq => ?_))
      obtain ⟨r4, hv, h⟩ := hq
      subst hv
      refine j_A_br (r4 ≤ x4) (r1 := ((7, 52, [some (.ref 5), some (.ref 1002), some (.int x2), none, some (.int x4)], []), S3)) (r2 := ((7, 24, [some (.ref 5), some (.ref 1002), some (.int x2), none, some (.int x4)], []), S3)) 1 rfl (fun c => ?_) (fun c => ?_)
      · have h := h.1 c
        exact j_A_ret 2 (m := 7) (v := some (.int (1 : Int32))) (S' := S3) rfl rfl ⟨_, rfl, h⟩
      · have h := h.2 c
        refine j_A_call (j := 98) (As := [.ref 6, .int (x2 + x4)]) (fr' := (7, 35, [some (.ref 5), some (.ref 1002), some (.int x2), none, some (.int x4)], [])) (S' := S3) 6 rfl (e := 0) (by omega) (j_sp_item 6 160 _ ⟨by decide, by decide, rfl⟩ (by decide) ?_)
        refine j_A_call (j := 207) (As := [.ref 1002, .int x4]) (fr' := (7, 41, [some (.ref 5), some (.ref 1002), some (.int x2), none, some (.int x4)], [.int (it (S3.1 6) 160 (x2 + x4))])) (S' := S3) 3 rfl (e := 3) (by omega) (j_A_imp (j_wt207 1002 (by decide) x4 h) (fun v S5 hq => ?_))
        obtain ⟨r6, hv, h⟩ := hq
        subst hv
        refine j_A_br ((it (S3.1 6) 160 (x2 + x4)) = r6) (r1 := ((7, 46, [some (.ref 5), some (.ref 1002), some (.int x2), none, some (.int x4)], []), S5)) (r2 := ((7, 44, [some (.ref 5), some (.ref 1002), some (.int x2), none, some (.int x4)], []), S5)) 1 rfl (fun c => ?_) (fun c => ?_)
        · have h := h.1 c
          refine j_A_nx 2 (fr' := (7, 15, [some (.ref 5), some (.ref 1002), some (.int x2), none, some (.int (x4 + (1 : Int32)))], [])) (S' := S5) rfl ?_
          refine j_ri_A.less (m := 7) (pc := 15) (L := [some (.ref 5), some (.ref 1002), some (.int x2), none, some (.int (x4 + (1 : Int32)))]) (L' := [some (.ref 5), some (.ref 1002), some (.int x2), none, some (.int (x4 + (1 : Int32)))]) (st := []) ⟨rfl, ⟨rfl, ⟨rfl, ⟨rfl, trivial⟩⟩⟩⟩ ?_
          exact ih _ _ _ h
        · have h := h.2 c
          exact j_A_ret 2 (m := 7) (v := some (.int (0 : Int32))) (S' := S5) rfl rfl ⟨_, rfl, h⟩
  · intro n
    induction n with
    | zero => intro x2 x4 S h; exact h.elim
    | succ n ih =>
      intro x2 x4 S h
      unfold w7_l15 at h
      refine j_A_call (j := 206) (As := [.ref 1003]) (fr' := (7, 21, [some (.ref 5), some (.ref 1003), some (.int x2), none, some (.int x4)], [.int x4])) (S' := S) 3 rfl (e := 1) (by omega) (j_A_imp (j_wt206 1003 (by decide)  h) (fun v S3 hq => ?_))
      obtain ⟨r4, hv, h⟩ := hq
      subst hv
      refine j_A_br (r4 ≤ x4) (r1 := ((7, 52, [some (.ref 5), some (.ref 1003), some (.int x2), none, some (.int x4)], []), S3)) (r2 := ((7, 24, [some (.ref 5), some (.ref 1003), some (.int x2), none, some (.int x4)], []), S3)) 1 rfl (fun c => ?_) (fun c => ?_)
      · have h := h.1 c
        exact j_A_ret 2 (m := 7) (v := some (.int (1 : Int32))) (S' := S3) rfl rfl ⟨_, rfl, h⟩
      · have h := h.2 c
        refine j_A_call (j := 98) (As := [.ref 6, .int (x2 + x4)]) (fr' := (7, 35, [some (.ref 5), some (.ref 1003), some (.int x2), none, some (.int x4)], [])) (S' := S3) 6 rfl (e := 0) (by omega) (j_sp_item 6 160 _ ⟨by decide, by decide, rfl⟩ (by decide) ?_)
        refine j_A_call (j := 207) (As := [.ref 1003, .int x4]) (fr' := (7, 41, [some (.ref 5), some (.ref 1003), some (.int x2), none, some (.int x4)], [.int (it (S3.1 6) 160 (x2 + x4))])) (S' := S3) 3 rfl (e := 3) (by omega) (j_A_imp (j_wt207 1003 (by decide) x4 h) (fun v S5 hq => ?_))
        obtain ⟨r6, hv, h⟩ := hq
        subst hv
        refine j_A_br ((it (S3.1 6) 160 (x2 + x4)) = r6) (r1 := ((7, 46, [some (.ref 5), some (.ref 1003), some (.int x2), none, some (.int x4)], []), S5)) (r2 := ((7, 44, [some (.ref 5), some (.ref 1003), some (.int x2), none, some (.int x4)], []), S5)) 1 rfl (fun c => ?_) (fun c => ?_)
        · have h := h.1 c
          refine j_A_nx 2 (fr' := (7, 15, [some (.ref 5), some (.ref 1003), some (.int x2), none, some (.int (x4 + (1 : Int32)))], [])) (S' := S5) rfl ?_
          refine j_ri_A.less (m := 7) (pc := 15) (L := [some (.ref 5), some (.ref 1003), some (.int x2), none, some (.int (x4 + (1 : Int32)))]) (L' := [some (.ref 5), some (.ref 1003), some (.int x2), none, some (.int (x4 + (1 : Int32)))]) (st := []) ⟨rfl, ⟨rfl, ⟨rfl, ⟨rfl, trivial⟩⟩⟩⟩ ?_
          exact ih _ _ _ h
        · have h := h.2 c
          exact j_A_ret 2 (m := 7) (v := some (.int (0 : Int32))) (S' := S5) rfl rfl ⟨_, rfl, h⟩
  · intro n
    induction n with
    | zero => intro x2 x4 S h; exact h.elim
    | succ n ih =>
      intro x2 x4 S h
      unfold w7_l15 at h
      refine j_A_call (j := 206) (As := [.ref 1004]) (fr' := (7, 21, [some (.ref 5), some (.ref 1004), some (.int x2), none, some (.int x4)], [.int x4])) (S' := S) 3 rfl (e := 1) (by omega) (j_A_imp (j_wt206 1004 (by decide)  h) (fun v S3 hq => ?_))
      obtain ⟨r4, hv, h⟩ := hq
      subst hv
      refine j_A_br (r4 ≤ x4) (r1 := ((7, 52, [some (.ref 5), some (.ref 1004), some (.int x2), none, some (.int x4)], []), S3)) (r2 := ((7, 24, [some (.ref 5), some (.ref 1004), some (.int x2), none, some (.int x4)], []), S3)) 1 rfl (fun c => ?_) (fun c => ?_)
      · have h := h.1 c
        exact j_A_ret 2 (m := 7) (v := some (.int (1 : Int32))) (S' := S3) rfl rfl ⟨_, rfl, h⟩
      · have h := h.2 c
        refine j_A_call (j := 98) (As := [.ref 6, .int (x2 + x4)]) (fr' := (7, 35, [some (.ref 5), some (.ref 1004), some (.int x2), none, some (.int x4)], [])) (S' := S3) 6 rfl (e := 0) (by omega) (j_sp_item 6 160 _ ⟨by decide, by decide, rfl⟩ (by decide) ?_)
        refine j_A_call (j := 207) (As := [.ref 1004, .int x4]) (fr' := (7, 41, [some (.ref 5), some (.ref 1004), some (.int x2), none, some (.int x4)], [.int (it (S3.1 6) 160 (x2 + x4))])) (S' := S3) 3 rfl (e := 3) (by omega) (j_A_imp (j_wt207 1004 (by decide) x4 h) (fun v S5 hq => ?_))
        obtain ⟨r6, hv, h⟩ := hq
        subst hv
        refine j_A_br ((it (S3.1 6) 160 (x2 + x4)) = r6) (r1 := ((7, 46, [some (.ref 5), some (.ref 1004), some (.int x2), none, some (.int x4)], []), S5)) (r2 := ((7, 44, [some (.ref 5), some (.ref 1004), some (.int x2), none, some (.int x4)], []), S5)) 1 rfl (fun c => ?_) (fun c => ?_)
        · have h := h.1 c
          refine j_A_nx 2 (fr' := (7, 15, [some (.ref 5), some (.ref 1004), some (.int x2), none, some (.int (x4 + (1 : Int32)))], [])) (S' := S5) rfl ?_
          refine j_ri_A.less (m := 7) (pc := 15) (L := [some (.ref 5), some (.ref 1004), some (.int x2), none, some (.int (x4 + (1 : Int32)))]) (L' := [some (.ref 5), some (.ref 1004), some (.int x2), none, some (.int (x4 + (1 : Int32)))]) (st := []) ⟨rfl, ⟨rfl, ⟨rfl, ⟨rfl, trivial⟩⟩⟩⟩ ?_
          exact ih _ _ _ h
        · have h := h.2 c
          exact j_A_ret 2 (m := 7) (v := some (.int (0 : Int32))) (S' := S5) rfl rfl ⟨_, rfl, h⟩
  · intro n
    induction n with
    | zero => intro x2 x4 S h; exact h.elim
    | succ n ih =>
      intro x2 x4 S h
      unfold w7_l15 at h
      refine j_A_call (j := 206) (As := [.ref 1005]) (fr' := (7, 21, [some (.ref 5), some (.ref 1005), some (.int x2), none, some (.int x4)], [.int x4])) (S' := S) 3 rfl (e := 1) (by omega) (j_A_imp (j_wt206 1005 (by decide)  h) (fun v S3 hq => ?_))
      obtain ⟨r4, hv, h⟩ := hq
      subst hv
      refine j_A_br (r4 ≤ x4) (r1 := ((7, 52, [some (.ref 5), some (.ref 1005), some (.int x2), none, some (.int x4)], []), S3)) (r2 := ((7, 24, [some (.ref 5), some (.ref 1005), some (.int x2), none, some (.int x4)], []), S3)) 1 rfl (fun c => ?_) (fun c => ?_)
      · have h := h.1 c
        exact j_A_ret 2 (m := 7) (v := some (.int (1 : Int32))) (S' := S3) rfl rfl ⟨_, rfl, h⟩
      · have h := h.2 c
        refine j_A_call (j := 98) (As := [.ref 6, .int (x2 + x4)]) (fr' := (7, 35, [some (.ref 5), some (.ref 1005), some (.int x2), none, some (.int x4)], [])) (S' := S3) 6 rfl (e := 0) (by omega) (j_sp_item 6 160 _ ⟨by decide, by decide, rfl⟩ (by decide) ?_)
        refine j_A_call (j := 207) (As := [.ref 1005, .int x4]) (fr' := (7, 41, [some (.ref 5), some (.ref 1005), some (.int x2), none, some (.int x4)], [.int (it (S3.1 6) 160 (x2 + x4))])) (S' := S3) 3 rfl (e := 3) (by omega) (j_A_imp (j_wt207 1005 (by decide) x4 h) (fun v S5 hq => ?_))
        obtain ⟨r6, hv, h⟩ := hq
        subst hv
        refine j_A_br ((it (S3.1 6) 160 (x2 + x4)) = r6) (r1 := ((7, 46, [some (.ref 5), some (.ref 1005), some (.int x2), none, some (.int x4)], []), S5)) (r2 := ((7, 44, [some (.ref 5), some (.ref 1005), some (.int x2), none, some (.int x4)], []), S5)) 1 rfl (fun c => ?_) (fun c => ?_)
        · have h := h.1 c
          refine j_A_nx 2 (fr' := (7, 15, [some (.ref 5), some (.ref 1005), some (.int x2), none, some (.int (x4 + (1 : Int32)))], [])) (S' := S5) rfl ?_
          refine j_ri_A.less (m := 7) (pc := 15) (L := [some (.ref 5), some (.ref 1005), some (.int x2), none, some (.int (x4 + (1 : Int32)))]) (L' := [some (.ref 5), some (.ref 1005), some (.int x2), none, some (.int (x4 + (1 : Int32)))]) (st := []) ⟨rfl, ⟨rfl, ⟨rfl, ⟨rfl, trivial⟩⟩⟩⟩ ?_
          exact ih _ _ _ h
        · have h := h.2 c
          exact j_A_ret 2 (m := 7) (v := some (.int (0 : Int32))) (S' := S5) rfl rfl ⟨_, rfl, h⟩
  · intro n
    induction n with
    | zero => intro x2 x4 S h; exact h.elim
    | succ n ih =>
      intro x2 x4 S h
      unfold w7_l15 at h
      refine j_A_call (j := 206) (As := [.ref 1006]) (fr' := (7, 21, [some (.ref 5), some (.ref 1006), some (.int x2), none, some (.int x4)], [.int x4])) (S' := S) 3 rfl (e := 1) (by omega) (j_A_imp (j_wt206 1006 (by decide)  h) (fun v S3 hq => ?_))
      obtain ⟨r4, hv, h⟩ := hq
      subst hv
      refine j_A_br (r4 ≤ x4) (r1 := ((7, 52, [some (.ref 5), some (.ref 1006), some (.int x2), none, some (.int x4)], []), S3)) (r2 := ((7, 24, [some (.ref 5), some (.ref 1006), some (.int x2), none, some (.int x4)], []), S3)) 1 rfl (fun c => ?_) (fun c => ?_)
      · have h := h.1 c
        exact j_A_ret 2 (m := 7) (v := some (.int (1 : Int32))) (S' := S3) rfl rfl ⟨_, rfl, h⟩
      · have h := h.2 c
        refine j_A_call (j := 98) (As := [.ref 6, .int (x2 + x4)]) (fr' := (7, 35, [some (.ref 5), some (.ref 1006), some (.int x2), none, some (.int x4)], [])) (S' := S3) 6 rfl (e := 0) (by omega) (j_sp_item 6 160 _ ⟨by decide, by decide, rfl⟩ (by decide) ?_)
        refine j_A_call (j := 207) (As := [.ref 1006, .int x4]) (fr' := (7, 41, [some (.ref 5), some (.ref 1006), some (.int x2), none, some (.int x4)], [.int (it (S3.1 6) 160 (x2 + x4))])) (S' := S3) 3 rfl (e := 3) (by omega) (j_A_imp (j_wt207 1006 (by decide) x4 h) (fun v S5 hq => ?_))
        obtain ⟨r6, hv, h⟩ := hq
        subst hv
        refine j_A_br ((it (S3.1 6) 160 (x2 + x4)) = r6) (r1 := ((7, 46, [some (.ref 5), some (.ref 1006), some (.int x2), none, some (.int x4)], []), S5)) (r2 := ((7, 44, [some (.ref 5), some (.ref 1006), some (.int x2), none, some (.int x4)], []), S5)) 1 rfl (fun c => ?_) (fun c => ?_)
        · have h := h.1 c
          refine j_A_nx 2 (fr' := (7, 15, [some (.ref 5), some (.ref 1006), some (.int x2), none, some (.int (x4 + (1 : Int32)))], [])) (S' := S5) rfl ?_
          refine j_ri_A.less (m := 7) (pc := 15) (L := [some (.ref 5), some (.ref 1006), some (.int x2), none, some (.int (x4 + (1 : Int32)))]) (L' := [some (.ref 5), some (.ref 1006), some (.int x2), none, some (.int (x4 + (1 : Int32)))]) (st := []) ⟨rfl, ⟨rfl, ⟨rfl, ⟨rfl, trivial⟩⟩⟩⟩ ?_
          exact ih _ _ _ h
        · have h := h.2 c
          exact j_A_ret 2 (m := 7) (v := some (.int (0 : Int32))) (S' := S5) rfl rfl ⟨_, rfl, h⟩
  · intro n
    induction n with
    | zero => intro x2 x4 S h; exact h.elim
    | succ n ih =>
      intro x2 x4 S h
      unfold w7_l15 at h
      refine j_A_call (j := 206) (As := [.ref 1007]) (fr' := (7, 21, [some (.ref 5), some (.ref 1007), some (.int x2), none, some (.int x4)], [.int x4])) (S' := S) 3 rfl (e := 1) (by omega) (j_A_imp (j_wt206 1007 (by decide)  h) (fun v S3 hq => ?_))
      obtain ⟨r4, hv, h⟩ := hq
      subst hv
      refine j_A_br (r4 ≤ x4) (r1 := ((7, 52, [some (.ref 5), some (.ref 1007), some (.int x2), none, some (.int x4)], []), S3)) (r2 := ((7, 24, [some (.ref 5), some (.ref 1007), some (.int x2), none, some (.int x4)], []), S3)) 1 rfl (fun c => ?_) (fun c => ?_)
      · have h := h.1 c
        exact j_A_ret 2 (m := 7) (v := some (.int (1 : Int32))) (S' := S3) rfl rfl ⟨_, rfl, h⟩
      · have h := h.2 c
        refine j_A_call (j := 98) (As := [.ref 6, .int (x2 + x4)]) (fr' := (7, 35, [some (.ref 5), some (.ref 1007), some (.int x2), none, some (.int x4)], [])) (S' := S3) 6 rfl (e := 0) (by omega) (j_sp_item 6 160 _ ⟨by decide, by decide, rfl⟩ (by decide) ?_)
        refine j_A_call (j := 207) (As := [.ref 1007, .int x4]) (fr' := (7, 41, [some (.ref 5), some (.ref 1007), some (.int x2), none, some (.int x4)], [.int (it (S3.1 6) 160 (x2 + x4))])) (S' := S3) 3 rfl (e := 3) (by omega) (j_A_imp (j_wt207 1007 (by decide) x4 h) (fun v S5 hq => ?_))
        obtain ⟨r6, hv, h⟩ := hq
        subst hv
        refine j_A_br ((it (S3.1 6) 160 (x2 + x4)) = r6) (r1 := ((7, 46, [some (.ref 5), some (.ref 1007), some (.int x2), none, some (.int x4)], []), S5)) (r2 := ((7, 44, [some (.ref 5), some (.ref 1007), some (.int x2), none, some (.int x4)], []), S5)) 1 rfl (fun c => ?_) (fun c => ?_)
        · have h := h.1 c
          refine j_A_nx 2 (fr' := (7, 15, [some (.ref 5), some (.ref 1007), some (.int x2), none, some (.int (x4 + (1 : Int32)))], [])) (S' := S5) rfl ?_
          refine j_ri_A.less (m := 7) (pc := 15) (L := [some (.ref 5), some (.ref 1007), some (.int x2), none, some (.int (x4 + (1 : Int32)))]) (L' := [some (.ref 5), some (.ref 1007), some (.int x2), none, some (.int (x4 + (1 : Int32)))]) (st := []) ⟨rfl, ⟨rfl, ⟨rfl, ⟨rfl, trivial⟩⟩⟩⟩ ?_
          exact ih _ _ _ h
        · have h := h.2 c
          exact j_A_ret 2 (m := 7) (v := some (.int (0 : Int32))) (S' := S5) rfl rfl ⟨_, rfl, h⟩
  · intro n
    induction n with
    | zero => intro x2 x4 S h; exact h.elim
    | succ n ih =>
      intro x2 x4 S h
      unfold w7_l15 at h
      refine j_A_call (j := 206) (As := [.ref 1008]) (fr' := (7, 21, [some (.ref 5), some (.ref 1008), some (.int x2), none, some (.int x4)], [.int x4])) (S' := S) 3 rfl (e := 1) (by omega) (j_A_imp (j_wt206 1008 (by decide)  h) (fun v S3 hq => ?_))
      obtain ⟨r4, hv, h⟩ := hq
      subst hv
      refine j_A_br (r4 ≤ x4) (r1 := ((7, 52, [some (.ref 5), some (.ref 1008), some (.int x2), none, some (.int x4)], []), S3)) (r2 := ((7, 24, [some (.ref 5), some (.ref 1008), some (.int x2), none, some (.int x4)], []), S3)) 1 rfl (fun c => ?_) (fun c => ?_)
      · have h := h.1 c
        exact j_A_ret 2 (m := 7) (v := some (.int (1 : Int32))) (S' := S3) rfl rfl ⟨_, rfl, h⟩
      · have h := h.2 c
        refine j_A_call (j := 98) (As := [.ref 6, .int (x2 + x4)]) (fr' := (7, 35, [some (.ref 5), some (.ref 1008), some (.int x2), none, some (.int x4)], [])) (S' := S3) 6 rfl (e := 0) (by omega) (j_sp_item 6 160 _ ⟨by decide, by decide, rfl⟩ (by decide) ?_)
        refine j_A_call (j := 207) (As := [.ref 1008, .int x4]) (fr' := (7, 41, [some (.ref 5), some (.ref 1008), some (.int x2), none, some (.int x4)], [.int (it (S3.1 6) 160 (x2 + x4))])) (S' := S3) 3 rfl (e := 3) (by omega) (j_A_imp (j_wt207 1008 (by decide) x4 h) (fun v S5 hq => ?_))
        obtain ⟨r6, hv, h⟩ := hq
        subst hv
        refine j_A_br ((it (S3.1 6) 160 (x2 + x4)) = r6) (r1 := ((7, 46, [some (.ref 5), some (.ref 1008), some (.int x2), none, some (.int x4)], []), S5)) (r2 := ((7, 44, [some (.ref 5), some (.ref 1008), some (.int x2), none, some (.int x4)], []), S5)) 1 rfl (fun c => ?_) (fun c => ?_)
        · have h := h.1 c
          refine j_A_nx 2 (fr' := (7, 15, [some (.ref 5), some (.ref 1008), some (.int x2), none, some (.int (x4 + (1 : Int32)))], [])) (S' := S5) rfl ?_
          refine j_ri_A.less (m := 7) (pc := 15) (L := [some (.ref 5), some (.ref 1008), some (.int x2), none, some (.int (x4 + (1 : Int32)))]) (L' := [some (.ref 5), some (.ref 1008), some (.int x2), none, some (.int (x4 + (1 : Int32)))]) (st := []) ⟨rfl, ⟨rfl, ⟨rfl, ⟨rfl, trivial⟩⟩⟩⟩ ?_
          exact ih _ _ _ h
        · have h := h.2 c
          exact j_A_ret 2 (m := 7) (v := some (.int (0 : Int32))) (S' := S5) rfl rfl ⟨_, rfl, h⟩
  · intro n
    induction n with
    | zero => intro x2 x4 S h; exact h.elim
    | succ n ih =>
      intro x2 x4 S h
      unfold w7_l15 at h
      refine j_A_call (j := 206) (As := [.ref 1009]) (fr' := (7, 21, [some (.ref 5), some (.ref 1009), some (.int x2), none, some (.int x4)], [.int x4])) (S' := S) 3 rfl (e := 1) (by omega) (j_A_imp (j_wt206 1009 (by decide)  h) (fun v S3 hq => ?_))
      obtain ⟨r4, hv, h⟩ := hq
      subst hv
      refine j_A_br (r4 ≤ x4) (r1 := ((7, 52, [some (.ref 5), some (.ref 1009), some (.int x2), none, some (.int x4)], []), S3)) (r2 := ((7, 24, [some (.ref 5), some (.ref 1009), some (.int x2), none, some (.int x4)], []), S3)) 1 rfl (fun c => ?_) (fun c => ?_)
      · have h := h.1 c
        exact j_A_ret 2 (m := 7) (v := some (.int (1 : Int32))) (S' := S3) rfl rfl ⟨_, rfl, h⟩
      · have h := h.2 c
        refine j_A_call (j := 98) (As := [.ref 6, .int (x2 + x4)]) (fr' := (7, 35, [some (.ref 5), some (.ref 1009), some (.int x2), none, some (.int x4)], [])) (S' := S3) 6 rfl (e := 0) (by omega) (j_sp_item 6 160 _ ⟨by decide, by decide, rfl⟩ (by decide) ?_)
        refine j_A_call (j := 207) (As := [.ref 1009, .int x4]) (fr' := (7, 41, [some (.ref 5), some (.ref 1009), some (.int x2), none, some (.int x4)], [.int (it (S3.1 6) 160 (x2 + x4))])) (S' := S3) 3 rfl (e := 3) (by omega) (j_A_imp (j_wt207 1009 (by decide) x4 h) (fun v S5 hq => ?_))
        obtain ⟨r6, hv, h⟩ := hq
        subst hv
        refine j_A_br ((it (S3.1 6) 160 (x2 + x4)) = r6) (r1 := ((7, 46, [some (.ref 5), some (.ref 1009), some (.int x2), none, some (.int x4)], []), S5)) (r2 := ((7, 44, [some (.ref 5), some (.ref 1009), some (.int x2), none, some (.int x4)], []), S5)) 1 rfl (fun c => ?_) (fun c => ?_)
        · have h := h.1 c
          refine j_A_nx 2 (fr' := (7, 15, [some (.ref 5), some (.ref 1009), some (.int x2), none, some (.int (x4 + (1 : Int32)))], [])) (S' := S5) rfl ?_
          refine j_ri_A.less (m := 7) (pc := 15) (L := [some (.ref 5), some (.ref 1009), some (.int x2), none, some (.int (x4 + (1 : Int32)))]) (L' := [some (.ref 5), some (.ref 1009), some (.int x2), none, some (.int (x4 + (1 : Int32)))]) (st := []) ⟨rfl, ⟨rfl, ⟨rfl, ⟨rfl, trivial⟩⟩⟩⟩ ?_
          exact ih _ _ _ h
        · have h := h.2 c
          exact j_A_ret 2 (m := 7) (v := some (.int (0 : Int32))) (S' := S5) rfl rfl ⟨_, rfl, h⟩
  · intro n
    induction n with
    | zero => intro x2 x4 S h; exact h.elim
    | succ n ih =>
      intro x2 x4 S h
      unfold w7_l15 at h
      refine j_A_call (j := 206) (As := [.ref 1010]) (fr' := (7, 21, [some (.ref 5), some (.ref 1010), some (.int x2), none, some (.int x4)], [.int x4])) (S' := S) 3 rfl (e := 1) (by omega) (j_A_imp (j_wt206 1010 (by decide)  h) (fun v S3 hq => ?_))
      obtain ⟨r4, hv, h⟩ := hq
      subst hv
      refine j_A_br (r4 ≤ x4) (r1 := ((7, 52, [some (.ref 5), some (.ref 1010), some (.int x2), none, some (.int x4)], []), S3)) (r2 := ((7, 24, [some (.ref 5), some (.ref 1010), some (.int x2), none, some (.int x4)], []), S3)) 1 rfl (fun c => ?_) (fun c => ?_)
      · have h := h.1 c
        exact j_A_ret 2 (m := 7) (v := some (.int (1 : Int32))) (S' := S3) rfl rfl ⟨_, rfl, h⟩
      · have h := h.2 c
        refine j_A_call (j := 98) (As := [.ref 6, .int (x2 + x4)]) (fr' := (7, 35, [some (.ref 5), some (.ref 1010), some (.int x2), none, some (.int x4)], [])) (S' := S3) 6 rfl (e := 0) (by omega) (j_sp_item 6 160 _ ⟨by decide, by decide, rfl⟩ (by decide) ?_)
        refine j_A_call (j := 207) (As := [.ref 1010, .int x4]) (fr' := (7, 41, [some (.ref 5), some (.ref 1010), some (.int x2), none, some (.int x4)], [.int (it (S3.1 6) 160 (x2 + x4))])) (S' := S3) 3 rfl (e := 3) (by omega) (j_A_imp (j_wt207 1010 (by decide) x4 h) (fun v S5 hq => ?_))
        obtain ⟨r6, hv, h⟩ := hq
        subst hv
        refine j_A_br ((it (S3.1 6) 160 (x2 + x4)) = r6) (r1 := ((7, 46, [some (.ref 5), some (.ref 1010), some (.int x2), none, some (.int x4)], []), S5)) (r2 := ((7, 44, [some (.ref 5), some (.ref 1010), some (.int x2), none, some (.int x4)], []), S5)) 1 rfl (fun c => ?_) (fun c => ?_)
        · have h := h.1 c
          refine j_A_nx 2 (fr' := (7, 15, [some (.ref 5), some (.ref 1010), some (.int x2), none, some (.int (x4 + (1 : Int32)))], [])) (S' := S5) rfl ?_
          refine j_ri_A.less (m := 7) (pc := 15) (L := [some (.ref 5), some (.ref 1010), some (.int x2), none, some (.int (x4 + (1 : Int32)))]) (L' := [some (.ref 5), some (.ref 1010), some (.int x2), none, some (.int (x4 + (1 : Int32)))]) (st := []) ⟨rfl, ⟨rfl, ⟨rfl, ⟨rfl, trivial⟩⟩⟩⟩ ?_
          exact ih _ _ _ h
        · have h := h.2 c
          exact j_A_ret 2 (m := 7) (v := some (.int (0 : Int32))) (S' := S5) rfl rfl ⟨_, rfl, h⟩
  · intro n
    induction n with
    | zero => intro x2 x4 S h; exact h.elim
    | succ n ih =>
      intro x2 x4 S h
      unfold w7_l15 at h
      refine j_A_call (j := 206) (As := [.ref 1011]) (fr' := (7, 21, [some (.ref 5), some (.ref 1011), some (.int x2), none, some (.int x4)], [.int x4])) (S' := S) 3 rfl (e := 1) (by omega) (j_A_imp (j_wt206 1011 (by decide)  h) (fun v S3 hq => ?_))
      obtain ⟨r4, hv, h⟩ := hq
      subst hv
      refine j_A_br (r4 ≤ x4) (r1 := ((7, 52, [some (.ref 5), some (.ref 1011), some (.int x2), none, some (.int x4)], []), S3)) (r2 := ((7, 24, [some (.ref 5), some (.ref 1011), some (.int x2), none, some (.int x4)], []), S3)) 1 rfl (fun c => ?_) (fun c => ?_)
      · have h := h.1 c
        exact j_A_ret 2 (m := 7) (v := some (.int (1 : Int32))) (S' := S3) rfl rfl ⟨_, rfl, h⟩
      · have h := h.2 c
        refine j_A_call (j := 98) (As := [.ref 6, .int (x2 + x4)]) (fr' := (7, 35, [some (.ref 5), some (.ref 1011), some (.int x2), none, some (.int x4)], [])) (S' := S3) 6 rfl (e := 0) (by omega) (j_sp_item 6 160 _ ⟨by decide, by decide, rfl⟩ (by decide) ?_)
        refine j_A_call (j := 207) (As := [.ref 1011, .int x4]) (fr' := (7, 41, [some (.ref 5), some (.ref 1011), some (.int x2), none, some (.int x4)], [.int (it (S3.1 6) 160 (x2 + x4))])) (S' := S3) 3 rfl (e := 3) (by omega) (j_A_imp (j_wt207 1011 (by decide) x4 h) (fun v S5 hq => ?_))
        obtain ⟨r6, hv, h⟩ := hq
        subst hv
        refine j_A_br ((it (S3.1 6) 160 (x2 + x4)) = r6) (r1 := ((7, 46, [some (.ref 5), some (.ref 1011), some (.int x2), none, some (.int x4)], []), S5)) (r2 := ((7, 44, [some (.ref 5), some (.ref 1011), some (.int x2), none, some (.int x4)], []), S5)) 1 rfl (fun c => ?_) (fun c => ?_)
        · have h := h.1 c
          refine j_A_nx 2 (fr' := (7, 15, [some (.ref 5), some (.ref 1011), some (.int x2), none, some (.int (x4 + (1 : Int32)))], [])) (S' := S5) rfl ?_
          refine j_ri_A.less (m := 7) (pc := 15) (L := [some (.ref 5), some (.ref 1011), some (.int x2), none, some (.int (x4 + (1 : Int32)))]) (L' := [some (.ref 5), some (.ref 1011), some (.int x2), none, some (.int (x4 + (1 : Int32)))]) (st := []) ⟨rfl, ⟨rfl, ⟨rfl, ⟨rfl, trivial⟩⟩⟩⟩ ?_
          exact ih _ _ _ h
        · have h := h.2 c
          exact j_A_ret 2 (m := 7) (v := some (.int (0 : Int32))) (S' := S5) rfl rfl ⟨_, rfl, h⟩
  · intro n
    induction n with
    | zero => intro x2 x4 S h; exact h.elim
    | succ n ih =>
      intro x2 x4 S h
      unfold w7_l15 at h
      refine j_A_call (j := 206) (As := [.ref 1012]) (fr' := (7, 21, [some (.ref 5), some (.ref 1012), some (.int x2), none, some (.int x4)], [.int x4])) (S' := S) 3 rfl (e := 1) (by omega) (j_A_imp (j_wt206 1012 (by decide)  h) (fun v S3 hq => ?_))
      obtain ⟨r4, hv, h⟩ := hq
      subst hv
      refine j_A_br (r4 ≤ x4) (r1 := ((7, 52, [some (.ref 5), some (.ref 1012), some (.int x2), none, some (.int x4)], []), S3)) (r2 := ((7, 24, [some (.ref 5), some (.ref 1012), some (.int x2), none, some (.int x4)], []), S3)) 1 rfl (fun c => ?_) (fun c => ?_)
      · have h := h.1 c
        exact j_A_ret 2 (m := 7) (v := some (.int (1 : Int32))) (S' := S3) rfl rfl ⟨_, rfl, h⟩
      · have h := h.2 c
        refine j_A_call (j := 98) (As := [.ref 6, .int (x2 + x4)]) (fr' := (7, 35, [some (.ref 5), some (.ref 1012), some (.int x2), none, some (.int x4)], [])) (S' := S3) 6 rfl (e := 0) (by omega) (j_sp_item 6 160 _ ⟨by decide, by decide, rfl⟩ (by decide) ?_)
        refine j_A_call (j := 207) (As := [.ref 1012, .int x4]) (fr' := (7, 41, [some (.ref 5), some (.ref 1012), some (.int x2), none, some (.int x4)], [.int (it (S3.1 6) 160 (x2 + x4))])) (S' := S3) 3 rfl (e := 3) (by omega) (j_A_imp (j_wt207 1012 (by decide) x4 h) (fun v S5 hq => ?_))
        obtain ⟨r6, hv, h⟩ := hq
        subst hv
        refine j_A_br ((it (S3.1 6) 160 (x2 + x4)) = r6) (r1 := ((7, 46, [some (.ref 5), some (.ref 1012), some (.int x2), none, some (.int x4)], []), S5)) (r2 := ((7, 44, [some (.ref 5), some (.ref 1012), some (.int x2), none, some (.int x4)], []), S5)) 1 rfl (fun c => ?_) (fun c => ?_)
        · have h := h.1 c
          refine j_A_nx 2 (fr' := (7, 15, [some (.ref 5), some (.ref 1012), some (.int x2), none, some (.int (x4 + (1 : Int32)))], [])) (S' := S5) rfl ?_
          refine j_ri_A.less (m := 7) (pc := 15) (L := [some (.ref 5), some (.ref 1012), some (.int x2), none, some (.int (x4 + (1 : Int32)))]) (L' := [some (.ref 5), some (.ref 1012), some (.int x2), none, some (.int (x4 + (1 : Int32)))]) (st := []) ⟨rfl, ⟨rfl, ⟨rfl, ⟨rfl, trivial⟩⟩⟩⟩ ?_
          exact ih _ _ _ h
        · have h := h.2 c
          exact j_A_ret 2 (m := 7) (v := some (.int (0 : Int32))) (S' := S5) rfl rfl ⟨_, rfl, h⟩
set_option maxRecDepth 10000 in
set_option maxHeartbeats 1000000 in
theorem j_wt7 {E : ri_E} (t : Nat) (hw : t = 1001 ∨ t = 1002 ∨ t = 1003 ∨ t = 1004 ∨ t = 1005 ∨ t = 1006 ∨ t = 1007 ∨ t = 1008 ∨ t = 1009 ∨ t = 1010 ∨ t = 1011 ∨ t = 1012) (a : Int32) (b : Int32) {S : ri_H} {Q : Int32 → ri_H → Prop} (h : w7 t a b S Q) : j_ri_A E 4 (ri_en 7 [.ref 5, .ref t, .int a, .int b]) S (Qi Q) := by
  rcases hw with rfl | rfl | rfl | rfl | rfl | rfl | rfl | rfl | rfl | rfl | rfl | rfl
  · unfold w7 at h
    show j_ri_A E 4 (7, 0, [some (.ref 5), some (.ref 1001), some (.int a), some (.int b), none], []) S (Qi Q)
    refine j_A_call (j := 206) (As := [.ref 1001]) (fr' := (7, 7, [some (.ref 5), some (.ref 1001), some (.int a), some (.int b), none], [.int (b - a)])) (S' := S) 5 rfl (e := 1) (by omega) (j_A_imp (j_wt206 1001 (by decide)  h) (fun v S1 hq => ?_))
    obtain ⟨r2, hv, h⟩ := hq
    subst hv
    refine j_A_br ((b - a) = r2) (r1 := ((7, 12, [some (.ref 5), some (.ref 1001), some (.int a), some (.int b), none], []), S1)) (r2 := ((7, 10, [some (.ref 5), some (.ref 1001), some (.int a), some (.int b), none], []), S1)) 1 rfl (fun c => ?_) (fun c => ?_)
    · have h := h.1 c
      refine j_A_nx 2 (fr' := (7, 15, [some (.ref 5), some (.ref 1001), some (.int a), some (.int b), some (.int (0 : Int32))], [])) (S' := S1) rfl ?_
      refine j_ri_A.less (m := 7) (pc := 15) (L := [some (.ref 5), some (.ref 1001), some (.int a), some (.int b), some (.int (0 : Int32))]) (L' := [some (.ref 5), some (.ref 1001), some (.int a), none, some (.int (0 : Int32))]) (st := []) ⟨rfl, ⟨rfl, ⟨rfl, ⟨rfl, trivial⟩⟩⟩⟩ ?_
      obtain ⟨nn, h⟩ := h
      exact j_wt7_l15 1001 (by decide)  nn _ _ _ h
    · have h := h.2 c
      exact j_A_ret 2 (m := 7) (v := some (.int (0 : Int32))) (S' := S1) rfl rfl ⟨_, rfl, h⟩
  · unfold w7 at h
    show j_ri_A E 4 (7, 0, [some (.ref 5), some (.ref 1002), some (.int a), some (.int b), none], []) S (Qi Q)
    refine j_A_call (j := 206) (As := [.ref 1002]) (fr' := (7, 7, [some (.ref 5), some (.ref 1002), some (.int a), some (.int b), none], [.int (b - a)])) (S' := S) 5 rfl (e := 1) (by omega) (j_A_imp (j_wt206 1002 (by decide)  h) (fun v S1 hq => ?_))
    obtain ⟨r2, hv, h⟩ := hq
    subst hv
    refine j_A_br ((b - a) = r2) (r1 := ((7, 12, [some (.ref 5), some (.ref 1002), some (.int a), some (.int b), none], []), S1)) (r2 := ((7, 10, [some (.ref 5), some (.ref 1002), some (.int a), some (.int b), none], []), S1)) 1 rfl (fun c => ?_) (fun c => ?_)
    · have h := h.1 c
      refine j_A_nx 2 (fr' := (7, 15, [some (.ref 5), some (.ref 1002), some (.int a), some (.int b), some (.int (0 : Int32))], [])) (S' := S1) rfl ?_
      refine j_ri_A.less (m := 7) (pc := 15) (L := [some (.ref 5), some (.ref 1002), some (.int a), some (.int b), some (.int (0 : Int32))]) (L' := [some (.ref 5), some (.ref 1002), some (.int a), none, some (.int (0 : Int32))]) (st := []) ⟨rfl, ⟨rfl, ⟨rfl, ⟨rfl, trivial⟩⟩⟩⟩ ?_
      obtain ⟨nn, h⟩ := h
      exact j_wt7_l15 1002 (by decide)  nn _ _ _ h
    · have h := h.2 c
      exact j_A_ret 2 (m := 7) (v := some (.int (0 : Int32))) (S' := S1) rfl rfl ⟨_, rfl, h⟩
  · unfold w7 at h
    show j_ri_A E 4 (7, 0, [some (.ref 5), some (.ref 1003), some (.int a), some (.int b), none], []) S (Qi Q)
    refine j_A_call (j := 206) (As := [.ref 1003]) (fr' := (7, 7, [some (.ref 5), some (.ref 1003), some (.int a), some (.int b), none], [.int (b - a)])) (S' := S) 5 rfl (e := 1) (by omega) (j_A_imp (j_wt206 1003 (by decide)  h) (fun v S1 hq => ?_))
    obtain ⟨r2, hv, h⟩ := hq
    subst hv
    refine j_A_br ((b - a) = r2) (r1 := ((7, 12, [some (.ref 5), some (.ref 1003), some (.int a), some (.int b), none], []), S1)) (r2 := ((7, 10, [some (.ref 5), some (.ref 1003), some (.int a), some (.int b), none], []), S1)) 1 rfl (fun c => ?_) (fun c => ?_)
    · have h := h.1 c
      refine j_A_nx 2 (fr' := (7, 15, [some (.ref 5), some (.ref 1003), some (.int a), some (.int b), some (.int (0 : Int32))], [])) (S' := S1) rfl ?_
      refine j_ri_A.less (m := 7) (pc := 15) (L := [some (.ref 5), some (.ref 1003), some (.int a), some (.int b), some (.int (0 : Int32))]) (L' := [some (.ref 5), some (.ref 1003), some (.int a), none, some (.int (0 : Int32))]) (st := []) ⟨rfl, ⟨rfl, ⟨rfl, ⟨rfl, trivial⟩⟩⟩⟩ ?_
      obtain ⟨nn, h⟩ := h
      exact j_wt7_l15 1003 (by decide)  nn _ _ _ h
    · have h := h.2 c
      exact j_A_ret 2 (m := 7) (v := some (.int (0 : Int32))) (S' := S1) rfl rfl ⟨_, rfl, h⟩
  · unfold w7 at h
    show j_ri_A E 4 (7, 0, [some (.ref 5), some (.ref 1004), some (.int a), some (.int b), none], []) S (Qi Q)
    refine j_A_call (j := 206) (As := [.ref 1004]) (fr' := (7, 7, [some (.ref 5), some (.ref 1004), some (.int a), some (.int b), none], [.int (b - a)])) (S' := S) 5 rfl (e := 1) (by omega) (j_A_imp (j_wt206 1004 (by decide)  h) (fun v S1 hq => ?_))
    obtain ⟨r2, hv, h⟩ := hq
    subst hv
    refine j_A_br ((b - a) = r2) (r1 := ((7, 12, [some (.ref 5), some (.ref 1004), some (.int a), some (.int b), none], []), S1)) (r2 := ((7, 10, [some (.ref 5), some (.ref 1004), some (.int a), some (.int b), none], []), S1)) 1 rfl (fun c => ?_) (fun c => ?_)
    · have h := h.1 c
      refine j_A_nx 2 (fr' := (7, 15, [some (.ref 5), some (.ref 1004), some (.int a), some (.int b), some (.int (0 : Int32))], [])) (S' := S1) rfl ?_
      refine j_ri_A.less (m := 7) (pc := 15) (L := [some (.ref 5), some (.ref 1004), some (.int a), some (.int b), some (.int (0 : Int32))]) (L' := [some (.ref 5), some (.ref 1004), some (.int a), none, some (.int (0 : Int32))]) (st := []) ⟨rfl, ⟨rfl, ⟨rfl, ⟨rfl, trivial⟩⟩⟩⟩ ?_
      obtain ⟨nn, h⟩ := h
      exact j_wt7_l15 1004 (by decide)  nn _ _ _ h
    · have h := h.2 c
      exact j_A_ret 2 (m := 7) (v := some (.int (0 : Int32))) (S' := S1) rfl rfl ⟨_, rfl, h⟩
  · unfold w7 at h
    show j_ri_A E 4 (7, 0, [some (.ref 5), some (.ref 1005), some (.int a), some (.int b), none], []) S (Qi Q)
    refine j_A_call (j := 206) (As := [.ref 1005]) (fr' := (7, 7, [some (.ref 5), some (.ref 1005), some (.int a), some (.int b), none], [.int (b - a)])) (S' := S) 5 rfl (e := 1) (by omega) (j_A_imp (j_wt206 1005 (by decide)  h) (fun v S1 hq => ?_))
    obtain ⟨r2, hv, h⟩ := hq
    subst hv
    refine j_A_br ((b - a) = r2) (r1 := ((7, 12, [some (.ref 5), some (.ref 1005), some (.int a), some (.int b), none], []), S1)) (r2 := ((7, 10, [some (.ref 5), some (.ref 1005), some (.int a), some (.int b), none], []), S1)) 1 rfl (fun c => ?_) (fun c => ?_)
    · have h := h.1 c
      refine j_A_nx 2 (fr' := (7, 15, [some (.ref 5), some (.ref 1005), some (.int a), some (.int b), some (.int (0 : Int32))], [])) (S' := S1) rfl ?_
      refine j_ri_A.less (m := 7) (pc := 15) (L := [some (.ref 5), some (.ref 1005), some (.int a), some (.int b), some (.int (0 : Int32))]) (L' := [some (.ref 5), some (.ref 1005), some (.int a), none, some (.int (0 : Int32))]) (st := []) ⟨rfl, ⟨rfl, ⟨rfl, ⟨rfl, trivial⟩⟩⟩⟩ ?_
      obtain ⟨nn, h⟩ := h
      exact j_wt7_l15 1005 (by decide)  nn _ _ _ h
    · have h := h.2 c
      exact j_A_ret 2 (m := 7) (v := some (.int (0 : Int32))) (S' := S1) rfl rfl ⟨_, rfl, h⟩
  · unfold w7 at h
    show j_ri_A E 4 (7, 0, [some (.ref 5), some (.ref 1006), some (.int a), some (.int b), none], []) S (Qi Q)
    refine j_A_call (j := 206) (As := [.ref 1006]) (fr' := (7, 7, [some (.ref 5), some (.ref 1006), some (.int a), some (.int b), none], [.int (b - a)])) (S' := S) 5 rfl (e := 1) (by omega) (j_A_imp (j_wt206 1006 (by decide)  h) (fun v S1 hq => ?_))
    obtain ⟨r2, hv, h⟩ := hq
    subst hv
    refine j_A_br ((b - a) = r2) (r1 := ((7, 12, [some (.ref 5), some (.ref 1006), some (.int a), some (.int b), none], []), S1)) (r2 := ((7, 10, [some (.ref 5), some (.ref 1006), some (.int a), some (.int b), none], []), S1)) 1 rfl (fun c => ?_) (fun c => ?_)
    · have h := h.1 c
      refine j_A_nx 2 (fr' := (7, 15, [some (.ref 5), some (.ref 1006), some (.int a), some (.int b), some (.int (0 : Int32))], [])) (S' := S1) rfl ?_
      refine j_ri_A.less (m := 7) (pc := 15) (L := [some (.ref 5), some (.ref 1006), some (.int a), some (.int b), some (.int (0 : Int32))]) (L' := [some (.ref 5), some (.ref 1006), some (.int a), none, some (.int (0 : Int32))]) (st := []) ⟨rfl, ⟨rfl, ⟨rfl, ⟨rfl, trivial⟩⟩⟩⟩ ?_
      obtain ⟨nn, h⟩ := h
      exact j_wt7_l15 1006 (by decide)  nn _ _ _ h
    · have h := h.2 c
      exact j_A_ret 2 (m := 7) (v := some (.int (0 : Int32))) (S' := S1) rfl rfl ⟨_, rfl, h⟩
  · unfold w7 at h
    show j_ri_A E 4 (7, 0, [some (.ref 5), some (.ref 1007), some (.int a), some (.int b), none], []) S (Qi Q)
    refine j_A_call (j := 206) (As := [.ref 1007]) (fr' := (7, 7, [some (.ref 5), some (.ref 1007), some (.int a), some (.int b), none], [.int (b - a)])) (S' := S) 5 rfl (e := 1) (by omega) (j_A_imp (j_wt206 1007 (by decide)  h) (fun v S1 hq => ?_))
    obtain ⟨r2, hv, h⟩ := hq
    subst hv
    refine j_A_br ((b - a) = r2) (r1 := ((7, 12, [some (.ref 5), some (.ref 1007), some (.int a), some (.int b), none], []), S1)) (r2 := ((7, 10, [some (.ref 5), some (.ref 1007), some (.int a), some (.int b), none], []), S1)) 1 rfl (fun c => ?_) (fun c => ?_)
    · have h := h.1 c
      refine j_A_nx 2 (fr' := (7, 15, [some (.ref 5), some (.ref 1007), some (.int a), some (.int b), some (.int (0 : Int32))], [])) (S' := S1) rfl ?_
      refine j_ri_A.less (m := 7) (pc := 15) (L := [some (.ref 5), some (.ref 1007), some (.int a), some (.int b), some (.int (0 : Int32))]) (L' := [some (.ref 5), some (.ref 1007), some (.int a), none, some (.int (0 : Int32))]) (st := []) ⟨rfl, ⟨rfl, ⟨rfl, ⟨rfl, trivial⟩⟩⟩⟩ ?_
      obtain ⟨nn, h⟩ := h
      exact j_wt7_l15 1007 (by decide)  nn _ _ _ h
    · have h := h.2 c
      exact j_A_ret 2 (m := 7) (v := some (.int (0 : Int32))) (S' := S1) rfl rfl ⟨_, rfl, h⟩
  · unfold w7 at h
    show j_ri_A E 4 (7, 0, [some (.ref 5), some (.ref 1008), some (.int a), some (.int b), none], []) S (Qi Q)
    refine j_A_call (j := 206) (As := [.ref 1008]) (fr' := (7, 7, [some (.ref 5), some (.ref 1008), some (.int a), some (.int b), none], [.int (b - a)])) (S' := S) 5 rfl (e := 1) (by omega) (j_A_imp (j_wt206 1008 (by decide)  h) (fun v S1 hq => ?_))
    obtain ⟨r2, hv, h⟩ := hq
    subst hv
    refine j_A_br ((b - a) = r2) (r1 := ((7, 12, [some (.ref 5), some (.ref 1008), some (.int a), some (.int b), none], []), S1)) (r2 := ((7, 10, [some (.ref 5), some (.ref 1008), some (.int a), some (.int b), none], []), S1)) 1 rfl (fun c => ?_) (fun c => ?_)
    · have h := h.1 c
      refine j_A_nx 2 (fr' := (7, 15, [some (.ref 5), some (.ref 1008), some (.int a), some (.int b), some (.int (0 : Int32))], [])) (S' := S1) rfl ?_
      refine j_ri_A.less (m := 7) (pc := 15) (L := [some (.ref 5), some (.ref 1008), some (.int a), some (.int b), some (.int (0 : Int32))]) (L' := [some (.ref 5), some (.ref 1008), some (.int a), none, some (.int (0 : Int32))]) (st := []) ⟨rfl, ⟨rfl, ⟨rfl, ⟨rfl, trivial⟩⟩⟩⟩ ?_
      obtain ⟨nn, h⟩ := h
      exact j_wt7_l15 1008 (by decide)  nn _ _ _ h
    · have h := h.2 c
      exact j_A_ret 2 (m := 7) (v := some (.int (0 : Int32))) (S' := S1) rfl rfl ⟨_, rfl, h⟩
  · unfold w7 at h
    show j_ri_A E 4 (7, 0, [some (.ref 5), some (.ref 1009), some (.int a), some (.int b), none], []) S (Qi Q)
    refine j_A_call (j := 206) (As := [.ref 1009]) (fr' := (7, 7, [some (.ref 5), some (.ref 1009), some (.int a), some (.int b), none], [.int (b - a)])) (S' := S) 5 rfl (e := 1) (by omega) (j_A_imp (j_wt206 1009 (by decide)  h) (fun v S1 hq => ?_))
    obtain ⟨r2, hv, h⟩ := hq
    subst hv
    refine j_A_br ((b - a) = r2) (r1 := ((7, 12, [some (.ref 5), some (.ref 1009), some (.int a), some (.int b), none], []), S1)) (r2 := ((7, 10, [some (.ref 5), some (.ref 1009), some (.int a), some (.int b), none], []), S1)) 1 rfl (fun c => ?_) (fun c => ?_)
    · have h := h.1 c
      refine j_A_nx 2 (fr' := (7, 15, [some (.ref 5), some (.ref 1009), some (.int a), some (.int b), some (.int (0 : Int32))], [])) (S' := S1) rfl ?_
      refine j_ri_A.less (m := 7) (pc := 15) (L := [some (.ref 5), some (.ref 1009), some (.int a), some (.int b), some (.int (0 : Int32))]) (L' := [some (.ref 5), some (.ref 1009), some (.int a), none, some (.int (0 : Int32))]) (st := []) ⟨rfl, ⟨rfl, ⟨rfl, ⟨rfl, trivial⟩⟩⟩⟩ ?_
      obtain ⟨nn, h⟩ := h
      exact j_wt7_l15 1009 (by decide)  nn _ _ _ h
    · have h := h.2 c
      exact j_A_ret 2 (m := 7) (v := some (.int (0 : Int32))) (S' := S1) rfl rfl ⟨_, rfl, h⟩
  · unfold w7 at h
    show j_ri_A E 4 (7, 0, [some (.ref 5), some (.ref 1010), some (.int a), some (.int b), none], []) S (Qi Q)
    refine j_A_call (j := 206) (As := [.ref 1010]) (fr' := (7, 7, [some (.ref 5), some (.ref 1010), some (.int a), some (.int b), none], [.int (b - a)])) (S' := S) 5 rfl (e := 1) (by omega) (j_A_imp (j_wt206 1010 (by decide)  h) (fun v S1 hq => ?_))
    obtain ⟨r2, hv, h⟩ := hq
    subst hv
    refine j_A_br ((b - a) = r2) (r1 := ((7, 12, [some (.ref 5), some (.ref 1010), some (.int a), some (.int b), none], []), S1)) (r2 := ((7, 10, [some (.ref 5), some (.ref 1010), some (.int a), some (.int b), none], []), S1)) 1 rfl (fun c => ?_) (fun c => ?_)
    · have h := h.1 c
      refine j_A_nx 2 (fr' := (7, 15, [some (.ref 5), some (.ref 1010), some (.int a), some (.int b), some (.int (0 : Int32))], [])) (S' := S1) rfl ?_
      refine j_ri_A.less (m := 7) (pc := 15) (L := [some (.ref 5), some (.ref 1010), some (.int a), some (.int b), some (.int (0 : Int32))]) (L' := [some (.ref 5), some (.ref 1010), some (.int a), none, some (.int (0 : Int32))]) (st := []) ⟨rfl, ⟨rfl, ⟨rfl, ⟨rfl, trivial⟩⟩⟩⟩ ?_
      obtain ⟨nn, h⟩ := h
      exact j_wt7_l15 1010 (by decide)  nn _ _ _ h
    · have h := h.2 c
      exact j_A_ret 2 (m := 7) (v := some (.int (0 : Int32))) (S' := S1) rfl rfl ⟨_, rfl, h⟩
  · unfold w7 at h
    show j_ri_A E 4 (7, 0, [some (.ref 5), some (.ref 1011), some (.int a), some (.int b), none], []) S (Qi Q)
    refine j_A_call (j := 206) (As := [.ref 1011]) (fr' := (7, 7, [some (.ref 5), some (.ref 1011), some (.int a), some (.int b), none], [.int (b - a)])) (S' := S) 5 rfl (e := 1) (by omega) (j_A_imp (j_wt206 1011 (by decide)  h) (fun v S1 hq => ?_))
    obtain ⟨r2, hv, h⟩ := hq
    subst hv
    refine j_A_br ((b - a) = r2) (r1 := ((7, 12, [some (.ref 5), some (.ref 1011), some (.int a), some (.int b), none], []), S1)) (r2 := ((7, 10, [some (.ref 5), some (.ref 1011), some (.int a), some (.int b), none], []), S1)) 1 rfl (fun c => ?_) (fun c => ?_)
    · have h := h.1 c
      refine j_A_nx 2 (fr' := (7, 15, [some (.ref 5), some (.ref 1011), some (.int a), some (.int b), some (.int (0 : Int32))], [])) (S' := S1) rfl ?_
      refine j_ri_A.less (m := 7) (pc := 15) (L := [some (.ref 5), some (.ref 1011), some (.int a), some (.int b), some (.int (0 : Int32))]) (L' := [some (.ref 5), some (.ref 1011), some (.int a), none, some (.int (0 : Int32))]) (st := []) ⟨rfl, ⟨rfl, ⟨rfl, ⟨rfl, trivial⟩⟩⟩⟩ ?_
      obtain ⟨nn, h⟩ := h
      exact j_wt7_l15 1011 (by decide)  nn _ _ _ h
    · have h := h.2 c
      exact j_A_ret 2 (m := 7) (v := some (.int (0 : Int32))) (S' := S1) rfl rfl ⟨_, rfl, h⟩
  · unfold w7 at h
    show j_ri_A E 4 (7, 0, [some (.ref 5), some (.ref 1012), some (.int a), some (.int b), none], []) S (Qi Q)
    refine j_A_call (j := 206) (As := [.ref 1012]) (fr' := (7, 7, [some (.ref 5), some (.ref 1012), some (.int a), some (.int b), none], [.int (b - a)])) (S' := S) 5 rfl (e := 1) (by omega) (j_A_imp (j_wt206 1012 (by decide)  h) (fun v S1 hq => ?_))
    obtain ⟨r2, hv, h⟩ := hq
    subst hv
    refine j_A_br ((b - a) = r2) (r1 := ((7, 12, [some (.ref 5), some (.ref 1012), some (.int a), some (.int b), none], []), S1)) (r2 := ((7, 10, [some (.ref 5), some (.ref 1012), some (.int a), some (.int b), none], []), S1)) 1 rfl (fun c => ?_) (fun c => ?_)
    · have h := h.1 c
      refine j_A_nx 2 (fr' := (7, 15, [some (.ref 5), some (.ref 1012), some (.int a), some (.int b), some (.int (0 : Int32))], [])) (S' := S1) rfl ?_
      refine j_ri_A.less (m := 7) (pc := 15) (L := [some (.ref 5), some (.ref 1012), some (.int a), some (.int b), some (.int (0 : Int32))]) (L' := [some (.ref 5), some (.ref 1012), some (.int a), none, some (.int (0 : Int32))]) (st := []) ⟨rfl, ⟨rfl, ⟨rfl, ⟨rfl, trivial⟩⟩⟩⟩ ?_
      obtain ⟨nn, h⟩ := h
      exact j_wt7_l15 1012 (by decide)  nn _ _ _ h
    · have h := h.2 c
      exact j_A_ret 2 (m := 7) (v := some (.int (0 : Int32))) (S' := S1) rfl rfl ⟨_, rfl, h⟩
set_option maxRecDepth 10000 in
set_option maxHeartbeats 1000000 in
theorem j_wt6_b94 {E : ri_E} {Q : Int32 → ri_H → Prop} (x1 : Int32) (x2 : Int32) (s0 : Int32) (S : ri_H) (h : w6_b94   Q x1 x2 s0 S) : j_ri_A E 5 (6, 94, [some (.ref 5), some (.int x1), some (.int x2), none], [.int s0]) S (Qi Q) := by
  unfold w6_b94 at h
  refine j_A_br (s0 = (1 : Int32)) (r1 := ((6, 102, [some (.ref 5), some (.int x1), some (.int x2), some (.int s0)], []), S)) (r2 := ((6, 100, [some (.ref 5), some (.int x1), some (.int x2), some (.int s0)], []), S)) 4 rfl (fun c => ?_) (fun c => ?_)
  · have h := h.1 c
    refine j_A_call (j := 7) (As := [.ref 5, .ref 1007, .int x1, .int x2]) (fr' := (6, 110, [some (.ref 5), some (.int x1), some (.int x2), some (.int s0)], [])) (S' := S) 5 rfl (e := 4) (by omega) (j_A_imp (j_wt7 1007 (by decide) x1 x2 h) (fun v S13 hq => ?_))
    obtain ⟨r14, hv, h⟩ := hq
    subst hv
    refine j_A_br (r14 = 0) (r1 := ((6, 118, [some (.ref 5), some (.int x1), some (.int x2), some (.int s0)], []), S13)) (r2 := ((6, 113, [some (.ref 5), some (.int x1), some (.int x2), some (.int s0)], []), S13)) 1 rfl (fun c => ?_) (fun c => ?_)
    · have h := h.1 c
      refine j_A_call (j := 7) (As := [.ref 5, .ref 1008, .int x1, .int x2]) (fr' := (6, 126, [some (.ref 5), some (.int x1), some (.int x2), some (.int s0)], [])) (S' := S13) 5 rfl (e := 4) (by omega) (j_A_imp (j_wt7 1008 (by decide) x1 x2 h) (fun v S15 hq => ?_))
      obtain ⟨r16, hv, h⟩ := hq
      subst hv
      refine j_A_br (r16 = 0) (r1 := ((6, 134, [some (.ref 5), some (.int x1), some (.int x2), some (.int s0)], []), S15)) (r2 := ((6, 129, [some (.ref 5), some (.int x1), some (.int x2), some (.int s0)], []), S15)) 1 rfl (fun c => ?_) (fun c => ?_)
      · have h := h.1 c
        refine j_A_call (j := 7) (As := [.ref 5, .ref 1009, .int x1, .int x2]) (fr' := (6, 142, [some (.ref 5), some (.int x1), some (.int x2), some (.int s0)], [])) (S' := S15) 5 rfl (e := 4) (by omega) (j_A_imp (j_wt7 1009 (by decide) x1 x2 h) (fun v S17 hq => ?_))
        obtain ⟨r18, hv, h⟩ := hq
        subst hv
        refine j_A_br (r18 = 0) (r1 := ((6, 150, [some (.ref 5), some (.int x1), some (.int x2), some (.int s0)], []), S17)) (r2 := ((6, 145, [some (.ref 5), some (.int x1), some (.int x2), some (.int s0)], []), S17)) 1 rfl (fun c => ?_) (fun c => ?_)
        · have h := h.1 c
          refine j_A_call (j := 7) (As := [.ref 5, .ref 1010, .int x1, .int x2]) (fr' := (6, 158, [some (.ref 5), some (.int x1), some (.int x2), some (.int s0)], [])) (S' := S17) 5 rfl (e := 4) (by omega) (j_A_imp (j_wt7 1010 (by decide) x1 x2 h) (fun v S19 hq => ?_))
          obtain ⟨r20, hv, h⟩ := hq
          subst hv
          refine j_A_br (r20 = 0) (r1 := ((6, 166, [some (.ref 5), some (.int x1), some (.int x2), some (.int s0)], []), S19)) (r2 := ((6, 161, [some (.ref 5), some (.int x1), some (.int x2), some (.int s0)], []), S19)) 1 rfl (fun c => ?_) (fun c => ?_)
          · have h := h.1 c
            refine j_A_call (j := 7) (As := [.ref 5, .ref 1011, .int x1, .int x2]) (fr' := (6, 174, [some (.ref 5), some (.int x1), some (.int x2), some (.int s0)], [])) (S' := S19) 5 rfl (e := 4) (by omega) (j_A_imp (j_wt7 1011 (by decide) x1 x2 h) (fun v S21 hq => ?_))
            obtain ⟨r22, hv, h⟩ := hq
            subst hv
            refine j_A_br (r22 = 0) (r1 := ((6, 182, [some (.ref 5), some (.int x1), some (.int x2), some (.int s0)], []), S21)) (r2 := ((6, 177, [some (.ref 5), some (.int x1), some (.int x2), some (.int s0)], []), S21)) 1 rfl (fun c => ?_) (fun c => ?_)
            · have h := h.1 c
              refine j_A_call (j := 7) (As := [.ref 5, .ref 1012, .int x1, .int x2]) (fr' := (6, 190, [some (.ref 5), some (.int x1), some (.int x2), some (.int s0)], [])) (S' := S21) 5 rfl (e := 4) (by omega) (j_A_imp (j_wt7 1012 (by decide) x1 x2 h) (fun v S23 hq => ?_))
              obtain ⟨r24, hv, h⟩ := hq
              subst hv
              refine j_A_br (r24 = 0) (r1 := ((6, 198, [some (.ref 5), some (.int x1), some (.int x2), some (.int s0)], []), S23)) (r2 := ((6, 193, [some (.ref 5), some (.int x1), some (.int x2), some (.int s0)], []), S23)) 1 rfl (fun c => ?_) (fun c => ?_)
              · have h := h.1 c
                exact j_A_ret 2 (m := 6) (v := some (.int (1 : Int32))) (S' := S23) rfl rfl ⟨_, rfl, h⟩
              · have h := h.2 c
                exact j_A_ret 3 (m := 6) (v := some (.int (15 : Int32))) (S' := S23) rfl rfl ⟨_, rfl, h⟩
            · have h := h.2 c
              exact j_A_ret 3 (m := 6) (v := some (.int (14 : Int32))) (S' := S21) rfl rfl ⟨_, rfl, h⟩
          · have h := h.2 c
            exact j_A_ret 3 (m := 6) (v := some (.int (13 : Int32))) (S' := S19) rfl rfl ⟨_, rfl, h⟩
        · have h := h.2 c
          exact j_A_ret 3 (m := 6) (v := some (.int (12 : Int32))) (S' := S17) rfl rfl ⟨_, rfl, h⟩
      · have h := h.2 c
        exact j_A_ret 3 (m := 6) (v := some (.int (11 : Int32))) (S' := S15) rfl rfl ⟨_, rfl, h⟩
    · have h := h.2 c
      exact j_A_ret 3 (m := 6) (v := some (.int (10 : Int32))) (S' := S13) rfl rfl ⟨_, rfl, h⟩
  · have h := h.2 c
    exact j_A_ret 2 (m := 6) (v := some (.int s0)) (S' := S) rfl rfl ⟨_, rfl, h⟩
set_option maxRecDepth 10000 in
set_option maxHeartbeats 1000000 in
theorem j_wt6 {E : ri_E} (a : Int32) (b : Int32) {S : ri_H} {Q : Int32 → ri_H → Prop} (h : w6  a b S Q) : j_ri_A E 5 (ri_en 6 [.ref 5, .int a, .int b]) S (Qi Q) := by
  unfold w6 at h
  show j_ri_A E 5 (6, 0, [some (.ref 5), some (.int a), some (.int b), none], []) S (Qi Q)
  refine j_A_call (j := 7) (As := [.ref 5, .ref 1001, .int a, .int b]) (fr' := (6, 8, [some (.ref 5), some (.int a), some (.int b), none], [])) (S' := S) 5 rfl (e := 4) (by omega) (j_A_imp (j_wt7 1001 (by decide) a b h) (fun v S1 hq => ?_))
  obtain ⟨r2, hv, h⟩ := hq
  subst hv
  refine j_A_br (r2 = 0) (r1 := ((6, 15, [some (.ref 5), some (.int a), some (.int b), none], []), S1)) (r2 := ((6, 11, [some (.ref 5), some (.int a), some (.int b), none], []), S1)) 1 rfl (fun c => ?_) (fun c => ?_)
  · have h := h.1 c
    refine j_A_call (j := 7) (As := [.ref 5, .ref 1002, .int a, .int b]) (fr' := (6, 23, [some (.ref 5), some (.int a), some (.int b), none], [])) (S' := S1) 5 rfl (e := 4) (by omega) (j_A_imp (j_wt7 1002 (by decide) a b h) (fun v S3 hq => ?_))
    obtain ⟨r4, hv, h⟩ := hq
    subst hv
    refine j_A_br (r4 = 0) (r1 := ((6, 30, [some (.ref 5), some (.int a), some (.int b), none], []), S3)) (r2 := ((6, 26, [some (.ref 5), some (.int a), some (.int b), none], []), S3)) 1 rfl (fun c => ?_) (fun c => ?_)
    · have h := h.1 c
      refine j_A_call (j := 7) (As := [.ref 5, .ref 1003, .int a, .int b]) (fr' := (6, 38, [some (.ref 5), some (.int a), some (.int b), none], [])) (S' := S3) 5 rfl (e := 4) (by omega) (j_A_imp (j_wt7 1003 (by decide) a b h) (fun v S5 hq => ?_))
      obtain ⟨r6, hv, h⟩ := hq
      subst hv
      refine j_A_br (r6 = 0) (r1 := ((6, 45, [some (.ref 5), some (.int a), some (.int b), none], []), S5)) (r2 := ((6, 41, [some (.ref 5), some (.int a), some (.int b), none], []), S5)) 1 rfl (fun c => ?_) (fun c => ?_)
      · have h := h.1 c
        refine j_A_call (j := 7) (As := [.ref 5, .ref 1004, .int a, .int b]) (fr' := (6, 53, [some (.ref 5), some (.int a), some (.int b), none], [])) (S' := S5) 5 rfl (e := 4) (by omega) (j_A_imp (j_wt7 1004 (by decide) a b h) (fun v S7 hq => ?_))
        obtain ⟨r8, hv, h⟩ := hq
        subst hv
        refine j_A_br (r8 = 0) (r1 := ((6, 61, [some (.ref 5), some (.int a), some (.int b), none], []), S7)) (r2 := ((6, 56, [some (.ref 5), some (.int a), some (.int b), none], []), S7)) 1 rfl (fun c => ?_) (fun c => ?_)
        · have h := h.1 c
          refine j_A_call (j := 7) (As := [.ref 5, .ref 1005, .int a, .int b]) (fr' := (6, 69, [some (.ref 5), some (.int a), some (.int b), none], [])) (S' := S7) 5 rfl (e := 4) (by omega) (j_A_imp (j_wt7 1005 (by decide) a b h) (fun v S9 hq => ?_))
          obtain ⟨r10, hv, h⟩ := hq
          subst hv
          refine j_A_br (r10 = 0) (r1 := ((6, 77, [some (.ref 5), some (.int a), some (.int b), none], []), S9)) (r2 := ((6, 72, [some (.ref 5), some (.int a), some (.int b), none], []), S9)) 1 rfl (fun c => ?_) (fun c => ?_)
          · have h := h.1 c
            refine j_A_call (j := 7) (As := [.ref 5, .ref 1006, .int a, .int b]) (fr' := (6, 85, [some (.ref 5), some (.int a), some (.int b), none], [])) (S' := S9) 5 rfl (e := 4) (by omega) (j_A_imp (j_wt7 1006 (by decide) a b h) (fun v S11 hq => ?_))
            obtain ⟨r12, hv, h⟩ := hq
            subst hv
            refine j_A_br (r12 = 0) (r1 := ((6, 93, [some (.ref 5), some (.int a), some (.int b), none], []), S11)) (r2 := ((6, 88, [some (.ref 5), some (.int a), some (.int b), none], []), S11)) 1 rfl (fun c => ?_) (fun c => ?_)
            · have h := h.1 c
              refine j_A_nx 1 (fr' := (6, 94, [some (.ref 5), some (.int a), some (.int b), none], [.int (1 : Int32)])) (S' := S11) rfl ?_
              refine j_ri_A.less (m := 6) (pc := 94) (L := [some (.ref 5), some (.int a), some (.int b), none]) (L' := [some (.ref 5), some (.int a), some (.int b), none]) (st := [.int (1 : Int32)]) ⟨rfl, ⟨rfl, ⟨rfl, trivial⟩⟩⟩ ?_
              exact j_wt6_b94   _ _ _ _ h
            · have h := h.2 c
              refine j_A_nx 2 (fr' := (6, 94, [some (.ref 5), some (.int a), some (.int b), none], [.int (8 : Int32)])) (S' := S11) rfl ?_
              refine j_ri_A.less (m := 6) (pc := 94) (L := [some (.ref 5), some (.int a), some (.int b), none]) (L' := [some (.ref 5), some (.int a), some (.int b), none]) (st := [.int (8 : Int32)]) ⟨rfl, ⟨rfl, ⟨rfl, trivial⟩⟩⟩ ?_
              exact j_wt6_b94   _ _ _ _ h
          · have h := h.2 c
            refine j_A_nx 2 (fr' := (6, 94, [some (.ref 5), some (.int a), some (.int b), none], [.int (7 : Int32)])) (S' := S9) rfl ?_
            refine j_ri_A.less (m := 6) (pc := 94) (L := [some (.ref 5), some (.int a), some (.int b), none]) (L' := [some (.ref 5), some (.int a), some (.int b), none]) (st := [.int (7 : Int32)]) ⟨rfl, ⟨rfl, ⟨rfl, trivial⟩⟩⟩ ?_
            exact j_wt6_b94   _ _ _ _ h
        · have h := h.2 c
          refine j_A_nx 2 (fr' := (6, 94, [some (.ref 5), some (.int a), some (.int b), none], [.int (6 : Int32)])) (S' := S7) rfl ?_
          refine j_ri_A.less (m := 6) (pc := 94) (L := [some (.ref 5), some (.int a), some (.int b), none]) (L' := [some (.ref 5), some (.int a), some (.int b), none]) (st := [.int (6 : Int32)]) ⟨rfl, ⟨rfl, ⟨rfl, trivial⟩⟩⟩ ?_
          exact j_wt6_b94   _ _ _ _ h
      · have h := h.2 c
        refine j_A_nx 2 (fr' := (6, 94, [some (.ref 5), some (.int a), some (.int b), none], [.int (5 : Int32)])) (S' := S5) rfl ?_
        refine j_ri_A.less (m := 6) (pc := 94) (L := [some (.ref 5), some (.int a), some (.int b), none]) (L' := [some (.ref 5), some (.int a), some (.int b), none]) (st := [.int (5 : Int32)]) ⟨rfl, ⟨rfl, ⟨rfl, trivial⟩⟩⟩ ?_
        exact j_wt6_b94   _ _ _ _ h
    · have h := h.2 c
      refine j_A_nx 2 (fr' := (6, 94, [some (.ref 5), some (.int a), some (.int b), none], [.int (4 : Int32)])) (S' := S3) rfl ?_
      refine j_ri_A.less (m := 6) (pc := 94) (L := [some (.ref 5), some (.int a), some (.int b), none]) (L' := [some (.ref 5), some (.int a), some (.int b), none]) (st := [.int (4 : Int32)]) ⟨rfl, ⟨rfl, ⟨rfl, trivial⟩⟩⟩ ?_
      exact j_wt6_b94   _ _ _ _ h
  · have h := h.2 c
    refine j_A_nx 2 (fr' := (6, 94, [some (.ref 5), some (.int a), some (.int b), none], [.int (3 : Int32)])) (S' := S1) rfl ?_
    refine j_ri_A.less (m := 6) (pc := 94) (L := [some (.ref 5), some (.int a), some (.int b), none]) (L' := [some (.ref 5), some (.int a), some (.int b), none]) (st := [.int (3 : Int32)]) ⟨rfl, ⟨rfl, ⟨rfl, trivial⟩⟩⟩ ?_
    exact j_wt6_b94   _ _ _ _ h
set_option maxRecDepth 10000 in
set_option maxHeartbeats 1000000 in
theorem j_wt5 {E : ri_E} (a : Int32) (b : Int32) {S : ri_H} {Q : Int32 → ri_H → Prop} (h : w5  a b S Q) : j_ri_A E 6 (ri_en 5 [.ref 5, .int a, .int b]) S (Qi Q) := by
  unfold w5 at h
  show j_ri_A E 6 (5, 0, [some (.ref 5), some (.int a), some (.int b), none], []) S (Qi Q)
  refine j_A_call (j := 98) (As := [.ref 6, .int a]) (fr' := (5, 8, [some (.ref 5), some (.int a), some (.int b), none], [])) (S' := S) 4 rfl (e := 0) (by omega) (j_sp_item 6 160 _ ⟨by decide, by decide, rfl⟩ (by decide) ?_)
  refine j_A_call (j := 10) (As := [.int (it (S.1 6) 160 a)]) (fr' := (5, 13, [some (.ref 5), some (.int a), some (.int b), some (.int (it (S.1 6) 160 a))], [])) (S' := S) 3 rfl (e := 0) (by omega) (j_A_imp (j_wt10 (it (S.1 6) 160 a) h) (fun v S1 hq => ?_))
  obtain ⟨r2, hv, h⟩ := hq
  subst hv
  refine j_A_br (r2 = 0) (r1 := ((5, 23, [some (.ref 5), some (.int a), some (.int b), some (.int (it (S.1 6) 160 a))], []), S1)) (r2 := ((5, 16, [some (.ref 5), some (.int a), some (.int b), some (.int (it (S.1 6) 160 a))], []), S1)) 1 rfl (fun c => ?_) (fun c => ?_)
  · have h := h.1 c
    refine j_A_call (j := 11) (As := [.int (it (S.1 6) 160 a)]) (fr' := (5, 27, [some (.ref 5), some (.int a), some (.int b), some (.int (it (S.1 6) 160 a))], [])) (S' := S1) 2 rfl (e := 0) (by omega) (j_A_imp (j_wt11 (it (S.1 6) 160 a) h) (fun v S3 hq => ?_))
    obtain ⟨r4, hv, h⟩ := hq
    subst hv
    refine j_A_br (r4 = 0) (r1 := ((5, 43, [some (.ref 5), some (.int a), some (.int b), some (.int (it (S.1 6) 160 a))], []), S3)) (r2 := ((5, 30, [some (.ref 5), some (.int a), some (.int b), some (.int (it (S.1 6) 160 a))], []), S3)) 1 rfl (fun c => ?_) (fun c => ?_)
    · have h := h.1 c
      refine j_A_nx 2 (fr' := (5, ri_tgt 44 (106) (40) (61) [104, 104, 104, 104, 106, 104, 106, 106, 106, 106, 106, 106, 106, 106, 106, 106, 106, 106, 106, 104, 104, 104] (it (S.1 6) 160 a), [some (.ref 5), some (.int a), some (.int b), some (.int (it (S.1 6) 160 a))], [])) (S' := S3) rfl ?_
      rcases ri_swc (it (S.1 6) 160 a) (40) 22 (by decide) (by decide) with c | ⟨i, hi, c⟩
      · have c : (it (S.1 6) 160 a) < Int32.ofInt (40) ∨ Int32.ofInt (61) < (it (S.1 6) 160 a) := c
        have h := h.1 c
        rw [ri_tgt_out (it (S.1 6) 160 a) c (by decide) (by decide)]
        exact j_A_ret 2 (m := 5) (v := some (.int (1 : Int32))) (S' := S3) rfl rfl ⟨_, rfl, h⟩
      · have h := h.2
        match i, hi, c with
        | 0, hi, c =>
          have c : (it (S.1 6) 160 a) = (40 : Int32) := c
          have h := h.1 c
          rw [show ri_tgt 44 (106) (40) (61) [104, 104, 104, 104, 106, 104, 106, 106, 106, 106, 106, 106, 106, 106, 106, 106, 106, 106, 106, 104, 104, 104] (it (S.1 6) 160 a) = 148 by rw [c]; decide]
          exact j_A_ret 2 (m := 5) (v := some (.int (it (S.1 6) 160 a))) (S' := S3) rfl rfl ⟨_, rfl, h⟩
        | 1, hi, c =>
          have c : (it (S.1 6) 160 a) = (41 : Int32) := c
          have h := h.2.1 c
          rw [show ri_tgt 44 (106) (40) (61) [104, 104, 104, 104, 106, 104, 106, 106, 106, 106, 106, 106, 106, 106, 106, 106, 106, 106, 106, 104, 104, 104] (it (S.1 6) 160 a) = 148 by rw [c]; decide]
          exact j_A_ret 2 (m := 5) (v := some (.int (it (S.1 6) 160 a))) (S' := S3) rfl rfl ⟨_, rfl, h⟩
        | 2, hi, c =>
          have c : (it (S.1 6) 160 a) = (42 : Int32) := c
          have h := h.2.2.1 c
          rw [show ri_tgt 44 (106) (40) (61) [104, 104, 104, 104, 106, 104, 106, 106, 106, 106, 106, 106, 106, 106, 106, 106, 106, 106, 106, 104, 104, 104] (it (S.1 6) 160 a) = 148 by rw [c]; decide]
          exact j_A_ret 2 (m := 5) (v := some (.int (it (S.1 6) 160 a))) (S' := S3) rfl rfl ⟨_, rfl, h⟩
        | 3, hi, c =>
          have c : (it (S.1 6) 160 a) = (43 : Int32) := c
          have h := h.2.2.2.1 c
          rw [show ri_tgt 44 (106) (40) (61) [104, 104, 104, 104, 106, 104, 106, 106, 106, 106, 106, 106, 106, 106, 106, 106, 106, 106, 106, 104, 104, 104] (it (S.1 6) 160 a) = 148 by rw [c]; decide]
          exact j_A_ret 2 (m := 5) (v := some (.int (it (S.1 6) 160 a))) (S' := S3) rfl rfl ⟨_, rfl, h⟩
        | 4, hi, c =>
          have c : (it (S.1 6) 160 a) = (44 : Int32) := c
          have h := h.2.2.2.2.1 c
          rw [show ri_tgt 44 (106) (40) (61) [104, 104, 104, 104, 106, 104, 106, 106, 106, 106, 106, 106, 106, 106, 106, 106, 106, 106, 106, 104, 104, 104] (it (S.1 6) 160 a) = 150 by rw [c]; decide]
          exact j_A_ret 2 (m := 5) (v := some (.int (1 : Int32))) (S' := S3) rfl rfl ⟨_, rfl, h⟩
        | 5, hi, c =>
          have c : (it (S.1 6) 160 a) = (45 : Int32) := c
          have h := h.2.2.2.2.2.1 c
          rw [show ri_tgt 44 (106) (40) (61) [104, 104, 104, 104, 106, 104, 106, 106, 106, 106, 106, 106, 106, 106, 106, 106, 106, 106, 106, 104, 104, 104] (it (S.1 6) 160 a) = 148 by rw [c]; decide]
          exact j_A_ret 2 (m := 5) (v := some (.int (it (S.1 6) 160 a))) (S' := S3) rfl rfl ⟨_, rfl, h⟩
        | 6, hi, c =>
          have c : (it (S.1 6) 160 a) = (46 : Int32) := c
          have h := h.2.2.2.2.2.2.1 c
          rw [show ri_tgt 44 (106) (40) (61) [104, 104, 104, 104, 106, 104, 106, 106, 106, 106, 106, 106, 106, 106, 106, 106, 106, 106, 106, 104, 104, 104] (it (S.1 6) 160 a) = 150 by rw [c]; decide]
          exact j_A_ret 2 (m := 5) (v := some (.int (1 : Int32))) (S' := S3) rfl rfl ⟨_, rfl, h⟩
        | 7, hi, c =>
          have c : (it (S.1 6) 160 a) = (47 : Int32) := c
          have h := h.2.2.2.2.2.2.2.1 c
          rw [show ri_tgt 44 (106) (40) (61) [104, 104, 104, 104, 106, 104, 106, 106, 106, 106, 106, 106, 106, 106, 106, 106, 106, 106, 106, 104, 104, 104] (it (S.1 6) 160 a) = 150 by rw [c]; decide]
          exact j_A_ret 2 (m := 5) (v := some (.int (1 : Int32))) (S' := S3) rfl rfl ⟨_, rfl, h⟩
        | 8, hi, c =>
          have c : (it (S.1 6) 160 a) = (48 : Int32) := c
          have h := h.2.2.2.2.2.2.2.2.1 c
          rw [show ri_tgt 44 (106) (40) (61) [104, 104, 104, 104, 106, 104, 106, 106, 106, 106, 106, 106, 106, 106, 106, 106, 106, 106, 106, 104, 104, 104] (it (S.1 6) 160 a) = 150 by rw [c]; decide]
          exact j_A_ret 2 (m := 5) (v := some (.int (1 : Int32))) (S' := S3) rfl rfl ⟨_, rfl, h⟩
        | 9, hi, c =>
          have c : (it (S.1 6) 160 a) = (49 : Int32) := c
          have h := h.2.2.2.2.2.2.2.2.2.1 c
          rw [show ri_tgt 44 (106) (40) (61) [104, 104, 104, 104, 106, 104, 106, 106, 106, 106, 106, 106, 106, 106, 106, 106, 106, 106, 106, 104, 104, 104] (it (S.1 6) 160 a) = 150 by rw [c]; decide]
          exact j_A_ret 2 (m := 5) (v := some (.int (1 : Int32))) (S' := S3) rfl rfl ⟨_, rfl, h⟩
        | 10, hi, c =>
          have c : (it (S.1 6) 160 a) = (50 : Int32) := c
          have h := h.2.2.2.2.2.2.2.2.2.2.1 c
          rw [show ri_tgt 44 (106) (40) (61) [104, 104, 104, 104, 106, 104, 106, 106, 106, 106, 106, 106, 106, 106, 106, 106, 106, 106, 106, 104, 104, 104] (it (S.1 6) 160 a) = 150 by rw [c]; decide]
          exact j_A_ret 2 (m := 5) (v := some (.int (1 : Int32))) (S' := S3) rfl rfl ⟨_, rfl, h⟩
        | 11, hi, c =>
          have c : (it (S.1 6) 160 a) = (51 : Int32) := c
          have h := h.2.2.2.2.2.2.2.2.2.2.2.1 c
          rw [show ri_tgt 44 (106) (40) (61) [104, 104, 104, 104, 106, 104, 106, 106, 106, 106, 106, 106, 106, 106, 106, 106, 106, 106, 106, 104, 104, 104] (it (S.1 6) 160 a) = 150 by rw [c]; decide]
          exact j_A_ret 2 (m := 5) (v := some (.int (1 : Int32))) (S' := S3) rfl rfl ⟨_, rfl, h⟩
        | 12, hi, c =>
          have c : (it (S.1 6) 160 a) = (52 : Int32) := c
          have h := h.2.2.2.2.2.2.2.2.2.2.2.2.1 c
          rw [show ri_tgt 44 (106) (40) (61) [104, 104, 104, 104, 106, 104, 106, 106, 106, 106, 106, 106, 106, 106, 106, 106, 106, 106, 106, 104, 104, 104] (it (S.1 6) 160 a) = 150 by rw [c]; decide]
          exact j_A_ret 2 (m := 5) (v := some (.int (1 : Int32))) (S' := S3) rfl rfl ⟨_, rfl, h⟩
        | 13, hi, c =>
          have c : (it (S.1 6) 160 a) = (53 : Int32) := c
          have h := h.2.2.2.2.2.2.2.2.2.2.2.2.2.1 c
          rw [show ri_tgt 44 (106) (40) (61) [104, 104, 104, 104, 106, 104, 106, 106, 106, 106, 106, 106, 106, 106, 106, 106, 106, 106, 106, 104, 104, 104] (it (S.1 6) 160 a) = 150 by rw [c]; decide]
          exact j_A_ret 2 (m := 5) (v := some (.int (1 : Int32))) (S' := S3) rfl rfl ⟨_, rfl, h⟩
        | 14, hi, c =>
          have c : (it (S.1 6) 160 a) = (54 : Int32) := c
          have h := h.2.2.2.2.2.2.2.2.2.2.2.2.2.2.1 c
          rw [show ri_tgt 44 (106) (40) (61) [104, 104, 104, 104, 106, 104, 106, 106, 106, 106, 106, 106, 106, 106, 106, 106, 106, 106, 106, 104, 104, 104] (it (S.1 6) 160 a) = 150 by rw [c]; decide]
          exact j_A_ret 2 (m := 5) (v := some (.int (1 : Int32))) (S' := S3) rfl rfl ⟨_, rfl, h⟩
        | 15, hi, c =>
          have c : (it (S.1 6) 160 a) = (55 : Int32) := c
          have h := h.2.2.2.2.2.2.2.2.2.2.2.2.2.2.2.1 c
          rw [show ri_tgt 44 (106) (40) (61) [104, 104, 104, 104, 106, 104, 106, 106, 106, 106, 106, 106, 106, 106, 106, 106, 106, 106, 106, 104, 104, 104] (it (S.1 6) 160 a) = 150 by rw [c]; decide]
          exact j_A_ret 2 (m := 5) (v := some (.int (1 : Int32))) (S' := S3) rfl rfl ⟨_, rfl, h⟩
        | 16, hi, c =>
          have c : (it (S.1 6) 160 a) = (56 : Int32) := c
          have h := h.2.2.2.2.2.2.2.2.2.2.2.2.2.2.2.2.1 c
          rw [show ri_tgt 44 (106) (40) (61) [104, 104, 104, 104, 106, 104, 106, 106, 106, 106, 106, 106, 106, 106, 106, 106, 106, 106, 106, 104, 104, 104] (it (S.1 6) 160 a) = 150 by rw [c]; decide]
          exact j_A_ret 2 (m := 5) (v := some (.int (1 : Int32))) (S' := S3) rfl rfl ⟨_, rfl, h⟩
        | 17, hi, c =>
          have c : (it (S.1 6) 160 a) = (57 : Int32) := c
          have h := h.2.2.2.2.2.2.2.2.2.2.2.2.2.2.2.2.2.1 c
          rw [show ri_tgt 44 (106) (40) (61) [104, 104, 104, 104, 106, 104, 106, 106, 106, 106, 106, 106, 106, 106, 106, 106, 106, 106, 106, 104, 104, 104] (it (S.1 6) 160 a) = 150 by rw [c]; decide]
          exact j_A_ret 2 (m := 5) (v := some (.int (1 : Int32))) (S' := S3) rfl rfl ⟨_, rfl, h⟩
        | 18, hi, c =>
          have c : (it (S.1 6) 160 a) = (58 : Int32) := c
          have h := h.2.2.2.2.2.2.2.2.2.2.2.2.2.2.2.2.2.2.1 c
          rw [show ri_tgt 44 (106) (40) (61) [104, 104, 104, 104, 106, 104, 106, 106, 106, 106, 106, 106, 106, 106, 106, 106, 106, 106, 106, 104, 104, 104] (it (S.1 6) 160 a) = 150 by rw [c]; decide]
          exact j_A_ret 2 (m := 5) (v := some (.int (1 : Int32))) (S' := S3) rfl rfl ⟨_, rfl, h⟩
        | 19, hi, c =>
          have c : (it (S.1 6) 160 a) = (59 : Int32) := c
          have h := h.2.2.2.2.2.2.2.2.2.2.2.2.2.2.2.2.2.2.2.1 c
          rw [show ri_tgt 44 (106) (40) (61) [104, 104, 104, 104, 106, 104, 106, 106, 106, 106, 106, 106, 106, 106, 106, 106, 106, 106, 106, 104, 104, 104] (it (S.1 6) 160 a) = 148 by rw [c]; decide]
          exact j_A_ret 2 (m := 5) (v := some (.int (it (S.1 6) 160 a))) (S' := S3) rfl rfl ⟨_, rfl, h⟩
        | 20, hi, c =>
          have c : (it (S.1 6) 160 a) = (60 : Int32) := c
          have h := h.2.2.2.2.2.2.2.2.2.2.2.2.2.2.2.2.2.2.2.2.1 c
          rw [show ri_tgt 44 (106) (40) (61) [104, 104, 104, 104, 106, 104, 106, 106, 106, 106, 106, 106, 106, 106, 106, 106, 106, 106, 106, 104, 104, 104] (it (S.1 6) 160 a) = 148 by rw [c]; decide]
          exact j_A_ret 2 (m := 5) (v := some (.int (it (S.1 6) 160 a))) (S' := S3) rfl rfl ⟨_, rfl, h⟩
        | 21, hi, c =>
          have c : (it (S.1 6) 160 a) = (61 : Int32) := c
          have h := h.2.2.2.2.2.2.2.2.2.2.2.2.2.2.2.2.2.2.2.2.2 c
          rw [show ri_tgt 44 (106) (40) (61) [104, 104, 104, 104, 106, 104, 106, 106, 106, 106, 106, 106, 106, 106, 106, 106, 106, 106, 106, 104, 104, 104] (it (S.1 6) 160 a) = 148 by rw [c]; decide]
          exact j_A_ret 2 (m := 5) (v := some (.int (it (S.1 6) 160 a))) (S' := S3) rfl rfl ⟨_, rfl, h⟩
        | i + 22, hi, c => exact absurd hi (by omega)
    · have h := h.2 c
      refine j_A_br ((b - a) ≤ (4 : Int32)) (r1 := ((5, 41, [some (.ref 5), some (.int a), some (.int b), some (.int (it (S.1 6) 160 a))], []), S3)) (r2 := ((5, 37, [some (.ref 5), some (.int a), some (.int b), some (.int (it (S.1 6) 160 a))], []), S3)) 5 rfl (fun c => ?_) (fun c => ?_)
      · have h := h.1 c
        exact j_A_ret 2 (m := 5) (v := some (.int (2 : Int32))) (S' := S3) rfl rfl ⟨_, rfl, h⟩
      · have h := h.2 c
        exact j_A_ret 3 (m := 5) (v := some (.int (1 : Int32))) (S' := S3) rfl rfl ⟨_, rfl, h⟩
  · have h := h.2 c
    refine j_A_call (j := 6) (As := [.ref 5, .int a, .int b]) (fr' := (5, 22, [some (.ref 5), some (.int a), some (.int b), some (.int (it (S.1 6) 160 a))], [])) (S' := S1) 4 rfl (e := 5) (by omega) (j_A_imp (j_wt6 a b h) (fun v S5 hq => ?_))
    obtain ⟨r6, hv, h⟩ := hq
    subst hv
    exact j_A_ret 1 (m := 5) (v := some (.int r6)) (S' := S5) rfl rfl ⟨_, rfl, h⟩
set_option maxRecDepth 10000 in
set_option maxHeartbeats 1000000 in
theorem j_wt2_b129 {E : ri_E} {Q : ri_H → Prop}  (S : ri_H) (h : w2_b129   Q  S) : j_ri_A E 7 (2, 129, [some (.ref 5), none, none, none, none, none], []) S (Qv Q) := by
  unfold w2_b129 at h
  refine j_A_call (j := 3) (As := [.ref 5, .int (0 : Int32), .int (0 : Int32), .int (S.1 5 4)]) (fr' := (2, 139, [some (.ref 5), none, none, none, none, none], [])) (S' := S) 6 rfl (e := 1) (by omega) (j_A_imp (j_wt3 (0 : Int32) (0 : Int32) (S.1 5 4) h) (fun v S1 hq => ?_))
  obtain ⟨hv, h⟩ := hq
  subst hv
  exact j_A_ret 1 (m := 2) (v := none) (S' := S1) rfl rfl ⟨rfl, h⟩
set_option maxRecDepth 10000 in
set_option maxHeartbeats 1000000 in
theorem j_wt2_b123 {E : ri_E} {K11 : Int32 → Int32 → Int32 → ri_H → Prop} {Q : ri_H → Prop} (hK11 : ∀ (x1 : Int32) (x2 : Int32) (x3 : Int32) (S : ri_H), K11 x1 x2 x3 S → j_ri_A E 7 (2, 11, [some (.ref 5), some (.int x1), some (.int x2), some (.int x3), none, none], []) S (Qv Q)) (x1 : Int32) (x2 : Int32) (x3 : Int32) (S : ri_H) (h : w2_b123  K11 Q x1 x2 x3 S) : j_ri_A E 7 (2, 123, [some (.ref 5), some (.int x1), some (.int x2), some (.int x3), none, none], []) S (Qv Q) := by
  unfold w2_b123 at h
  refine j_A_nx 2 (fr' := (2, 11, [some (.ref 5), some (.int x1), some (.int x2), some (.int (x3 + (1 : Int32))), none, none], [])) (S' := S) rfl ?_
  refine j_ri_A.less (m := 2) (pc := 11) (L := [some (.ref 5), some (.int x1), some (.int x2), some (.int (x3 + (1 : Int32))), none, none]) (L' := [some (.ref 5), some (.int x1), some (.int x2), some (.int (x3 + (1 : Int32))), none, none]) (st := []) ⟨rfl, ⟨rfl, ⟨rfl, ⟨rfl, trivial⟩⟩⟩⟩ ?_
  exact hK11 _ _ _ _ h
set_option maxRecDepth 10000 in
set_option maxHeartbeats 1000000 in
theorem j_wt2_b122 {E : ri_E} {K11 : Int32 → Int32 → Int32 → ri_H → Prop} {Q : ri_H → Prop} (hK11 : ∀ (x1 : Int32) (x2 : Int32) (x3 : Int32) (S : ri_H), K11 x1 x2 x3 S → j_ri_A E 7 (2, 11, [some (.ref 5), some (.int x1), some (.int x2), some (.int x3), none, none], []) S (Qv Q)) (x1 : Int32) (x3 : Int32) (s0 : Int32) (S : ri_H) (h : w2_b122  K11 Q x1 x3 s0 S) : j_ri_A E 7 (2, 122, [some (.ref 5), some (.int x1), none, some (.int x3), none, none], [.int s0]) S (Qv Q) := by
  unfold w2_b122 at h
  refine j_A_nx 1 (fr' := (2, 123, [some (.ref 5), some (.int x1), some (.int s0), some (.int x3), none, none], [])) (S' := S) rfl ?_
  refine j_ri_A.less (m := 2) (pc := 123) (L := [some (.ref 5), some (.int x1), some (.int s0), some (.int x3), none, none]) (L' := [some (.ref 5), some (.int x1), some (.int s0), some (.int x3), none, none]) (st := []) ⟨rfl, ⟨rfl, ⟨rfl, ⟨rfl, trivial⟩⟩⟩⟩ ?_
  exact j_wt2_b123  hK11 _ _ _ _ h
set_option maxRecDepth 10000 in
set_option maxHeartbeats 1000000 in
theorem j_wt2_b104 {E : ri_E} {K11 : Int32 → Int32 → Int32 → ri_H → Prop} {Q : ri_H → Prop} (hK11 : ∀ (x1 : Int32) (x2 : Int32) (x3 : Int32) (S : ri_H), K11 x1 x2 x3 S → j_ri_A E 7 (2, 11, [some (.ref 5), some (.int x1), some (.int x2), some (.int x3), none, none], []) S (Qv Q)) (x1 : Int32) (x3 : Int32) (x4 : Int32) (x5 : Int32) (s0 : Int32) (s1 : Int32) (S : ri_H) (h : w2_b104  K11 Q x1 x3 x4 x5 s0 s1 S) : j_ri_A E 7 (2, 104, [some (.ref 5), some (.int x1), none, some (.int x3), some (.int x4), some (.int x5)], [.int s0, .int s1, .ref 5]) S (Qv Q) := by
  unfold w2_b104 at h
  refine j_A_call (j := 3) (As := [.ref 5, .int s1, .int s0, .int x1]) (fr' := (2, 108, [some (.ref 5), some (.int x1), none, some (.int x3), some (.int x4), some (.int x5)], [])) (S' := S) 2 rfl (e := 1) (by omega) (j_A_imp (j_wt3 s1 s0 x1 h) (fun v S6 hq => ?_))
  obtain ⟨hv, h⟩ := hq
  subst hv
  refine j_A_br (x5 = (1 : Int32)) (r1 := ((2, 121, [some (.ref 5), some (.int x4), none, some (.int x3), some (.int x4), some (.int x5)], []), S6)) (r2 := ((2, 117, [some (.ref 5), some (.int x4), none, some (.int x3), some (.int x4), some (.int x5)], []), S6)) 5 rfl (fun c => ?_) (fun c => ?_)
  · have h := h.1 c
    refine j_A_nx 1 (fr' := (2, 122, [some (.ref 5), some (.int x4), none, some (.int x3), some (.int x4), some (.int x5)], [.int (0 : Int32)])) (S' := S6) rfl ?_
    refine j_ri_A.less (m := 2) (pc := 122) (L := [some (.ref 5), some (.int x4), none, some (.int x3), some (.int x4), some (.int x5)]) (L' := [some (.ref 5), some (.int x4), none, some (.int x3), none, none]) (st := [.int (0 : Int32)]) ⟨rfl, ⟨rfl, ⟨rfl, trivial⟩⟩⟩ ?_
    exact j_wt2_b122  hK11 _ _ _ _ h
  · have h := h.2 c
    refine j_A_nx 2 (fr' := (2, 122, [some (.ref 5), some (.int x4), none, some (.int x3), some (.int x4), some (.int x5)], [.int (1 : Int32)])) (S' := S6) rfl ?_
    refine j_ri_A.less (m := 2) (pc := 122) (L := [some (.ref 5), some (.int x4), none, some (.int x3), some (.int x4), some (.int x5)]) (L' := [some (.ref 5), some (.int x4), none, some (.int x3), none, none]) (st := [.int (1 : Int32)]) ⟨rfl, ⟨rfl, ⟨rfl, trivial⟩⟩⟩ ?_
    exact j_wt2_b122  hK11 _ _ _ _ h
set_option maxRecDepth 10000 in
set_option maxHeartbeats 1000000 in
theorem j_wt2_b63 {E : ri_E} {K11 : Int32 → Int32 → Int32 → ri_H → Prop} {Q : ri_H → Prop} (hK11 : ∀ (x1 : Int32) (x2 : Int32) (x3 : Int32) (S : ri_H), K11 x1 x2 x3 S → j_ri_A E 7 (2, 11, [some (.ref 5), some (.int x1), some (.int x2), some (.int x3), none, none], []) S (Qv Q)) (x1 : Int32) (x3 : Int32) (s0 : Int32) (S : ri_H) (h : w2_b63  K11 Q x1 x3 s0 S) : j_ri_A E 7 (2, 63, [some (.ref 5), some (.int x1), none, some (.int x3), none, none], [.int s0]) S (Qv Q) := by
  unfold w2_b63 at h
  refine j_A_br (s0 = 0) (r1 := ((2, 123, [some (.ref 5), some (.int x1), some (.int s0), some (.int x3), none, none], []), S)) (r2 := ((2, 68, [some (.ref 5), some (.int x1), some (.int s0), some (.int x3), none, none], []), S)) 3 rfl (fun c => ?_) (fun c => ?_)
  · have h := h.1 c
    refine j_ri_A.less (m := 2) (pc := 123) (L := [some (.ref 5), some (.int x1), some (.int s0), some (.int x3), none, none]) (L' := [some (.ref 5), some (.int x1), some (.int s0), some (.int x3), none, none]) (st := []) ⟨rfl, ⟨rfl, ⟨rfl, ⟨rfl, trivial⟩⟩⟩⟩ ?_
    exact j_wt2_b123  hK11 _ _ _ _ h
  · have h := h.2 c
    refine j_A_call (j := 4) (As := [.ref 5, .int x1]) (fr' := (2, 73, [some (.ref 5), some (.int x1), some (.int s0), some (.int x3), none, none], [])) (S' := S) 3 rfl (e := 1) (by omega) (j_A_imp (j_wt4 x1 h) (fun v S2 hq => ?_))
    obtain ⟨r3, hv, h⟩ := hq
    subst hv
    refine j_A_call (j := 5) (As := [.ref 5, .int x1, .int r3]) (fr' := (2, 82, [some (.ref 5), some (.int x1), some (.int s0), some (.int x3), some (.int r3), none], [])) (S' := S2) 5 rfl (e := 6) (by omega) (j_A_imp (j_wt5 x1 r3 h) (fun v S4 hq => ?_))
    obtain ⟨r5, hv, h⟩ := hq
    subst hv
    refine j_A_br (¬ r5 = (2 : Int32)) (r1 := ((2, 103, [some (.ref 5), some (.int x1), some (.int s0), some (.int x3), some (.int r3), some (.int r5)], [.int r5, .ref 5]), S4)) (r2 := ((2, 93, [some (.ref 5), some (.int x1), some (.int s0), some (.int x3), some (.int r3), some (.int r5)], [.int r5, .ref 5]), S4)) 6 rfl (fun c => ?_) (fun c => ?_)
    · have h := h.1 c
      refine j_A_nx 1 (fr' := (2, 104, [some (.ref 5), some (.int x1), some (.int s0), some (.int x3), some (.int r3), some (.int r5)], [.int (0 : Int32), .int r5, .ref 5])) (S' := S4) rfl ?_
      refine j_ri_A.less (m := 2) (pc := 104) (L := [some (.ref 5), some (.int x1), some (.int s0), some (.int x3), some (.int r3), some (.int r5)]) (L' := [some (.ref 5), some (.int x1), none, some (.int x3), some (.int r3), some (.int r5)]) (st := [.int (0 : Int32), .int r5, .ref 5]) ⟨rfl, ⟨rfl, ⟨rfl, ⟨rfl, ⟨rfl, trivial⟩⟩⟩⟩⟩ ?_
      exact j_wt2_b104  hK11 _ _ _ _ _ _ _ h
    · have h := h.2 c
      refine j_A_call (j := 8) (As := [.ref 5, .int x1, .int r3]) (fr' := (2, 100, [some (.ref 5), some (.int x1), some (.int s0), some (.int x3), some (.int r3), some (.int r5)], [.int r5, .ref 5])) (S' := S4) 4 rfl (e := 1) (by omega) (j_A_imp (j_wt8 x1 r3 h) (fun v S7 hq => ?_))
      obtain ⟨r8, hv, h⟩ := hq
      subst hv
      refine j_A_nx 1 (fr' := (2, 104, [some (.ref 5), some (.int x1), some (.int s0), some (.int x3), some (.int r3), some (.int r5)], [.int r8, .int r5, .ref 5])) (S' := S7) rfl ?_
      refine j_ri_A.less (m := 2) (pc := 104) (L := [some (.ref 5), some (.int x1), some (.int s0), some (.int x3), some (.int r3), some (.int r5)]) (L' := [some (.ref 5), some (.int x1), none, some (.int x3), some (.int r3), some (.int r5)]) (st := [.int r8, .int r5, .ref 5]) ⟨rfl, ⟨rfl, ⟨rfl, ⟨rfl, ⟨rfl, trivial⟩⟩⟩⟩⟩ ?_
      exact j_wt2_b104  hK11 _ _ _ _ _ _ _ h
set_option maxRecDepth 10000 in
set_option maxHeartbeats 1000000 in
theorem j_wt2_b50 {E : ri_E} {K11 : Int32 → Int32 → Int32 → ri_H → Prop} {Q : ri_H → Prop} (hK11 : ∀ (x1 : Int32) (x2 : Int32) (x3 : Int32) (S : ri_H), K11 x1 x2 x3 S → j_ri_A E 7 (2, 11, [some (.ref 5), some (.int x1), some (.int x2), some (.int x3), none, none], []) S (Qv Q)) (x1 : Int32) (x3 : Int32) (S : ri_H) (h : w2_b50  K11 Q x1 x3 S) : j_ri_A E 7 (2, 50, [some (.ref 5), some (.int x1), none, some (.int x3), none, none], []) S (Qv Q) := by
  unfold w2_b50 at h
  refine j_A_br ((S.1 5 4) ≤ x1) (r1 := ((2, 62, [some (.ref 5), some (.int x1), none, some (.int x3), none, none], []), S)) (r2 := ((2, 58, [some (.ref 5), some (.int x1), none, some (.int x3), none, none], []), S)) 4 rfl (fun c => ?_) (fun c => ?_)
  · have h := h.1 c
    refine j_A_nx 1 (fr' := (2, 63, [some (.ref 5), some (.int x1), none, some (.int x3), none, none], [.int (0 : Int32)])) (S' := S) rfl ?_
    refine j_ri_A.less (m := 2) (pc := 63) (L := [some (.ref 5), some (.int x1), none, some (.int x3), none, none]) (L' := [some (.ref 5), some (.int x1), none, some (.int x3), none, none]) (st := [.int (0 : Int32)]) ⟨rfl, ⟨rfl, ⟨rfl, trivial⟩⟩⟩ ?_
    exact j_wt2_b63  hK11 _ _ _ _ h
  · have h := h.2 c
    refine j_A_nx 2 (fr' := (2, 63, [some (.ref 5), some (.int x1), none, some (.int x3), none, none], [.int (1 : Int32)])) (S' := S) rfl ?_
    refine j_ri_A.less (m := 2) (pc := 63) (L := [some (.ref 5), some (.int x1), none, some (.int x3), none, none]) (L' := [some (.ref 5), some (.int x1), none, some (.int x3), none, none]) (st := [.int (1 : Int32)]) ⟨rfl, ⟨rfl, ⟨rfl, trivial⟩⟩⟩ ?_
    exact j_wt2_b63  hK11 _ _ _ _ h
set_option maxRecDepth 10000 in
set_option maxHeartbeats 1000000 in
theorem j_wt2_l22 {E : ri_E} {K11 : Int32 → Int32 → Int32 → ri_H → Prop} {Q : ri_H → Prop} (hK11 : ∀ (x1 : Int32) (x2 : Int32) (x3 : Int32) (S : ri_H), K11 x1 x2 x3 S → j_ri_A E 7 (2, 11, [some (.ref 5), some (.int x1), some (.int x2), some (.int x3), none, none], []) S (Qv Q)) : ∀ (n : Nat) (x1 : Int32) (x3 : Int32) (S : ri_H), w2_l22  K11 Q n x1 x3 S → j_ri_A E 7 (2, 22, [some (.ref 5), some (.int x1), none, some (.int x3), none, none], []) S (Qv Q) := by
  intro n
  induction n with
  | zero => intro x1 x3 S h; exact h.elim
  | succ n ih =>
    intro x1 x3 S h
    unfold w2_l22 at h
    refine j_A_br ((S.1 5 4) ≤ x1) (r1 := ((2, 50, [some (.ref 5), some (.int x1), none, some (.int x3), none, none], []), S)) (r2 := ((2, 30, [some (.ref 5), some (.int x1), none, some (.int x3), none, none], []), S)) 4 rfl (fun c => ?_) (fun c => ?_)
    · have h := h.1 c
      refine j_ri_A.less (m := 2) (pc := 50) (L := [some (.ref 5), some (.int x1), none, some (.int x3), none, none]) (L' := [some (.ref 5), some (.int x1), none, some (.int x3), none, none]) (st := []) ⟨rfl, ⟨rfl, ⟨rfl, trivial⟩⟩⟩ ?_
      exact j_wt2_b50  hK11 _ _ _ h
    · have h := h.2 c
      refine j_A_call (j := 98) (As := [.ref 6, .int x1]) (fr' := (2, 38, [some (.ref 5), some (.int x1), none, some (.int x3), none, none], [])) (S' := S) 4 rfl (e := 0) (by omega) (j_sp_item 6 160 _ ⟨by decide, by decide, rfl⟩ (by decide) ?_)
      refine j_A_call (j := 9) (As := [.int (it (S.1 6) 160 x1)]) (fr' := (2, 41, [some (.ref 5), some (.int x1), none, some (.int x3), none, none], [])) (S' := S) 1 rfl (e := 0) (by omega) (j_A_imp (j_wt9 (it (S.1 6) 160 x1) h) (fun v S9 hq => ?_))
      obtain ⟨r10, hv, h⟩ := hq
      subst hv
      refine j_A_br (r10 = 0) (r1 := ((2, 50, [some (.ref 5), some (.int x1), none, some (.int x3), none, none], []), S9)) (r2 := ((2, 44, [some (.ref 5), some (.int x1), none, some (.int x3), none, none], []), S9)) 1 rfl (fun c => ?_) (fun c => ?_)
      · have h := h.1 c
        refine j_ri_A.less (m := 2) (pc := 50) (L := [some (.ref 5), some (.int x1), none, some (.int x3), none, none]) (L' := [some (.ref 5), some (.int x1), none, some (.int x3), none, none]) (st := []) ⟨rfl, ⟨rfl, ⟨rfl, trivial⟩⟩⟩ ?_
        exact j_wt2_b50  hK11 _ _ _ h
      · have h := h.2 c
        refine j_A_nx 2 (fr' := (2, 22, [some (.ref 5), some (.int (x1 + (1 : Int32))), none, some (.int x3), none, none], [])) (S' := S9) rfl ?_
        refine j_ri_A.less (m := 2) (pc := 22) (L := [some (.ref 5), some (.int (x1 + (1 : Int32))), none, some (.int x3), none, none]) (L' := [some (.ref 5), some (.int (x1 + (1 : Int32))), none, some (.int x3), none, none]) (st := []) ⟨rfl, ⟨rfl, ⟨rfl, trivial⟩⟩⟩ ?_
        exact ih _ _ _ h
set_option maxRecDepth 10000 in
set_option maxHeartbeats 1000000 in
theorem j_wt2_l11 {E : ri_E} {Q : ri_H → Prop} : ∀ (n : Nat) (x1 : Int32) (x2 : Int32) (x3 : Int32) (S : ri_H), w2_l11   Q n x1 x2 x3 S → j_ri_A E 7 (2, 11, [some (.ref 5), some (.int x1), some (.int x2), some (.int x3), none, none], []) S (Qv Q) := by
  intro n
  induction n with
  | zero => intro x1 x2 x3 S h; exact h.elim
  | succ n ih =>
    intro x1 x2 x3 S h
    unfold w2_l11 at h
    refine j_A_br ((160 : Int32) ≤ x3) (r1 := ((2, 129, [some (.ref 5), some (.int x1), some (.int x2), some (.int x3), none, none], []), S)) (r2 := ((2, 18, [some (.ref 5), some (.int x1), some (.int x2), some (.int x3), none, none], []), S)) 3 rfl (fun c => ?_) (fun c => ?_)
    · have h := h.1 c
      refine j_ri_A.less (m := 2) (pc := 129) (L := [some (.ref 5), some (.int x1), some (.int x2), some (.int x3), none, none]) (L' := [some (.ref 5), none, none, none, none, none]) (st := []) ⟨rfl, trivial⟩ ?_
      exact j_wt2_b129   _ h
    · have h := h.2 c
      refine j_A_br (x2 = 0) (r1 := ((2, 129, [some (.ref 5), some (.int x1), some (.int x2), some (.int x3), none, none], []), S)) (r2 := ((2, 22, [some (.ref 5), some (.int x1), some (.int x2), some (.int x3), none, none], []), S)) 2 rfl (fun c => ?_) (fun c => ?_)
      · have h := h.1 c
        refine j_ri_A.less (m := 2) (pc := 129) (L := [some (.ref 5), some (.int x1), some (.int x2), some (.int x3), none, none]) (L' := [some (.ref 5), none, none, none, none, none]) (st := []) ⟨rfl, trivial⟩ ?_
        exact j_wt2_b129   _ h
      · have h := h.2 c
        refine j_ri_A.less (m := 2) (pc := 22) (L := [some (.ref 5), some (.int x1), some (.int x2), some (.int x3), none, none]) (L' := [some (.ref 5), some (.int x1), none, some (.int x3), none, none]) (st := []) ⟨rfl, ⟨rfl, ⟨rfl, trivial⟩⟩⟩ ?_
        obtain ⟨nn, h⟩ := h
        exact j_wt2_l22  (fun x1 x2 x3 S hk => ih x1 x2 x3 S hk) nn _ _ _ h
set_option maxRecDepth 10000 in
set_option maxHeartbeats 1000000 in
theorem j_wt2 {E : ri_E}  {S : ri_H} {Q : ri_H → Prop} (h : w2   S Q) : j_ri_A E 7 (ri_en 2 [.ref 5]) S (Qv Q) := by
  unfold w2 at h
  show j_ri_A E 7 (2, 0, [some (.ref 5), none, none, none, none, none], []) S (Qv Q)
  refine j_A_nx 9 (fr' := (2, 11, [some (.ref 5), some (.int (0 : Int32)), some (.int (1 : Int32)), some (.int (0 : Int32)), none, none], [])) (S' := (ri_wi S 5 5 (0 : Int32))) rfl ?_
  refine j_ri_A.less (m := 2) (pc := 11) (L := [some (.ref 5), some (.int (0 : Int32)), some (.int (1 : Int32)), some (.int (0 : Int32)), none, none]) (L' := [some (.ref 5), some (.int (0 : Int32)), some (.int (1 : Int32)), some (.int (0 : Int32)), none, none]) (st := []) ⟨rfl, ⟨rfl, ⟨rfl, ⟨rfl, trivial⟩⟩⟩⟩ ?_
  obtain ⟨nn, h⟩ := h
  exact j_wt2_l11   nn _ _ _ _ h
set_option maxRecDepth 10000 in
set_option maxHeartbeats 1000000 in
theorem j_wt12 {E : ri_E}  {S : ri_H} {Q : Int32 → ri_H → Prop} (h : w12   S Q) : j_ri_A E 1 (ri_en 12 [.ref 5]) S (Qi Q) := by
  unfold w12 at h
  show j_ri_A E 1 (12, 0, [some (.ref 5)], []) S (Qi Q)
  refine j_A_br (¬ (S.1 5 7) = (-1 : Int32)) (r1 := ((12, 22, [some (.ref 5)], []), S)) (r2 := ((12, 8, [some (.ref 5)], []), S)) 4 rfl (fun c => ?_) (fun c => ?_)
  · have h := h.1 c
    exact j_A_ret 2 (m := 12) (v := some (.int (1 : Int32))) (S' := S) rfl rfl ⟨_, rfl, h⟩
  · have h := h.2 c
    refine j_A_call (j := 98) (As := [.ref 7, .int (S.1 5 6)]) (fr' := (12, 19, [some (.ref 5)], [])) (S' := S) 5 rfl (e := 0) (by omega) (j_sp_item 7 161 _ ⟨by decide, by decide, rfl⟩ (by decide) ?_)
    exact j_A_ret 2 (m := 12) (v := some (.int (it (S.1 7) 161 (S.1 5 6)))) (S' := S) rfl rfl ⟨_, rfl, h⟩
set_option maxRecDepth 10000 in
set_option maxHeartbeats 1000000 in
theorem j_wt13 {E : ri_E} (a : Int32) {S : ri_H} {Q : Int32 → ri_H → Prop} (h : w13  a S Q) : j_ri_A E 2 (ri_en 13 [.ref 5, .int a]) S (Qi Q) := by
  unfold w13 at h
  show j_ri_A E 2 (13, 0, [some (.ref 5), some (.int a)], []) S (Qi Q)
  refine j_A_call (j := 12) (As := [.ref 5]) (fr' := (13, 4, [some (.ref 5), some (.int a)], [])) (S' := S) 2 rfl (e := 1) (by omega) (j_A_imp (j_wt12  h) (fun v S1 hq => ?_))
  obtain ⟨r2, hv, h⟩ := hq
  subst hv
  refine j_A_br (r2 = a) (r1 := ((13, 10, [some (.ref 5), some (.int a)], []), S1)) (r2 := ((13, 8, [some (.ref 5), some (.int a)], []), S1)) 2 rfl (fun c => ?_) (fun c => ?_)
  · have h := h.1 c
    exact j_A_ret 8 (m := 13) (v := some (.int (1 : Int32))) (S' := (ri_wi S1 5 6 ((S1.1 5 6) + (1 : Int32)))) rfl rfl ⟨_, rfl, h⟩
  · have h := h.2 c
    exact j_A_ret 2 (m := 13) (v := some (.int (0 : Int32))) (S' := S1) rfl rfl ⟨_, rfl, h⟩
set_option maxRecDepth 10000 in
set_option maxHeartbeats 1000000 in
theorem j_wt15 {E : ri_E} (a : Int32) {S : ri_H} {Q : ri_H → Prop} (h : w15  a S Q) : j_ri_A E 1 (ri_en 15 [.ref 5, .int a]) S (Qv Q) := by
  unfold w15 at h
  show j_ri_A E 1 (15, 0, [some (.ref 5), some (.int a)], []) S (Qv Q)
  refine j_A_br (¬ (S.1 5 7) = (-1 : Int32)) (r1 := ((15, 20, [some (.ref 5), some (.int a)], []), S)) (r2 := ((15, 8, [some (.ref 5), some (.int a)], []), S)) 4 rfl (fun c => ?_) (fun c => ?_)
  · have h := h.1 c
    exact j_A_ret 1 (m := 15) (v := none) (S' := S) rfl rfl ⟨rfl, h⟩
  · have h := h.2 c
    refine j_A_call (j := 98) (As := [.ref 9, .int a]) (fr' := (15, 17, [some (.ref 5), some (.int a)], [.ref 5])) (S' := S) 5 rfl (e := 0) (by omega) (j_sp_item 9 161 _ ⟨by decide, by decide, rfl⟩ (by decide) ?_)
    exact j_A_ret 2 (m := 15) (v := none) (S' := (ri_wi S 5 7 (it (S.1 9) 161 a))) rfl rfl ⟨rfl, h⟩
set_option maxRecDepth 10000 in
set_option maxHeartbeats 1000000 in
theorem j_wt14 {E : ri_E} (a : Int32) {S : ri_H} {Q : ri_H → Prop} (h : w14  a S Q) : j_ri_A E 3 (ri_en 14 [.ref 5, .int a]) S (Qv Q) := by
  unfold w14 at h
  show j_ri_A E 3 (14, 0, [some (.ref 5), some (.int a)], []) S (Qv Q)
  refine j_A_call (j := 13) (As := [.ref 5, .int a]) (fr' := (14, 5, [some (.ref 5), some (.int a)], [])) (S' := S) 3 rfl (e := 2) (by omega) (j_A_imp (j_wt13 a h) (fun v S1 hq => ?_))
  obtain ⟨r2, hv, h⟩ := hq
  subst hv
  refine j_A_br (¬ r2 = 0) (r1 := ((14, 16, [some (.ref 5), some (.int a)], []), S1)) (r2 := ((14, 8, [some (.ref 5), some (.int a)], []), S1)) 1 rfl (fun c => ?_) (fun c => ?_)
  · have h := h.1 c
    exact j_A_ret 1 (m := 14) (v := none) (S' := S1) rfl rfl ⟨rfl, h⟩
  · have h := h.2 c
    refine j_A_call (j := 15) (As := [.ref 5, .int (S1.1 5 6)]) (fr' := (14, 16, [some (.ref 5), some (.int a)], [])) (S' := S1) 4 rfl (e := 1) (by omega) (j_A_imp (j_wt15 (S1.1 5 6) h) (fun v S3 hq => ?_))
    obtain ⟨hv, h⟩ := hq
    subst hv
    exact j_A_ret 1 (m := 14) (v := none) (S' := S3) rfl rfl ⟨rfl, h⟩
set_option maxRecDepth 10000 in
set_option maxHeartbeats 1000000 in
theorem j_wt16_l7 {E : ri_E} (C17 : Int32 → ri_H → (ri_H → Prop) → Prop) (e0 : Nat) (he0 : 20 ≤ e0) (hC17 : ∀ (a : Int32) (S : ri_H) (Q : ri_H → Prop), C17 a S Q → j_ri_A E e0 (ri_en 17 [.ref 5, .int a]) S (Qv Q)) {Q : ri_H → Prop} : ∀ (n : Nat) (x1 : Int32) (x2 : Int32) (S : ri_H), w16_l7 C17  Q n x1 x2 S → j_ri_A E (e0 + 1) (16, 7, [some (.ref 5), some (.int x1), some (.int x2)], []) S (Qv Q) := by
  intro n
  induction n with
  | zero => intro x1 x2 S h; exact h.elim
  | succ n ih =>
    intro x1 x2 S h
    unfold w16_l7 at h
    refine j_A_br ((160 : Int32) ≤ x2) (r1 := ((16, 43, [some (.ref 5), some (.int x1), some (.int x2)], []), S)) (r2 := ((16, 14, [some (.ref 5), some (.int x1), some (.int x2)], []), S)) 3 rfl (fun c => ?_) (fun c => ?_)
    · have h := h.1 c
      exact j_A_ret 1 (m := 16) (v := none) (S' := S) rfl rfl ⟨rfl, h⟩
    · have h := h.2 c
      refine j_A_call (j := 13) (As := [.ref 5, .int (6 : Int32)]) (fr' := (16, 20, [some (.ref 5), some (.int x1), some (.int x2)], [])) (S' := S) 3 rfl (e := 2) (by omega) (j_A_imp (j_wt13 (6 : Int32) h) (fun v S2 hq => ?_))
      obtain ⟨r3, hv, h⟩ := hq
      subst hv
      refine j_A_br (r3 = 0) (r1 := ((16, 43, [some (.ref 5), some (.int x1), some (.int x2)], []), S2)) (r2 := ((16, 23, [some (.ref 5), some (.int x1), some (.int x2)], []), S2)) 1 rfl (fun c => ?_) (fun c => ?_)
      · have h := h.1 c
        exact j_A_ret 1 (m := 16) (v := none) (S' := S2) rfl rfl ⟨rfl, h⟩
      · have h := h.2 c
        refine j_A_call (j := 17) (As := [.ref 5, .int x1]) (fr' := (16, 28, [some (.ref 5), some (.int x1), some (.int x2)], [])) (S' := S2) 3 rfl (e := e0) (by omega) (j_A_imp (hC17 x1 _ _ h) (fun v S4 hq => ?_))
        obtain ⟨hv, h⟩ := hq
        subst hv
        refine j_A_call (j := 28) (As := [.ref 1, .int (-9 : Int32)]) (fr' := (16, 37, [some (.ref 5), some (.int x1), some (.int x2)], [])) (S' := S4) 4 rfl (e := 1) (by omega) (j_A_imp (j_wt28 (-9 : Int32) h) (fun v S5 hq => ?_))
        obtain ⟨hv, h⟩ := hq
        subst hv
        refine j_A_nx 2 (fr' := (16, 7, [some (.ref 5), some (.int x1), some (.int (x2 + (1 : Int32)))], [])) (S' := S5) rfl ?_
        refine j_ri_A.less (m := 16) (pc := 7) (L := [some (.ref 5), some (.int x1), some (.int (x2 + (1 : Int32)))]) (L' := [some (.ref 5), some (.int x1), some (.int (x2 + (1 : Int32)))]) (st := []) ⟨rfl, ⟨rfl, ⟨rfl, trivial⟩⟩⟩ ?_
        exact ih _ _ _ h
set_option maxRecDepth 10000 in
set_option maxHeartbeats 1000000 in
theorem j_wt16 {E : ri_E} (C17 : Int32 → ri_H → (ri_H → Prop) → Prop) (e0 : Nat) (he0 : 20 ≤ e0) (hC17 : ∀ (a : Int32) (S : ri_H) (Q : ri_H → Prop), C17 a S Q → j_ri_A E e0 (ri_en 17 [.ref 5, .int a]) S (Qv Q)) (a : Int32) {S : ri_H} {Q : ri_H → Prop} (h : w16 C17 a S Q) : j_ri_A E (e0 + 1) (ri_en 16 [.ref 5, .int a]) S (Qv Q) := by
  unfold w16 at h
  show j_ri_A E (e0 + 1) (16, 0, [some (.ref 5), some (.int a), none], []) S (Qv Q)
  refine j_A_call (j := 17) (As := [.ref 5, .int a]) (fr' := (16, 5, [some (.ref 5), some (.int a), none], [])) (S' := S) 3 rfl (e := e0) (by omega) (j_A_imp (hC17 a _ _ h) (fun v S1 hq => ?_))
  obtain ⟨hv, h⟩ := hq
  subst hv
  refine j_A_nx 2 (fr' := (16, 7, [some (.ref 5), some (.int a), some (.int (0 : Int32))], [])) (S' := S1) rfl ?_
  refine j_ri_A.less (m := 16) (pc := 7) (L := [some (.ref 5), some (.int a), some (.int (0 : Int32))]) (L' := [some (.ref 5), some (.int a), some (.int (0 : Int32))]) (st := []) ⟨rfl, ⟨rfl, ⟨rfl, trivial⟩⟩⟩ ?_
  obtain ⟨nn, h⟩ := h
  exact j_wt16_l7 C17 e0 he0 hC17  nn _ _ _ h
set_option maxRecDepth 10000 in
set_option maxHeartbeats 1000000 in
theorem j_wt17_l7 {E : ri_E} (C18 : Int32 → ri_H → (ri_H → Prop) → Prop) (e0 : Nat) (he0 : 20 ≤ e0) (hC18 : ∀ (a : Int32) (S : ri_H) (Q : ri_H → Prop), C18 a S Q → j_ri_A E e0 (ri_en 18 [.ref 5, .int a]) S (Qv Q)) {Q : ri_H → Prop} : ∀ (n : Nat) (x1 : Int32) (x2 : Int32) (S : ri_H), w17_l7 C18  Q n x1 x2 S → j_ri_A E (e0 + 1) (17, 7, [some (.ref 5), some (.int x1), some (.int x2)], []) S (Qv Q) := by
  intro n
  induction n with
  | zero => intro x1 x2 S h; exact h.elim
  | succ n ih =>
    intro x1 x2 S h
    unfold w17_l7 at h
    refine j_A_br ((160 : Int32) ≤ x2) (r1 := ((17, 43, [some (.ref 5), some (.int x1), some (.int x2)], []), S)) (r2 := ((17, 14, [some (.ref 5), some (.int x1), some (.int x2)], []), S)) 3 rfl (fun c => ?_) (fun c => ?_)
    · have h := h.1 c
      exact j_A_ret 1 (m := 17) (v := none) (S' := S) rfl rfl ⟨rfl, h⟩
    · have h := h.2 c
      refine j_A_call (j := 13) (As := [.ref 5, .int (7 : Int32)]) (fr' := (17, 20, [some (.ref 5), some (.int x1), some (.int x2)], [])) (S' := S) 3 rfl (e := 2) (by omega) (j_A_imp (j_wt13 (7 : Int32) h) (fun v S2 hq => ?_))
      obtain ⟨r3, hv, h⟩ := hq
      subst hv
      refine j_A_br (r3 = 0) (r1 := ((17, 43, [some (.ref 5), some (.int x1), some (.int x2)], []), S2)) (r2 := ((17, 23, [some (.ref 5), some (.int x1), some (.int x2)], []), S2)) 1 rfl (fun c => ?_) (fun c => ?_)
      · have h := h.1 c
        exact j_A_ret 1 (m := 17) (v := none) (S' := S2) rfl rfl ⟨rfl, h⟩
      · have h := h.2 c
        refine j_A_call (j := 18) (As := [.ref 5, .int x1]) (fr' := (17, 28, [some (.ref 5), some (.int x1), some (.int x2)], [])) (S' := S2) 3 rfl (e := e0) (by omega) (j_A_imp (hC18 x1 _ _ h) (fun v S4 hq => ?_))
        obtain ⟨hv, h⟩ := hq
        subst hv
        refine j_A_call (j := 28) (As := [.ref 1, .int (-10 : Int32)]) (fr' := (17, 37, [some (.ref 5), some (.int x1), some (.int x2)], [])) (S' := S4) 4 rfl (e := 1) (by omega) (j_A_imp (j_wt28 (-10 : Int32) h) (fun v S5 hq => ?_))
        obtain ⟨hv, h⟩ := hq
        subst hv
        refine j_A_nx 2 (fr' := (17, 7, [some (.ref 5), some (.int x1), some (.int (x2 + (1 : Int32)))], [])) (S' := S5) rfl ?_
        refine j_ri_A.less (m := 17) (pc := 7) (L := [some (.ref 5), some (.int x1), some (.int (x2 + (1 : Int32)))]) (L' := [some (.ref 5), some (.int x1), some (.int (x2 + (1 : Int32)))]) (st := []) ⟨rfl, ⟨rfl, ⟨rfl, trivial⟩⟩⟩ ?_
        exact ih _ _ _ h
set_option maxRecDepth 10000 in
set_option maxHeartbeats 1000000 in
theorem j_wt17 {E : ri_E} (C18 : Int32 → ri_H → (ri_H → Prop) → Prop) (e0 : Nat) (he0 : 20 ≤ e0) (hC18 : ∀ (a : Int32) (S : ri_H) (Q : ri_H → Prop), C18 a S Q → j_ri_A E e0 (ri_en 18 [.ref 5, .int a]) S (Qv Q)) (a : Int32) {S : ri_H} {Q : ri_H → Prop} (h : w17 C18 a S Q) : j_ri_A E (e0 + 1) (ri_en 17 [.ref 5, .int a]) S (Qv Q) := by
  unfold w17 at h
  show j_ri_A E (e0 + 1) (17, 0, [some (.ref 5), some (.int a), none], []) S (Qv Q)
  refine j_A_call (j := 18) (As := [.ref 5, .int a]) (fr' := (17, 5, [some (.ref 5), some (.int a), none], [])) (S' := S) 3 rfl (e := e0) (by omega) (j_A_imp (hC18 a _ _ h) (fun v S1 hq => ?_))
  obtain ⟨hv, h⟩ := hq
  subst hv
  refine j_A_nx 2 (fr' := (17, 7, [some (.ref 5), some (.int a), some (.int (0 : Int32))], [])) (S' := S1) rfl ?_
  refine j_ri_A.less (m := 17) (pc := 7) (L := [some (.ref 5), some (.int a), some (.int (0 : Int32))]) (L' := [some (.ref 5), some (.int a), some (.int (0 : Int32))]) (st := []) ⟨rfl, ⟨rfl, ⟨rfl, trivial⟩⟩⟩ ?_
  obtain ⟨nn, h⟩ := h
  exact j_wt17_l7 C18 e0 he0 hC18  nn _ _ _ h
set_option maxRecDepth 10000 in
set_option maxHeartbeats 1000000 in
theorem j_wt18_b81 {E : ri_E} (C18 : Int32 → ri_H → (ri_H → Prop) → Prop) (C19 : Int32 → ri_H → (ri_H → Prop) → Prop) (e0 : Nat) (he0 : 20 ≤ e0) (hC18 : ∀ (a : Int32) (S : ri_H) (Q : ri_H → Prop), C18 a S Q → j_ri_A E e0 (ri_en 18 [.ref 5, .int a]) S (Qv Q)) (hC19 : ∀ (a : Int32) (S : ri_H) (Q : ri_H → Prop), C19 a S Q → j_ri_A E e0 (ri_en 19 [.ref 5, .int a]) S (Qv Q)) {Q : ri_H → Prop} (x1 : Int32) (x2 : Int32) (S : ri_H) (h : w18_b81 C18 C19  Q x1 x2 S) : j_ri_A E (e0 + 1) (18, 81, [some (.ref 5), some (.int x1), some (.int x2)], []) S (Qv Q) := by
  unfold w18_b81 at h
  refine j_A_call (j := 19) (As := [.ref 5, .int x1]) (fr' := (18, 86, [some (.ref 5), some (.int x1), some (.int x2)], [])) (S' := S) 3 rfl (e := e0) (by omega) (j_A_imp (hC19 x1 _ _ h) (fun v S8 hq => ?_))
  obtain ⟨hv, h⟩ := hq
  subst hv
  refine j_A_call (j := 28) (As := [.ref 1, .int x2]) (fr' := (18, 94, [some (.ref 5), some (.int x1), some (.int x2)], [])) (S' := S8) 4 rfl (e := 1) (by omega) (j_A_imp (j_wt28 x2 h) (fun v S9 hq => ?_))
  obtain ⟨hv, h⟩ := hq
  subst hv
  exact j_A_ret 1 (m := 18) (v := none) (S' := S9) rfl rfl ⟨rfl, h⟩
set_option maxRecDepth 10000 in
set_option maxHeartbeats 1000000 in
theorem j_wt18_b62 {E : ri_E} (C18 : Int32 → ri_H → (ri_H → Prop) → Prop) (C19 : Int32 → ri_H → (ri_H → Prop) → Prop) (e0 : Nat) (he0 : 20 ≤ e0) (hC18 : ∀ (a : Int32) (S : ri_H) (Q : ri_H → Prop), C18 a S Q → j_ri_A E e0 (ri_en 18 [.ref 5, .int a]) S (Qv Q)) (hC19 : ∀ (a : Int32) (S : ri_H) (Q : ri_H → Prop), C19 a S Q → j_ri_A E e0 (ri_en 19 [.ref 5, .int a]) S (Qv Q)) {Q : ri_H → Prop} (x1 : Int32) (s0 : Int32) (S : ri_H) (h : w18_b62 C18 C19  Q x1 s0 S) : j_ri_A E (e0 + 1) (18, 62, [some (.ref 5), some (.int x1), none], [.int s0]) S (Qv Q) := by
  unfold w18_b62 at h
  refine j_A_call (j := 13) (As := [.ref 5, .int (60 : Int32)]) (fr' := (18, 69, [some (.ref 5), some (.int x1), some (.int s0)], [])) (S' := S) 4 rfl (e := 2) (by omega) (j_A_imp (j_wt13 (60 : Int32) h) (fun v S6 hq => ?_))
  obtain ⟨r7, hv, h⟩ := hq
  subst hv
  refine j_A_br (¬ r7 = 0) (r1 := ((18, 81, [some (.ref 5), some (.int x1), some (.int s0)], []), S6)) (r2 := ((18, 72, [some (.ref 5), some (.int x1), some (.int s0)], []), S6)) 1 rfl (fun c => ?_) (fun c => ?_)
  · have h := h.1 c
    refine j_ri_A.less (m := 18) (pc := 81) (L := [some (.ref 5), some (.int x1), some (.int s0)]) (L' := [some (.ref 5), some (.int x1), some (.int s0)]) (st := []) ⟨rfl, ⟨rfl, ⟨rfl, trivial⟩⟩⟩ ?_
    exact j_wt18_b81 C18 C19 e0 he0 hC18 hC19  _ _ _ h
  · have h := h.2 c
    refine j_A_call (j := 13) (As := [.ref 5, .int (61 : Int32)]) (fr' := (18, 78, [some (.ref 5), some (.int x1), some (.int s0)], [])) (S' := S6) 3 rfl (e := 2) (by omega) (j_A_imp (j_wt13 (61 : Int32) h) (fun v S10 hq => ?_))
    obtain ⟨r11, hv, h⟩ := hq
    subst hv
    refine j_A_br (r11 = 0) (r1 := ((18, 94, [some (.ref 5), some (.int x1), some (.int s0)], []), S10)) (r2 := ((18, 81, [some (.ref 5), some (.int x1), some (.int s0)], []), S10)) 1 rfl (fun c => ?_) (fun c => ?_)
    · have h := h.1 c
      exact j_A_ret 1 (m := 18) (v := none) (S' := S10) rfl rfl ⟨rfl, h⟩
    · have h := h.2 c
      refine j_ri_A.less (m := 18) (pc := 81) (L := [some (.ref 5), some (.int x1), some (.int s0)]) (L' := [some (.ref 5), some (.int x1), some (.int s0)]) (st := []) ⟨rfl, ⟨rfl, ⟨rfl, trivial⟩⟩⟩ ?_
      exact j_wt18_b81 C18 C19 e0 he0 hC18 hC19  _ _ _ h
set_option maxRecDepth 10000 in
set_option maxHeartbeats 1000000 in
theorem j_wt18_b41 {E : ri_E} (C18 : Int32 → ri_H → (ri_H → Prop) → Prop) (C19 : Int32 → ri_H → (ri_H → Prop) → Prop) (e0 : Nat) (he0 : 20 ≤ e0) (hC18 : ∀ (a : Int32) (S : ri_H) (Q : ri_H → Prop), C18 a S Q → j_ri_A E e0 (ri_en 18 [.ref 5, .int a]) S (Qv Q)) (hC19 : ∀ (a : Int32) (S : ri_H) (Q : ri_H → Prop), C19 a S Q → j_ri_A E e0 (ri_en 19 [.ref 5, .int a]) S (Qv Q)) {Q : ri_H → Prop} (x1 : Int32) (S : ri_H) (h : w18_b41 C18 C19  Q x1 S) : j_ri_A E (e0 + 1) (18, 41, [some (.ref 5), some (.int x1), none], []) S (Qv Q) := by
  unfold w18_b41 at h
  refine j_A_call (j := 19) (As := [.ref 5, .int x1]) (fr' := (18, 46, [some (.ref 5), some (.int x1), none], [])) (S' := S) 3 rfl (e := e0) (by omega) (j_A_imp (hC19 x1 _ _ h) (fun v S3 hq => ?_))
  obtain ⟨hv, h⟩ := hq
  subst hv
  refine j_A_call (j := 12) (As := [.ref 5]) (fr' := (18, 50, [some (.ref 5), some (.int x1), none], [])) (S' := S3) 2 rfl (e := 1) (by omega) (j_A_imp (j_wt12  h) (fun v S4 hq => ?_))
  obtain ⟨r5, hv, h⟩ := hq
  subst hv
  refine j_A_br (¬ r5 = (60 : Int32)) (r1 := ((18, 60, [some (.ref 5), some (.int x1), none], []), S4)) (r2 := ((18, 55, [some (.ref 5), some (.int x1), none], []), S4)) 2 rfl (fun c => ?_) (fun c => ?_)
  · have h := h.1 c
    refine j_A_nx 1 (fr' := (18, 62, [some (.ref 5), some (.int x1), none], [.int (-12 : Int32)])) (S' := S4) rfl ?_
    refine j_ri_A.less (m := 18) (pc := 62) (L := [some (.ref 5), some (.int x1), none]) (L' := [some (.ref 5), some (.int x1), none]) (st := [.int (-12 : Int32)]) ⟨rfl, ⟨rfl, trivial⟩⟩ ?_
    exact j_wt18_b62 C18 C19 e0 he0 hC18 hC19  _ _ _ h
  · have h := h.2 c
    refine j_A_nx 2 (fr' := (18, 62, [some (.ref 5), some (.int x1), none], [.int (-11 : Int32)])) (S' := S4) rfl ?_
    refine j_ri_A.less (m := 18) (pc := 62) (L := [some (.ref 5), some (.int x1), none]) (L' := [some (.ref 5), some (.int x1), none]) (st := [.int (-11 : Int32)]) ⟨rfl, ⟨rfl, trivial⟩⟩ ?_
    exact j_wt18_b62 C18 C19 e0 he0 hC18 hC19  _ _ _ h
set_option maxRecDepth 10000 in
set_option maxHeartbeats 1000000 in
theorem j_wt18 {E : ri_E} (C18 : Int32 → ri_H → (ri_H → Prop) → Prop) (C19 : Int32 → ri_H → (ri_H → Prop) → Prop) (e0 : Nat) (he0 : 20 ≤ e0) (hC18 : ∀ (a : Int32) (S : ri_H) (Q : ri_H → Prop), C18 a S Q → j_ri_A E e0 (ri_en 18 [.ref 5, .int a]) S (Qv Q)) (hC19 : ∀ (a : Int32) (S : ri_H) (Q : ri_H → Prop), C19 a S Q → j_ri_A E e0 (ri_en 19 [.ref 5, .int a]) S (Qv Q)) (a : Int32) {S : ri_H} {Q : ri_H → Prop} (h : w18 C18 C19 a S Q) : j_ri_A E (e0 + 1) (ri_en 18 [.ref 5, .int a]) S (Qv Q) := by
  unfold w18 at h
  show j_ri_A E (e0 + 1) (18, 0, [some (.ref 5), some (.int a), none], []) S (Qv Q)
  refine j_A_call (j := 12) (As := [.ref 5]) (fr' := (18, 4, [some (.ref 5), some (.int a), none], [])) (S' := S) 2 rfl (e := 1) (by omega) (j_A_imp (j_wt12  h) (fun v S1 hq => ?_))
  obtain ⟨r2, hv, h⟩ := hq
  subst hv
  refine j_A_br (¬ r2 = (8 : Int32)) (r1 := ((18, 41, [some (.ref 5), some (.int a), none], []), S1)) (r2 := ((18, 9, [some (.ref 5), some (.int a), none], []), S1)) 2 rfl (fun c => ?_) (fun c => ?_)
  · have h := h.1 c
    refine j_ri_A.less (m := 18) (pc := 41) (L := [some (.ref 5), some (.int a), none]) (L' := [some (.ref 5), some (.int a), none]) (st := []) ⟨rfl, ⟨rfl, trivial⟩⟩ ?_
    exact j_wt18_b41 C18 C19 e0 he0 hC18 hC19  _ _ h
  · have h := h.2 c
    refine j_A_br ((5 : Int32) ≤ a) (r1 := ((18, 41, [some (.ref 5), some (.int a), none], []), S1)) (r2 := ((18, 14, [some (.ref 5), some (.int a), none], []), S1)) 3 rfl (fun c => ?_) (fun c => ?_)
    · have h := h.1 c
      refine j_ri_A.less (m := 18) (pc := 41) (L := [some (.ref 5), some (.int a), none]) (L' := [some (.ref 5), some (.int a), none]) (st := []) ⟨rfl, ⟨rfl, trivial⟩⟩ ?_
      exact j_wt18_b41 C18 C19 e0 he0 hC18 hC19  _ _ h
    · have h := h.2 c
      refine j_A_call (j := 18) (As := [.ref 5, .int (a + (1 : Int32))]) (fr' := (18, 31, [some (.ref 5), some (.int a), none], [])) (S' := (ri_wi S1 5 6 ((S1.1 5 6) + (1 : Int32)))) 11 rfl (e := e0) (by omega) (j_A_imp (hC18 (a + (1 : Int32)) _ _ h) (fun v S12 hq => ?_))
      obtain ⟨hv, h⟩ := hq
      subst hv
      refine j_A_call (j := 28) (As := [.ref 1, .int (-8 : Int32)]) (fr' := (18, 40, [some (.ref 5), some (.int a), none], [])) (S' := S12) 4 rfl (e := 1) (by omega) (j_A_imp (j_wt28 (-8 : Int32) h) (fun v S13 hq => ?_))
      obtain ⟨hv, h⟩ := hq
      subst hv
      exact j_A_ret 1 (m := 18) (v := none) (S' := S13) rfl rfl ⟨rfl, h⟩
set_option maxRecDepth 10000 in
set_option maxHeartbeats 1000000 in
theorem j_wt19_b48 {E : ri_E} (C20 : Int32 → ri_H → (ri_H → Prop) → Prop) (e0 : Nat) (he0 : 20 ≤ e0) (hC20 : ∀ (a : Int32) (S : ri_H) (Q : ri_H → Prop), C20 a S Q → j_ri_A E e0 (ri_en 20 [.ref 5, .int a]) S (Qv Q)) {K7 : Int32 → Int32 → ri_H → Prop} {Q : ri_H → Prop} (hK7 : ∀ (x1 : Int32) (x2 : Int32) (S : ri_H), K7 x1 x2 S → j_ri_A E (e0 + 1) (19, 7, [some (.ref 5), some (.int x1), some (.int x2), none], []) S (Qv Q)) (x1 : Int32) (x2 : Int32) (s0 : Int32) (S : ri_H) (h : w19_b48 C20 K7 Q x1 x2 s0 S) : j_ri_A E (e0 + 1) (19, 48, [some (.ref 5), some (.int x1), some (.int x2), none], [.int s0]) S (Qv Q) := by
  unfold w19_b48 at h
  refine j_A_call (j := 20) (As := [.ref 5, .int x1]) (fr' := (19, 64, [some (.ref 5), some (.int x1), some (.int x2), some (.int s0)], [])) (S' := (ri_wi S 5 6 ((S.1 5 6) + (1 : Int32)))) 10 rfl (e := e0) (by omega) (j_A_imp (hC20 x1 _ _ h) (fun v S6 hq => ?_))
  obtain ⟨hv, h⟩ := hq
  subst hv
  refine j_A_call (j := 28) (As := [.ref 1, .int s0]) (fr' := (19, 72, [some (.ref 5), some (.int x1), some (.int x2), some (.int s0)], [])) (S' := S6) 4 rfl (e := 1) (by omega) (j_A_imp (j_wt28 s0 h) (fun v S7 hq => ?_))
  obtain ⟨hv, h⟩ := hq
  subst hv
  refine j_A_nx 2 (fr' := (19, 7, [some (.ref 5), some (.int x1), some (.int (x2 + (1 : Int32))), some (.int s0)], [])) (S' := S7) rfl ?_
  refine j_ri_A.less (m := 19) (pc := 7) (L := [some (.ref 5), some (.int x1), some (.int (x2 + (1 : Int32))), some (.int s0)]) (L' := [some (.ref 5), some (.int x1), some (.int (x2 + (1 : Int32))), none]) (st := []) ⟨rfl, ⟨rfl, ⟨rfl, trivial⟩⟩⟩ ?_
  exact hK7 _ _ _ h
set_option maxRecDepth 10000 in
set_option maxHeartbeats 1000000 in
theorem j_wt19_b32 {E : ri_E} (C20 : Int32 → ri_H → (ri_H → Prop) → Prop) (e0 : Nat) (he0 : 20 ≤ e0) (hC20 : ∀ (a : Int32) (S : ri_H) (Q : ri_H → Prop), C20 a S Q → j_ri_A E e0 (ri_en 20 [.ref 5, .int a]) S (Qv Q)) {K7 : Int32 → Int32 → ri_H → Prop} {Q : ri_H → Prop} (hK7 : ∀ (x1 : Int32) (x2 : Int32) (S : ri_H), K7 x1 x2 S → j_ri_A E (e0 + 1) (19, 7, [some (.ref 5), some (.int x1), some (.int x2), none], []) S (Qv Q)) (x1 : Int32) (x2 : Int32) (S : ri_H) (h : w19_b32 C20 K7 Q x1 x2 S) : j_ri_A E (e0 + 1) (19, 32, [some (.ref 5), some (.int x1), some (.int x2), none], []) S (Qv Q) := by
  unfold w19_b32 at h
  refine j_A_call (j := 12) (As := [.ref 5]) (fr' := (19, 36, [some (.ref 5), some (.int x1), some (.int x2), none], [])) (S' := S) 2 rfl (e := 1) (by omega) (j_A_imp (j_wt12  h) (fun v S4 hq => ?_))
  obtain ⟨r5, hv, h⟩ := hq
  subst hv
  refine j_A_br (¬ r5 = (43 : Int32)) (r1 := ((19, 46, [some (.ref 5), some (.int x1), some (.int x2), none], []), S4)) (r2 := ((19, 41, [some (.ref 5), some (.int x1), some (.int x2), none], []), S4)) 2 rfl (fun c => ?_) (fun c => ?_)
  · have h := h.1 c
    refine j_A_nx 1 (fr' := (19, 48, [some (.ref 5), some (.int x1), some (.int x2), none], [.int (-14 : Int32)])) (S' := S4) rfl ?_
    refine j_ri_A.less (m := 19) (pc := 48) (L := [some (.ref 5), some (.int x1), some (.int x2), none]) (L' := [some (.ref 5), some (.int x1), some (.int x2), none]) (st := [.int (-14 : Int32)]) ⟨rfl, ⟨rfl, ⟨rfl, trivial⟩⟩⟩ ?_
    exact j_wt19_b48 C20 e0 he0 hC20 hK7 _ _ _ _ h
  · have h := h.2 c
    refine j_A_nx 2 (fr' := (19, 48, [some (.ref 5), some (.int x1), some (.int x2), none], [.int (-13 : Int32)])) (S' := S4) rfl ?_
    refine j_ri_A.less (m := 19) (pc := 48) (L := [some (.ref 5), some (.int x1), some (.int x2), none]) (L' := [some (.ref 5), some (.int x1), some (.int x2), none]) (st := [.int (-13 : Int32)]) ⟨rfl, ⟨rfl, ⟨rfl, trivial⟩⟩⟩ ?_
    exact j_wt19_b48 C20 e0 he0 hC20 hK7 _ _ _ _ h
set_option maxRecDepth 10000 in
set_option maxHeartbeats 1000000 in
theorem j_wt19_l7 {E : ri_E} (C20 : Int32 → ri_H → (ri_H → Prop) → Prop) (e0 : Nat) (he0 : 20 ≤ e0) (hC20 : ∀ (a : Int32) (S : ri_H) (Q : ri_H → Prop), C20 a S Q → j_ri_A E e0 (ri_en 20 [.ref 5, .int a]) S (Qv Q)) {Q : ri_H → Prop} : ∀ (n : Nat) (x1 : Int32) (x2 : Int32) (S : ri_H), w19_l7 C20  Q n x1 x2 S → j_ri_A E (e0 + 1) (19, 7, [some (.ref 5), some (.int x1), some (.int x2), none], []) S (Qv Q) := by
  intro n
  induction n with
  | zero => intro x1 x2 S h; exact h.elim
  | succ n ih =>
    intro x1 x2 S h
    unfold w19_l7 at h
    refine j_A_br ((160 : Int32) ≤ x2) (r1 := ((19, 78, [some (.ref 5), some (.int x1), some (.int x2), none], []), S)) (r2 := ((19, 14, [some (.ref 5), some (.int x1), some (.int x2), none], []), S)) 3 rfl (fun c => ?_) (fun c => ?_)
    · have h := h.1 c
      exact j_A_ret 1 (m := 19) (v := none) (S' := S) rfl rfl ⟨rfl, h⟩
    · have h := h.2 c
      refine j_A_call (j := 12) (As := [.ref 5]) (fr' := (19, 18, [some (.ref 5), some (.int x1), some (.int x2), none], [])) (S' := S) 2 rfl (e := 1) (by omega) (j_A_imp (j_wt12  h) (fun v S2 hq => ?_))
      obtain ⟨r3, hv, h⟩ := hq
      subst hv
      refine j_A_br (r3 = (43 : Int32)) (r1 := ((19, 32, [some (.ref 5), some (.int x1), some (.int x2), none], []), S2)) (r2 := ((19, 23, [some (.ref 5), some (.int x1), some (.int x2), none], []), S2)) 2 rfl (fun c => ?_) (fun c => ?_)
      · have h := h.1 c
        refine j_ri_A.less (m := 19) (pc := 32) (L := [some (.ref 5), some (.int x1), some (.int x2), none]) (L' := [some (.ref 5), some (.int x1), some (.int x2), none]) (st := []) ⟨rfl, ⟨rfl, ⟨rfl, trivial⟩⟩⟩ ?_
        exact j_wt19_b32 C20 e0 he0 hC20 (fun x1 x2 S hk => ih x1 x2 S hk) _ _ _ h
      · have h := h.2 c
        refine j_A_call (j := 12) (As := [.ref 5]) (fr' := (19, 27, [some (.ref 5), some (.int x1), some (.int x2), none], [])) (S' := S2) 2 rfl (e := 1) (by omega) (j_A_imp (j_wt12  h) (fun v S8 hq => ?_))
        obtain ⟨r9, hv, h⟩ := hq
        subst hv
        refine j_A_br (¬ r9 = (45 : Int32)) (r1 := ((19, 78, [some (.ref 5), some (.int x1), some (.int x2), none], []), S8)) (r2 := ((19, 32, [some (.ref 5), some (.int x1), some (.int x2), none], []), S8)) 2 rfl (fun c => ?_) (fun c => ?_)
        · have h := h.1 c
          exact j_A_ret 1 (m := 19) (v := none) (S' := S8) rfl rfl ⟨rfl, h⟩
        · have h := h.2 c
          refine j_ri_A.less (m := 19) (pc := 32) (L := [some (.ref 5), some (.int x1), some (.int x2), none]) (L' := [some (.ref 5), some (.int x1), some (.int x2), none]) (st := []) ⟨rfl, ⟨rfl, ⟨rfl, trivial⟩⟩⟩ ?_
          exact j_wt19_b32 C20 e0 he0 hC20 (fun x1 x2 S hk => ih x1 x2 S hk) _ _ _ h
set_option maxRecDepth 10000 in
set_option maxHeartbeats 1000000 in
theorem j_wt19 {E : ri_E} (C20 : Int32 → ri_H → (ri_H → Prop) → Prop) (e0 : Nat) (he0 : 20 ≤ e0) (hC20 : ∀ (a : Int32) (S : ri_H) (Q : ri_H → Prop), C20 a S Q → j_ri_A E e0 (ri_en 20 [.ref 5, .int a]) S (Qv Q)) (a : Int32) {S : ri_H} {Q : ri_H → Prop} (h : w19 C20 a S Q) : j_ri_A E (e0 + 1) (ri_en 19 [.ref 5, .int a]) S (Qv Q) := by
  unfold w19 at h
  show j_ri_A E (e0 + 1) (19, 0, [some (.ref 5), some (.int a), none, none], []) S (Qv Q)
  refine j_A_call (j := 20) (As := [.ref 5, .int a]) (fr' := (19, 5, [some (.ref 5), some (.int a), none, none], [])) (S' := S) 3 rfl (e := e0) (by omega) (j_A_imp (hC20 a _ _ h) (fun v S1 hq => ?_))
  obtain ⟨hv, h⟩ := hq
  subst hv
  refine j_A_nx 2 (fr' := (19, 7, [some (.ref 5), some (.int a), some (.int (0 : Int32)), none], [])) (S' := S1) rfl ?_
  refine j_ri_A.less (m := 19) (pc := 7) (L := [some (.ref 5), some (.int a), some (.int (0 : Int32)), none]) (L' := [some (.ref 5), some (.int a), some (.int (0 : Int32)), none]) (st := []) ⟨rfl, ⟨rfl, ⟨rfl, trivial⟩⟩⟩ ?_
  obtain ⟨nn, h⟩ := h
  exact j_wt19_l7 C20 e0 he0 hC20  nn _ _ _ h
set_option maxRecDepth 10000 in
set_option maxHeartbeats 1000000 in
theorem j_wt20_l7 {E : ri_E} (C21 : Int32 → ri_H → (ri_H → Prop) → Prop) (e0 : Nat) (he0 : 20 ≤ e0) (hC21 : ∀ (a : Int32) (S : ri_H) (Q : ri_H → Prop), C21 a S Q → j_ri_A E e0 (ri_en 21 [.ref 5, .int a]) S (Qv Q)) {Q : ri_H → Prop} : ∀ (n : Nat) (x1 : Int32) (x2 : Int32) (S : ri_H), w20_l7 C21  Q n x1 x2 S → j_ri_A E (e0 + 1) (20, 7, [some (.ref 5), some (.int x1), some (.int x2)], []) S (Qv Q) := by
  intro n
  induction n with
  | zero => intro x1 x2 S h; exact h.elim
  | succ n ih =>
    intro x1 x2 S h
    unfold w20_l7 at h
    refine j_A_br ((160 : Int32) ≤ x2) (r1 := ((20, 43, [some (.ref 5), some (.int x1), some (.int x2)], []), S)) (r2 := ((20, 14, [some (.ref 5), some (.int x1), some (.int x2)], []), S)) 3 rfl (fun c => ?_) (fun c => ?_)
    · have h := h.1 c
      exact j_A_ret 1 (m := 20) (v := none) (S' := S) rfl rfl ⟨rfl, h⟩
    · have h := h.2 c
      refine j_A_call (j := 13) (As := [.ref 5, .int (42 : Int32)]) (fr' := (20, 20, [some (.ref 5), some (.int x1), some (.int x2)], [])) (S' := S) 3 rfl (e := 2) (by omega) (j_A_imp (j_wt13 (42 : Int32) h) (fun v S2 hq => ?_))
      obtain ⟨r3, hv, h⟩ := hq
      subst hv
      refine j_A_br (r3 = 0) (r1 := ((20, 43, [some (.ref 5), some (.int x1), some (.int x2)], []), S2)) (r2 := ((20, 23, [some (.ref 5), some (.int x1), some (.int x2)], []), S2)) 1 rfl (fun c => ?_) (fun c => ?_)
      · have h := h.1 c
        exact j_A_ret 1 (m := 20) (v := none) (S' := S2) rfl rfl ⟨rfl, h⟩
      · have h := h.2 c
        refine j_A_call (j := 21) (As := [.ref 5, .int x1]) (fr' := (20, 28, [some (.ref 5), some (.int x1), some (.int x2)], [])) (S' := S2) 3 rfl (e := e0) (by omega) (j_A_imp (hC21 x1 _ _ h) (fun v S4 hq => ?_))
        obtain ⟨hv, h⟩ := hq
        subst hv
        refine j_A_call (j := 28) (As := [.ref 1, .int (-15 : Int32)]) (fr' := (20, 37, [some (.ref 5), some (.int x1), some (.int x2)], [])) (S' := S4) 4 rfl (e := 1) (by omega) (j_A_imp (j_wt28 (-15 : Int32) h) (fun v S5 hq => ?_))
        obtain ⟨hv, h⟩ := hq
        subst hv
        refine j_A_nx 2 (fr' := (20, 7, [some (.ref 5), some (.int x1), some (.int (x2 + (1 : Int32)))], [])) (S' := S5) rfl ?_
        refine j_ri_A.less (m := 20) (pc := 7) (L := [some (.ref 5), some (.int x1), some (.int (x2 + (1 : Int32)))]) (L' := [some (.ref 5), some (.int x1), some (.int (x2 + (1 : Int32)))]) (st := []) ⟨rfl, ⟨rfl, ⟨rfl, trivial⟩⟩⟩ ?_
        exact ih _ _ _ h
set_option maxRecDepth 10000 in
set_option maxHeartbeats 1000000 in
theorem j_wt20 {E : ri_E} (C21 : Int32 → ri_H → (ri_H → Prop) → Prop) (e0 : Nat) (he0 : 20 ≤ e0) (hC21 : ∀ (a : Int32) (S : ri_H) (Q : ri_H → Prop), C21 a S Q → j_ri_A E e0 (ri_en 21 [.ref 5, .int a]) S (Qv Q)) (a : Int32) {S : ri_H} {Q : ri_H → Prop} (h : w20 C21 a S Q) : j_ri_A E (e0 + 1) (ri_en 20 [.ref 5, .int a]) S (Qv Q) := by
  unfold w20 at h
  show j_ri_A E (e0 + 1) (20, 0, [some (.ref 5), some (.int a), none], []) S (Qv Q)
  refine j_A_call (j := 21) (As := [.ref 5, .int a]) (fr' := (20, 5, [some (.ref 5), some (.int a), none], [])) (S' := S) 3 rfl (e := e0) (by omega) (j_A_imp (hC21 a _ _ h) (fun v S1 hq => ?_))
  obtain ⟨hv, h⟩ := hq
  subst hv
  refine j_A_nx 2 (fr' := (20, 7, [some (.ref 5), some (.int a), some (.int (0 : Int32))], [])) (S' := S1) rfl ?_
  refine j_ri_A.less (m := 20) (pc := 7) (L := [some (.ref 5), some (.int a), some (.int (0 : Int32))]) (L' := [some (.ref 5), some (.int a), some (.int (0 : Int32))]) (st := []) ⟨rfl, ⟨rfl, ⟨rfl, trivial⟩⟩⟩ ?_
  obtain ⟨nn, h⟩ := h
  exact j_wt20_l7 C21 e0 he0 hC21  nn _ _ _ h
set_option maxRecDepth 10000 in
set_option maxHeartbeats 1000000 in
theorem j_wt21_b117 {E : ri_E} (C214 : Int32 → Int32 → ri_H → (ri_H → Prop) → Prop) (e0 : Nat) (he0 : 20 ≤ e0) (hC214 : ∀ (a b : Int32) (S : ri_H) (Q : ri_H → Prop), C214 a b S Q → j_ri_A E e0 (ri_en 214 [.ref 5, .int a, .int b]) S (Qv Q)) {Q : ri_H → Prop}  (S : ri_H) (h : w21_b117 C214  Q  S) : j_ri_A E (e0 + 1) (21, 117, [some (.ref 5), none, none], []) S (Qv Q) := by
  unfold w21_b117 at h
  refine j_A_call (j := 15) (As := [.ref 5, .int (S.1 5 6)]) (fr' := (21, 125, [some (.ref 5), none, none], [])) (S' := S) 4 rfl (e := 1) (by omega) (j_A_imp (j_wt15 (S.1 5 6) h) (fun v S3 hq => ?_))
  obtain ⟨hv, h⟩ := hq
  subst hv
  exact j_A_ret 1 (m := 21) (v := none) (S' := S3) rfl rfl ⟨rfl, h⟩
set_option maxRecDepth 10000 in
set_option maxHeartbeats 1000000 in
theorem j_wt21_b43 {E : ri_E} (C214 : Int32 → Int32 → ri_H → (ri_H → Prop) → Prop) (e0 : Nat) (he0 : 20 ≤ e0) (hC214 : ∀ (a b : Int32) (S : ri_H) (Q : ri_H → Prop), C214 a b S Q → j_ri_A E e0 (ri_en 214 [.ref 5, .int a, .int b]) S (Qv Q)) {Q : ri_H → Prop} (x2 : Int32) (S : ri_H) (h : w21_b43 C214  Q x2 S) : j_ri_A E (e0 + 1) (21, 43, [some (.ref 5), none, some (.int x2)], []) S (Qv Q) := by
  unfold w21_b43 at h
  refine j_A_br (¬ x2 = (2 : Int32)) (r1 := ((21, 79, [some (.ref 5), none, some (.int x2)], []), S)) (r2 := ((21, 48, [some (.ref 5), none, some (.int x2)], []), S)) 3 rfl (fun c => ?_) (fun c => ?_)
  · have h := h.1 c
    refine j_A_br (x2 < (10 : Int32)) (r1 := ((21, 117, [some (.ref 5), none, some (.int x2)], []), S)) (r2 := ((21, 85, [some (.ref 5), none, some (.int x2)], []), S)) 3 rfl (fun c => ?_) (fun c => ?_)
    · have h := h.1 c
      refine j_ri_A.less (m := 21) (pc := 117) (L := [some (.ref 5), none, some (.int x2)]) (L' := [some (.ref 5), none, none]) (st := []) ⟨rfl, trivial⟩ ?_
      exact j_wt21_b117 C214 e0 he0 hC214  _ h
    · have h := h.2 c
      refine j_A_br ((15 : Int32) < x2) (r1 := ((21, 117, [some (.ref 5), none, some (.int x2)], []), S)) (r2 := ((21, 91, [some (.ref 5), none, some (.int x2)], []), S)) 3 rfl (fun c => ?_) (fun c => ?_)
      · have h := h.1 c
        refine j_ri_A.less (m := 21) (pc := 117) (L := [some (.ref 5), none, some (.int x2)]) (L' := [some (.ref 5), none, none]) (st := []) ⟨rfl, trivial⟩ ?_
        exact j_wt21_b117 C214 e0 he0 hC214  _ h
      · have h := h.2 c
        refine j_A_call (j := 28) (As := [.ref 1, .int ((-1 : Int32) - (x2 - (10 : Int32)))]) (fr' := (21, 104, [some (.ref 5), none, some (.int x2)], [])) (S' := S) 8 rfl (e := 1) (by omega) (j_A_imp (j_wt28 ((-1 : Int32) - (x2 - (10 : Int32))) h) (fun v S4 hq => ?_))
        obtain ⟨hv, h⟩ := hq
        subst hv
        exact j_A_ret 8 (m := 21) (v := none) (S' := (ri_wi S4 5 6 ((S4.1 5 6) + (1 : Int32)))) rfl rfl ⟨rfl, h⟩
  · have h := h.2 c
    refine j_A_call (j := 98) (As := [.ref 8, .int (S.1 5 6)]) (fr' := (21, 63, [some (.ref 5), none, some (.int x2)], [.ref 1])) (S' := S) 7 rfl (e := 0) (by omega) (j_sp_item 8 161 _ ⟨by decide, by decide, rfl⟩ (by decide) ?_)
    refine j_A_call (j := 28) (As := [.ref 1, .int (it (S.1 8) 161 (S.1 5 6))]) (fr' := (21, 66, [some (.ref 5), none, some (.int x2)], [])) (S' := S) 1 rfl (e := 1) (by omega) (j_A_imp (j_wt28 (it (S.1 8) 161 (S.1 5 6)) h) (fun v S5 hq => ?_))
    obtain ⟨hv, h⟩ := hq
    subst hv
    exact j_A_ret 8 (m := 21) (v := none) (S' := (ri_wi S5 5 6 ((S5.1 5 6) + (1 : Int32)))) rfl rfl ⟨rfl, h⟩
set_option maxRecDepth 10000 in
set_option maxHeartbeats 1000000 in
theorem j_wt21_b17 {E : ri_E} (C214 : Int32 → Int32 → ri_H → (ri_H → Prop) → Prop) (e0 : Nat) (he0 : 20 ≤ e0) (hC214 : ∀ (a b : Int32) (S : ri_H) (Q : ri_H → Prop), C214 a b S Q → j_ri_A E e0 (ri_en 214 [.ref 5, .int a, .int b]) S (Qv Q)) {Q : ri_H → Prop} (x1 : Int32) (x2 : Int32) (S : ri_H) (h : w21_b17 C214  Q x1 x2 S) : j_ri_A E (e0 + 1) (21, 17, [some (.ref 5), some (.int x1), some (.int x2)], []) S (Qv Q) := by
  unfold w21_b17 at h
  refine j_A_br ((5 : Int32) ≤ x1) (r1 := ((21, 43, [some (.ref 5), some (.int x1), some (.int x2)], []), S)) (r2 := ((21, 22, [some (.ref 5), some (.int x1), some (.int x2)], []), S)) 3 rfl (fun c => ?_) (fun c => ?_)
  · have h := h.1 c
    refine j_ri_A.less (m := 21) (pc := 43) (L := [some (.ref 5), some (.int x1), some (.int x2)]) (L' := [some (.ref 5), none, some (.int x2)]) (st := []) ⟨rfl, ⟨rfl, trivial⟩⟩ ?_
    exact j_wt21_b43 C214 e0 he0 hC214  _ _ h
  · have h := h.2 c
    refine j_A_call (j := 214) (As := [.ref 5, .int x2, .int (x1 + (1 : Int32))]) (fr' := (21, 40, [some (.ref 5), some (.int x1), some (.int x2)], [])) (S' := (ri_wi S 5 6 ((S.1 5 6) + (1 : Int32)))) 12 rfl (e := e0) (by omega) (j_A_imp (hC214 x2 (x1 + (1 : Int32)) _ _ h) (fun v S6 hq => ?_))
    obtain ⟨hv, h⟩ := hq
    subst hv
    exact j_A_ret 2 (m := 21) (v := none) (S' := S6) rfl rfl ⟨rfl, h⟩
set_option maxRecDepth 10000 in
set_option maxHeartbeats 1000000 in
theorem j_wt21 {E : ri_E} (C214 : Int32 → Int32 → ri_H → (ri_H → Prop) → Prop) (e0 : Nat) (he0 : 20 ≤ e0) (hC214 : ∀ (a b : Int32) (S : ri_H) (Q : ri_H → Prop), C214 a b S Q → j_ri_A E e0 (ri_en 214 [.ref 5, .int a, .int b]) S (Qv Q)) (a : Int32) {S : ri_H} {Q : ri_H → Prop} (h : w21 C214 a S Q) : j_ri_A E (e0 + 1) (ri_en 21 [.ref 5, .int a]) S (Qv Q) := by
  unfold w21 at h
  show j_ri_A E (e0 + 1) (21, 0, [some (.ref 5), some (.int a), none], []) S (Qv Q)
  refine j_A_call (j := 12) (As := [.ref 5]) (fr' := (21, 4, [some (.ref 5), some (.int a), none], [])) (S' := S) 2 rfl (e := 1) (by omega) (j_A_imp (j_wt12  h) (fun v S1 hq => ?_))
  obtain ⟨r2, hv, h⟩ := hq
  subst hv
  refine j_A_br (r2 = (40 : Int32)) (r1 := ((21, 17, [some (.ref 5), some (.int a), some (.int r2)], []), S1)) (r2 := ((21, 11, [some (.ref 5), some (.int a), some (.int r2)], []), S1)) 4 rfl (fun c => ?_) (fun c => ?_)
  · have h := h.1 c
    refine j_ri_A.less (m := 21) (pc := 17) (L := [some (.ref 5), some (.int a), some (.int r2)]) (L' := [some (.ref 5), some (.int a), some (.int r2)]) (st := []) ⟨rfl, ⟨rfl, ⟨rfl, trivial⟩⟩⟩ ?_
    exact j_wt21_b17 C214 e0 he0 hC214  _ _ _ h
  · have h := h.2 c
    refine j_A_br (¬ r2 = (45 : Int32)) (r1 := ((21, 43, [some (.ref 5), some (.int a), some (.int r2)], []), S1)) (r2 := ((21, 17, [some (.ref 5), some (.int a), some (.int r2)], []), S1)) 3 rfl (fun c => ?_) (fun c => ?_)
    · have h := h.1 c
      refine j_ri_A.less (m := 21) (pc := 43) (L := [some (.ref 5), some (.int a), some (.int r2)]) (L' := [some (.ref 5), none, some (.int r2)]) (st := []) ⟨rfl, ⟨rfl, trivial⟩⟩ ?_
      exact j_wt21_b43 C214 e0 he0 hC214  _ _ h
    · have h := h.2 c
      refine j_ri_A.less (m := 21) (pc := 17) (L := [some (.ref 5), some (.int a), some (.int r2)]) (L' := [some (.ref 5), some (.int a), some (.int r2)]) (st := []) ⟨rfl, ⟨rfl, ⟨rfl, trivial⟩⟩⟩ ?_
      exact j_wt21_b17 C214 e0 he0 hC214  _ _ _ h
set_option maxRecDepth 10000 in
set_option maxHeartbeats 1000000 in
theorem j_wt214 {E : ri_E} (C16 : Int32 → ri_H → (ri_H → Prop) → Prop) (C21 : Int32 → ri_H → (ri_H → Prop) → Prop) (e0 : Nat) (he0 : 20 ≤ e0) (hC16 : ∀ (a : Int32) (S : ri_H) (Q : ri_H → Prop), C16 a S Q → j_ri_A E e0 (ri_en 16 [.ref 5, .int a]) S (Qv Q)) (hC21 : ∀ (a : Int32) (S : ri_H) (Q : ri_H → Prop), C21 a S Q → j_ri_A E e0 (ri_en 21 [.ref 5, .int a]) S (Qv Q)) (a : Int32) (b : Int32) {S : ri_H} {Q : ri_H → Prop} (h : w214 C16 C21 a b S Q) : j_ri_A E (e0 + 1) (ri_en 214 [.ref 5, .int a, .int b]) S (Qv Q) := by
  unfold w214 at h
  show j_ri_A E (e0 + 1) (214, 0, [some (.ref 5), some (.int a), some (.int b)], []) S (Qv Q)
  refine j_A_br (¬ a = (40 : Int32)) (r1 := ((214, 20, [some (.ref 5), some (.int a), some (.int b)], []), S)) (r2 := ((214, 6, [some (.ref 5), some (.int a), some (.int b)], []), S)) 3 rfl (fun c => ?_) (fun c => ?_)
  · have h := h.1 c
    refine j_A_call (j := 21) (As := [.ref 5, .int b]) (fr' := (214, 25, [some (.ref 5), some (.int a), some (.int b)], [])) (S' := S) 3 rfl (e := e0) (by omega) (j_A_imp (hC21 b _ _ h) (fun v S1 hq => ?_))
    obtain ⟨hv, h⟩ := hq
    subst hv
    refine j_A_call (j := 28) (As := [.ref 1, .int (-7 : Int32)]) (fr' := (214, 34, [some (.ref 5), some (.int a), some (.int b)], [])) (S' := S1) 4 rfl (e := 1) (by omega) (j_A_imp (j_wt28 (-7 : Int32) h) (fun v S2 hq => ?_))
    obtain ⟨hv, h⟩ := hq
    subst hv
    exact j_A_ret 1 (m := 214) (v := none) (S' := S2) rfl rfl ⟨rfl, h⟩
  · have h := h.2 c
    refine j_A_call (j := 16) (As := [.ref 5, .int b]) (fr' := (214, 11, [some (.ref 5), some (.int a), some (.int b)], [])) (S' := S) 3 rfl (e := e0) (by omega) (j_A_imp (hC16 b _ _ h) (fun v S3 hq => ?_))
    obtain ⟨hv, h⟩ := hq
    subst hv
    refine j_A_call (j := 14) (As := [.ref 5, .int (41 : Int32)]) (fr' := (214, 17, [some (.ref 5), some (.int a), some (.int b)], [])) (S' := S3) 3 rfl (e := 3) (by omega) (j_A_imp (j_wt14 (41 : Int32) h) (fun v S4 hq => ?_))
    obtain ⟨hv, h⟩ := hq
    subst hv
    exact j_A_ret 2 (m := 214) (v := none) (S' := S4) rfl rfl ⟨rfl, h⟩
set_option maxRecDepth 10000 in
set_option maxHeartbeats 1000000 in
theorem j_wt1_b91 {E : ri_E} (C16 : Int32 → ri_H → (ri_H → Prop) → Prop) (e0 : Nat) (he0 : 20 ≤ e0) (hC16 : ∀ (a : Int32) (S : ri_H) (Q : ri_H → Prop), C16 a S Q → j_ri_A E e0 (ri_en 16 [.ref 5, .int a]) S (Qv Q)) {Q : Int32 → ri_H → Prop}  (S : ri_H) (h : w1_b91 C16  Q  S) : j_ri_A E (e0 + 1) (1, 91, [some (.ref 5), none], []) S (Qi Q) := by
  unfold w1_b91 at h
  exact j_A_ret 3 (m := 1) (v := some (.int (S.1 5 7))) (S' := S) rfl rfl ⟨_, rfl, h⟩
set_option maxRecDepth 10000 in
set_option maxHeartbeats 1000000 in
theorem j_wt1_l28 {E : ri_E} (C16 : Int32 → ri_H → (ri_H → Prop) → Prop) (e0 : Nat) (he0 : 20 ≤ e0) (hC16 : ∀ (a : Int32) (S : ri_H) (Q : ri_H → Prop), C16 a S Q → j_ri_A E e0 (ri_en 16 [.ref 5, .int a]) S (Qv Q)) {Q : Int32 → ri_H → Prop} : ∀ (n : Nat) (x1 : Int32) (S : ri_H), w1_l28 C16  Q n x1 S → j_ri_A E (e0 + 1) (1, 28, [some (.ref 5), some (.int x1)], []) S (Qi Q) := by
  intro n
  induction n with
  | zero => intro x1 S h; exact h.elim
  | succ n ih =>
    intro x1 S h
    unfold w1_l28 at h
    refine j_A_br ((3 : Int32) ≤ x1) (r1 := ((1, 65, [some (.ref 5), some (.int x1)], []), S)) (r2 := ((1, 33, [some (.ref 5), some (.int x1)], []), S)) 3 rfl (fun c => ?_) (fun c => ?_)
    · have h := h.1 c
      refine j_A_call (j := 14) (As := [.ref 5, .int (0 : Int32)]) (fr' := (1, 70, [some (.ref 5), some (.int x1)], [])) (S' := S) 3 rfl (e := 3) (by omega) (j_A_imp (j_wt14 (0 : Int32) h) (fun v S3 hq => ?_))
      obtain ⟨hv, h⟩ := hq
      subst hv
      refine j_A_br (¬ (S3.1 5 7) = (-1 : Int32)) (r1 := ((1, 91, [some (.ref 5), some (.int x1)], []), S3)) (r2 := ((1, 78, [some (.ref 5), some (.int x1)], []), S3)) 4 rfl (fun c => ?_) (fun c => ?_)
      · have h := h.1 c
        refine j_ri_A.less (m := 1) (pc := 91) (L := [some (.ref 5), some (.int x1)]) (L' := [some (.ref 5), none]) (st := []) ⟨rfl, trivial⟩ ?_
        exact j_wt1_b91 C16 e0 he0 hC16  _ h
      · have h := h.2 c
        refine j_A_nx 7 (fr' := (1, 91, [some (.ref 5), some (.int x1)], [])) (S' := (ri_wi S3 1 3 ((S3.1 1 3) + (1 : Int32)))) rfl ?_
        refine j_ri_A.less (m := 1) (pc := 91) (L := [some (.ref 5), some (.int x1)]) (L' := [some (.ref 5), none]) (st := []) ⟨rfl, trivial⟩ ?_
        exact j_wt1_b91 C16 e0 he0 hC16  _ h
    · have h := h.2 c
      refine j_A_call (j := 14) (As := [.ref 5, .int ((3 : Int32) + x1)]) (fr' := (1, 40, [some (.ref 5), some (.int x1)], [])) (S' := S) 5 rfl (e := 3) (by omega) (j_A_imp (j_wt14 ((3 : Int32) + x1) h) (fun v S4 hq => ?_))
      obtain ⟨hv, h⟩ := hq
      subst hv
      refine j_A_call (j := 16) (As := [.ref 5, .int (0 : Int32)]) (fr' := (1, 45, [some (.ref 5), some (.int x1)], [])) (S' := S4) 3 rfl (e := e0) (by omega) (j_A_imp (hC16 (0 : Int32) _ _ h) (fun v S5 hq => ?_))
      obtain ⟨hv, h⟩ := hq
      subst hv
      refine j_A_call (j := 14) (As := [.ref 5, .int (59 : Int32)]) (fr' := (1, 51, [some (.ref 5), some (.int x1)], [])) (S' := S5) 3 rfl (e := 3) (by omega) (j_A_imp (j_wt14 (59 : Int32) h) (fun v S6 hq => ?_))
      obtain ⟨hv, h⟩ := hq
      subst hv
      refine j_A_call (j := 29) (As := [.ref 1, .int x1]) (fr' := (1, 59, [some (.ref 5), some (.int x1)], [])) (S' := S6) 4 rfl (e := 1) (by omega) (j_A_imp (j_wt29 x1 h) (fun v S7 hq => ?_))
      obtain ⟨hv, h⟩ := hq
      subst hv
      refine j_A_nx 2 (fr' := (1, 28, [some (.ref 5), some (.int (x1 + (1 : Int32)))], [])) (S' := S7) rfl ?_
      refine j_ri_A.less (m := 1) (pc := 28) (L := [some (.ref 5), some (.int (x1 + (1 : Int32)))]) (L' := [some (.ref 5), some (.int (x1 + (1 : Int32)))]) (st := []) ⟨rfl, ⟨rfl, trivial⟩⟩ ?_
      exact ih _ _ h
set_option maxRecDepth 10000 in
set_option maxHeartbeats 1000000 in
theorem j_wt1 {E : ri_E} (C16 : Int32 → ri_H → (ri_H → Prop) → Prop) (e0 : Nat) (he0 : 20 ≤ e0) (hC16 : ∀ (a : Int32) (S : ri_H) (Q : ri_H → Prop), C16 a S Q → j_ri_A E e0 (ri_en 16 [.ref 5, .int a]) S (Qv Q))  {S : ri_H} {Q : Int32 → ri_H → Prop} (h : w1 C16  S Q) : j_ri_A E (e0 + 1) (ri_en 1 [.ref 5]) S (Qi Q) := by
  unfold w1 at h
  show j_ri_A E (e0 + 1) (1, 0, [some (.ref 5), none], []) S (Qi Q)
  refine j_A_call (j := 2) (As := [.ref 5]) (fr' := (1, 4, [some (.ref 5), none], [])) (S' := S) 2 rfl (e := 7) (by omega) (j_A_imp (j_wt2  h) (fun v S1 hq => ?_))
  obtain ⟨hv, h⟩ := hq
  subst hv
  refine j_A_call (j := 27) (As := [.ref 1]) (fr' := (1, 26, [some (.ref 5), none], [])) (S' := (ri_wi (ri_wi (ri_wi S1 5 4 (0 : Int32)) 5 6 (0 : Int32)) 5 7 (-1 : Int32))) 12 rfl (e := 1) (by omega) (j_A_imp (j_wt27  h) (fun v S2 hq => ?_))
  obtain ⟨hv, h⟩ := hq
  subst hv
  refine j_A_nx 2 (fr' := (1, 28, [some (.ref 5), some (.int (0 : Int32))], [])) (S' := S2) rfl ?_
  refine j_ri_A.less (m := 1) (pc := 28) (L := [some (.ref 5), some (.int (0 : Int32))]) (L' := [some (.ref 5), some (.int (0 : Int32))]) (st := []) ⟨rfl, ⟨rfl, trivial⟩⟩ ?_
  obtain ⟨nn, h⟩ := h
  exact j_wt1_l28 C16 e0 he0 hC16  nn _ _ h
-- 21.world
theorem j_sp_joined {E : ri_E} {S : ri_H} {Q : Option Value → ri_H → Prop} (s a b : Int32) (h : Q (some (.int (jn s a b))) S) : j_ri_A E 0 (ri_en 32 [.int s, .int a, .int b]) S Q := by
  refine j_A_imp (j_wt32 s a b (Q := fun r S1 => r = jn s a b ∧ S1 = S) ?_) (fun v S1 hv => ?_)
  · unfold w32 jn
    refine ⟨fun c => ?_, fun c => ?_, fun c => ?_, fun c => ?_, fun c => ?_, fun c => ?_, fun c => ?_⟩
    · have hh : ∀ k : Int32, ¬ (k < -14 ∨ -9 < k) → s ≠ k := fun k hk e => hk (e ▸ c)
      rw [if_neg (hh _ (by decide)), if_neg (hh _ (by decide)), if_neg (hh _ (by decide)), if_neg (hh _ (by decide)), if_neg (hh _ (by decide)), if_neg (hh _ (by decide))]
      exact ⟨rfl, rfl⟩
    · subst c; rw [if_neg (by decide), if_neg (by decide), if_neg (by decide), if_neg (by decide), if_neg (by decide), if_pos rfl]; exact ⟨rfl, rfl⟩
    · subst c; rw [if_neg (by decide), if_neg (by decide), if_neg (by decide), if_neg (by decide), if_pos rfl]; exact ⟨rfl, rfl⟩
    · subst c; rw [if_neg (by decide), if_neg (by decide), if_neg (by decide), if_pos rfl]
      refine ⟨fun c => ?_, fun c => ?_⟩
      · rw [if_neg c]; exact ⟨rfl, rfl⟩
      · rw [if_pos (Decidable.not_not.mp c)]; exact ⟨rfl, rfl⟩
    · subst c; rw [if_neg (by decide), if_neg (by decide), if_pos rfl]
      refine ⟨fun c => ?_, fun c => ?_⟩
      · rw [if_neg (Int32.not_lt.mpr c)]; exact ⟨rfl, rfl⟩
      · rw [if_pos (Int32.not_le.mp c)]; exact ⟨rfl, rfl⟩
    · subst c; rw [if_neg (by decide), if_pos rfl]
      refine ⟨fun c => ?_, fun c => ?_⟩
      · rw [if_pos c]; exact ⟨rfl, rfl⟩
      · rw [if_neg c]
        refine ⟨fun c => ?_, fun c => ?_⟩
        · rw [if_pos c]; exact ⟨rfl, rfl⟩
        · rw [if_neg c]; exact ⟨rfl, rfl⟩
    · subst c; rw [if_pos rfl]
      unfold w32_b48
      refine ⟨fun c => ?_, fun c => ?_⟩
      · rw [if_neg c]; exact ⟨rfl, rfl⟩
      · rw [if_pos (Decidable.not_not.mp c)]
        refine ⟨fun c => ?_, fun c => ?_⟩
        · rw [if_pos c]; exact ⟨rfl, rfl⟩
        · rw [if_neg c]; exact ⟨rfl, rfl⟩
  · obtain ⟨r, rfl, rfl, rfl⟩ := hv
    exact h
set_option maxRecDepth 10000 in
set_option maxHeartbeats 1000000 in
theorem j_wt30_b226 {E : ri_E} (q : Nat) (hw : q = 18 ∨ q = 27) {Q : Int32 → ri_H → Prop}  (S : ri_H) (h : w30_b226 q  Q  S) : j_ri_A E 1 (30, 226, [some (.ref 1), none, none, none, none, none, none, none, none], []) S (Qi Q) := by
  rcases hw with rfl | rfl
  · unfold w30_b226 at h
    refine j_A_call (j := 98) (As := [.ref 4, .int (0 : Int32)]) (fr' := (30, 234, [some (.ref 1), none, none, none, none, none, none, none, none], [])) (S' := S) 4 rfl (e := 0) (by omega) (j_sp_item 4 160 _ ⟨by decide, by decide, rfl⟩ (by decide) ?_)
    refine j_A_call (j := 96) (As := [.int (it (S.1 4) 160 (0 : Int32)), .int (-99 : Int32), .int (99 : Int32)]) (fr' := (30, 241, [some (.ref 1), none, none, none, none, none, none, none, none], [])) (S' := S) 3 rfl (e := 0) (by omega) (j_sp_held _ _ _ ?_)
    exact j_A_ret 1 (m := 30) (v := some (.int (hd (it (S.1 4) 160 (0 : Int32)) (-99 : Int32) (99 : Int32)))) (S' := S) rfl rfl ⟨_, rfl, h⟩
  · unfold w30_b226 at h
    refine j_A_call (j := 98) (As := [.ref 4, .int (0 : Int32)]) (fr' := (30, 234, [some (.ref 1), none, none, none, none, none, none, none, none], [])) (S' := S) 4 rfl (e := 0) (by omega) (j_sp_item 4 160 _ ⟨by decide, by decide, rfl⟩ (by decide) ?_)
    refine j_A_call (j := 96) (As := [.int (it (S.1 4) 160 (0 : Int32)), .int (-99 : Int32), .int (99 : Int32)]) (fr' := (30, 241, [some (.ref 1), none, none, none, none, none, none, none, none], [])) (S' := S) 3 rfl (e := 0) (by omega) (j_sp_held _ _ _ ?_)
    exact j_A_ret 1 (m := 30) (v := some (.int (hd (it (S.1 4) 160 (0 : Int32)) (-99 : Int32) (99 : Int32)))) (S' := S) rfl rfl ⟨_, rfl, h⟩
set_option maxRecDepth 10000 in
set_option maxHeartbeats 1000000 in
theorem j_wt30_b220 {E : ri_E} (q : Nat) (hw : q = 18 ∨ q = 27) {K37 : Int32 → Int32 → Int32 → ri_H → Prop} {Q : Int32 → ri_H → Prop} (hK37 : ∀ (x5 : Int32) (x6 : Int32) (x7 : Int32) (S : ri_H), K37 x5 x6 x7 S → j_ri_A E 1 (30, 37, [some (.ref 1), none, none, some (.ref q), none, some (.int x5), some (.int x6), some (.int x7), none], []) S (Qi Q)) (x5 : Int32) (x6 : Int32) (x7 : Int32) (S : ri_H) (h : w30_b220 q K37 Q x5 x6 x7 S) : j_ri_A E 1 (30, 220, [some (.ref 1), none, none, some (.ref q), none, some (.int x5), some (.int x6), some (.int x7), none], []) S (Qi Q) := by
  rcases hw with rfl | rfl
  · unfold w30_b220 at h
    refine j_A_nx 2 (fr' := (30, 37, [some (.ref 1), none, none, some (.ref 18), none, some (.int x5), some (.int x6), some (.int (x7 + (1 : Int32))), none], [])) (S' := S) rfl ?_
    refine j_ri_A.less (m := 30) (pc := 37) (L := [some (.ref 1), none, none, some (.ref 18), none, some (.int x5), some (.int x6), some (.int (x7 + (1 : Int32))), none]) (L' := [some (.ref 1), none, none, some (.ref 18), none, some (.int x5), some (.int x6), some (.int (x7 + (1 : Int32))), none]) (st := []) ⟨rfl, ⟨rfl, ⟨rfl, ⟨rfl, ⟨rfl, trivial⟩⟩⟩⟩⟩ ?_
    exact hK37 _ _ _ _ h
  · unfold w30_b220 at h
    refine j_A_nx 2 (fr' := (30, 37, [some (.ref 1), none, none, some (.ref 27), none, some (.int x5), some (.int x6), some (.int (x7 + (1 : Int32))), none], [])) (S' := S) rfl ?_
    refine j_ri_A.less (m := 30) (pc := 37) (L := [some (.ref 1), none, none, some (.ref 27), none, some (.int x5), some (.int x6), some (.int (x7 + (1 : Int32))), none]) (L' := [some (.ref 1), none, none, some (.ref 27), none, some (.int x5), some (.int x6), some (.int (x7 + (1 : Int32))), none]) (st := []) ⟨rfl, ⟨rfl, ⟨rfl, ⟨rfl, ⟨rfl, trivial⟩⟩⟩⟩⟩ ?_
    exact hK37 _ _ _ _ h
set_option maxRecDepth 10000 in
set_option maxHeartbeats 1000000 in
theorem j_wt30_b175 {E : ri_E} (q : Nat) (hw : q = 18 ∨ q = 27) {K37 : Int32 → Int32 → Int32 → ri_H → Prop} {Q : Int32 → ri_H → Prop} (hK37 : ∀ (x5 : Int32) (x6 : Int32) (x7 : Int32) (S : ri_H), K37 x5 x6 x7 S → j_ri_A E 1 (30, 37, [some (.ref 1), none, none, some (.ref q), none, some (.int x5), some (.int x6), some (.int x7), none], []) S (Qi Q)) (x5 : Int32) (x6 : Int32) (x7 : Int32) (s0 : Int32) (s1 : Int32) (S : ri_H) (h : w30_b175 q K37 Q x5 x6 x7 s0 s1 S) : j_ri_A E 1 (30, 175, [some (.ref 1), none, none, some (.ref q), none, some (.int x5), some (.int x6), some (.int x7), none], [.int s0, .int s1, .ref 4]) S (Qi Q) := by
  rcases hw with rfl | rfl
  · unfold w30_b175 at h
    refine j_A_call (j := 99) (As := [.ref 4, .int s1, .int s0]) (fr' := (30, 178, [some (.ref 1), none, none, some (.ref 18), none, some (.int x5), some (.int x6), some (.int x7), none], [])) (S' := S) 1 rfl (e := 0) (by omega) (j_sp_putItem 4 160 _ _ ⟨by decide, by decide, rfl⟩ (by decide) ?_)
    refine j_A_nx 1 (fr' := (30, 220, [some (.ref 1), none, none, some (.ref 18), none, some (.int x5), some (.int x6), some (.int x7), none], [])) (S' := (ri_wr S 4 (pu 160 (S.1 4) s1 s0))) rfl ?_
    refine j_ri_A.less (m := 30) (pc := 220) (L := [some (.ref 1), none, none, some (.ref 18), none, some (.int x5), some (.int x6), some (.int x7), none]) (L' := [some (.ref 1), none, none, some (.ref 18), none, some (.int x5), some (.int x6), some (.int x7), none]) (st := []) ⟨rfl, ⟨rfl, ⟨rfl, ⟨rfl, ⟨rfl, trivial⟩⟩⟩⟩⟩ ?_
    exact j_wt30_b220 18 (by decide) hK37 _ _ _ _ h
  · unfold w30_b175 at h
    refine j_A_call (j := 99) (As := [.ref 4, .int s1, .int s0]) (fr' := (30, 178, [some (.ref 1), none, none, some (.ref 27), none, some (.int x5), some (.int x6), some (.int x7), none], [])) (S' := S) 1 rfl (e := 0) (by omega) (j_sp_putItem 4 160 _ _ ⟨by decide, by decide, rfl⟩ (by decide) ?_)
    refine j_A_nx 1 (fr' := (30, 220, [some (.ref 1), none, none, some (.ref 27), none, some (.int x5), some (.int x6), some (.int x7), none], [])) (S' := (ri_wr S 4 (pu 160 (S.1 4) s1 s0))) rfl ?_
    refine j_ri_A.less (m := 30) (pc := 220) (L := [some (.ref 1), none, none, some (.ref 27), none, some (.int x5), some (.int x6), some (.int x7), none]) (L' := [some (.ref 1), none, none, some (.ref 27), none, some (.int x5), some (.int x6), some (.int x7), none]) (st := []) ⟨rfl, ⟨rfl, ⟨rfl, ⟨rfl, ⟨rfl, trivial⟩⟩⟩⟩⟩ ?_
    exact j_wt30_b220 27 (by decide) hK37 _ _ _ _ h
set_option maxRecDepth 10000 in
set_option maxHeartbeats 1000000 in
theorem j_wt30_b99 {E : ri_E} (q : Nat) (hw : q = 18 ∨ q = 27) {K37 : Int32 → Int32 → Int32 → ri_H → Prop} {Q : Int32 → ri_H → Prop} (hK37 : ∀ (x5 : Int32) (x6 : Int32) (x7 : Int32) (S : ri_H), K37 x5 x6 x7 S → j_ri_A E 1 (30, 37, [some (.ref 1), none, none, some (.ref q), none, some (.int x5), some (.int x6), some (.int x7), none], []) S (Qi Q)) (x5 : Int32) (x6 : Int32) (x7 : Int32) (s0 : Int32) (s1 : Int32) (S : ri_H) (h : w30_b99 q K37 Q x5 x6 x7 s0 s1 S) : j_ri_A E 1 (30, 99, [some (.ref 1), none, none, some (.ref q), none, some (.int x5), some (.int x6), some (.int x7), none], [.int s0, .int s1, .ref 4]) S (Qi Q) := by
  rcases hw with rfl | rfl
  · unfold w30_b99 at h
    refine j_A_call (j := 99) (As := [.ref 4, .int s1, .int s0]) (fr' := (30, 102, [some (.ref 1), none, none, some (.ref 18), none, some (.int x5), some (.int x6), some (.int x7), none], [])) (S' := S) 1 rfl (e := 0) (by omega) (j_sp_putItem 4 160 _ _ ⟨by decide, by decide, rfl⟩ (by decide) ?_)
    refine j_A_nx 2 (fr' := (30, 220, [some (.ref 1), none, none, some (.ref 18), none, some (.int x5), some (.int (x6 + (1 : Int32))), some (.int x7), none], [])) (S' := (ri_wr S 4 (pu 160 (S.1 4) s1 s0))) rfl ?_
    refine j_ri_A.less (m := 30) (pc := 220) (L := [some (.ref 1), none, none, some (.ref 18), none, some (.int x5), some (.int (x6 + (1 : Int32))), some (.int x7), none]) (L' := [some (.ref 1), none, none, some (.ref 18), none, some (.int x5), some (.int (x6 + (1 : Int32))), some (.int x7), none]) (st := []) ⟨rfl, ⟨rfl, ⟨rfl, ⟨rfl, ⟨rfl, trivial⟩⟩⟩⟩⟩ ?_
    exact j_wt30_b220 18 (by decide) hK37 _ _ _ _ h
  · unfold w30_b99 at h
    refine j_A_call (j := 99) (As := [.ref 4, .int s1, .int s0]) (fr' := (30, 102, [some (.ref 1), none, none, some (.ref 27), none, some (.int x5), some (.int x6), some (.int x7), none], [])) (S' := S) 1 rfl (e := 0) (by omega) (j_sp_putItem 4 160 _ _ ⟨by decide, by decide, rfl⟩ (by decide) ?_)
    refine j_A_nx 2 (fr' := (30, 220, [some (.ref 1), none, none, some (.ref 27), none, some (.int x5), some (.int (x6 + (1 : Int32))), some (.int x7), none], [])) (S' := (ri_wr S 4 (pu 160 (S.1 4) s1 s0))) rfl ?_
    refine j_ri_A.less (m := 30) (pc := 220) (L := [some (.ref 1), none, none, some (.ref 27), none, some (.int x5), some (.int (x6 + (1 : Int32))), some (.int x7), none]) (L' := [some (.ref 1), none, none, some (.ref 27), none, some (.int x5), some (.int (x6 + (1 : Int32))), some (.int x7), none]) (st := []) ⟨rfl, ⟨rfl, ⟨rfl, ⟨rfl, ⟨rfl, trivial⟩⟩⟩⟩⟩ ?_
    exact j_wt30_b220 27 (by decide) hK37 _ _ _ _ h
set_option maxRecDepth 10000 in
set_option maxHeartbeats 1000000 in
theorem j_wt30_l37 {E : ri_E} (q : Nat) (hw : q = 18 ∨ q = 27) {Q : Int32 → ri_H → Prop} : ∀ (n : Nat) (x5 : Int32) (x6 : Int32) (x7 : Int32) (S : ri_H), w30_l37 q  Q n x5 x6 x7 S → j_ri_A E 1 (30, 37, [some (.ref 1), none, none, some (.ref q), none, some (.int x5), some (.int x6), some (.int x7), none], []) S (Qi Q) := by
  rcases hw with rfl | rfl
  · intro n
    induction n with
    | zero => intro x5 x6 x7 S h; exact h.elim
    | succ n ih =>
      intro x5 x6 x7 S h
      unfold w30_l37 at h
      refine j_A_br (x7 < 0) (r1 := ((30, 226, [some (.ref 1), none, none, some (.ref 18), none, some (.int x5), some (.int x6), some (.int x7), none], []), S)) (r2 := ((30, 42, [some (.ref 1), none, none, some (.ref 18), none, some (.int x5), some (.int x6), some (.int x7), none], []), S)) 2 rfl (fun c => ?_) (fun c => ?_)
      · have h := h.1 c
        refine j_ri_A.less (m := 30) (pc := 226) (L := [some (.ref 1), none, none, some (.ref 18), none, some (.int x5), some (.int x6), some (.int x7), none]) (L' := [some (.ref 1), none, none, none, none, none, none, none, none]) (st := []) ⟨rfl, trivial⟩ ?_
        exact j_wt30_b226 18 (by decide)  _ h
      · have h := h.2 c
        refine j_A_br (x5 ≤ x7) (r1 := ((30, 226, [some (.ref 1), none, none, some (.ref 18), none, some (.int x5), some (.int x6), some (.int x7), none], []), S)) (r2 := ((30, 49, [some (.ref 1), none, none, some (.ref 18), none, some (.int x5), some (.int x6), some (.int x7), none], []), S)) 3 rfl (fun c => ?_) (fun c => ?_)
        · have h := h.1 c
          refine j_ri_A.less (m := 30) (pc := 226) (L := [some (.ref 1), none, none, some (.ref 18), none, some (.int x5), some (.int x6), some (.int x7), none]) (L' := [some (.ref 1), none, none, none, none, none, none, none, none]) (st := []) ⟨rfl, trivial⟩ ?_
          exact j_wt30_b226 18 (by decide)  _ h
        · have h := h.2 c
          refine j_A_br ((960 : Int32) ≤ x7) (r1 := ((30, 226, [some (.ref 1), none, none, some (.ref 18), none, some (.int x5), some (.int x6), some (.int x7), none], []), S)) (r2 := ((30, 59, [some (.ref 1), none, none, some (.ref 18), none, some (.int x5), some (.int x6), some (.int x7), none], []), S)) 5 rfl (fun c => ?_) (fun c => ?_)
          · have h := h.1 c
            refine j_ri_A.less (m := 30) (pc := 226) (L := [some (.ref 1), none, none, some (.ref 18), none, some (.int x5), some (.int x6), some (.int x7), none]) (L' := [some (.ref 1), none, none, none, none, none, none, none, none]) (st := []) ⟨rfl, trivial⟩ ?_
            exact j_wt30_b226 18 (by decide)  _ h
          · have h := h.2 c
            refine j_A_ix x7 960 (r1 := ((30, 66, [some (.ref 1), none, none, some (.ref 18), none, some (.int x5), some (.int x6), some (.int x7), none], [.int (S.1 2 (x7).toNatClampNeg)]), S)) 4 rfl h.1 ?_
            have h := h.2
            refine j_A_br ((S.1 2 (x7).toNatClampNeg) < (-6 : Int32)) (r1 := ((30, 108, [some (.ref 1), none, none, some (.ref 18), none, some (.int x5), some (.int x6), some (.int x7), some (.int (S.1 2 (x7).toNatClampNeg))], []), S)) (r2 := ((30, 75, [some (.ref 1), none, none, some (.ref 18), none, some (.int x5), some (.int x6), some (.int x7), some (.int (S.1 2 (x7).toNatClampNeg))], []), S)) 4 rfl (fun c => ?_) (fun c => ?_)
            · have h := h.1 c
              refine j_A_br (¬ (S.1 2 (x7).toNatClampNeg) = (-7 : Int32)) (r1 := ((30, 141, [some (.ref 1), none, none, some (.ref 18), none, some (.int x5), some (.int x6), some (.int x7), some (.int (S.1 2 (x7).toNatClampNeg))], []), S)) (r2 := ((30, 115, [some (.ref 1), none, none, some (.ref 18), none, some (.int x5), some (.int x6), some (.int x7), some (.int (S.1 2 (x7).toNatClampNeg))], []), S)) 3 rfl (fun c => ?_) (fun c => ?_)
              · have h := h.1 c
                refine j_A_br (¬ (S.1 2 (x7).toNatClampNeg) = (-8 : Int32)) (r1 := ((30, 181, [some (.ref 1), none, none, some (.ref 18), none, some (.int x5), some (.int x6), some (.int x7), some (.int (S.1 2 (x7).toNatClampNeg))], []), S)) (r2 := ((30, 148, [some (.ref 1), none, none, some (.ref 18), none, some (.int x5), some (.int x6), some (.int x7), some (.int (S.1 2 (x7).toNatClampNeg))], []), S)) 3 rfl (fun c => ?_) (fun c => ?_)
                · have h := h.1 c
                  refine j_A_call (j := 98) (As := [.ref 4, .int ((x6 + (-1 : Int32)) - (1 : Int32))]) (fr' := (30, 205, [some (.ref 1), none, none, some (.ref 18), none, some (.int x5), some (.int (x6 + (-1 : Int32))), some (.int x7), some (.int (S.1 2 (x7).toNatClampNeg))], [.int (S.1 2 (x7).toNatClampNeg), .int ((x6 + (-1 : Int32)) - (1 : Int32)), .ref 4])) (S' := S) 13 rfl (e := 0) (by omega) (j_sp_item 4 160 _ ⟨by decide, by decide, rfl⟩ (by decide) ?_)
                  refine j_A_call (j := 98) (As := [.ref 4, .int (x6 + (-1 : Int32))]) (fr' := (30, 214, [some (.ref 1), none, none, some (.ref 18), none, some (.int x5), some (.int (x6 + (-1 : Int32))), some (.int x7), some (.int (S.1 2 (x7).toNatClampNeg))], [.int (it (S.1 4) 160 ((x6 + (-1 : Int32)) - (1 : Int32))), .int (S.1 2 (x7).toNatClampNeg), .int ((x6 + (-1 : Int32)) - (1 : Int32)), .ref 4])) (S' := S) 4 rfl (e := 0) (by omega) (j_sp_item 4 160 _ ⟨by decide, by decide, rfl⟩ (by decide) ?_)
                  refine j_A_call (j := 32) (As := [.int (S.1 2 (x7).toNatClampNeg), .int (it (S.1 4) 160 ((x6 + (-1 : Int32)) - (1 : Int32))), .int (it (S.1 4) 160 (x6 + (-1 : Int32)))]) (fr' := (30, 217, [some (.ref 1), none, none, some (.ref 18), none, some (.int x5), some (.int (x6 + (-1 : Int32))), some (.int x7), some (.int (S.1 2 (x7).toNatClampNeg))], [.int ((x6 + (-1 : Int32)) - (1 : Int32)), .ref 4])) (S' := S) 1 rfl (e := 0) (by omega) (j_sp_joined _ _ _ ?_)
                  refine j_A_call (j := 99) (As := [.ref 4, .int ((x6 + (-1 : Int32)) - (1 : Int32)), .int (jn (S.1 2 (x7).toNatClampNeg) (it (S.1 4) 160 ((x6 + (-1 : Int32)) - (1 : Int32))) (it (S.1 4) 160 (x6 + (-1 : Int32))))]) (fr' := (30, 220, [some (.ref 1), none, none, some (.ref 18), none, some (.int x5), some (.int (x6 + (-1 : Int32))), some (.int x7), some (.int (S.1 2 (x7).toNatClampNeg))], [])) (S' := S) 1 rfl (e := 0) (by omega) (j_sp_putItem 4 160 _ _ ⟨by decide, by decide, rfl⟩ (by decide) ?_)
                  refine j_ri_A.less (m := 30) (pc := 220) (L := [some (.ref 1), none, none, some (.ref 18), none, some (.int x5), some (.int (x6 + (-1 : Int32))), some (.int x7), some (.int (S.1 2 (x7).toNatClampNeg))]) (L' := [some (.ref 1), none, none, some (.ref 18), none, some (.int x5), some (.int (x6 + (-1 : Int32))), some (.int x7), none]) (st := []) ⟨rfl, ⟨rfl, ⟨rfl, ⟨rfl, ⟨rfl, trivial⟩⟩⟩⟩⟩ ?_
                  exact j_wt30_b220 18 (by decide) (fun x5 x6 x7 S hk => ih x5 x6 x7 S hk) _ _ _ _ h
                · have h := h.2 c
                  refine j_A_call (j := 98) (As := [.ref 4, .int (x6 - (1 : Int32))]) (fr' := (30, 167, [some (.ref 1), none, none, some (.ref 18), none, some (.int x5), some (.int x6), some (.int x7), some (.int (S.1 2 (x7).toNatClampNeg))], [.int (x6 - (1 : Int32)), .ref 4])) (S' := S) 11 rfl (e := 0) (by omega) (j_sp_item 4 160 _ ⟨by decide, by decide, rfl⟩ (by decide) ?_)
                  refine j_A_br (¬ (it (S.1 4) 160 (x6 - (1 : Int32))) = 0) (r1 := ((30, 174, [some (.ref 1), none, none, some (.ref 18), none, some (.int x5), some (.int x6), some (.int x7), some (.int (S.1 2 (x7).toNatClampNeg))], [.int (x6 - (1 : Int32)), .ref 4]), S)) (r2 := ((30, 170, [some (.ref 1), none, none, some (.ref 18), none, some (.int x5), some (.int x6), some (.int x7), some (.int (S.1 2 (x7).toNatClampNeg))], [.int (x6 - (1 : Int32)), .ref 4]), S)) 1 rfl (fun c => ?_) (fun c => ?_)
                  · have h := h.1 c
                    refine j_A_nx 1 (fr' := (30, 175, [some (.ref 1), none, none, some (.ref 18), none, some (.int x5), some (.int x6), some (.int x7), some (.int (S.1 2 (x7).toNatClampNeg))], [.int (0 : Int32), .int (x6 - (1 : Int32)), .ref 4])) (S' := S) rfl ?_
                    refine j_ri_A.less (m := 30) (pc := 175) (L := [some (.ref 1), none, none, some (.ref 18), none, some (.int x5), some (.int x6), some (.int x7), some (.int (S.1 2 (x7).toNatClampNeg))]) (L' := [some (.ref 1), none, none, some (.ref 18), none, some (.int x5), some (.int x6), some (.int x7), none]) (st := [.int (0 : Int32), .int (x6 - (1 : Int32)), .ref 4]) ⟨rfl, ⟨rfl, ⟨rfl, ⟨rfl, ⟨rfl, trivial⟩⟩⟩⟩⟩ ?_
                    exact j_wt30_b175 18 (by decide) (fun x5 x6 x7 S hk => ih x5 x6 x7 S hk) _ _ _ _ _ _ h
                  · have h := h.2 c
                    refine j_A_nx 2 (fr' := (30, 175, [some (.ref 1), none, none, some (.ref 18), none, some (.int x5), some (.int x6), some (.int x7), some (.int (S.1 2 (x7).toNatClampNeg))], [.int (1 : Int32), .int (x6 - (1 : Int32)), .ref 4])) (S' := S) rfl ?_
                    refine j_ri_A.less (m := 30) (pc := 175) (L := [some (.ref 1), none, none, some (.ref 18), none, some (.int x5), some (.int x6), some (.int x7), some (.int (S.1 2 (x7).toNatClampNeg))]) (L' := [some (.ref 1), none, none, some (.ref 18), none, some (.int x5), some (.int x6), some (.int x7), none]) (st := [.int (1 : Int32), .int (x6 - (1 : Int32)), .ref 4]) ⟨rfl, ⟨rfl, ⟨rfl, ⟨rfl, ⟨rfl, trivial⟩⟩⟩⟩⟩ ?_
                    exact j_wt30_b175 18 (by decide) (fun x5 x6 x7 S hk => ih x5 x6 x7 S hk) _ _ _ _ _ _ h
              · have h := h.2 c
                refine j_A_call (j := 98) (As := [.ref 4, .int (x6 - (1 : Int32))]) (fr' := (30, 134, [some (.ref 1), none, none, some (.ref 18), none, some (.int x5), some (.int x6), some (.int x7), some (.int (S.1 2 (x7).toNatClampNeg))], [.int (x6 - (1 : Int32)), .ref 4])) (S' := S) 11 rfl (e := 0) (by omega) (j_sp_item 4 160 _ ⟨by decide, by decide, rfl⟩ (by decide) ?_)
                refine j_A_call (j := 99) (As := [.ref 4, .int (x6 - (1 : Int32)), .int (-(it (S.1 4) 160 (x6 - (1 : Int32))))]) (fr' := (30, 138, [some (.ref 1), none, none, some (.ref 18), none, some (.int x5), some (.int x6), some (.int x7), some (.int (S.1 2 (x7).toNatClampNeg))], [])) (S' := S) 2 rfl (e := 0) (by omega) (j_sp_putItem 4 160 _ _ ⟨by decide, by decide, rfl⟩ (by decide) ?_)
                refine j_A_nx 1 (fr' := (30, 220, [some (.ref 1), none, none, some (.ref 18), none, some (.int x5), some (.int x6), some (.int x7), some (.int (S.1 2 (x7).toNatClampNeg))], [])) (S' := (ri_wr S 4 (pu 160 (S.1 4) (x6 - (1 : Int32)) (-(it (S.1 4) 160 (x6 - (1 : Int32))))))) rfl ?_
                refine j_ri_A.less (m := 30) (pc := 220) (L := [some (.ref 1), none, none, some (.ref 18), none, some (.int x5), some (.int x6), some (.int x7), some (.int (S.1 2 (x7).toNatClampNeg))]) (L' := [some (.ref 1), none, none, some (.ref 18), none, some (.int x5), some (.int x6), some (.int x7), none]) (st := []) ⟨rfl, ⟨rfl, ⟨rfl, ⟨rfl, ⟨rfl, trivial⟩⟩⟩⟩⟩ ?_
                exact j_wt30_b220 18 (by decide) (fun x5 x6 x7 S hk => ih x5 x6 x7 S hk) _ _ _ _ h
            · have h := h.2 c
              refine j_A_br ((S.1 2 (x7).toNatClampNeg) < 0) (r1 := ((30, 91, [some (.ref 1), none, none, some (.ref 18), none, some (.int x5), some (.int x6), some (.int x7), some (.int (S.1 2 (x7).toNatClampNeg))], [.int x6, .ref 4]), S)) (r2 := ((30, 86, [some (.ref 1), none, none, some (.ref 18), none, some (.int x5), some (.int x6), some (.int x7), some (.int (S.1 2 (x7).toNatClampNeg))], [.int x6, .ref 4]), S)) 5 rfl (fun c => ?_) (fun c => ?_)
              · have h := h.1 c
                refine j_A_call (j := 98) (As := [.ref 18, .int ((-1 : Int32) - (S.1 2 (x7).toNatClampNeg))]) (fr' := (30, 99, [some (.ref 1), none, none, some (.ref 18), none, some (.int x5), some (.int x6), some (.int x7), some (.int (S.1 2 (x7).toNatClampNeg))], [.int x6, .ref 4])) (S' := S) 5 rfl (e := 0) (by omega) (j_sp_item 18 6 _ ⟨by decide, by decide, rfl⟩ (by decide) ?_)
                refine j_ri_A.less (m := 30) (pc := 99) (L := [some (.ref 1), none, none, some (.ref 18), none, some (.int x5), some (.int x6), some (.int x7), some (.int (S.1 2 (x7).toNatClampNeg))]) (L' := [some (.ref 1), none, none, some (.ref 18), none, some (.int x5), some (.int x6), some (.int x7), none]) (st := [.int (it (S.1 18) 6 ((-1 : Int32) - (S.1 2 (x7).toNatClampNeg))), .int x6, .ref 4]) ⟨rfl, ⟨rfl, ⟨rfl, ⟨rfl, ⟨rfl, trivial⟩⟩⟩⟩⟩ ?_
                exact j_wt30_b99 18 (by decide) (fun x5 x6 x7 S hk => ih x5 x6 x7 S hk) _ _ _ _ _ _ h
              · have h := h.2 c
                refine j_A_nx 2 (fr' := (30, 99, [some (.ref 1), none, none, some (.ref 18), none, some (.int x5), some (.int x6), some (.int x7), some (.int (S.1 2 (x7).toNatClampNeg))], [.int (S.1 2 (x7).toNatClampNeg), .int x6, .ref 4])) (S' := S) rfl ?_
                refine j_ri_A.less (m := 30) (pc := 99) (L := [some (.ref 1), none, none, some (.ref 18), none, some (.int x5), some (.int x6), some (.int x7), some (.int (S.1 2 (x7).toNatClampNeg))]) (L' := [some (.ref 1), none, none, some (.ref 18), none, some (.int x5), some (.int x6), some (.int x7), none]) (st := [.int (S.1 2 (x7).toNatClampNeg), .int x6, .ref 4]) ⟨rfl, ⟨rfl, ⟨rfl, ⟨rfl, ⟨rfl, trivial⟩⟩⟩⟩⟩ ?_
                exact j_wt30_b99 18 (by decide) (fun x5 x6 x7 S hk => ih x5 x6 x7 S hk) _ _ _ _ _ _ h
  · intro n
    induction n with
    | zero => intro x5 x6 x7 S h; exact h.elim
    | succ n ih =>
      intro x5 x6 x7 S h
      unfold w30_l37 at h
      refine j_A_br (x7 < 0) (r1 := ((30, 226, [some (.ref 1), none, none, some (.ref 27), none, some (.int x5), some (.int x6), some (.int x7), none], []), S)) (r2 := ((30, 42, [some (.ref 1), none, none, some (.ref 27), none, some (.int x5), some (.int x6), some (.int x7), none], []), S)) 2 rfl (fun c => ?_) (fun c => ?_)
      · have h := h.1 c
        refine j_ri_A.less (m := 30) (pc := 226) (L := [some (.ref 1), none, none, some (.ref 27), none, some (.int x5), some (.int x6), some (.int x7), none]) (L' := [some (.ref 1), none, none, none, none, none, none, none, none]) (st := []) ⟨rfl, trivial⟩ ?_
        exact j_wt30_b226 27 (by decide)  _ h
      · have h := h.2 c
        refine j_A_br (x5 ≤ x7) (r1 := ((30, 226, [some (.ref 1), none, none, some (.ref 27), none, some (.int x5), some (.int x6), some (.int x7), none], []), S)) (r2 := ((30, 49, [some (.ref 1), none, none, some (.ref 27), none, some (.int x5), some (.int x6), some (.int x7), none], []), S)) 3 rfl (fun c => ?_) (fun c => ?_)
        · have h := h.1 c
          refine j_ri_A.less (m := 30) (pc := 226) (L := [some (.ref 1), none, none, some (.ref 27), none, some (.int x5), some (.int x6), some (.int x7), none]) (L' := [some (.ref 1), none, none, none, none, none, none, none, none]) (st := []) ⟨rfl, trivial⟩ ?_
          exact j_wt30_b226 27 (by decide)  _ h
        · have h := h.2 c
          refine j_A_br ((960 : Int32) ≤ x7) (r1 := ((30, 226, [some (.ref 1), none, none, some (.ref 27), none, some (.int x5), some (.int x6), some (.int x7), none], []), S)) (r2 := ((30, 59, [some (.ref 1), none, none, some (.ref 27), none, some (.int x5), some (.int x6), some (.int x7), none], []), S)) 5 rfl (fun c => ?_) (fun c => ?_)
          · have h := h.1 c
            refine j_ri_A.less (m := 30) (pc := 226) (L := [some (.ref 1), none, none, some (.ref 27), none, some (.int x5), some (.int x6), some (.int x7), none]) (L' := [some (.ref 1), none, none, none, none, none, none, none, none]) (st := []) ⟨rfl, trivial⟩ ?_
            exact j_wt30_b226 27 (by decide)  _ h
          · have h := h.2 c
            refine j_A_ix x7 960 (r1 := ((30, 66, [some (.ref 1), none, none, some (.ref 27), none, some (.int x5), some (.int x6), some (.int x7), none], [.int (S.1 2 (x7).toNatClampNeg)]), S)) 4 rfl h.1 ?_
            have h := h.2
            refine j_A_br ((S.1 2 (x7).toNatClampNeg) < (-6 : Int32)) (r1 := ((30, 108, [some (.ref 1), none, none, some (.ref 27), none, some (.int x5), some (.int x6), some (.int x7), some (.int (S.1 2 (x7).toNatClampNeg))], []), S)) (r2 := ((30, 75, [some (.ref 1), none, none, some (.ref 27), none, some (.int x5), some (.int x6), some (.int x7), some (.int (S.1 2 (x7).toNatClampNeg))], []), S)) 4 rfl (fun c => ?_) (fun c => ?_)
            · have h := h.1 c
              refine j_A_br (¬ (S.1 2 (x7).toNatClampNeg) = (-7 : Int32)) (r1 := ((30, 141, [some (.ref 1), none, none, some (.ref 27), none, some (.int x5), some (.int x6), some (.int x7), some (.int (S.1 2 (x7).toNatClampNeg))], []), S)) (r2 := ((30, 115, [some (.ref 1), none, none, some (.ref 27), none, some (.int x5), some (.int x6), some (.int x7), some (.int (S.1 2 (x7).toNatClampNeg))], []), S)) 3 rfl (fun c => ?_) (fun c => ?_)
              · have h := h.1 c
                refine j_A_br (¬ (S.1 2 (x7).toNatClampNeg) = (-8 : Int32)) (r1 := ((30, 181, [some (.ref 1), none, none, some (.ref 27), none, some (.int x5), some (.int x6), some (.int x7), some (.int (S.1 2 (x7).toNatClampNeg))], []), S)) (r2 := ((30, 148, [some (.ref 1), none, none, some (.ref 27), none, some (.int x5), some (.int x6), some (.int x7), some (.int (S.1 2 (x7).toNatClampNeg))], []), S)) 3 rfl (fun c => ?_) (fun c => ?_)
                · have h := h.1 c
                  refine j_A_call (j := 98) (As := [.ref 4, .int ((x6 + (-1 : Int32)) - (1 : Int32))]) (fr' := (30, 205, [some (.ref 1), none, none, some (.ref 27), none, some (.int x5), some (.int (x6 + (-1 : Int32))), some (.int x7), some (.int (S.1 2 (x7).toNatClampNeg))], [.int (S.1 2 (x7).toNatClampNeg), .int ((x6 + (-1 : Int32)) - (1 : Int32)), .ref 4])) (S' := S) 13 rfl (e := 0) (by omega) (j_sp_item 4 160 _ ⟨by decide, by decide, rfl⟩ (by decide) ?_)
                  refine j_A_call (j := 98) (As := [.ref 4, .int (x6 + (-1 : Int32))]) (fr' := (30, 214, [some (.ref 1), none, none, some (.ref 27), none, some (.int x5), some (.int (x6 + (-1 : Int32))), some (.int x7), some (.int (S.1 2 (x7).toNatClampNeg))], [.int (it (S.1 4) 160 ((x6 + (-1 : Int32)) - (1 : Int32))), .int (S.1 2 (x7).toNatClampNeg), .int ((x6 + (-1 : Int32)) - (1 : Int32)), .ref 4])) (S' := S) 4 rfl (e := 0) (by omega) (j_sp_item 4 160 _ ⟨by decide, by decide, rfl⟩ (by decide) ?_)
                  refine j_A_call (j := 32) (As := [.int (S.1 2 (x7).toNatClampNeg), .int (it (S.1 4) 160 ((x6 + (-1 : Int32)) - (1 : Int32))), .int (it (S.1 4) 160 (x6 + (-1 : Int32)))]) (fr' := (30, 217, [some (.ref 1), none, none, some (.ref 27), none, some (.int x5), some (.int (x6 + (-1 : Int32))), some (.int x7), some (.int (S.1 2 (x7).toNatClampNeg))], [.int ((x6 + (-1 : Int32)) - (1 : Int32)), .ref 4])) (S' := S) 1 rfl (e := 0) (by omega) (j_sp_joined _ _ _ ?_)
                  refine j_A_call (j := 99) (As := [.ref 4, .int ((x6 + (-1 : Int32)) - (1 : Int32)), .int (jn (S.1 2 (x7).toNatClampNeg) (it (S.1 4) 160 ((x6 + (-1 : Int32)) - (1 : Int32))) (it (S.1 4) 160 (x6 + (-1 : Int32))))]) (fr' := (30, 220, [some (.ref 1), none, none, some (.ref 27), none, some (.int x5), some (.int (x6 + (-1 : Int32))), some (.int x7), some (.int (S.1 2 (x7).toNatClampNeg))], [])) (S' := S) 1 rfl (e := 0) (by omega) (j_sp_putItem 4 160 _ _ ⟨by decide, by decide, rfl⟩ (by decide) ?_)
                  refine j_ri_A.less (m := 30) (pc := 220) (L := [some (.ref 1), none, none, some (.ref 27), none, some (.int x5), some (.int (x6 + (-1 : Int32))), some (.int x7), some (.int (S.1 2 (x7).toNatClampNeg))]) (L' := [some (.ref 1), none, none, some (.ref 27), none, some (.int x5), some (.int (x6 + (-1 : Int32))), some (.int x7), none]) (st := []) ⟨rfl, ⟨rfl, ⟨rfl, ⟨rfl, ⟨rfl, trivial⟩⟩⟩⟩⟩ ?_
                  exact j_wt30_b220 27 (by decide) (fun x5 x6 x7 S hk => ih x5 x6 x7 S hk) _ _ _ _ h
                · have h := h.2 c
                  refine j_A_call (j := 98) (As := [.ref 4, .int (x6 - (1 : Int32))]) (fr' := (30, 167, [some (.ref 1), none, none, some (.ref 27), none, some (.int x5), some (.int x6), some (.int x7), some (.int (S.1 2 (x7).toNatClampNeg))], [.int (x6 - (1 : Int32)), .ref 4])) (S' := S) 11 rfl (e := 0) (by omega) (j_sp_item 4 160 _ ⟨by decide, by decide, rfl⟩ (by decide) ?_)
                  refine j_A_br (¬ (it (S.1 4) 160 (x6 - (1 : Int32))) = 0) (r1 := ((30, 174, [some (.ref 1), none, none, some (.ref 27), none, some (.int x5), some (.int x6), some (.int x7), some (.int (S.1 2 (x7).toNatClampNeg))], [.int (x6 - (1 : Int32)), .ref 4]), S)) (r2 := ((30, 170, [some (.ref 1), none, none, some (.ref 27), none, some (.int x5), some (.int x6), some (.int x7), some (.int (S.1 2 (x7).toNatClampNeg))], [.int (x6 - (1 : Int32)), .ref 4]), S)) 1 rfl (fun c => ?_) (fun c => ?_)
                  · have h := h.1 c
                    refine j_A_nx 1 (fr' := (30, 175, [some (.ref 1), none, none, some (.ref 27), none, some (.int x5), some (.int x6), some (.int x7), some (.int (S.1 2 (x7).toNatClampNeg))], [.int (0 : Int32), .int (x6 - (1 : Int32)), .ref 4])) (S' := S) rfl ?_
                    refine j_ri_A.less (m := 30) (pc := 175) (L := [some (.ref 1), none, none, some (.ref 27), none, some (.int x5), some (.int x6), some (.int x7), some (.int (S.1 2 (x7).toNatClampNeg))]) (L' := [some (.ref 1), none, none, some (.ref 27), none, some (.int x5), some (.int x6), some (.int x7), none]) (st := [.int (0 : Int32), .int (x6 - (1 : Int32)), .ref 4]) ⟨rfl, ⟨rfl, ⟨rfl, ⟨rfl, ⟨rfl, trivial⟩⟩⟩⟩⟩ ?_
                    exact j_wt30_b175 27 (by decide) (fun x5 x6 x7 S hk => ih x5 x6 x7 S hk) _ _ _ _ _ _ h
                  · have h := h.2 c
                    refine j_A_nx 2 (fr' := (30, 175, [some (.ref 1), none, none, some (.ref 27), none, some (.int x5), some (.int x6), some (.int x7), some (.int (S.1 2 (x7).toNatClampNeg))], [.int (1 : Int32), .int (x6 - (1 : Int32)), .ref 4])) (S' := S) rfl ?_
                    refine j_ri_A.less (m := 30) (pc := 175) (L := [some (.ref 1), none, none, some (.ref 27), none, some (.int x5), some (.int x6), some (.int x7), some (.int (S.1 2 (x7).toNatClampNeg))]) (L' := [some (.ref 1), none, none, some (.ref 27), none, some (.int x5), some (.int x6), some (.int x7), none]) (st := [.int (1 : Int32), .int (x6 - (1 : Int32)), .ref 4]) ⟨rfl, ⟨rfl, ⟨rfl, ⟨rfl, ⟨rfl, trivial⟩⟩⟩⟩⟩ ?_
                    exact j_wt30_b175 27 (by decide) (fun x5 x6 x7 S hk => ih x5 x6 x7 S hk) _ _ _ _ _ _ h
              · have h := h.2 c
                refine j_A_call (j := 98) (As := [.ref 4, .int (x6 - (1 : Int32))]) (fr' := (30, 134, [some (.ref 1), none, none, some (.ref 27), none, some (.int x5), some (.int x6), some (.int x7), some (.int (S.1 2 (x7).toNatClampNeg))], [.int (x6 - (1 : Int32)), .ref 4])) (S' := S) 11 rfl (e := 0) (by omega) (j_sp_item 4 160 _ ⟨by decide, by decide, rfl⟩ (by decide) ?_)
                refine j_A_call (j := 99) (As := [.ref 4, .int (x6 - (1 : Int32)), .int (-(it (S.1 4) 160 (x6 - (1 : Int32))))]) (fr' := (30, 138, [some (.ref 1), none, none, some (.ref 27), none, some (.int x5), some (.int x6), some (.int x7), some (.int (S.1 2 (x7).toNatClampNeg))], [])) (S' := S) 2 rfl (e := 0) (by omega) (j_sp_putItem 4 160 _ _ ⟨by decide, by decide, rfl⟩ (by decide) ?_)
                refine j_A_nx 1 (fr' := (30, 220, [some (.ref 1), none, none, some (.ref 27), none, some (.int x5), some (.int x6), some (.int x7), some (.int (S.1 2 (x7).toNatClampNeg))], [])) (S' := (ri_wr S 4 (pu 160 (S.1 4) (x6 - (1 : Int32)) (-(it (S.1 4) 160 (x6 - (1 : Int32))))))) rfl ?_
                refine j_ri_A.less (m := 30) (pc := 220) (L := [some (.ref 1), none, none, some (.ref 27), none, some (.int x5), some (.int x6), some (.int x7), some (.int (S.1 2 (x7).toNatClampNeg))]) (L' := [some (.ref 1), none, none, some (.ref 27), none, some (.int x5), some (.int x6), some (.int x7), none]) (st := []) ⟨rfl, ⟨rfl, ⟨rfl, ⟨rfl, ⟨rfl, trivial⟩⟩⟩⟩⟩ ?_
                exact j_wt30_b220 27 (by decide) (fun x5 x6 x7 S hk => ih x5 x6 x7 S hk) _ _ _ _ h
            · have h := h.2 c
              refine j_A_br ((S.1 2 (x7).toNatClampNeg) < 0) (r1 := ((30, 91, [some (.ref 1), none, none, some (.ref 27), none, some (.int x5), some (.int x6), some (.int x7), some (.int (S.1 2 (x7).toNatClampNeg))], [.int x6, .ref 4]), S)) (r2 := ((30, 86, [some (.ref 1), none, none, some (.ref 27), none, some (.int x5), some (.int x6), some (.int x7), some (.int (S.1 2 (x7).toNatClampNeg))], [.int x6, .ref 4]), S)) 5 rfl (fun c => ?_) (fun c => ?_)
              · have h := h.1 c
                refine j_A_call (j := 98) (As := [.ref 27, .int ((-1 : Int32) - (S.1 2 (x7).toNatClampNeg))]) (fr' := (30, 99, [some (.ref 1), none, none, some (.ref 27), none, some (.int x5), some (.int x6), some (.int x7), some (.int (S.1 2 (x7).toNatClampNeg))], [.int x6, .ref 4])) (S' := S) 5 rfl (e := 0) (by omega) (j_sp_item 27 6 _ ⟨by decide, by decide, rfl⟩ (by decide) ?_)
                refine j_ri_A.less (m := 30) (pc := 99) (L := [some (.ref 1), none, none, some (.ref 27), none, some (.int x5), some (.int x6), some (.int x7), some (.int (S.1 2 (x7).toNatClampNeg))]) (L' := [some (.ref 1), none, none, some (.ref 27), none, some (.int x5), some (.int x6), some (.int x7), none]) (st := [.int (it (S.1 27) 6 ((-1 : Int32) - (S.1 2 (x7).toNatClampNeg))), .int x6, .ref 4]) ⟨rfl, ⟨rfl, ⟨rfl, ⟨rfl, ⟨rfl, trivial⟩⟩⟩⟩⟩ ?_
                exact j_wt30_b99 27 (by decide) (fun x5 x6 x7 S hk => ih x5 x6 x7 S hk) _ _ _ _ _ _ h
              · have h := h.2 c
                refine j_A_nx 2 (fr' := (30, 99, [some (.ref 1), none, none, some (.ref 27), none, some (.int x5), some (.int x6), some (.int x7), some (.int (S.1 2 (x7).toNatClampNeg))], [.int (S.1 2 (x7).toNatClampNeg), .int x6, .ref 4])) (S' := S) rfl ?_
                refine j_ri_A.less (m := 30) (pc := 99) (L := [some (.ref 1), none, none, some (.ref 27), none, some (.int x5), some (.int x6), some (.int x7), some (.int (S.1 2 (x7).toNatClampNeg))]) (L' := [some (.ref 1), none, none, some (.ref 27), none, some (.int x5), some (.int x6), some (.int x7), none]) (st := [.int (S.1 2 (x7).toNatClampNeg), .int x6, .ref 4]) ⟨rfl, ⟨rfl, ⟨rfl, ⟨rfl, ⟨rfl, trivial⟩⟩⟩⟩⟩ ?_
                exact j_wt30_b99 27 (by decide) (fun x5 x6 x7 S hk => ih x5 x6 x7 S hk) _ _ _ _ _ _ h
set_option maxRecDepth 10000 in
set_option maxHeartbeats 1000000 in
theorem j_wt30 {E : ri_E} (q : Nat) (hw : q = 18 ∨ q = 27) (a : Int32) (b : Int32) {S : ri_H} {Q : Int32 → ri_H → Prop} (h : w30 q a b S Q) : j_ri_A E 1 (ri_en 30 [.ref 1, .int a, .int b, .ref q]) S (Qi Q) := by
  rcases hw with rfl | rfl
  · unfold w30 at h
    show j_ri_A E 1 (30, 0, [some (.ref 1), some (.int a), some (.int b), some (.ref 18), none, none, none, none, none], []) S (Qi Q)
    refine j_A_call (j := 98) (As := [.ref 3, .int ((a * (4 : Int32)) + b)]) (fr' := (30, 12, [some (.ref 1), some (.int a), some (.int b), some (.ref 18), none, none, none, none, none], [])) (S' := S) 8 rfl (e := 0) (by omega) (j_sp_item 3 24 _ ⟨by decide, by decide, rfl⟩ (by decide) ?_)
    refine j_A_call (j := 98) (As := [.ref 3, .int (((a * (4 : Int32)) + b) + (1 : Int32))]) (fr' := (30, 28, [some (.ref 1), some (.int a), some (.int b), some (.ref 18), some (.int (it (S.1 3) 24 ((a * (4 : Int32)) + b))), none, none, none, none], [])) (S' := S) 11 rfl (e := 0) (by omega) (j_sp_item 3 24 _ ⟨by decide, by decide, rfl⟩ (by decide) ?_)
    refine j_A_nx 5 (fr' := (30, 37, [some (.ref 1), some (.int a), some (.int b), some (.ref 18), some (.int (it (S.1 3) 24 ((a * (4 : Int32)) + b))), some (.int (it (S.1 3) 24 (((a * (4 : Int32)) + b) + (1 : Int32)))), some (.int (0 : Int32)), some (.int (it (S.1 3) 24 ((a * (4 : Int32)) + b))), none], [])) (S' := S) rfl ?_
    refine j_ri_A.less (m := 30) (pc := 37) (L := [some (.ref 1), some (.int a), some (.int b), some (.ref 18), some (.int (it (S.1 3) 24 ((a * (4 : Int32)) + b))), some (.int (it (S.1 3) 24 (((a * (4 : Int32)) + b) + (1 : Int32)))), some (.int (0 : Int32)), some (.int (it (S.1 3) 24 ((a * (4 : Int32)) + b))), none]) (L' := [some (.ref 1), none, none, some (.ref 18), none, some (.int (it (S.1 3) 24 (((a * (4 : Int32)) + b) + (1 : Int32)))), some (.int (0 : Int32)), some (.int (it (S.1 3) 24 ((a * (4 : Int32)) + b))), none]) (st := []) ⟨rfl, ⟨rfl, ⟨rfl, ⟨rfl, ⟨rfl, trivial⟩⟩⟩⟩⟩ ?_
    obtain ⟨nn, h⟩ := h
    exact j_wt30_l37 18 (by decide)  nn _ _ _ _ h
  · unfold w30 at h
    show j_ri_A E 1 (30, 0, [some (.ref 1), some (.int a), some (.int b), some (.ref 27), none, none, none, none, none], []) S (Qi Q)
    refine j_A_call (j := 98) (As := [.ref 3, .int ((a * (4 : Int32)) + b)]) (fr' := (30, 12, [some (.ref 1), some (.int a), some (.int b), some (.ref 27), none, none, none, none, none], [])) (S' := S) 8 rfl (e := 0) (by omega) (j_sp_item 3 24 _ ⟨by decide, by decide, rfl⟩ (by decide) ?_)
    refine j_A_call (j := 98) (As := [.ref 3, .int (((a * (4 : Int32)) + b) + (1 : Int32))]) (fr' := (30, 28, [some (.ref 1), some (.int a), some (.int b), some (.ref 27), some (.int (it (S.1 3) 24 ((a * (4 : Int32)) + b))), none, none, none, none], [])) (S' := S) 11 rfl (e := 0) (by omega) (j_sp_item 3 24 _ ⟨by decide, by decide, rfl⟩ (by decide) ?_)
    refine j_A_nx 5 (fr' := (30, 37, [some (.ref 1), some (.int a), some (.int b), some (.ref 27), some (.int (it (S.1 3) 24 ((a * (4 : Int32)) + b))), some (.int (it (S.1 3) 24 (((a * (4 : Int32)) + b) + (1 : Int32)))), some (.int (0 : Int32)), some (.int (it (S.1 3) 24 ((a * (4 : Int32)) + b))), none], [])) (S' := S) rfl ?_
    refine j_ri_A.less (m := 30) (pc := 37) (L := [some (.ref 1), some (.int a), some (.int b), some (.ref 27), some (.int (it (S.1 3) 24 ((a * (4 : Int32)) + b))), some (.int (it (S.1 3) 24 (((a * (4 : Int32)) + b) + (1 : Int32)))), some (.int (0 : Int32)), some (.int (it (S.1 3) 24 ((a * (4 : Int32)) + b))), none]) (L' := [some (.ref 1), none, none, some (.ref 27), none, some (.int (it (S.1 3) 24 (((a * (4 : Int32)) + b) + (1 : Int32)))), some (.int (0 : Int32)), some (.int (it (S.1 3) 24 ((a * (4 : Int32)) + b))), none]) (st := []) ⟨rfl, ⟨rfl, ⟨rfl, ⟨rfl, ⟨rfl, trivial⟩⟩⟩⟩⟩ ?_
    obtain ⟨nn, h⟩ := h
    exact j_wt30_l37 27 (by decide)  nn _ _ _ _ h
set_option maxRecDepth 10000 in
set_option maxHeartbeats 1000000 in
theorem j_wt33 {E : ri_E} (w : Nat) (o : Nat) (hw : w = 10 ∧ o = 28 ∨ w = 19 ∧ o = 10 ∨ w = 28 ∧ o = 10)  {S : ri_H} {Q : ri_H → Prop} (h : w33 w o  S Q) : j_ri_A E 1 (ri_en 33 [.ref w, .ref o]) S (Qv Q) := by
  rcases hw with ⟨rfl, rfl⟩ | ⟨rfl, rfl⟩ | ⟨rfl, rfl⟩
  · unfold w33 at h
    show j_ri_A E 1 (33, 0, [some (.ref 10), some (.ref 28)], []) S (Qv Q)
    refine j_A_call (j := 101) (As := [.ref 29, .ref 11]) (fr' := (33, 11, [some (.ref 10), some (.ref 28)], [])) (S' := S) 5 rfl (e := 0) (by omega) (j_sp_copyRow 29 11 24 ⟨by decide, by decide, rfl⟩ ⟨by decide, by decide, rfl⟩ (by decide) (by decide) ?_)
    refine j_A_call (j := 101) (As := [.ref 30, .ref 12]) (fr' := (33, 22, [some (.ref 10), some (.ref 28)], [])) (S' := (ri_wr S 11 (cpr 24 (S.1 29) (S.1 11)))) 5 rfl (e := 0) (by omega) (j_sp_copyRow 30 12 24 ⟨by decide, by decide, rfl⟩ ⟨by decide, by decide, rfl⟩ (by decide) (by decide) ?_)
    refine j_A_call (j := 101) (As := [.ref 31, .ref 13]) (fr' := (33, 33, [some (.ref 10), some (.ref 28)], [])) (S' := (ri_wr (ri_wr S 11 (cpr 24 (S.1 29) (S.1 11))) 12 (cpr 24 (S.1 30) (S.1 12)))) 5 rfl (e := 0) (by omega) (j_sp_copyRow 31 13 5 ⟨by decide, by decide, rfl⟩ ⟨by decide, by decide, rfl⟩ (by decide) (by decide) ?_)
    refine j_A_call (j := 101) (As := [.ref 32, .ref 14]) (fr' := (33, 44, [some (.ref 10), some (.ref 28)], [])) (S' := (ri_wr (ri_wr (ri_wr S 11 (cpr 24 (S.1 29) (S.1 11))) 12 (cpr 24 (S.1 30) (S.1 12))) 13 (cpr 5 (S.1 31) (S.1 13)))) 5 rfl (e := 0) (by omega) (j_sp_copyRow 32 14 5 ⟨by decide, by decide, rfl⟩ ⟨by decide, by decide, rfl⟩ (by decide) (by decide) ?_)
    refine j_A_call (j := 101) (As := [.ref 33, .ref 15]) (fr' := (33, 55, [some (.ref 10), some (.ref 28)], [])) (S' := (ri_wr (ri_wr (ri_wr (ri_wr S 11 (cpr 24 (S.1 29) (S.1 11))) 12 (cpr 24 (S.1 30) (S.1 12))) 13 (cpr 5 (S.1 31) (S.1 13))) 14 (cpr 5 (S.1 32) (S.1 14)))) 5 rfl (e := 0) (by omega) (j_sp_copyRow 33 15 5 ⟨by decide, by decide, rfl⟩ ⟨by decide, by decide, rfl⟩ (by decide) (by decide) ?_)
    refine j_A_call (j := 101) (As := [.ref 34, .ref 16]) (fr' := (33, 66, [some (.ref 10), some (.ref 28)], [])) (S' := (ri_wr (ri_wr (ri_wr (ri_wr (ri_wr S 11 (cpr 24 (S.1 29) (S.1 11))) 12 (cpr 24 (S.1 30) (S.1 12))) 13 (cpr 5 (S.1 31) (S.1 13))) 14 (cpr 5 (S.1 32) (S.1 14))) 15 (cpr 5 (S.1 33) (S.1 15)))) 5 rfl (e := 0) (by omega) (j_sp_copyRow 34 16 5 ⟨by decide, by decide, rfl⟩ ⟨by decide, by decide, rfl⟩ (by decide) (by decide) ?_)
    refine j_A_call (j := 101) (As := [.ref 35, .ref 17]) (fr' := (33, 77, [some (.ref 10), some (.ref 28)], [])) (S' := (ri_wr (ri_wr (ri_wr (ri_wr (ri_wr (ri_wr S 11 (cpr 24 (S.1 29) (S.1 11))) 12 (cpr 24 (S.1 30) (S.1 12))) 13 (cpr 5 (S.1 31) (S.1 13))) 14 (cpr 5 (S.1 32) (S.1 14))) 15 (cpr 5 (S.1 33) (S.1 15))) 16 (cpr 5 (S.1 34) (S.1 16)))) 5 rfl (e := 0) (by omega) (j_sp_copyRow 35 17 5 ⟨by decide, by decide, rfl⟩ ⟨by decide, by decide, rfl⟩ (by decide) (by decide) ?_)
    exact j_A_ret 13 (m := 33) (v := none) (S' := (ri_wi (ri_wi (ri_wi (ri_wr (ri_wr (ri_wr (ri_wr (ri_wr (ri_wr (ri_wr S 11 (cpr 24 (S.1 29) (S.1 11))) 12 (cpr 24 (S.1 30) (S.1 12))) 13 (cpr 5 (S.1 31) (S.1 13))) 14 (cpr 5 (S.1 32) (S.1 14))) 15 (cpr 5 (S.1 33) (S.1 15))) 16 (cpr 5 (S.1 34) (S.1 16))) 17 (cpr 5 (S.1 35) (S.1 17))) 10 9 (S.1 28 9)) 10 10 (S.1 28 10)) 10 11 (S.1 28 11))) rfl rfl ⟨rfl, h⟩
  · unfold w33 at h
    show j_ri_A E 1 (33, 0, [some (.ref 19), some (.ref 10)], []) S (Qv Q)
    refine j_A_call (j := 101) (As := [.ref 11, .ref 20]) (fr' := (33, 11, [some (.ref 19), some (.ref 10)], [])) (S' := S) 5 rfl (e := 0) (by omega) (j_sp_copyRow 11 20 24 ⟨by decide, by decide, rfl⟩ ⟨by decide, by decide, rfl⟩ (by decide) (by decide) ?_)
    refine j_A_call (j := 101) (As := [.ref 12, .ref 21]) (fr' := (33, 22, [some (.ref 19), some (.ref 10)], [])) (S' := (ri_wr S 20 (cpr 24 (S.1 11) (S.1 20)))) 5 rfl (e := 0) (by omega) (j_sp_copyRow 12 21 24 ⟨by decide, by decide, rfl⟩ ⟨by decide, by decide, rfl⟩ (by decide) (by decide) ?_)
    refine j_A_call (j := 101) (As := [.ref 13, .ref 22]) (fr' := (33, 33, [some (.ref 19), some (.ref 10)], [])) (S' := (ri_wr (ri_wr S 20 (cpr 24 (S.1 11) (S.1 20))) 21 (cpr 24 (S.1 12) (S.1 21)))) 5 rfl (e := 0) (by omega) (j_sp_copyRow 13 22 5 ⟨by decide, by decide, rfl⟩ ⟨by decide, by decide, rfl⟩ (by decide) (by decide) ?_)
    refine j_A_call (j := 101) (As := [.ref 14, .ref 23]) (fr' := (33, 44, [some (.ref 19), some (.ref 10)], [])) (S' := (ri_wr (ri_wr (ri_wr S 20 (cpr 24 (S.1 11) (S.1 20))) 21 (cpr 24 (S.1 12) (S.1 21))) 22 (cpr 5 (S.1 13) (S.1 22)))) 5 rfl (e := 0) (by omega) (j_sp_copyRow 14 23 5 ⟨by decide, by decide, rfl⟩ ⟨by decide, by decide, rfl⟩ (by decide) (by decide) ?_)
    refine j_A_call (j := 101) (As := [.ref 15, .ref 24]) (fr' := (33, 55, [some (.ref 19), some (.ref 10)], [])) (S' := (ri_wr (ri_wr (ri_wr (ri_wr S 20 (cpr 24 (S.1 11) (S.1 20))) 21 (cpr 24 (S.1 12) (S.1 21))) 22 (cpr 5 (S.1 13) (S.1 22))) 23 (cpr 5 (S.1 14) (S.1 23)))) 5 rfl (e := 0) (by omega) (j_sp_copyRow 15 24 5 ⟨by decide, by decide, rfl⟩ ⟨by decide, by decide, rfl⟩ (by decide) (by decide) ?_)
    refine j_A_call (j := 101) (As := [.ref 16, .ref 25]) (fr' := (33, 66, [some (.ref 19), some (.ref 10)], [])) (S' := (ri_wr (ri_wr (ri_wr (ri_wr (ri_wr S 20 (cpr 24 (S.1 11) (S.1 20))) 21 (cpr 24 (S.1 12) (S.1 21))) 22 (cpr 5 (S.1 13) (S.1 22))) 23 (cpr 5 (S.1 14) (S.1 23))) 24 (cpr 5 (S.1 15) (S.1 24)))) 5 rfl (e := 0) (by omega) (j_sp_copyRow 16 25 5 ⟨by decide, by decide, rfl⟩ ⟨by decide, by decide, rfl⟩ (by decide) (by decide) ?_)
    refine j_A_call (j := 101) (As := [.ref 17, .ref 26]) (fr' := (33, 77, [some (.ref 19), some (.ref 10)], [])) (S' := (ri_wr (ri_wr (ri_wr (ri_wr (ri_wr (ri_wr S 20 (cpr 24 (S.1 11) (S.1 20))) 21 (cpr 24 (S.1 12) (S.1 21))) 22 (cpr 5 (S.1 13) (S.1 22))) 23 (cpr 5 (S.1 14) (S.1 23))) 24 (cpr 5 (S.1 15) (S.1 24))) 25 (cpr 5 (S.1 16) (S.1 25)))) 5 rfl (e := 0) (by omega) (j_sp_copyRow 17 26 5 ⟨by decide, by decide, rfl⟩ ⟨by decide, by decide, rfl⟩ (by decide) (by decide) ?_)
    exact j_A_ret 13 (m := 33) (v := none) (S' := (ri_wi (ri_wi (ri_wi (ri_wr (ri_wr (ri_wr (ri_wr (ri_wr (ri_wr (ri_wr S 20 (cpr 24 (S.1 11) (S.1 20))) 21 (cpr 24 (S.1 12) (S.1 21))) 22 (cpr 5 (S.1 13) (S.1 22))) 23 (cpr 5 (S.1 14) (S.1 23))) 24 (cpr 5 (S.1 15) (S.1 24))) 25 (cpr 5 (S.1 16) (S.1 25))) 26 (cpr 5 (S.1 17) (S.1 26))) 19 9 (S.1 10 9)) 19 10 (S.1 10 10)) 19 11 (S.1 10 11))) rfl rfl ⟨rfl, h⟩
  · unfold w33 at h
    show j_ri_A E 1 (33, 0, [some (.ref 28), some (.ref 10)], []) S (Qv Q)
    refine j_A_call (j := 101) (As := [.ref 11, .ref 29]) (fr' := (33, 11, [some (.ref 28), some (.ref 10)], [])) (S' := S) 5 rfl (e := 0) (by omega) (j_sp_copyRow 11 29 24 ⟨by decide, by decide, rfl⟩ ⟨by decide, by decide, rfl⟩ (by decide) (by decide) ?_)
    refine j_A_call (j := 101) (As := [.ref 12, .ref 30]) (fr' := (33, 22, [some (.ref 28), some (.ref 10)], [])) (S' := (ri_wr S 29 (cpr 24 (S.1 11) (S.1 29)))) 5 rfl (e := 0) (by omega) (j_sp_copyRow 12 30 24 ⟨by decide, by decide, rfl⟩ ⟨by decide, by decide, rfl⟩ (by decide) (by decide) ?_)
    refine j_A_call (j := 101) (As := [.ref 13, .ref 31]) (fr' := (33, 33, [some (.ref 28), some (.ref 10)], [])) (S' := (ri_wr (ri_wr S 29 (cpr 24 (S.1 11) (S.1 29))) 30 (cpr 24 (S.1 12) (S.1 30)))) 5 rfl (e := 0) (by omega) (j_sp_copyRow 13 31 5 ⟨by decide, by decide, rfl⟩ ⟨by decide, by decide, rfl⟩ (by decide) (by decide) ?_)
    refine j_A_call (j := 101) (As := [.ref 14, .ref 32]) (fr' := (33, 44, [some (.ref 28), some (.ref 10)], [])) (S' := (ri_wr (ri_wr (ri_wr S 29 (cpr 24 (S.1 11) (S.1 29))) 30 (cpr 24 (S.1 12) (S.1 30))) 31 (cpr 5 (S.1 13) (S.1 31)))) 5 rfl (e := 0) (by omega) (j_sp_copyRow 14 32 5 ⟨by decide, by decide, rfl⟩ ⟨by decide, by decide, rfl⟩ (by decide) (by decide) ?_)
    refine j_A_call (j := 101) (As := [.ref 15, .ref 33]) (fr' := (33, 55, [some (.ref 28), some (.ref 10)], [])) (S' := (ri_wr (ri_wr (ri_wr (ri_wr S 29 (cpr 24 (S.1 11) (S.1 29))) 30 (cpr 24 (S.1 12) (S.1 30))) 31 (cpr 5 (S.1 13) (S.1 31))) 32 (cpr 5 (S.1 14) (S.1 32)))) 5 rfl (e := 0) (by omega) (j_sp_copyRow 15 33 5 ⟨by decide, by decide, rfl⟩ ⟨by decide, by decide, rfl⟩ (by decide) (by decide) ?_)
    refine j_A_call (j := 101) (As := [.ref 16, .ref 34]) (fr' := (33, 66, [some (.ref 28), some (.ref 10)], [])) (S' := (ri_wr (ri_wr (ri_wr (ri_wr (ri_wr S 29 (cpr 24 (S.1 11) (S.1 29))) 30 (cpr 24 (S.1 12) (S.1 30))) 31 (cpr 5 (S.1 13) (S.1 31))) 32 (cpr 5 (S.1 14) (S.1 32))) 33 (cpr 5 (S.1 15) (S.1 33)))) 5 rfl (e := 0) (by omega) (j_sp_copyRow 16 34 5 ⟨by decide, by decide, rfl⟩ ⟨by decide, by decide, rfl⟩ (by decide) (by decide) ?_)
    refine j_A_call (j := 101) (As := [.ref 17, .ref 35]) (fr' := (33, 77, [some (.ref 28), some (.ref 10)], [])) (S' := (ri_wr (ri_wr (ri_wr (ri_wr (ri_wr (ri_wr S 29 (cpr 24 (S.1 11) (S.1 29))) 30 (cpr 24 (S.1 12) (S.1 30))) 31 (cpr 5 (S.1 13) (S.1 31))) 32 (cpr 5 (S.1 14) (S.1 32))) 33 (cpr 5 (S.1 15) (S.1 33))) 34 (cpr 5 (S.1 16) (S.1 34)))) 5 rfl (e := 0) (by omega) (j_sp_copyRow 17 35 5 ⟨by decide, by decide, rfl⟩ ⟨by decide, by decide, rfl⟩ (by decide) (by decide) ?_)
    exact j_A_ret 13 (m := 33) (v := none) (S' := (ri_wi (ri_wi (ri_wi (ri_wr (ri_wr (ri_wr (ri_wr (ri_wr (ri_wr (ri_wr S 29 (cpr 24 (S.1 11) (S.1 29))) 30 (cpr 24 (S.1 12) (S.1 30))) 31 (cpr 5 (S.1 13) (S.1 31))) 32 (cpr 5 (S.1 14) (S.1 32))) 33 (cpr 5 (S.1 15) (S.1 33))) 34 (cpr 5 (S.1 16) (S.1 34))) 35 (cpr 5 (S.1 17) (S.1 35))) 28 9 (S.1 10 9)) 28 10 (S.1 10 10)) 28 11 (S.1 10 11))) rfl rfl ⟨rfl, h⟩
set_option maxRecDepth 10000 in
set_option maxHeartbeats 1000000 in
theorem j_wt35 {E : ri_E} (w : Nat) (hw : w = 10 ∨ w = 19) (a : Int32) (b : Int32) (g : Int32) {S : ri_H} {Q : Int32 → ri_H → Prop} (h : w35 w a b g S Q) : j_ri_A E 1 (ri_en 35 [.ref w, .int a, .int b, .int g]) S (Qi Q) := by
  rcases hw with rfl | rfl
  · unfold w35 at h
    show j_ri_A E 1 (35, 0, [some (.ref 10), some (.int a), some (.int b), some (.int g), none], []) S (Qi Q)
    refine j_A_br ((S.1 10 9) < (5 : Int32)) (r1 := ((35, 11, [some (.ref 10), some (.int a), some (.int b), some (.int g), none], []), S)) (r2 := ((35, 8, [some (.ref 10), some (.int a), some (.int b), some (.int g), none], []), S)) 4 rfl (fun c => ?_) (fun c => ?_)
    · have h := h.1 c
      refine j_A_call (j := 99) (As := [.ref 13, .int (S.1 10 9), .int a]) (fr' := (35, 27, [some (.ref 10), some (.int a), some (.int b), some (.int g), some (.int (S.1 10 9))], [])) (S' := S) 8 rfl (e := 0) (by omega) (j_sp_putItem 13 5 _ _ ⟨by decide, by decide, rfl⟩ (by decide) ?_)
      refine j_A_call (j := 99) (As := [.ref 14, .int (S.1 10 9), .int b]) (fr' := (35, 37, [some (.ref 10), some (.int a), some (.int b), some (.int g), some (.int (S.1 10 9))], [])) (S' := (ri_wr S 13 (pu 5 (S.1 13) (S.1 10 9) a))) 5 rfl (e := 0) (by omega) (j_sp_putItem 14 5 _ _ ⟨by decide, by decide, rfl⟩ (by decide) ?_)
      refine j_A_call (j := 99) (As := [.ref 15, .int (S.1 10 9), .int g]) (fr' := (35, 47, [some (.ref 10), some (.int a), some (.int b), some (.int g), some (.int (S.1 10 9))], [])) (S' := (ri_wr (ri_wr S 13 (pu 5 (S.1 13) (S.1 10 9) a)) 14 (pu 5 (S.1 14) (S.1 10 9) b))) 5 rfl (e := 0) (by omega) (j_sp_putItem 15 5 _ _ ⟨by decide, by decide, rfl⟩ (by decide) ?_)
      refine j_A_call (j := 99) (As := [.ref 16, .int (S.1 10 9), .int (0 : Int32)]) (fr' := (35, 57, [some (.ref 10), some (.int a), some (.int b), some (.int g), some (.int (S.1 10 9))], [])) (S' := (ri_wr (ri_wr (ri_wr S 13 (pu 5 (S.1 13) (S.1 10 9) a)) 14 (pu 5 (S.1 14) (S.1 10 9) b)) 15 (pu 5 (S.1 15) (S.1 10 9) g))) 5 rfl (e := 0) (by omega) (j_sp_putItem 16 5 _ _ ⟨by decide, by decide, rfl⟩ (by decide) ?_)
      refine j_A_call (j := 99) (As := [.ref 17, .int (S.1 10 9), .int (0 : Int32)]) (fr' := (35, 67, [some (.ref 10), some (.int a), some (.int b), some (.int g), some (.int (S.1 10 9))], [])) (S' := (ri_wr (ri_wr (ri_wr (ri_wr S 13 (pu 5 (S.1 13) (S.1 10 9) a)) 14 (pu 5 (S.1 14) (S.1 10 9) b)) 15 (pu 5 (S.1 15) (S.1 10 9) g)) 16 (pu 5 (S.1 16) (S.1 10 9) (0 : Int32)))) 5 rfl (e := 0) (by omega) (j_sp_putItem 17 5 _ _ ⟨by decide, by decide, rfl⟩ (by decide) ?_)
      exact j_A_ret 8 (m := 35) (v := some (.int (S.1 10 9))) (S' := (ri_wi (ri_wr (ri_wr (ri_wr (ri_wr (ri_wr S 13 (pu 5 (S.1 13) (S.1 10 9) a)) 14 (pu 5 (S.1 14) (S.1 10 9) b)) 15 (pu 5 (S.1 15) (S.1 10 9) g)) 16 (pu 5 (S.1 16) (S.1 10 9) (0 : Int32))) 17 (pu 5 (S.1 17) (S.1 10 9) (0 : Int32))) 10 9 ((S.1 10 9) + (1 : Int32)))) rfl rfl ⟨_, rfl, h⟩
    · have h := h.2 c
      exact j_A_ret 2 (m := 35) (v := some (.int (-4 : Int32))) (S' := S) rfl rfl ⟨_, rfl, h⟩
  · unfold w35 at h
    show j_ri_A E 1 (35, 0, [some (.ref 19), some (.int a), some (.int b), some (.int g), none], []) S (Qi Q)
    refine j_A_br ((S.1 19 9) < (5 : Int32)) (r1 := ((35, 11, [some (.ref 19), some (.int a), some (.int b), some (.int g), none], []), S)) (r2 := ((35, 8, [some (.ref 19), some (.int a), some (.int b), some (.int g), none], []), S)) 4 rfl (fun c => ?_) (fun c => ?_)
    · have h := h.1 c
      refine j_A_call (j := 99) (As := [.ref 22, .int (S.1 19 9), .int a]) (fr' := (35, 27, [some (.ref 19), some (.int a), some (.int b), some (.int g), some (.int (S.1 19 9))], [])) (S' := S) 8 rfl (e := 0) (by omega) (j_sp_putItem 22 5 _ _ ⟨by decide, by decide, rfl⟩ (by decide) ?_)
      refine j_A_call (j := 99) (As := [.ref 23, .int (S.1 19 9), .int b]) (fr' := (35, 37, [some (.ref 19), some (.int a), some (.int b), some (.int g), some (.int (S.1 19 9))], [])) (S' := (ri_wr S 22 (pu 5 (S.1 22) (S.1 19 9) a))) 5 rfl (e := 0) (by omega) (j_sp_putItem 23 5 _ _ ⟨by decide, by decide, rfl⟩ (by decide) ?_)
      refine j_A_call (j := 99) (As := [.ref 24, .int (S.1 19 9), .int g]) (fr' := (35, 47, [some (.ref 19), some (.int a), some (.int b), some (.int g), some (.int (S.1 19 9))], [])) (S' := (ri_wr (ri_wr S 22 (pu 5 (S.1 22) (S.1 19 9) a)) 23 (pu 5 (S.1 23) (S.1 19 9) b))) 5 rfl (e := 0) (by omega) (j_sp_putItem 24 5 _ _ ⟨by decide, by decide, rfl⟩ (by decide) ?_)
      refine j_A_call (j := 99) (As := [.ref 25, .int (S.1 19 9), .int (0 : Int32)]) (fr' := (35, 57, [some (.ref 19), some (.int a), some (.int b), some (.int g), some (.int (S.1 19 9))], [])) (S' := (ri_wr (ri_wr (ri_wr S 22 (pu 5 (S.1 22) (S.1 19 9) a)) 23 (pu 5 (S.1 23) (S.1 19 9) b)) 24 (pu 5 (S.1 24) (S.1 19 9) g))) 5 rfl (e := 0) (by omega) (j_sp_putItem 25 5 _ _ ⟨by decide, by decide, rfl⟩ (by decide) ?_)
      refine j_A_call (j := 99) (As := [.ref 26, .int (S.1 19 9), .int (0 : Int32)]) (fr' := (35, 67, [some (.ref 19), some (.int a), some (.int b), some (.int g), some (.int (S.1 19 9))], [])) (S' := (ri_wr (ri_wr (ri_wr (ri_wr S 22 (pu 5 (S.1 22) (S.1 19 9) a)) 23 (pu 5 (S.1 23) (S.1 19 9) b)) 24 (pu 5 (S.1 24) (S.1 19 9) g)) 25 (pu 5 (S.1 25) (S.1 19 9) (0 : Int32)))) 5 rfl (e := 0) (by omega) (j_sp_putItem 26 5 _ _ ⟨by decide, by decide, rfl⟩ (by decide) ?_)
      exact j_A_ret 8 (m := 35) (v := some (.int (S.1 19 9))) (S' := (ri_wi (ri_wr (ri_wr (ri_wr (ri_wr (ri_wr S 22 (pu 5 (S.1 22) (S.1 19 9) a)) 23 (pu 5 (S.1 23) (S.1 19 9) b)) 24 (pu 5 (S.1 24) (S.1 19 9) g)) 25 (pu 5 (S.1 25) (S.1 19 9) (0 : Int32))) 26 (pu 5 (S.1 26) (S.1 19 9) (0 : Int32))) 19 9 ((S.1 19 9) + (1 : Int32)))) rfl rfl ⟨_, rfl, h⟩
    · have h := h.2 c
      exact j_A_ret 2 (m := 35) (v := some (.int (-4 : Int32))) (S' := S) rfl rfl ⟨_, rfl, h⟩
set_option maxRecDepth 10000 in
set_option maxHeartbeats 1000000 in
theorem j_wt36_b31 {E : ri_E} (w : Nat) (hw : w = 10 ∨ w = 19) {K4 : Int32 → Int32 → Int32 → ri_H → Prop} {Q : Int32 → ri_H → Prop} (hK4 : ∀ (x1 : Int32) (x2 : Int32) (x3 : Int32) (S : ri_H), K4 x1 x2 x3 S → j_ri_A E 2 (36, 4, [some (.ref w), some (.int x1), some (.int x2), some (.int x3)], []) S (Qi Q)) (x1 : Int32) (x2 : Int32) (x3 : Int32) (S : ri_H) (h : w36_b31 w K4 Q x1 x2 x3 S) : j_ri_A E 2 (36, 31, [some (.ref w), some (.int x1), some (.int x2), some (.int x3)], []) S (Qi Q) := by
  rcases hw with rfl | rfl
  · unfold w36_b31 at h
    refine j_A_nx 2 (fr' := (36, 4, [some (.ref 10), some (.int x1), some (.int x2), some (.int (x3 + (1 : Int32)))], [])) (S' := S) rfl ?_
    refine j_ri_A.less (m := 36) (pc := 4) (L := [some (.ref 10), some (.int x1), some (.int x2), some (.int (x3 + (1 : Int32)))]) (L' := [some (.ref 10), some (.int x1), some (.int x2), some (.int (x3 + (1 : Int32)))]) (st := []) ⟨rfl, ⟨rfl, ⟨rfl, ⟨rfl, trivial⟩⟩⟩⟩ ?_
    exact hK4 _ _ _ _ h
  · unfold w36_b31 at h
    refine j_A_nx 2 (fr' := (36, 4, [some (.ref 19), some (.int x1), some (.int x2), some (.int (x3 + (1 : Int32)))], [])) (S' := S) rfl ?_
    refine j_ri_A.less (m := 36) (pc := 4) (L := [some (.ref 19), some (.int x1), some (.int x2), some (.int (x3 + (1 : Int32)))]) (L' := [some (.ref 19), some (.int x1), some (.int x2), some (.int (x3 + (1 : Int32)))]) (st := []) ⟨rfl, ⟨rfl, ⟨rfl, ⟨rfl, trivial⟩⟩⟩⟩ ?_
    exact hK4 _ _ _ _ h
set_option maxRecDepth 10000 in
set_option maxHeartbeats 1000000 in
theorem j_wt36_l4 {E : ri_E} (w : Nat) (hw : w = 10 ∨ w = 19) {Q : Int32 → ri_H → Prop} : ∀ (n : Nat) (x1 : Int32) (x2 : Int32) (x3 : Int32) (S : ri_H), w36_l4 w  Q n x1 x2 x3 S → j_ri_A E 2 (36, 4, [some (.ref w), some (.int x1), some (.int x2), some (.int x3)], []) S (Qi Q) := by
  rcases hw with rfl | rfl
  · intro n
    induction n with
    | zero => intro x1 x2 x3 S h; exact h.elim
    | succ n ih =>
      intro x1 x2 x3 S h
      unfold w36_l4 at h
      refine j_A_br ((S.1 10 9) ≤ x3) (r1 := ((36, 37, [some (.ref 10), some (.int x1), some (.int x2), some (.int x3)], []), S)) (r2 := ((36, 12, [some (.ref 10), some (.int x1), some (.int x2), some (.int x3)], []), S)) 4 rfl (fun c => ?_) (fun c => ?_)
      · have h := h.1 c
        exact j_A_ret 2 (m := 36) (v := some (.int x2)) (S' := S) rfl rfl ⟨_, rfl, h⟩
      · have h := h.2 c
        refine j_A_call (j := 98) (As := [.ref 15, .int x3]) (fr' := (36, 20, [some (.ref 10), some (.int x1), some (.int x2), some (.int x3)], [])) (S' := S) 4 rfl (e := 0) (by omega) (j_sp_item 15 5 _ ⟨by decide, by decide, rfl⟩ (by decide) ?_)
        refine j_A_br (¬ (it (S.1 15) 5 x3) = x1) (r1 := ((36, 31, [some (.ref 10), some (.int x1), some (.int x2), some (.int x3)], []), S)) (r2 := ((36, 24, [some (.ref 10), some (.int x1), some (.int x2), some (.int x3)], []), S)) 2 rfl (fun c => ?_) (fun c => ?_)
        · have h := h.1 c
          refine j_ri_A.less (m := 36) (pc := 31) (L := [some (.ref 10), some (.int x1), some (.int x2), some (.int x3)]) (L' := [some (.ref 10), some (.int x1), some (.int x2), some (.int x3)]) (st := []) ⟨rfl, ⟨rfl, ⟨rfl, ⟨rfl, trivial⟩⟩⟩⟩ ?_
          exact j_wt36_b31 10 (by decide) (fun x1 x2 x3 S hk => ih x1 x2 x3 S hk) _ _ _ _ h
        · have h := h.2 c
          refine j_A_call (j := 97) (As := [.int x3]) (fr' := (36, 29, [some (.ref 10), some (.int x1), some (.int x2), some (.int x3)], [.int x2])) (S' := S) 3 rfl (e := 1) (by omega) (j_sp_bit _ ?_)
          refine j_A_nx 2 (fr' := (36, 31, [some (.ref 10), some (.int x1), some (.int (x2 ||| (bt x3))), some (.int x3)], [])) (S' := S) rfl ?_
          refine j_ri_A.less (m := 36) (pc := 31) (L := [some (.ref 10), some (.int x1), some (.int (x2 ||| (bt x3))), some (.int x3)]) (L' := [some (.ref 10), some (.int x1), some (.int (x2 ||| (bt x3))), some (.int x3)]) (st := []) ⟨rfl, ⟨rfl, ⟨rfl, ⟨rfl, trivial⟩⟩⟩⟩ ?_
          exact j_wt36_b31 10 (by decide) (fun x1 x2 x3 S hk => ih x1 x2 x3 S hk) _ _ _ _ h
  · intro n
    induction n with
    | zero => intro x1 x2 x3 S h; exact h.elim
    | succ n ih =>
      intro x1 x2 x3 S h
      unfold w36_l4 at h
      refine j_A_br ((S.1 19 9) ≤ x3) (r1 := ((36, 37, [some (.ref 19), some (.int x1), some (.int x2), some (.int x3)], []), S)) (r2 := ((36, 12, [some (.ref 19), some (.int x1), some (.int x2), some (.int x3)], []), S)) 4 rfl (fun c => ?_) (fun c => ?_)
      · have h := h.1 c
        exact j_A_ret 2 (m := 36) (v := some (.int x2)) (S' := S) rfl rfl ⟨_, rfl, h⟩
      · have h := h.2 c
        refine j_A_call (j := 98) (As := [.ref 24, .int x3]) (fr' := (36, 20, [some (.ref 19), some (.int x1), some (.int x2), some (.int x3)], [])) (S' := S) 4 rfl (e := 0) (by omega) (j_sp_item 24 5 _ ⟨by decide, by decide, rfl⟩ (by decide) ?_)
        refine j_A_br (¬ (it (S.1 24) 5 x3) = x1) (r1 := ((36, 31, [some (.ref 19), some (.int x1), some (.int x2), some (.int x3)], []), S)) (r2 := ((36, 24, [some (.ref 19), some (.int x1), some (.int x2), some (.int x3)], []), S)) 2 rfl (fun c => ?_) (fun c => ?_)
        · have h := h.1 c
          refine j_ri_A.less (m := 36) (pc := 31) (L := [some (.ref 19), some (.int x1), some (.int x2), some (.int x3)]) (L' := [some (.ref 19), some (.int x1), some (.int x2), some (.int x3)]) (st := []) ⟨rfl, ⟨rfl, ⟨rfl, ⟨rfl, trivial⟩⟩⟩⟩ ?_
          exact j_wt36_b31 19 (by decide) (fun x1 x2 x3 S hk => ih x1 x2 x3 S hk) _ _ _ _ h
        · have h := h.2 c
          refine j_A_call (j := 97) (As := [.int x3]) (fr' := (36, 29, [some (.ref 19), some (.int x1), some (.int x2), some (.int x3)], [.int x2])) (S' := S) 3 rfl (e := 1) (by omega) (j_sp_bit _ ?_)
          refine j_A_nx 2 (fr' := (36, 31, [some (.ref 19), some (.int x1), some (.int (x2 ||| (bt x3))), some (.int x3)], [])) (S' := S) rfl ?_
          refine j_ri_A.less (m := 36) (pc := 31) (L := [some (.ref 19), some (.int x1), some (.int (x2 ||| (bt x3))), some (.int x3)]) (L' := [some (.ref 19), some (.int x1), some (.int (x2 ||| (bt x3))), some (.int x3)]) (st := []) ⟨rfl, ⟨rfl, ⟨rfl, ⟨rfl, trivial⟩⟩⟩⟩ ?_
          exact j_wt36_b31 19 (by decide) (fun x1 x2 x3 S hk => ih x1 x2 x3 S hk) _ _ _ _ h
set_option maxRecDepth 10000 in
set_option maxHeartbeats 1000000 in
theorem j_wt36 {E : ri_E} (w : Nat) (hw : w = 10 ∨ w = 19) (a : Int32) {S : ri_H} {Q : Int32 → ri_H → Prop} (h : w36 w a S Q) : j_ri_A E 2 (ri_en 36 [.ref w, .int a]) S (Qi Q) := by
  rcases hw with rfl | rfl
  · unfold w36 at h
    show j_ri_A E 2 (36, 0, [some (.ref 10), some (.int a), none, none], []) S (Qi Q)
    refine j_A_nx 4 (fr' := (36, 4, [some (.ref 10), some (.int a), some (.int (0 : Int32)), some (.int (0 : Int32))], [])) (S' := S) rfl ?_
    refine j_ri_A.less (m := 36) (pc := 4) (L := [some (.ref 10), some (.int a), some (.int (0 : Int32)), some (.int (0 : Int32))]) (L' := [some (.ref 10), some (.int a), some (.int (0 : Int32)), some (.int (0 : Int32))]) (st := []) ⟨rfl, ⟨rfl, ⟨rfl, ⟨rfl, trivial⟩⟩⟩⟩ ?_
    obtain ⟨nn, h⟩ := h
    exact j_wt36_l4 10 (by decide)  nn _ _ _ _ h
  · unfold w36 at h
    show j_ri_A E 2 (36, 0, [some (.ref 19), some (.int a), none, none], []) S (Qi Q)
    refine j_A_nx 4 (fr' := (36, 4, [some (.ref 19), some (.int a), some (.int (0 : Int32)), some (.int (0 : Int32))], [])) (S' := S) rfl ?_
    refine j_ri_A.less (m := 36) (pc := 4) (L := [some (.ref 19), some (.int a), some (.int (0 : Int32)), some (.int (0 : Int32))]) (L' := [some (.ref 19), some (.int a), some (.int (0 : Int32)), some (.int (0 : Int32))]) (st := []) ⟨rfl, ⟨rfl, ⟨rfl, ⟨rfl, trivial⟩⟩⟩⟩ ?_
    obtain ⟨nn, h⟩ := h
    exact j_wt36_l4 19 (by decide)  nn _ _ _ _ h
set_option maxRecDepth 10000 in
set_option maxHeartbeats 1000000 in
theorem j_wt37_l4 {E : ri_E} (w : Nat) (hw : w = 10 ∨ w = 19) {Q : Int32 → ri_H → Prop} : ∀ (n : Nat) (x1 : Int32) (x2 : Int32) (S : ri_H), w37_l4 w  Q n x1 x2 S → j_ri_A E 0 (37, 4, [some (.ref w), some (.int x1), some (.int x2)], []) S (Qi Q) := by
  rcases hw with rfl | rfl
  · intro n
    induction n with
    | zero => intro x1 x2 S h; exact h.elim
    | succ n ih =>
      intro x1 x2 S h
      unfold w37_l4 at h
      refine j_A_br ((24 : Int32) ≤ x2) (r1 := ((37, 28, [some (.ref 10), some (.int x1), some (.int x2)], []), S)) (r2 := ((37, 13, [some (.ref 10), some (.int x1), some (.int x2)], []), S)) 5 rfl (fun c => ?_) (fun c => ?_)
      · have h := h.1 c
        exact j_A_ret 2 (m := 37) (v := some (.int x1)) (S' := S) rfl rfl ⟨_, rfl, h⟩
      · have h := h.2 c
        refine j_A_ix x2 24 (r1 := ((37, 20, [some (.ref 10), some (.int x1), some (.int x2)], [.int (S.1 12 (x2).toNatClampNeg), .int x1]), S)) 5 rfl h.1 ?_
        have h := h.2
        refine j_A_nx 4 (fr' := (37, 4, [some (.ref 10), some (.int (x1 + (S.1 12 (x2).toNatClampNeg))), some (.int (x2 + (1 : Int32)))], [])) (S' := S) rfl ?_
        refine j_ri_A.less (m := 37) (pc := 4) (L := [some (.ref 10), some (.int (x1 + (S.1 12 (x2).toNatClampNeg))), some (.int (x2 + (1 : Int32)))]) (L' := [some (.ref 10), some (.int (x1 + (S.1 12 (x2).toNatClampNeg))), some (.int (x2 + (1 : Int32)))]) (st := []) ⟨rfl, ⟨rfl, ⟨rfl, trivial⟩⟩⟩ ?_
        exact ih _ _ _ h
  · intro n
    induction n with
    | zero => intro x1 x2 S h; exact h.elim
    | succ n ih =>
      intro x1 x2 S h
      unfold w37_l4 at h
      refine j_A_br ((24 : Int32) ≤ x2) (r1 := ((37, 28, [some (.ref 19), some (.int x1), some (.int x2)], []), S)) (r2 := ((37, 13, [some (.ref 19), some (.int x1), some (.int x2)], []), S)) 5 rfl (fun c => ?_) (fun c => ?_)
      · have h := h.1 c
        exact j_A_ret 2 (m := 37) (v := some (.int x1)) (S' := S) rfl rfl ⟨_, rfl, h⟩
      · have h := h.2 c
        refine j_A_ix x2 24 (r1 := ((37, 20, [some (.ref 19), some (.int x1), some (.int x2)], [.int (S.1 21 (x2).toNatClampNeg), .int x1]), S)) 5 rfl h.1 ?_
        have h := h.2
        refine j_A_nx 4 (fr' := (37, 4, [some (.ref 19), some (.int (x1 + (S.1 21 (x2).toNatClampNeg))), some (.int (x2 + (1 : Int32)))], [])) (S' := S) rfl ?_
        refine j_ri_A.less (m := 37) (pc := 4) (L := [some (.ref 19), some (.int (x1 + (S.1 21 (x2).toNatClampNeg))), some (.int (x2 + (1 : Int32)))]) (L' := [some (.ref 19), some (.int (x1 + (S.1 21 (x2).toNatClampNeg))), some (.int (x2 + (1 : Int32)))]) (st := []) ⟨rfl, ⟨rfl, ⟨rfl, trivial⟩⟩⟩ ?_
        exact ih _ _ _ h
set_option maxRecDepth 10000 in
set_option maxHeartbeats 1000000 in
theorem j_wt37 {E : ri_E} (w : Nat) (hw : w = 10 ∨ w = 19)  {S : ri_H} {Q : Int32 → ri_H → Prop} (h : w37 w  S Q) : j_ri_A E 0 (ri_en 37 [.ref w]) S (Qi Q) := by
  rcases hw with rfl | rfl
  · unfold w37 at h
    show j_ri_A E 0 (37, 0, [some (.ref 10), none, none], []) S (Qi Q)
    refine j_A_nx 4 (fr' := (37, 4, [some (.ref 10), some (.int (0 : Int32)), some (.int (0 : Int32))], [])) (S' := S) rfl ?_
    refine j_ri_A.less (m := 37) (pc := 4) (L := [some (.ref 10), some (.int (0 : Int32)), some (.int (0 : Int32))]) (L' := [some (.ref 10), some (.int (0 : Int32)), some (.int (0 : Int32))]) (st := []) ⟨rfl, ⟨rfl, ⟨rfl, trivial⟩⟩⟩ ?_
    obtain ⟨nn, h⟩ := h
    exact j_wt37_l4 10 (by decide)  nn _ _ _ h
  · unfold w37 at h
    show j_ri_A E 0 (37, 0, [some (.ref 19), none, none], []) S (Qi Q)
    refine j_A_nx 4 (fr' := (37, 4, [some (.ref 19), some (.int (0 : Int32)), some (.int (0 : Int32))], [])) (S' := S) rfl ?_
    refine j_ri_A.less (m := 37) (pc := 4) (L := [some (.ref 19), some (.int (0 : Int32)), some (.int (0 : Int32))]) (L' := [some (.ref 19), some (.int (0 : Int32)), some (.int (0 : Int32))]) (st := []) ⟨rfl, ⟨rfl, ⟨rfl, trivial⟩⟩⟩ ?_
    obtain ⟨nn, h⟩ := h
    exact j_wt37_l4 19 (by decide)  nn _ _ _ h
set_option maxRecDepth 10000 in
set_option maxHeartbeats 1000000 in
theorem j_wt44 {E : ri_E} (w : Nat) (hw : w = 10 ∨ w = 19) (a : Int32) {S : ri_H} {Q : Int32 → ri_H → Prop} (h : w44 w a S Q) : j_ri_A E 1 (ri_en 44 [.ref w, .int a]) S (Qi Q) := by
  rcases hw with rfl | rfl
  · unfold w44 at h
    show j_ri_A E 1 (44, 0, [some (.ref 10), some (.int a)], []) S (Qi Q)
    refine j_A_call (j := 98) (As := [.ref 12, .int ((2 : Int32) * a)]) (fr' := (44, 10, [some (.ref 10), some (.int a)], [])) (S' := S) 6 rfl (e := 0) (by omega) (j_sp_item 12 24 _ ⟨by decide, by decide, rfl⟩ (by decide) ?_)
    refine j_A_call (j := 98) (As := [.ref 12, .int (((2 : Int32) * a) + (1 : Int32))]) (fr' := (44, 22, [some (.ref 10), some (.int a)], [.int (it (S.1 12) 24 ((2 : Int32) * a))])) (S' := S) 8 rfl (e := 0) (by omega) (j_sp_item 12 24 _ ⟨by decide, by decide, rfl⟩ (by decide) ?_)
    exact j_A_ret 2 (m := 44) (v := some (.int ((it (S.1 12) 24 ((2 : Int32) * a)) + (it (S.1 12) 24 (((2 : Int32) * a) + (1 : Int32)))))) (S' := S) rfl rfl ⟨_, rfl, h⟩
  · unfold w44 at h
    show j_ri_A E 1 (44, 0, [some (.ref 19), some (.int a)], []) S (Qi Q)
    refine j_A_call (j := 98) (As := [.ref 21, .int ((2 : Int32) * a)]) (fr' := (44, 10, [some (.ref 19), some (.int a)], [])) (S' := S) 6 rfl (e := 0) (by omega) (j_sp_item 21 24 _ ⟨by decide, by decide, rfl⟩ (by decide) ?_)
    refine j_A_call (j := 98) (As := [.ref 21, .int (((2 : Int32) * a) + (1 : Int32))]) (fr' := (44, 22, [some (.ref 19), some (.int a)], [.int (it (S.1 21) 24 ((2 : Int32) * a))])) (S' := S) 8 rfl (e := 0) (by omega) (j_sp_item 21 24 _ ⟨by decide, by decide, rfl⟩ (by decide) ?_)
    exact j_A_ret 2 (m := 44) (v := some (.int ((it (S.1 21) 24 ((2 : Int32) * a)) + (it (S.1 21) 24 (((2 : Int32) * a) + (1 : Int32)))))) (S' := S) rfl rfl ⟨_, rfl, h⟩
set_option maxRecDepth 10000 in
set_option maxHeartbeats 1000000 in
theorem j_wt45 {E : ri_E} (w : Nat) (hw : w = 10 ∨ w = 19) (a : Int32) (b : Int32) {S : ri_H} {Q : Option Nat → ri_H → Prop} (h : w45 w a b S Q) : j_ri_A E 1 (ri_en 45 [.ref w, .int a, .int b]) S (Qr Q) := by
  rcases hw with rfl | rfl
  · unfold w45 at h
    show j_ri_A E 1 (45, 0, [some (.ref 10), some (.int a), some (.int b)], []) S (Qr Q)
    refine j_A_call (j := 98) (As := [.ref 15, .int a]) (fr' := (45, 13, [some (.ref 10), some (.int a), some (.int b)], [.int (0 : Int32), .ref 18])) (S' := S) 7 rfl (e := 0) (by omega) (j_sp_item 15 5 _ ⟨by decide, by decide, rfl⟩ (by decide) ?_)
    refine j_A_call (j := 99) (As := [.ref 18, .int (0 : Int32), .int (it (S.1 15) 5 a)]) (fr' := (45, 16, [some (.ref 10), some (.int a), some (.int b)], [])) (S' := S) 1 rfl (e := 0) (by omega) (j_sp_putItem 18 6 _ _ ⟨by decide, by decide, rfl⟩ (by decide) ?_)
    refine j_A_call (j := 99) (As := [.ref 18, .int (1 : Int32), .int b]) (fr' := (45, 25, [some (.ref 10), some (.int a), some (.int b)], [])) (S' := (ri_wr S 18 (pu 6 (S.1 18) (0 : Int32) (it (S.1 15) 5 a)))) 5 rfl (e := 0) (by omega) (j_sp_putItem 18 6 _ _ ⟨by decide, by decide, rfl⟩ (by decide) ?_)
    refine j_A_call (j := 98) (As := [.ref 14, .int a]) (fr' := (45, 38, [some (.ref 10), some (.int a), some (.int b)], [.int (2 : Int32), .ref 18])) (S' := (ri_wr (ri_wr S 18 (pu 6 (S.1 18) (0 : Int32) (it (S.1 15) 5 a))) 18 (pu 6 (pu 6 (S.1 18) (0 : Int32) (it (S.1 15) 5 a)) (1 : Int32) b))) 7 rfl (e := 0) (by omega) (j_sp_item 14 5 _ ⟨by decide, by decide, rfl⟩ (by decide) ?_)
    refine j_A_call (j := 99) (As := [.ref 18, .int (2 : Int32), .int (it (S.1 14) 5 a)]) (fr' := (45, 41, [some (.ref 10), some (.int a), some (.int b)], [])) (S' := (ri_wr (ri_wr S 18 (pu 6 (S.1 18) (0 : Int32) (it (S.1 15) 5 a))) 18 (pu 6 (pu 6 (S.1 18) (0 : Int32) (it (S.1 15) 5 a)) (1 : Int32) b))) 1 rfl (e := 0) (by omega) (j_sp_putItem 18 6 _ _ ⟨by decide, by decide, rfl⟩ (by decide) ?_)
    refine j_A_call (j := 99) (As := [.ref 18, .int (3 : Int32), .int (S.1 10 10)]) (fr' := (45, 53, [some (.ref 10), some (.int a), some (.int b)], [])) (S' := (ri_wr (ri_wr (ri_wr S 18 (pu 6 (S.1 18) (0 : Int32) (it (S.1 15) 5 a))) 18 (pu 6 (pu 6 (S.1 18) (0 : Int32) (it (S.1 15) 5 a)) (1 : Int32) b)) 18 (pu 6 (pu 6 (pu 6 (S.1 18) (0 : Int32) (it (S.1 15) 5 a)) (1 : Int32) b) (2 : Int32) (it (S.1 14) 5 a)))) 6 rfl (e := 0) (by omega) (j_sp_putItem 18 6 _ _ ⟨by decide, by decide, rfl⟩ (by decide) ?_)
    refine j_A_call (j := 98) (As := [.ref 16, .int a]) (fr' := (45, 66, [some (.ref 10), some (.int a), some (.int b)], [.int (4 : Int32), .ref 18])) (S' := (ri_wr (ri_wr (ri_wr (ri_wr S 18 (pu 6 (S.1 18) (0 : Int32) (it (S.1 15) 5 a))) 18 (pu 6 (pu 6 (S.1 18) (0 : Int32) (it (S.1 15) 5 a)) (1 : Int32) b)) 18 (pu 6 (pu 6 (pu 6 (S.1 18) (0 : Int32) (it (S.1 15) 5 a)) (1 : Int32) b) (2 : Int32) (it (S.1 14) 5 a))) 18 (pu 6 (pu 6 (pu 6 (pu 6 (S.1 18) (0 : Int32) (it (S.1 15) 5 a)) (1 : Int32) b) (2 : Int32) (it (S.1 14) 5 a)) (3 : Int32) (S.1 10 10)))) 7 rfl (e := 0) (by omega) (j_sp_item 16 5 _ ⟨by decide, by decide, rfl⟩ (by decide) ?_)
    refine j_A_call (j := 99) (As := [.ref 18, .int (4 : Int32), .int (it (S.1 16) 5 a)]) (fr' := (45, 69, [some (.ref 10), some (.int a), some (.int b)], [])) (S' := (ri_wr (ri_wr (ri_wr (ri_wr S 18 (pu 6 (S.1 18) (0 : Int32) (it (S.1 15) 5 a))) 18 (pu 6 (pu 6 (S.1 18) (0 : Int32) (it (S.1 15) 5 a)) (1 : Int32) b)) 18 (pu 6 (pu 6 (pu 6 (S.1 18) (0 : Int32) (it (S.1 15) 5 a)) (1 : Int32) b) (2 : Int32) (it (S.1 14) 5 a))) 18 (pu 6 (pu 6 (pu 6 (pu 6 (S.1 18) (0 : Int32) (it (S.1 15) 5 a)) (1 : Int32) b) (2 : Int32) (it (S.1 14) 5 a)) (3 : Int32) (S.1 10 10)))) 1 rfl (e := 0) (by omega) (j_sp_putItem 18 6 _ _ ⟨by decide, by decide, rfl⟩ (by decide) ?_)
    refine j_A_call (j := 98) (As := [.ref 17, .int a]) (fr' := (45, 82, [some (.ref 10), some (.int a), some (.int b)], [.int (5 : Int32), .ref 18])) (S' := (ri_wr (ri_wr (ri_wr (ri_wr (ri_wr S 18 (pu 6 (S.1 18) (0 : Int32) (it (S.1 15) 5 a))) 18 (pu 6 (pu 6 (S.1 18) (0 : Int32) (it (S.1 15) 5 a)) (1 : Int32) b)) 18 (pu 6 (pu 6 (pu 6 (S.1 18) (0 : Int32) (it (S.1 15) 5 a)) (1 : Int32) b) (2 : Int32) (it (S.1 14) 5 a))) 18 (pu 6 (pu 6 (pu 6 (pu 6 (S.1 18) (0 : Int32) (it (S.1 15) 5 a)) (1 : Int32) b) (2 : Int32) (it (S.1 14) 5 a)) (3 : Int32) (S.1 10 10))) 18 (pu 6 (pu 6 (pu 6 (pu 6 (pu 6 (S.1 18) (0 : Int32) (it (S.1 15) 5 a)) (1 : Int32) b) (2 : Int32) (it (S.1 14) 5 a)) (3 : Int32) (S.1 10 10)) (4 : Int32) (it (S.1 16) 5 a)))) 7 rfl (e := 0) (by omega) (j_sp_item 17 5 _ ⟨by decide, by decide, rfl⟩ (by decide) ?_)
    refine j_A_call (j := 99) (As := [.ref 18, .int (5 : Int32), .int (it (S.1 17) 5 a)]) (fr' := (45, 85, [some (.ref 10), some (.int a), some (.int b)], [])) (S' := (ri_wr (ri_wr (ri_wr (ri_wr (ri_wr S 18 (pu 6 (S.1 18) (0 : Int32) (it (S.1 15) 5 a))) 18 (pu 6 (pu 6 (S.1 18) (0 : Int32) (it (S.1 15) 5 a)) (1 : Int32) b)) 18 (pu 6 (pu 6 (pu 6 (S.1 18) (0 : Int32) (it (S.1 15) 5 a)) (1 : Int32) b) (2 : Int32) (it (S.1 14) 5 a))) 18 (pu 6 (pu 6 (pu 6 (pu 6 (S.1 18) (0 : Int32) (it (S.1 15) 5 a)) (1 : Int32) b) (2 : Int32) (it (S.1 14) 5 a)) (3 : Int32) (S.1 10 10))) 18 (pu 6 (pu 6 (pu 6 (pu 6 (pu 6 (S.1 18) (0 : Int32) (it (S.1 15) 5 a)) (1 : Int32) b) (2 : Int32) (it (S.1 14) 5 a)) (3 : Int32) (S.1 10 10)) (4 : Int32) (it (S.1 16) 5 a)))) 1 rfl (e := 0) (by omega) (j_sp_putItem 18 6 _ _ ⟨by decide, by decide, rfl⟩ (by decide) ?_)
    exact j_A_ret 3 (m := 45) (v := some (.ref 18)) (S' := (ri_wr (ri_wr (ri_wr (ri_wr (ri_wr (ri_wr S 18 (pu 6 (S.1 18) (0 : Int32) (it (S.1 15) 5 a))) 18 (pu 6 (pu 6 (S.1 18) (0 : Int32) (it (S.1 15) 5 a)) (1 : Int32) b)) 18 (pu 6 (pu 6 (pu 6 (S.1 18) (0 : Int32) (it (S.1 15) 5 a)) (1 : Int32) b) (2 : Int32) (it (S.1 14) 5 a))) 18 (pu 6 (pu 6 (pu 6 (pu 6 (S.1 18) (0 : Int32) (it (S.1 15) 5 a)) (1 : Int32) b) (2 : Int32) (it (S.1 14) 5 a)) (3 : Int32) (S.1 10 10))) 18 (pu 6 (pu 6 (pu 6 (pu 6 (pu 6 (S.1 18) (0 : Int32) (it (S.1 15) 5 a)) (1 : Int32) b) (2 : Int32) (it (S.1 14) 5 a)) (3 : Int32) (S.1 10 10)) (4 : Int32) (it (S.1 16) 5 a))) 18 (pu 6 (pu 6 (pu 6 (pu 6 (pu 6 (pu 6 (S.1 18) (0 : Int32) (it (S.1 15) 5 a)) (1 : Int32) b) (2 : Int32) (it (S.1 14) 5 a)) (3 : Int32) (S.1 10 10)) (4 : Int32) (it (S.1 16) 5 a)) (5 : Int32) (it (S.1 17) 5 a)))) rfl rfl ⟨(some 18), rfl, h⟩
  · unfold w45 at h
    show j_ri_A E 1 (45, 0, [some (.ref 19), some (.int a), some (.int b)], []) S (Qr Q)
    refine j_A_call (j := 98) (As := [.ref 24, .int a]) (fr' := (45, 13, [some (.ref 19), some (.int a), some (.int b)], [.int (0 : Int32), .ref 27])) (S' := S) 7 rfl (e := 0) (by omega) (j_sp_item 24 5 _ ⟨by decide, by decide, rfl⟩ (by decide) ?_)
    refine j_A_call (j := 99) (As := [.ref 27, .int (0 : Int32), .int (it (S.1 24) 5 a)]) (fr' := (45, 16, [some (.ref 19), some (.int a), some (.int b)], [])) (S' := S) 1 rfl (e := 0) (by omega) (j_sp_putItem 27 6 _ _ ⟨by decide, by decide, rfl⟩ (by decide) ?_)
    refine j_A_call (j := 99) (As := [.ref 27, .int (1 : Int32), .int b]) (fr' := (45, 25, [some (.ref 19), some (.int a), some (.int b)], [])) (S' := (ri_wr S 27 (pu 6 (S.1 27) (0 : Int32) (it (S.1 24) 5 a)))) 5 rfl (e := 0) (by omega) (j_sp_putItem 27 6 _ _ ⟨by decide, by decide, rfl⟩ (by decide) ?_)
    refine j_A_call (j := 98) (As := [.ref 23, .int a]) (fr' := (45, 38, [some (.ref 19), some (.int a), some (.int b)], [.int (2 : Int32), .ref 27])) (S' := (ri_wr (ri_wr S 27 (pu 6 (S.1 27) (0 : Int32) (it (S.1 24) 5 a))) 27 (pu 6 (pu 6 (S.1 27) (0 : Int32) (it (S.1 24) 5 a)) (1 : Int32) b))) 7 rfl (e := 0) (by omega) (j_sp_item 23 5 _ ⟨by decide, by decide, rfl⟩ (by decide) ?_)
    refine j_A_call (j := 99) (As := [.ref 27, .int (2 : Int32), .int (it (S.1 23) 5 a)]) (fr' := (45, 41, [some (.ref 19), some (.int a), some (.int b)], [])) (S' := (ri_wr (ri_wr S 27 (pu 6 (S.1 27) (0 : Int32) (it (S.1 24) 5 a))) 27 (pu 6 (pu 6 (S.1 27) (0 : Int32) (it (S.1 24) 5 a)) (1 : Int32) b))) 1 rfl (e := 0) (by omega) (j_sp_putItem 27 6 _ _ ⟨by decide, by decide, rfl⟩ (by decide) ?_)
    refine j_A_call (j := 99) (As := [.ref 27, .int (3 : Int32), .int (S.1 19 10)]) (fr' := (45, 53, [some (.ref 19), some (.int a), some (.int b)], [])) (S' := (ri_wr (ri_wr (ri_wr S 27 (pu 6 (S.1 27) (0 : Int32) (it (S.1 24) 5 a))) 27 (pu 6 (pu 6 (S.1 27) (0 : Int32) (it (S.1 24) 5 a)) (1 : Int32) b)) 27 (pu 6 (pu 6 (pu 6 (S.1 27) (0 : Int32) (it (S.1 24) 5 a)) (1 : Int32) b) (2 : Int32) (it (S.1 23) 5 a)))) 6 rfl (e := 0) (by omega) (j_sp_putItem 27 6 _ _ ⟨by decide, by decide, rfl⟩ (by decide) ?_)
    refine j_A_call (j := 98) (As := [.ref 25, .int a]) (fr' := (45, 66, [some (.ref 19), some (.int a), some (.int b)], [.int (4 : Int32), .ref 27])) (S' := (ri_wr (ri_wr (ri_wr (ri_wr S 27 (pu 6 (S.1 27) (0 : Int32) (it (S.1 24) 5 a))) 27 (pu 6 (pu 6 (S.1 27) (0 : Int32) (it (S.1 24) 5 a)) (1 : Int32) b)) 27 (pu 6 (pu 6 (pu 6 (S.1 27) (0 : Int32) (it (S.1 24) 5 a)) (1 : Int32) b) (2 : Int32) (it (S.1 23) 5 a))) 27 (pu 6 (pu 6 (pu 6 (pu 6 (S.1 27) (0 : Int32) (it (S.1 24) 5 a)) (1 : Int32) b) (2 : Int32) (it (S.1 23) 5 a)) (3 : Int32) (S.1 19 10)))) 7 rfl (e := 0) (by omega) (j_sp_item 25 5 _ ⟨by decide, by decide, rfl⟩ (by decide) ?_)
    refine j_A_call (j := 99) (As := [.ref 27, .int (4 : Int32), .int (it (S.1 25) 5 a)]) (fr' := (45, 69, [some (.ref 19), some (.int a), some (.int b)], [])) (S' := (ri_wr (ri_wr (ri_wr (ri_wr S 27 (pu 6 (S.1 27) (0 : Int32) (it (S.1 24) 5 a))) 27 (pu 6 (pu 6 (S.1 27) (0 : Int32) (it (S.1 24) 5 a)) (1 : Int32) b)) 27 (pu 6 (pu 6 (pu 6 (S.1 27) (0 : Int32) (it (S.1 24) 5 a)) (1 : Int32) b) (2 : Int32) (it (S.1 23) 5 a))) 27 (pu 6 (pu 6 (pu 6 (pu 6 (S.1 27) (0 : Int32) (it (S.1 24) 5 a)) (1 : Int32) b) (2 : Int32) (it (S.1 23) 5 a)) (3 : Int32) (S.1 19 10)))) 1 rfl (e := 0) (by omega) (j_sp_putItem 27 6 _ _ ⟨by decide, by decide, rfl⟩ (by decide) ?_)
    refine j_A_call (j := 98) (As := [.ref 26, .int a]) (fr' := (45, 82, [some (.ref 19), some (.int a), some (.int b)], [.int (5 : Int32), .ref 27])) (S' := (ri_wr (ri_wr (ri_wr (ri_wr (ri_wr S 27 (pu 6 (S.1 27) (0 : Int32) (it (S.1 24) 5 a))) 27 (pu 6 (pu 6 (S.1 27) (0 : Int32) (it (S.1 24) 5 a)) (1 : Int32) b)) 27 (pu 6 (pu 6 (pu 6 (S.1 27) (0 : Int32) (it (S.1 24) 5 a)) (1 : Int32) b) (2 : Int32) (it (S.1 23) 5 a))) 27 (pu 6 (pu 6 (pu 6 (pu 6 (S.1 27) (0 : Int32) (it (S.1 24) 5 a)) (1 : Int32) b) (2 : Int32) (it (S.1 23) 5 a)) (3 : Int32) (S.1 19 10))) 27 (pu 6 (pu 6 (pu 6 (pu 6 (pu 6 (S.1 27) (0 : Int32) (it (S.1 24) 5 a)) (1 : Int32) b) (2 : Int32) (it (S.1 23) 5 a)) (3 : Int32) (S.1 19 10)) (4 : Int32) (it (S.1 25) 5 a)))) 7 rfl (e := 0) (by omega) (j_sp_item 26 5 _ ⟨by decide, by decide, rfl⟩ (by decide) ?_)
    refine j_A_call (j := 99) (As := [.ref 27, .int (5 : Int32), .int (it (S.1 26) 5 a)]) (fr' := (45, 85, [some (.ref 19), some (.int a), some (.int b)], [])) (S' := (ri_wr (ri_wr (ri_wr (ri_wr (ri_wr S 27 (pu 6 (S.1 27) (0 : Int32) (it (S.1 24) 5 a))) 27 (pu 6 (pu 6 (S.1 27) (0 : Int32) (it (S.1 24) 5 a)) (1 : Int32) b)) 27 (pu 6 (pu 6 (pu 6 (S.1 27) (0 : Int32) (it (S.1 24) 5 a)) (1 : Int32) b) (2 : Int32) (it (S.1 23) 5 a))) 27 (pu 6 (pu 6 (pu 6 (pu 6 (S.1 27) (0 : Int32) (it (S.1 24) 5 a)) (1 : Int32) b) (2 : Int32) (it (S.1 23) 5 a)) (3 : Int32) (S.1 19 10))) 27 (pu 6 (pu 6 (pu 6 (pu 6 (pu 6 (S.1 27) (0 : Int32) (it (S.1 24) 5 a)) (1 : Int32) b) (2 : Int32) (it (S.1 23) 5 a)) (3 : Int32) (S.1 19 10)) (4 : Int32) (it (S.1 25) 5 a)))) 1 rfl (e := 0) (by omega) (j_sp_putItem 27 6 _ _ ⟨by decide, by decide, rfl⟩ (by decide) ?_)
    exact j_A_ret 3 (m := 45) (v := some (.ref 27)) (S' := (ri_wr (ri_wr (ri_wr (ri_wr (ri_wr (ri_wr S 27 (pu 6 (S.1 27) (0 : Int32) (it (S.1 24) 5 a))) 27 (pu 6 (pu 6 (S.1 27) (0 : Int32) (it (S.1 24) 5 a)) (1 : Int32) b)) 27 (pu 6 (pu 6 (pu 6 (S.1 27) (0 : Int32) (it (S.1 24) 5 a)) (1 : Int32) b) (2 : Int32) (it (S.1 23) 5 a))) 27 (pu 6 (pu 6 (pu 6 (pu 6 (S.1 27) (0 : Int32) (it (S.1 24) 5 a)) (1 : Int32) b) (2 : Int32) (it (S.1 23) 5 a)) (3 : Int32) (S.1 19 10))) 27 (pu 6 (pu 6 (pu 6 (pu 6 (pu 6 (S.1 27) (0 : Int32) (it (S.1 24) 5 a)) (1 : Int32) b) (2 : Int32) (it (S.1 23) 5 a)) (3 : Int32) (S.1 19 10)) (4 : Int32) (it (S.1 25) 5 a))) 27 (pu 6 (pu 6 (pu 6 (pu 6 (pu 6 (pu 6 (S.1 27) (0 : Int32) (it (S.1 24) 5 a)) (1 : Int32) b) (2 : Int32) (it (S.1 23) 5 a)) (3 : Int32) (S.1 19 10)) (4 : Int32) (it (S.1 25) 5 a)) (5 : Int32) (it (S.1 26) 5 a)))) rfl rfl ⟨(some 27), rfl, h⟩
theorem j_sp_namesOf {E : ri_E} {S : ri_H} {Q : Option Value → ri_H → Prop} (w : Nat) (hw : w = 10 ∨ w = 19) (a b : Int32) (h : Q (some (.ref (w + 8))) (nms S w a b)) : j_ri_A E 1 (ri_en 45 [.ref w, .int a, .int b]) S Q := by
  refine j_A_imp (j_wt45 w hw a b (Q := fun r S1 => r = some (w + 8) ∧ S1 = nms S w a b) ?_) (fun v S1 hv => ?_)
  · unfold w45 nms
    refine ⟨rfl, ?_⟩
    simp only [ri_wr_wr, ri_wi_wr, ri_wr_eq]
    rw [pu_c (i := 0) rfl rfl, pu_c (i := 1) rfl rfl, pu_c (i := 2) rfl rfl, pu_c (i := 3) rfl rfl, pu_c (i := 4) rfl rfl, pu_c (i := 5) rfl rfl]
    rfl
  · obtain ⟨k, hk, rfl, rfl⟩ := hv
    subst hk
    exact h
set_option maxRecDepth 10000 in
set_option maxHeartbeats 1000000 in
theorem j_wt40_b60 {E : ri_E} (w : Nat) (hw : w = 10 ∨ w = 19) {Q : Int32 → ri_H → Prop} (x3 : Int32) (S : ri_H) (h : w40_b60 w  Q x3 S) : j_ri_A E 2 (40, 60, [some (.ref w), none, none, some (.int x3), none], []) S (Qi Q) := by
  rcases hw with rfl | rfl
  · unfold w40_b60 at h
    refine j_A_call (j := 98) (As := [.ref 12, .int (((2 : Int32) * x3) + (1 : Int32))]) (fr' := (40, 72, [some (.ref 10), none, none, some (.int x3), none], [])) (S' := S) 8 rfl (e := 0) (by omega) (j_sp_item 12 24 _ ⟨by decide, by decide, rfl⟩ (by decide) ?_)
    refine j_A_call (j := 98) (As := [.ref 12, .int ((2 : Int32) * x3)]) (fr' := (40, 82, [some (.ref 10), none, none, some (.int x3), none], [.int (it (S.1 12) 24 (((2 : Int32) * x3) + (1 : Int32)))])) (S' := S) 6 rfl (e := 0) (by omega) (j_sp_item 12 24 _ ⟨by decide, by decide, rfl⟩ (by decide) ?_)
    refine j_A_br ((it (S.1 12) 24 ((2 : Int32) * x3)) ≤ (it (S.1 12) 24 (((2 : Int32) * x3) + (1 : Int32)))) (r1 := ((40, 89, [some (.ref 10), none, none, some (.int x3), none], []), S)) (r2 := ((40, 85, [some (.ref 10), none, none, some (.int x3), none], []), S)) 1 rfl (fun c => ?_) (fun c => ?_)
    · have h := h.1 c
      exact j_A_ret 2 (m := 40) (v := some (.int (0 : Int32))) (S' := S) rfl rfl ⟨_, rfl, h⟩
    · have h := h.2 c
      exact j_A_ret 3 (m := 40) (v := some (.int (1 : Int32))) (S' := S) rfl rfl ⟨_, rfl, h⟩
  · unfold w40_b60 at h
    refine j_A_call (j := 98) (As := [.ref 21, .int (((2 : Int32) * x3) + (1 : Int32))]) (fr' := (40, 72, [some (.ref 19), none, none, some (.int x3), none], [])) (S' := S) 8 rfl (e := 0) (by omega) (j_sp_item 21 24 _ ⟨by decide, by decide, rfl⟩ (by decide) ?_)
    refine j_A_call (j := 98) (As := [.ref 21, .int ((2 : Int32) * x3)]) (fr' := (40, 82, [some (.ref 19), none, none, some (.int x3), none], [.int (it (S.1 21) 24 (((2 : Int32) * x3) + (1 : Int32)))])) (S' := S) 6 rfl (e := 0) (by omega) (j_sp_item 21 24 _ ⟨by decide, by decide, rfl⟩ (by decide) ?_)
    refine j_A_br ((it (S.1 21) 24 ((2 : Int32) * x3)) ≤ (it (S.1 21) 24 (((2 : Int32) * x3) + (1 : Int32)))) (r1 := ((40, 89, [some (.ref 19), none, none, some (.int x3), none], []), S)) (r2 := ((40, 85, [some (.ref 19), none, none, some (.int x3), none], []), S)) 1 rfl (fun c => ?_) (fun c => ?_)
    · have h := h.1 c
      exact j_A_ret 2 (m := 40) (v := some (.int (0 : Int32))) (S' := S) rfl rfl ⟨_, rfl, h⟩
    · have h := h.2 c
      exact j_A_ret 3 (m := 40) (v := some (.int (1 : Int32))) (S' := S) rfl rfl ⟨_, rfl, h⟩
set_option maxRecDepth 10000 in
set_option maxHeartbeats 1000000 in
theorem j_wt40_b144 {E : ri_E} (w : Nat) (hw : w = 10 ∨ w = 19) {Q : Int32 → ri_H → Prop} (x1 : Int32) (x2 : Int32) (x4 : Int32) (S : ri_H) (h : w40_b144 w  Q x1 x2 x4 S) : j_ri_A E 2 (40, 144, [some (.ref w), some (.int x1), some (.int x2), none, some (.int x4)], []) S (Qi Q) := by
  rcases hw with rfl | rfl
  · unfold w40_b144 at h
    refine j_A_br (¬ x2 = (3 : Int32)) (r1 := ((40, 167, [some (.ref 10), some (.int x1), some (.int x2), none, some (.int x4)], []), S)) (r2 := ((40, 149, [some (.ref 10), some (.int x1), some (.int x2), none, some (.int x4)], []), S)) 3 rfl (fun c => ?_) (fun c => ?_)
    · have h := h.1 c
      exact j_A_ret 2 (m := 40) (v := some (.int x4)) (S' := S) rfl rfl ⟨_, rfl, h⟩
    · have h := h.2 c
      refine j_A_call (j := 98) (As := [.ref 16, .int x1]) (fr' := (40, 157, [some (.ref 10), some (.int x1), some (.int x2), none, some (.int x4)], [])) (S' := S) 4 rfl (e := 0) (by omega) (j_sp_item 16 5 _ ⟨by decide, by decide, rfl⟩ (by decide) ?_)
      refine j_A_br (0 ≤ (it (S.1 16) 5 x1)) (r1 := ((40, 167, [some (.ref 10), some (.int x1), some (.int x2), none, some (.int x4)], []), S)) (r2 := ((40, 160, [some (.ref 10), some (.int x1), some (.int x2), none, some (.int x4)], []), S)) 1 rfl (fun c => ?_) (fun c => ?_)
      · have h := h.1 c
        exact j_A_ret 2 (m := 40) (v := some (.int x4)) (S' := S) rfl rfl ⟨_, rfl, h⟩
      · have h := h.2 c
        exact j_A_ret 5 (m := 40) (v := some (.int ((1 : Int32) - x4))) (S' := S) rfl rfl ⟨_, rfl, h⟩
  · unfold w40_b144 at h
    refine j_A_br (¬ x2 = (3 : Int32)) (r1 := ((40, 167, [some (.ref 19), some (.int x1), some (.int x2), none, some (.int x4)], []), S)) (r2 := ((40, 149, [some (.ref 19), some (.int x1), some (.int x2), none, some (.int x4)], []), S)) 3 rfl (fun c => ?_) (fun c => ?_)
    · have h := h.1 c
      exact j_A_ret 2 (m := 40) (v := some (.int x4)) (S' := S) rfl rfl ⟨_, rfl, h⟩
    · have h := h.2 c
      refine j_A_call (j := 98) (As := [.ref 25, .int x1]) (fr' := (40, 157, [some (.ref 19), some (.int x1), some (.int x2), none, some (.int x4)], [])) (S' := S) 4 rfl (e := 0) (by omega) (j_sp_item 25 5 _ ⟨by decide, by decide, rfl⟩ (by decide) ?_)
      refine j_A_br (0 ≤ (it (S.1 25) 5 x1)) (r1 := ((40, 167, [some (.ref 19), some (.int x1), some (.int x2), none, some (.int x4)], []), S)) (r2 := ((40, 160, [some (.ref 19), some (.int x1), some (.int x2), none, some (.int x4)], []), S)) 1 rfl (fun c => ?_) (fun c => ?_)
      · have h := h.1 c
        exact j_A_ret 2 (m := 40) (v := some (.int x4)) (S' := S) rfl rfl ⟨_, rfl, h⟩
      · have h := h.2 c
        exact j_A_ret 5 (m := 40) (v := some (.int ((1 : Int32) - x4))) (S' := S) rfl rfl ⟨_, rfl, h⟩
set_option maxRecDepth 10000 in
set_option maxHeartbeats 1000000 in
theorem j_wt40_b123 {E : ri_E} (w : Nat) (hw : w = 10 ∨ w = 19) {Q : Int32 → ri_H → Prop} (x1 : Int32) (x2 : Int32) (x3 : Int32) (s0 : Int32) (S : ri_H) (h : w40_b123 w  Q x1 x2 x3 s0 S) : j_ri_A E 2 (40, 123, [some (.ref w), some (.int x1), some (.int x2), some (.int x3), none], [.int s0]) S (Qi Q) := by
  rcases hw with rfl | rfl
  · unfold w40_b123 at h
    refine j_A_br (x2 = 0) (r1 := ((40, 144, [some (.ref 10), some (.int x1), some (.int x2), some (.int x3), some (.int s0)], []), S)) (r2 := ((40, 129, [some (.ref 10), some (.int x1), some (.int x2), some (.int x3), some (.int s0)], []), S)) 3 rfl (fun c => ?_) (fun c => ?_)
    · have h := h.1 c
      refine j_ri_A.less (m := 40) (pc := 144) (L := [some (.ref 10), some (.int x1), some (.int x2), some (.int x3), some (.int s0)]) (L' := [some (.ref 10), some (.int x1), some (.int x2), none, some (.int s0)]) (st := []) ⟨rfl, ⟨rfl, ⟨rfl, ⟨rfl, trivial⟩⟩⟩⟩ ?_
      exact j_wt40_b144 10 (by decide)  _ _ _ _ h
    · have h := h.2 c
      refine j_A_call (j := 98) (As := [.ref 14, .int x1]) (fr' := (40, 138, [some (.ref 10), some (.int x1), some (.int x2), some (.int x3), some (.int s0)], [.int x3])) (S' := S) 5 rfl (e := 0) (by omega) (j_sp_item 14 5 _ ⟨by decide, by decide, rfl⟩ (by decide) ?_)
      refine j_A_br (¬ x3 = (it (S.1 14) 5 x1)) (r1 := ((40, 144, [some (.ref 10), some (.int x1), some (.int x2), some (.int x3), some (.int s0)], []), S)) (r2 := ((40, 141, [some (.ref 10), some (.int x1), some (.int x2), some (.int x3), some (.int s0)], []), S)) 1 rfl (fun c => ?_) (fun c => ?_)
      · have h := h.1 c
        refine j_ri_A.less (m := 40) (pc := 144) (L := [some (.ref 10), some (.int x1), some (.int x2), some (.int x3), some (.int s0)]) (L' := [some (.ref 10), some (.int x1), some (.int x2), none, some (.int s0)]) (st := []) ⟨rfl, ⟨rfl, ⟨rfl, ⟨rfl, trivial⟩⟩⟩⟩ ?_
        exact j_wt40_b144 10 (by decide)  _ _ _ _ h
      · have h := h.2 c
        refine j_A_nx 2 (fr' := (40, 144, [some (.ref 10), some (.int x1), some (.int x2), some (.int x3), some (.int (1 : Int32))], [])) (S' := S) rfl ?_
        refine j_ri_A.less (m := 40) (pc := 144) (L := [some (.ref 10), some (.int x1), some (.int x2), some (.int x3), some (.int (1 : Int32))]) (L' := [some (.ref 10), some (.int x1), some (.int x2), none, some (.int (1 : Int32))]) (st := []) ⟨rfl, ⟨rfl, ⟨rfl, ⟨rfl, trivial⟩⟩⟩⟩ ?_
        exact j_wt40_b144 10 (by decide)  _ _ _ _ h
  · unfold w40_b123 at h
    refine j_A_br (x2 = 0) (r1 := ((40, 144, [some (.ref 19), some (.int x1), some (.int x2), some (.int x3), some (.int s0)], []), S)) (r2 := ((40, 129, [some (.ref 19), some (.int x1), some (.int x2), some (.int x3), some (.int s0)], []), S)) 3 rfl (fun c => ?_) (fun c => ?_)
    · have h := h.1 c
      refine j_ri_A.less (m := 40) (pc := 144) (L := [some (.ref 19), some (.int x1), some (.int x2), some (.int x3), some (.int s0)]) (L' := [some (.ref 19), some (.int x1), some (.int x2), none, some (.int s0)]) (st := []) ⟨rfl, ⟨rfl, ⟨rfl, ⟨rfl, trivial⟩⟩⟩⟩ ?_
      exact j_wt40_b144 19 (by decide)  _ _ _ _ h
    · have h := h.2 c
      refine j_A_call (j := 98) (As := [.ref 23, .int x1]) (fr' := (40, 138, [some (.ref 19), some (.int x1), some (.int x2), some (.int x3), some (.int s0)], [.int x3])) (S' := S) 5 rfl (e := 0) (by omega) (j_sp_item 23 5 _ ⟨by decide, by decide, rfl⟩ (by decide) ?_)
      refine j_A_br (¬ x3 = (it (S.1 23) 5 x1)) (r1 := ((40, 144, [some (.ref 19), some (.int x1), some (.int x2), some (.int x3), some (.int s0)], []), S)) (r2 := ((40, 141, [some (.ref 19), some (.int x1), some (.int x2), some (.int x3), some (.int s0)], []), S)) 1 rfl (fun c => ?_) (fun c => ?_)
      · have h := h.1 c
        refine j_ri_A.less (m := 40) (pc := 144) (L := [some (.ref 19), some (.int x1), some (.int x2), some (.int x3), some (.int s0)]) (L' := [some (.ref 19), some (.int x1), some (.int x2), none, some (.int s0)]) (st := []) ⟨rfl, ⟨rfl, ⟨rfl, ⟨rfl, trivial⟩⟩⟩⟩ ?_
        exact j_wt40_b144 19 (by decide)  _ _ _ _ h
      · have h := h.2 c
        refine j_A_nx 2 (fr' := (40, 144, [some (.ref 19), some (.int x1), some (.int x2), some (.int x3), some (.int (1 : Int32))], [])) (S' := S) rfl ?_
        refine j_ri_A.less (m := 40) (pc := 144) (L := [some (.ref 19), some (.int x1), some (.int x2), some (.int x3), some (.int (1 : Int32))]) (L' := [some (.ref 19), some (.int x1), some (.int x2), none, some (.int (1 : Int32))]) (st := []) ⟨rfl, ⟨rfl, ⟨rfl, ⟨rfl, trivial⟩⟩⟩⟩ ?_
        exact j_wt40_b144 19 (by decide)  _ _ _ _ h
set_option maxRecDepth 10000 in
set_option maxHeartbeats 1000000 in
theorem j_wt40_b50 {E : ri_E} (w : Nat) (hw : w = 10 ∨ w = 19) {Q : Int32 → ri_H → Prop} (x1 : Int32) (x2 : Int32) (x3 : Int32) (S : ri_H) (h : w40_b50 w  Q x1 x2 x3 S) : j_ri_A E 2 (40, 50, [some (.ref w), some (.int x1), some (.int x2), some (.int x3), none], []) S (Qi Q) := by
  rcases hw with rfl | rfl
  · unfold w40_b50 at h
    refine j_A_br (x2 = (2 : Int32)) (r1 := ((40, 60, [some (.ref 10), some (.int x1), some (.int x2), some (.int x3), none], []), S)) (r2 := ((40, 55, [some (.ref 10), some (.int x1), some (.int x2), some (.int x3), none], []), S)) 3 rfl (fun c => ?_) (fun c => ?_)
    · have h := h.1 c
      refine j_ri_A.less (m := 40) (pc := 60) (L := [some (.ref 10), some (.int x1), some (.int x2), some (.int x3), none]) (L' := [some (.ref 10), none, none, some (.int x3), none]) (st := []) ⟨rfl, ⟨rfl, trivial⟩⟩ ?_
      exact j_wt40_b60 10 (by decide)  _ _ h
    · have h := h.2 c
      refine j_A_br (¬ x2 = (4 : Int32)) (r1 := ((40, 91, [some (.ref 10), some (.int x1), some (.int x2), some (.int x3), none], []), S)) (r2 := ((40, 60, [some (.ref 10), some (.int x1), some (.int x2), some (.int x3), none], []), S)) 3 rfl (fun c => ?_) (fun c => ?_)
      · have h := h.1 c
        refine j_A_call (j := 44) (As := [.ref 10, .int x3]) (fr' := (40, 107, [some (.ref 10), some (.int x1), some (.int x2), some (.int x3), none], [.int x1, .ref 10, .int (0 : Int32), .int (S.1 10 11), .ref 1])) (S' := S) 10 rfl (e := 1) (by omega) (j_A_imp (j_wt44 10 (by decide) x3 h) (fun v S1 hq => ?_))
        obtain ⟨r2, hv, h⟩ := hq
        subst hv
        refine j_A_call (j := 45) (As := [.ref 10, .int x1, .int r2]) (fr' := (40, 110, [some (.ref 10), some (.int x1), some (.int x2), some (.int x3), none], [.int (0 : Int32), .int (S.1 10 11), .ref 1])) (S' := S1) 1 rfl (e := 1) (by omega) (j_sp_namesOf 10 (by decide) _ _ ?_)
        refine j_A_call (j := 30) (As := [.ref 1, .int (S.1 10 11), .int (0 : Int32), .ref 18]) (fr' := (40, 113, [some (.ref 10), some (.int x1), some (.int x2), some (.int x3), none], [])) (S' := (nms S1 10 x1 r2)) 1 rfl (e := 1) (by omega) (j_A_imp (j_wt30 18 (by decide) (S.1 10 11) (0 : Int32) h) (fun v S3 hq => ?_))
        obtain ⟨r4, hv, h⟩ := hq
        subst hv
        refine j_A_gd (¬ (2 : Int32) = 0) (r1 := ((40, 115, [some (.ref 10), some (.int x1), some (.int x2), some (.int x3), none], [.int (r4 - r4 / (2 : Int32) * (2 : Int32))]), S3)) 2 rfl (by decide) ?_
        refine j_A_br (¬ (r4 - r4 / (2 : Int32) * (2 : Int32)) = 0) (r1 := ((40, 122, [some (.ref 10), some (.int x1), some (.int x2), some (.int x3), none], []), S3)) (r2 := ((40, 118, [some (.ref 10), some (.int x1), some (.int x2), some (.int x3), none], []), S3)) 1 rfl (fun c => ?_) (fun c => ?_)
        · have h := h.1 c
          refine j_A_nx 1 (fr' := (40, 123, [some (.ref 10), some (.int x1), some (.int x2), some (.int x3), none], [.int (1 : Int32)])) (S' := S3) rfl ?_
          refine j_ri_A.less (m := 40) (pc := 123) (L := [some (.ref 10), some (.int x1), some (.int x2), some (.int x3), none]) (L' := [some (.ref 10), some (.int x1), some (.int x2), some (.int x3), none]) (st := [.int (1 : Int32)]) ⟨rfl, ⟨rfl, ⟨rfl, ⟨rfl, trivial⟩⟩⟩⟩ ?_
          exact j_wt40_b123 10 (by decide)  _ _ _ _ _ h
        · have h := h.2 c
          refine j_A_nx 2 (fr' := (40, 123, [some (.ref 10), some (.int x1), some (.int x2), some (.int x3), none], [.int (0 : Int32)])) (S' := S3) rfl ?_
          refine j_ri_A.less (m := 40) (pc := 123) (L := [some (.ref 10), some (.int x1), some (.int x2), some (.int x3), none]) (L' := [some (.ref 10), some (.int x1), some (.int x2), some (.int x3), none]) (st := [.int (0 : Int32)]) ⟨rfl, ⟨rfl, ⟨rfl, ⟨rfl, trivial⟩⟩⟩⟩ ?_
          exact j_wt40_b123 10 (by decide)  _ _ _ _ _ h
      · have h := h.2 c
        refine j_ri_A.less (m := 40) (pc := 60) (L := [some (.ref 10), some (.int x1), some (.int x2), some (.int x3), none]) (L' := [some (.ref 10), none, none, some (.int x3), none]) (st := []) ⟨rfl, ⟨rfl, trivial⟩⟩ ?_
        exact j_wt40_b60 10 (by decide)  _ _ h
  · unfold w40_b50 at h
    refine j_A_br (x2 = (2 : Int32)) (r1 := ((40, 60, [some (.ref 19), some (.int x1), some (.int x2), some (.int x3), none], []), S)) (r2 := ((40, 55, [some (.ref 19), some (.int x1), some (.int x2), some (.int x3), none], []), S)) 3 rfl (fun c => ?_) (fun c => ?_)
    · have h := h.1 c
      refine j_ri_A.less (m := 40) (pc := 60) (L := [some (.ref 19), some (.int x1), some (.int x2), some (.int x3), none]) (L' := [some (.ref 19), none, none, some (.int x3), none]) (st := []) ⟨rfl, ⟨rfl, trivial⟩⟩ ?_
      exact j_wt40_b60 19 (by decide)  _ _ h
    · have h := h.2 c
      refine j_A_br (¬ x2 = (4 : Int32)) (r1 := ((40, 91, [some (.ref 19), some (.int x1), some (.int x2), some (.int x3), none], []), S)) (r2 := ((40, 60, [some (.ref 19), some (.int x1), some (.int x2), some (.int x3), none], []), S)) 3 rfl (fun c => ?_) (fun c => ?_)
      · have h := h.1 c
        refine j_A_call (j := 44) (As := [.ref 19, .int x3]) (fr' := (40, 107, [some (.ref 19), some (.int x1), some (.int x2), some (.int x3), none], [.int x1, .ref 19, .int (0 : Int32), .int (S.1 19 11), .ref 1])) (S' := S) 10 rfl (e := 1) (by omega) (j_A_imp (j_wt44 19 (by decide) x3 h) (fun v S1 hq => ?_))
        obtain ⟨r2, hv, h⟩ := hq
        subst hv
        refine j_A_call (j := 45) (As := [.ref 19, .int x1, .int r2]) (fr' := (40, 110, [some (.ref 19), some (.int x1), some (.int x2), some (.int x3), none], [.int (0 : Int32), .int (S.1 19 11), .ref 1])) (S' := S1) 1 rfl (e := 1) (by omega) (j_sp_namesOf 19 (by decide) _ _ ?_)
        refine j_A_call (j := 30) (As := [.ref 1, .int (S.1 19 11), .int (0 : Int32), .ref 27]) (fr' := (40, 113, [some (.ref 19), some (.int x1), some (.int x2), some (.int x3), none], [])) (S' := (nms S1 19 x1 r2)) 1 rfl (e := 1) (by omega) (j_A_imp (j_wt30 27 (by decide) (S.1 19 11) (0 : Int32) h) (fun v S3 hq => ?_))
        obtain ⟨r4, hv, h⟩ := hq
        subst hv
        refine j_A_gd (¬ (2 : Int32) = 0) (r1 := ((40, 115, [some (.ref 19), some (.int x1), some (.int x2), some (.int x3), none], [.int (r4 - r4 / (2 : Int32) * (2 : Int32))]), S3)) 2 rfl (by decide) ?_
        refine j_A_br (¬ (r4 - r4 / (2 : Int32) * (2 : Int32)) = 0) (r1 := ((40, 122, [some (.ref 19), some (.int x1), some (.int x2), some (.int x3), none], []), S3)) (r2 := ((40, 118, [some (.ref 19), some (.int x1), some (.int x2), some (.int x3), none], []), S3)) 1 rfl (fun c => ?_) (fun c => ?_)
        · have h := h.1 c
          refine j_A_nx 1 (fr' := (40, 123, [some (.ref 19), some (.int x1), some (.int x2), some (.int x3), none], [.int (1 : Int32)])) (S' := S3) rfl ?_
          refine j_ri_A.less (m := 40) (pc := 123) (L := [some (.ref 19), some (.int x1), some (.int x2), some (.int x3), none]) (L' := [some (.ref 19), some (.int x1), some (.int x2), some (.int x3), none]) (st := [.int (1 : Int32)]) ⟨rfl, ⟨rfl, ⟨rfl, ⟨rfl, trivial⟩⟩⟩⟩ ?_
          exact j_wt40_b123 19 (by decide)  _ _ _ _ _ h
        · have h := h.2 c
          refine j_A_nx 2 (fr' := (40, 123, [some (.ref 19), some (.int x1), some (.int x2), some (.int x3), none], [.int (0 : Int32)])) (S' := S3) rfl ?_
          refine j_ri_A.less (m := 40) (pc := 123) (L := [some (.ref 19), some (.int x1), some (.int x2), some (.int x3), none]) (L' := [some (.ref 19), some (.int x1), some (.int x2), some (.int x3), none]) (st := [.int (0 : Int32)]) ⟨rfl, ⟨rfl, ⟨rfl, ⟨rfl, trivial⟩⟩⟩⟩ ?_
          exact j_wt40_b123 19 (by decide)  _ _ _ _ _ h
      · have h := h.2 c
        refine j_ri_A.less (m := 40) (pc := 60) (L := [some (.ref 19), some (.int x1), some (.int x2), some (.int x3), none]) (L' := [some (.ref 19), none, none, some (.int x3), none]) (st := []) ⟨rfl, ⟨rfl, trivial⟩⟩ ?_
        exact j_wt40_b60 19 (by decide)  _ _ h
set_option maxRecDepth 10000 in
set_option maxHeartbeats 1000000 in
theorem j_wt40 {E : ri_E} (w : Nat) (hw : w = 10 ∨ w = 19) (a : Int32) {S : ri_H} {Q : Int32 → ri_H → Prop} (h : w40 w a S Q) : j_ri_A E 2 (ri_en 40 [.ref w, .int a]) S (Qi Q) := by
  rcases hw with rfl | rfl
  · unfold w40 at h
    show j_ri_A E 2 (40, 0, [some (.ref 10), some (.int a), none, none, none], []) S (Qi Q)
    refine j_A_call (j := 98) (As := [.ref 13, .int a]) (fr' := (40, 8, [some (.ref 10), some (.int a), none, none, none], [])) (S' := S) 4 rfl (e := 0) (by omega) (j_sp_item 13 5 _ ⟨by decide, by decide, rfl⟩ (by decide) ?_)
    refine j_A_call (j := 98) (As := [.ref 15, .int a]) (fr' := (40, 17, [some (.ref 10), some (.int a), some (.int (it (S.1 13) 5 a)), none, none], [])) (S' := S) 5 rfl (e := 0) (by omega) (j_sp_item 15 5 _ ⟨by decide, by decide, rfl⟩ (by decide) ?_)
    refine j_A_br (¬ (it (S.1 13) 5 a) = (5 : Int32)) (r1 := ((40, 34, [some (.ref 10), some (.int a), some (.int (it (S.1 13) 5 a)), some (.int (it (S.1 15) 5 a)), none], []), S)) (r2 := ((40, 23, [some (.ref 10), some (.int a), some (.int (it (S.1 13) 5 a)), some (.int (it (S.1 15) 5 a)), none], []), S)) 4 rfl (fun c => ?_) (fun c => ?_)
    · have h := h.1 c
      refine j_A_br (¬ (it (S.1 13) 5 a) = (4 : Int32)) (r1 := ((40, 50, [some (.ref 10), some (.int a), some (.int (it (S.1 13) 5 a)), some (.int (it (S.1 15) 5 a)), none], []), S)) (r2 := ((40, 39, [some (.ref 10), some (.int a), some (.int (it (S.1 13) 5 a)), some (.int (it (S.1 15) 5 a)), none], []), S)) 3 rfl (fun c => ?_) (fun c => ?_)
      · have h := h.1 c
        refine j_ri_A.less (m := 40) (pc := 50) (L := [some (.ref 10), some (.int a), some (.int (it (S.1 13) 5 a)), some (.int (it (S.1 15) 5 a)), none]) (L' := [some (.ref 10), some (.int a), some (.int (it (S.1 13) 5 a)), some (.int (it (S.1 15) 5 a)), none]) (st := []) ⟨rfl, ⟨rfl, ⟨rfl, ⟨rfl, trivial⟩⟩⟩⟩ ?_
        exact j_wt40_b50 10 (by decide)  _ _ _ _ h
      · have h := h.2 c
        refine j_A_gd (¬ (3 : Int32) = 0) (r1 := ((40, 45, [some (.ref 10), some (.int a), some (.int (it (S.1 13) 5 a)), some (.int (it (S.1 15) 5 a)), none], [.int ((S.1 10 10) - (S.1 10 10) / (3 : Int32) * (3 : Int32))]), S)) 4 rfl (by decide) ?_
        refine j_A_br (¬ ((S.1 10 10) - (S.1 10 10) / (3 : Int32) * (3 : Int32)) = 0) (r1 := ((40, 50, [some (.ref 10), some (.int a), some (.int (it (S.1 13) 5 a)), some (.int (it (S.1 15) 5 a)), none], []), S)) (r2 := ((40, 48, [some (.ref 10), some (.int a), some (.int (it (S.1 13) 5 a)), some (.int (it (S.1 15) 5 a)), none], []), S)) 1 rfl (fun c => ?_) (fun c => ?_)
        · have h := h.1 c
          refine j_ri_A.less (m := 40) (pc := 50) (L := [some (.ref 10), some (.int a), some (.int (it (S.1 13) 5 a)), some (.int (it (S.1 15) 5 a)), none]) (L' := [some (.ref 10), some (.int a), some (.int (it (S.1 13) 5 a)), some (.int (it (S.1 15) 5 a)), none]) (st := []) ⟨rfl, ⟨rfl, ⟨rfl, ⟨rfl, trivial⟩⟩⟩⟩ ?_
          exact j_wt40_b50 10 (by decide)  _ _ _ _ h
        · have h := h.2 c
          exact j_A_ret 2 (m := 40) (v := some (.int (0 : Int32))) (S' := S) rfl rfl ⟨_, rfl, h⟩
    · have h := h.2 c
      refine j_A_call (j := 98) (As := [.ref 14, .int a]) (fr' := (40, 31, [some (.ref 10), some (.int a), some (.int (it (S.1 13) 5 a)), some (.int (it (S.1 15) 5 a)), none], [])) (S' := S) 4 rfl (e := 0) (by omega) (j_sp_item 14 5 _ ⟨by decide, by decide, rfl⟩ (by decide) ?_)
      refine j_A_gd (¬ (2 : Int32) = 0) (r1 := ((40, 33, [some (.ref 10), some (.int a), some (.int (it (S.1 13) 5 a)), some (.int (it (S.1 15) 5 a)), none], [.int ((it (S.1 14) 5 a) - (it (S.1 14) 5 a) / (2 : Int32) * (2 : Int32))]), S)) 2 rfl (by decide) ?_
      exact j_A_ret 1 (m := 40) (v := some (.int ((it (S.1 14) 5 a) - (it (S.1 14) 5 a) / (2 : Int32) * (2 : Int32)))) (S' := S) rfl rfl ⟨_, rfl, h⟩
  · unfold w40 at h
    show j_ri_A E 2 (40, 0, [some (.ref 19), some (.int a), none, none, none], []) S (Qi Q)
    refine j_A_call (j := 98) (As := [.ref 22, .int a]) (fr' := (40, 8, [some (.ref 19), some (.int a), none, none, none], [])) (S' := S) 4 rfl (e := 0) (by omega) (j_sp_item 22 5 _ ⟨by decide, by decide, rfl⟩ (by decide) ?_)
    refine j_A_call (j := 98) (As := [.ref 24, .int a]) (fr' := (40, 17, [some (.ref 19), some (.int a), some (.int (it (S.1 22) 5 a)), none, none], [])) (S' := S) 5 rfl (e := 0) (by omega) (j_sp_item 24 5 _ ⟨by decide, by decide, rfl⟩ (by decide) ?_)
    refine j_A_br (¬ (it (S.1 22) 5 a) = (5 : Int32)) (r1 := ((40, 34, [some (.ref 19), some (.int a), some (.int (it (S.1 22) 5 a)), some (.int (it (S.1 24) 5 a)), none], []), S)) (r2 := ((40, 23, [some (.ref 19), some (.int a), some (.int (it (S.1 22) 5 a)), some (.int (it (S.1 24) 5 a)), none], []), S)) 4 rfl (fun c => ?_) (fun c => ?_)
    · have h := h.1 c
      refine j_A_br (¬ (it (S.1 22) 5 a) = (4 : Int32)) (r1 := ((40, 50, [some (.ref 19), some (.int a), some (.int (it (S.1 22) 5 a)), some (.int (it (S.1 24) 5 a)), none], []), S)) (r2 := ((40, 39, [some (.ref 19), some (.int a), some (.int (it (S.1 22) 5 a)), some (.int (it (S.1 24) 5 a)), none], []), S)) 3 rfl (fun c => ?_) (fun c => ?_)
      · have h := h.1 c
        refine j_ri_A.less (m := 40) (pc := 50) (L := [some (.ref 19), some (.int a), some (.int (it (S.1 22) 5 a)), some (.int (it (S.1 24) 5 a)), none]) (L' := [some (.ref 19), some (.int a), some (.int (it (S.1 22) 5 a)), some (.int (it (S.1 24) 5 a)), none]) (st := []) ⟨rfl, ⟨rfl, ⟨rfl, ⟨rfl, trivial⟩⟩⟩⟩ ?_
        exact j_wt40_b50 19 (by decide)  _ _ _ _ h
      · have h := h.2 c
        refine j_A_gd (¬ (3 : Int32) = 0) (r1 := ((40, 45, [some (.ref 19), some (.int a), some (.int (it (S.1 22) 5 a)), some (.int (it (S.1 24) 5 a)), none], [.int ((S.1 19 10) - (S.1 19 10) / (3 : Int32) * (3 : Int32))]), S)) 4 rfl (by decide) ?_
        refine j_A_br (¬ ((S.1 19 10) - (S.1 19 10) / (3 : Int32) * (3 : Int32)) = 0) (r1 := ((40, 50, [some (.ref 19), some (.int a), some (.int (it (S.1 22) 5 a)), some (.int (it (S.1 24) 5 a)), none], []), S)) (r2 := ((40, 48, [some (.ref 19), some (.int a), some (.int (it (S.1 22) 5 a)), some (.int (it (S.1 24) 5 a)), none], []), S)) 1 rfl (fun c => ?_) (fun c => ?_)
        · have h := h.1 c
          refine j_ri_A.less (m := 40) (pc := 50) (L := [some (.ref 19), some (.int a), some (.int (it (S.1 22) 5 a)), some (.int (it (S.1 24) 5 a)), none]) (L' := [some (.ref 19), some (.int a), some (.int (it (S.1 22) 5 a)), some (.int (it (S.1 24) 5 a)), none]) (st := []) ⟨rfl, ⟨rfl, ⟨rfl, ⟨rfl, trivial⟩⟩⟩⟩ ?_
          exact j_wt40_b50 19 (by decide)  _ _ _ _ h
        · have h := h.2 c
          exact j_A_ret 2 (m := 40) (v := some (.int (0 : Int32))) (S' := S) rfl rfl ⟨_, rfl, h⟩
    · have h := h.2 c
      refine j_A_call (j := 98) (As := [.ref 23, .int a]) (fr' := (40, 31, [some (.ref 19), some (.int a), some (.int (it (S.1 22) 5 a)), some (.int (it (S.1 24) 5 a)), none], [])) (S' := S) 4 rfl (e := 0) (by omega) (j_sp_item 23 5 _ ⟨by decide, by decide, rfl⟩ (by decide) ?_)
      refine j_A_gd (¬ (2 : Int32) = 0) (r1 := ((40, 33, [some (.ref 19), some (.int a), some (.int (it (S.1 22) 5 a)), some (.int (it (S.1 24) 5 a)), none], [.int ((it (S.1 23) 5 a) - (it (S.1 23) 5 a) / (2 : Int32) * (2 : Int32))]), S)) 2 rfl (by decide) ?_
      exact j_A_ret 1 (m := 40) (v := some (.int ((it (S.1 23) 5 a) - (it (S.1 23) 5 a) / (2 : Int32) * (2 : Int32)))) (S' := S) rfl rfl ⟨_, rfl, h⟩
set_option maxRecDepth 10000 in
set_option maxHeartbeats 1000000 in
theorem j_wt41_b119 {E : ri_E} (w : Nat) (hw : w = 10 ∨ w = 19) {Q : Int32 → ri_H → Prop} (x3 : Int32) (S : ri_H) (h : w41_b119 w  Q x3 S) : j_ri_A E 2 (41, 119, [none, none, none, some (.int x3)], []) S (Qi Q) := by
  rcases hw with rfl | rfl
  · unfold w41_b119 at h
    refine j_A_call (j := 96) (As := [.int x3, .int (0 : Int32), .int (99 : Int32)]) (fr' := (41, 126, [none, none, none, some (.int x3)], [])) (S' := S) 4 rfl (e := 0) (by omega) (j_sp_held _ _ _ ?_)
    exact j_A_ret 1 (m := 41) (v := some (.int (hd x3 (0 : Int32) (99 : Int32)))) (S' := S) rfl rfl ⟨_, rfl, h⟩
  · unfold w41_b119 at h
    refine j_A_call (j := 96) (As := [.int x3, .int (0 : Int32), .int (99 : Int32)]) (fr' := (41, 126, [none, none, none, some (.int x3)], [])) (S' := S) 4 rfl (e := 0) (by omega) (j_sp_held _ _ _ ?_)
    exact j_A_ret 1 (m := 41) (v := some (.int (hd x3 (0 : Int32) (99 : Int32)))) (S' := S) rfl rfl ⟨_, rfl, h⟩
set_option maxRecDepth 10000 in
set_option maxHeartbeats 1000000 in
theorem j_wt41 {E : ri_E} (w : Nat) (hw : w = 10 ∨ w = 19) (a : Int32) {S : ri_H} {Q : Int32 → ri_H → Prop} (h : w41 w a S Q) : j_ri_A E 2 (ri_en 41 [.ref w, .int a]) S (Qi Q) := by
  rcases hw with rfl | rfl
  · unfold w41 at h
    show j_ri_A E 2 (41, 0, [some (.ref 10), some (.int a), none, none], []) S (Qi Q)
    refine j_A_call (j := 98) (As := [.ref 13, .int a]) (fr' := (41, 8, [some (.ref 10), some (.int a), none, none], [])) (S' := S) 4 rfl (e := 0) (by omega) (j_sp_item 13 5 _ ⟨by decide, by decide, rfl⟩ (by decide) ?_)
    refine j_A_br (¬ (it (S.1 13) 5 a) = (5 : Int32)) (r1 := ((41, 16, [some (.ref 10), some (.int a), some (.int (it (S.1 13) 5 a)), none], []), S)) (r2 := ((41, 14, [some (.ref 10), some (.int a), some (.int (it (S.1 13) 5 a)), none], []), S)) 4 rfl (fun c => ?_) (fun c => ?_)
    · have h := h.1 c
      refine j_A_call (j := 98) (As := [.ref 15, .int a]) (fr' := (41, 37, [some (.ref 10), some (.int a), some (.int (it (S.1 13) 5 a)), none], [.ref 10, .int a, .ref 10, .int (1 : Int32), .int (S.1 10 11), .ref 1, .int (0 : Int32)])) (S' := S) 13 rfl (e := 0) (by omega) (j_sp_item 15 5 _ ⟨by decide, by decide, rfl⟩ (by decide) ?_)
      refine j_A_call (j := 44) (As := [.ref 10, .int (it (S.1 15) 5 a)]) (fr' := (41, 40, [some (.ref 10), some (.int a), some (.int (it (S.1 13) 5 a)), none], [.int a, .ref 10, .int (1 : Int32), .int (S.1 10 11), .ref 1, .int (0 : Int32)])) (S' := S) 1 rfl (e := 1) (by omega) (j_A_imp (j_wt44 10 (by decide) (it (S.1 15) 5 a) h) (fun v S1 hq => ?_))
      obtain ⟨r2, hv, h⟩ := hq
      subst hv
      refine j_A_call (j := 45) (As := [.ref 10, .int a, .int r2]) (fr' := (41, 43, [some (.ref 10), some (.int a), some (.int (it (S.1 13) 5 a)), none], [.int (1 : Int32), .int (S.1 10 11), .ref 1, .int (0 : Int32)])) (S' := S1) 1 rfl (e := 1) (by omega) (j_sp_namesOf 10 (by decide) _ _ ?_)
      refine j_A_call (j := 30) (As := [.ref 1, .int (S.1 10 11), .int (1 : Int32), .ref 18]) (fr' := (41, 46, [some (.ref 10), some (.int a), some (.int (it (S.1 13) 5 a)), none], [.int (0 : Int32)])) (S' := (nms S1 10 a r2)) 1 rfl (e := 1) (by omega) (j_A_imp (j_wt30 18 (by decide) (S.1 10 11) (1 : Int32) h) (fun v S3 hq => ?_))
      obtain ⟨r4, hv, h⟩ := hq
      subst hv
      refine j_A_nx 4 (fr' := (41, ri_tgt 51 (68) (1) (4) [29, 36, 43, 59] (it (S.1 13) 5 a), [some (.ref 10), some (.int a), some (.int (it (S.1 13) 5 a)), some (.int (if (0 : Int32) < r4 then r4 else (0 : Int32)))], [])) (S' := S3) rfl ?_
      rcases ri_swc (it (S.1 13) 5 a) (1) 4 (by decide) (by decide) with c | ⟨i, hi, c⟩
      · have c : (it (S.1 13) 5 a) < Int32.ofInt (1) ∨ Int32.ofInt (4) < (it (S.1 13) 5 a) := c
        have h := h.1 c
        rw [ri_tgt_out (it (S.1 13) 5 a) c (by decide) (by decide)]
        refine j_ri_A.less (m := 41) (pc := 119) (L := [some (.ref 10), some (.int a), some (.int (it (S.1 13) 5 a)), some (.int (if (0 : Int32) < r4 then r4 else (0 : Int32)))]) (L' := [none, none, none, some (.int (if (0 : Int32) < r4 then r4 else (0 : Int32)))]) (st := []) ⟨rfl, trivial⟩ ?_
        exact j_wt41_b119 10 (by decide)  _ _ h
      · have h := h.2
        match i, hi, c with
        | 0, hi, c =>
          have c : (it (S.1 13) 5 a) = (1 : Int32) := c
          have h := h.1 c
          rw [show ri_tgt 51 (68) (1) (4) [29, 36, 43, 59] (it (S.1 13) 5 a) = 80 by rw [c]; decide]
          have h := h _ rfl
          refine j_A_nx 5 (fr' := (41, 119, [some (.ref 10), some (.int a), some (.int (it (S.1 13) 5 a)), some (.int ((2 : Int32) * (if (0 : Int32) < r4 then r4 else (0 : Int32))))], [])) (S' := S3) rfl ?_
          refine j_ri_A.less (m := 41) (pc := 119) (L := [some (.ref 10), some (.int a), some (.int (it (S.1 13) 5 a)), some (.int ((2 : Int32) * (if (0 : Int32) < r4 then r4 else (0 : Int32))))]) (L' := [none, none, none, some (.int ((2 : Int32) * (if (0 : Int32) < r4 then r4 else (0 : Int32))))]) (st := []) ⟨rfl, trivial⟩ ?_
          exact j_wt41_b119 10 (by decide)  _ _ h
        | 1, hi, c =>
          have c : (it (S.1 13) 5 a) = (2 : Int32) := c
          have h := h.2.1 c
          rw [show ri_tgt 51 (68) (1) (4) [29, 36, 43, 59] (it (S.1 13) 5 a) = 87 by rw [c]; decide]
          have h := h _ rfl
          refine j_A_nx 5 (fr' := (41, 119, [some (.ref 10), some (.int a), some (.int (it (S.1 13) 5 a)), some (.int ((if (0 : Int32) < r4 then r4 else (0 : Int32)) + (1 : Int32)))], [])) (S' := S3) rfl ?_
          refine j_ri_A.less (m := 41) (pc := 119) (L := [some (.ref 10), some (.int a), some (.int (it (S.1 13) 5 a)), some (.int ((if (0 : Int32) < r4 then r4 else (0 : Int32)) + (1 : Int32)))]) (L' := [none, none, none, some (.int ((if (0 : Int32) < r4 then r4 else (0 : Int32)) + (1 : Int32)))]) (st := []) ⟨rfl, trivial⟩ ?_
          exact j_wt41_b119 10 (by decide)  _ _ h
        | 2, hi, c =>
          have c : (it (S.1 13) 5 a) = (3 : Int32) := c
          have h := h.2.2.1 c
          rw [show ri_tgt 51 (68) (1) (4) [29, 36, 43, 59] (it (S.1 13) 5 a) = 94 by rw [c]; decide]
          refine j_A_call (j := 98) (As := [.ref 14, .int a]) (fr' := (41, 105, [some (.ref 10), some (.int a), some (.int (it (S.1 13) 5 a)), some (.int (if (0 : Int32) < r4 then r4 else (0 : Int32)))], [.int ((2 : Int32) * (if (0 : Int32) < r4 then r4 else (0 : Int32)))])) (S' := S3) 7 rfl (e := 0) (by omega) (j_sp_item 14 5 _ ⟨by decide, by decide, rfl⟩ (by decide) ?_)
          have h := h _ rfl
          refine j_A_nx 3 (fr' := (41, 119, [some (.ref 10), some (.int a), some (.int (it (S.1 13) 5 a)), some (.int (((2 : Int32) * (if (0 : Int32) < r4 then r4 else (0 : Int32))) + (it (S3.1 14) 5 a)))], [])) (S' := S3) rfl ?_
          refine j_ri_A.less (m := 41) (pc := 119) (L := [some (.ref 10), some (.int a), some (.int (it (S.1 13) 5 a)), some (.int (((2 : Int32) * (if (0 : Int32) < r4 then r4 else (0 : Int32))) + (it (S3.1 14) 5 a)))]) (L' := [none, none, none, some (.int (((2 : Int32) * (if (0 : Int32) < r4 then r4 else (0 : Int32))) + (it (S3.1 14) 5 a)))]) (st := []) ⟨rfl, trivial⟩ ?_
          exact j_wt41_b119 10 (by decide)  _ _ h
        | 3, hi, c =>
          have c : (it (S.1 13) 5 a) = (4 : Int32) := c
          have h := h.2.2.2 c
          rw [show ri_tgt 51 (68) (1) (4) [29, 36, 43, 59] (it (S.1 13) 5 a) = 110 by rw [c]; decide]
          refine j_A_gd (¬ (2 : Int32) = 0) (r1 := ((41, 115, [some (.ref 10), some (.int a), some (.int (it (S.1 13) 5 a)), some (.int (if (0 : Int32) < r4 then r4 else (0 : Int32)))], [.int (((if (0 : Int32) < r4 then r4 else (0 : Int32)) + (1 : Int32)) / (2 : Int32))]), S3)) 5 rfl (by decide) ?_
          have h := h _ rfl
          refine j_A_nx 2 (fr' := (41, 119, [some (.ref 10), some (.int a), some (.int (it (S.1 13) 5 a)), some (.int (((if (0 : Int32) < r4 then r4 else (0 : Int32)) + (1 : Int32)) / (2 : Int32)))], [])) (S' := S3) rfl ?_
          refine j_ri_A.less (m := 41) (pc := 119) (L := [some (.ref 10), some (.int a), some (.int (it (S.1 13) 5 a)), some (.int (((if (0 : Int32) < r4 then r4 else (0 : Int32)) + (1 : Int32)) / (2 : Int32)))]) (L' := [none, none, none, some (.int (((if (0 : Int32) < r4 then r4 else (0 : Int32)) + (1 : Int32)) / (2 : Int32)))]) (st := []) ⟨rfl, trivial⟩ ?_
          exact j_wt41_b119 10 (by decide)  _ _ h
        | i + 4, hi, c => exact absurd hi (by omega)
    · have h := h.2 c
      exact j_A_ret 2 (m := 41) (v := some (.int (0 : Int32))) (S' := S) rfl rfl ⟨_, rfl, h⟩
  · unfold w41 at h
    show j_ri_A E 2 (41, 0, [some (.ref 19), some (.int a), none, none], []) S (Qi Q)
    refine j_A_call (j := 98) (As := [.ref 22, .int a]) (fr' := (41, 8, [some (.ref 19), some (.int a), none, none], [])) (S' := S) 4 rfl (e := 0) (by omega) (j_sp_item 22 5 _ ⟨by decide, by decide, rfl⟩ (by decide) ?_)
    refine j_A_br (¬ (it (S.1 22) 5 a) = (5 : Int32)) (r1 := ((41, 16, [some (.ref 19), some (.int a), some (.int (it (S.1 22) 5 a)), none], []), S)) (r2 := ((41, 14, [some (.ref 19), some (.int a), some (.int (it (S.1 22) 5 a)), none], []), S)) 4 rfl (fun c => ?_) (fun c => ?_)
    · have h := h.1 c
      refine j_A_call (j := 98) (As := [.ref 24, .int a]) (fr' := (41, 37, [some (.ref 19), some (.int a), some (.int (it (S.1 22) 5 a)), none], [.ref 19, .int a, .ref 19, .int (1 : Int32), .int (S.1 19 11), .ref 1, .int (0 : Int32)])) (S' := S) 13 rfl (e := 0) (by omega) (j_sp_item 24 5 _ ⟨by decide, by decide, rfl⟩ (by decide) ?_)
      refine j_A_call (j := 44) (As := [.ref 19, .int (it (S.1 24) 5 a)]) (fr' := (41, 40, [some (.ref 19), some (.int a), some (.int (it (S.1 22) 5 a)), none], [.int a, .ref 19, .int (1 : Int32), .int (S.1 19 11), .ref 1, .int (0 : Int32)])) (S' := S) 1 rfl (e := 1) (by omega) (j_A_imp (j_wt44 19 (by decide) (it (S.1 24) 5 a) h) (fun v S1 hq => ?_))
      obtain ⟨r2, hv, h⟩ := hq
      subst hv
      refine j_A_call (j := 45) (As := [.ref 19, .int a, .int r2]) (fr' := (41, 43, [some (.ref 19), some (.int a), some (.int (it (S.1 22) 5 a)), none], [.int (1 : Int32), .int (S.1 19 11), .ref 1, .int (0 : Int32)])) (S' := S1) 1 rfl (e := 1) (by omega) (j_sp_namesOf 19 (by decide) _ _ ?_)
      refine j_A_call (j := 30) (As := [.ref 1, .int (S.1 19 11), .int (1 : Int32), .ref 27]) (fr' := (41, 46, [some (.ref 19), some (.int a), some (.int (it (S.1 22) 5 a)), none], [.int (0 : Int32)])) (S' := (nms S1 19 a r2)) 1 rfl (e := 1) (by omega) (j_A_imp (j_wt30 27 (by decide) (S.1 19 11) (1 : Int32) h) (fun v S3 hq => ?_))
      obtain ⟨r4, hv, h⟩ := hq
      subst hv
      refine j_A_nx 4 (fr' := (41, ri_tgt 51 (68) (1) (4) [29, 36, 43, 59] (it (S.1 22) 5 a), [some (.ref 19), some (.int a), some (.int (it (S.1 22) 5 a)), some (.int (if (0 : Int32) < r4 then r4 else (0 : Int32)))], [])) (S' := S3) rfl ?_
      rcases ri_swc (it (S.1 22) 5 a) (1) 4 (by decide) (by decide) with c | ⟨i, hi, c⟩
      · have c : (it (S.1 22) 5 a) < Int32.ofInt (1) ∨ Int32.ofInt (4) < (it (S.1 22) 5 a) := c
        have h := h.1 c
        rw [ri_tgt_out (it (S.1 22) 5 a) c (by decide) (by decide)]
        refine j_ri_A.less (m := 41) (pc := 119) (L := [some (.ref 19), some (.int a), some (.int (it (S.1 22) 5 a)), some (.int (if (0 : Int32) < r4 then r4 else (0 : Int32)))]) (L' := [none, none, none, some (.int (if (0 : Int32) < r4 then r4 else (0 : Int32)))]) (st := []) ⟨rfl, trivial⟩ ?_
        exact j_wt41_b119 19 (by decide)  _ _ h
      · have h := h.2
        match i, hi, c with
        | 0, hi, c =>
          have c : (it (S.1 22) 5 a) = (1 : Int32) := c
          have h := h.1 c
          rw [show ri_tgt 51 (68) (1) (4) [29, 36, 43, 59] (it (S.1 22) 5 a) = 80 by rw [c]; decide]
          have h := h _ rfl
          refine j_A_nx 5 (fr' := (41, 119, [some (.ref 19), some (.int a), some (.int (it (S.1 22) 5 a)), some (.int ((2 : Int32) * (if (0 : Int32) < r4 then r4 else (0 : Int32))))], [])) (S' := S3) rfl ?_
          refine j_ri_A.less (m := 41) (pc := 119) (L := [some (.ref 19), some (.int a), some (.int (it (S.1 22) 5 a)), some (.int ((2 : Int32) * (if (0 : Int32) < r4 then r4 else (0 : Int32))))]) (L' := [none, none, none, some (.int ((2 : Int32) * (if (0 : Int32) < r4 then r4 else (0 : Int32))))]) (st := []) ⟨rfl, trivial⟩ ?_
          exact j_wt41_b119 19 (by decide)  _ _ h
        | 1, hi, c =>
          have c : (it (S.1 22) 5 a) = (2 : Int32) := c
          have h := h.2.1 c
          rw [show ri_tgt 51 (68) (1) (4) [29, 36, 43, 59] (it (S.1 22) 5 a) = 87 by rw [c]; decide]
          have h := h _ rfl
          refine j_A_nx 5 (fr' := (41, 119, [some (.ref 19), some (.int a), some (.int (it (S.1 22) 5 a)), some (.int ((if (0 : Int32) < r4 then r4 else (0 : Int32)) + (1 : Int32)))], [])) (S' := S3) rfl ?_
          refine j_ri_A.less (m := 41) (pc := 119) (L := [some (.ref 19), some (.int a), some (.int (it (S.1 22) 5 a)), some (.int ((if (0 : Int32) < r4 then r4 else (0 : Int32)) + (1 : Int32)))]) (L' := [none, none, none, some (.int ((if (0 : Int32) < r4 then r4 else (0 : Int32)) + (1 : Int32)))]) (st := []) ⟨rfl, trivial⟩ ?_
          exact j_wt41_b119 19 (by decide)  _ _ h
        | 2, hi, c =>
          have c : (it (S.1 22) 5 a) = (3 : Int32) := c
          have h := h.2.2.1 c
          rw [show ri_tgt 51 (68) (1) (4) [29, 36, 43, 59] (it (S.1 22) 5 a) = 94 by rw [c]; decide]
          refine j_A_call (j := 98) (As := [.ref 23, .int a]) (fr' := (41, 105, [some (.ref 19), some (.int a), some (.int (it (S.1 22) 5 a)), some (.int (if (0 : Int32) < r4 then r4 else (0 : Int32)))], [.int ((2 : Int32) * (if (0 : Int32) < r4 then r4 else (0 : Int32)))])) (S' := S3) 7 rfl (e := 0) (by omega) (j_sp_item 23 5 _ ⟨by decide, by decide, rfl⟩ (by decide) ?_)
          have h := h _ rfl
          refine j_A_nx 3 (fr' := (41, 119, [some (.ref 19), some (.int a), some (.int (it (S.1 22) 5 a)), some (.int (((2 : Int32) * (if (0 : Int32) < r4 then r4 else (0 : Int32))) + (it (S3.1 23) 5 a)))], [])) (S' := S3) rfl ?_
          refine j_ri_A.less (m := 41) (pc := 119) (L := [some (.ref 19), some (.int a), some (.int (it (S.1 22) 5 a)), some (.int (((2 : Int32) * (if (0 : Int32) < r4 then r4 else (0 : Int32))) + (it (S3.1 23) 5 a)))]) (L' := [none, none, none, some (.int (((2 : Int32) * (if (0 : Int32) < r4 then r4 else (0 : Int32))) + (it (S3.1 23) 5 a)))]) (st := []) ⟨rfl, trivial⟩ ?_
          exact j_wt41_b119 19 (by decide)  _ _ h
        | 3, hi, c =>
          have c : (it (S.1 22) 5 a) = (4 : Int32) := c
          have h := h.2.2.2 c
          rw [show ri_tgt 51 (68) (1) (4) [29, 36, 43, 59] (it (S.1 22) 5 a) = 110 by rw [c]; decide]
          refine j_A_gd (¬ (2 : Int32) = 0) (r1 := ((41, 115, [some (.ref 19), some (.int a), some (.int (it (S.1 22) 5 a)), some (.int (if (0 : Int32) < r4 then r4 else (0 : Int32)))], [.int (((if (0 : Int32) < r4 then r4 else (0 : Int32)) + (1 : Int32)) / (2 : Int32))]), S3)) 5 rfl (by decide) ?_
          have h := h _ rfl
          refine j_A_nx 2 (fr' := (41, 119, [some (.ref 19), some (.int a), some (.int (it (S.1 22) 5 a)), some (.int (((if (0 : Int32) < r4 then r4 else (0 : Int32)) + (1 : Int32)) / (2 : Int32)))], [])) (S' := S3) rfl ?_
          refine j_ri_A.less (m := 41) (pc := 119) (L := [some (.ref 19), some (.int a), some (.int (it (S.1 22) 5 a)), some (.int (((if (0 : Int32) < r4 then r4 else (0 : Int32)) + (1 : Int32)) / (2 : Int32)))]) (L' := [none, none, none, some (.int (((if (0 : Int32) < r4 then r4 else (0 : Int32)) + (1 : Int32)) / (2 : Int32)))]) (st := []) ⟨rfl, trivial⟩ ?_
          exact j_wt41_b119 19 (by decide)  _ _ h
        | i + 4, hi, c => exact absurd hi (by omega)
    · have h := h.2 c
      exact j_A_ret 2 (m := 41) (v := some (.int (0 : Int32))) (S' := S) rfl rfl ⟨_, rfl, h⟩
set_option maxRecDepth 10000 in
set_option maxHeartbeats 1000000 in
theorem j_wt39_b30 {E : ri_E} (w : Nat) (hw : w = 10 ∨ w = 19) {K2 : Int32 → Int32 → ri_H → Prop} {Q : ri_H → Prop} (hK2 : ∀ (x1 : Int32) (x2 : Int32) (S : ri_H), K2 x1 x2 S → j_ri_A E 3 (39, 2, [some (.ref w), some (.int x1), some (.int x2), none, none, none, none], []) S (Qv Q)) (x1 : Int32) (x2 : Int32) (s0 : Int32) (S : ri_H) (h : w39_b30 w K2 Q x1 x2 s0 S) : j_ri_A E 3 (39, 30, [some (.ref w), some (.int x1), some (.int x2), none, none, none, none], [.int s0]) S (Qv Q) := by
  rcases hw with rfl | rfl
  · unfold w39_b30 at h
    refine j_A_call (j := 41) (As := [.ref 10, .int x2]) (fr' := (39, 36, [some (.ref 10), some (.int x1), some (.int x2), some (.int s0), none, none, none], [])) (S' := S) 4 rfl (e := 2) (by omega) (j_A_imp (j_wt41 10 (by decide) x2 h) (fun v S3 hq => ?_))
    obtain ⟨r4, hv, h⟩ := hq
    subst hv
    refine j_A_call (j := 98) (As := [.ref 15, .int x2]) (fr' := (39, 47, [some (.ref 10), some (.int x1), some (.int x2), some (.int s0), some (.int r4), none, none], [.int (2 : Int32)])) (S' := S3) 6 rfl (e := 0) (by omega) (j_sp_item 15 5 _ ⟨by decide, by decide, rfl⟩ (by decide) ?_)
    refine j_A_call (j := 98) (As := [.ref 15, .int x2]) (fr' := (39, 61, [some (.ref 10), some (.int x1), some (.int x2), some (.int s0), some (.int r4), some (.int (((2 : Int32) * (it (S3.1 15) 5 x2)) + s0)), none], [.int (2 : Int32)])) (S' := S3) 9 rfl (e := 0) (by omega) (j_sp_item 15 5 _ ⟨by decide, by decide, rfl⟩ (by decide) ?_)
    have h := h _ rfl
    refine j_A_call (j := 98) (As := [.ref 12, .int ((((2 : Int32) * (it (S3.1 15) 5 x2)) + (1 : Int32)) - s0)]) (fr' := (39, 86, [some (.ref 10), some (.int x1), some (.int x2), some (.int s0), some (.int r4), some (.int (((2 : Int32) * (it (S3.1 15) 5 x2)) + s0)), some (.int ((((2 : Int32) * (it (S3.1 15) 5 x2)) + (1 : Int32)) - s0))], [.int (999 : Int32), .int ((((2 : Int32) * (it (S3.1 15) 5 x2)) + (1 : Int32)) - s0), .ref 12])) (S' := S3) 14 rfl (e := 0) (by omega) (j_sp_item 12 24 _ ⟨by decide, by decide, rfl⟩ (by decide) ?_)
    refine j_A_call (j := 99) (As := [.ref 12, .int ((((2 : Int32) * (it (S3.1 15) 5 x2)) + (1 : Int32)) - s0), .int (if ((it (S3.1 12) 24 ((((2 : Int32) * (it (S3.1 15) 5 x2)) + (1 : Int32)) - s0)) + r4) < (999 : Int32) then ((it (S3.1 12) 24 ((((2 : Int32) * (it (S3.1 15) 5 x2)) + (1 : Int32)) - s0)) + r4) else (999 : Int32))]) (fr' := (39, 95, [some (.ref 10), some (.int x1), some (.int x2), some (.int s0), some (.int r4), some (.int (((2 : Int32) * (it (S3.1 15) 5 x2)) + s0)), some (.int ((((2 : Int32) * (it (S3.1 15) 5 x2)) + (1 : Int32)) - s0))], [])) (S' := S3) 4 rfl (e := 0) (by omega) (j_sp_putItem 12 24 _ _ ⟨by decide, by decide, rfl⟩ (by decide) ?_)
    refine j_A_call (j := 98) (As := [.ref 11, .int (((2 : Int32) * (it (S3.1 15) 5 x2)) + s0)]) (fr' := (39, 109, [some (.ref 10), some (.int x1), some (.int x2), some (.int s0), some (.int r4), some (.int (((2 : Int32) * (it (S3.1 15) 5 x2)) + s0)), some (.int ((((2 : Int32) * (it (S3.1 15) 5 x2)) + (1 : Int32)) - s0))], [.int x2, .ref 15])) (S' := (ri_wr S3 12 (pu 24 (S3.1 12) ((((2 : Int32) * (it (S3.1 15) 5 x2)) + (1 : Int32)) - s0) (if ((it (S3.1 12) 24 ((((2 : Int32) * (it (S3.1 15) 5 x2)) + (1 : Int32)) - s0)) + r4) < (999 : Int32) then ((it (S3.1 12) 24 ((((2 : Int32) * (it (S3.1 15) 5 x2)) + (1 : Int32)) - s0)) + r4) else (999 : Int32))))) 7 rfl (e := 0) (by omega) (j_sp_item 11 24 _ ⟨by decide, by decide, rfl⟩ (by decide) ?_)
    refine j_A_call (j := 99) (As := [.ref 15, .int x2, .int (it (S3.1 11) 24 (((2 : Int32) * (it (S3.1 15) 5 x2)) + s0))]) (fr' := (39, 112, [some (.ref 10), some (.int x1), some (.int x2), some (.int s0), some (.int r4), some (.int (((2 : Int32) * (it (S3.1 15) 5 x2)) + s0)), some (.int ((((2 : Int32) * (it (S3.1 15) 5 x2)) + (1 : Int32)) - s0))], [])) (S' := (ri_wr S3 12 (pu 24 (S3.1 12) ((((2 : Int32) * (it (S3.1 15) 5 x2)) + (1 : Int32)) - s0) (if ((it (S3.1 12) 24 ((((2 : Int32) * (it (S3.1 15) 5 x2)) + (1 : Int32)) - s0)) + r4) < (999 : Int32) then ((it (S3.1 12) 24 ((((2 : Int32) * (it (S3.1 15) 5 x2)) + (1 : Int32)) - s0)) + r4) else (999 : Int32))))) 1 rfl (e := 0) (by omega) (j_sp_putItem 15 5 _ _ ⟨by decide, by decide, rfl⟩ (by decide) ?_)
    refine j_A_nx 2 (fr' := (39, 2, [some (.ref 10), some (.int x1), some (.int (x2 + (1 : Int32))), some (.int s0), some (.int r4), some (.int (((2 : Int32) * (it (S3.1 15) 5 x2)) + s0)), some (.int ((((2 : Int32) * (it (S3.1 15) 5 x2)) + (1 : Int32)) - s0))], [])) (S' := (ri_wr (ri_wr S3 12 (pu 24 (S3.1 12) ((((2 : Int32) * (it (S3.1 15) 5 x2)) + (1 : Int32)) - s0) (if ((it (S3.1 12) 24 ((((2 : Int32) * (it (S3.1 15) 5 x2)) + (1 : Int32)) - s0)) + r4) < (999 : Int32) then ((it (S3.1 12) 24 ((((2 : Int32) * (it (S3.1 15) 5 x2)) + (1 : Int32)) - s0)) + r4) else (999 : Int32)))) 15 (pu 5 (S3.1 15) x2 (it (S3.1 11) 24 (((2 : Int32) * (it (S3.1 15) 5 x2)) + s0))))) rfl ?_
    refine j_ri_A.less (m := 39) (pc := 2) (L := [some (.ref 10), some (.int x1), some (.int (x2 + (1 : Int32))), some (.int s0), some (.int r4), some (.int (((2 : Int32) * (it (S3.1 15) 5 x2)) + s0)), some (.int ((((2 : Int32) * (it (S3.1 15) 5 x2)) + (1 : Int32)) - s0))]) (L' := [some (.ref 10), some (.int x1), some (.int (x2 + (1 : Int32))), none, none, none, none]) (st := []) ⟨rfl, ⟨rfl, ⟨rfl, trivial⟩⟩⟩ ?_
    exact hK2 _ _ _ h
  · unfold w39_b30 at h
    refine j_A_call (j := 41) (As := [.ref 19, .int x2]) (fr' := (39, 36, [some (.ref 19), some (.int x1), some (.int x2), some (.int s0), none, none, none], [])) (S' := S) 4 rfl (e := 2) (by omega) (j_A_imp (j_wt41 19 (by decide) x2 h) (fun v S3 hq => ?_))
    obtain ⟨r4, hv, h⟩ := hq
    subst hv
    refine j_A_call (j := 98) (As := [.ref 24, .int x2]) (fr' := (39, 47, [some (.ref 19), some (.int x1), some (.int x2), some (.int s0), some (.int r4), none, none], [.int (2 : Int32)])) (S' := S3) 6 rfl (e := 0) (by omega) (j_sp_item 24 5 _ ⟨by decide, by decide, rfl⟩ (by decide) ?_)
    refine j_A_call (j := 98) (As := [.ref 24, .int x2]) (fr' := (39, 61, [some (.ref 19), some (.int x1), some (.int x2), some (.int s0), some (.int r4), some (.int (((2 : Int32) * (it (S3.1 24) 5 x2)) + s0)), none], [.int (2 : Int32)])) (S' := S3) 9 rfl (e := 0) (by omega) (j_sp_item 24 5 _ ⟨by decide, by decide, rfl⟩ (by decide) ?_)
    have h := h _ rfl
    refine j_A_call (j := 98) (As := [.ref 21, .int ((((2 : Int32) * (it (S3.1 24) 5 x2)) + (1 : Int32)) - s0)]) (fr' := (39, 86, [some (.ref 19), some (.int x1), some (.int x2), some (.int s0), some (.int r4), some (.int (((2 : Int32) * (it (S3.1 24) 5 x2)) + s0)), some (.int ((((2 : Int32) * (it (S3.1 24) 5 x2)) + (1 : Int32)) - s0))], [.int (999 : Int32), .int ((((2 : Int32) * (it (S3.1 24) 5 x2)) + (1 : Int32)) - s0), .ref 21])) (S' := S3) 14 rfl (e := 0) (by omega) (j_sp_item 21 24 _ ⟨by decide, by decide, rfl⟩ (by decide) ?_)
    refine j_A_call (j := 99) (As := [.ref 21, .int ((((2 : Int32) * (it (S3.1 24) 5 x2)) + (1 : Int32)) - s0), .int (if ((it (S3.1 21) 24 ((((2 : Int32) * (it (S3.1 24) 5 x2)) + (1 : Int32)) - s0)) + r4) < (999 : Int32) then ((it (S3.1 21) 24 ((((2 : Int32) * (it (S3.1 24) 5 x2)) + (1 : Int32)) - s0)) + r4) else (999 : Int32))]) (fr' := (39, 95, [some (.ref 19), some (.int x1), some (.int x2), some (.int s0), some (.int r4), some (.int (((2 : Int32) * (it (S3.1 24) 5 x2)) + s0)), some (.int ((((2 : Int32) * (it (S3.1 24) 5 x2)) + (1 : Int32)) - s0))], [])) (S' := S3) 4 rfl (e := 0) (by omega) (j_sp_putItem 21 24 _ _ ⟨by decide, by decide, rfl⟩ (by decide) ?_)
    refine j_A_call (j := 98) (As := [.ref 20, .int (((2 : Int32) * (it (S3.1 24) 5 x2)) + s0)]) (fr' := (39, 109, [some (.ref 19), some (.int x1), some (.int x2), some (.int s0), some (.int r4), some (.int (((2 : Int32) * (it (S3.1 24) 5 x2)) + s0)), some (.int ((((2 : Int32) * (it (S3.1 24) 5 x2)) + (1 : Int32)) - s0))], [.int x2, .ref 24])) (S' := (ri_wr S3 21 (pu 24 (S3.1 21) ((((2 : Int32) * (it (S3.1 24) 5 x2)) + (1 : Int32)) - s0) (if ((it (S3.1 21) 24 ((((2 : Int32) * (it (S3.1 24) 5 x2)) + (1 : Int32)) - s0)) + r4) < (999 : Int32) then ((it (S3.1 21) 24 ((((2 : Int32) * (it (S3.1 24) 5 x2)) + (1 : Int32)) - s0)) + r4) else (999 : Int32))))) 7 rfl (e := 0) (by omega) (j_sp_item 20 24 _ ⟨by decide, by decide, rfl⟩ (by decide) ?_)
    refine j_A_call (j := 99) (As := [.ref 24, .int x2, .int (it (S3.1 20) 24 (((2 : Int32) * (it (S3.1 24) 5 x2)) + s0))]) (fr' := (39, 112, [some (.ref 19), some (.int x1), some (.int x2), some (.int s0), some (.int r4), some (.int (((2 : Int32) * (it (S3.1 24) 5 x2)) + s0)), some (.int ((((2 : Int32) * (it (S3.1 24) 5 x2)) + (1 : Int32)) - s0))], [])) (S' := (ri_wr S3 21 (pu 24 (S3.1 21) ((((2 : Int32) * (it (S3.1 24) 5 x2)) + (1 : Int32)) - s0) (if ((it (S3.1 21) 24 ((((2 : Int32) * (it (S3.1 24) 5 x2)) + (1 : Int32)) - s0)) + r4) < (999 : Int32) then ((it (S3.1 21) 24 ((((2 : Int32) * (it (S3.1 24) 5 x2)) + (1 : Int32)) - s0)) + r4) else (999 : Int32))))) 1 rfl (e := 0) (by omega) (j_sp_putItem 24 5 _ _ ⟨by decide, by decide, rfl⟩ (by decide) ?_)
    refine j_A_nx 2 (fr' := (39, 2, [some (.ref 19), some (.int x1), some (.int (x2 + (1 : Int32))), some (.int s0), some (.int r4), some (.int (((2 : Int32) * (it (S3.1 24) 5 x2)) + s0)), some (.int ((((2 : Int32) * (it (S3.1 24) 5 x2)) + (1 : Int32)) - s0))], [])) (S' := (ri_wr (ri_wr S3 21 (pu 24 (S3.1 21) ((((2 : Int32) * (it (S3.1 24) 5 x2)) + (1 : Int32)) - s0) (if ((it (S3.1 21) 24 ((((2 : Int32) * (it (S3.1 24) 5 x2)) + (1 : Int32)) - s0)) + r4) < (999 : Int32) then ((it (S3.1 21) 24 ((((2 : Int32) * (it (S3.1 24) 5 x2)) + (1 : Int32)) - s0)) + r4) else (999 : Int32)))) 24 (pu 5 (S3.1 24) x2 (it (S3.1 20) 24 (((2 : Int32) * (it (S3.1 24) 5 x2)) + s0))))) rfl ?_
    refine j_ri_A.less (m := 39) (pc := 2) (L := [some (.ref 19), some (.int x1), some (.int (x2 + (1 : Int32))), some (.int s0), some (.int r4), some (.int (((2 : Int32) * (it (S3.1 24) 5 x2)) + s0)), some (.int ((((2 : Int32) * (it (S3.1 24) 5 x2)) + (1 : Int32)) - s0))]) (L' := [some (.ref 19), some (.int x1), some (.int (x2 + (1 : Int32))), none, none, none, none]) (st := []) ⟨rfl, ⟨rfl, ⟨rfl, trivial⟩⟩⟩ ?_
    exact hK2 _ _ _ h
set_option maxRecDepth 10000 in
set_option maxHeartbeats 1000000 in
theorem j_wt39_l2 {E : ri_E} (w : Nat) (hw : w = 10 ∨ w = 19) {Q : ri_H → Prop} : ∀ (n : Nat) (x1 : Int32) (x2 : Int32) (S : ri_H), w39_l2 w  Q n x1 x2 S → j_ri_A E 3 (39, 2, [some (.ref w), some (.int x1), some (.int x2), none, none, none, none], []) S (Qv Q) := by
  rcases hw with rfl | rfl
  · intro n
    induction n with
    | zero => intro x1 x2 S h; exact h.elim
    | succ n ih =>
      intro x1 x2 S h
      unfold w39_l2 at h
      refine j_A_br ((S.1 10 9) ≤ x2) (r1 := ((39, 118, [some (.ref 10), some (.int x1), some (.int x2), none, none, none, none], []), S)) (r2 := ((39, 10, [some (.ref 10), some (.int x1), some (.int x2), none, none, none, none], []), S)) 4 rfl (fun c => ?_) (fun c => ?_)
      · have h := h.1 c
        exact j_A_ret 7 (m := 39) (v := none) (S' := (ri_wi S 10 10 ((S.1 10 10) + (1 : Int32)))) rfl rfl ⟨rfl, h⟩
      · have h := h.2 c
        refine j_A_br (¬ x2 = x1) (r1 := ((39, 25, [some (.ref 10), some (.int x1), some (.int x2), none, none, none, none], []), S)) (r2 := ((39, 15, [some (.ref 10), some (.int x1), some (.int x2), none, none, none, none], []), S)) 3 rfl (fun c => ?_) (fun c => ?_)
        · have h := h.1 c
          refine j_A_call (j := 40) (As := [.ref 10, .int x2]) (fr' := (39, 30, [some (.ref 10), some (.int x1), some (.int x2), none, none, none, none], [])) (S' := S) 3 rfl (e := 2) (by omega) (j_A_imp (j_wt40 10 (by decide) x2 h) (fun v S1 hq => ?_))
          obtain ⟨r2, hv, h⟩ := hq
          subst hv
          refine j_ri_A.less (m := 39) (pc := 30) (L := [some (.ref 10), some (.int x1), some (.int x2), none, none, none, none]) (L' := [some (.ref 10), some (.int x1), some (.int x2), none, none, none, none]) (st := [.int r2]) ⟨rfl, ⟨rfl, ⟨rfl, trivial⟩⟩⟩ ?_
          exact j_wt39_b30 10 (by decide) (fun x1 x2 S hk => ih x1 x2 S hk) _ _ _ _ h
        · have h := h.2 c
          refine j_A_call (j := 40) (As := [.ref 10, .int x2]) (fr' := (39, 21, [some (.ref 10), some (.int x1), some (.int x2), none, none, none, none], [.int (1 : Int32)])) (S' := S) 4 rfl (e := 2) (by omega) (j_A_imp (j_wt40 10 (by decide) x2 h) (fun v S6 hq => ?_))
          obtain ⟨r7, hv, h⟩ := hq
          subst hv
          refine j_A_nx 2 (fr' := (39, 30, [some (.ref 10), some (.int x1), some (.int x2), none, none, none, none], [.int ((1 : Int32) - r7)])) (S' := S6) rfl ?_
          refine j_ri_A.less (m := 39) (pc := 30) (L := [some (.ref 10), some (.int x1), some (.int x2), none, none, none, none]) (L' := [some (.ref 10), some (.int x1), some (.int x2), none, none, none, none]) (st := [.int ((1 : Int32) - r7)]) ⟨rfl, ⟨rfl, ⟨rfl, trivial⟩⟩⟩ ?_
          exact j_wt39_b30 10 (by decide) (fun x1 x2 S hk => ih x1 x2 S hk) _ _ _ _ h
  · intro n
    induction n with
    | zero => intro x1 x2 S h; exact h.elim
    | succ n ih =>
      intro x1 x2 S h
      unfold w39_l2 at h
      refine j_A_br ((S.1 19 9) ≤ x2) (r1 := ((39, 118, [some (.ref 19), some (.int x1), some (.int x2), none, none, none, none], []), S)) (r2 := ((39, 10, [some (.ref 19), some (.int x1), some (.int x2), none, none, none, none], []), S)) 4 rfl (fun c => ?_) (fun c => ?_)
      · have h := h.1 c
        exact j_A_ret 7 (m := 39) (v := none) (S' := (ri_wi S 19 10 ((S.1 19 10) + (1 : Int32)))) rfl rfl ⟨rfl, h⟩
      · have h := h.2 c
        refine j_A_br (¬ x2 = x1) (r1 := ((39, 25, [some (.ref 19), some (.int x1), some (.int x2), none, none, none, none], []), S)) (r2 := ((39, 15, [some (.ref 19), some (.int x1), some (.int x2), none, none, none, none], []), S)) 3 rfl (fun c => ?_) (fun c => ?_)
        · have h := h.1 c
          refine j_A_call (j := 40) (As := [.ref 19, .int x2]) (fr' := (39, 30, [some (.ref 19), some (.int x1), some (.int x2), none, none, none, none], [])) (S' := S) 3 rfl (e := 2) (by omega) (j_A_imp (j_wt40 19 (by decide) x2 h) (fun v S1 hq => ?_))
          obtain ⟨r2, hv, h⟩ := hq
          subst hv
          refine j_ri_A.less (m := 39) (pc := 30) (L := [some (.ref 19), some (.int x1), some (.int x2), none, none, none, none]) (L' := [some (.ref 19), some (.int x1), some (.int x2), none, none, none, none]) (st := [.int r2]) ⟨rfl, ⟨rfl, ⟨rfl, trivial⟩⟩⟩ ?_
          exact j_wt39_b30 19 (by decide) (fun x1 x2 S hk => ih x1 x2 S hk) _ _ _ _ h
        · have h := h.2 c
          refine j_A_call (j := 40) (As := [.ref 19, .int x2]) (fr' := (39, 21, [some (.ref 19), some (.int x1), some (.int x2), none, none, none, none], [.int (1 : Int32)])) (S' := S) 4 rfl (e := 2) (by omega) (j_A_imp (j_wt40 19 (by decide) x2 h) (fun v S6 hq => ?_))
          obtain ⟨r7, hv, h⟩ := hq
          subst hv
          refine j_A_nx 2 (fr' := (39, 30, [some (.ref 19), some (.int x1), some (.int x2), none, none, none, none], [.int ((1 : Int32) - r7)])) (S' := S6) rfl ?_
          refine j_ri_A.less (m := 39) (pc := 30) (L := [some (.ref 19), some (.int x1), some (.int x2), none, none, none, none]) (L' := [some (.ref 19), some (.int x1), some (.int x2), none, none, none, none]) (st := [.int ((1 : Int32) - r7)]) ⟨rfl, ⟨rfl, ⟨rfl, trivial⟩⟩⟩ ?_
          exact j_wt39_b30 19 (by decide) (fun x1 x2 S hk => ih x1 x2 S hk) _ _ _ _ h
set_option maxRecDepth 10000 in
set_option maxHeartbeats 1000000 in
theorem j_wt39 {E : ri_E} (w : Nat) (hw : w = 10 ∨ w = 19) (a : Int32) {S : ri_H} {Q : ri_H → Prop} (h : w39 w a S Q) : j_ri_A E 3 (ri_en 39 [.ref w, .int a]) S (Qv Q) := by
  rcases hw with rfl | rfl
  · unfold w39 at h
    show j_ri_A E 3 (39, 0, [some (.ref 10), some (.int a), none, none, none, none, none], []) S (Qv Q)
    refine j_A_nx 2 (fr' := (39, 2, [some (.ref 10), some (.int a), some (.int (0 : Int32)), none, none, none, none], [])) (S' := S) rfl ?_
    refine j_ri_A.less (m := 39) (pc := 2) (L := [some (.ref 10), some (.int a), some (.int (0 : Int32)), none, none, none, none]) (L' := [some (.ref 10), some (.int a), some (.int (0 : Int32)), none, none, none, none]) (st := []) ⟨rfl, ⟨rfl, ⟨rfl, trivial⟩⟩⟩ ?_
    obtain ⟨nn, h⟩ := h
    exact j_wt39_l2 10 (by decide)  nn _ _ _ h
  · unfold w39 at h
    show j_ri_A E 3 (39, 0, [some (.ref 19), some (.int a), none, none, none, none, none], []) S (Qv Q)
    refine j_A_nx 2 (fr' := (39, 2, [some (.ref 19), some (.int a), some (.int (0 : Int32)), none, none, none, none], [])) (S' := S) rfl ?_
    refine j_ri_A.less (m := 39) (pc := 2) (L := [some (.ref 19), some (.int a), some (.int (0 : Int32)), none, none, none, none]) (L' := [some (.ref 19), some (.int a), some (.int (0 : Int32)), none, none, none, none]) (st := []) ⟨rfl, ⟨rfl, ⟨rfl, trivial⟩⟩⟩ ?_
    obtain ⟨nn, h⟩ := h
    exact j_wt39_l2 19 (by decide)  nn _ _ _ h
-- 22.class
set_option maxRecDepth 10000 in
set_option maxHeartbeats 1000000 in
theorem j_wt77 {E : ri_E} (a : Int32) {S : ri_H} {Q : Option Nat → ri_H → Prop} (h : w77  a S Q) : j_ri_A E 0 (ri_en 77 [.ref 0, .int a]) S (Qr Q) := by
  unfold w77 at h
  show j_ri_A E 0 (77, 0, [some (.ref 0), some (.int a)], []) S (Qr Q)
  refine j_A_nx 2 (fr' := (77, ri_tgt 1 (91) (0) (6) [43, 51, 91, 59, 67, 75, 83] a, [some (.ref 0), some (.int a)], [])) (S' := S) rfl ?_
  rcases ri_swc a (0) 7 (by decide) (by decide) with c | ⟨i, hi, c⟩
  · have c : a < Int32.ofInt (0) ∨ Int32.ofInt (6) < a := c
    have h := h.1 c
    rw [ri_tgt_out a c (by decide) (by decide)]
    exact j_A_ret 2 (m := 77) (v := some (.null)) (S' := S) rfl rfl ⟨none, rfl, h⟩
  · have h := h.2
    match i, hi, c with
    | 0, hi, c =>
      have c : a = (0 : Int32) := c
      have h := h.1 c
      rw [show ri_tgt 1 (91) (0) (6) [43, 51, 91, 59, 67, 75, 83] a = 44 by rw [c]; decide]
      exact j_A_ret 4 (m := 77) (v := some (.ref 11)) (S' := S) rfl rfl ⟨(some 11), rfl, h⟩
    | 1, hi, c =>
      have c : a = (1 : Int32) := c
      have h := h.2.1 c
      rw [show ri_tgt 1 (91) (0) (6) [43, 51, 91, 59, 67, 75, 83] a = 52 by rw [c]; decide]
      exact j_A_ret 4 (m := 77) (v := some (.ref 12)) (S' := S) rfl rfl ⟨(some 12), rfl, h⟩
    | 2, hi, c =>
      have c : a = (2 : Int32) := c
      have h := h.2.2.1 c
      rw [show ri_tgt 1 (91) (0) (6) [43, 51, 91, 59, 67, 75, 83] a = 92 by rw [c]; decide]
      exact j_A_ret 2 (m := 77) (v := some (.null)) (S' := S) rfl rfl ⟨none, rfl, h⟩
    | 3, hi, c =>
      have c : a = (3 : Int32) := c
      have h := h.2.2.2.1 c
      rw [show ri_tgt 1 (91) (0) (6) [43, 51, 91, 59, 67, 75, 83] a = 60 by rw [c]; decide]
      exact j_A_ret 4 (m := 77) (v := some (.ref 14)) (S' := S) rfl rfl ⟨(some 14), rfl, h⟩
    | 4, hi, c =>
      have c : a = (4 : Int32) := c
      have h := h.2.2.2.2.1 c
      rw [show ri_tgt 1 (91) (0) (6) [43, 51, 91, 59, 67, 75, 83] a = 68 by rw [c]; decide]
      exact j_A_ret 4 (m := 77) (v := some (.ref 15)) (S' := S) rfl rfl ⟨(some 15), rfl, h⟩
    | 5, hi, c =>
      have c : a = (5 : Int32) := c
      have h := h.2.2.2.2.2.1 c
      rw [show ri_tgt 1 (91) (0) (6) [43, 51, 91, 59, 67, 75, 83] a = 76 by rw [c]; decide]
      exact j_A_ret 4 (m := 77) (v := some (.ref 16)) (S' := S) rfl rfl ⟨(some 16), rfl, h⟩
    | 6, hi, c =>
      have c : a = (6 : Int32) := c
      have h := h.2.2.2.2.2.2 c
      rw [show ri_tgt 1 (91) (0) (6) [43, 51, 91, 59, 67, 75, 83] a = 84 by rw [c]; decide]
      exact j_A_ret 4 (m := 77) (v := some (.ref 17)) (S' := S) rfl rfl ⟨(some 17), rfl, h⟩
    | i + 7, hi, c => exact absurd hi (by omega)
theorem j_sp_rowOf {E : ri_E} {S : ri_H} {Q : Option Value → ri_H → Prop} (a : Int32) (h0 : a = 0 → Q (some (.ref 11)) S) (h1 : a = 1 → Q (some (.ref 12)) S) (h2 : a = 3 → Q (some (.ref 14)) S) (h3 : a = 4 → Q (some (.ref 15)) S) (h4 : a = 5 → Q (some (.ref 16)) S) (h5 : a = 6 → Q (some (.ref 17)) S) (h6 : (a < 0 ∨ 6 < a) ∨ a = 2 → Q (some .null) S) : j_ri_A E 0 (ri_en 77 [.ref 0, .int a]) S Q := by
  refine j_A_imp (j_wt77 a (Q := (fun o S1 => Q (some (ri_refn o)) S1)) ?_) (fun v S1 hv => ?_)
  · unfold w77
    exact ⟨fun c => h6 (Or.inl c), h0, h1, fun c => h6 (Or.inr c), h2, h3, h4, h5⟩
  · obtain ⟨o, rfl, h⟩ := hv
    exact h
theorem j_A_up {E : ri_E} {d e : Nat} {fr : ri_F} {S : ri_H} {Q : Option Value → ri_H → Prop} (h : j_ri_A E d fr S Q) (hde : d ≤ e) : j_ri_A E e fr S Q := j_A_mono h hde
theorem j_gl_ok {E : ri_E} : ∀ n : Nat, (∀ (a : Int32) (S : ri_H) (Q : ri_H → Prop), (gl n).1 a S Q → j_ri_A E (20 + 7 * n) (ri_en 16 [.ref 5, .int a]) S (Qv Q)) ∧ (∀ (a : Int32) (S : ri_H) (Q : ri_H → Prop), (gl n).2.1 a S Q → j_ri_A E (20 + 7 * n) (ri_en 18 [.ref 5, .int a]) S (Qv Q)) ∧ (∀ (a : Int32) (S : ri_H) (Q : ri_H → Prop), (gl n).2.2 a S Q → j_ri_A E (20 + 7 * n) (ri_en 21 [.ref 5, .int a]) S (Qv Q))
  | 0 => ⟨fun _ _ _ h => h.elim, fun _ _ _ h => h.elim, fun _ _ _ h => h.elim⟩
  | n + 1 => by
    obtain ⟨h16, h18, h21⟩ := j_gl_ok (E := E) n
    have k214 : ∀ (a b : Int32) (S : ri_H) (Q : ri_H → Prop), w214 (gl n).1 (gl n).2.2 a b S Q → j_ri_A E (20 + 7 * n + 1) (ri_en 214 [.ref 5, .int a, .int b]) S (Qv Q) := fun a b S Q h => j_wt214 _ _ (20 + 7 * n) (by omega) h16 h21 a b h
    have k21 : ∀ (a : Int32) (S : ri_H) (Q : ri_H → Prop), (gl (n + 1)).2.2 a S Q → j_ri_A E (20 + 7 * n + 2) (ri_en 21 [.ref 5, .int a]) S (Qv Q) := fun a S Q h => j_wt21 _ (20 + 7 * n + 1) (by omega) k214 a h
    have k20 : ∀ (a : Int32) (S : ri_H) (Q : ri_H → Prop), w20 (gl (n + 1)).2.2 a S Q → j_ri_A E (20 + 7 * n + 3) (ri_en 20 [.ref 5, .int a]) S (Qv Q) := fun a S Q h => j_wt20 _ (20 + 7 * n + 2) (by omega) k21 a h
    have k19 : ∀ (a : Int32) (S : ri_H) (Q : ri_H → Prop), w19 (w20 (gl (n + 1)).2.2) a S Q → j_ri_A E (20 + 7 * n + 4) (ri_en 19 [.ref 5, .int a]) S (Qv Q) := fun a S Q h => j_wt19 _ (20 + 7 * n + 3) (by omega) k20 a h
    have k18 : ∀ (a : Int32) (S : ri_H) (Q : ri_H → Prop), (gl (n + 1)).2.1 a S Q → j_ri_A E (20 + 7 * n + 5) (ri_en 18 [.ref 5, .int a]) S (Qv Q) := fun a S Q h => j_wt18 _ _ (20 + 7 * n + 4) (by omega) (fun a S Q h => j_A_up (h18 a S Q h) (by omega)) k19 a h
    have k17 : ∀ (a : Int32) (S : ri_H) (Q : ri_H → Prop), w17 (gl (n + 1)).2.1 a S Q → j_ri_A E (20 + 7 * n + 6) (ri_en 17 [.ref 5, .int a]) S (Qv Q) := fun a S Q h => j_wt17 _ (20 + 7 * n + 5) (by omega) k18 a h
    exact ⟨fun a S Q h => j_wt16 _ (20 + 7 * n + 6) (by omega) k17 a h, fun a S Q h => j_A_up (k18 a S Q h) (by omega), fun a S Q h => j_A_up (k21 a S Q h) (by omega)⟩
theorem j_wt1x {E : ri_E} {S : ri_H} {Q : Int32 → ri_H → Prop} (h : w1x S Q) : j_ri_A E 63 (ri_en 1 [.ref 5]) S (Qi Q) := j_wt1 _ 62 (by omega) (j_gl_ok 6).1 h
set_option maxRecDepth 10000 in
set_option maxHeartbeats 1000000 in
theorem j_wt76 {E : ri_E} (a : Int32) {S : ri_H} {Q : Int32 → ri_H → Prop} (h : w76  a S Q) : j_ri_A E 0 (ri_en 76 [.ref 0, .int a]) S (Qi Q) := by
  unfold w76 at h
  show j_ri_A E 0 (76, 0, [some (.ref 0), some (.int a), none], []) S (Qi Q)
  refine j_A_br (a < 0) (r1 := ((76, 11, [some (.ref 0), some (.int a), none], []), S)) (r2 := ((76, 4, [some (.ref 0), some (.int a), none], []), S)) 2 rfl (fun c => ?_) (fun c => ?_)
  · have h := h.1 c
    exact j_A_ret 2 (m := 76) (v := some (.int (-1000 : Int32))) (S' := S) rfl rfl ⟨_, rfl, h⟩
  · have h := h.2 c
    refine j_A_br (a ≤ (999 : Int32)) (r1 := ((76, 15, [some (.ref 0), some (.int a), none], []), S)) (r2 := ((76, 11, [some (.ref 0), some (.int a), none], []), S)) 3 rfl (fun c => ?_) (fun c => ?_)
    · have h := h.1 c
      exact j_A_ret 10 (m := 76) (v := some (.int (S.1 10 10))) (S' := (ri_wi S 10 10 a)) rfl rfl ⟨_, rfl, h⟩
    · have h := h.2 c
      exact j_A_ret 2 (m := 76) (v := some (.int (-1000 : Int32))) (S' := S) rfl rfl ⟨_, rfl, h⟩
set_option maxRecDepth 10000 in
set_option maxHeartbeats 1000000 in
theorem j_wt78_b9 {E : ri_E} {Q : Int32 → ri_H → Prop}  (S : ri_H) (h : w78_b9   Q  S) : j_ri_A E 0 (78, 9, [none, none], []) S (Qi Q) := by
  unfold w78_b9 at h
  exact j_A_ret 3 (m := 78) (v := some (.int (24 : Int32))) (S' := S) rfl rfl ⟨_, rfl, h⟩
set_option maxRecDepth 10000 in
set_option maxHeartbeats 1000000 in
theorem j_wt78 {E : ri_E} (a : Int32) {S : ri_H} {Q : Int32 → ri_H → Prop} (h : w78  a S Q) : j_ri_A E 0 (ri_en 78 [.ref 0, .int a]) S (Qi Q) := by
  unfold w78 at h
  show j_ri_A E 0 (78, 0, [some (.ref 0), some (.int a)], []) S (Qi Q)
  refine j_A_br (a = 0) (r1 := ((78, 9, [some (.ref 0), some (.int a)], []), S)) (r2 := ((78, 4, [some (.ref 0), some (.int a)], []), S)) 2 rfl (fun c => ?_) (fun c => ?_)
  · have h := h.1 c
    refine j_ri_A.less (m := 78) (pc := 9) (L := [some (.ref 0), some (.int a)]) (L' := [none, none]) (st := []) trivial ?_
    exact j_wt78_b9   _ h
  · have h := h.2 c
    refine j_A_br (¬ a = (1 : Int32)) (r1 := ((78, 14, [some (.ref 0), some (.int a)], []), S)) (r2 := ((78, 9, [some (.ref 0), some (.int a)], []), S)) 3 rfl (fun c => ?_) (fun c => ?_)
    · have h := h.1 c
      exact j_A_ret 4 (m := 78) (v := some (.int (S.1 10 9))) (S' := S) rfl rfl ⟨_, rfl, h⟩
    · have h := h.2 c
      refine j_ri_A.less (m := 78) (pc := 9) (L := [some (.ref 0), some (.int a)]) (L' := [none, none]) (st := []) trivial ?_
      exact j_wt78_b9   _ h
set_option maxRecDepth 10000 in
set_option maxHeartbeats 1000000 in
theorem j_wt79 {E : ri_E} (a : Int32) (b : Int32) {S : ri_H} {Q : Int32 → ri_H → Prop} (h : w79  a b S Q) : j_ri_A E 1 (ri_en 79 [.int a, .int b]) S (Qi Q) := by
  unfold w79 at h
  show j_ri_A E 1 (79, 0, [some (.int a), some (.int b)], []) S (Qi Q)
  refine j_A_nx 2 (fr' := (79, ri_tgt 1 (83) (0) (6) [43, 50, 83, 58, 43, 65, 50] a, [some (.int a), some (.int b)], [])) (S' := S) rfl ?_
  rcases ri_swc a (0) 7 (by decide) (by decide) with c | ⟨i, hi, c⟩
  · have c : a < Int32.ofInt (0) ∨ Int32.ofInt (6) < a := c
    have h := h.1 c
    rw [ri_tgt_out a c (by decide) (by decide)]
    exact j_A_ret 2 (m := 79) (v := some (.int (0 : Int32))) (S' := S) rfl rfl ⟨_, rfl, h⟩
  · have h := h.2
    match i, hi, c with
    | 0, hi, c =>
      have c : a = (0 : Int32) := c
      have h := h.1 c
      rw [show ri_tgt 1 (83) (0) (6) [43, 50, 83, 58, 43, 65, 50] a = 44 by rw [c]; decide]
      refine j_A_call (j := 95) (As := [.int b, .int (12 : Int32)]) (fr' := (79, 50, [some (.int a), some (.int b)], [])) (S' := S) 3 rfl (e := 0) (by omega) (j_sp_within _ _ ?_)
      exact j_A_ret 1 (m := 79) (v := some (.int (wi b (12 : Int32)))) (S' := S) rfl (by rcases h.1 with c | c <;> rw [c] <;> rfl) ⟨_, rfl, h.2⟩
    | 1, hi, c =>
      have c : a = (1 : Int32) := c
      have h := h.2.1 c
      rw [show ri_tgt 1 (83) (0) (6) [43, 50, 83, 58, 43, 65, 50] a = 51 by rw [c]; decide]
      refine j_A_call (j := 95) (As := [.int b, .int (1000 : Int32)]) (fr' := (79, 58, [some (.int a), some (.int b)], [])) (S' := S) 3 rfl (e := 0) (by omega) (j_sp_within _ _ ?_)
      exact j_A_ret 1 (m := 79) (v := some (.int (wi b (1000 : Int32)))) (S' := S) rfl (by rcases h.1 with c | c <;> rw [c] <;> rfl) ⟨_, rfl, h.2⟩
    | 2, hi, c =>
      have c : a = (2 : Int32) := c
      have h := h.2.2.1 c
      rw [show ri_tgt 1 (83) (0) (6) [43, 50, 83, 58, 43, 65, 50] a = 84 by rw [c]; decide]
      exact j_A_ret 2 (m := 79) (v := some (.int (0 : Int32))) (S' := S) rfl rfl ⟨_, rfl, h⟩
    | 3, hi, c =>
      have c : a = (3 : Int32) := c
      have h := h.2.2.2.1 c
      rw [show ri_tgt 1 (83) (0) (6) [43, 50, 83, 58, 43, 65, 50] a = 59 by rw [c]; decide]
      refine j_A_call (j := 95) (As := [.int b, .int (10 : Int32)]) (fr' := (79, 65, [some (.int a), some (.int b)], [])) (S' := S) 3 rfl (e := 0) (by omega) (j_sp_within _ _ ?_)
      exact j_A_ret 1 (m := 79) (v := some (.int (wi b (10 : Int32)))) (S' := S) rfl (by rcases h.1 with c | c <;> rw [c] <;> rfl) ⟨_, rfl, h.2⟩
    | 4, hi, c =>
      have c : a = (4 : Int32) := c
      have h := h.2.2.2.2.1 c
      rw [show ri_tgt 1 (83) (0) (6) [43, 50, 83, 58, 43, 65, 50] a = 44 by rw [c]; decide]
      refine j_A_call (j := 95) (As := [.int b, .int (12 : Int32)]) (fr' := (79, 50, [some (.int a), some (.int b)], [])) (S' := S) 3 rfl (e := 0) (by omega) (j_sp_within _ _ ?_)
      exact j_A_ret 1 (m := 79) (v := some (.int (wi b (12 : Int32)))) (S' := S) rfl (by rcases h.1 with c | c <;> rw [c] <;> rfl) ⟨_, rfl, h.2⟩
    | 5, hi, c =>
      have c : a = (5 : Int32) := c
      have h := h.2.2.2.2.2.1 c
      rw [show ri_tgt 1 (83) (0) (6) [43, 50, 83, 58, 43, 65, 50] a = 66 by rw [c]; decide]
      refine j_A_br (b < (-99 : Int32)) (r1 := ((79, 82, [some (.int a), some (.int b)], []), S)) (r2 := ((79, 72, [some (.int a), some (.int b)], []), S)) 3 rfl (fun c => ?_) (fun c => ?_)
      · have h := h.1 c
        exact j_A_ret 2 (m := 79) (v := some (.int (0 : Int32))) (S' := S) rfl rfl ⟨_, rfl, h⟩
      · have h := h.2 c
        refine j_A_br ((99 : Int32) < b) (r1 := ((79, 82, [some (.int a), some (.int b)], []), S)) (r2 := ((79, 78, [some (.int a), some (.int b)], []), S)) 3 rfl (fun c => ?_) (fun c => ?_)
        · have h := h.1 c
          exact j_A_ret 2 (m := 79) (v := some (.int (0 : Int32))) (S' := S) rfl rfl ⟨_, rfl, h⟩
        · have h := h.2 c
          exact j_A_ret 3 (m := 79) (v := some (.int (1 : Int32))) (S' := S) rfl rfl ⟨_, rfl, h⟩
    | 6, hi, c =>
      have c : a = (6 : Int32) := c
      have h := h.2.2.2.2.2.2 c
      rw [show ri_tgt 1 (83) (0) (6) [43, 50, 83, 58, 43, 65, 50] a = 51 by rw [c]; decide]
      refine j_A_call (j := 95) (As := [.int b, .int (1000 : Int32)]) (fr' := (79, 58, [some (.int a), some (.int b)], [])) (S' := S) 3 rfl (e := 0) (by omega) (j_sp_within _ _ ?_)
      exact j_A_ret 1 (m := 79) (v := some (.int (wi b (1000 : Int32)))) (S' := S) rfl (by rcases h.1 with c | c <;> rw [c] <;> rfl) ⟨_, rfl, h.2⟩
    | i + 7, hi, c => exact absurd hi (by omega)
set_option maxRecDepth 10000 in
set_option maxHeartbeats 1000000 in
theorem j_wt47 {E : ri_E} (a : Int32) (b : Int32) (g : Int32) {S : ri_H} {Q : Int32 → ri_H → Prop} (h : w47  a b g S Q) : j_ri_A E 2 (ri_en 47 [.ref 0, .int a, .int b, .int g]) S (Qi Q) := by
  unfold w47 at h
  show j_ri_A E 2 (47, 0, [some (.ref 0), some (.int a), some (.int b), some (.int g), none, none], []) S (Qi Q)
  refine j_A_br (¬ a = (2 : Int32)) (r1 := ((47, 11, [some (.ref 0), some (.int a), some (.int b), some (.int g), none, none], []), S)) (r2 := ((47, 5, [some (.ref 0), some (.int a), some (.int b), some (.int g), none, none], []), S)) 3 rfl (fun c => ?_) (fun c => ?_)
  · have h := h.1 c
    refine j_A_call (j := 77) (As := [.ref 0, .int a]) (fr' := (47, 16, [some (.ref 0), some (.int a), some (.int b), some (.int g), none, none], [])) (S' := S) 3 rfl (e := 0) (by omega) (j_sp_rowOf a (fun c => ?_) (fun c => ?_) (fun c => ?_) (fun c => ?_) (fun c => ?_) (fun c => ?_) (fun c => ?_))
    · have h := h.1 c
      refine j_A_call (j := 78) (As := [.ref 0, .int a]) (fr' := (47, 29, [some (.ref 0), some (.int a), some (.int b), some (.int g), some (.ref 11), none], [.int b])) (S' := S) 7 rfl (e := 0) (by omega) (j_A_imp (j_wt78 a h) (fun v S1 hq => ?_))
      obtain ⟨r2, hv, h⟩ := hq
      subst hv
      refine j_A_call (j := 95) (As := [.int b, .int r2]) (fr' := (47, 32, [some (.ref 0), some (.int a), some (.int b), some (.int g), some (.ref 11), none], [])) (S' := S1) 1 rfl (e := 0) (by omega) (j_sp_within _ _ ?_)
      refine j_A_br ((wi b r2) = 0) (r1 := ((47, 43, [some (.ref 0), some (.int a), some (.int b), some (.int g), some (.ref 11), none], []), S1)) (r2 := ((47, 35, [some (.ref 0), some (.int a), some (.int b), some (.int g), some (.ref 11), none], []), S1)) 1 rfl (fun c => ?_) (fun c => ?_)
      · have h := h.1 c
        exact j_A_ret 2 (m := 47) (v := some (.int (-1000 : Int32))) (S' := S1) rfl rfl ⟨_, rfl, h⟩
      · have h := h.2 c
        refine j_A_call (j := 79) (As := [.int a, .int g]) (fr' := (47, 40, [some (.ref 0), some (.int a), some (.int b), some (.int g), some (.ref 11), none], [])) (S' := S1) 3 rfl (e := 1) (by omega) (j_A_imp (j_wt79 a g h) (fun v S3 hq => ?_))
        obtain ⟨r4, hv, h⟩ := hq
        subst hv
        refine j_A_br (¬ r4 = 0) (r1 := ((47, 47, [some (.ref 0), some (.int a), some (.int b), some (.int g), some (.ref 11), none], []), S3)) (r2 := ((47, 43, [some (.ref 0), some (.int a), some (.int b), some (.int g), some (.ref 11), none], []), S3)) 1 rfl (fun c => ?_) (fun c => ?_)
        · have h := h.1 c
          refine j_A_call (j := 98) (As := [.ref 11, .int b]) (fr' := (47, 53, [some (.ref 0), some (.int a), some (.int b), some (.int g), some (.ref 11), none], [])) (S' := S3) 3 rfl (e := 0) (by omega) (j_sp_item 11 24 _ ⟨by decide, by decide, rfl⟩ (by decide) ?_)
          refine j_A_call (j := 99) (As := [.ref 11, .int b, .int g]) (fr' := (47, 62, [some (.ref 0), some (.int a), some (.int b), some (.int g), some (.ref 11), some (.int (it (S3.1 11) 24 b))], [])) (S' := S3) 5 rfl (e := 0) (by omega) (j_sp_putItem 11 24 _ _ ⟨by decide, by decide, rfl⟩ (by decide) ?_)
          exact j_A_ret 2 (m := 47) (v := some (.int (it (S3.1 11) 24 b))) (S' := (ri_wr S3 11 (pu 24 (S3.1 11) b g))) rfl rfl ⟨_, rfl, h⟩
        · have h := h.2 c
          exact j_A_ret 2 (m := 47) (v := some (.int (-1000 : Int32))) (S' := S3) rfl rfl ⟨_, rfl, h⟩
    · have h := h.2.1 c
      refine j_A_call (j := 78) (As := [.ref 0, .int a]) (fr' := (47, 29, [some (.ref 0), some (.int a), some (.int b), some (.int g), some (.ref 12), none], [.int b])) (S' := S) 7 rfl (e := 0) (by omega) (j_A_imp (j_wt78 a h) (fun v S5 hq => ?_))
      obtain ⟨r6, hv, h⟩ := hq
      subst hv
      refine j_A_call (j := 95) (As := [.int b, .int r6]) (fr' := (47, 32, [some (.ref 0), some (.int a), some (.int b), some (.int g), some (.ref 12), none], [])) (S' := S5) 1 rfl (e := 0) (by omega) (j_sp_within _ _ ?_)
      refine j_A_br ((wi b r6) = 0) (r1 := ((47, 43, [some (.ref 0), some (.int a), some (.int b), some (.int g), some (.ref 12), none], []), S5)) (r2 := ((47, 35, [some (.ref 0), some (.int a), some (.int b), some (.int g), some (.ref 12), none], []), S5)) 1 rfl (fun c => ?_) (fun c => ?_)
      · have h := h.1 c
        exact j_A_ret 2 (m := 47) (v := some (.int (-1000 : Int32))) (S' := S5) rfl rfl ⟨_, rfl, h⟩
      · have h := h.2 c
        refine j_A_call (j := 79) (As := [.int a, .int g]) (fr' := (47, 40, [some (.ref 0), some (.int a), some (.int b), some (.int g), some (.ref 12), none], [])) (S' := S5) 3 rfl (e := 1) (by omega) (j_A_imp (j_wt79 a g h) (fun v S7 hq => ?_))
        obtain ⟨r8, hv, h⟩ := hq
        subst hv
        refine j_A_br (¬ r8 = 0) (r1 := ((47, 47, [some (.ref 0), some (.int a), some (.int b), some (.int g), some (.ref 12), none], []), S7)) (r2 := ((47, 43, [some (.ref 0), some (.int a), some (.int b), some (.int g), some (.ref 12), none], []), S7)) 1 rfl (fun c => ?_) (fun c => ?_)
        · have h := h.1 c
          refine j_A_call (j := 98) (As := [.ref 12, .int b]) (fr' := (47, 53, [some (.ref 0), some (.int a), some (.int b), some (.int g), some (.ref 12), none], [])) (S' := S7) 3 rfl (e := 0) (by omega) (j_sp_item 12 24 _ ⟨by decide, by decide, rfl⟩ (by decide) ?_)
          refine j_A_call (j := 99) (As := [.ref 12, .int b, .int g]) (fr' := (47, 62, [some (.ref 0), some (.int a), some (.int b), some (.int g), some (.ref 12), some (.int (it (S7.1 12) 24 b))], [])) (S' := S7) 5 rfl (e := 0) (by omega) (j_sp_putItem 12 24 _ _ ⟨by decide, by decide, rfl⟩ (by decide) ?_)
          exact j_A_ret 2 (m := 47) (v := some (.int (it (S7.1 12) 24 b))) (S' := (ri_wr S7 12 (pu 24 (S7.1 12) b g))) rfl rfl ⟨_, rfl, h⟩
        · have h := h.2 c
          exact j_A_ret 2 (m := 47) (v := some (.int (-1000 : Int32))) (S' := S7) rfl rfl ⟨_, rfl, h⟩
    · have h := h.2.2.1 c
      refine j_A_call (j := 78) (As := [.ref 0, .int a]) (fr' := (47, 29, [some (.ref 0), some (.int a), some (.int b), some (.int g), some (.ref 14), none], [.int b])) (S' := S) 7 rfl (e := 0) (by omega) (j_A_imp (j_wt78 a h) (fun v S9 hq => ?_))
      obtain ⟨r10, hv, h⟩ := hq
      subst hv
      refine j_A_call (j := 95) (As := [.int b, .int r10]) (fr' := (47, 32, [some (.ref 0), some (.int a), some (.int b), some (.int g), some (.ref 14), none], [])) (S' := S9) 1 rfl (e := 0) (by omega) (j_sp_within _ _ ?_)
      refine j_A_br ((wi b r10) = 0) (r1 := ((47, 43, [some (.ref 0), some (.int a), some (.int b), some (.int g), some (.ref 14), none], []), S9)) (r2 := ((47, 35, [some (.ref 0), some (.int a), some (.int b), some (.int g), some (.ref 14), none], []), S9)) 1 rfl (fun c => ?_) (fun c => ?_)
      · have h := h.1 c
        exact j_A_ret 2 (m := 47) (v := some (.int (-1000 : Int32))) (S' := S9) rfl rfl ⟨_, rfl, h⟩
      · have h := h.2 c
        refine j_A_call (j := 79) (As := [.int a, .int g]) (fr' := (47, 40, [some (.ref 0), some (.int a), some (.int b), some (.int g), some (.ref 14), none], [])) (S' := S9) 3 rfl (e := 1) (by omega) (j_A_imp (j_wt79 a g h) (fun v S11 hq => ?_))
        obtain ⟨r12, hv, h⟩ := hq
        subst hv
        refine j_A_br (¬ r12 = 0) (r1 := ((47, 47, [some (.ref 0), some (.int a), some (.int b), some (.int g), some (.ref 14), none], []), S11)) (r2 := ((47, 43, [some (.ref 0), some (.int a), some (.int b), some (.int g), some (.ref 14), none], []), S11)) 1 rfl (fun c => ?_) (fun c => ?_)
        · have h := h.1 c
          refine j_A_call (j := 98) (As := [.ref 14, .int b]) (fr' := (47, 53, [some (.ref 0), some (.int a), some (.int b), some (.int g), some (.ref 14), none], [])) (S' := S11) 3 rfl (e := 0) (by omega) (j_sp_item 14 5 _ ⟨by decide, by decide, rfl⟩ (by decide) ?_)
          refine j_A_call (j := 99) (As := [.ref 14, .int b, .int g]) (fr' := (47, 62, [some (.ref 0), some (.int a), some (.int b), some (.int g), some (.ref 14), some (.int (it (S11.1 14) 5 b))], [])) (S' := S11) 5 rfl (e := 0) (by omega) (j_sp_putItem 14 5 _ _ ⟨by decide, by decide, rfl⟩ (by decide) ?_)
          exact j_A_ret 2 (m := 47) (v := some (.int (it (S11.1 14) 5 b))) (S' := (ri_wr S11 14 (pu 5 (S11.1 14) b g))) rfl rfl ⟨_, rfl, h⟩
        · have h := h.2 c
          exact j_A_ret 2 (m := 47) (v := some (.int (-1000 : Int32))) (S' := S11) rfl rfl ⟨_, rfl, h⟩
    · have h := h.2.2.2.1 c
      refine j_A_call (j := 78) (As := [.ref 0, .int a]) (fr' := (47, 29, [some (.ref 0), some (.int a), some (.int b), some (.int g), some (.ref 15), none], [.int b])) (S' := S) 7 rfl (e := 0) (by omega) (j_A_imp (j_wt78 a h) (fun v S13 hq => ?_))
      obtain ⟨r14, hv, h⟩ := hq
      subst hv
      refine j_A_call (j := 95) (As := [.int b, .int r14]) (fr' := (47, 32, [some (.ref 0), some (.int a), some (.int b), some (.int g), some (.ref 15), none], [])) (S' := S13) 1 rfl (e := 0) (by omega) (j_sp_within _ _ ?_)
      refine j_A_br ((wi b r14) = 0) (r1 := ((47, 43, [some (.ref 0), some (.int a), some (.int b), some (.int g), some (.ref 15), none], []), S13)) (r2 := ((47, 35, [some (.ref 0), some (.int a), some (.int b), some (.int g), some (.ref 15), none], []), S13)) 1 rfl (fun c => ?_) (fun c => ?_)
      · have h := h.1 c
        exact j_A_ret 2 (m := 47) (v := some (.int (-1000 : Int32))) (S' := S13) rfl rfl ⟨_, rfl, h⟩
      · have h := h.2 c
        refine j_A_call (j := 79) (As := [.int a, .int g]) (fr' := (47, 40, [some (.ref 0), some (.int a), some (.int b), some (.int g), some (.ref 15), none], [])) (S' := S13) 3 rfl (e := 1) (by omega) (j_A_imp (j_wt79 a g h) (fun v S15 hq => ?_))
        obtain ⟨r16, hv, h⟩ := hq
        subst hv
        refine j_A_br (¬ r16 = 0) (r1 := ((47, 47, [some (.ref 0), some (.int a), some (.int b), some (.int g), some (.ref 15), none], []), S15)) (r2 := ((47, 43, [some (.ref 0), some (.int a), some (.int b), some (.int g), some (.ref 15), none], []), S15)) 1 rfl (fun c => ?_) (fun c => ?_)
        · have h := h.1 c
          refine j_A_call (j := 98) (As := [.ref 15, .int b]) (fr' := (47, 53, [some (.ref 0), some (.int a), some (.int b), some (.int g), some (.ref 15), none], [])) (S' := S15) 3 rfl (e := 0) (by omega) (j_sp_item 15 5 _ ⟨by decide, by decide, rfl⟩ (by decide) ?_)
          refine j_A_call (j := 99) (As := [.ref 15, .int b, .int g]) (fr' := (47, 62, [some (.ref 0), some (.int a), some (.int b), some (.int g), some (.ref 15), some (.int (it (S15.1 15) 5 b))], [])) (S' := S15) 5 rfl (e := 0) (by omega) (j_sp_putItem 15 5 _ _ ⟨by decide, by decide, rfl⟩ (by decide) ?_)
          exact j_A_ret 2 (m := 47) (v := some (.int (it (S15.1 15) 5 b))) (S' := (ri_wr S15 15 (pu 5 (S15.1 15) b g))) rfl rfl ⟨_, rfl, h⟩
        · have h := h.2 c
          exact j_A_ret 2 (m := 47) (v := some (.int (-1000 : Int32))) (S' := S15) rfl rfl ⟨_, rfl, h⟩
    · have h := h.2.2.2.2.1 c
      refine j_A_call (j := 78) (As := [.ref 0, .int a]) (fr' := (47, 29, [some (.ref 0), some (.int a), some (.int b), some (.int g), some (.ref 16), none], [.int b])) (S' := S) 7 rfl (e := 0) (by omega) (j_A_imp (j_wt78 a h) (fun v S17 hq => ?_))
      obtain ⟨r18, hv, h⟩ := hq
      subst hv
      refine j_A_call (j := 95) (As := [.int b, .int r18]) (fr' := (47, 32, [some (.ref 0), some (.int a), some (.int b), some (.int g), some (.ref 16), none], [])) (S' := S17) 1 rfl (e := 0) (by omega) (j_sp_within _ _ ?_)
      refine j_A_br ((wi b r18) = 0) (r1 := ((47, 43, [some (.ref 0), some (.int a), some (.int b), some (.int g), some (.ref 16), none], []), S17)) (r2 := ((47, 35, [some (.ref 0), some (.int a), some (.int b), some (.int g), some (.ref 16), none], []), S17)) 1 rfl (fun c => ?_) (fun c => ?_)
      · have h := h.1 c
        exact j_A_ret 2 (m := 47) (v := some (.int (-1000 : Int32))) (S' := S17) rfl rfl ⟨_, rfl, h⟩
      · have h := h.2 c
        refine j_A_call (j := 79) (As := [.int a, .int g]) (fr' := (47, 40, [some (.ref 0), some (.int a), some (.int b), some (.int g), some (.ref 16), none], [])) (S' := S17) 3 rfl (e := 1) (by omega) (j_A_imp (j_wt79 a g h) (fun v S19 hq => ?_))
        obtain ⟨r20, hv, h⟩ := hq
        subst hv
        refine j_A_br (¬ r20 = 0) (r1 := ((47, 47, [some (.ref 0), some (.int a), some (.int b), some (.int g), some (.ref 16), none], []), S19)) (r2 := ((47, 43, [some (.ref 0), some (.int a), some (.int b), some (.int g), some (.ref 16), none], []), S19)) 1 rfl (fun c => ?_) (fun c => ?_)
        · have h := h.1 c
          refine j_A_call (j := 98) (As := [.ref 16, .int b]) (fr' := (47, 53, [some (.ref 0), some (.int a), some (.int b), some (.int g), some (.ref 16), none], [])) (S' := S19) 3 rfl (e := 0) (by omega) (j_sp_item 16 5 _ ⟨by decide, by decide, rfl⟩ (by decide) ?_)
          refine j_A_call (j := 99) (As := [.ref 16, .int b, .int g]) (fr' := (47, 62, [some (.ref 0), some (.int a), some (.int b), some (.int g), some (.ref 16), some (.int (it (S19.1 16) 5 b))], [])) (S' := S19) 5 rfl (e := 0) (by omega) (j_sp_putItem 16 5 _ _ ⟨by decide, by decide, rfl⟩ (by decide) ?_)
          exact j_A_ret 2 (m := 47) (v := some (.int (it (S19.1 16) 5 b))) (S' := (ri_wr S19 16 (pu 5 (S19.1 16) b g))) rfl rfl ⟨_, rfl, h⟩
        · have h := h.2 c
          exact j_A_ret 2 (m := 47) (v := some (.int (-1000 : Int32))) (S' := S19) rfl rfl ⟨_, rfl, h⟩
    · have h := h.2.2.2.2.2.1 c
      refine j_A_call (j := 78) (As := [.ref 0, .int a]) (fr' := (47, 29, [some (.ref 0), some (.int a), some (.int b), some (.int g), some (.ref 17), none], [.int b])) (S' := S) 7 rfl (e := 0) (by omega) (j_A_imp (j_wt78 a h) (fun v S21 hq => ?_))
      obtain ⟨r22, hv, h⟩ := hq
      subst hv
      refine j_A_call (j := 95) (As := [.int b, .int r22]) (fr' := (47, 32, [some (.ref 0), some (.int a), some (.int b), some (.int g), some (.ref 17), none], [])) (S' := S21) 1 rfl (e := 0) (by omega) (j_sp_within _ _ ?_)
      refine j_A_br ((wi b r22) = 0) (r1 := ((47, 43, [some (.ref 0), some (.int a), some (.int b), some (.int g), some (.ref 17), none], []), S21)) (r2 := ((47, 35, [some (.ref 0), some (.int a), some (.int b), some (.int g), some (.ref 17), none], []), S21)) 1 rfl (fun c => ?_) (fun c => ?_)
      · have h := h.1 c
        exact j_A_ret 2 (m := 47) (v := some (.int (-1000 : Int32))) (S' := S21) rfl rfl ⟨_, rfl, h⟩
      · have h := h.2 c
        refine j_A_call (j := 79) (As := [.int a, .int g]) (fr' := (47, 40, [some (.ref 0), some (.int a), some (.int b), some (.int g), some (.ref 17), none], [])) (S' := S21) 3 rfl (e := 1) (by omega) (j_A_imp (j_wt79 a g h) (fun v S23 hq => ?_))
        obtain ⟨r24, hv, h⟩ := hq
        subst hv
        refine j_A_br (¬ r24 = 0) (r1 := ((47, 47, [some (.ref 0), some (.int a), some (.int b), some (.int g), some (.ref 17), none], []), S23)) (r2 := ((47, 43, [some (.ref 0), some (.int a), some (.int b), some (.int g), some (.ref 17), none], []), S23)) 1 rfl (fun c => ?_) (fun c => ?_)
        · have h := h.1 c
          refine j_A_call (j := 98) (As := [.ref 17, .int b]) (fr' := (47, 53, [some (.ref 0), some (.int a), some (.int b), some (.int g), some (.ref 17), none], [])) (S' := S23) 3 rfl (e := 0) (by omega) (j_sp_item 17 5 _ ⟨by decide, by decide, rfl⟩ (by decide) ?_)
          refine j_A_call (j := 99) (As := [.ref 17, .int b, .int g]) (fr' := (47, 62, [some (.ref 0), some (.int a), some (.int b), some (.int g), some (.ref 17), some (.int (it (S23.1 17) 5 b))], [])) (S' := S23) 5 rfl (e := 0) (by omega) (j_sp_putItem 17 5 _ _ ⟨by decide, by decide, rfl⟩ (by decide) ?_)
          exact j_A_ret 2 (m := 47) (v := some (.int (it (S23.1 17) 5 b))) (S' := (ri_wr S23 17 (pu 5 (S23.1 17) b g))) rfl rfl ⟨_, rfl, h⟩
        · have h := h.2 c
          exact j_A_ret 2 (m := 47) (v := some (.int (-1000 : Int32))) (S' := S23) rfl rfl ⟨_, rfl, h⟩
    · have h := h.2.2.2.2.2.2 c
      exact j_A_ret 5 (m := 47) (v := some (.int (-1000 : Int32))) (S' := S) rfl rfl ⟨_, rfl, h⟩
  · have h := h.2 c
    refine j_A_call (j := 76) (As := [.ref 0, .int g]) (fr' := (47, 10, [some (.ref 0), some (.int a), some (.int b), some (.int g), none, none], [])) (S' := S) 3 rfl (e := 0) (by omega) (j_A_imp (j_wt76 g h) (fun v S25 hq => ?_))
    obtain ⟨r26, hv, h⟩ := hq
    subst hv
    exact j_A_ret 1 (m := 47) (v := some (.int r26)) (S' := S25) rfl rfl ⟨_, rfl, h⟩
set_option maxRecDepth 10000 in
set_option maxHeartbeats 1000000 in
theorem j_wt48 {E : ri_E} (a : Int32) (b : Int32) (g : Int32) {S : ri_H} {Q : Int32 → ri_H → Prop} (h : w48  a b g S Q) : j_ri_A E 2 (ri_en 48 [.ref 0, .int a, .int b, .int g]) S (Qi Q) := by
  unfold w48 at h
  show j_ri_A E 2 (48, 0, [some (.ref 0), some (.int a), some (.int b), some (.int g)], []) S (Qi Q)
  refine j_A_call (j := 95) (As := [.int a, .int (6 : Int32)]) (fr' := (48, 6, [some (.ref 0), some (.int a), some (.int b), some (.int g)], [])) (S' := S) 3 rfl (e := 0) (by omega) (j_sp_within _ _ ?_)
  refine j_A_br ((wi a (6 : Int32)) = 0) (r1 := ((48, 27, [some (.ref 0), some (.int a), some (.int b), some (.int g)], []), S)) (r2 := ((48, 9, [some (.ref 0), some (.int a), some (.int b), some (.int g)], []), S)) 1 rfl (fun c => ?_) (fun c => ?_)
  · have h := h.1 c
    exact j_A_ret 2 (m := 48) (v := some (.int (-2 : Int32))) (S' := S) rfl rfl ⟨_, rfl, h⟩
  · have h := h.2 c
    refine j_A_call (j := 95) (As := [.int b, .int (10 : Int32)]) (fr' := (48, 15, [some (.ref 0), some (.int a), some (.int b), some (.int g)], [])) (S' := S) 3 rfl (e := 0) (by omega) (j_sp_within _ _ ?_)
    refine j_A_br ((wi b (10 : Int32)) = 0) (r1 := ((48, 27, [some (.ref 0), some (.int a), some (.int b), some (.int g)], []), S)) (r2 := ((48, 18, [some (.ref 0), some (.int a), some (.int b), some (.int g)], []), S)) 1 rfl (fun c => ?_) (fun c => ?_)
    · have h := h.1 c
      exact j_A_ret 2 (m := 48) (v := some (.int (-2 : Int32))) (S' := S) rfl rfl ⟨_, rfl, h⟩
    · have h := h.2 c
      refine j_A_call (j := 95) (As := [.int g, .int (12 : Int32)]) (fr' := (48, 24, [some (.ref 0), some (.int a), some (.int b), some (.int g)], [])) (S' := S) 3 rfl (e := 0) (by omega) (j_sp_within _ _ ?_)
      refine j_A_br (¬ (wi g (12 : Int32)) = 0) (r1 := ((48, 30, [some (.ref 0), some (.int a), some (.int b), some (.int g)], []), S)) (r2 := ((48, 27, [some (.ref 0), some (.int a), some (.int b), some (.int g)], []), S)) 1 rfl (fun c => ?_) (fun c => ?_)
      · have h := h.1 c
        refine j_A_call (j := 35) (As := [.ref 10, .int a, .int b, .int g]) (fr' := (48, 40, [some (.ref 0), some (.int a), some (.int b), some (.int g)], [])) (S' := S) 6 rfl (e := 1) (by omega) (j_A_imp (j_wt35 10 (by decide) a b g h) (fun v S1 hq => ?_))
        obtain ⟨r2, hv, h⟩ := hq
        subst hv
        exact j_A_ret 1 (m := 48) (v := some (.int r2)) (S' := S1) rfl rfl ⟨_, rfl, h⟩
      · have h := h.2 c
        exact j_A_ret 2 (m := 48) (v := some (.int (-2 : Int32))) (S' := S) rfl rfl ⟨_, rfl, h⟩
set_option maxRecDepth 10000 in
set_option maxHeartbeats 1000000 in
theorem j_wt49_b157 {E : ri_E} {Q : Int32 → ri_H → Prop} (x1 : Int32) (x2 : Int32) (S : ri_H) (h : w49_b157   Q x1 x2 S) : j_ri_A E 3 (49, 157, [some (.ref 0), some (.int x1), some (.int x2), none], [.ref 11]) S (Qi Q) := by
  unfold w49_b157 at h
  refine j_A_call (j := 78) (As := [.ref 0, .int x2]) (fr' := (49, 168, [some (.ref 0), some (.int x1), some (.int x2), some (.ref 11)], [.int x1])) (S' := S) 7 rfl (e := 0) (by omega) (j_A_imp (j_wt78 x2 h) (fun v S1 hq => ?_))
  obtain ⟨r2, hv, h⟩ := hq
  subst hv
  refine j_A_call (j := 95) (As := [.int x1, .int r2]) (fr' := (49, 171, [some (.ref 0), some (.int x1), some (.int x2), some (.ref 11)], [])) (S' := S1) 1 rfl (e := 0) (by omega) (j_sp_within _ _ ?_)
  refine j_A_br (¬ (wi x1 r2) = 0) (r1 := ((49, 178, [some (.ref 0), some (.int x1), some (.int x2), some (.ref 11)], []), S1)) (r2 := ((49, 174, [some (.ref 0), some (.int x1), some (.int x2), some (.ref 11)], []), S1)) 1 rfl (fun c => ?_) (fun c => ?_)
  · have h := h.1 c
    refine j_A_call (j := 98) (As := [.ref 11, .int x1]) (fr' := (49, 183, [some (.ref 0), some (.int x1), some (.int x2), some (.ref 11)], [])) (S' := S1) 3 rfl (e := 0) (by omega) (j_sp_item 11 24 _ ⟨by decide, by decide, rfl⟩ (by decide) ?_)
    exact j_A_ret 1 (m := 49) (v := some (.int (it (S1.1 11) 24 x1))) (S' := S1) rfl rfl ⟨_, rfl, h⟩
  · have h := h.2 c
    exact j_A_ret 2 (m := 49) (v := some (.int (-1000 : Int32))) (S' := S1) rfl rfl ⟨_, rfl, h⟩
set_option maxRecDepth 10000 in
set_option maxHeartbeats 1000000 in
theorem j_wt49_b157a {E : ri_E} {Q : Int32 → ri_H → Prop} (x1 : Int32) (x2 : Int32) (S : ri_H) (h : w49_b157a   Q x1 x2 S) : j_ri_A E 3 (49, 157, [some (.ref 0), some (.int x1), some (.int x2), none], [.ref 12]) S (Qi Q) := by
  unfold w49_b157a at h
  refine j_A_call (j := 78) (As := [.ref 0, .int x2]) (fr' := (49, 168, [some (.ref 0), some (.int x1), some (.int x2), some (.ref 12)], [.int x1])) (S' := S) 7 rfl (e := 0) (by omega) (j_A_imp (j_wt78 x2 h) (fun v S3 hq => ?_))
  obtain ⟨r4, hv, h⟩ := hq
  subst hv
  refine j_A_call (j := 95) (As := [.int x1, .int r4]) (fr' := (49, 171, [some (.ref 0), some (.int x1), some (.int x2), some (.ref 12)], [])) (S' := S3) 1 rfl (e := 0) (by omega) (j_sp_within _ _ ?_)
  refine j_A_br (¬ (wi x1 r4) = 0) (r1 := ((49, 178, [some (.ref 0), some (.int x1), some (.int x2), some (.ref 12)], []), S3)) (r2 := ((49, 174, [some (.ref 0), some (.int x1), some (.int x2), some (.ref 12)], []), S3)) 1 rfl (fun c => ?_) (fun c => ?_)
  · have h := h.1 c
    refine j_A_call (j := 98) (As := [.ref 12, .int x1]) (fr' := (49, 183, [some (.ref 0), some (.int x1), some (.int x2), some (.ref 12)], [])) (S' := S3) 3 rfl (e := 0) (by omega) (j_sp_item 12 24 _ ⟨by decide, by decide, rfl⟩ (by decide) ?_)
    exact j_A_ret 1 (m := 49) (v := some (.int (it (S3.1 12) 24 x1))) (S' := S3) rfl rfl ⟨_, rfl, h⟩
  · have h := h.2 c
    exact j_A_ret 2 (m := 49) (v := some (.int (-1000 : Int32))) (S' := S3) rfl rfl ⟨_, rfl, h⟩
set_option maxRecDepth 10000 in
set_option maxHeartbeats 1000000 in
theorem j_wt49_b157b {E : ri_E} {Q : Int32 → ri_H → Prop} (x1 : Int32) (x2 : Int32) (S : ri_H) (h : w49_b157b   Q x1 x2 S) : j_ri_A E 3 (49, 157, [some (.ref 0), some (.int x1), some (.int x2), none], [.ref 14]) S (Qi Q) := by
  unfold w49_b157b at h
  refine j_A_call (j := 78) (As := [.ref 0, .int x2]) (fr' := (49, 168, [some (.ref 0), some (.int x1), some (.int x2), some (.ref 14)], [.int x1])) (S' := S) 7 rfl (e := 0) (by omega) (j_A_imp (j_wt78 x2 h) (fun v S5 hq => ?_))
  obtain ⟨r6, hv, h⟩ := hq
  subst hv
  refine j_A_call (j := 95) (As := [.int x1, .int r6]) (fr' := (49, 171, [some (.ref 0), some (.int x1), some (.int x2), some (.ref 14)], [])) (S' := S5) 1 rfl (e := 0) (by omega) (j_sp_within _ _ ?_)
  refine j_A_br (¬ (wi x1 r6) = 0) (r1 := ((49, 178, [some (.ref 0), some (.int x1), some (.int x2), some (.ref 14)], []), S5)) (r2 := ((49, 174, [some (.ref 0), some (.int x1), some (.int x2), some (.ref 14)], []), S5)) 1 rfl (fun c => ?_) (fun c => ?_)
  · have h := h.1 c
    refine j_A_call (j := 98) (As := [.ref 14, .int x1]) (fr' := (49, 183, [some (.ref 0), some (.int x1), some (.int x2), some (.ref 14)], [])) (S' := S5) 3 rfl (e := 0) (by omega) (j_sp_item 14 5 _ ⟨by decide, by decide, rfl⟩ (by decide) ?_)
    exact j_A_ret 1 (m := 49) (v := some (.int (it (S5.1 14) 5 x1))) (S' := S5) rfl rfl ⟨_, rfl, h⟩
  · have h := h.2 c
    exact j_A_ret 2 (m := 49) (v := some (.int (-1000 : Int32))) (S' := S5) rfl rfl ⟨_, rfl, h⟩
set_option maxRecDepth 10000 in
set_option maxHeartbeats 1000000 in
theorem j_wt49_b157c {E : ri_E} {Q : Int32 → ri_H → Prop} (x1 : Int32) (x2 : Int32) (S : ri_H) (h : w49_b157c   Q x1 x2 S) : j_ri_A E 3 (49, 157, [some (.ref 0), some (.int x1), some (.int x2), none], [.ref 15]) S (Qi Q) := by
  unfold w49_b157c at h
  refine j_A_call (j := 78) (As := [.ref 0, .int x2]) (fr' := (49, 168, [some (.ref 0), some (.int x1), some (.int x2), some (.ref 15)], [.int x1])) (S' := S) 7 rfl (e := 0) (by omega) (j_A_imp (j_wt78 x2 h) (fun v S7 hq => ?_))
  obtain ⟨r8, hv, h⟩ := hq
  subst hv
  refine j_A_call (j := 95) (As := [.int x1, .int r8]) (fr' := (49, 171, [some (.ref 0), some (.int x1), some (.int x2), some (.ref 15)], [])) (S' := S7) 1 rfl (e := 0) (by omega) (j_sp_within _ _ ?_)
  refine j_A_br (¬ (wi x1 r8) = 0) (r1 := ((49, 178, [some (.ref 0), some (.int x1), some (.int x2), some (.ref 15)], []), S7)) (r2 := ((49, 174, [some (.ref 0), some (.int x1), some (.int x2), some (.ref 15)], []), S7)) 1 rfl (fun c => ?_) (fun c => ?_)
  · have h := h.1 c
    refine j_A_call (j := 98) (As := [.ref 15, .int x1]) (fr' := (49, 183, [some (.ref 0), some (.int x1), some (.int x2), some (.ref 15)], [])) (S' := S7) 3 rfl (e := 0) (by omega) (j_sp_item 15 5 _ ⟨by decide, by decide, rfl⟩ (by decide) ?_)
    exact j_A_ret 1 (m := 49) (v := some (.int (it (S7.1 15) 5 x1))) (S' := S7) rfl rfl ⟨_, rfl, h⟩
  · have h := h.2 c
    exact j_A_ret 2 (m := 49) (v := some (.int (-1000 : Int32))) (S' := S7) rfl rfl ⟨_, rfl, h⟩
set_option maxRecDepth 10000 in
set_option maxHeartbeats 1000000 in
theorem j_wt49_b157d {E : ri_E} {Q : Int32 → ri_H → Prop} (x1 : Int32) (x2 : Int32) (S : ri_H) (h : w49_b157d   Q x1 x2 S) : j_ri_A E 3 (49, 157, [some (.ref 0), some (.int x1), some (.int x2), none], [.ref 16]) S (Qi Q) := by
  unfold w49_b157d at h
  refine j_A_call (j := 78) (As := [.ref 0, .int x2]) (fr' := (49, 168, [some (.ref 0), some (.int x1), some (.int x2), some (.ref 16)], [.int x1])) (S' := S) 7 rfl (e := 0) (by omega) (j_A_imp (j_wt78 x2 h) (fun v S9 hq => ?_))
  obtain ⟨r10, hv, h⟩ := hq
  subst hv
  refine j_A_call (j := 95) (As := [.int x1, .int r10]) (fr' := (49, 171, [some (.ref 0), some (.int x1), some (.int x2), some (.ref 16)], [])) (S' := S9) 1 rfl (e := 0) (by omega) (j_sp_within _ _ ?_)
  refine j_A_br (¬ (wi x1 r10) = 0) (r1 := ((49, 178, [some (.ref 0), some (.int x1), some (.int x2), some (.ref 16)], []), S9)) (r2 := ((49, 174, [some (.ref 0), some (.int x1), some (.int x2), some (.ref 16)], []), S9)) 1 rfl (fun c => ?_) (fun c => ?_)
  · have h := h.1 c
    refine j_A_call (j := 98) (As := [.ref 16, .int x1]) (fr' := (49, 183, [some (.ref 0), some (.int x1), some (.int x2), some (.ref 16)], [])) (S' := S9) 3 rfl (e := 0) (by omega) (j_sp_item 16 5 _ ⟨by decide, by decide, rfl⟩ (by decide) ?_)
    exact j_A_ret 1 (m := 49) (v := some (.int (it (S9.1 16) 5 x1))) (S' := S9) rfl rfl ⟨_, rfl, h⟩
  · have h := h.2 c
    exact j_A_ret 2 (m := 49) (v := some (.int (-1000 : Int32))) (S' := S9) rfl rfl ⟨_, rfl, h⟩
set_option maxRecDepth 10000 in
set_option maxHeartbeats 1000000 in
theorem j_wt49_b157e {E : ri_E} {Q : Int32 → ri_H → Prop} (x1 : Int32) (x2 : Int32) (S : ri_H) (h : w49_b157e   Q x1 x2 S) : j_ri_A E 3 (49, 157, [some (.ref 0), some (.int x1), some (.int x2), none], [.ref 17]) S (Qi Q) := by
  unfold w49_b157e at h
  refine j_A_call (j := 78) (As := [.ref 0, .int x2]) (fr' := (49, 168, [some (.ref 0), some (.int x1), some (.int x2), some (.ref 17)], [.int x1])) (S' := S) 7 rfl (e := 0) (by omega) (j_A_imp (j_wt78 x2 h) (fun v S11 hq => ?_))
  obtain ⟨r12, hv, h⟩ := hq
  subst hv
  refine j_A_call (j := 95) (As := [.int x1, .int r12]) (fr' := (49, 171, [some (.ref 0), some (.int x1), some (.int x2), some (.ref 17)], [])) (S' := S11) 1 rfl (e := 0) (by omega) (j_sp_within _ _ ?_)
  refine j_A_br (¬ (wi x1 r12) = 0) (r1 := ((49, 178, [some (.ref 0), some (.int x1), some (.int x2), some (.ref 17)], []), S11)) (r2 := ((49, 174, [some (.ref 0), some (.int x1), some (.int x2), some (.ref 17)], []), S11)) 1 rfl (fun c => ?_) (fun c => ?_)
  · have h := h.1 c
    refine j_A_call (j := 98) (As := [.ref 17, .int x1]) (fr' := (49, 183, [some (.ref 0), some (.int x1), some (.int x2), some (.ref 17)], [])) (S' := S11) 3 rfl (e := 0) (by omega) (j_sp_item 17 5 _ ⟨by decide, by decide, rfl⟩ (by decide) ?_)
    exact j_A_ret 1 (m := 49) (v := some (.int (it (S11.1 17) 5 x1))) (S' := S11) rfl rfl ⟨_, rfl, h⟩
  · have h := h.2 c
    exact j_A_ret 2 (m := 49) (v := some (.int (-1000 : Int32))) (S' := S11) rfl rfl ⟨_, rfl, h⟩
set_option maxRecDepth 10000 in
set_option maxHeartbeats 1000000 in
theorem j_wt49_b157f {E : ri_E} {Q : Int32 → ri_H → Prop} (x1 : Int32) (x2 : Int32) (S : ri_H) (h : w49_b157f   Q x1 x2 S) : j_ri_A E 3 (49, 157, [some (.ref 0), some (.int x1), some (.int x2), none], [.null]) S (Qi Q) := by
  unfold w49_b157f at h
  exact j_A_ret 5 (m := 49) (v := some (.int (-1000 : Int32))) (S' := S) rfl rfl ⟨_, rfl, h⟩
set_option maxRecDepth 10000 in
set_option maxHeartbeats 1000000 in
theorem j_wt49_b157g {E : ri_E} {Q : Int32 → ri_H → Prop} (x1 : Int32) (x2 : Int32) (S : ri_H) (h : w49_b157g   Q x1 x2 S) : j_ri_A E 3 (49, 157, [some (.ref 0), some (.int x1), some (.int x2), none], [.ref 13]) S (Qi Q) := by
  unfold w49_b157g at h
  refine j_A_call (j := 78) (As := [.ref 0, .int x2]) (fr' := (49, 168, [some (.ref 0), some (.int x1), some (.int x2), some (.ref 13)], [.int x1])) (S' := S) 7 rfl (e := 0) (by omega) (j_A_imp (j_wt78 x2 h) (fun v S13 hq => ?_))
  obtain ⟨r14, hv, h⟩ := hq
  subst hv
  refine j_A_call (j := 95) (As := [.int x1, .int r14]) (fr' := (49, 171, [some (.ref 0), some (.int x1), some (.int x2), some (.ref 13)], [])) (S' := S13) 1 rfl (e := 0) (by omega) (j_sp_within _ _ ?_)
  refine j_A_br (¬ (wi x1 r14) = 0) (r1 := ((49, 178, [some (.ref 0), some (.int x1), some (.int x2), some (.ref 13)], []), S13)) (r2 := ((49, 174, [some (.ref 0), some (.int x1), some (.int x2), some (.ref 13)], []), S13)) 1 rfl (fun c => ?_) (fun c => ?_)
  · have h := h.1 c
    refine j_A_call (j := 98) (As := [.ref 13, .int x1]) (fr' := (49, 183, [some (.ref 0), some (.int x1), some (.int x2), some (.ref 13)], [])) (S' := S13) 3 rfl (e := 0) (by omega) (j_sp_item 13 5 _ ⟨by decide, by decide, rfl⟩ (by decide) ?_)
    exact j_A_ret 1 (m := 49) (v := some (.int (it (S13.1 13) 5 x1))) (S' := S13) rfl rfl ⟨_, rfl, h⟩
  · have h := h.2 c
    exact j_A_ret 2 (m := 49) (v := some (.int (-1000 : Int32))) (S' := S13) rfl rfl ⟨_, rfl, h⟩
set_option maxRecDepth 10000 in
set_option maxHeartbeats 1000000 in
theorem j_wt49 {E : ri_E} (a : Int32) (b : Int32) {S : ri_H} {Q : Int32 → ri_H → Prop} (h : w49  a b S Q) : j_ri_A E 3 (ri_en 49 [.ref 0, .int a, .int b]) S (Qi Q) := by
  unfold w49 at h
  show j_ri_A E 3 (49, 0, [some (.ref 0), some (.int a), some (.int b), none], []) S (Qi Q)
  refine j_A_nx 2 (fr' := (49, ri_tgt 1 (135) (2) (10) [51, 135, 135, 135, 135, 135, 59, 85, 111] b, [some (.ref 0), some (.int a), some (.int b), none], [])) (S' := S) rfl ?_
  rcases ri_swc b (2) 9 (by decide) (by decide) with c | ⟨i, hi, c⟩
  · have c : b < Int32.ofInt (2) ∨ Int32.ofInt (10) < b := c
    have h := h.1 c
    rw [ri_tgt_out b c (by decide) (by decide)]
    refine j_A_br (¬ b = (7 : Int32)) (r1 := ((49, 152, [some (.ref 0), some (.int a), some (.int b), none], []), S)) (r2 := ((49, 142, [some (.ref 0), some (.int a), some (.int b), none], []), S)) 3 rfl (fun c => ?_) (fun c => ?_)
    · have h := h.1 c
      refine j_A_call (j := 77) (As := [.ref 0, .int b]) (fr' := (49, 157, [some (.ref 0), some (.int a), some (.int b), none], [])) (S' := S) 3 rfl (e := 0) (by omega) (j_sp_rowOf b (fun c => ?_) (fun c => ?_) (fun c => ?_) (fun c => ?_) (fun c => ?_) (fun c => ?_) (fun c => ?_))
      · have h := h.1 c
        refine j_ri_A.less (m := 49) (pc := 157) (L := [some (.ref 0), some (.int a), some (.int b), none]) (L' := [some (.ref 0), some (.int a), some (.int b), none]) (st := [.ref 11]) ⟨rfl, ⟨rfl, ⟨rfl, trivial⟩⟩⟩ ?_
        exact j_wt49_b157   _ _ _ h
      · have h := h.2.1 c
        refine j_ri_A.less (m := 49) (pc := 157) (L := [some (.ref 0), some (.int a), some (.int b), none]) (L' := [some (.ref 0), some (.int a), some (.int b), none]) (st := [.ref 12]) ⟨rfl, ⟨rfl, ⟨rfl, trivial⟩⟩⟩ ?_
        exact j_wt49_b157a   _ _ _ h
      · have h := h.2.2.1 c
        refine j_ri_A.less (m := 49) (pc := 157) (L := [some (.ref 0), some (.int a), some (.int b), none]) (L' := [some (.ref 0), some (.int a), some (.int b), none]) (st := [.ref 14]) ⟨rfl, ⟨rfl, ⟨rfl, trivial⟩⟩⟩ ?_
        exact j_wt49_b157b   _ _ _ h
      · have h := h.2.2.2.1 c
        refine j_ri_A.less (m := 49) (pc := 157) (L := [some (.ref 0), some (.int a), some (.int b), none]) (L' := [some (.ref 0), some (.int a), some (.int b), none]) (st := [.ref 15]) ⟨rfl, ⟨rfl, ⟨rfl, trivial⟩⟩⟩ ?_
        exact j_wt49_b157c   _ _ _ h
      · have h := h.2.2.2.2.1 c
        refine j_ri_A.less (m := 49) (pc := 157) (L := [some (.ref 0), some (.int a), some (.int b), none]) (L' := [some (.ref 0), some (.int a), some (.int b), none]) (st := [.ref 16]) ⟨rfl, ⟨rfl, ⟨rfl, trivial⟩⟩⟩ ?_
        exact j_wt49_b157d   _ _ _ h
      · have h := h.2.2.2.2.2.1 c
        refine j_ri_A.less (m := 49) (pc := 157) (L := [some (.ref 0), some (.int a), some (.int b), none]) (L' := [some (.ref 0), some (.int a), some (.int b), none]) (st := [.ref 17]) ⟨rfl, ⟨rfl, ⟨rfl, trivial⟩⟩⟩ ?_
        exact j_wt49_b157e   _ _ _ h
      · have h := h.2.2.2.2.2.2 c
        refine j_ri_A.less (m := 49) (pc := 157) (L := [some (.ref 0), some (.int a), some (.int b), none]) (L' := [some (.ref 0), some (.int a), some (.int b), none]) (st := [.null]) ⟨rfl, ⟨rfl, ⟨rfl, trivial⟩⟩⟩ ?_
        exact j_wt49_b157f   _ _ _ h
    · have h := h.2 c
      refine j_A_nx 4 (fr' := (49, 157, [some (.ref 0), some (.int a), some (.int b), none], [.ref 13])) (S' := S) rfl ?_
      refine j_ri_A.less (m := 49) (pc := 157) (L := [some (.ref 0), some (.int a), some (.int b), none]) (L' := [some (.ref 0), some (.int a), some (.int b), none]) (st := [.ref 13]) ⟨rfl, ⟨rfl, ⟨rfl, trivial⟩⟩⟩ ?_
      exact j_wt49_b157g   _ _ _ h
  · have h := h.2
    match i, hi, c with
    | 0, hi, c =>
      have c : b = (2 : Int32) := c
      have h := h.1 c
      rw [show ri_tgt 1 (135) (2) (10) [51, 135, 135, 135, 135, 135, 59, 85, 111] b = 52 by rw [c]; decide]
      exact j_A_ret 4 (m := 49) (v := some (.int (S.1 10 10))) (S' := S) rfl rfl ⟨_, rfl, h⟩
    | 1, hi, c =>
      have c : b = (3 : Int32) := c
      have h := h.2.1 c
      rw [show ri_tgt 1 (135) (2) (10) [51, 135, 135, 135, 135, 135, 59, 85, 111] b = 136 by rw [c]; decide]
      refine j_A_br (¬ b = (7 : Int32)) (r1 := ((49, 152, [some (.ref 0), some (.int a), some (.int b), none], []), S)) (r2 := ((49, 142, [some (.ref 0), some (.int a), some (.int b), none], []), S)) 3 rfl (fun c => ?_) (fun c => ?_)
      · have h := h.1 c
        refine j_A_call (j := 77) (As := [.ref 0, .int b]) (fr' := (49, 157, [some (.ref 0), some (.int a), some (.int b), none], [])) (S' := S) 3 rfl (e := 0) (by omega) (j_sp_rowOf b (fun c => ?_) (fun c => ?_) (fun c => ?_) (fun c => ?_) (fun c => ?_) (fun c => ?_) (fun c => ?_))
        · have h := h.1 c
          refine j_ri_A.less (m := 49) (pc := 157) (L := [some (.ref 0), some (.int a), some (.int b), none]) (L' := [some (.ref 0), some (.int a), some (.int b), none]) (st := [.ref 11]) ⟨rfl, ⟨rfl, ⟨rfl, trivial⟩⟩⟩ ?_
          exact j_wt49_b157   _ _ _ h
        · have h := h.2.1 c
          refine j_ri_A.less (m := 49) (pc := 157) (L := [some (.ref 0), some (.int a), some (.int b), none]) (L' := [some (.ref 0), some (.int a), some (.int b), none]) (st := [.ref 12]) ⟨rfl, ⟨rfl, ⟨rfl, trivial⟩⟩⟩ ?_
          exact j_wt49_b157a   _ _ _ h
        · have h := h.2.2.1 c
          refine j_ri_A.less (m := 49) (pc := 157) (L := [some (.ref 0), some (.int a), some (.int b), none]) (L' := [some (.ref 0), some (.int a), some (.int b), none]) (st := [.ref 14]) ⟨rfl, ⟨rfl, ⟨rfl, trivial⟩⟩⟩ ?_
          exact j_wt49_b157b   _ _ _ h
        · have h := h.2.2.2.1 c
          refine j_ri_A.less (m := 49) (pc := 157) (L := [some (.ref 0), some (.int a), some (.int b), none]) (L' := [some (.ref 0), some (.int a), some (.int b), none]) (st := [.ref 15]) ⟨rfl, ⟨rfl, ⟨rfl, trivial⟩⟩⟩ ?_
          exact j_wt49_b157c   _ _ _ h
        · have h := h.2.2.2.2.1 c
          refine j_ri_A.less (m := 49) (pc := 157) (L := [some (.ref 0), some (.int a), some (.int b), none]) (L' := [some (.ref 0), some (.int a), some (.int b), none]) (st := [.ref 16]) ⟨rfl, ⟨rfl, ⟨rfl, trivial⟩⟩⟩ ?_
          exact j_wt49_b157d   _ _ _ h
        · have h := h.2.2.2.2.2.1 c
          refine j_ri_A.less (m := 49) (pc := 157) (L := [some (.ref 0), some (.int a), some (.int b), none]) (L' := [some (.ref 0), some (.int a), some (.int b), none]) (st := [.ref 17]) ⟨rfl, ⟨rfl, ⟨rfl, trivial⟩⟩⟩ ?_
          exact j_wt49_b157e   _ _ _ h
        · have h := h.2.2.2.2.2.2 c
          refine j_ri_A.less (m := 49) (pc := 157) (L := [some (.ref 0), some (.int a), some (.int b), none]) (L' := [some (.ref 0), some (.int a), some (.int b), none]) (st := [.null]) ⟨rfl, ⟨rfl, ⟨rfl, trivial⟩⟩⟩ ?_
          exact j_wt49_b157f   _ _ _ h
      · have h := h.2 c
        refine j_A_nx 4 (fr' := (49, 157, [some (.ref 0), some (.int a), some (.int b), none], [.ref 13])) (S' := S) rfl ?_
        refine j_ri_A.less (m := 49) (pc := 157) (L := [some (.ref 0), some (.int a), some (.int b), none]) (L' := [some (.ref 0), some (.int a), some (.int b), none]) (st := [.ref 13]) ⟨rfl, ⟨rfl, ⟨rfl, trivial⟩⟩⟩ ?_
        exact j_wt49_b157g   _ _ _ h
    | 2, hi, c =>
      have c : b = (4 : Int32) := c
      have h := h.2.2.1 c
      rw [show ri_tgt 1 (135) (2) (10) [51, 135, 135, 135, 135, 135, 59, 85, 111] b = 136 by rw [c]; decide]
      refine j_A_br (¬ b = (7 : Int32)) (r1 := ((49, 152, [some (.ref 0), some (.int a), some (.int b), none], []), S)) (r2 := ((49, 142, [some (.ref 0), some (.int a), some (.int b), none], []), S)) 3 rfl (fun c => ?_) (fun c => ?_)
      · have h := h.1 c
        refine j_A_call (j := 77) (As := [.ref 0, .int b]) (fr' := (49, 157, [some (.ref 0), some (.int a), some (.int b), none], [])) (S' := S) 3 rfl (e := 0) (by omega) (j_sp_rowOf b (fun c => ?_) (fun c => ?_) (fun c => ?_) (fun c => ?_) (fun c => ?_) (fun c => ?_) (fun c => ?_))
        · have h := h.1 c
          refine j_ri_A.less (m := 49) (pc := 157) (L := [some (.ref 0), some (.int a), some (.int b), none]) (L' := [some (.ref 0), some (.int a), some (.int b), none]) (st := [.ref 11]) ⟨rfl, ⟨rfl, ⟨rfl, trivial⟩⟩⟩ ?_
          exact j_wt49_b157   _ _ _ h
        · have h := h.2.1 c
          refine j_ri_A.less (m := 49) (pc := 157) (L := [some (.ref 0), some (.int a), some (.int b), none]) (L' := [some (.ref 0), some (.int a), some (.int b), none]) (st := [.ref 12]) ⟨rfl, ⟨rfl, ⟨rfl, trivial⟩⟩⟩ ?_
          exact j_wt49_b157a   _ _ _ h
        · have h := h.2.2.1 c
          refine j_ri_A.less (m := 49) (pc := 157) (L := [some (.ref 0), some (.int a), some (.int b), none]) (L' := [some (.ref 0), some (.int a), some (.int b), none]) (st := [.ref 14]) ⟨rfl, ⟨rfl, ⟨rfl, trivial⟩⟩⟩ ?_
          exact j_wt49_b157b   _ _ _ h
        · have h := h.2.2.2.1 c
          refine j_ri_A.less (m := 49) (pc := 157) (L := [some (.ref 0), some (.int a), some (.int b), none]) (L' := [some (.ref 0), some (.int a), some (.int b), none]) (st := [.ref 15]) ⟨rfl, ⟨rfl, ⟨rfl, trivial⟩⟩⟩ ?_
          exact j_wt49_b157c   _ _ _ h
        · have h := h.2.2.2.2.1 c
          refine j_ri_A.less (m := 49) (pc := 157) (L := [some (.ref 0), some (.int a), some (.int b), none]) (L' := [some (.ref 0), some (.int a), some (.int b), none]) (st := [.ref 16]) ⟨rfl, ⟨rfl, ⟨rfl, trivial⟩⟩⟩ ?_
          exact j_wt49_b157d   _ _ _ h
        · have h := h.2.2.2.2.2.1 c
          refine j_ri_A.less (m := 49) (pc := 157) (L := [some (.ref 0), some (.int a), some (.int b), none]) (L' := [some (.ref 0), some (.int a), some (.int b), none]) (st := [.ref 17]) ⟨rfl, ⟨rfl, ⟨rfl, trivial⟩⟩⟩ ?_
          exact j_wt49_b157e   _ _ _ h
        · have h := h.2.2.2.2.2.2 c
          refine j_ri_A.less (m := 49) (pc := 157) (L := [some (.ref 0), some (.int a), some (.int b), none]) (L' := [some (.ref 0), some (.int a), some (.int b), none]) (st := [.null]) ⟨rfl, ⟨rfl, ⟨rfl, trivial⟩⟩⟩ ?_
          exact j_wt49_b157f   _ _ _ h
      · have h := h.2 c
        refine j_A_nx 4 (fr' := (49, 157, [some (.ref 0), some (.int a), some (.int b), none], [.ref 13])) (S' := S) rfl ?_
        refine j_ri_A.less (m := 49) (pc := 157) (L := [some (.ref 0), some (.int a), some (.int b), none]) (L' := [some (.ref 0), some (.int a), some (.int b), none]) (st := [.ref 13]) ⟨rfl, ⟨rfl, ⟨rfl, trivial⟩⟩⟩ ?_
        exact j_wt49_b157g   _ _ _ h
    | 3, hi, c =>
      have c : b = (5 : Int32) := c
      have h := h.2.2.2.1 c
      rw [show ri_tgt 1 (135) (2) (10) [51, 135, 135, 135, 135, 135, 59, 85, 111] b = 136 by rw [c]; decide]
      refine j_A_br (¬ b = (7 : Int32)) (r1 := ((49, 152, [some (.ref 0), some (.int a), some (.int b), none], []), S)) (r2 := ((49, 142, [some (.ref 0), some (.int a), some (.int b), none], []), S)) 3 rfl (fun c => ?_) (fun c => ?_)
      · have h := h.1 c
        refine j_A_call (j := 77) (As := [.ref 0, .int b]) (fr' := (49, 157, [some (.ref 0), some (.int a), some (.int b), none], [])) (S' := S) 3 rfl (e := 0) (by omega) (j_sp_rowOf b (fun c => ?_) (fun c => ?_) (fun c => ?_) (fun c => ?_) (fun c => ?_) (fun c => ?_) (fun c => ?_))
        · have h := h.1 c
          refine j_ri_A.less (m := 49) (pc := 157) (L := [some (.ref 0), some (.int a), some (.int b), none]) (L' := [some (.ref 0), some (.int a), some (.int b), none]) (st := [.ref 11]) ⟨rfl, ⟨rfl, ⟨rfl, trivial⟩⟩⟩ ?_
          exact j_wt49_b157   _ _ _ h
        · have h := h.2.1 c
          refine j_ri_A.less (m := 49) (pc := 157) (L := [some (.ref 0), some (.int a), some (.int b), none]) (L' := [some (.ref 0), some (.int a), some (.int b), none]) (st := [.ref 12]) ⟨rfl, ⟨rfl, ⟨rfl, trivial⟩⟩⟩ ?_
          exact j_wt49_b157a   _ _ _ h
        · have h := h.2.2.1 c
          refine j_ri_A.less (m := 49) (pc := 157) (L := [some (.ref 0), some (.int a), some (.int b), none]) (L' := [some (.ref 0), some (.int a), some (.int b), none]) (st := [.ref 14]) ⟨rfl, ⟨rfl, ⟨rfl, trivial⟩⟩⟩ ?_
          exact j_wt49_b157b   _ _ _ h
        · have h := h.2.2.2.1 c
          refine j_ri_A.less (m := 49) (pc := 157) (L := [some (.ref 0), some (.int a), some (.int b), none]) (L' := [some (.ref 0), some (.int a), some (.int b), none]) (st := [.ref 15]) ⟨rfl, ⟨rfl, ⟨rfl, trivial⟩⟩⟩ ?_
          exact j_wt49_b157c   _ _ _ h
        · have h := h.2.2.2.2.1 c
          refine j_ri_A.less (m := 49) (pc := 157) (L := [some (.ref 0), some (.int a), some (.int b), none]) (L' := [some (.ref 0), some (.int a), some (.int b), none]) (st := [.ref 16]) ⟨rfl, ⟨rfl, ⟨rfl, trivial⟩⟩⟩ ?_
          exact j_wt49_b157d   _ _ _ h
        · have h := h.2.2.2.2.2.1 c
          refine j_ri_A.less (m := 49) (pc := 157) (L := [some (.ref 0), some (.int a), some (.int b), none]) (L' := [some (.ref 0), some (.int a), some (.int b), none]) (st := [.ref 17]) ⟨rfl, ⟨rfl, ⟨rfl, trivial⟩⟩⟩ ?_
          exact j_wt49_b157e   _ _ _ h
        · have h := h.2.2.2.2.2.2 c
          refine j_ri_A.less (m := 49) (pc := 157) (L := [some (.ref 0), some (.int a), some (.int b), none]) (L' := [some (.ref 0), some (.int a), some (.int b), none]) (st := [.null]) ⟨rfl, ⟨rfl, ⟨rfl, trivial⟩⟩⟩ ?_
          exact j_wt49_b157f   _ _ _ h
      · have h := h.2 c
        refine j_A_nx 4 (fr' := (49, 157, [some (.ref 0), some (.int a), some (.int b), none], [.ref 13])) (S' := S) rfl ?_
        refine j_ri_A.less (m := 49) (pc := 157) (L := [some (.ref 0), some (.int a), some (.int b), none]) (L' := [some (.ref 0), some (.int a), some (.int b), none]) (st := [.ref 13]) ⟨rfl, ⟨rfl, ⟨rfl, trivial⟩⟩⟩ ?_
        exact j_wt49_b157g   _ _ _ h
    | 4, hi, c =>
      have c : b = (6 : Int32) := c
      have h := h.2.2.2.2.1 c
      rw [show ri_tgt 1 (135) (2) (10) [51, 135, 135, 135, 135, 135, 59, 85, 111] b = 136 by rw [c]; decide]
      refine j_A_br (¬ b = (7 : Int32)) (r1 := ((49, 152, [some (.ref 0), some (.int a), some (.int b), none], []), S)) (r2 := ((49, 142, [some (.ref 0), some (.int a), some (.int b), none], []), S)) 3 rfl (fun c => ?_) (fun c => ?_)
      · have h := h.1 c
        refine j_A_call (j := 77) (As := [.ref 0, .int b]) (fr' := (49, 157, [some (.ref 0), some (.int a), some (.int b), none], [])) (S' := S) 3 rfl (e := 0) (by omega) (j_sp_rowOf b (fun c => ?_) (fun c => ?_) (fun c => ?_) (fun c => ?_) (fun c => ?_) (fun c => ?_) (fun c => ?_))
        · have h := h.1 c
          refine j_ri_A.less (m := 49) (pc := 157) (L := [some (.ref 0), some (.int a), some (.int b), none]) (L' := [some (.ref 0), some (.int a), some (.int b), none]) (st := [.ref 11]) ⟨rfl, ⟨rfl, ⟨rfl, trivial⟩⟩⟩ ?_
          exact j_wt49_b157   _ _ _ h
        · have h := h.2.1 c
          refine j_ri_A.less (m := 49) (pc := 157) (L := [some (.ref 0), some (.int a), some (.int b), none]) (L' := [some (.ref 0), some (.int a), some (.int b), none]) (st := [.ref 12]) ⟨rfl, ⟨rfl, ⟨rfl, trivial⟩⟩⟩ ?_
          exact j_wt49_b157a   _ _ _ h
        · have h := h.2.2.1 c
          refine j_ri_A.less (m := 49) (pc := 157) (L := [some (.ref 0), some (.int a), some (.int b), none]) (L' := [some (.ref 0), some (.int a), some (.int b), none]) (st := [.ref 14]) ⟨rfl, ⟨rfl, ⟨rfl, trivial⟩⟩⟩ ?_
          exact j_wt49_b157b   _ _ _ h
        · have h := h.2.2.2.1 c
          refine j_ri_A.less (m := 49) (pc := 157) (L := [some (.ref 0), some (.int a), some (.int b), none]) (L' := [some (.ref 0), some (.int a), some (.int b), none]) (st := [.ref 15]) ⟨rfl, ⟨rfl, ⟨rfl, trivial⟩⟩⟩ ?_
          exact j_wt49_b157c   _ _ _ h
        · have h := h.2.2.2.2.1 c
          refine j_ri_A.less (m := 49) (pc := 157) (L := [some (.ref 0), some (.int a), some (.int b), none]) (L' := [some (.ref 0), some (.int a), some (.int b), none]) (st := [.ref 16]) ⟨rfl, ⟨rfl, ⟨rfl, trivial⟩⟩⟩ ?_
          exact j_wt49_b157d   _ _ _ h
        · have h := h.2.2.2.2.2.1 c
          refine j_ri_A.less (m := 49) (pc := 157) (L := [some (.ref 0), some (.int a), some (.int b), none]) (L' := [some (.ref 0), some (.int a), some (.int b), none]) (st := [.ref 17]) ⟨rfl, ⟨rfl, ⟨rfl, trivial⟩⟩⟩ ?_
          exact j_wt49_b157e   _ _ _ h
        · have h := h.2.2.2.2.2.2 c
          refine j_ri_A.less (m := 49) (pc := 157) (L := [some (.ref 0), some (.int a), some (.int b), none]) (L' := [some (.ref 0), some (.int a), some (.int b), none]) (st := [.null]) ⟨rfl, ⟨rfl, ⟨rfl, trivial⟩⟩⟩ ?_
          exact j_wt49_b157f   _ _ _ h
      · have h := h.2 c
        refine j_A_nx 4 (fr' := (49, 157, [some (.ref 0), some (.int a), some (.int b), none], [.ref 13])) (S' := S) rfl ?_
        refine j_ri_A.less (m := 49) (pc := 157) (L := [some (.ref 0), some (.int a), some (.int b), none]) (L' := [some (.ref 0), some (.int a), some (.int b), none]) (st := [.ref 13]) ⟨rfl, ⟨rfl, ⟨rfl, trivial⟩⟩⟩ ?_
        exact j_wt49_b157g   _ _ _ h
    | 5, hi, c =>
      have c : b = (7 : Int32) := c
      have h := h.2.2.2.2.2.1 c
      rw [show ri_tgt 1 (135) (2) (10) [51, 135, 135, 135, 135, 135, 59, 85, 111] b = 136 by rw [c]; decide]
      refine j_A_br (¬ b = (7 : Int32)) (r1 := ((49, 152, [some (.ref 0), some (.int a), some (.int b), none], []), S)) (r2 := ((49, 142, [some (.ref 0), some (.int a), some (.int b), none], []), S)) 3 rfl (fun c => ?_) (fun c => ?_)
      · have h := h.1 c
        refine j_A_call (j := 77) (As := [.ref 0, .int b]) (fr' := (49, 157, [some (.ref 0), some (.int a), some (.int b), none], [])) (S' := S) 3 rfl (e := 0) (by omega) (j_sp_rowOf b (fun c => ?_) (fun c => ?_) (fun c => ?_) (fun c => ?_) (fun c => ?_) (fun c => ?_) (fun c => ?_))
        · have h := h.1 c
          refine j_ri_A.less (m := 49) (pc := 157) (L := [some (.ref 0), some (.int a), some (.int b), none]) (L' := [some (.ref 0), some (.int a), some (.int b), none]) (st := [.ref 11]) ⟨rfl, ⟨rfl, ⟨rfl, trivial⟩⟩⟩ ?_
          exact j_wt49_b157   _ _ _ h
        · have h := h.2.1 c
          refine j_ri_A.less (m := 49) (pc := 157) (L := [some (.ref 0), some (.int a), some (.int b), none]) (L' := [some (.ref 0), some (.int a), some (.int b), none]) (st := [.ref 12]) ⟨rfl, ⟨rfl, ⟨rfl, trivial⟩⟩⟩ ?_
          exact j_wt49_b157a   _ _ _ h
        · have h := h.2.2.1 c
          refine j_ri_A.less (m := 49) (pc := 157) (L := [some (.ref 0), some (.int a), some (.int b), none]) (L' := [some (.ref 0), some (.int a), some (.int b), none]) (st := [.ref 14]) ⟨rfl, ⟨rfl, ⟨rfl, trivial⟩⟩⟩ ?_
          exact j_wt49_b157b   _ _ _ h
        · have h := h.2.2.2.1 c
          refine j_ri_A.less (m := 49) (pc := 157) (L := [some (.ref 0), some (.int a), some (.int b), none]) (L' := [some (.ref 0), some (.int a), some (.int b), none]) (st := [.ref 15]) ⟨rfl, ⟨rfl, ⟨rfl, trivial⟩⟩⟩ ?_
          exact j_wt49_b157c   _ _ _ h
        · have h := h.2.2.2.2.1 c
          refine j_ri_A.less (m := 49) (pc := 157) (L := [some (.ref 0), some (.int a), some (.int b), none]) (L' := [some (.ref 0), some (.int a), some (.int b), none]) (st := [.ref 16]) ⟨rfl, ⟨rfl, ⟨rfl, trivial⟩⟩⟩ ?_
          exact j_wt49_b157d   _ _ _ h
        · have h := h.2.2.2.2.2.1 c
          refine j_ri_A.less (m := 49) (pc := 157) (L := [some (.ref 0), some (.int a), some (.int b), none]) (L' := [some (.ref 0), some (.int a), some (.int b), none]) (st := [.ref 17]) ⟨rfl, ⟨rfl, ⟨rfl, trivial⟩⟩⟩ ?_
          exact j_wt49_b157e   _ _ _ h
        · have h := h.2.2.2.2.2.2 c
          refine j_ri_A.less (m := 49) (pc := 157) (L := [some (.ref 0), some (.int a), some (.int b), none]) (L' := [some (.ref 0), some (.int a), some (.int b), none]) (st := [.null]) ⟨rfl, ⟨rfl, ⟨rfl, trivial⟩⟩⟩ ?_
          exact j_wt49_b157f   _ _ _ h
      · have h := h.2 c
        refine j_A_nx 4 (fr' := (49, 157, [some (.ref 0), some (.int a), some (.int b), none], [.ref 13])) (S' := S) rfl ?_
        refine j_ri_A.less (m := 49) (pc := 157) (L := [some (.ref 0), some (.int a), some (.int b), none]) (L' := [some (.ref 0), some (.int a), some (.int b), none]) (st := [.ref 13]) ⟨rfl, ⟨rfl, ⟨rfl, trivial⟩⟩⟩ ?_
        exact j_wt49_b157g   _ _ _ h
    | 6, hi, c =>
      have c : b = (8 : Int32) := c
      have h := h.2.2.2.2.2.2.1 c
      rw [show ri_tgt 1 (135) (2) (10) [51, 135, 135, 135, 135, 135, 59, 85, 111] b = 60 by rw [c]; decide]
      refine j_A_call (j := 34) (As := [.ref 10, .int a]) (fr' := (49, 68, [some (.ref 0), some (.int a), some (.int b), none], [])) (S' := S) 4 rfl (e := 0) (by omega) (j_sp_has 10 (by decide) _ ?_)
      refine j_A_br ((wi a (S.1 10 9)) = 0) (r1 := ((49, 82, [some (.ref 0), some (.int a), some (.int b), none], []), S)) (r2 := ((49, 71, [some (.ref 0), some (.int a), some (.int b), none], []), S)) 1 rfl (fun c => ?_) (fun c => ?_)
      · have h := h.1 c
        exact j_A_ret 2 (m := 49) (v := some (.int (-1000 : Int32))) (S' := S) rfl rfl ⟨_, rfl, h⟩
      · have h := h.2 c
        refine j_A_call (j := 40) (As := [.ref 10, .int a]) (fr' := (49, 79, [some (.ref 0), some (.int a), some (.int b), none], [])) (S' := S) 4 rfl (e := 2) (by omega) (j_A_imp (j_wt40 10 (by decide) a h) (fun v S15 hq => ?_))
        obtain ⟨r16, hv, h⟩ := hq
        subst hv
        exact j_A_ret 2 (m := 49) (v := some (.int r16)) (S' := S15) rfl rfl ⟨_, rfl, h⟩
    | 7, hi, c =>
      have c : b = (9 : Int32) := c
      have h := h.2.2.2.2.2.2.2.1 c
      rw [show ri_tgt 1 (135) (2) (10) [51, 135, 135, 135, 135, 135, 59, 85, 111] b = 86 by rw [c]; decide]
      refine j_A_call (j := 34) (As := [.ref 10, .int a]) (fr' := (49, 94, [some (.ref 0), some (.int a), some (.int b), none], [])) (S' := S) 4 rfl (e := 0) (by omega) (j_sp_has 10 (by decide) _ ?_)
      refine j_A_br ((wi a (S.1 10 9)) = 0) (r1 := ((49, 108, [some (.ref 0), some (.int a), some (.int b), none], []), S)) (r2 := ((49, 97, [some (.ref 0), some (.int a), some (.int b), none], []), S)) 1 rfl (fun c => ?_) (fun c => ?_)
      · have h := h.1 c
        exact j_A_ret 2 (m := 49) (v := some (.int (-1000 : Int32))) (S' := S) rfl rfl ⟨_, rfl, h⟩
      · have h := h.2 c
        refine j_A_call (j := 41) (As := [.ref 10, .int a]) (fr' := (49, 105, [some (.ref 0), some (.int a), some (.int b), none], [])) (S' := S) 4 rfl (e := 2) (by omega) (j_A_imp (j_wt41 10 (by decide) a h) (fun v S17 hq => ?_))
        obtain ⟨r18, hv, h⟩ := hq
        subst hv
        exact j_A_ret 2 (m := 49) (v := some (.int r18)) (S' := S17) rfl rfl ⟨_, rfl, h⟩
    | 8, hi, c =>
      have c : b = (10 : Int32) := c
      have h := h.2.2.2.2.2.2.2.2 c
      rw [show ri_tgt 1 (135) (2) (10) [51, 135, 135, 135, 135, 135, 59, 85, 111] b = 112 by rw [c]; decide]
      refine j_A_call (j := 95) (As := [.int a, .int (12 : Int32)]) (fr' := (49, 118, [some (.ref 0), some (.int a), some (.int b), none], [])) (S' := S) 3 rfl (e := 0) (by omega) (j_sp_within _ _ ?_)
      refine j_A_br ((wi a (12 : Int32)) = 0) (r1 := ((49, 132, [some (.ref 0), some (.int a), some (.int b), none], []), S)) (r2 := ((49, 121, [some (.ref 0), some (.int a), some (.int b), none], []), S)) 1 rfl (fun c => ?_) (fun c => ?_)
      · have h := h.1 c
        exact j_A_ret 2 (m := 49) (v := some (.int (-1000 : Int32))) (S' := S) rfl rfl ⟨_, rfl, h⟩
      · have h := h.2 c
        refine j_A_call (j := 36) (As := [.ref 10, .int a]) (fr' := (49, 129, [some (.ref 0), some (.int a), some (.int b), none], [])) (S' := S) 4 rfl (e := 2) (by omega) (j_A_imp (j_wt36 10 (by decide) a h) (fun v S19 hq => ?_))
        obtain ⟨r20, hv, h⟩ := hq
        subst hv
        exact j_A_ret 2 (m := 49) (v := some (.int r20)) (S' := S19) rfl rfl ⟨_, rfl, h⟩
    | i + 9, hi, c => exact absurd hi (by omega)
set_option maxRecDepth 10000 in
set_option maxHeartbeats 1000000 in
theorem j_wt56_l86 {E : ri_E} {Q : Int32 → ri_H → Prop} : ∀ (n : Nat) (x1 : Int32) (x2 : Int32) (x3 : Int32) (x5 : Int32) (x6 : Int32) (S : ri_H), w56_l86   Q n x1 x2 x3 x5 x6 S → j_ri_A E 4 (56, 86, [some (.ref 0), some (.int x1), some (.int x2), some (.int x3), none, some (.int x5), some (.int x6)], []) S (Qi Q) := by
  intro n
  induction n with
  | zero => intro x1 x2 x3 x5 x6 S h; exact h.elim
  | succ n ih =>
    intro x1 x2 x3 x5 x6 S h
    unfold w56_l86 at h
    refine j_A_br (x2 ≤ x6) (r1 := ((56, 125, [some (.ref 0), some (.int x1), some (.int x2), some (.int x3), none, some (.int x5), some (.int x6)], []), S)) (r2 := ((56, 92, [some (.ref 0), some (.int x1), some (.int x2), some (.int x3), none, some (.int x5), some (.int x6)], []), S)) 3 rfl (fun c => ?_) (fun c => ?_)
    · have h := h.1 c
      refine j_A_nx 2 (fr' := (56, ri_tgt 126 (49) (0) (2) [26, 38, 41] x3, [some (.ref 0), some (.int x1), some (.int x2), some (.int x3), none, some (.int x5), some (.int x6)], [])) (S' := S) rfl ?_
      rcases ri_swc x3 (0) 3 (by decide) (by decide) with c | ⟨i, hi, c⟩
      · have c : x3 < Int32.ofInt (0) ∨ Int32.ofInt (2) < x3 := c
        have h := h.1 c
        rw [ri_tgt_out x3 c (by decide) (by decide)]
        refine j_A_call (j := 98) (As := [.ref 21, .int (x3 - (10 : Int32))]) (fr' := (56, 189, [some (.ref 0), some (.int x1), some (.int x2), some (.int x3), none, some (.int x5), some (.int x6)], [])) (S' := S) 7 rfl (e := 0) (by omega) (j_sp_item 21 24 _ ⟨by decide, by decide, rfl⟩ (by decide) ?_)
        exact j_A_ret 1 (m := 56) (v := some (.int (it (S.1 21) 24 (x3 - (10 : Int32))))) (S' := S) rfl rfl ⟨_, rfl, h⟩
      · have h := h.2
        match i, hi, c with
        | 0, hi, c =>
          have c : x3 = (0 : Int32) := c
          have h := h.1 c
          rw [show ri_tgt 126 (49) (0) (2) [26, 38, 41] x3 = 152 by rw [c]; decide]
          refine j_A_call (j := 98) (As := [.ref 24, .int x1]) (fr' := (56, 163, [some (.ref 0), some (.int x1), some (.int x2), some (.int x3), none, some (.int x5), some (.int x6)], [])) (S' := S) 5 rfl (e := 0) (by omega) (j_sp_item 24 5 _ ⟨by decide, by decide, rfl⟩ (by decide) ?_)
          exact j_A_ret 1 (m := 56) (v := some (.int (it (S.1 24) 5 x1))) (S' := S) rfl rfl ⟨_, rfl, h⟩
        | 1, hi, c =>
          have c : x3 = (1 : Int32) := c
          have h := h.2.1 c
          rw [show ri_tgt 126 (49) (0) (2) [26, 38, 41] x3 = 164 by rw [c]; decide]
          exact j_A_ret 2 (m := 56) (v := some (.int x5)) (S' := S) rfl rfl ⟨_, rfl, h⟩
        | 2, hi, c =>
          have c : x3 = (2 : Int32) := c
          have h := h.2.2 c
          rw [show ri_tgt 126 (49) (0) (2) [26, 38, 41] x3 = 167 by rw [c]; decide]
          refine j_A_call (j := 37) (As := [.ref 19]) (fr' := (56, 174, [some (.ref 0), some (.int x1), some (.int x2), some (.int x3), none, some (.int x5), some (.int x6)], [])) (S' := S) 3 rfl (e := 0) (by omega) (j_A_imp (j_wt37 19 (by decide)  h) (fun v S2 hq => ?_))
          obtain ⟨r3, hv, h⟩ := hq
          subst hv
          exact j_A_ret 1 (m := 56) (v := some (.int r3)) (S' := S2) rfl rfl ⟨_, rfl, h⟩
        | i + 3, hi, c => exact absurd hi (by omega)
    · have h := h.2 c
      refine j_A_call (j := 39) (As := [.ref 19, .int (-1 : Int32)]) (fr' := (56, 100, [some (.ref 0), some (.int x1), some (.int x2), some (.int x3), none, some (.int x5), some (.int x6)], [])) (S' := S) 4 rfl (e := 3) (by omega) (j_A_imp (j_wt39 19 (by decide) (-1 : Int32) h) (fun v S4 hq => ?_))
      obtain ⟨hv, h⟩ := hq
      subst hv
      refine j_A_call (j := 98) (As := [.ref 24, .int x1]) (fr' := (56, 113, [some (.ref 0), some (.int x1), some (.int x2), some (.int x3), none, some (.int x5), some (.int x6)], [.int x5])) (S' := S4) 6 rfl (e := 0) (by omega) (j_sp_item 24 5 _ ⟨by decide, by decide, rfl⟩ (by decide) ?_)
      refine j_A_call (j := 97) (As := [.int (it (S4.1 24) 5 x1)]) (fr' := (56, 116, [some (.ref 0), some (.int x1), some (.int x2), some (.int x3), none, some (.int x5), some (.int x6)], [.int x5])) (S' := S4) 1 rfl (e := 1) (by omega) (j_sp_bit _ ?_)
      refine j_A_nx 4 (fr' := (56, 86, [some (.ref 0), some (.int x1), some (.int x2), some (.int x3), none, some (.int (x5 ||| (bt (it (S4.1 24) 5 x1)))), some (.int (x6 + (1 : Int32)))], [])) (S' := S4) rfl ?_
      refine j_ri_A.less (m := 56) (pc := 86) (L := [some (.ref 0), some (.int x1), some (.int x2), some (.int x3), none, some (.int (x5 ||| (bt (it (S4.1 24) 5 x1)))), some (.int (x6 + (1 : Int32)))]) (L' := [some (.ref 0), some (.int x1), some (.int x2), some (.int x3), none, some (.int (x5 ||| (bt (it (S4.1 24) 5 x1)))), some (.int (x6 + (1 : Int32)))]) (st := []) ⟨rfl, ⟨rfl, ⟨rfl, ⟨rfl, ⟨rfl, ⟨rfl, trivial⟩⟩⟩⟩⟩⟩ ?_
      exact ih _ _ _ _ _ _ h
set_option maxRecDepth 10000 in
set_option maxHeartbeats 1000000 in
theorem j_wt56_b56 {E : ri_E} {Q : Int32 → ri_H → Prop} (x1 : Int32) (x2 : Int32) (x3 : Int32) (S : ri_H) (h : w56_b56   Q x1 x2 x3 S) : j_ri_A E 4 (56, 56, [some (.ref 0), some (.int x1), some (.int x2), some (.int x3), none, none, none], []) S (Qi Q) := by
  unfold w56_b56 at h
  refine j_A_call (j := 33) (As := [.ref 19, .ref 10]) (fr' := (56, 67, [some (.ref 0), some (.int x1), some (.int x2), some (.int x3), none, none, none], [])) (S' := S) 5 rfl (e := 1) (by omega) (j_A_imp (j_wt33 19 10 (by decide) h) (fun v S1 hq => ?_))
  obtain ⟨hv, h⟩ := hq
  subst hv
  refine j_A_call (j := 98) (As := [.ref 24, .int x1]) (fr' := (56, 78, [some (.ref 0), some (.int x1), some (.int x2), some (.int x3), none, none, none], [])) (S' := S1) 5 rfl (e := 0) (by omega) (j_sp_item 24 5 _ ⟨by decide, by decide, rfl⟩ (by decide) ?_)
  refine j_A_call (j := 97) (As := [.int (it (S1.1 24) 5 x1)]) (fr' := (56, 81, [some (.ref 0), some (.int x1), some (.int x2), some (.int x3), none, none, none], [])) (S' := S1) 1 rfl (e := 1) (by omega) (j_sp_bit _ ?_)
  refine j_A_nx 3 (fr' := (56, 86, [some (.ref 0), some (.int x1), some (.int x2), some (.int x3), none, some (.int (bt (it (S1.1 24) 5 x1))), some (.int (0 : Int32))], [])) (S' := S1) rfl ?_
  refine j_ri_A.less (m := 56) (pc := 86) (L := [some (.ref 0), some (.int x1), some (.int x2), some (.int x3), none, some (.int (bt (it (S1.1 24) 5 x1))), some (.int (0 : Int32))]) (L' := [some (.ref 0), some (.int x1), some (.int x2), some (.int x3), none, some (.int (bt (it (S1.1 24) 5 x1))), some (.int (0 : Int32))]) (st := []) ⟨rfl, ⟨rfl, ⟨rfl, ⟨rfl, ⟨rfl, ⟨rfl, trivial⟩⟩⟩⟩⟩⟩ ?_
  obtain ⟨nn, h⟩ := h
  exact j_wt56_l86   nn _ _ _ _ _ _ h
set_option maxRecDepth 10000 in
set_option maxHeartbeats 1000000 in
theorem j_wt56_b17 {E : ri_E} {Q : Int32 → ri_H → Prop} (x1 : Int32) (x2 : Int32) (x3 : Int32) (s0 : Int32) (S : ri_H) (h : w56_b17   Q x1 x2 x3 s0 S) : j_ri_A E 4 (56, 17, [some (.ref 0), some (.int x1), some (.int x2), some (.int x3), none, none, none], [.int s0]) S (Qi Q) := by
  unfold w56_b17 at h
  refine j_A_call (j := 34) (As := [.ref 10, .int x1]) (fr' := (56, 27, [some (.ref 0), some (.int x1), some (.int x2), some (.int x3), some (.int s0), none, none], [])) (S' := S) 5 rfl (e := 0) (by omega) (j_sp_has 10 (by decide) _ ?_)
  refine j_A_br ((wi x1 (S.1 10 9)) = 0) (r1 := ((56, 53, [some (.ref 0), some (.int x1), some (.int x2), some (.int x3), some (.int s0), none, none], []), S)) (r2 := ((56, 30, [some (.ref 0), some (.int x1), some (.int x2), some (.int x3), some (.int s0), none, none], []), S)) 1 rfl (fun c => ?_) (fun c => ?_)
  · have h := h.1 c
    exact j_A_ret 2 (m := 56) (v := some (.int (-2 : Int32))) (S' := S) rfl rfl ⟨_, rfl, h⟩
  · have h := h.2 c
    refine j_A_br (x2 < 0) (r1 := ((56, 53, [some (.ref 0), some (.int x1), some (.int x2), some (.int x3), some (.int s0), none, none], []), S)) (r2 := ((56, 34, [some (.ref 0), some (.int x1), some (.int x2), some (.int x3), some (.int s0), none, none], []), S)) 2 rfl (fun c => ?_) (fun c => ?_)
    · have h := h.1 c
      exact j_A_ret 2 (m := 56) (v := some (.int (-2 : Int32))) (S' := S) rfl rfl ⟨_, rfl, h⟩
    · have h := h.2 c
      refine j_A_br ((60 : Int32) < x2) (r1 := ((56, 53, [some (.ref 0), some (.int x1), some (.int x2), some (.int x3), some (.int s0), none, none], []), S)) (r2 := ((56, 40, [some (.ref 0), some (.int x1), some (.int x2), some (.int x3), some (.int s0), none, none], []), S)) 3 rfl (fun c => ?_) (fun c => ?_)
      · have h := h.1 c
        exact j_A_ret 2 (m := 56) (v := some (.int (-2 : Int32))) (S' := S) rfl rfl ⟨_, rfl, h⟩
      · have h := h.2 c
        refine j_A_br (¬ s0 = 0) (r1 := ((56, 56, [some (.ref 0), some (.int x1), some (.int x2), some (.int x3), some (.int s0), none, none], []), S)) (r2 := ((56, 45, [some (.ref 0), some (.int x1), some (.int x2), some (.int x3), some (.int s0), none, none], []), S)) 2 rfl (fun c => ?_) (fun c => ?_)
        · have h := h.1 c
          refine j_ri_A.less (m := 56) (pc := 56) (L := [some (.ref 0), some (.int x1), some (.int x2), some (.int x3), some (.int s0), none, none]) (L' := [some (.ref 0), some (.int x1), some (.int x2), some (.int x3), none, none, none]) (st := []) ⟨rfl, ⟨rfl, ⟨rfl, ⟨rfl, trivial⟩⟩⟩⟩ ?_
          exact j_wt56_b56   _ _ _ _ h
        · have h := h.2 c
          refine j_A_call (j := 95) (As := [.int x3, .int (3 : Int32)]) (fr' := (56, 50, [some (.ref 0), some (.int x1), some (.int x2), some (.int x3), some (.int s0), none, none], [])) (S' := S) 3 rfl (e := 0) (by omega) (j_sp_within _ _ ?_)
          refine j_A_br (¬ (wi x3 (3 : Int32)) = 0) (r1 := ((56, 56, [some (.ref 0), some (.int x1), some (.int x2), some (.int x3), some (.int s0), none, none], []), S)) (r2 := ((56, 53, [some (.ref 0), some (.int x1), some (.int x2), some (.int x3), some (.int s0), none, none], []), S)) 1 rfl (fun c => ?_) (fun c => ?_)
          · have h := h.1 c
            refine j_ri_A.less (m := 56) (pc := 56) (L := [some (.ref 0), some (.int x1), some (.int x2), some (.int x3), some (.int s0), none, none]) (L' := [some (.ref 0), some (.int x1), some (.int x2), some (.int x3), none, none, none]) (st := []) ⟨rfl, ⟨rfl, ⟨rfl, ⟨rfl, trivial⟩⟩⟩⟩ ?_
            exact j_wt56_b56   _ _ _ _ h
          · have h := h.2 c
            exact j_A_ret 2 (m := 56) (v := some (.int (-2 : Int32))) (S' := S) rfl rfl ⟨_, rfl, h⟩
set_option maxRecDepth 10000 in
set_option maxHeartbeats 1000000 in
theorem j_wt56_b16 {E : ri_E} {Q : Int32 → ri_H → Prop} (x1 : Int32) (x2 : Int32) (x3 : Int32) (S : ri_H) (h : w56_b16   Q x1 x2 x3 S) : j_ri_A E 4 (56, 16, [some (.ref 0), some (.int x1), some (.int x2), some (.int x3), none, none, none], []) S (Qi Q) := by
  unfold w56_b16 at h
  refine j_A_nx 1 (fr' := (56, 17, [some (.ref 0), some (.int x1), some (.int x2), some (.int x3), none, none, none], [.int (0 : Int32)])) (S' := S) rfl ?_
  refine j_ri_A.less (m := 56) (pc := 17) (L := [some (.ref 0), some (.int x1), some (.int x2), some (.int x3), none, none, none]) (L' := [some (.ref 0), some (.int x1), some (.int x2), some (.int x3), none, none, none]) (st := [.int (0 : Int32)]) ⟨rfl, ⟨rfl, ⟨rfl, ⟨rfl, trivial⟩⟩⟩⟩ ?_
  exact j_wt56_b17   _ _ _ _ _ h
set_option maxRecDepth 10000 in
set_option maxHeartbeats 1000000 in
theorem j_wt56 {E : ri_E} (a : Int32) (b : Int32) (g : Int32) {S : ri_H} {Q : Int32 → ri_H → Prop} (h : w56  a b g S Q) : j_ri_A E 4 (ri_en 56 [.ref 0, .int a, .int b, .int g]) S (Qi Q) := by
  unfold w56 at h
  show j_ri_A E 4 (56, 0, [some (.ref 0), some (.int a), some (.int b), some (.int g), none, none, none], []) S (Qi Q)
  refine j_A_br (g < (10 : Int32)) (r1 := ((56, 16, [some (.ref 0), some (.int a), some (.int b), some (.int g), none, none, none], []), S)) (r2 := ((56, 6, [some (.ref 0), some (.int a), some (.int b), some (.int g), none, none, none], []), S)) 3 rfl (fun c => ?_) (fun c => ?_)
  · have h := h.1 c
    refine j_ri_A.less (m := 56) (pc := 16) (L := [some (.ref 0), some (.int a), some (.int b), some (.int g), none, none, none]) (L' := [some (.ref 0), some (.int a), some (.int b), some (.int g), none, none, none]) (st := []) ⟨rfl, ⟨rfl, ⟨rfl, ⟨rfl, trivial⟩⟩⟩⟩ ?_
    exact j_wt56_b16   _ _ _ _ h
  · have h := h.2 c
    refine j_A_br ((34 : Int32) ≤ g) (r1 := ((56, 16, [some (.ref 0), some (.int a), some (.int b), some (.int g), none, none, none], []), S)) (r2 := ((56, 12, [some (.ref 0), some (.int a), some (.int b), some (.int g), none, none, none], []), S)) 3 rfl (fun c => ?_) (fun c => ?_)
    · have h := h.1 c
      refine j_ri_A.less (m := 56) (pc := 16) (L := [some (.ref 0), some (.int a), some (.int b), some (.int g), none, none, none]) (L' := [some (.ref 0), some (.int a), some (.int b), some (.int g), none, none, none]) (st := []) ⟨rfl, ⟨rfl, ⟨rfl, ⟨rfl, trivial⟩⟩⟩⟩ ?_
      exact j_wt56_b16   _ _ _ _ h
    · have h := h.2 c
      refine j_A_nx 2 (fr' := (56, 17, [some (.ref 0), some (.int a), some (.int b), some (.int g), none, none, none], [.int (1 : Int32)])) (S' := S) rfl ?_
      refine j_ri_A.less (m := 56) (pc := 17) (L := [some (.ref 0), some (.int a), some (.int b), some (.int g), none, none, none]) (L' := [some (.ref 0), some (.int a), some (.int b), some (.int g), none, none, none]) (st := [.int (1 : Int32)]) ⟨rfl, ⟨rfl, ⟨rfl, ⟨rfl, trivial⟩⟩⟩⟩ ?_
      exact j_wt56_b17   _ _ _ _ _ h
set_option maxRecDepth 10000 in
set_option maxHeartbeats 1000000 in
theorem j_wt81_l95 {E : ri_E} {Q : ri_H → Prop} : ∀ (n : Nat) (x1 : Int32) (S : ri_H), w81_l95   Q n x1 S → j_ri_A E 1 (81, 95, [some (.ref 0), some (.int x1), none], []) S (Qv Q) := by
  intro n
  induction n with
  | zero => intro x1 S h; exact h.elim
  | succ n ih =>
    intro x1 S h
    unfold w81_l95 at h
    refine j_A_br ((12 : Int32) ≤ x1) (r1 := ((81, 131, [some (.ref 0), some (.int x1), none], []), S)) (r2 := ((81, 104, [some (.ref 0), some (.int x1), none], []), S)) 5 rfl (fun c => ?_) (fun c => ?_)
    · have h := h.1 c
      exact j_A_ret 1 (m := 81) (v := none) (S' := S) rfl rfl ⟨rfl, h⟩
    · have h := h.2 c
      refine j_A_br ((12 : Int32) ≤ x1) (r1 := ((81, 131, [some (.ref 0), some (.int x1), none], []), S)) (r2 := ((81, 113, [some (.ref 0), some (.int x1), none], []), S)) 5 rfl (fun c => ?_) (fun c => ?_)
      · have h := h.1 c
        exact j_A_ret 1 (m := 81) (v := none) (S' := S) rfl rfl ⟨rfl, h⟩
      · have h := h.2 c
        refine j_A_ix x1 12 (r1 := ((81, 124, [some (.ref 0), some (.int x1), none], [.long (S.2 47 (x1).toNatClampNeg), .int x1, .ref 46]), S)) 7 rfl h.1 ?_
        have h := h.2
        refine j_A_ix x1 12 (r1 := ((81, 125, [some (.ref 0), some (.int x1), none], []), (ri_wl S 46 (x1).toNatClampNeg (S.2 47 (x1).toNatClampNeg)))) 1 rfl h.1 ?_
        have h := h.2
        refine j_A_nx 2 (fr' := (81, 95, [some (.ref 0), some (.int (x1 + (1 : Int32))), none], [])) (S' := (ri_wl S 46 (x1).toNatClampNeg (S.2 47 (x1).toNatClampNeg))) rfl ?_
        refine j_ri_A.less (m := 81) (pc := 95) (L := [some (.ref 0), some (.int (x1 + (1 : Int32))), none]) (L' := [some (.ref 0), some (.int (x1 + (1 : Int32))), none]) (st := []) ⟨rfl, ⟨rfl, trivial⟩⟩ ?_
        exact ih _ _ h
set_option maxRecDepth 10000 in
set_option maxHeartbeats 1000000 in
theorem j_wt81_b87 {E : ri_E} {K26 : Int32 → ri_H → Prop} {Q : ri_H → Prop} (hK26 : ∀ (x1 : Int32) (S : ri_H), K26 x1 S → j_ri_A E 1 (81, 26, [some (.ref 0), some (.int x1), none], []) S (Qv Q)) (x1 : Int32) (S : ri_H) (h : w81_b87  K26 Q x1 S) : j_ri_A E 1 (81, 87, [some (.ref 0), some (.int x1), none], []) S (Qv Q) := by
  unfold w81_b87 at h
  refine j_A_nx 2 (fr' := (81, 26, [some (.ref 0), some (.int (x1 + (1 : Int32))), none], [])) (S' := S) rfl ?_
  refine j_ri_A.less (m := 81) (pc := 26) (L := [some (.ref 0), some (.int (x1 + (1 : Int32))), none]) (L' := [some (.ref 0), some (.int (x1 + (1 : Int32))), none]) (st := []) ⟨rfl, ⟨rfl, trivial⟩⟩ ?_
  exact hK26 _ _ h
set_option maxRecDepth 10000 in
set_option maxHeartbeats 1000000 in
theorem j_wt81_l26 {E : ri_E} {Q : ri_H → Prop} : ∀ (n : Nat) (x1 : Int32) (S : ri_H), w81_l26   Q n x1 S → j_ri_A E 1 (81, 26, [some (.ref 0), some (.int x1), none], []) S (Qv Q) := by
  intro n
  induction n with
  | zero => intro x1 S h; exact h.elim
  | succ n ih =>
    intro x1 S h
    unfold w81_l26 at h
    refine j_A_br ((24 : Int32) ≤ x1) (r1 := ((81, 93, [some (.ref 0), some (.int x1), none], []), S)) (r2 := ((81, 32, [some (.ref 0), some (.int x1), none], []), S)) 3 rfl (fun c => ?_) (fun c => ?_)
    · have h := h.1 c
      refine j_A_nx 2 (fr' := (81, 95, [some (.ref 0), some (.int (0 : Int32)), none], [])) (S' := S) rfl ?_
      refine j_ri_A.less (m := 81) (pc := 95) (L := [some (.ref 0), some (.int (0 : Int32)), none]) (L' := [some (.ref 0), some (.int (0 : Int32)), none]) (st := []) ⟨rfl, ⟨rfl, trivial⟩⟩ ?_
      obtain ⟨nn, h⟩ := h
      exact j_wt81_l95   nn _ _ h
    · have h := h.2 c
      refine j_A_call (j := 98) (As := [.ref 11, .int x1]) (fr' := (81, 43, [some (.ref 0), some (.int x1), none], [])) (S' := S) 5 rfl (e := 0) (by omega) (j_sp_item 11 24 _ ⟨by decide, by decide, rfl⟩ (by decide) ?_)
      refine j_A_call (j := 95) (As := [.int (it (S.1 11) 24 x1), .int (12 : Int32)]) (fr' := (81, 53, [some (.ref 0), some (.int x1), some (.int (it (S.1 11) 24 x1))], [])) (S' := S) 6 rfl (e := 0) (by omega) (j_sp_within _ _ ?_)
      refine j_A_br ((wi (it (S.1 11) 24 x1) (12 : Int32)) = 0) (r1 := ((81, 87, [some (.ref 0), some (.int x1), some (.int (it (S.1 11) 24 x1))], []), S)) (r2 := ((81, 56, [some (.ref 0), some (.int x1), some (.int (it (S.1 11) 24 x1))], []), S)) 1 rfl (fun c => ?_) (fun c => ?_)
      · have h := h.1 c
        refine j_ri_A.less (m := 81) (pc := 87) (L := [some (.ref 0), some (.int x1), some (.int (it (S.1 11) 24 x1))]) (L' := [some (.ref 0), some (.int x1), none]) (st := []) ⟨rfl, ⟨rfl, trivial⟩⟩ ?_
        exact j_wt81_b87  (fun x1 S hk => ih x1 S hk) _ _ h
      · have h := h.2 c
        refine j_A_gd (¬ (2 : Int32) = 0) (r1 := ((81, 59, [some (.ref 0), some (.int x1), some (.int (it (S.1 11) 24 x1))], [.int (x1 / (2 : Int32))]), S)) 3 rfl (by decide) ?_
        refine j_A_call (j := 95) (As := [.int (x1 / (2 : Int32)), .int (12 : Int32)]) (fr' := (81, 67, [some (.ref 0), some (.int x1), some (.int (it (S.1 11) 24 x1))], [])) (S' := S) 4 rfl (e := 0) (by omega) (j_sp_within _ _ ?_)
        refine j_A_br ((wi (x1 / (2 : Int32)) (12 : Int32)) = 0) (r1 := ((81, 87, [some (.ref 0), some (.int x1), some (.int (it (S.1 11) 24 x1))], []), S)) (r2 := ((81, 70, [some (.ref 0), some (.int x1), some (.int (it (S.1 11) 24 x1))], []), S)) 1 rfl (fun c => ?_) (fun c => ?_)
        · have h := h.1 c
          refine j_ri_A.less (m := 81) (pc := 87) (L := [some (.ref 0), some (.int x1), some (.int (it (S.1 11) 24 x1))]) (L' := [some (.ref 0), some (.int x1), none]) (st := []) ⟨rfl, ⟨rfl, trivial⟩⟩ ?_
          exact j_wt81_b87  (fun x1 S hk => ih x1 S hk) _ _ h
        · have h := h.2 c
          refine j_A_ix (it (S.1 11) 24 x1) 12 (r1 := ((81, 77, [some (.ref 0), some (.int x1), some (.int (it (S.1 11) 24 x1))], [.long (S.2 47 ((it (S.1 11) 24 x1)).toNatClampNeg), .int (it (S.1 11) 24 x1), .ref 47]), S)) 5 rfl h.1 ?_
          have h := h.2
          refine j_A_gd (¬ (2 : Int32) = 0) (r1 := ((81, 84, [some (.ref 0), some (.int x1), some (.int (it (S.1 11) 24 x1))], [.int (x1 / (2 : Int32)), .ref 46, .long (S.2 47 ((it (S.1 11) 24 x1)).toNatClampNeg), .int (it (S.1 11) 24 x1), .ref 47]), S)) 5 rfl (by decide) ?_
          refine j_A_ix (x1 / (2 : Int32)) 12 (r1 := ((81, 85, [some (.ref 0), some (.int x1), some (.int (it (S.1 11) 24 x1))], [.long (S.2 46 ((x1 / (2 : Int32))).toNatClampNeg), .long (S.2 47 ((it (S.1 11) 24 x1)).toNatClampNeg), .int (it (S.1 11) 24 x1), .ref 47]), S)) 1 rfl h.1 ?_
          have h := h.2
          refine j_A_ix (it (S.1 11) 24 x1) 12 (r1 := ((81, 87, [some (.ref 0), some (.int x1), some (.int (it (S.1 11) 24 x1))], []), (ri_wl S 47 ((it (S.1 11) 24 x1)).toNatClampNeg ((S.2 47 ((it (S.1 11) 24 x1)).toNatClampNeg) + (S.2 46 ((x1 / (2 : Int32))).toNatClampNeg))))) 2 rfl h.1 ?_
          have h := h.2
          refine j_ri_A.less (m := 81) (pc := 87) (L := [some (.ref 0), some (.int x1), some (.int (it (S.1 11) 24 x1))]) (L' := [some (.ref 0), some (.int x1), none]) (st := []) ⟨rfl, ⟨rfl, trivial⟩⟩ ?_
          exact j_wt81_b87  (fun x1 S hk => ih x1 S hk) _ _ h
set_option maxRecDepth 10000 in
set_option maxHeartbeats 1000000 in
theorem j_wt81_l2 {E : ri_E} {Q : ri_H → Prop} : ∀ (n : Nat) (x1 : Int32) (S : ri_H), w81_l2   Q n x1 S → j_ri_A E 1 (81, 2, [some (.ref 0), some (.int x1), none], []) S (Qv Q) := by
  intro n
  induction n with
  | zero => intro x1 S h; exact h.elim
  | succ n ih =>
    intro x1 S h
    unfold w81_l2 at h
    refine j_A_br ((12 : Int32) ≤ x1) (r1 := ((81, 24, [some (.ref 0), some (.int x1), none], []), S)) (r2 := ((81, 11, [some (.ref 0), some (.int x1), none], []), S)) 5 rfl (fun c => ?_) (fun c => ?_)
    · have h := h.1 c
      refine j_A_nx 2 (fr' := (81, 26, [some (.ref 0), some (.int (0 : Int32)), none], [])) (S' := S) rfl ?_
      refine j_ri_A.less (m := 81) (pc := 26) (L := [some (.ref 0), some (.int (0 : Int32)), none]) (L' := [some (.ref 0), some (.int (0 : Int32)), none]) (st := []) ⟨rfl, ⟨rfl, trivial⟩⟩ ?_
      obtain ⟨nn, h⟩ := h
      exact j_wt81_l26   nn _ _ h
    · have h := h.2 c
      refine j_A_ix x1 12 (r1 := ((81, 18, [some (.ref 0), some (.int x1), none], []), (ri_wl S 47 (x1).toNatClampNeg (0 : Int64)))) 5 rfl h.1 ?_
      have h := h.2
      refine j_A_nx 2 (fr' := (81, 2, [some (.ref 0), some (.int (x1 + (1 : Int32))), none], [])) (S' := (ri_wl S 47 (x1).toNatClampNeg (0 : Int64))) rfl ?_
      refine j_ri_A.less (m := 81) (pc := 2) (L := [some (.ref 0), some (.int (x1 + (1 : Int32))), none]) (L' := [some (.ref 0), some (.int (x1 + (1 : Int32))), none]) (st := []) ⟨rfl, ⟨rfl, trivial⟩⟩ ?_
      exact ih _ _ h
set_option maxRecDepth 10000 in
set_option maxHeartbeats 1000000 in
theorem j_wt81 {E : ri_E}  {S : ri_H} {Q : ri_H → Prop} (h : w81   S Q) : j_ri_A E 1 (ri_en 81 [.ref 0]) S (Qv Q) := by
  unfold w81 at h
  show j_ri_A E 1 (81, 0, [some (.ref 0), none, none], []) S (Qv Q)
  refine j_A_nx 2 (fr' := (81, 2, [some (.ref 0), some (.int (0 : Int32)), none], [])) (S' := S) rfl ?_
  refine j_ri_A.less (m := 81) (pc := 2) (L := [some (.ref 0), some (.int (0 : Int32)), none]) (L' := [some (.ref 0), some (.int (0 : Int32)), none]) (st := []) ⟨rfl, ⟨rfl, trivial⟩⟩ ?_
  obtain ⟨nn, h⟩ := h
  exact j_wt81_l2   nn _ _ h
set_option maxRecDepth 10000 in
set_option maxHeartbeats 1000000 in
theorem j_wt80_l40 {E : ri_E} {Q : Int64 → ri_H → Prop} : ∀ (n : Nat) (x2 : Int32) (x3 : Int32) (x4 : Int32) (S : ri_H), w80_l40   Q n x2 x3 x4 S → j_ri_A E 2 (80, 40, [some (.ref 0), none, some (.int x2), some (.int x3), some (.int x4)], []) S (Ql Q) := by
  intro n
  induction n with
  | zero => intro x2 x3 x4 S h; exact h.elim
  | succ n ih =>
    intro x2 x3 x4 S h
    unfold w80_l40 at h
    refine j_A_br (x3 ≤ x4) (r1 := ((80, 56, [some (.ref 0), none, some (.int x2), some (.int x3), some (.int x4)], []), S)) (r2 := ((80, 46, [some (.ref 0), none, some (.int x2), some (.int x3), some (.int x4)], []), S)) 3 rfl (fun c => ?_) (fun c => ?_)
    · have h := h.1 c
      refine j_A_call (j := 95) (As := [.int x2, .int (12 : Int32)]) (fr' := (80, 65, [some (.ref 0), none, some (.int x2), some (.int x3), some (.int x4)], [])) (S' := S) 5 rfl (e := 0) (by omega) (j_sp_within _ _ ?_)
      refine j_A_br ((wi x2 (12 : Int32)) = 0) (r1 := ((80, 77, [some (.ref 0), none, some (.int x2), some (.int x3), some (.int x4)], []), S)) (r2 := ((80, 68, [some (.ref 0), none, some (.int x2), some (.int x3), some (.int x4)], []), S)) 1 rfl (fun c => ?_) (fun c => ?_)
      · have h := h.1 c
        exact j_A_ret 2 (m := 80) (v := some (.long (0 : Int64))) (S' := S) rfl rfl ⟨_, rfl, h⟩
      · have h := h.2 c
        refine j_A_ix x2 12 (r1 := ((80, 74, [some (.ref 0), none, some (.int x2), some (.int x3), some (.int x4)], [.long (S.2 46 (x2).toNatClampNeg)]), S)) 4 rfl h.1 ?_
        have h := h.2
        exact j_A_ret 2 (m := 80) (v := some (.long (S.2 46 (x2).toNatClampNeg))) (S' := S) rfl rfl ⟨_, rfl, h⟩
    · have h := h.2 c
      refine j_A_call (j := 81) (As := [.ref 0]) (fr' := (80, 50, [some (.ref 0), none, some (.int x2), some (.int x3), some (.int x4)], [])) (S' := S) 2 rfl (e := 1) (by omega) (j_A_imp (j_wt81  h) (fun v S1 hq => ?_))
      obtain ⟨hv, h⟩ := hq
      subst hv
      refine j_A_nx 2 (fr' := (80, 40, [some (.ref 0), none, some (.int x2), some (.int x3), some (.int (x4 + (1 : Int32)))], [])) (S' := S1) rfl ?_
      refine j_ri_A.less (m := 80) (pc := 40) (L := [some (.ref 0), none, some (.int x2), some (.int x3), some (.int (x4 + (1 : Int32)))]) (L' := [some (.ref 0), none, some (.int x2), some (.int x3), some (.int (x4 + (1 : Int32)))]) (st := []) ⟨rfl, ⟨rfl, ⟨rfl, ⟨rfl, trivial⟩⟩⟩⟩ ?_
      exact ih _ _ _ _ h
set_option maxRecDepth 10000 in
set_option maxHeartbeats 1000000 in
theorem j_wt80_b30 {E : ri_E} {K3 : Int32 → Int32 → Int32 → Int32 → ri_H → Prop} {Q : Int64 → ri_H → Prop} (hK3 : ∀ (x1 : Int32) (x2 : Int32) (x3 : Int32) (x4 : Int32) (S : ri_H), K3 x1 x2 x3 x4 S → j_ri_A E 2 (80, 3, [some (.ref 0), some (.int x1), some (.int x2), some (.int x3), some (.int x4)], []) S (Ql Q)) (x1 : Int32) (x2 : Int32) (x3 : Int32) (x4 : Int32) (t0 : Int64) (s1 : Int32) (S : ri_H) (h : w80_b30  K3 Q x1 x2 x3 x4 t0 s1 S) : j_ri_A E 2 (80, 30, [some (.ref 0), some (.int x1), some (.int x2), some (.int x3), some (.int x4)], [.long t0, .int s1, .ref 46]) S (Ql Q) := by
  unfold w80_b30 at h
  refine j_A_ix s1 12 (r1 := ((80, 31, [some (.ref 0), some (.int x1), some (.int x2), some (.int x3), some (.int x4)], []), (ri_wl S 46 (s1).toNatClampNeg t0))) 1 rfl h.1 ?_
  have h := h.2
  refine j_A_nx 2 (fr' := (80, 3, [some (.ref 0), some (.int x1), some (.int x2), some (.int x3), some (.int (x4 + (1 : Int32)))], [])) (S' := (ri_wl S 46 (s1).toNatClampNeg t0)) rfl ?_
  refine j_ri_A.less (m := 80) (pc := 3) (L := [some (.ref 0), some (.int x1), some (.int x2), some (.int x3), some (.int (x4 + (1 : Int32)))]) (L' := [some (.ref 0), some (.int x1), some (.int x2), some (.int x3), some (.int (x4 + (1 : Int32)))]) (st := []) ⟨rfl, ⟨rfl, ⟨rfl, ⟨rfl, ⟨rfl, trivial⟩⟩⟩⟩⟩ ?_
  exact hK3 _ _ _ _ _ h
set_option maxRecDepth 10000 in
set_option maxHeartbeats 1000000 in
theorem j_wt80_l3 {E : ri_E} {Q : Int64 → ri_H → Prop} : ∀ (n : Nat) (x1 : Int32) (x2 : Int32) (x3 : Int32) (x4 : Int32) (S : ri_H), w80_l3   Q n x1 x2 x3 x4 S → j_ri_A E 2 (80, 3, [some (.ref 0), some (.int x1), some (.int x2), some (.int x3), some (.int x4)], []) S (Ql Q) := by
  intro n
  induction n with
  | zero => intro x1 x2 x3 x4 S h; exact h.elim
  | succ n ih =>
    intro x1 x2 x3 x4 S h
    unfold w80_l3 at h
    refine j_A_br ((12 : Int32) ≤ x4) (r1 := ((80, 37, [some (.ref 0), some (.int x1), some (.int x2), some (.int x3), some (.int x4)], []), S)) (r2 := ((80, 13, [some (.ref 0), some (.int x1), some (.int x2), some (.int x3), some (.int x4)], []), S)) 5 rfl (fun c => ?_) (fun c => ?_)
    · have h := h.1 c
      refine j_A_nx 2 (fr' := (80, 40, [some (.ref 0), some (.int x1), some (.int x2), some (.int x3), some (.int (0 : Int32))], [])) (S' := S) rfl ?_
      refine j_ri_A.less (m := 80) (pc := 40) (L := [some (.ref 0), some (.int x1), some (.int x2), some (.int x3), some (.int (0 : Int32))]) (L' := [some (.ref 0), none, some (.int x2), some (.int x3), some (.int (0 : Int32))]) (st := []) ⟨rfl, ⟨rfl, ⟨rfl, ⟨rfl, trivial⟩⟩⟩⟩ ?_
      obtain ⟨nn, h⟩ := h
      exact j_wt80_l40   nn _ _ _ _ h
    · have h := h.2 c
      refine j_A_br (¬ x4 = x1) (r1 := ((80, 29, [some (.ref 0), some (.int x1), some (.int x2), some (.int x3), some (.int x4)], [.int x4, .ref 46]), S)) (r2 := ((80, 25, [some (.ref 0), some (.int x1), some (.int x2), some (.int x3), some (.int x4)], [.int x4, .ref 46]), S)) 6 rfl (fun c => ?_) (fun c => ?_)
      · have h := h.1 c
        refine j_A_nx 1 (fr' := (80, 30, [some (.ref 0), some (.int x1), some (.int x2), some (.int x3), some (.int x4)], [.long (0 : Int64), .int x4, .ref 46])) (S' := S) rfl ?_
        refine j_ri_A.less (m := 80) (pc := 30) (L := [some (.ref 0), some (.int x1), some (.int x2), some (.int x3), some (.int x4)]) (L' := [some (.ref 0), some (.int x1), some (.int x2), some (.int x3), some (.int x4)]) (st := [.long (0 : Int64), .int x4, .ref 46]) ⟨rfl, ⟨rfl, ⟨rfl, ⟨rfl, ⟨rfl, trivial⟩⟩⟩⟩⟩ ?_
        exact j_wt80_b30  (fun x1 x2 x3 x4 S hk => ih x1 x2 x3 x4 S hk) _ _ _ _ _ _ _ h
      · have h := h.2 c
        refine j_A_nx 2 (fr' := (80, 30, [some (.ref 0), some (.int x1), some (.int x2), some (.int x3), some (.int x4)], [.long (1 : Int64), .int x4, .ref 46])) (S' := S) rfl ?_
        refine j_ri_A.less (m := 80) (pc := 30) (L := [some (.ref 0), some (.int x1), some (.int x2), some (.int x3), some (.int x4)]) (L' := [some (.ref 0), some (.int x1), some (.int x2), some (.int x3), some (.int x4)]) (st := [.long (1 : Int64), .int x4, .ref 46]) ⟨rfl, ⟨rfl, ⟨rfl, ⟨rfl, ⟨rfl, trivial⟩⟩⟩⟩⟩ ?_
        exact j_wt80_b30  (fun x1 x2 x3 x4 S hk => ih x1 x2 x3 x4 S hk) _ _ _ _ _ _ _ h
set_option maxRecDepth 10000 in
set_option maxHeartbeats 1000000 in
theorem j_wt80 {E : ri_E} (a : Int32) (b : Int32) (g : Int32) {S : ri_H} {Q : Int64 → ri_H → Prop} (h : w80  a b g S Q) : j_ri_A E 2 (ri_en 80 [.ref 0, .int a, .int b, .int g]) S (Ql Q) := by
  unfold w80 at h
  show j_ri_A E 2 (80, 0, [some (.ref 0), some (.int a), some (.int b), some (.int g), none], []) S (Ql Q)
  refine j_A_nx 2 (fr' := (80, 3, [some (.ref 0), some (.int a), some (.int b), some (.int g), some (.int (0 : Int32))], [])) (S' := S) rfl ?_
  refine j_ri_A.less (m := 80) (pc := 3) (L := [some (.ref 0), some (.int a), some (.int b), some (.int g), some (.int (0 : Int32))]) (L' := [some (.ref 0), some (.int a), some (.int b), some (.int g), some (.int (0 : Int32))]) (st := []) ⟨rfl, ⟨rfl, ⟨rfl, ⟨rfl, ⟨rfl, trivial⟩⟩⟩⟩⟩ ?_
  obtain ⟨nn, h⟩ := h
  exact j_wt80_l3   nn _ _ _ _ _ h
set_option maxRecDepth 10000 in
set_option maxHeartbeats 1000000 in
theorem j_wt58_b28 {E : ri_E} {Q : Int64 → ri_H → Prop}  (S : ri_H) (h : w58_b28   Q  S) : j_ri_A E 3 (58, 28, [none, none, none, none], []) S (Ql Q) := by
  unfold w58_b28 at h
  exact j_A_ret 2 (m := 58) (v := some (.long (-4611686018427387904 : Int64))) (S' := S) rfl rfl ⟨_, rfl, h⟩
set_option maxRecDepth 10000 in
set_option maxHeartbeats 1000000 in
theorem j_wt58 {E : ri_E} (a : Int32) (b : Int32) (g : Int32) {S : ri_H} {Q : Int64 → ri_H → Prop} (h : w58  a b g S Q) : j_ri_A E 3 (ri_en 58 [.ref 0, .int a, .int b, .int g]) S (Ql Q) := by
  unfold w58 at h
  show j_ri_A E 3 (58, 0, [some (.ref 0), some (.int a), some (.int b), some (.int g)], []) S (Ql Q)
  refine j_A_call (j := 95) (As := [.int a, .int (12 : Int32)]) (fr' := (58, 6, [some (.ref 0), some (.int a), some (.int b), some (.int g)], [])) (S' := S) 3 rfl (e := 0) (by omega) (j_sp_within _ _ ?_)
  refine j_A_br ((wi a (12 : Int32)) = 0) (r1 := ((58, 28, [some (.ref 0), some (.int a), some (.int b), some (.int g)], []), S)) (r2 := ((58, 9, [some (.ref 0), some (.int a), some (.int b), some (.int g)], []), S)) 1 rfl (fun c => ?_) (fun c => ?_)
  · have h := h.1 c
    refine j_ri_A.less (m := 58) (pc := 28) (L := [some (.ref 0), some (.int a), some (.int b), some (.int g)]) (L' := [none, none, none, none]) (st := []) trivial ?_
    exact j_wt58_b28   _ h
  · have h := h.2 c
    refine j_A_call (j := 95) (As := [.int b, .int (12 : Int32)]) (fr' := (58, 15, [some (.ref 0), some (.int a), some (.int b), some (.int g)], [])) (S' := S) 3 rfl (e := 0) (by omega) (j_sp_within _ _ ?_)
    refine j_A_br ((wi b (12 : Int32)) = 0) (r1 := ((58, 28, [some (.ref 0), some (.int a), some (.int b), some (.int g)], []), S)) (r2 := ((58, 18, [some (.ref 0), some (.int a), some (.int b), some (.int g)], []), S)) 1 rfl (fun c => ?_) (fun c => ?_)
    · have h := h.1 c
      refine j_ri_A.less (m := 58) (pc := 28) (L := [some (.ref 0), some (.int a), some (.int b), some (.int g)]) (L' := [none, none, none, none]) (st := []) trivial ?_
      exact j_wt58_b28   _ h
    · have h := h.2 c
      refine j_A_br (g < 0) (r1 := ((58, 28, [some (.ref 0), some (.int a), some (.int b), some (.int g)], []), S)) (r2 := ((58, 22, [some (.ref 0), some (.int a), some (.int b), some (.int g)], []), S)) 2 rfl (fun c => ?_) (fun c => ?_)
      · have h := h.1 c
        refine j_ri_A.less (m := 58) (pc := 28) (L := [some (.ref 0), some (.int a), some (.int b), some (.int g)]) (L' := [none, none, none, none]) (st := []) trivial ?_
        exact j_wt58_b28   _ h
      · have h := h.2 c
        refine j_A_br (g ≤ (30 : Int32)) (r1 := ((58, 32, [some (.ref 0), some (.int a), some (.int b), some (.int g)], []), S)) (r2 := ((58, 28, [some (.ref 0), some (.int a), some (.int b), some (.int g)], []), S)) 3 rfl (fun c => ?_) (fun c => ?_)
        · have h := h.1 c
          refine j_A_call (j := 80) (As := [.ref 0, .int a, .int b, .int g]) (fr' := (58, 39, [some (.ref 0), some (.int a), some (.int b), some (.int g)], [])) (S' := S) 5 rfl (e := 2) (by omega) (j_A_imp (j_wt80 a b g h) (fun v S1 hq => ?_))
          obtain ⟨r2, hv, h⟩ := hq
          subst hv
          exact j_A_ret 1 (m := 58) (v := some (.long r2)) (S' := S1) rfl rfl ⟨_, rfl, h⟩
        · have h := h.2 c
          refine j_ri_A.less (m := 58) (pc := 28) (L := [some (.ref 0), some (.int a), some (.int b), some (.int g)]) (L' := [none, none, none, none]) (st := []) trivial ?_
          exact j_wt58_b28   _ h
set_option maxRecDepth 10000 in
set_option maxHeartbeats 1000000 in
theorem j_wt85_l9 {E : ri_E} {Q : Int64 → ri_H → Prop} : ∀ (n : Nat) (y4 : Int64) (y6 : Int64) (x8 : Int32) (S : ri_H), w85_l9   Q n y4 y6 x8 S → j_ri_A E 0 (85, 9, [none, none, none, none, some (.long y4), none, some (.long y6), none, some (.int x8), none, none], []) S (Ql Q) := by
  intro n
  induction n with
  | zero => intro y4 y6 x8 S h; exact h.elim
  | succ n ih =>
    intro y4 y6 x8 S h
    unfold w85_l9 at h
    refine j_A_br ((200 : Int32) ≤ x8) (r1 := ((85, 45, [none, none, none, none, some (.long y4), none, some (.long y6), none, some (.int x8), none, none], []), S)) (r2 := ((85, 17, [none, none, none, none, some (.long y4), none, some (.long y6), none, some (.int x8), none, none], []), S)) 3 rfl (fun c => ?_) (fun c => ?_)
    · have h := h.1 c
      exact j_A_ret 2 (m := 85) (v := some (.long y4)) (S' := S) rfl rfl ⟨_, rfl, h⟩
    · have h := h.2 c
      refine j_A_br ((lg_cmp y6 (0 : Int64)) = 0) (r1 := ((85, 45, [none, none, none, none, some (.long y4), none, some (.long y6), none, some (.int x8), none, none], []), S)) (r2 := ((85, 24, [none, none, none, none, some (.long y4), none, some (.long y6), none, some (.int x8), none, none], []), S)) 4 rfl (fun c => ?_) (fun c => ?_)
      · have h := h.1 c
        exact j_A_ret 2 (m := 85) (v := some (.long y4)) (S' := S) rfl rfl ⟨_, rfl, h⟩
      · have h := h.2 c
        refine j_A_gd (¬ y6 = 0) (r1 := ((85, 29, [none, none, none, none, some (.long y4), none, some (.long y6), none, some (.int x8), none, none], [.long (y4 - y4 / y6 * y6)]), S)) 3 rfl h.1 ?_
        have h := h.2
        refine j_A_nx 7 (fr' := (85, 9, [none, none, none, none, some (.long y6), none, some (.long (y4 - y4 / y6 * y6)), none, some (.int (x8 + (1 : Int32))), some (.long (y4 - y4 / y6 * y6)), none], [])) (S' := S) rfl ?_
        refine j_ri_A.less (m := 85) (pc := 9) (L := [none, none, none, none, some (.long y6), none, some (.long (y4 - y4 / y6 * y6)), none, some (.int (x8 + (1 : Int32))), some (.long (y4 - y4 / y6 * y6)), none]) (L' := [none, none, none, none, some (.long y6), none, some (.long (y4 - y4 / y6 * y6)), none, some (.int (x8 + (1 : Int32))), none, none]) (st := []) ⟨rfl, ⟨rfl, ⟨rfl, trivial⟩⟩⟩ ?_
        exact ih _ _ _ _ h
set_option maxRecDepth 10000 in
set_option maxHeartbeats 1000000 in
theorem j_wt85 {E : ri_E} (a : Int64) (b : Int64) {S : ri_H} {Q : Int64 → ri_H → Prop} (h : w85  a b S Q) : j_ri_A E 0 (ri_en 85 [.long a, .long b]) S (Ql Q) := by
  unfold w85 at h
  show j_ri_A E 0 (85, 0, [some (.long a), none, some (.long b), none, none, none, none, none, none, none, none], []) S (Ql Q)
  refine j_A_nx 6 (fr' := (85, 9, [some (.long a), none, some (.long b), none, some (.long a), none, some (.long b), none, some (.int (0 : Int32)), none, none], [])) (S' := S) rfl ?_
  refine j_ri_A.less (m := 85) (pc := 9) (L := [some (.long a), none, some (.long b), none, some (.long a), none, some (.long b), none, some (.int (0 : Int32)), none, none]) (L' := [none, none, none, none, some (.long a), none, some (.long b), none, some (.int (0 : Int32)), none, none]) (st := []) ⟨rfl, ⟨rfl, ⟨rfl, trivial⟩⟩⟩ ?_
  obtain ⟨nn, h⟩ := h
  exact j_wt85_l9   nn _ _ _ _ h
set_option maxRecDepth 10000 in
set_option maxHeartbeats 1000000 in
theorem j_wt84_b17 {E : ri_E} {Q : Int64 → ri_H → Prop} (y5 : Int64) (t0 : Int64) (S : ri_H) (h : w84_b17   Q y5 t0 S) : j_ri_A E 1 (84, 17, [none, none, none, none, none, some (.long y5), none, none, none], [.long t0]) S (Ql Q) := by
  unfold w84_b17 at h
  refine j_A_br (¬ (lg_cmp y5 (0 : Int64)) = 0) (r1 := ((84, 31, [none, none, none, none, none, some (.long y5), none, some (.long t0), none], []), S)) (r2 := ((84, 26, [none, none, none, none, none, some (.long y5), none, some (.long t0), none], []), S)) 5 rfl (fun c => ?_) (fun c => ?_)
  · have h := h.1 c
    refine j_A_gd (¬ y5 = 0) (r1 := ((84, 36, [none, none, none, none, none, some (.long y5), none, some (.long t0), none], [.long (t0 / y5)]), S)) 3 rfl h.1 ?_
    have h := h.2
    exact j_A_ret 1 (m := 84) (v := some (.long (t0 / y5))) (S' := S) rfl rfl ⟨_, rfl, h⟩
  · have h := h.2 c
    exact j_A_ret 3 (m := 84) (v := some (.long t0)) (S' := S) rfl rfl ⟨_, rfl, h⟩
set_option maxRecDepth 10000 in
set_option maxHeartbeats 1000000 in
theorem j_wt84 {E : ri_E} (a : Int64) (b : Int64) (g : Int32) {S : ri_H} {Q : Int64 → ri_H → Prop} (h : w84  a b g S Q) : j_ri_A E 1 (ri_en 84 [.long a, .long b, .int g]) S (Ql Q) := by
  unfold w84 at h
  show j_ri_A E 1 (84, 0, [some (.long a), none, some (.long b), none, some (.int g), none, none, none, none], []) S (Ql Q)
  refine j_A_call (j := 85) (As := [.long a, .long b]) (fr' := (84, 5, [some (.long a), none, some (.long b), none, some (.int g), none, none, none, none], [])) (S' := S) 3 rfl (e := 0) (by omega) (j_A_imp (j_wt85 a b h) (fun v S1 hq => ?_))
  obtain ⟨r2, hv, h⟩ := hq
  subst hv
  refine j_A_br (¬ g = 0) (r1 := ((84, 16, [some (.long a), none, some (.long b), none, some (.int g), some (.long r2), none, none, none], []), S1)) (r2 := ((84, 12, [some (.long a), none, some (.long b), none, some (.int g), some (.long r2), none, none, none], []), S1)) 3 rfl (fun c => ?_) (fun c => ?_)
  · have h := h.1 c
    refine j_A_nx 1 (fr' := (84, 17, [some (.long a), none, some (.long b), none, some (.int g), some (.long r2), none, none, none], [.long b])) (S' := S1) rfl ?_
    refine j_ri_A.less (m := 84) (pc := 17) (L := [some (.long a), none, some (.long b), none, some (.int g), some (.long r2), none, none, none]) (L' := [none, none, none, none, none, some (.long r2), none, none, none]) (st := [.long b]) ⟨rfl, trivial⟩ ?_
    exact j_wt84_b17   _ _ _ h
  · have h := h.2 c
    refine j_A_nx 2 (fr' := (84, 17, [some (.long a), none, some (.long b), none, some (.int g), some (.long r2), none, none, none], [.long a])) (S' := S1) rfl ?_
    refine j_ri_A.less (m := 84) (pc := 17) (L := [some (.long a), none, some (.long b), none, some (.int g), some (.long r2), none, none, none]) (L' := [none, none, none, none, none, some (.long r2), none, none, none]) (st := [.long a]) ⟨rfl, trivial⟩ ?_
    exact j_wt84_b17   _ _ _ h
set_option maxRecDepth 10000 in
set_option maxHeartbeats 1000000 in
theorem j_wt59_b37 {E : ri_E} {Q : Int64 → ri_H → Prop}  (S : ri_H) (h : w59_b37   Q  S) : j_ri_A E 3 (59, 37, [none, none, none, none, none], []) S (Ql Q) := by
  unfold w59_b37 at h
  exact j_A_ret 2 (m := 59) (v := some (.long (-4611686018427387904 : Int64))) (S' := S) rfl rfl ⟨_, rfl, h⟩
set_option maxRecDepth 10000 in
set_option maxHeartbeats 1000000 in
theorem j_wt59 {E : ri_E} (a : Int32) (b : Int32) (g : Int32) (d : Int32) {S : ri_H} {Q : Int64 → ri_H → Prop} (h : w59  a b g d S Q) : j_ri_A E 3 (ri_en 59 [.ref 0, .int a, .int b, .int g, .int d]) S (Ql Q) := by
  unfold w59 at h
  show j_ri_A E 3 (59, 0, [some (.ref 0), some (.int a), some (.int b), some (.int g), some (.int d)], []) S (Ql Q)
  refine j_A_call (j := 95) (As := [.int a, .int (12 : Int32)]) (fr' := (59, 6, [some (.ref 0), some (.int a), some (.int b), some (.int g), some (.int d)], [])) (S' := S) 3 rfl (e := 0) (by omega) (j_sp_within _ _ ?_)
  refine j_A_br ((wi a (12 : Int32)) = 0) (r1 := ((59, 37, [some (.ref 0), some (.int a), some (.int b), some (.int g), some (.int d)], []), S)) (r2 := ((59, 9, [some (.ref 0), some (.int a), some (.int b), some (.int g), some (.int d)], []), S)) 1 rfl (fun c => ?_) (fun c => ?_)
  · have h := h.1 c
    refine j_ri_A.less (m := 59) (pc := 37) (L := [some (.ref 0), some (.int a), some (.int b), some (.int g), some (.int d)]) (L' := [none, none, none, none, none]) (st := []) trivial ?_
    exact j_wt59_b37   _ h
  · have h := h.2 c
    refine j_A_call (j := 95) (As := [.int b, .int (12 : Int32)]) (fr' := (59, 15, [some (.ref 0), some (.int a), some (.int b), some (.int g), some (.int d)], [])) (S' := S) 3 rfl (e := 0) (by omega) (j_sp_within _ _ ?_)
    refine j_A_br ((wi b (12 : Int32)) = 0) (r1 := ((59, 37, [some (.ref 0), some (.int a), some (.int b), some (.int g), some (.int d)], []), S)) (r2 := ((59, 18, [some (.ref 0), some (.int a), some (.int b), some (.int g), some (.int d)], []), S)) 1 rfl (fun c => ?_) (fun c => ?_)
    · have h := h.1 c
      refine j_ri_A.less (m := 59) (pc := 37) (L := [some (.ref 0), some (.int a), some (.int b), some (.int g), some (.int d)]) (L' := [none, none, none, none, none]) (st := []) trivial ?_
      exact j_wt59_b37   _ h
    · have h := h.2 c
      refine j_A_br (g < 0) (r1 := ((59, 37, [some (.ref 0), some (.int a), some (.int b), some (.int g), some (.int d)], []), S)) (r2 := ((59, 22, [some (.ref 0), some (.int a), some (.int b), some (.int g), some (.int d)], []), S)) 2 rfl (fun c => ?_) (fun c => ?_)
      · have h := h.1 c
        refine j_ri_A.less (m := 59) (pc := 37) (L := [some (.ref 0), some (.int a), some (.int b), some (.int g), some (.int d)]) (L' := [none, none, none, none, none]) (st := []) trivial ?_
        exact j_wt59_b37   _ h
      · have h := h.2 c
        refine j_A_br ((30 : Int32) < g) (r1 := ((59, 37, [some (.ref 0), some (.int a), some (.int b), some (.int g), some (.int d)], []), S)) (r2 := ((59, 28, [some (.ref 0), some (.int a), some (.int b), some (.int g), some (.int d)], []), S)) 3 rfl (fun c => ?_) (fun c => ?_)
        · have h := h.1 c
          refine j_ri_A.less (m := 59) (pc := 37) (L := [some (.ref 0), some (.int a), some (.int b), some (.int g), some (.int d)]) (L' := [none, none, none, none, none]) (st := []) trivial ?_
          exact j_wt59_b37   _ h
        · have h := h.2 c
          refine j_A_call (j := 95) (As := [.int d, .int (2 : Int32)]) (fr' := (59, 34, [some (.ref 0), some (.int a), some (.int b), some (.int g), some (.int d)], [])) (S' := S) 3 rfl (e := 0) (by omega) (j_sp_within _ _ ?_)
          refine j_A_br (¬ (wi d (2 : Int32)) = 0) (r1 := ((59, 41, [some (.ref 0), some (.int a), some (.int b), some (.int g), some (.int d)], []), S)) (r2 := ((59, 37, [some (.ref 0), some (.int a), some (.int b), some (.int g), some (.int d)], []), S)) 1 rfl (fun c => ?_) (fun c => ?_)
          · have h := h.1 c
            refine j_A_call (j := 80) (As := [.ref 0, .int a, .int b, .int g]) (fr' := (59, 48, [some (.ref 0), some (.int a), some (.int b), some (.int g), some (.int d)], [])) (S' := S) 5 rfl (e := 2) (by omega) (j_A_imp (j_wt80 a b g h) (fun v S1 hq => ?_))
            obtain ⟨r2, hv, h⟩ := hq
            subst hv
            refine j_A_call (j := 84) (As := [.long r2, .long ((1 : Int64) <<< ((g).toInt64 &&& 63)), .int d]) (fr' := (59, 56, [some (.ref 0), some (.int a), some (.int b), some (.int g), some (.int d)], [])) (S' := S1) 5 rfl (e := 1) (by omega) (j_A_imp (j_wt84 r2 ((1 : Int64) <<< ((g).toInt64 &&& 63)) d h) (fun v S3 hq => ?_))
            obtain ⟨r4, hv, h⟩ := hq
            subst hv
            exact j_A_ret 1 (m := 59) (v := some (.long r4)) (S' := S3) rfl rfl ⟨_, rfl, h⟩
          · have h := h.2 c
            refine j_ri_A.less (m := 59) (pc := 37) (L := [some (.ref 0), some (.int a), some (.int b), some (.int g), some (.int d)]) (L' := [none, none, none, none, none]) (st := []) trivial ?_
            exact j_wt59_b37   _ h
-- 23.cps
def j_ri_GC (E : ri_E) (D : Nat) (G : ri_F → ri_H → Prop) : Prop :=
  (∀ (fr : ri_F) (S : ri_H) (r : ri_F × ri_H), j_ri_step E fr S = some (.inl r) → G r.1 r.2 → G fr S) ∧
  (∀ (fr : ri_F) (S : ri_H) (b : Bool × (ri_F × ri_H) × (ri_F × ri_H)), j_ri_step E fr S = some (.inr (.inl b)) → (b.1 = true → G b.2.1.1 b.2.1.2) → (b.1 = false → b.2.2.1.1 ≠ 1000000 ∧ G b.2.2.1 b.2.2.2) → G fr S) ∧
  (∀ (fr : ri_F) (S : ri_H) (q : Nat × List Value × ri_F × ri_H), j_ri_step E fr S = some (.inr (.inr (.inl q))) → ∀ e : Nat, e ≤ D → j_ri_A E e (ri_en q.1 q.2.1) q.2.2.2 (fun v S1 => G (ri_push q.2.2.1 v) S1) → G fr S) ∧
  (∀ (m pc : Nat) (L L' : List (Option Value)) (st : List Value) (S : ri_H), ri_lsb L' L → G (m, pc, L', st) S → G (m, pc, L, st) S)
theorem j_ri_go_inv2 {E : ri_E} {D : Nat} {G : ri_F → ri_H → Prop} (hG : j_ri_GC E D G) : ∀ (k : Nat) (fr : ri_F) (S : ri_H) (x : (ri_F × ri_H) ⊕ ((Bool × (ri_F × ri_H) × (ri_F × ri_H)) ⊕ ((Nat × List Value × ri_F × ri_H) ⊕ (Nat × Option Value × ri_H)))), j_ri_go E k fr S = some x → ∃ (fr0 : ri_F) (S0 : ri_H), (x = .inl (fr0, S0) ∨ ∃ y, x = .inr y ∧ j_ri_step E fr0 S0 = some (.inr y)) ∧ (G fr0 S0 → G fr S)
  | 0, fr, S, x, h => by
    cases h
    exact ⟨fr, S, Or.inl rfl, fun k => k⟩
  | k + 1, fr, S, x, h => by
    unfold j_ri_go at h
    cases hs : j_ri_step E fr S with
    | none => rw [hs] at h; cases h
    | some y =>
      rw [hs] at h
      cases y with
      | inl r =>
        obtain ⟨fr0, S0, h1, h2⟩ := j_ri_go_inv2 hG k r.1 r.2 x h
        exact ⟨fr0, S0, h1, fun z => hG.1 fr S r hs (h2 z)⟩
      | inr y =>
        cases h
        exact ⟨fr, S, Or.inr ⟨y, rfl, hs⟩, fun k => k⟩
section BRULES
variable {E : ri_E} {D : Nat} {G : ri_F → ri_H → Prop} {fr fr' : ri_F} {S S' : ri_H}
theorem j_B_nx (hG : j_ri_GC E D G) (k : Nat) (h : j_ri_go E k fr S = some (.inl (fr', S'))) (kk : G fr' S') : G fr S := by
  obtain ⟨fr0, S0, h1, h2⟩ := j_ri_go_inv2 hG k fr S _ h
  rcases h1 with h1 | ⟨y, h1, -⟩
  · cases h1
    exact h2 kk
  · cases h1
theorem j_B_less (hG : j_ri_GC E D G) {m pc : Nat} {L L' : List (Option Value)} {st : List Value} (h : ri_lsb L' L) (kk : G (m, pc, L', st) S) : G (m, pc, L, st) S := hG.2.2.2 m pc L L' st S h kk
theorem j_B_brb (hG : j_ri_GC E D G) {b : Bool} {r1 r2 : ri_F × ri_H} (k : Nat) (h : j_ri_go E k fr S = some (.inr (.inl (b, r1, r2)))) (k1 : b = true → G r1.1 r1.2) (k2 : b = false → r2.1.1 ≠ 1000000 ∧ G r2.1 r2.2) : G fr S := by
  obtain ⟨fr0, S0, h1, h2⟩ := j_ri_go_inv2 hG k fr S _ h
  rcases h1 with h1 | ⟨y, h1, hs⟩
  · cases h1
  · cases h1
    exact h2 (hG.2.1 fr0 S0 (b, r1, r2) hs k1 k2)
theorem j_B_br (hG : j_ri_GC E D G) (P : Prop) [hP : Decidable P] {r1 r2 : ri_F × ri_H} (k : Nat) (h : j_ri_go E k fr S = some (.inr (.inl (decide P, r1, r2)))) (hn : Nat.beq r2.1.1 1000000 = false) (k1 : P → G r1.1 r1.2) (k2 : ¬ P → G r2.1 r2.2) : G fr S :=
  j_B_brb hG k h (fun e => k1 (of_decide_eq_true e)) (fun e => ⟨fun z => (by rw [z] at hn; cases hn), k2 (of_decide_eq_false e)⟩)
theorem j_B_gd (hG : j_ri_GC E D G) (P : Prop) [hP : Decidable P] {r1 r2 : ri_F × ri_H} (k : Nat) (h : j_ri_go E k fr S = some (.inr (.inl (decide P, r1, r2)))) (hp : P) (k1 : G r1.1 r1.2) : G fr S :=
  j_B_brb hG k h (fun _ => k1) (fun e => absurd hp (of_decide_eq_false e))
theorem j_B_call (hG : j_ri_GC E D G) {j : Nat} {As : List Value} (k : Nat) (h : j_ri_go E k fr S = some (.inr (.inr (.inl (j, As, fr', S'))))) {e : Nat} (he : e ≤ D) (kk : j_ri_A E e (ri_en j As) S' (fun v S1 => G (ri_push fr' v) S1)) : G fr S := by
  obtain ⟨fr0, S0, h1, h2⟩ := j_ri_go_inv2 hG k fr S _ h
  rcases h1 with h1 | ⟨y, h1, hs⟩
  · cases h1
  · cases h1
    exact h2 (hG.2.2.1 fr0 S0 (j, As, fr', S') hs e he kk)
end BRULES
/-- the walk of a method goes so -/
theorem j_ri_G_ok {l : Launch} {D : va_G} {tys : List (ClassId × FieldType)} {ad : Nat → Nat} {cA : Nat → ClassId} {fz : Value} {E : ri_E} (ha : j_ri_Ad ad cA fz tys) {d : Nat} {p : Program} {e : Env} {R : Room} {s : State} {m : MethodId} {args : Array Value} {below : List Frame} {meth : Method} {c : Code} {cells slots : Nat} {Q : State → Prop} {A : Nat → Prop} {t : ri_MT} {mi : Nat} (ht : ri_mt mi = some t) (cx : j_ri_Cx p s m args c t D tys ad fz E A) (hf : d + 2 ≤ R.frames) (hl : 64 * (d + 2) ≤ R.locals) (hc : cells ≤ R.cells) (hs : slots ≤ R.slots) :
    j_ri_GC E d (fun fr S => fr.1 = mi → j_ri_T (ri_Wf p l e R s m args below meth c cells slots Q) m mi (ri_ml0 t) D ad cA fz A s.heap fr S) := by
  have hmi : mi ≠ 1000000 := by
    intro z
    rw [z, ri_mt_none] at ht
    cases ht
  have hR : 1 ≤ R.frames ∧ 64 ≤ R.locals := ⟨by omega, by omega⟩
  have one : ∀ (fr : ri_F) (S : ri_H) (x : (ri_F × ri_H) ⊕ ((Bool × (ri_F × ri_H) × (ri_F × ri_H)) ⊕ ((Nat × List Value × ri_F × ri_H) ⊕ (Nat × Option Value × ri_H)))), j_ri_step E fr S = some x → fr.1 = mi → j_ri_Kx l R (ri_Wf p l e R s m args below meth c cells slots Q) m t mi D tys ad cA fz E A s.heap fr.2.1 x → j_ri_T (ri_Wf p l e R s m args below meth c cells slots Q) m mi (ri_ml0 t) D ad cA fz A s.heap fr S := by
    intro fr S x hst hm kx
    obtain ⟨mj, pc, L, st⟩ := fr
    have hm : mj = mi := hm
    subst hm
    have hst2 : j_ri_stp E mj pc L st S (ri_mt mj) = some x := hst
    rw [ht] at hst2
    have hst3 : j_ri_st2' E (ri_mcl t) mj pc L st S (ri_ins (ri_cdt t) pc) = some x := hst2
    cases hi : ri_ins (ri_cdt t) pc with
    | none => rw [hi] at hst3; cases hst3
    | some q =>
      obtain ⟨i, ln, w⟩ := q
      rw [hi] at hst3
      have hex : j_ri_ex E (ri_mcl t) mj pc ln w L st S i = some x := hst3
      obtain ⟨hd, hck⟩ := ri_chk_use (ri_dk_ok ht) hi
      exact j_rs_ex (cells := cells) (slots := slots) (Q := Q) cx ha ht hmi ⟨hc, hs⟩ hR hd hck hex kx
  refine ⟨fun fr S r h k hm => one fr S _ h hm k, fun fr S b h k1 k2 hm => one fr S _ h hm ⟨k1, k2⟩, fun fr S q h z hz k hm => one fr S _ h hm ?_, fun mj pc L L' st S h k hm => ?_⟩
  · intro u hu hfl
    obtain ⟨n, pcr, v, S1, hrun, hk⟩ := k
    exact ⟨z, v, S1, by omega, by omega, j_ri_met ha (j_ri_sound ha n) hu hfl hrun, hk⟩
  · obtain ⟨g1, g2⟩ := ri_lsb_get L' L h
    have hm : mj = mi := hm
    subst hm
    exact ⟨rfl, fun H locs ls hP hS hls => (k rfl).2 H locs ls hP hS ⟨hls.1, hls.2.1, by rw [← hls.2.2.1]; exact g1, fun i v hv => hls.2.2.2 i v (g2 i v hv)⟩⟩
-- 24.law
set_option maxRecDepth 10000 in
set_option maxHeartbeats 1000000 in
theorem j_wt215 (E : ri_E) (k : Int32) {S : ri_H} {Q : Int32 → ri_H → Prop} (h : w215 E k S Q) : j_ri_A E 0 (ri_en 215 [.ref 3000, .int k]) S (Qi Q) := by
  unfold w215 at h
  show j_ri_A E 0 (215, 0, [some (.ref 3000), some (.int k)], []) S (Qi Q)
  refine j_A_br ((Int32.ofNat E.1) ≤ k) (r1 := ((215, 12, [some (.ref 3000), some (.int k)], []), S)) (r2 := ((215, 6, [some (.ref 3000), some (.int k)], []), S)) 4 rfl (fun c => ?_) (fun c => ?_)
  · have h := h.1 c
    exact j_A_ret 6 (m := 215) (v := some (.int (((7919 : Int32) * k) + (12 : Int32)))) (S' := S) rfl rfl ⟨_, rfl, h⟩
  · have h := h.2 c
    refine j_A_ix k E.1 (r1 := ((215, 9, [some (.ref 3000), some (.int k)], [.int (E.2 (k).toNatClampNeg)]), S)) 3 rfl h.1 ?_
    have h := h.2
    exact j_A_ret 2 (m := 215) (v := some (.int (E.2 (k).toNatClampNeg))) (S' := S) rfl rfl ⟨_, rfl, h⟩
set_option maxRecDepth 10000 in
set_option maxHeartbeats 1000000 in
theorem j_wt216 (E : ri_E) (k : Int32) (n : Int32) {S : ri_H} {Q : Int32 → ri_H → Prop} (h : w216 E k n S Q) : j_ri_A E 1 (ri_en 216 [.ref 3000, .int k, .int n]) S (Qi Q) := by
  unfold w216 at h
  show j_ri_A E 1 (216, 0, [some (.ref 3000), some (.int k), some (.int n)], []) S (Qi Q)
  refine j_A_call (j := 215) (As := [.ref 3000, .int k]) (fr' := (216, 5, [some (.ref 3000), some (.int k), some (.int n)], [])) (S' := S) 3 rfl (e := 0) (by omega) (j_A_imp (j_wt215 E k h) (fun v S1 hq => ?_))
  obtain ⟨r2, hv, h⟩ := hq
  subst hv
  refine j_A_gd (¬ n = 0) (r1 := ((216, 9, [some (.ref 3000), some (.int k), some (.int n)], [.int (((r2).toUInt32 >>> (((3 : Int32)).toUInt32 &&& Int32.toUInt32 31)).toInt32 - ((r2).toUInt32 >>> (((3 : Int32)).toUInt32 &&& Int32.toUInt32 31)).toInt32 / n * n)]), S1)) 4 rfl h.1 ?_
  have h := h.2
  exact j_A_ret 1 (m := 216) (v := some (.int (((r2).toUInt32 >>> (((3 : Int32)).toUInt32 &&& Int32.toUInt32 31)).toInt32 - ((r2).toUInt32 >>> (((3 : Int32)).toUInt32 &&& Int32.toUInt32 31)).toInt32 / n * n))) (S' := S1) rfl rfl ⟨_, rfl, h⟩
set_option maxRecDepth 10000 in
set_option maxHeartbeats 1000000 in
theorem j_wtLA_b308 (E : ri_E) {Q : Int32 → Int32 → Int32 → Int32 → Int32 → Int32 → Int32 → ri_H → Prop} {G : ri_F → ri_H → Prop} (hG : j_ri_GC E 4 G) (hQ : ∀ (x1 : Int32) (x3 : Int32) (x4 : Int32) (x5 : Int32) (x6 : Int32) (x17 : Int32) (s0 : Int32) (S : ri_H), Q x1 x3 x4 x5 x6 x17 s0 S → G (213, 414, [some (.ref 3000), some (.int x1), some (.ref 0), some (.int x3), some (.int x4), some (.int x5), some (.int x6), none, none, none, none, none, none, none, none, none, none, some (.int x17), none, none, none, none, none], [.int s0]) S) {K278 : Int32 → Int32 → Int32 → Int32 → Int32 → Int32 → Int32 → Int64 → Int64 → Int32 → ri_H → Prop} (hK278 : ∀ (x1 : Int32) (x3 : Int32) (x4 : Int32) (x5 : Int32) (x6 : Int32) (x9 : Int32) (x10 : Int32) (y11 : Int64) (y13 : Int64) (x15 : Int32) (S : ri_H), K278 x1 x3 x4 x5 x6 x9 x10 y11 y13 x15 S → G (213, 278, [some (.ref 3000), some (.int x1), some (.ref 0), some (.int x3), some (.int x4), some (.int x5), some (.int x6), none, none, some (.int x9), some (.int x10), some (.long y11), none, some (.long y13), none, some (.int x15), none, none, none, none, none, none, none], []) S) (x1 : Int32) (x3 : Int32) (x4 : Int32) (x5 : Int32) (x6 : Int32) (x9 : Int32) (x10 : Int32) (y11 : Int64) (y13 : Int64) (x15 : Int32) (S : ri_H) (h : wLA_b308 E K278 Q x1 x3 x4 x5 x6 x9 x10 y11 y13 x15 S) : G (213, 308, [some (.ref 3000), some (.int x1), some (.ref 0), some (.int x3), some (.int x4), some (.int x5), some (.int x6), none, none, some (.int x9), some (.int x10), some (.long y11), none, some (.long y13), none, some (.int x15), none, none, none, none, none, none, none], []) S := by
  unfold wLA_b308 at h
  refine j_B_gd hG (¬ ((x15 + (1 : Int32))).toInt64 = 0) (r1 := ((213, 323, [some (.ref 3000), some (.int x1), some (.ref 0), some (.int x3), some (.int x4), some (.int x5), some (.int x6), none, none, some (.int x9), some (.int x10), some (.long y11), none, some (.long y13), none, some (.int x15), none, none, none, none, none, none, none], [.long ((y13 * ((x9 - x15)).toInt64) / ((x15 + (1 : Int32))).toInt64)]), S)) 11 rfl h.1 ?_
  have h := h.2
  have h := h _ rfl
  refine j_B_nx hG 3 (fr' := (213, 278, [some (.ref 3000), some (.int x1), some (.ref 0), some (.int x3), some (.int x4), some (.int x5), some (.int x6), none, none, some (.int x9), some (.int x10), some (.long y11), none, some (.long ((y13 * ((x9 - x15)).toInt64) / ((x15 + (1 : Int32))).toInt64)), none, some (.int (x15 + (1 : Int32))), none, none, none, none, none, none, none], [])) (S' := S) rfl ?_
  refine j_B_less hG (m := 213) (pc := 278) (L := [some (.ref 3000), some (.int x1), some (.ref 0), some (.int x3), some (.int x4), some (.int x5), some (.int x6), none, none, some (.int x9), some (.int x10), some (.long y11), none, some (.long ((y13 * ((x9 - x15)).toInt64) / ((x15 + (1 : Int32))).toInt64)), none, some (.int (x15 + (1 : Int32))), none, none, none, none, none, none, none]) (L' := [some (.ref 3000), some (.int x1), some (.ref 0), some (.int x3), some (.int x4), some (.int x5), some (.int x6), none, none, some (.int x9), some (.int x10), some (.long y11), none, some (.long ((y13 * ((x9 - x15)).toInt64) / ((x15 + (1 : Int32))).toInt64)), none, some (.int (x15 + (1 : Int32))), none, none, none, none, none, none, none]) (st := []) ⟨rfl, ⟨rfl, ⟨rfl, ⟨rfl, ⟨rfl, ⟨rfl, ⟨rfl, ⟨rfl, ⟨rfl, ⟨rfl, ⟨rfl, ⟨rfl, trivial⟩⟩⟩⟩⟩⟩⟩⟩⟩⟩⟩⟩ ?_
  exact hK278 _ _ _ _ _ _ _ _ _ _ _ h
set_option maxRecDepth 10000 in
set_option maxHeartbeats 1000000 in
theorem j_wtLA_l278 (E : ri_E) {Q : Int32 → Int32 → Int32 → Int32 → Int32 → Int32 → Int32 → ri_H → Prop} {G : ri_F → ri_H → Prop} (hG : j_ri_GC E 4 G) (hQ : ∀ (x1 : Int32) (x3 : Int32) (x4 : Int32) (x5 : Int32) (x6 : Int32) (x17 : Int32) (s0 : Int32) (S : ri_H), Q x1 x3 x4 x5 x6 x17 s0 S → G (213, 414, [some (.ref 3000), some (.int x1), some (.ref 0), some (.int x3), some (.int x4), some (.int x5), some (.int x6), none, none, none, none, none, none, none, none, none, none, some (.int x17), none, none, none, none, none], [.int s0]) S) : ∀ (n : Nat) (x1 : Int32) (x3 : Int32) (x4 : Int32) (x5 : Int32) (x6 : Int32) (x9 : Int32) (x10 : Int32) (y11 : Int64) (y13 : Int64) (x15 : Int32) (S : ri_H), wLA_l278 E  Q n x1 x3 x4 x5 x6 x9 x10 y11 y13 x15 S → G (213, 278, [some (.ref 3000), some (.int x1), some (.ref 0), some (.int x3), some (.int x4), some (.int x5), some (.int x6), none, none, some (.int x9), some (.int x10), some (.long y11), none, some (.long y13), none, some (.int x15), none, none, none, none, none, none, none], []) S := by
  intro n
  induction n with
  | zero => intro x1 x3 x4 x5 x6 x9 x10 y11 y13 x15 S h; exact h.elim
  | succ n ih =>
    intro x1 x3 x4 x5 x6 x9 x10 y11 y13 x15 S h
    unfold wLA_l278 at h
    refine j_B_br hG (x9 < x15) (r1 := ((213, 331, [some (.ref 3000), some (.int x1), some (.ref 0), some (.int x3), some (.int x4), some (.int x5), some (.int x6), none, none, some (.int x9), some (.int x10), some (.long y11), none, some (.long y13), none, some (.int x15), none, none, none, none, none, none, none], []), S)) (r2 := ((213, 285, [some (.ref 3000), some (.int x1), some (.ref 0), some (.int x3), some (.int x4), some (.int x5), some (.int x6), none, none, some (.int x9), some (.int x10), some (.long y11), none, some (.long y13), none, some (.int x15), none, none, none, none, none, none, none], []), S)) 3 rfl rfl (fun c => ?_) (fun c => ?_)
    · have h := h.1 c
      refine j_B_call hG (j := 58) (As := [.ref 0, .int x4, .int x10, .int x9]) (fr' := (213, 341, [some (.ref 3000), some (.int x1), some (.ref 0), some (.int x3), some (.int x4), some (.int x5), some (.int x6), none, none, some (.int x9), some (.int x10), some (.long y11), none, some (.long y13), none, some (.int x15), none, none, none, none, none, none, none], [])) (S' := S) 5 rfl (e := 3) (by omega) (j_A_imp (j_wt58 x4 x10 x9 h) (fun v S21 hq => ?_))
      obtain ⟨r22, hv, h⟩ := hq
      subst hv
      refine j_B_br hG ((lg_cmp r22 y11) = 0) (r1 := ((213, 349, [some (.ref 3000), some (.int x1), some (.ref 0), some (.int x3), some (.int x4), some (.int x5), some (.int x6), none, none, some (.int x9), some (.int x10), some (.long y11), none, some (.long y13), none, some (.int x15), none, none, none, none, none, none, none], []), S21)) (r2 := ((213, 347, [some (.ref 3000), some (.int x1), some (.ref 0), some (.int x3), some (.int x4), some (.int x5), some (.int x6), none, none, some (.int x9), some (.int x10), some (.long y11), none, some (.long y13), none, some (.int x15), none, none, none, none, none, none, none], []), S21)) 3 rfl rfl (fun c => ?_) (fun c => ?_)
      · have h := h.1 c
        refine j_B_call hG (j := 59) (As := [.ref 0, .int x4, .int x10, .int x9, .int (1 : Int32)]) (fr' := (213, 360, [some (.ref 3000), some (.int x1), some (.ref 0), some (.int x3), some (.int x4), some (.int x5), some (.int x6), none, none, some (.int x9), some (.int x10), some (.long y11), none, some (.long y13), none, some (.int x15), none, none, none, none, none, none, none], [])) (S' := S21) 6 rfl (e := 3) (by omega) (j_A_imp (j_wt59 x4 x10 x9 (1 : Int32) h) (fun v S23 hq => ?_))
        obtain ⟨r24, hv, h⟩ := hq
        subst hv
        refine j_B_call hG (j := 59) (As := [.ref 0, .int x4, .int x10, .int x9, .int (0 : Int32)]) (fr' := (213, 373, [some (.ref 3000), some (.int x1), some (.ref 0), some (.int x3), some (.int x4), some (.int x5), some (.int x6), none, none, some (.int x9), some (.int x10), some (.long y11), none, some (.long y13), none, some (.long r24), none, none, none, none, none, none, none], [])) (S' := S23) 7 rfl (e := 3) (by omega) (j_A_imp (j_wt59 x4 x10 x9 (0 : Int32) h) (fun v S25 hq => ?_))
        obtain ⟨r26, hv, h⟩ := hq
        subst hv
        refine j_B_gd hG (¬ r24 = 0) (r1 := ((213, 380, [some (.ref 3000), some (.int x1), some (.ref 0), some (.int x3), some (.int x4), some (.int x5), some (.int x6), none, none, some (.int x9), some (.int x10), some (.long y11), none, some (.long y13), none, some (.long r24), none, none, none, none, none, none, none], [.long (((1 : Int64) <<< ((x9).toInt64 &&& 63)) / r24), .long r26]), S25)) 5 rfl h.1 ?_
        have h := h.2
        refine j_B_br hG (¬ (lg_cmp (r26 * (((1 : Int64) <<< ((x9).toInt64 &&& 63)) / r24)) y11) = 0) (r1 := ((213, 399, [some (.ref 3000), some (.int x1), some (.ref 0), some (.int x3), some (.int x4), some (.int x5), some (.int x6), none, none, some (.int x9), some (.int x10), some (.long y11), none, some (.long y13), none, some (.long r24), none, none, none, none, none, none, none], []), S25)) (r2 := ((213, 387, [some (.ref 3000), some (.int x1), some (.ref 0), some (.int x3), some (.int x4), some (.int x5), some (.int x6), none, none, some (.int x9), some (.int x10), some (.long y11), none, some (.long y13), none, some (.long r24), none, none, none, none, none, none, none], []), S25)) 4 rfl rfl (fun c => ?_) (fun c => ?_)
        · have h := h.1 c
          exact h.elim
        · have h := h.2 c
          refine j_B_gd hG (¬ r24 = 0) (r1 := ((213, 394, [some (.ref 3000), some (.int x1), some (.ref 0), some (.int x3), some (.int x4), some (.int x5), some (.int x6), none, none, some (.int x9), some (.int x10), some (.long y11), none, some (.long y13), none, some (.long r24), none, none, none, none, none, none, none], [.long (((1 : Int64) <<< ((x9).toInt64 &&& 63)) - ((1 : Int64) <<< ((x9).toInt64 &&& 63)) / r24 * r24)]), S25)) 5 rfl h.1 ?_
          have h := h.2
          refine j_B_br hG ((lg_cmp (((1 : Int64) <<< ((x9).toInt64 &&& 63)) - ((1 : Int64) <<< ((x9).toInt64 &&& 63)) / r24 * r24) (0 : Int64)) = 0) (r1 := ((213, 401, [some (.ref 3000), some (.int x1), some (.ref 0), some (.int x3), some (.int x4), some (.int x5), some (.int x6), none, none, some (.int x9), some (.int x10), some (.long y11), none, some (.long y13), none, some (.long r24), none, none, none, none, none, none, none], []), S25)) (r2 := ((213, 399, [some (.ref 3000), some (.int x1), some (.ref 0), some (.int x3), some (.int x4), some (.int x5), some (.int x6), none, none, some (.int x9), some (.int x10), some (.long y11), none, some (.long y13), none, some (.long r24), none, none, none, none, none, none, none], []), S25)) 3 rfl rfl (fun c => ?_) (fun c => ?_)
          · have h := h.1 c
            refine j_B_call hG (j := 216) (As := [.ref 3000, .int ((33 : Int32) + x1), .int (11 : Int32)]) (fr' := (213, 411, [some (.ref 3000), some (.int x1), some (.ref 0), some (.int x3), some (.int x4), some (.int x5), some (.int x6), none, none, some (.int x9), some (.int x10), some (.long y11), none, some (.long y13), none, some (.long r24), none, none, none, none, none, none, none], [])) (S' := S25) 6 rfl (e := 1) (by omega) (j_A_imp (j_wt216 E ((33 : Int32) + x1) (11 : Int32) h) (fun v S27 hq => ?_))
            obtain ⟨r28, hv, h⟩ := hq
            subst hv
            refine j_B_nx hG 2 (fr' := (213, 414, [some (.ref 3000), some (.int x1), some (.ref 0), some (.int x3), some (.int x4), some (.int x5), some (.int x6), none, none, some (.int x9), some (.int x10), some (.long y11), none, some (.long y13), none, some (.long r24), none, some (.int r28), none, none, none, none, none], [.int (2 : Int32)])) (S' := S27) rfl ?_
            refine j_B_less hG (m := 213) (pc := 414) (L := [some (.ref 3000), some (.int x1), some (.ref 0), some (.int x3), some (.int x4), some (.int x5), some (.int x6), none, none, some (.int x9), some (.int x10), some (.long y11), none, some (.long y13), none, some (.long r24), none, some (.int r28), none, none, none, none, none]) (L' := [some (.ref 3000), some (.int x1), some (.ref 0), some (.int x3), some (.int x4), some (.int x5), some (.int x6), none, none, none, none, none, none, none, none, none, none, some (.int r28), none, none, none, none, none]) (st := [.int (2 : Int32)]) ⟨rfl, ⟨rfl, ⟨rfl, ⟨rfl, ⟨rfl, ⟨rfl, ⟨rfl, ⟨rfl, trivial⟩⟩⟩⟩⟩⟩⟩⟩ ?_
            exact hQ _ _ _ _ _ _ _ _ h
          · have h := h.2 c
            exact h.elim
      · have h := h.2 c
        exact h.elim
    · have h := h.2 c
      refine j_B_gd hG (¬ (12 : Int32) = 0) (r1 := ((213, 296, [some (.ref 3000), some (.int x1), some (.ref 0), some (.int x3), some (.int x4), some (.int x5), some (.int x6), none, none, some (.int x9), some (.int x10), some (.long y11), none, some (.long y13), none, some (.int x15), none, none, none, none, none, none, none], [.int (((x4 + x9) + x15) - ((x4 + x9) + x15) / (12 : Int32) * (12 : Int32))]), S)) 7 rfl (by decide) ?_
      refine j_B_br hG (¬ (((x4 + x9) + x15) - ((x4 + x9) + x15) / (12 : Int32) * (12 : Int32)) = x10) (r1 := ((213, 308, [some (.ref 3000), some (.int x1), some (.ref 0), some (.int x3), some (.int x4), some (.int x5), some (.int x6), none, none, some (.int x9), some (.int x10), some (.long y11), none, some (.long y13), none, some (.int x15), none, none, none, none, none, none, none], []), S)) (r2 := ((213, 301, [some (.ref 3000), some (.int x1), some (.ref 0), some (.int x3), some (.int x4), some (.int x5), some (.int x6), none, none, some (.int x9), some (.int x10), some (.long y11), none, some (.long y13), none, some (.int x15), none, none, none, none, none, none, none], []), S)) 2 rfl rfl (fun c => ?_) (fun c => ?_)
      · have h := h.1 c
        refine j_B_less hG (m := 213) (pc := 308) (L := [some (.ref 3000), some (.int x1), some (.ref 0), some (.int x3), some (.int x4), some (.int x5), some (.int x6), none, none, some (.int x9), some (.int x10), some (.long y11), none, some (.long y13), none, some (.int x15), none, none, none, none, none, none, none]) (L' := [some (.ref 3000), some (.int x1), some (.ref 0), some (.int x3), some (.int x4), some (.int x5), some (.int x6), none, none, some (.int x9), some (.int x10), some (.long y11), none, some (.long y13), none, some (.int x15), none, none, none, none, none, none, none]) (st := []) ⟨rfl, ⟨rfl, ⟨rfl, ⟨rfl, ⟨rfl, ⟨rfl, ⟨rfl, ⟨rfl, ⟨rfl, ⟨rfl, ⟨rfl, ⟨rfl, trivial⟩⟩⟩⟩⟩⟩⟩⟩⟩⟩⟩⟩ ?_
        exact j_wtLA_b308 E hG hQ (fun x1 x3 x4 x5 x6 x9 x10 y11 y13 x15 S hk => ih x1 x3 x4 x5 x6 x9 x10 y11 y13 x15 S hk) _ _ _ _ _ _ _ _ _ _ _ h
      · have h := h.2 c
        refine j_B_nx hG 4 (fr' := (213, 308, [some (.ref 3000), some (.int x1), some (.ref 0), some (.int x3), some (.int x4), some (.int x5), some (.int x6), none, none, some (.int x9), some (.int x10), some (.long (y11 + y13)), none, some (.long y13), none, some (.int x15), none, none, none, none, none, none, none], [])) (S' := S) rfl ?_
        refine j_B_less hG (m := 213) (pc := 308) (L := [some (.ref 3000), some (.int x1), some (.ref 0), some (.int x3), some (.int x4), some (.int x5), some (.int x6), none, none, some (.int x9), some (.int x10), some (.long (y11 + y13)), none, some (.long y13), none, some (.int x15), none, none, none, none, none, none, none]) (L' := [some (.ref 3000), some (.int x1), some (.ref 0), some (.int x3), some (.int x4), some (.int x5), some (.int x6), none, none, some (.int x9), some (.int x10), some (.long (y11 + y13)), none, some (.long y13), none, some (.int x15), none, none, none, none, none, none, none]) (st := []) ⟨rfl, ⟨rfl, ⟨rfl, ⟨rfl, ⟨rfl, ⟨rfl, ⟨rfl, ⟨rfl, ⟨rfl, ⟨rfl, ⟨rfl, ⟨rfl, trivial⟩⟩⟩⟩⟩⟩⟩⟩⟩⟩⟩⟩ ?_
        exact j_wtLA_b308 E hG hQ (fun x1 x3 x4 x5 x6 x9 x10 y11 y13 x15 S hk => ih x1 x3 x4 x5 x6 x9 x10 y11 y13 x15 S hk) _ _ _ _ _ _ _ _ _ _ _ h
set_option maxRecDepth 10000 in
set_option maxHeartbeats 1000000 in
theorem j_wtLA_l154 (E : ri_E) {Q : Int32 → Int32 → Int32 → Int32 → Int32 → Int32 → Int32 → ri_H → Prop} {G : ri_F → ri_H → Prop} (hG : j_ri_GC E 4 G) (hQ : ∀ (x1 : Int32) (x3 : Int32) (x4 : Int32) (x5 : Int32) (x6 : Int32) (x17 : Int32) (s0 : Int32) (S : ri_H), Q x1 x3 x4 x5 x6 x17 s0 S → G (213, 414, [some (.ref 3000), some (.int x1), some (.ref 0), some (.int x3), some (.int x4), some (.int x5), some (.int x6), none, none, none, none, none, none, none, none, none, none, some (.int x17), none, none, none, none, none], [.int s0]) S) : ∀ (n : Nat) (x1 : Int32) (x3 : Int32) (x4 : Int32) (x5 : Int32) (x6 : Int32) (x7 : Int32) (x8 : Int32) (x9 : Int32) (S : ri_H), wLA_l154 E  Q n x1 x3 x4 x5 x6 x7 x8 x9 S → G (213, 154, [some (.ref 3000), some (.int x1), some (.ref 0), some (.int x3), some (.int x4), some (.int x5), some (.int x6), some (.int x7), some (.int x8), some (.int x9), none, none, none, none, none, none, none, none, none, none, none, none, none], []) S := by
  intro n
  induction n with
  | zero => intro x1 x3 x4 x5 x6 x7 x8 x9 S h; exact h.elim
  | succ n ih =>
    intro x1 x3 x4 x5 x6 x7 x8 x9 S h
    unfold wLA_l154 at h
    refine j_B_br hG (x6 ≤ x9) (r1 := ((213, 200, [some (.ref 3000), some (.int x1), some (.ref 0), some (.int x3), some (.int x4), some (.int x5), some (.int x6), some (.int x7), some (.int x8), some (.int x9), none, none, none, none, none, none, none, none, none, none, none, none, none], []), S)) (r2 := ((213, 161, [some (.ref 3000), some (.int x1), some (.ref 0), some (.int x3), some (.int x4), some (.int x5), some (.int x6), some (.int x7), some (.int x8), some (.int x9), none, none, none, none, none, none, none, none, none, none, none, none, none], []), S)) 3 rfl rfl (fun c => ?_) (fun c => ?_)
    · have h := h.1 c
      refine j_B_call hG (j := 56) (As := [.ref 0, .int (0 : Int32), .int x6, .int (0 : Int32)]) (fr' := (213, 208, [some (.ref 3000), some (.int x1), some (.ref 0), some (.int x3), some (.int x4), some (.int x5), some (.int x6), some (.int x7), some (.int x8), some (.int x9), none, none, none, none, none, none, none, none, none, none, none, none, none], [])) (S' := S) 5 rfl (e := 4) (by omega) (j_A_imp (j_wt56 (0 : Int32) x6 (0 : Int32) h) (fun v S11 hq => ?_))
      obtain ⟨r12, hv, h⟩ := hq
      subst hv
      refine j_B_br hG (¬ r12 = x7) (r1 := ((213, 243, [some (.ref 3000), some (.int x1), some (.ref 0), some (.int x3), some (.int x4), some (.int x5), some (.int x6), some (.int x7), some (.int x8), some (.int x9), none, none, none, none, none, none, none, none, none, none, none, none, none], []), S11)) (r2 := ((213, 213, [some (.ref 3000), some (.int x1), some (.ref 0), some (.int x3), some (.int x4), some (.int x5), some (.int x6), some (.int x7), some (.int x8), some (.int x9), none, none, none, none, none, none, none, none, none, none, none, none, none], []), S11)) 2 rfl rfl (fun c => ?_) (fun c => ?_)
      · have h := h.1 c
        exact h.elim
      · have h := h.2 c
        refine j_B_call hG (j := 56) (As := [.ref 0, .int (0 : Int32), .int x6, .int (1 : Int32)]) (fr' := (213, 221, [some (.ref 3000), some (.int x1), some (.ref 0), some (.int x3), some (.int x4), some (.int x5), some (.int x6), some (.int x7), some (.int x8), some (.int x9), none, none, none, none, none, none, none, none, none, none, none, none, none], [])) (S' := S11) 5 rfl (e := 4) (by omega) (j_A_imp (j_wt56 (0 : Int32) x6 (1 : Int32) h) (fun v S13 hq => ?_))
        obtain ⟨r14, hv, h⟩ := hq
        subst hv
        refine j_B_br hG (¬ r14 = x8) (r1 := ((213, 243, [some (.ref 3000), some (.int x1), some (.ref 0), some (.int x3), some (.int x4), some (.int x5), some (.int x6), some (.int x7), some (.int x8), some (.int x9), none, none, none, none, none, none, none, none, none, none, none, none, none], []), S13)) (r2 := ((213, 226, [some (.ref 3000), some (.int x1), some (.ref 0), some (.int x3), some (.int x4), some (.int x5), some (.int x6), some (.int x7), some (.int x8), some (.int x9), none, none, none, none, none, none, none, none, none, none, none, none, none], []), S13)) 2 rfl rfl (fun c => ?_) (fun c => ?_)
        · have h := h.1 c
          exact h.elim
        · have h := h.2 c
          refine j_B_call hG (j := 56) (As := [.ref 0, .int (0 : Int32), .int x6, .int (2 : Int32)]) (fr' := (213, 234, [some (.ref 3000), some (.int x1), some (.ref 0), some (.int x3), some (.int x4), some (.int x5), some (.int x6), some (.int x7), some (.int x8), some (.int x9), none, none, none, none, none, none, none, none, none, none, none, none, none], [])) (S' := S13) 5 rfl (e := 4) (by omega) (j_A_imp (j_wt56 (0 : Int32) x6 (2 : Int32) h) (fun v S15 hq => ?_))
          obtain ⟨r16, hv, h⟩ := hq
          subst hv
          refine j_B_br hG (r16 = (((2 : Int32) * x3) * x6)) (r1 := ((213, 245, [some (.ref 3000), some (.int x1), some (.ref 0), some (.int x3), some (.int x4), some (.int x5), some (.int x6), some (.int x7), some (.int x8), some (.int x9), none, none, none, none, none, none, none, none, none, none, none, none, none], []), S15)) (r2 := ((213, 243, [some (.ref 3000), some (.int x1), some (.ref 0), some (.int x3), some (.int x4), some (.int x5), some (.int x6), some (.int x7), some (.int x8), some (.int x9), none, none, none, none, none, none, none, none, none, none, none, none, none], []), S15)) 6 rfl rfl (fun c => ?_) (fun c => ?_)
          · have h := h.1 c
            refine j_B_call hG (j := 216) (As := [.ref 3000, .int ((27 : Int32) + x1), .int (31 : Int32)]) (fr' := (213, 255, [some (.ref 3000), some (.int x1), some (.ref 0), some (.int x3), some (.int x4), some (.int x5), some (.int x6), some (.int x7), some (.int x8), some (.int x9), none, none, none, none, none, none, none, none, none, none, none, none, none], [])) (S' := S15) 6 rfl (e := 1) (by omega) (j_A_imp (j_wt216 E ((27 : Int32) + x1) (31 : Int32) h) (fun v S17 hq => ?_))
            obtain ⟨r18, hv, h⟩ := hq
            subst hv
            refine j_B_call hG (j := 216) (As := [.ref 3000, .int ((30 : Int32) + x1), .int (12 : Int32)]) (fr' := (213, 267, [some (.ref 3000), some (.int x1), some (.ref 0), some (.int x3), some (.int x4), some (.int x5), some (.int x6), some (.int x7), some (.int x8), some (.int r18), none, none, none, none, none, none, none, none, none, none, none, none, none], [])) (S' := S17) 7 rfl (e := 1) (by omega) (j_A_imp (j_wt216 E ((30 : Int32) + x1) (12 : Int32) h) (fun v S19 hq => ?_))
            obtain ⟨r20, hv, h⟩ := hq
            subst hv
            refine j_B_nx hG 7 (fr' := (213, 278, [some (.ref 3000), some (.int x1), some (.ref 0), some (.int x3), some (.int x4), some (.int x5), some (.int x6), some (.int x7), some (.int x8), some (.int r18), some (.int r20), some (.long (0 : Int64)), none, some (.long (1 : Int64)), none, some (.int (0 : Int32)), none, none, none, none, none, none, none], [])) (S' := S19) rfl ?_
            refine j_B_less hG (m := 213) (pc := 278) (L := [some (.ref 3000), some (.int x1), some (.ref 0), some (.int x3), some (.int x4), some (.int x5), some (.int x6), some (.int x7), some (.int x8), some (.int r18), some (.int r20), some (.long (0 : Int64)), none, some (.long (1 : Int64)), none, some (.int (0 : Int32)), none, none, none, none, none, none, none]) (L' := [some (.ref 3000), some (.int x1), some (.ref 0), some (.int x3), some (.int x4), some (.int x5), some (.int x6), none, none, some (.int r18), some (.int r20), some (.long (0 : Int64)), none, some (.long (1 : Int64)), none, some (.int (0 : Int32)), none, none, none, none, none, none, none]) (st := []) ⟨rfl, ⟨rfl, ⟨rfl, ⟨rfl, ⟨rfl, ⟨rfl, ⟨rfl, ⟨rfl, ⟨rfl, ⟨rfl, ⟨rfl, ⟨rfl, trivial⟩⟩⟩⟩⟩⟩⟩⟩⟩⟩⟩⟩ ?_
            obtain ⟨nn, h⟩ := h
            exact j_wtLA_l278 E hG hQ  nn _ _ _ _ _ _ _ _ _ _ _ h
          · have h := h.2 c
            exact h.elim
    · have h := h.2 c
      refine j_B_gd hG (¬ (2 : Int32) = 0) (r1 := ((213, 171, [some (.ref 3000), some (.int x1), some (.ref 0), some (.int x3), some (.int x4), some (.int x5), some (.int x6), some (.int x7), some (.int x8), some (.int x9), none, none, none, none, none, none, none, none, none, none, none, none, none], [.int (((x7 + x5) + x9) - ((x7 + x5) + x9) / (2 : Int32) * (2 : Int32))]), S)) 7 rfl (by decide) ?_
      have h := h _ rfl
      refine j_B_gd hG (¬ (12 : Int32) = 0) (r1 := ((213, 183, [some (.ref 3000), some (.int x1), some (.ref 0), some (.int x3), some (.int x4), some (.int x5), some (.int x6), some (.int x7), some (.int x8), some (.int x9), some (.int (((x7 + x5) + x9) - ((x7 + x5) + x9) / (2 : Int32) * (2 : Int32))), none, none, none, none, none, none, none, none, none, none, none, none], [.int (((x7 + (1 : Int32)) + (((x7 + x5) + x9) - ((x7 + x5) + x9) / (2 : Int32) * (2 : Int32))) - ((x7 + (1 : Int32)) + (((x7 + x5) + x9) - ((x7 + x5) + x9) / (2 : Int32) * (2 : Int32))) / (12 : Int32) * (12 : Int32))]), S)) 8 rfl (by decide) ?_
      have h := h _ rfl
      refine j_B_nx hG 9 (fr' := (213, 154, [some (.ref 3000), some (.int x1), some (.ref 0), some (.int x3), some (.int x4), some (.int x5), some (.int x6), some (.int (((x7 + (1 : Int32)) + (((x7 + x5) + x9) - ((x7 + x5) + x9) / (2 : Int32) * (2 : Int32))) - ((x7 + (1 : Int32)) + (((x7 + x5) + x9) - ((x7 + x5) + x9) / (2 : Int32) * (2 : Int32))) / (12 : Int32) * (12 : Int32))), some (.int (x8 ||| ((1 : Int32) <<< ((((x7 + (1 : Int32)) + (((x7 + x5) + x9) - ((x7 + x5) + x9) / (2 : Int32) * (2 : Int32))) - ((x7 + (1 : Int32)) + (((x7 + x5) + x9) - ((x7 + x5) + x9) / (2 : Int32) * (2 : Int32))) / (12 : Int32) * (12 : Int32)) &&& 31)))), some (.int (x9 + (1 : Int32))), some (.int (((x7 + x5) + x9) - ((x7 + x5) + x9) / (2 : Int32) * (2 : Int32))), none, none, none, none, none, none, none, none, none, none, none, none], [])) (S' := S) rfl ?_
      refine j_B_less hG (m := 213) (pc := 154) (L := [some (.ref 3000), some (.int x1), some (.ref 0), some (.int x3), some (.int x4), some (.int x5), some (.int x6), some (.int (((x7 + (1 : Int32)) + (((x7 + x5) + x9) - ((x7 + x5) + x9) / (2 : Int32) * (2 : Int32))) - ((x7 + (1 : Int32)) + (((x7 + x5) + x9) - ((x7 + x5) + x9) / (2 : Int32) * (2 : Int32))) / (12 : Int32) * (12 : Int32))), some (.int (x8 ||| ((1 : Int32) <<< ((((x7 + (1 : Int32)) + (((x7 + x5) + x9) - ((x7 + x5) + x9) / (2 : Int32) * (2 : Int32))) - ((x7 + (1 : Int32)) + (((x7 + x5) + x9) - ((x7 + x5) + x9) / (2 : Int32) * (2 : Int32))) / (12 : Int32) * (12 : Int32)) &&& 31)))), some (.int (x9 + (1 : Int32))), some (.int (((x7 + x5) + x9) - ((x7 + x5) + x9) / (2 : Int32) * (2 : Int32))), none, none, none, none, none, none, none, none, none, none, none, none]) (L' := [some (.ref 3000), some (.int x1), some (.ref 0), some (.int x3), some (.int x4), some (.int x5), some (.int x6), some (.int (((x7 + (1 : Int32)) + (((x7 + x5) + x9) - ((x7 + x5) + x9) / (2 : Int32) * (2 : Int32))) - ((x7 + (1 : Int32)) + (((x7 + x5) + x9) - ((x7 + x5) + x9) / (2 : Int32) * (2 : Int32))) / (12 : Int32) * (12 : Int32))), some (.int (x8 ||| ((1 : Int32) <<< ((((x7 + (1 : Int32)) + (((x7 + x5) + x9) - ((x7 + x5) + x9) / (2 : Int32) * (2 : Int32))) - ((x7 + (1 : Int32)) + (((x7 + x5) + x9) - ((x7 + x5) + x9) / (2 : Int32) * (2 : Int32))) / (12 : Int32) * (12 : Int32)) &&& 31)))), some (.int (x9 + (1 : Int32))), none, none, none, none, none, none, none, none, none, none, none, none, none]) (st := []) ⟨rfl, ⟨rfl, ⟨rfl, ⟨rfl, ⟨rfl, ⟨rfl, ⟨rfl, ⟨rfl, ⟨rfl, ⟨rfl, trivial⟩⟩⟩⟩⟩⟩⟩⟩⟩⟩ ?_
      exact ih _ _ _ _ _ _ _ _ _ h
set_option maxRecDepth 10000 in
set_option maxHeartbeats 1000000 in
theorem j_wtLA_b101 (E : ri_E) {Q : Int32 → Int32 → Int32 → Int32 → Int32 → Int32 → Int32 → ri_H → Prop} {G : ri_F → ri_H → Prop} (hG : j_ri_GC E 4 G) (hQ : ∀ (x1 : Int32) (x3 : Int32) (x4 : Int32) (x5 : Int32) (x6 : Int32) (x17 : Int32) (s0 : Int32) (S : ri_H), Q x1 x3 x4 x5 x6 x17 s0 S → G (213, 414, [some (.ref 3000), some (.int x1), some (.ref 0), some (.int x3), some (.int x4), some (.int x5), some (.int x6), none, none, none, none, none, none, none, none, none, none, some (.int x17), none, none, none, none, none], [.int s0]) S) {K59 : Int32 → Int32 → Int32 → Int32 → Int32 → ri_H → Prop} (hK59 : ∀ (x1 : Int32) (x3 : Int32) (x4 : Int32) (x5 : Int32) (x6 : Int32) (S : ri_H), K59 x1 x3 x4 x5 x6 S → G (213, 59, [some (.ref 3000), some (.int x1), some (.ref 0), some (.int x3), some (.int x4), some (.int x5), some (.int x6), none, none, none, none, none, none, none, none, none, none, none, none, none, none, none, none], []) S) (x1 : Int32) (x3 : Int32) (x4 : Int32) (x5 : Int32) (x6 : Int32) (s0 : Int32) (s1 : Int32) (s2 : Int32) (S : ri_H) (h : wLA_b101 E K59 Q x1 x3 x4 x5 x6 s0 s1 s2 S) : G (213, 101, [some (.ref 3000), some (.int x1), some (.ref 0), some (.int x3), some (.int x4), some (.int x5), some (.int x6), none, none, none, none, none, none, none, none, none, none, none, none, none, none, none, none], [.int s0, .int s1, .int s2, .ref 0]) S := by
  unfold wLA_b101 at h
  refine j_B_call hG (j := 48) (As := [.ref 0, .int s2, .int s1, .int s0]) (fr' := (213, 104, [some (.ref 3000), some (.int x1), some (.ref 0), some (.int x3), some (.int x4), some (.int x5), some (.int x6), none, none, none, none, none, none, none, none, none, none, none, none, none, none, none, none], [])) (S' := S) 1 rfl (e := 2) (by omega) (j_A_imp (j_wt48 s2 s1 s0 h) (fun v S36 hq => ?_))
  obtain ⟨r37, hv, h⟩ := hq
  subst hv
  refine j_B_br hG (¬ r37 = x6) (r1 := ((213, 121, [some (.ref 3000), some (.int x1), some (.ref 0), some (.int x3), some (.int x4), some (.int x5), some (.int x6), none, none, none, none, none, none, none, none, none, none, none, none, none, none, none, none], []), S36)) (r2 := ((213, 109, [some (.ref 3000), some (.int x1), some (.ref 0), some (.int x3), some (.int x4), some (.int x5), some (.int x6), none, none, none, none, none, none, none, none, none, none, none, none, none, none, none, none], []), S36)) 2 rfl rfl (fun c => ?_) (fun c => ?_)
  · have h := h.1 c
    exact h.elim
  · have h := h.2 c
    refine j_B_call hG (j := 49) (As := [.ref 0, .int x6, .int (9 : Int32)]) (fr' := (213, 117, [some (.ref 3000), some (.int x1), some (.ref 0), some (.int x3), some (.int x4), some (.int x5), some (.int x6), none, none, none, none, none, none, none, none, none, none, none, none, none, none, none, none], [])) (S' := S36) 4 rfl (e := 3) (by omega) (j_A_imp (j_wt49 x6 (9 : Int32) h) (fun v S38 hq => ?_))
    obtain ⟨r39, hv, h⟩ := hq
    subst hv
    refine j_B_br hG (r39 = (2 : Int32)) (r1 := ((213, 123, [some (.ref 3000), some (.int x1), some (.ref 0), some (.int x3), some (.int x4), some (.int x5), some (.int x6), none, none, none, none, none, none, none, none, none, none, none, none, none, none, none, none], []), S38)) (r2 := ((213, 121, [some (.ref 3000), some (.int x1), some (.ref 0), some (.int x3), some (.int x4), some (.int x5), some (.int x6), none, none, none, none, none, none, none, none, none, none, none, none, none, none, none, none], []), S38)) 2 rfl rfl (fun c => ?_) (fun c => ?_)
    · have h := h.1 c
      refine j_B_nx hG 2 (fr' := (213, 59, [some (.ref 3000), some (.int x1), some (.ref 0), some (.int x3), some (.int x4), some (.int x5), some (.int (x6 + (1 : Int32))), none, none, none, none, none, none, none, none, none, none, none, none, none, none, none, none], [])) (S' := S38) rfl ?_
      refine j_B_less hG (m := 213) (pc := 59) (L := [some (.ref 3000), some (.int x1), some (.ref 0), some (.int x3), some (.int x4), some (.int x5), some (.int (x6 + (1 : Int32))), none, none, none, none, none, none, none, none, none, none, none, none, none, none, none, none]) (L' := [some (.ref 3000), some (.int x1), some (.ref 0), some (.int x3), some (.int x4), some (.int x5), some (.int (x6 + (1 : Int32))), none, none, none, none, none, none, none, none, none, none, none, none, none, none, none, none]) (st := []) ⟨rfl, ⟨rfl, ⟨rfl, ⟨rfl, ⟨rfl, ⟨rfl, ⟨rfl, trivial⟩⟩⟩⟩⟩⟩⟩ ?_
      exact hK59 _ _ _ _ _ _ h
    · have h := h.2 c
      exact h.elim
set_option maxRecDepth 10000 in
set_option maxHeartbeats 1000000 in
theorem j_wtLA_l59 (E : ri_E) {Q : Int32 → Int32 → Int32 → Int32 → Int32 → Int32 → Int32 → ri_H → Prop} {G : ri_F → ri_H → Prop} (hG : j_ri_GC E 4 G) (hQ : ∀ (x1 : Int32) (x3 : Int32) (x4 : Int32) (x5 : Int32) (x6 : Int32) (x17 : Int32) (s0 : Int32) (S : ri_H), Q x1 x3 x4 x5 x6 x17 s0 S → G (213, 414, [some (.ref 3000), some (.int x1), some (.ref 0), some (.int x3), some (.int x4), some (.int x5), some (.int x6), none, none, none, none, none, none, none, none, none, none, some (.int x17), none, none, none, none, none], [.int s0]) S) : ∀ (n : Nat) (x1 : Int32) (x3 : Int32) (x4 : Int32) (x5 : Int32) (x6 : Int32) (S : ri_H), wLA_l59 E  Q n x1 x3 x4 x5 x6 S → G (213, 59, [some (.ref 3000), some (.int x1), some (.ref 0), some (.int x3), some (.int x4), some (.int x5), some (.int x6), none, none, none, none, none, none, none, none, none, none, none, none, none, none, none, none], []) S := by
  intro n
  induction n with
  | zero => intro x1 x3 x4 x5 x6 S h; exact h.elim
  | succ n ih =>
    intro x1 x3 x4 x5 x6 S h
    unfold wLA_l59 at h
    refine j_B_br hG (x3 ≤ x6) (r1 := ((213, 129, [some (.ref 3000), some (.int x1), some (.ref 0), some (.int x3), some (.int x4), some (.int x5), some (.int x6), none, none, none, none, none, none, none, none, none, none, none, none, none, none, none, none], []), S)) (r2 := ((213, 65, [some (.ref 3000), some (.int x1), some (.ref 0), some (.int x3), some (.int x4), some (.int x5), some (.int x6), none, none, none, none, none, none, none, none, none, none, none, none, none, none, none, none], []), S)) 3 rfl rfl (fun c => ?_) (fun c => ?_)
    · have h := h.1 c
      refine j_B_call hG (j := 216) (As := [.ref 3000, .int ((24 : Int32) + x1), .int (31 : Int32)]) (fr' := (213, 139, [some (.ref 3000), some (.int x1), some (.ref 0), some (.int x3), some (.int x4), some (.int x5), some (.int x6), none, none, none, none, none, none, none, none, none, none, none, none, none, none, none, none], [])) (S' := S) 6 rfl (e := 1) (by omega) (j_A_imp (j_wt216 E ((24 : Int32) + x1) (31 : Int32) h) (fun v S9 hq => ?_))
      obtain ⟨r10, hv, h⟩ := hq
      subst hv
      refine j_B_nx hG 9 (fr' := (213, 154, [some (.ref 3000), some (.int x1), some (.ref 0), some (.int x3), some (.int x4), some (.int x5), some (.int r10), some (.int x4), some (.int ((1 : Int32) <<< (x4 &&& 31))), some (.int (0 : Int32)), none, none, none, none, none, none, none, none, none, none, none, none, none], [])) (S' := S9) rfl ?_
      refine j_B_less hG (m := 213) (pc := 154) (L := [some (.ref 3000), some (.int x1), some (.ref 0), some (.int x3), some (.int x4), some (.int x5), some (.int r10), some (.int x4), some (.int ((1 : Int32) <<< (x4 &&& 31))), some (.int (0 : Int32)), none, none, none, none, none, none, none, none, none, none, none, none, none]) (L' := [some (.ref 3000), some (.int x1), some (.ref 0), some (.int x3), some (.int x4), some (.int x5), some (.int r10), some (.int x4), some (.int ((1 : Int32) <<< (x4 &&& 31))), some (.int (0 : Int32)), none, none, none, none, none, none, none, none, none, none, none, none, none]) (st := []) ⟨rfl, ⟨rfl, ⟨rfl, ⟨rfl, ⟨rfl, ⟨rfl, ⟨rfl, ⟨rfl, ⟨rfl, ⟨rfl, trivial⟩⟩⟩⟩⟩⟩⟩⟩⟩⟩ ?_
      obtain ⟨nn, h⟩ := h
      exact j_wtLA_l154 E hG hQ  nn _ _ _ _ _ _ _ _ _ h
    · have h := h.2 c
      refine j_B_call hG (j := 216) (As := [.ref 3000, .int ((9 : Int32) + x6), .int (10 : Int32)]) (fr' := (213, 78, [some (.ref 3000), some (.int x1), some (.ref 0), some (.int x3), some (.int x4), some (.int x5), some (.int x6), none, none, none, none, none, none, none, none, none, none, none, none, none, none, none, none], [.int (0 : Int32), .ref 0])) (S' := S) 8 rfl (e := 1) (by omega) (j_A_imp (j_wt216 E ((9 : Int32) + x6) (10 : Int32) h) (fun v S32 hq => ?_))
      obtain ⟨r33, hv, h⟩ := hq
      subst hv
      refine j_B_br hG (¬ x6 = 0) (r1 := ((213, 88, [some (.ref 3000), some (.int x1), some (.ref 0), some (.int x3), some (.int x4), some (.int x5), some (.int x6), none, none, none, none, none, none, none, none, none, none, none, none, none, none, none, none], [.int r33, .int (0 : Int32), .ref 0]), S32)) (r2 := ((213, 83, [some (.ref 3000), some (.int x1), some (.ref 0), some (.int x3), some (.int x4), some (.int x5), some (.int x6), none, none, none, none, none, none, none, none, none, none, none, none, none, none, none, none], [.int r33, .int (0 : Int32), .ref 0]), S32)) 2 rfl rfl (fun c => ?_) (fun c => ?_)
      · have h := h.1 c
        refine j_B_call hG (j := 216) (As := [.ref 3000, .int (((16 : Int32) + x6) + x1), .int (12 : Int32)]) (fr' := (213, 101, [some (.ref 3000), some (.int x1), some (.ref 0), some (.int x3), some (.int x4), some (.int x5), some (.int x6), none, none, none, none, none, none, none, none, none, none, none, none, none, none, none, none], [.int r33, .int (0 : Int32), .ref 0])) (S' := S32) 8 rfl (e := 1) (by omega) (j_A_imp (j_wt216 E (((16 : Int32) + x6) + x1) (12 : Int32) h) (fun v S34 hq => ?_))
        obtain ⟨r35, hv, h⟩ := hq
        subst hv
        refine j_B_less hG (m := 213) (pc := 101) (L := [some (.ref 3000), some (.int x1), some (.ref 0), some (.int x3), some (.int x4), some (.int x5), some (.int x6), none, none, none, none, none, none, none, none, none, none, none, none, none, none, none, none]) (L' := [some (.ref 3000), some (.int x1), some (.ref 0), some (.int x3), some (.int x4), some (.int x5), some (.int x6), none, none, none, none, none, none, none, none, none, none, none, none, none, none, none, none]) (st := [.int r35, .int r33, .int (0 : Int32), .ref 0]) ⟨rfl, ⟨rfl, ⟨rfl, ⟨rfl, ⟨rfl, ⟨rfl, ⟨rfl, trivial⟩⟩⟩⟩⟩⟩⟩ ?_
        exact j_wtLA_b101 E hG hQ (fun x1 x3 x4 x5 x6 S hk => ih x1 x3 x4 x5 x6 S hk) _ _ _ _ _ _ _ _ _ h
      · have h := h.2 c
        refine j_B_nx hG 2 (fr' := (213, 101, [some (.ref 3000), some (.int x1), some (.ref 0), some (.int x3), some (.int x4), some (.int x5), some (.int x6), none, none, none, none, none, none, none, none, none, none, none, none, none, none, none, none], [.int x4, .int r33, .int (0 : Int32), .ref 0])) (S' := S32) rfl ?_
        refine j_B_less hG (m := 213) (pc := 101) (L := [some (.ref 3000), some (.int x1), some (.ref 0), some (.int x3), some (.int x4), some (.int x5), some (.int x6), none, none, none, none, none, none, none, none, none, none, none, none, none, none, none, none]) (L' := [some (.ref 3000), some (.int x1), some (.ref 0), some (.int x3), some (.int x4), some (.int x5), some (.int x6), none, none, none, none, none, none, none, none, none, none, none, none, none, none, none, none]) (st := [.int x4, .int r33, .int (0 : Int32), .ref 0]) ⟨rfl, ⟨rfl, ⟨rfl, ⟨rfl, ⟨rfl, ⟨rfl, ⟨rfl, trivial⟩⟩⟩⟩⟩⟩⟩ ?_
        exact j_wtLA_b101 E hG hQ (fun x1 x3 x4 x5 x6 S hk => ih x1 x3 x4 x5 x6 S hk) _ _ _ _ _ _ _ _ _ h
set_option maxRecDepth 10000 in
set_option maxHeartbeats 1000000 in
theorem j_wtLA (E : ri_E) {Q : Int32 → Int32 → Int32 → Int32 → Int32 → Int32 → Int32 → ri_H → Prop} {G : ri_F → ri_H → Prop} (hG : j_ri_GC E 4 G) (hQ : ∀ (x1 : Int32) (x3 : Int32) (x4 : Int32) (x5 : Int32) (x6 : Int32) (x17 : Int32) (s0 : Int32) (S : ri_H), Q x1 x3 x4 x5 x6 x17 s0 S → G (213, 414, [some (.ref 3000), some (.int x1), some (.ref 0), some (.int x3), some (.int x4), some (.int x5), some (.int x6), none, none, none, none, none, none, none, none, none, none, some (.int x17), none, none, none, none, none], [.int s0]) S) (x1 : Int32) (S : ri_H) (h : wLA E Q x1 S) : G (213, 15, [some (.ref 3000), some (.int x1), some (.ref 0), none, none, none, none, none, none, none, none, none, none, none, none, none, none, none, none, none, none, none, none], []) S := by
  unfold wLA at h
  refine j_B_call hG (j := 216) (As := [.ref 3000, .int x1, .int (5 : Int32)]) (fr' := (213, 22, [some (.ref 3000), some (.int x1), some (.ref 0), none, none, none, none, none, none, none, none, none, none, none, none, none, none, none, none, none, none, none, none], [.int (1 : Int32)])) (S' := S) 5 rfl (e := 1) (by omega) (j_A_imp (j_wt216 E x1 (5 : Int32) h) (fun v S1 hq => ?_))
  obtain ⟨r2, hv, h⟩ := hq
  subst hv
  refine j_B_call hG (j := 216) (As := [.ref 3000, .int ((3 : Int32) + x1), .int (12 : Int32)]) (fr' := (213, 33, [some (.ref 3000), some (.int x1), some (.ref 0), some (.int ((1 : Int32) + r2)), none, none, none, none, none, none, none, none, none, none, none, none, none, none, none, none, none, none, none], [])) (S' := S1) 8 rfl (e := 1) (by omega) (j_A_imp (j_wt216 E ((3 : Int32) + x1) (12 : Int32) h) (fun v S3 hq => ?_))
  obtain ⟨r4, hv, h⟩ := hq
  subst hv
  refine j_B_call hG (j := 216) (As := [.ref 3000, .int ((6 : Int32) + x1), .int (20 : Int32)]) (fr' := (213, 45, [some (.ref 3000), some (.int x1), some (.ref 0), some (.int ((1 : Int32) + r2)), some (.int r4), none, none, none, none, none, none, none, none, none, none, none, none, none, none, none, none, none, none], [])) (S' := S3) 7 rfl (e := 1) (by omega) (j_A_imp (j_wt216 E ((6 : Int32) + x1) (20 : Int32) h) (fun v S5 hq => ?_))
  obtain ⟨r6, hv, h⟩ := hq
  subst hv
  refine j_B_call hG (j := 47) (As := [.ref 0, .int (2 : Int32), .int (0 : Int32), .int r6]) (fr' := (213, 55, [some (.ref 3000), some (.int x1), some (.ref 0), some (.int ((1 : Int32) + r2)), some (.int r4), some (.int r6), none, none, none, none, none, none, none, none, none, none, none, none, none, none, none, none, none], [])) (S' := S5) 6 rfl (e := 2) (by omega) (j_A_imp (j_wt47 (2 : Int32) (0 : Int32) r6 h) (fun v S7 hq => ?_))
  obtain ⟨r8, hv, h⟩ := hq
  subst hv
  refine j_B_nx hG 3 (fr' := (213, 59, [some (.ref 3000), some (.int x1), some (.ref 0), some (.int ((1 : Int32) + r2)), some (.int r4), some (.int r6), some (.int (0 : Int32)), none, none, none, none, none, none, none, none, none, none, none, none, none, none, none, none], [])) (S' := S7) rfl ?_
  refine j_B_less hG (m := 213) (pc := 59) (L := [some (.ref 3000), some (.int x1), some (.ref 0), some (.int ((1 : Int32) + r2)), some (.int r4), some (.int r6), some (.int (0 : Int32)), none, none, none, none, none, none, none, none, none, none, none, none, none, none, none, none]) (L' := [some (.ref 3000), some (.int x1), some (.ref 0), some (.int ((1 : Int32) + r2)), some (.int r4), some (.int r6), some (.int (0 : Int32)), none, none, none, none, none, none, none, none, none, none, none, none, none, none, none, none]) (st := []) ⟨rfl, ⟨rfl, ⟨rfl, ⟨rfl, ⟨rfl, ⟨rfl, ⟨rfl, trivial⟩⟩⟩⟩⟩⟩⟩ ?_
  obtain ⟨nn, h⟩ := h
  exact j_wtLA_l59 E hG hQ  nn _ _ _ _ _ _ h
