/-! texts of the JDK, the tape, the tokens, the steps -/
/-! J0_coder_7d493, depth 0 -/
def w208 (t : Nat)  (S : ri_H) (Q : Int32 → ri_H → Prop) : Prop := Q (0 : Int32) S
set_option maxRecDepth 10000 in
set_option maxHeartbeats 1000000 in
theorem wt208 {E : ri_E} (t : Nat) (hw : t = 1000 ∨ t = 1001 ∨ t = 1002 ∨ t = 1003 ∨ t = 1004 ∨ t = 1005 ∨ t = 1006 ∨ t = 1007 ∨ t = 1008 ∨ t = 1009 ∨ t = 1010 ∨ t = 1011 ∨ t = 1012)  {S : ri_H} {Q : Int32 → ri_H → Prop} (h : w208 t  S Q) : ri_A E 0 (ri_en 208 [.ref t]) S (Qi Q) := by
  rcases hw with rfl | rfl | rfl | rfl | rfl | rfl | rfl | rfl | rfl | rfl | rfl | rfl | rfl
  · unfold w208 at h
    show ri_A E 0 (208, 0, [some (.ref 1000)], []) S (Qi Q)
    refine A_br ((1 : Int32) = 0) (r1 := ((208, 13, [some (.ref 1000)], []), S)) (r2 := ((208, 6, [some (.ref 1000)], []), S)) 2 rfl (fun c => absurd c (by decide)) (fun c => ?_)
    exact A_ret 4 (m := 208) (v := some (.int (0 : Int32))) (S' := S) rfl rfl ⟨_, rfl, h⟩
  · unfold w208 at h
    show ri_A E 0 (208, 0, [some (.ref 1001)], []) S (Qi Q)
    refine A_br ((1 : Int32) = 0) (r1 := ((208, 13, [some (.ref 1001)], []), S)) (r2 := ((208, 6, [some (.ref 1001)], []), S)) 2 rfl (fun c => absurd c (by decide)) (fun c => ?_)
    exact A_ret 4 (m := 208) (v := some (.int (0 : Int32))) (S' := S) rfl rfl ⟨_, rfl, h⟩
  · unfold w208 at h
    show ri_A E 0 (208, 0, [some (.ref 1002)], []) S (Qi Q)
    refine A_br ((1 : Int32) = 0) (r1 := ((208, 13, [some (.ref 1002)], []), S)) (r2 := ((208, 6, [some (.ref 1002)], []), S)) 2 rfl (fun c => absurd c (by decide)) (fun c => ?_)
    exact A_ret 4 (m := 208) (v := some (.int (0 : Int32))) (S' := S) rfl rfl ⟨_, rfl, h⟩
  · unfold w208 at h
    show ri_A E 0 (208, 0, [some (.ref 1003)], []) S (Qi Q)
    refine A_br ((1 : Int32) = 0) (r1 := ((208, 13, [some (.ref 1003)], []), S)) (r2 := ((208, 6, [some (.ref 1003)], []), S)) 2 rfl (fun c => absurd c (by decide)) (fun c => ?_)
    exact A_ret 4 (m := 208) (v := some (.int (0 : Int32))) (S' := S) rfl rfl ⟨_, rfl, h⟩
  · unfold w208 at h
    show ri_A E 0 (208, 0, [some (.ref 1004)], []) S (Qi Q)
    refine A_br ((1 : Int32) = 0) (r1 := ((208, 13, [some (.ref 1004)], []), S)) (r2 := ((208, 6, [some (.ref 1004)], []), S)) 2 rfl (fun c => absurd c (by decide)) (fun c => ?_)
    exact A_ret 4 (m := 208) (v := some (.int (0 : Int32))) (S' := S) rfl rfl ⟨_, rfl, h⟩
  · unfold w208 at h
    show ri_A E 0 (208, 0, [some (.ref 1005)], []) S (Qi Q)
    refine A_br ((1 : Int32) = 0) (r1 := ((208, 13, [some (.ref 1005)], []), S)) (r2 := ((208, 6, [some (.ref 1005)], []), S)) 2 rfl (fun c => absurd c (by decide)) (fun c => ?_)
    exact A_ret 4 (m := 208) (v := some (.int (0 : Int32))) (S' := S) rfl rfl ⟨_, rfl, h⟩
  · unfold w208 at h
    show ri_A E 0 (208, 0, [some (.ref 1006)], []) S (Qi Q)
    refine A_br ((1 : Int32) = 0) (r1 := ((208, 13, [some (.ref 1006)], []), S)) (r2 := ((208, 6, [some (.ref 1006)], []), S)) 2 rfl (fun c => absurd c (by decide)) (fun c => ?_)
    exact A_ret 4 (m := 208) (v := some (.int (0 : Int32))) (S' := S) rfl rfl ⟨_, rfl, h⟩
  · unfold w208 at h
    show ri_A E 0 (208, 0, [some (.ref 1007)], []) S (Qi Q)
    refine A_br ((1 : Int32) = 0) (r1 := ((208, 13, [some (.ref 1007)], []), S)) (r2 := ((208, 6, [some (.ref 1007)], []), S)) 2 rfl (fun c => absurd c (by decide)) (fun c => ?_)
    exact A_ret 4 (m := 208) (v := some (.int (0 : Int32))) (S' := S) rfl rfl ⟨_, rfl, h⟩
  · unfold w208 at h
    show ri_A E 0 (208, 0, [some (.ref 1008)], []) S (Qi Q)
    refine A_br ((1 : Int32) = 0) (r1 := ((208, 13, [some (.ref 1008)], []), S)) (r2 := ((208, 6, [some (.ref 1008)], []), S)) 2 rfl (fun c => absurd c (by decide)) (fun c => ?_)
    exact A_ret 4 (m := 208) (v := some (.int (0 : Int32))) (S' := S) rfl rfl ⟨_, rfl, h⟩
  · unfold w208 at h
    show ri_A E 0 (208, 0, [some (.ref 1009)], []) S (Qi Q)
    refine A_br ((1 : Int32) = 0) (r1 := ((208, 13, [some (.ref 1009)], []), S)) (r2 := ((208, 6, [some (.ref 1009)], []), S)) 2 rfl (fun c => absurd c (by decide)) (fun c => ?_)
    exact A_ret 4 (m := 208) (v := some (.int (0 : Int32))) (S' := S) rfl rfl ⟨_, rfl, h⟩
  · unfold w208 at h
    show ri_A E 0 (208, 0, [some (.ref 1010)], []) S (Qi Q)
    refine A_br ((1 : Int32) = 0) (r1 := ((208, 13, [some (.ref 1010)], []), S)) (r2 := ((208, 6, [some (.ref 1010)], []), S)) 2 rfl (fun c => absurd c (by decide)) (fun c => ?_)
    exact A_ret 4 (m := 208) (v := some (.int (0 : Int32))) (S' := S) rfl rfl ⟨_, rfl, h⟩
  · unfold w208 at h
    show ri_A E 0 (208, 0, [some (.ref 1011)], []) S (Qi Q)
    refine A_br ((1 : Int32) = 0) (r1 := ((208, 13, [some (.ref 1011)], []), S)) (r2 := ((208, 6, [some (.ref 1011)], []), S)) 2 rfl (fun c => absurd c (by decide)) (fun c => ?_)
    exact A_ret 4 (m := 208) (v := some (.int (0 : Int32))) (S' := S) rfl rfl ⟨_, rfl, h⟩
  · unfold w208 at h
    show ri_A E 0 (208, 0, [some (.ref 1012)], []) S (Qi Q)
    refine A_br ((1 : Int32) = 0) (r1 := ((208, 13, [some (.ref 1012)], []), S)) (r2 := ((208, 6, [some (.ref 1012)], []), S)) 2 rfl (fun c => absurd c (by decide)) (fun c => ?_)
    exact A_ret 4 (m := 208) (v := some (.int (0 : Int32))) (S' := S) rfl rfl ⟨_, rfl, h⟩
/-! J0_isLatin1_aae02, depth 0 -/
def w209 (t : Nat)  (S : ri_H) (Q : Int32 → ri_H → Prop) : Prop := Q (1 : Int32) S
set_option maxRecDepth 10000 in
set_option maxHeartbeats 1000000 in
theorem wt209 {E : ri_E} (t : Nat) (hw : t = 1000 ∨ t = 1001 ∨ t = 1002 ∨ t = 1003 ∨ t = 1004 ∨ t = 1005 ∨ t = 1006 ∨ t = 1007 ∨ t = 1008 ∨ t = 1009 ∨ t = 1010 ∨ t = 1011 ∨ t = 1012)  {S : ri_H} {Q : Int32 → ri_H → Prop} (h : w209 t  S Q) : ri_A E 0 (ri_en 209 [.ref t]) S (Qi Q) := by
  rcases hw with rfl | rfl | rfl | rfl | rfl | rfl | rfl | rfl | rfl | rfl | rfl | rfl | rfl
  · unfold w209 at h
    show ri_A E 0 (209, 0, [some (.ref 1000)], []) S (Qi Q)
    refine A_br ((1 : Int32) = 0) (r1 := ((209, 17, [some (.ref 1000)], []), S)) (r2 := ((209, 6, [some (.ref 1000)], []), S)) 2 rfl (fun c => absurd c (by decide)) (fun c => ?_)
    refine A_br (¬ (0 : Int32) = 0) (r1 := ((209, 17, [some (.ref 1000)], []), S)) (r2 := ((209, 13, [some (.ref 1000)], []), S)) 3 rfl (fun c => absurd c (by decide)) (fun c => ?_)
    exact A_ret 3 (m := 209) (v := some (.int (1 : Int32))) (S' := S) rfl rfl ⟨_, rfl, h⟩
  · unfold w209 at h
    show ri_A E 0 (209, 0, [some (.ref 1001)], []) S (Qi Q)
    refine A_br ((1 : Int32) = 0) (r1 := ((209, 17, [some (.ref 1001)], []), S)) (r2 := ((209, 6, [some (.ref 1001)], []), S)) 2 rfl (fun c => absurd c (by decide)) (fun c => ?_)
    refine A_br (¬ (0 : Int32) = 0) (r1 := ((209, 17, [some (.ref 1001)], []), S)) (r2 := ((209, 13, [some (.ref 1001)], []), S)) 3 rfl (fun c => absurd c (by decide)) (fun c => ?_)
    exact A_ret 3 (m := 209) (v := some (.int (1 : Int32))) (S' := S) rfl rfl ⟨_, rfl, h⟩
  · unfold w209 at h
    show ri_A E 0 (209, 0, [some (.ref 1002)], []) S (Qi Q)
    refine A_br ((1 : Int32) = 0) (r1 := ((209, 17, [some (.ref 1002)], []), S)) (r2 := ((209, 6, [some (.ref 1002)], []), S)) 2 rfl (fun c => absurd c (by decide)) (fun c => ?_)
    refine A_br (¬ (0 : Int32) = 0) (r1 := ((209, 17, [some (.ref 1002)], []), S)) (r2 := ((209, 13, [some (.ref 1002)], []), S)) 3 rfl (fun c => absurd c (by decide)) (fun c => ?_)
    exact A_ret 3 (m := 209) (v := some (.int (1 : Int32))) (S' := S) rfl rfl ⟨_, rfl, h⟩
  · unfold w209 at h
    show ri_A E 0 (209, 0, [some (.ref 1003)], []) S (Qi Q)
    refine A_br ((1 : Int32) = 0) (r1 := ((209, 17, [some (.ref 1003)], []), S)) (r2 := ((209, 6, [some (.ref 1003)], []), S)) 2 rfl (fun c => absurd c (by decide)) (fun c => ?_)
    refine A_br (¬ (0 : Int32) = 0) (r1 := ((209, 17, [some (.ref 1003)], []), S)) (r2 := ((209, 13, [some (.ref 1003)], []), S)) 3 rfl (fun c => absurd c (by decide)) (fun c => ?_)
    exact A_ret 3 (m := 209) (v := some (.int (1 : Int32))) (S' := S) rfl rfl ⟨_, rfl, h⟩
  · unfold w209 at h
    show ri_A E 0 (209, 0, [some (.ref 1004)], []) S (Qi Q)
    refine A_br ((1 : Int32) = 0) (r1 := ((209, 17, [some (.ref 1004)], []), S)) (r2 := ((209, 6, [some (.ref 1004)], []), S)) 2 rfl (fun c => absurd c (by decide)) (fun c => ?_)
    refine A_br (¬ (0 : Int32) = 0) (r1 := ((209, 17, [some (.ref 1004)], []), S)) (r2 := ((209, 13, [some (.ref 1004)], []), S)) 3 rfl (fun c => absurd c (by decide)) (fun c => ?_)
    exact A_ret 3 (m := 209) (v := some (.int (1 : Int32))) (S' := S) rfl rfl ⟨_, rfl, h⟩
  · unfold w209 at h
    show ri_A E 0 (209, 0, [some (.ref 1005)], []) S (Qi Q)
    refine A_br ((1 : Int32) = 0) (r1 := ((209, 17, [some (.ref 1005)], []), S)) (r2 := ((209, 6, [some (.ref 1005)], []), S)) 2 rfl (fun c => absurd c (by decide)) (fun c => ?_)
    refine A_br (¬ (0 : Int32) = 0) (r1 := ((209, 17, [some (.ref 1005)], []), S)) (r2 := ((209, 13, [some (.ref 1005)], []), S)) 3 rfl (fun c => absurd c (by decide)) (fun c => ?_)
    exact A_ret 3 (m := 209) (v := some (.int (1 : Int32))) (S' := S) rfl rfl ⟨_, rfl, h⟩
  · unfold w209 at h
    show ri_A E 0 (209, 0, [some (.ref 1006)], []) S (Qi Q)
    refine A_br ((1 : Int32) = 0) (r1 := ((209, 17, [some (.ref 1006)], []), S)) (r2 := ((209, 6, [some (.ref 1006)], []), S)) 2 rfl (fun c => absurd c (by decide)) (fun c => ?_)
    refine A_br (¬ (0 : Int32) = 0) (r1 := ((209, 17, [some (.ref 1006)], []), S)) (r2 := ((209, 13, [some (.ref 1006)], []), S)) 3 rfl (fun c => absurd c (by decide)) (fun c => ?_)
    exact A_ret 3 (m := 209) (v := some (.int (1 : Int32))) (S' := S) rfl rfl ⟨_, rfl, h⟩
  · unfold w209 at h
    show ri_A E 0 (209, 0, [some (.ref 1007)], []) S (Qi Q)
    refine A_br ((1 : Int32) = 0) (r1 := ((209, 17, [some (.ref 1007)], []), S)) (r2 := ((209, 6, [some (.ref 1007)], []), S)) 2 rfl (fun c => absurd c (by decide)) (fun c => ?_)
    refine A_br (¬ (0 : Int32) = 0) (r1 := ((209, 17, [some (.ref 1007)], []), S)) (r2 := ((209, 13, [some (.ref 1007)], []), S)) 3 rfl (fun c => absurd c (by decide)) (fun c => ?_)
    exact A_ret 3 (m := 209) (v := some (.int (1 : Int32))) (S' := S) rfl rfl ⟨_, rfl, h⟩
  · unfold w209 at h
    show ri_A E 0 (209, 0, [some (.ref 1008)], []) S (Qi Q)
    refine A_br ((1 : Int32) = 0) (r1 := ((209, 17, [some (.ref 1008)], []), S)) (r2 := ((209, 6, [some (.ref 1008)], []), S)) 2 rfl (fun c => absurd c (by decide)) (fun c => ?_)
    refine A_br (¬ (0 : Int32) = 0) (r1 := ((209, 17, [some (.ref 1008)], []), S)) (r2 := ((209, 13, [some (.ref 1008)], []), S)) 3 rfl (fun c => absurd c (by decide)) (fun c => ?_)
    exact A_ret 3 (m := 209) (v := some (.int (1 : Int32))) (S' := S) rfl rfl ⟨_, rfl, h⟩
  · unfold w209 at h
    show ri_A E 0 (209, 0, [some (.ref 1009)], []) S (Qi Q)
    refine A_br ((1 : Int32) = 0) (r1 := ((209, 17, [some (.ref 1009)], []), S)) (r2 := ((209, 6, [some (.ref 1009)], []), S)) 2 rfl (fun c => absurd c (by decide)) (fun c => ?_)
    refine A_br (¬ (0 : Int32) = 0) (r1 := ((209, 17, [some (.ref 1009)], []), S)) (r2 := ((209, 13, [some (.ref 1009)], []), S)) 3 rfl (fun c => absurd c (by decide)) (fun c => ?_)
    exact A_ret 3 (m := 209) (v := some (.int (1 : Int32))) (S' := S) rfl rfl ⟨_, rfl, h⟩
  · unfold w209 at h
    show ri_A E 0 (209, 0, [some (.ref 1010)], []) S (Qi Q)
    refine A_br ((1 : Int32) = 0) (r1 := ((209, 17, [some (.ref 1010)], []), S)) (r2 := ((209, 6, [some (.ref 1010)], []), S)) 2 rfl (fun c => absurd c (by decide)) (fun c => ?_)
    refine A_br (¬ (0 : Int32) = 0) (r1 := ((209, 17, [some (.ref 1010)], []), S)) (r2 := ((209, 13, [some (.ref 1010)], []), S)) 3 rfl (fun c => absurd c (by decide)) (fun c => ?_)
    exact A_ret 3 (m := 209) (v := some (.int (1 : Int32))) (S' := S) rfl rfl ⟨_, rfl, h⟩
  · unfold w209 at h
    show ri_A E 0 (209, 0, [some (.ref 1011)], []) S (Qi Q)
    refine A_br ((1 : Int32) = 0) (r1 := ((209, 17, [some (.ref 1011)], []), S)) (r2 := ((209, 6, [some (.ref 1011)], []), S)) 2 rfl (fun c => absurd c (by decide)) (fun c => ?_)
    refine A_br (¬ (0 : Int32) = 0) (r1 := ((209, 17, [some (.ref 1011)], []), S)) (r2 := ((209, 13, [some (.ref 1011)], []), S)) 3 rfl (fun c => absurd c (by decide)) (fun c => ?_)
    exact A_ret 3 (m := 209) (v := some (.int (1 : Int32))) (S' := S) rfl rfl ⟨_, rfl, h⟩
  · unfold w209 at h
    show ri_A E 0 (209, 0, [some (.ref 1012)], []) S (Qi Q)
    refine A_br ((1 : Int32) = 0) (r1 := ((209, 17, [some (.ref 1012)], []), S)) (r2 := ((209, 6, [some (.ref 1012)], []), S)) 2 rfl (fun c => absurd c (by decide)) (fun c => ?_)
    refine A_br (¬ (0 : Int32) = 0) (r1 := ((209, 17, [some (.ref 1012)], []), S)) (r2 := ((209, 13, [some (.ref 1012)], []), S)) 3 rfl (fun c => absurd c (by decide)) (fun c => ?_)
    exact A_ret 3 (m := 209) (v := some (.int (1 : Int32))) (S' := S) rfl rfl ⟨_, rfl, h⟩
/-! J3_checkIndex_8e157, depth 0 -/
def w212_b9 (Q : Int32 → ri_H → Prop) (x0 : Int32) (x1 : Int32) (S : ri_H) : Prop := False
set_option maxRecDepth 10000 in
set_option maxHeartbeats 1000000 in
theorem wt212_b9 {E : ri_E} {Q : Int32 → ri_H → Prop} (x0 : Int32) (x1 : Int32) (S : ri_H) (h : w212_b9   Q x0 x1 S) : ri_A E 0 (212, 9, [some (.int x0), some (.int x1), some (.ref 4000)], []) S (Qi Q) := by
  unfold w212_b9 at h
  exact h.elim
def w212 (a : Int32) (b : Int32) (S : ri_H) (Q : Int32 → ri_H → Prop) : Prop := ((a < 0 → w212_b9   Q a b S) ∧ (¬ (a < 0) → ((a < b → Q a S) ∧ (¬ (a < b) → w212_b9   Q a b S))))
set_option maxRecDepth 10000 in
set_option maxHeartbeats 1000000 in
theorem wt212 {E : ri_E} (a : Int32) (b : Int32) {S : ri_H} {Q : Int32 → ri_H → Prop} (h : w212  a b S Q) : ri_A E 0 (ri_en 212 [.int a, .int b, .ref 4000]) S (Qi Q) := by
  unfold w212 at h
  show ri_A E 0 (212, 0, [some (.int a), some (.int b), some (.ref 4000)], []) S (Qi Q)
  refine A_br (a < 0) (r1 := ((212, 9, [some (.int a), some (.int b), some (.ref 4000)], []), S)) (r2 := ((212, 4, [some (.int a), some (.int b), some (.ref 4000)], []), S)) 2 rfl (fun c => ?_) (fun c => ?_)
  · have h := h.1 c
    refine ri_A.less (m := 212) (pc := 9) (L := [some (.int a), some (.int b), some (.ref 4000)]) (L' := [some (.int a), some (.int b), some (.ref 4000)]) (st := []) ⟨rfl, ⟨rfl, ⟨rfl, trivial⟩⟩⟩ ?_
    exact wt212_b9   _ _ _ h
  · have h := h.2 c
    refine A_br (a < b) (r1 := ((212, 16, [some (.int a), some (.int b), some (.ref 4000)], []), S)) (r2 := ((212, 9, [some (.int a), some (.int b), some (.ref 4000)], []), S)) 3 rfl (fun c => ?_) (fun c => ?_)
    · have h := h.1 c
      exact A_ret 2 (m := 212) (v := some (.int a)) (S' := S) rfl rfl ⟨_, rfl, h⟩
    · have h := h.2 c
      refine ri_A.less (m := 212) (pc := 9) (L := [some (.int a), some (.int b), some (.ref 4000)]) (L' := [some (.int a), some (.int b), some (.ref 4000)]) (st := []) ⟨rfl, ⟨rfl, ⟨rfl, trivial⟩⟩⟩ ?_
      exact wt212_b9   _ _ _ h
/-! J0_checkIndex_df160, depth 1 -/
def w210 (a : Int32) (b : Int32) (S : ri_H) (Q : ri_H → Prop) : Prop := w212 a b S (fun (r2 : Int32) (S1 : ri_H) => Q S1)
set_option maxRecDepth 10000 in
set_option maxHeartbeats 1000000 in
theorem wt210 {E : ri_E} (a : Int32) (b : Int32) {S : ri_H} {Q : ri_H → Prop} (h : w210  a b S Q) : ri_A E 1 (ri_en 210 [.int a, .int b]) S (Qv Q) := by
  unfold w210 at h
  show ri_A E 1 (210, 0, [some (.int a), some (.int b)], []) S (Qv Q)
  refine A_call (j := 212) (As := [.int a, .int b, .ref 4000]) (fr' := (210, 8, [some (.int a), some (.int b)], [])) (S' := S) 4 rfl (e := 0) (by omega) (A_imp (wt212 a b h) (fun v S1 hq => ?_))
  obtain ⟨r2, hv, h⟩ := hq
  subst hv
  exact A_ret 2 (m := 210) (v := none) (S' := S1) rfl rfl ⟨rfl, h⟩
/-! J1_charAt_3b067, depth 2 -/
def w211 (u : Nat) (a : Int32) (S : ri_H) (Q : Int32 → ri_H → Prop) : Prop := w210 a (Int32.ofNat (ri_strl.getD (u - 1100) 0)) S (fun (S1 : ri_H) => (vp_in a (ri_strl.getD (u - 1100) 0) ∧ (ri_rok 211 (some (.int (((((ri_strb.getD (u - 1100) []).getD (a).toNatClampNeg 0) &&& (255 : Int32))).toUInt32 % 65536).toInt32)) = true ∧ Q (((((ri_strb.getD (u - 1100) []).getD (a).toNatClampNeg 0) &&& (255 : Int32))).toUInt32 % 65536).toInt32 S1)))
set_option maxRecDepth 10000 in
set_option maxHeartbeats 1000000 in
theorem wt211 {E : ri_E} (u : Nat) (hw : u = 1100 ∨ u = 1101 ∨ u = 1102 ∨ u = 1103 ∨ u = 1104 ∨ u = 1105 ∨ u = 1106 ∨ u = 1107 ∨ u = 1108 ∨ u = 1109 ∨ u = 1110 ∨ u = 1111 ∨ u = 1112) (a : Int32) {S : ri_H} {Q : Int32 → ri_H → Prop} (h : w211 u a S Q) : ri_A E 2 (ri_en 211 [.ref u, .int a]) S (Qi Q) := by
  rcases hw with rfl | rfl | rfl | rfl | rfl | rfl | rfl | rfl | rfl | rfl | rfl | rfl | rfl
  · unfold w211 at h
    show ri_A E 2 (211, 0, [some (.ref 1100), some (.int a)], []) S (Qi Q)
    refine A_call (j := 210) (As := [.int a, .int (Int32.ofNat (ri_strl.getD (1100 - 1100) 0))]) (fr' := (211, 6, [some (.ref 1100), some (.int a)], [])) (S' := S) 4 rfl (e := 1) (by omega) (A_imp (wt210 a (Int32.ofNat (ri_strl.getD (1100 - 1100) 0)) h) (fun v S1 hq => ?_))
    obtain ⟨hv, h⟩ := hq
    subst hv
    refine A_ix a (ri_strl.getD (1100 - 1100) 0) (r1 := ((211, 9, [some (.ref 1100), some (.int a)], [.int ((ri_strb.getD (1100 - 1100) []).getD (a).toNatClampNeg 0)]), S1)) 3 rfl h.1 ?_
    have h := h.2
    exact A_ret 4 (m := 211) (v := some (.int (((((ri_strb.getD (1100 - 1100) []).getD (a).toNatClampNeg 0) &&& (255 : Int32))).toUInt32 % 65536).toInt32)) (S' := S1) rfl h.1 ⟨_, rfl, h.2⟩
  · unfold w211 at h
    show ri_A E 2 (211, 0, [some (.ref 1101), some (.int a)], []) S (Qi Q)
    refine A_call (j := 210) (As := [.int a, .int (Int32.ofNat (ri_strl.getD (1101 - 1100) 0))]) (fr' := (211, 6, [some (.ref 1101), some (.int a)], [])) (S' := S) 4 rfl (e := 1) (by omega) (A_imp (wt210 a (Int32.ofNat (ri_strl.getD (1101 - 1100) 0)) h) (fun v S1 hq => ?_))
    obtain ⟨hv, h⟩ := hq
    subst hv
    refine A_ix a (ri_strl.getD (1101 - 1100) 0) (r1 := ((211, 9, [some (.ref 1101), some (.int a)], [.int ((ri_strb.getD (1101 - 1100) []).getD (a).toNatClampNeg 0)]), S1)) 3 rfl h.1 ?_
    have h := h.2
    exact A_ret 4 (m := 211) (v := some (.int (((((ri_strb.getD (1101 - 1100) []).getD (a).toNatClampNeg 0) &&& (255 : Int32))).toUInt32 % 65536).toInt32)) (S' := S1) rfl h.1 ⟨_, rfl, h.2⟩
  · unfold w211 at h
    show ri_A E 2 (211, 0, [some (.ref 1102), some (.int a)], []) S (Qi Q)
    refine A_call (j := 210) (As := [.int a, .int (Int32.ofNat (ri_strl.getD (1102 - 1100) 0))]) (fr' := (211, 6, [some (.ref 1102), some (.int a)], [])) (S' := S) 4 rfl (e := 1) (by omega) (A_imp (wt210 a (Int32.ofNat (ri_strl.getD (1102 - 1100) 0)) h) (fun v S1 hq => ?_))
    obtain ⟨hv, h⟩ := hq
    subst hv
    refine A_ix a (ri_strl.getD (1102 - 1100) 0) (r1 := ((211, 9, [some (.ref 1102), some (.int a)], [.int ((ri_strb.getD (1102 - 1100) []).getD (a).toNatClampNeg 0)]), S1)) 3 rfl h.1 ?_
    have h := h.2
    exact A_ret 4 (m := 211) (v := some (.int (((((ri_strb.getD (1102 - 1100) []).getD (a).toNatClampNeg 0) &&& (255 : Int32))).toUInt32 % 65536).toInt32)) (S' := S1) rfl h.1 ⟨_, rfl, h.2⟩
  · unfold w211 at h
    show ri_A E 2 (211, 0, [some (.ref 1103), some (.int a)], []) S (Qi Q)
    refine A_call (j := 210) (As := [.int a, .int (Int32.ofNat (ri_strl.getD (1103 - 1100) 0))]) (fr' := (211, 6, [some (.ref 1103), some (.int a)], [])) (S' := S) 4 rfl (e := 1) (by omega) (A_imp (wt210 a (Int32.ofNat (ri_strl.getD (1103 - 1100) 0)) h) (fun v S1 hq => ?_))
    obtain ⟨hv, h⟩ := hq
    subst hv
    refine A_ix a (ri_strl.getD (1103 - 1100) 0) (r1 := ((211, 9, [some (.ref 1103), some (.int a)], [.int ((ri_strb.getD (1103 - 1100) []).getD (a).toNatClampNeg 0)]), S1)) 3 rfl h.1 ?_
    have h := h.2
    exact A_ret 4 (m := 211) (v := some (.int (((((ri_strb.getD (1103 - 1100) []).getD (a).toNatClampNeg 0) &&& (255 : Int32))).toUInt32 % 65536).toInt32)) (S' := S1) rfl h.1 ⟨_, rfl, h.2⟩
  · unfold w211 at h
    show ri_A E 2 (211, 0, [some (.ref 1104), some (.int a)], []) S (Qi Q)
    refine A_call (j := 210) (As := [.int a, .int (Int32.ofNat (ri_strl.getD (1104 - 1100) 0))]) (fr' := (211, 6, [some (.ref 1104), some (.int a)], [])) (S' := S) 4 rfl (e := 1) (by omega) (A_imp (wt210 a (Int32.ofNat (ri_strl.getD (1104 - 1100) 0)) h) (fun v S1 hq => ?_))
    obtain ⟨hv, h⟩ := hq
    subst hv
    refine A_ix a (ri_strl.getD (1104 - 1100) 0) (r1 := ((211, 9, [some (.ref 1104), some (.int a)], [.int ((ri_strb.getD (1104 - 1100) []).getD (a).toNatClampNeg 0)]), S1)) 3 rfl h.1 ?_
    have h := h.2
    exact A_ret 4 (m := 211) (v := some (.int (((((ri_strb.getD (1104 - 1100) []).getD (a).toNatClampNeg 0) &&& (255 : Int32))).toUInt32 % 65536).toInt32)) (S' := S1) rfl h.1 ⟨_, rfl, h.2⟩
  · unfold w211 at h
    show ri_A E 2 (211, 0, [some (.ref 1105), some (.int a)], []) S (Qi Q)
    refine A_call (j := 210) (As := [.int a, .int (Int32.ofNat (ri_strl.getD (1105 - 1100) 0))]) (fr' := (211, 6, [some (.ref 1105), some (.int a)], [])) (S' := S) 4 rfl (e := 1) (by omega) (A_imp (wt210 a (Int32.ofNat (ri_strl.getD (1105 - 1100) 0)) h) (fun v S1 hq => ?_))
    obtain ⟨hv, h⟩ := hq
    subst hv
    refine A_ix a (ri_strl.getD (1105 - 1100) 0) (r1 := ((211, 9, [some (.ref 1105), some (.int a)], [.int ((ri_strb.getD (1105 - 1100) []).getD (a).toNatClampNeg 0)]), S1)) 3 rfl h.1 ?_
    have h := h.2
    exact A_ret 4 (m := 211) (v := some (.int (((((ri_strb.getD (1105 - 1100) []).getD (a).toNatClampNeg 0) &&& (255 : Int32))).toUInt32 % 65536).toInt32)) (S' := S1) rfl h.1 ⟨_, rfl, h.2⟩
  · unfold w211 at h
    show ri_A E 2 (211, 0, [some (.ref 1106), some (.int a)], []) S (Qi Q)
    refine A_call (j := 210) (As := [.int a, .int (Int32.ofNat (ri_strl.getD (1106 - 1100) 0))]) (fr' := (211, 6, [some (.ref 1106), some (.int a)], [])) (S' := S) 4 rfl (e := 1) (by omega) (A_imp (wt210 a (Int32.ofNat (ri_strl.getD (1106 - 1100) 0)) h) (fun v S1 hq => ?_))
    obtain ⟨hv, h⟩ := hq
    subst hv
    refine A_ix a (ri_strl.getD (1106 - 1100) 0) (r1 := ((211, 9, [some (.ref 1106), some (.int a)], [.int ((ri_strb.getD (1106 - 1100) []).getD (a).toNatClampNeg 0)]), S1)) 3 rfl h.1 ?_
    have h := h.2
    exact A_ret 4 (m := 211) (v := some (.int (((((ri_strb.getD (1106 - 1100) []).getD (a).toNatClampNeg 0) &&& (255 : Int32))).toUInt32 % 65536).toInt32)) (S' := S1) rfl h.1 ⟨_, rfl, h.2⟩
  · unfold w211 at h
    show ri_A E 2 (211, 0, [some (.ref 1107), some (.int a)], []) S (Qi Q)
    refine A_call (j := 210) (As := [.int a, .int (Int32.ofNat (ri_strl.getD (1107 - 1100) 0))]) (fr' := (211, 6, [some (.ref 1107), some (.int a)], [])) (S' := S) 4 rfl (e := 1) (by omega) (A_imp (wt210 a (Int32.ofNat (ri_strl.getD (1107 - 1100) 0)) h) (fun v S1 hq => ?_))
    obtain ⟨hv, h⟩ := hq
    subst hv
    refine A_ix a (ri_strl.getD (1107 - 1100) 0) (r1 := ((211, 9, [some (.ref 1107), some (.int a)], [.int ((ri_strb.getD (1107 - 1100) []).getD (a).toNatClampNeg 0)]), S1)) 3 rfl h.1 ?_
    have h := h.2
    exact A_ret 4 (m := 211) (v := some (.int (((((ri_strb.getD (1107 - 1100) []).getD (a).toNatClampNeg 0) &&& (255 : Int32))).toUInt32 % 65536).toInt32)) (S' := S1) rfl h.1 ⟨_, rfl, h.2⟩
  · unfold w211 at h
    show ri_A E 2 (211, 0, [some (.ref 1108), some (.int a)], []) S (Qi Q)
    refine A_call (j := 210) (As := [.int a, .int (Int32.ofNat (ri_strl.getD (1108 - 1100) 0))]) (fr' := (211, 6, [some (.ref 1108), some (.int a)], [])) (S' := S) 4 rfl (e := 1) (by omega) (A_imp (wt210 a (Int32.ofNat (ri_strl.getD (1108 - 1100) 0)) h) (fun v S1 hq => ?_))
    obtain ⟨hv, h⟩ := hq
    subst hv
    refine A_ix a (ri_strl.getD (1108 - 1100) 0) (r1 := ((211, 9, [some (.ref 1108), some (.int a)], [.int ((ri_strb.getD (1108 - 1100) []).getD (a).toNatClampNeg 0)]), S1)) 3 rfl h.1 ?_
    have h := h.2
    exact A_ret 4 (m := 211) (v := some (.int (((((ri_strb.getD (1108 - 1100) []).getD (a).toNatClampNeg 0) &&& (255 : Int32))).toUInt32 % 65536).toInt32)) (S' := S1) rfl h.1 ⟨_, rfl, h.2⟩
  · unfold w211 at h
    show ri_A E 2 (211, 0, [some (.ref 1109), some (.int a)], []) S (Qi Q)
    refine A_call (j := 210) (As := [.int a, .int (Int32.ofNat (ri_strl.getD (1109 - 1100) 0))]) (fr' := (211, 6, [some (.ref 1109), some (.int a)], [])) (S' := S) 4 rfl (e := 1) (by omega) (A_imp (wt210 a (Int32.ofNat (ri_strl.getD (1109 - 1100) 0)) h) (fun v S1 hq => ?_))
    obtain ⟨hv, h⟩ := hq
    subst hv
    refine A_ix a (ri_strl.getD (1109 - 1100) 0) (r1 := ((211, 9, [some (.ref 1109), some (.int a)], [.int ((ri_strb.getD (1109 - 1100) []).getD (a).toNatClampNeg 0)]), S1)) 3 rfl h.1 ?_
    have h := h.2
    exact A_ret 4 (m := 211) (v := some (.int (((((ri_strb.getD (1109 - 1100) []).getD (a).toNatClampNeg 0) &&& (255 : Int32))).toUInt32 % 65536).toInt32)) (S' := S1) rfl h.1 ⟨_, rfl, h.2⟩
  · unfold w211 at h
    show ri_A E 2 (211, 0, [some (.ref 1110), some (.int a)], []) S (Qi Q)
    refine A_call (j := 210) (As := [.int a, .int (Int32.ofNat (ri_strl.getD (1110 - 1100) 0))]) (fr' := (211, 6, [some (.ref 1110), some (.int a)], [])) (S' := S) 4 rfl (e := 1) (by omega) (A_imp (wt210 a (Int32.ofNat (ri_strl.getD (1110 - 1100) 0)) h) (fun v S1 hq => ?_))
    obtain ⟨hv, h⟩ := hq
    subst hv
    refine A_ix a (ri_strl.getD (1110 - 1100) 0) (r1 := ((211, 9, [some (.ref 1110), some (.int a)], [.int ((ri_strb.getD (1110 - 1100) []).getD (a).toNatClampNeg 0)]), S1)) 3 rfl h.1 ?_
    have h := h.2
    exact A_ret 4 (m := 211) (v := some (.int (((((ri_strb.getD (1110 - 1100) []).getD (a).toNatClampNeg 0) &&& (255 : Int32))).toUInt32 % 65536).toInt32)) (S' := S1) rfl h.1 ⟨_, rfl, h.2⟩
  · unfold w211 at h
    show ri_A E 2 (211, 0, [some (.ref 1111), some (.int a)], []) S (Qi Q)
    refine A_call (j := 210) (As := [.int a, .int (Int32.ofNat (ri_strl.getD (1111 - 1100) 0))]) (fr' := (211, 6, [some (.ref 1111), some (.int a)], [])) (S' := S) 4 rfl (e := 1) (by omega) (A_imp (wt210 a (Int32.ofNat (ri_strl.getD (1111 - 1100) 0)) h) (fun v S1 hq => ?_))
    obtain ⟨hv, h⟩ := hq
    subst hv
    refine A_ix a (ri_strl.getD (1111 - 1100) 0) (r1 := ((211, 9, [some (.ref 1111), some (.int a)], [.int ((ri_strb.getD (1111 - 1100) []).getD (a).toNatClampNeg 0)]), S1)) 3 rfl h.1 ?_
    have h := h.2
    exact A_ret 4 (m := 211) (v := some (.int (((((ri_strb.getD (1111 - 1100) []).getD (a).toNatClampNeg 0) &&& (255 : Int32))).toUInt32 % 65536).toInt32)) (S' := S1) rfl h.1 ⟨_, rfl, h.2⟩
  · unfold w211 at h
    show ri_A E 2 (211, 0, [some (.ref 1112), some (.int a)], []) S (Qi Q)
    refine A_call (j := 210) (As := [.int a, .int (Int32.ofNat (ri_strl.getD (1112 - 1100) 0))]) (fr' := (211, 6, [some (.ref 1112), some (.int a)], [])) (S' := S) 4 rfl (e := 1) (by omega) (A_imp (wt210 a (Int32.ofNat (ri_strl.getD (1112 - 1100) 0)) h) (fun v S1 hq => ?_))
    obtain ⟨hv, h⟩ := hq
    subst hv
    refine A_ix a (ri_strl.getD (1112 - 1100) 0) (r1 := ((211, 9, [some (.ref 1112), some (.int a)], [.int ((ri_strb.getD (1112 - 1100) []).getD (a).toNatClampNeg 0)]), S1)) 3 rfl h.1 ?_
    have h := h.2
    exact A_ret 4 (m := 211) (v := some (.int (((((ri_strb.getD (1112 - 1100) []).getD (a).toNatClampNeg 0) &&& (255 : Int32))).toUInt32 % 65536).toInt32)) (S' := S1) rfl h.1 ⟨_, rfl, h.2⟩
/-! J0_charAt_5068e, depth 3 -/
def w207 (t : Nat) (a : Int32) (S : ri_H) (Q : Int32 → ri_H → Prop) : Prop := w209 t  S (fun (r2 : Int32) (S1 : ri_H) => ((r2 = 0 → False) ∧ (¬ (r2 = 0) → w211 (t + 100) a S1 (fun (r4 : Int32) (S3 : ri_H) => (ri_rok 207 (some (.int r4)) = true ∧ Q r4 S3)))))
set_option maxRecDepth 10000 in
set_option maxHeartbeats 1000000 in
theorem wt207 {E : ri_E} (t : Nat) (hw : t = 1000 ∨ t = 1001 ∨ t = 1002 ∨ t = 1003 ∨ t = 1004 ∨ t = 1005 ∨ t = 1006 ∨ t = 1007 ∨ t = 1008 ∨ t = 1009 ∨ t = 1010 ∨ t = 1011 ∨ t = 1012) (a : Int32) {S : ri_H} {Q : Int32 → ri_H → Prop} (h : w207 t a S Q) : ri_A E 3 (ri_en 207 [.ref t, .int a]) S (Qi Q) := by
  rcases hw with rfl | rfl | rfl | rfl | rfl | rfl | rfl | rfl | rfl | rfl | rfl | rfl | rfl
  · unfold w207 at h
    show ri_A E 3 (207, 0, [some (.ref 1000), some (.int a)], []) S (Qi Q)
    refine A_call (j := 209) (As := [.ref 1000]) (fr' := (207, 4, [some (.ref 1000), some (.int a)], [])) (S' := S) 2 rfl (e := 0) (by omega) (A_imp (wt209 1000 (by decide)  h) (fun v S1 hq => ?_))
    obtain ⟨r2, hv, h⟩ := hq
    subst hv
    refine A_br (r2 = 0) (r1 := ((207, 16, [some (.ref 1000), some (.int a)], []), S1)) (r2 := ((207, 7, [some (.ref 1000), some (.int a)], []), S1)) 1 rfl (fun c => ?_) (fun c => ?_)
    · have h := h.1 c
      exact h.elim
    · have h := h.2 c
      refine A_call (j := 211) (As := [.ref 1100, .int a]) (fr' := (207, 15, [some (.ref 1000), some (.int a)], [])) (S' := S1) 4 rfl (e := 2) (by omega) (A_imp (wt211 1100 (by decide) a h) (fun v S3 hq => ?_))
      obtain ⟨r4, hv, h⟩ := hq
      subst hv
      exact A_ret 1 (m := 207) (v := some (.int r4)) (S' := S3) rfl h.1 ⟨_, rfl, h.2⟩
  · unfold w207 at h
    show ri_A E 3 (207, 0, [some (.ref 1001), some (.int a)], []) S (Qi Q)
    refine A_call (j := 209) (As := [.ref 1001]) (fr' := (207, 4, [some (.ref 1001), some (.int a)], [])) (S' := S) 2 rfl (e := 0) (by omega) (A_imp (wt209 1001 (by decide)  h) (fun v S1 hq => ?_))
    obtain ⟨r2, hv, h⟩ := hq
    subst hv
    refine A_br (r2 = 0) (r1 := ((207, 16, [some (.ref 1001), some (.int a)], []), S1)) (r2 := ((207, 7, [some (.ref 1001), some (.int a)], []), S1)) 1 rfl (fun c => ?_) (fun c => ?_)
    · have h := h.1 c
      exact h.elim
    · have h := h.2 c
      refine A_call (j := 211) (As := [.ref 1101, .int a]) (fr' := (207, 15, [some (.ref 1001), some (.int a)], [])) (S' := S1) 4 rfl (e := 2) (by omega) (A_imp (wt211 1101 (by decide) a h) (fun v S3 hq => ?_))
      obtain ⟨r4, hv, h⟩ := hq
      subst hv
      exact A_ret 1 (m := 207) (v := some (.int r4)) (S' := S3) rfl h.1 ⟨_, rfl, h.2⟩
  · unfold w207 at h
    show ri_A E 3 (207, 0, [some (.ref 1002), some (.int a)], []) S (Qi Q)
    refine A_call (j := 209) (As := [.ref 1002]) (fr' := (207, 4, [some (.ref 1002), some (.int a)], [])) (S' := S) 2 rfl (e := 0) (by omega) (A_imp (wt209 1002 (by decide)  h) (fun v S1 hq => ?_))
    obtain ⟨r2, hv, h⟩ := hq
    subst hv
    refine A_br (r2 = 0) (r1 := ((207, 16, [some (.ref 1002), some (.int a)], []), S1)) (r2 := ((207, 7, [some (.ref 1002), some (.int a)], []), S1)) 1 rfl (fun c => ?_) (fun c => ?_)
    · have h := h.1 c
      exact h.elim
    · have h := h.2 c
      refine A_call (j := 211) (As := [.ref 1102, .int a]) (fr' := (207, 15, [some (.ref 1002), some (.int a)], [])) (S' := S1) 4 rfl (e := 2) (by omega) (A_imp (wt211 1102 (by decide) a h) (fun v S3 hq => ?_))
      obtain ⟨r4, hv, h⟩ := hq
      subst hv
      exact A_ret 1 (m := 207) (v := some (.int r4)) (S' := S3) rfl h.1 ⟨_, rfl, h.2⟩
  · unfold w207 at h
    show ri_A E 3 (207, 0, [some (.ref 1003), some (.int a)], []) S (Qi Q)
    refine A_call (j := 209) (As := [.ref 1003]) (fr' := (207, 4, [some (.ref 1003), some (.int a)], [])) (S' := S) 2 rfl (e := 0) (by omega) (A_imp (wt209 1003 (by decide)  h) (fun v S1 hq => ?_))
    obtain ⟨r2, hv, h⟩ := hq
    subst hv
    refine A_br (r2 = 0) (r1 := ((207, 16, [some (.ref 1003), some (.int a)], []), S1)) (r2 := ((207, 7, [some (.ref 1003), some (.int a)], []), S1)) 1 rfl (fun c => ?_) (fun c => ?_)
    · have h := h.1 c
      exact h.elim
    · have h := h.2 c
      refine A_call (j := 211) (As := [.ref 1103, .int a]) (fr' := (207, 15, [some (.ref 1003), some (.int a)], [])) (S' := S1) 4 rfl (e := 2) (by omega) (A_imp (wt211 1103 (by decide) a h) (fun v S3 hq => ?_))
      obtain ⟨r4, hv, h⟩ := hq
      subst hv
      exact A_ret 1 (m := 207) (v := some (.int r4)) (S' := S3) rfl h.1 ⟨_, rfl, h.2⟩
  · unfold w207 at h
    show ri_A E 3 (207, 0, [some (.ref 1004), some (.int a)], []) S (Qi Q)
    refine A_call (j := 209) (As := [.ref 1004]) (fr' := (207, 4, [some (.ref 1004), some (.int a)], [])) (S' := S) 2 rfl (e := 0) (by omega) (A_imp (wt209 1004 (by decide)  h) (fun v S1 hq => ?_))
    obtain ⟨r2, hv, h⟩ := hq
    subst hv
    refine A_br (r2 = 0) (r1 := ((207, 16, [some (.ref 1004), some (.int a)], []), S1)) (r2 := ((207, 7, [some (.ref 1004), some (.int a)], []), S1)) 1 rfl (fun c => ?_) (fun c => ?_)
    · have h := h.1 c
      exact h.elim
    · have h := h.2 c
      refine A_call (j := 211) (As := [.ref 1104, .int a]) (fr' := (207, 15, [some (.ref 1004), some (.int a)], [])) (S' := S1) 4 rfl (e := 2) (by omega) (A_imp (wt211 1104 (by decide) a h) (fun v S3 hq => ?_))
      obtain ⟨r4, hv, h⟩ := hq
      subst hv
      exact A_ret 1 (m := 207) (v := some (.int r4)) (S' := S3) rfl h.1 ⟨_, rfl, h.2⟩
  · unfold w207 at h
    show ri_A E 3 (207, 0, [some (.ref 1005), some (.int a)], []) S (Qi Q)
    refine A_call (j := 209) (As := [.ref 1005]) (fr' := (207, 4, [some (.ref 1005), some (.int a)], [])) (S' := S) 2 rfl (e := 0) (by omega) (A_imp (wt209 1005 (by decide)  h) (fun v S1 hq => ?_))
    obtain ⟨r2, hv, h⟩ := hq
    subst hv
    refine A_br (r2 = 0) (r1 := ((207, 16, [some (.ref 1005), some (.int a)], []), S1)) (r2 := ((207, 7, [some (.ref 1005), some (.int a)], []), S1)) 1 rfl (fun c => ?_) (fun c => ?_)
    · have h := h.1 c
      exact h.elim
    · have h := h.2 c
      refine A_call (j := 211) (As := [.ref 1105, .int a]) (fr' := (207, 15, [some (.ref 1005), some (.int a)], [])) (S' := S1) 4 rfl (e := 2) (by omega) (A_imp (wt211 1105 (by decide) a h) (fun v S3 hq => ?_))
      obtain ⟨r4, hv, h⟩ := hq
      subst hv
      exact A_ret 1 (m := 207) (v := some (.int r4)) (S' := S3) rfl h.1 ⟨_, rfl, h.2⟩
  · unfold w207 at h
    show ri_A E 3 (207, 0, [some (.ref 1006), some (.int a)], []) S (Qi Q)
    refine A_call (j := 209) (As := [.ref 1006]) (fr' := (207, 4, [some (.ref 1006), some (.int a)], [])) (S' := S) 2 rfl (e := 0) (by omega) (A_imp (wt209 1006 (by decide)  h) (fun v S1 hq => ?_))
    obtain ⟨r2, hv, h⟩ := hq
    subst hv
    refine A_br (r2 = 0) (r1 := ((207, 16, [some (.ref 1006), some (.int a)], []), S1)) (r2 := ((207, 7, [some (.ref 1006), some (.int a)], []), S1)) 1 rfl (fun c => ?_) (fun c => ?_)
    · have h := h.1 c
      exact h.elim
    · have h := h.2 c
      refine A_call (j := 211) (As := [.ref 1106, .int a]) (fr' := (207, 15, [some (.ref 1006), some (.int a)], [])) (S' := S1) 4 rfl (e := 2) (by omega) (A_imp (wt211 1106 (by decide) a h) (fun v S3 hq => ?_))
      obtain ⟨r4, hv, h⟩ := hq
      subst hv
      exact A_ret 1 (m := 207) (v := some (.int r4)) (S' := S3) rfl h.1 ⟨_, rfl, h.2⟩
  · unfold w207 at h
    show ri_A E 3 (207, 0, [some (.ref 1007), some (.int a)], []) S (Qi Q)
    refine A_call (j := 209) (As := [.ref 1007]) (fr' := (207, 4, [some (.ref 1007), some (.int a)], [])) (S' := S) 2 rfl (e := 0) (by omega) (A_imp (wt209 1007 (by decide)  h) (fun v S1 hq => ?_))
    obtain ⟨r2, hv, h⟩ := hq
    subst hv
    refine A_br (r2 = 0) (r1 := ((207, 16, [some (.ref 1007), some (.int a)], []), S1)) (r2 := ((207, 7, [some (.ref 1007), some (.int a)], []), S1)) 1 rfl (fun c => ?_) (fun c => ?_)
    · have h := h.1 c
      exact h.elim
    · have h := h.2 c
      refine A_call (j := 211) (As := [.ref 1107, .int a]) (fr' := (207, 15, [some (.ref 1007), some (.int a)], [])) (S' := S1) 4 rfl (e := 2) (by omega) (A_imp (wt211 1107 (by decide) a h) (fun v S3 hq => ?_))
      obtain ⟨r4, hv, h⟩ := hq
      subst hv
      exact A_ret 1 (m := 207) (v := some (.int r4)) (S' := S3) rfl h.1 ⟨_, rfl, h.2⟩
  · unfold w207 at h
    show ri_A E 3 (207, 0, [some (.ref 1008), some (.int a)], []) S (Qi Q)
    refine A_call (j := 209) (As := [.ref 1008]) (fr' := (207, 4, [some (.ref 1008), some (.int a)], [])) (S' := S) 2 rfl (e := 0) (by omega) (A_imp (wt209 1008 (by decide)  h) (fun v S1 hq => ?_))
    obtain ⟨r2, hv, h⟩ := hq
    subst hv
    refine A_br (r2 = 0) (r1 := ((207, 16, [some (.ref 1008), some (.int a)], []), S1)) (r2 := ((207, 7, [some (.ref 1008), some (.int a)], []), S1)) 1 rfl (fun c => ?_) (fun c => ?_)
    · have h := h.1 c
      exact h.elim
    · have h := h.2 c
      refine A_call (j := 211) (As := [.ref 1108, .int a]) (fr' := (207, 15, [some (.ref 1008), some (.int a)], [])) (S' := S1) 4 rfl (e := 2) (by omega) (A_imp (wt211 1108 (by decide) a h) (fun v S3 hq => ?_))
      obtain ⟨r4, hv, h⟩ := hq
      subst hv
      exact A_ret 1 (m := 207) (v := some (.int r4)) (S' := S3) rfl h.1 ⟨_, rfl, h.2⟩
  · unfold w207 at h
    show ri_A E 3 (207, 0, [some (.ref 1009), some (.int a)], []) S (Qi Q)
    refine A_call (j := 209) (As := [.ref 1009]) (fr' := (207, 4, [some (.ref 1009), some (.int a)], [])) (S' := S) 2 rfl (e := 0) (by omega) (A_imp (wt209 1009 (by decide)  h) (fun v S1 hq => ?_))
    obtain ⟨r2, hv, h⟩ := hq
    subst hv
    refine A_br (r2 = 0) (r1 := ((207, 16, [some (.ref 1009), some (.int a)], []), S1)) (r2 := ((207, 7, [some (.ref 1009), some (.int a)], []), S1)) 1 rfl (fun c => ?_) (fun c => ?_)
    · have h := h.1 c
      exact h.elim
    · have h := h.2 c
      refine A_call (j := 211) (As := [.ref 1109, .int a]) (fr' := (207, 15, [some (.ref 1009), some (.int a)], [])) (S' := S1) 4 rfl (e := 2) (by omega) (A_imp (wt211 1109 (by decide) a h) (fun v S3 hq => ?_))
      obtain ⟨r4, hv, h⟩ := hq
      subst hv
      exact A_ret 1 (m := 207) (v := some (.int r4)) (S' := S3) rfl h.1 ⟨_, rfl, h.2⟩
  · unfold w207 at h
    show ri_A E 3 (207, 0, [some (.ref 1010), some (.int a)], []) S (Qi Q)
    refine A_call (j := 209) (As := [.ref 1010]) (fr' := (207, 4, [some (.ref 1010), some (.int a)], [])) (S' := S) 2 rfl (e := 0) (by omega) (A_imp (wt209 1010 (by decide)  h) (fun v S1 hq => ?_))
    obtain ⟨r2, hv, h⟩ := hq
    subst hv
    refine A_br (r2 = 0) (r1 := ((207, 16, [some (.ref 1010), some (.int a)], []), S1)) (r2 := ((207, 7, [some (.ref 1010), some (.int a)], []), S1)) 1 rfl (fun c => ?_) (fun c => ?_)
    · have h := h.1 c
      exact h.elim
    · have h := h.2 c
      refine A_call (j := 211) (As := [.ref 1110, .int a]) (fr' := (207, 15, [some (.ref 1010), some (.int a)], [])) (S' := S1) 4 rfl (e := 2) (by omega) (A_imp (wt211 1110 (by decide) a h) (fun v S3 hq => ?_))
      obtain ⟨r4, hv, h⟩ := hq
      subst hv
      exact A_ret 1 (m := 207) (v := some (.int r4)) (S' := S3) rfl h.1 ⟨_, rfl, h.2⟩
  · unfold w207 at h
    show ri_A E 3 (207, 0, [some (.ref 1011), some (.int a)], []) S (Qi Q)
    refine A_call (j := 209) (As := [.ref 1011]) (fr' := (207, 4, [some (.ref 1011), some (.int a)], [])) (S' := S) 2 rfl (e := 0) (by omega) (A_imp (wt209 1011 (by decide)  h) (fun v S1 hq => ?_))
    obtain ⟨r2, hv, h⟩ := hq
    subst hv
    refine A_br (r2 = 0) (r1 := ((207, 16, [some (.ref 1011), some (.int a)], []), S1)) (r2 := ((207, 7, [some (.ref 1011), some (.int a)], []), S1)) 1 rfl (fun c => ?_) (fun c => ?_)
    · have h := h.1 c
      exact h.elim
    · have h := h.2 c
      refine A_call (j := 211) (As := [.ref 1111, .int a]) (fr' := (207, 15, [some (.ref 1011), some (.int a)], [])) (S' := S1) 4 rfl (e := 2) (by omega) (A_imp (wt211 1111 (by decide) a h) (fun v S3 hq => ?_))
      obtain ⟨r4, hv, h⟩ := hq
      subst hv
      exact A_ret 1 (m := 207) (v := some (.int r4)) (S' := S3) rfl h.1 ⟨_, rfl, h.2⟩
  · unfold w207 at h
    show ri_A E 3 (207, 0, [some (.ref 1012), some (.int a)], []) S (Qi Q)
    refine A_call (j := 209) (As := [.ref 1012]) (fr' := (207, 4, [some (.ref 1012), some (.int a)], [])) (S' := S) 2 rfl (e := 0) (by omega) (A_imp (wt209 1012 (by decide)  h) (fun v S1 hq => ?_))
    obtain ⟨r2, hv, h⟩ := hq
    subst hv
    refine A_br (r2 = 0) (r1 := ((207, 16, [some (.ref 1012), some (.int a)], []), S1)) (r2 := ((207, 7, [some (.ref 1012), some (.int a)], []), S1)) 1 rfl (fun c => ?_) (fun c => ?_)
    · have h := h.1 c
      exact h.elim
    · have h := h.2 c
      refine A_call (j := 211) (As := [.ref 1112, .int a]) (fr' := (207, 15, [some (.ref 1012), some (.int a)], [])) (S' := S1) 4 rfl (e := 2) (by omega) (A_imp (wt211 1112 (by decide) a h) (fun v S3 hq => ?_))
      obtain ⟨r4, hv, h⟩ := hq
      subst hv
      exact A_ret 1 (m := 207) (v := some (.int r4)) (S' := S3) rfl h.1 ⟨_, rfl, h.2⟩
/-! J0_length_8abf5, depth 1 -/
def w206 (t : Nat)  (S : ri_H) (Q : Int32 → ri_H → Prop) : Prop := w208 t  S (fun (r2 : Int32) (S1 : ri_H) => Q ((Int32.ofNat (ri_strl.getD ((t + 100) - 1100) 0)) >>> (r2 &&& 31)) S1)
set_option maxRecDepth 10000 in
set_option maxHeartbeats 1000000 in
theorem wt206 {E : ri_E} (t : Nat) (hw : t = 1000 ∨ t = 1001 ∨ t = 1002 ∨ t = 1003 ∨ t = 1004 ∨ t = 1005 ∨ t = 1006 ∨ t = 1007 ∨ t = 1008 ∨ t = 1009 ∨ t = 1010 ∨ t = 1011 ∨ t = 1012)  {S : ri_H} {Q : Int32 → ri_H → Prop} (h : w206 t  S Q) : ri_A E 1 (ri_en 206 [.ref t]) S (Qi Q) := by
  rcases hw with rfl | rfl | rfl | rfl | rfl | rfl | rfl | rfl | rfl | rfl | rfl | rfl | rfl
  · unfold w206 at h
    show ri_A E 1 (206, 0, [some (.ref 1000)], []) S (Qi Q)
    refine A_call (j := 208) (As := [.ref 1000]) (fr' := (206, 9, [some (.ref 1000)], [.int (Int32.ofNat (ri_strl.getD (1100 - 1100) 0))])) (S' := S) 5 rfl (e := 0) (by omega) (A_imp (wt208 1000 (by decide)  h) (fun v S1 hq => ?_))
    obtain ⟨r2, hv, h⟩ := hq
    subst hv
    exact A_ret 2 (m := 206) (v := some (.int ((Int32.ofNat (ri_strl.getD (1100 - 1100) 0)) >>> (r2 &&& 31)))) (S' := S1) rfl rfl ⟨_, rfl, h⟩
  · unfold w206 at h
    show ri_A E 1 (206, 0, [some (.ref 1001)], []) S (Qi Q)
    refine A_call (j := 208) (As := [.ref 1001]) (fr' := (206, 9, [some (.ref 1001)], [.int (Int32.ofNat (ri_strl.getD (1101 - 1100) 0))])) (S' := S) 5 rfl (e := 0) (by omega) (A_imp (wt208 1001 (by decide)  h) (fun v S1 hq => ?_))
    obtain ⟨r2, hv, h⟩ := hq
    subst hv
    exact A_ret 2 (m := 206) (v := some (.int ((Int32.ofNat (ri_strl.getD (1101 - 1100) 0)) >>> (r2 &&& 31)))) (S' := S1) rfl rfl ⟨_, rfl, h⟩
  · unfold w206 at h
    show ri_A E 1 (206, 0, [some (.ref 1002)], []) S (Qi Q)
    refine A_call (j := 208) (As := [.ref 1002]) (fr' := (206, 9, [some (.ref 1002)], [.int (Int32.ofNat (ri_strl.getD (1102 - 1100) 0))])) (S' := S) 5 rfl (e := 0) (by omega) (A_imp (wt208 1002 (by decide)  h) (fun v S1 hq => ?_))
    obtain ⟨r2, hv, h⟩ := hq
    subst hv
    exact A_ret 2 (m := 206) (v := some (.int ((Int32.ofNat (ri_strl.getD (1102 - 1100) 0)) >>> (r2 &&& 31)))) (S' := S1) rfl rfl ⟨_, rfl, h⟩
  · unfold w206 at h
    show ri_A E 1 (206, 0, [some (.ref 1003)], []) S (Qi Q)
    refine A_call (j := 208) (As := [.ref 1003]) (fr' := (206, 9, [some (.ref 1003)], [.int (Int32.ofNat (ri_strl.getD (1103 - 1100) 0))])) (S' := S) 5 rfl (e := 0) (by omega) (A_imp (wt208 1003 (by decide)  h) (fun v S1 hq => ?_))
    obtain ⟨r2, hv, h⟩ := hq
    subst hv
    exact A_ret 2 (m := 206) (v := some (.int ((Int32.ofNat (ri_strl.getD (1103 - 1100) 0)) >>> (r2 &&& 31)))) (S' := S1) rfl rfl ⟨_, rfl, h⟩
  · unfold w206 at h
    show ri_A E 1 (206, 0, [some (.ref 1004)], []) S (Qi Q)
    refine A_call (j := 208) (As := [.ref 1004]) (fr' := (206, 9, [some (.ref 1004)], [.int (Int32.ofNat (ri_strl.getD (1104 - 1100) 0))])) (S' := S) 5 rfl (e := 0) (by omega) (A_imp (wt208 1004 (by decide)  h) (fun v S1 hq => ?_))
    obtain ⟨r2, hv, h⟩ := hq
    subst hv
    exact A_ret 2 (m := 206) (v := some (.int ((Int32.ofNat (ri_strl.getD (1104 - 1100) 0)) >>> (r2 &&& 31)))) (S' := S1) rfl rfl ⟨_, rfl, h⟩
  · unfold w206 at h
    show ri_A E 1 (206, 0, [some (.ref 1005)], []) S (Qi Q)
    refine A_call (j := 208) (As := [.ref 1005]) (fr' := (206, 9, [some (.ref 1005)], [.int (Int32.ofNat (ri_strl.getD (1105 - 1100) 0))])) (S' := S) 5 rfl (e := 0) (by omega) (A_imp (wt208 1005 (by decide)  h) (fun v S1 hq => ?_))
    obtain ⟨r2, hv, h⟩ := hq
    subst hv
    exact A_ret 2 (m := 206) (v := some (.int ((Int32.ofNat (ri_strl.getD (1105 - 1100) 0)) >>> (r2 &&& 31)))) (S' := S1) rfl rfl ⟨_, rfl, h⟩
  · unfold w206 at h
    show ri_A E 1 (206, 0, [some (.ref 1006)], []) S (Qi Q)
    refine A_call (j := 208) (As := [.ref 1006]) (fr' := (206, 9, [some (.ref 1006)], [.int (Int32.ofNat (ri_strl.getD (1106 - 1100) 0))])) (S' := S) 5 rfl (e := 0) (by omega) (A_imp (wt208 1006 (by decide)  h) (fun v S1 hq => ?_))
    obtain ⟨r2, hv, h⟩ := hq
    subst hv
    exact A_ret 2 (m := 206) (v := some (.int ((Int32.ofNat (ri_strl.getD (1106 - 1100) 0)) >>> (r2 &&& 31)))) (S' := S1) rfl rfl ⟨_, rfl, h⟩
  · unfold w206 at h
    show ri_A E 1 (206, 0, [some (.ref 1007)], []) S (Qi Q)
    refine A_call (j := 208) (As := [.ref 1007]) (fr' := (206, 9, [some (.ref 1007)], [.int (Int32.ofNat (ri_strl.getD (1107 - 1100) 0))])) (S' := S) 5 rfl (e := 0) (by omega) (A_imp (wt208 1007 (by decide)  h) (fun v S1 hq => ?_))
    obtain ⟨r2, hv, h⟩ := hq
    subst hv
    exact A_ret 2 (m := 206) (v := some (.int ((Int32.ofNat (ri_strl.getD (1107 - 1100) 0)) >>> (r2 &&& 31)))) (S' := S1) rfl rfl ⟨_, rfl, h⟩
  · unfold w206 at h
    show ri_A E 1 (206, 0, [some (.ref 1008)], []) S (Qi Q)
    refine A_call (j := 208) (As := [.ref 1008]) (fr' := (206, 9, [some (.ref 1008)], [.int (Int32.ofNat (ri_strl.getD (1108 - 1100) 0))])) (S' := S) 5 rfl (e := 0) (by omega) (A_imp (wt208 1008 (by decide)  h) (fun v S1 hq => ?_))
    obtain ⟨r2, hv, h⟩ := hq
    subst hv
    exact A_ret 2 (m := 206) (v := some (.int ((Int32.ofNat (ri_strl.getD (1108 - 1100) 0)) >>> (r2 &&& 31)))) (S' := S1) rfl rfl ⟨_, rfl, h⟩
  · unfold w206 at h
    show ri_A E 1 (206, 0, [some (.ref 1009)], []) S (Qi Q)
    refine A_call (j := 208) (As := [.ref 1009]) (fr' := (206, 9, [some (.ref 1009)], [.int (Int32.ofNat (ri_strl.getD (1109 - 1100) 0))])) (S' := S) 5 rfl (e := 0) (by omega) (A_imp (wt208 1009 (by decide)  h) (fun v S1 hq => ?_))
    obtain ⟨r2, hv, h⟩ := hq
    subst hv
    exact A_ret 2 (m := 206) (v := some (.int ((Int32.ofNat (ri_strl.getD (1109 - 1100) 0)) >>> (r2 &&& 31)))) (S' := S1) rfl rfl ⟨_, rfl, h⟩
  · unfold w206 at h
    show ri_A E 1 (206, 0, [some (.ref 1010)], []) S (Qi Q)
    refine A_call (j := 208) (As := [.ref 1010]) (fr' := (206, 9, [some (.ref 1010)], [.int (Int32.ofNat (ri_strl.getD (1110 - 1100) 0))])) (S' := S) 5 rfl (e := 0) (by omega) (A_imp (wt208 1010 (by decide)  h) (fun v S1 hq => ?_))
    obtain ⟨r2, hv, h⟩ := hq
    subst hv
    exact A_ret 2 (m := 206) (v := some (.int ((Int32.ofNat (ri_strl.getD (1110 - 1100) 0)) >>> (r2 &&& 31)))) (S' := S1) rfl rfl ⟨_, rfl, h⟩
  · unfold w206 at h
    show ri_A E 1 (206, 0, [some (.ref 1011)], []) S (Qi Q)
    refine A_call (j := 208) (As := [.ref 1011]) (fr' := (206, 9, [some (.ref 1011)], [.int (Int32.ofNat (ri_strl.getD (1111 - 1100) 0))])) (S' := S) 5 rfl (e := 0) (by omega) (A_imp (wt208 1011 (by decide)  h) (fun v S1 hq => ?_))
    obtain ⟨r2, hv, h⟩ := hq
    subst hv
    exact A_ret 2 (m := 206) (v := some (.int ((Int32.ofNat (ri_strl.getD (1111 - 1100) 0)) >>> (r2 &&& 31)))) (S' := S1) rfl rfl ⟨_, rfl, h⟩
  · unfold w206 at h
    show ri_A E 1 (206, 0, [some (.ref 1012)], []) S (Qi Q)
    refine A_call (j := 208) (As := [.ref 1012]) (fr' := (206, 9, [some (.ref 1012)], [.int (Int32.ofNat (ri_strl.getD (1112 - 1100) 0))])) (S' := S) 5 rfl (e := 0) (by omega) (A_imp (wt208 1012 (by decide)  h) (fun v S1 hq => ?_))
    obtain ⟨r2, hv, h⟩ := hq
    subst hv
    exact A_ret 2 (m := 206) (v := some (.int ((Int32.ofNat (ri_strl.getD (1112 - 1100) 0)) >>> (r2 &&& 31)))) (S' := S1) rfl rfl ⟨_, rfl, h⟩
/-! X0_take, depth 1 -/
def w0 (a : Int32) (S : ri_H) (Q : Int32 → ri_H → Prop) : Prop := (((S.1 5 4) < (160 : Int32) → Q ((S.1 5 4) + (1 : Int32)) (ri_wi (ri_wr S 6 (pu 160 (S.1 6) (S.1 5 4) a)) 5 4 ((S.1 5 4) + (1 : Int32)))) ∧ (¬ (S.1 5 4) < (160 : Int32) → Q (-4 : Int32) S))
set_option maxRecDepth 10000 in
set_option maxHeartbeats 1000000 in
theorem wt0 {E : ri_E} (a : Int32) {S : ri_H} {Q : Int32 → ri_H → Prop} (h : w0  a S Q) : ri_A E 1 (ri_en 0 [.ref 5, .int a]) S (Qi Q) := by
  unfold w0 at h
  show ri_A E 1 (0, 0, [some (.ref 5), some (.int a)], []) S (Qi Q)
  refine A_br ((S.1 5 4) < (160 : Int32)) (r1 := ((0, 13, [some (.ref 5), some (.int a)], []), S)) (r2 := ((0, 10, [some (.ref 5), some (.int a)], []), S)) 4 rfl (fun c => ?_) (fun c => ?_)
  · have h := h.1 c
    refine A_call (j := 99) (As := [.ref 6, .int (S.1 5 4), .int a]) (fr' := (0, 25, [some (.ref 5), some (.int a)], [])) (S' := S) 6 rfl (e := 0) (by omega) (sp_putItem 6 160 _ _ ⟨by decide, by decide, rfl⟩ (by decide) ?_)
    exact A_ret 9 (m := 0) (v := some (.int ((S.1 5 4) + (1 : Int32)))) (S' := (ri_wi (ri_wr S 6 (pu 160 (S.1 6) (S.1 5 4) a)) 5 4 ((S.1 5 4) + (1 : Int32)))) rfl rfl ⟨_, rfl, h⟩
  · have h := h.2 c
    exact A_ret 2 (m := 0) (v := some (.int (-4 : Int32))) (S' := S) rfl rfl ⟨_, rfl, h⟩
/-! X0_isBlank, depth 0 -/
def w9_b12 (Q : Int32 → ri_H → Prop)  (S : ri_H) : Prop := Q (1 : Int32) S
set_option maxRecDepth 10000 in
set_option maxHeartbeats 1000000 in
theorem wt9_b12 {E : ri_E} {Q : Int32 → ri_H → Prop}  (S : ri_H) (h : w9_b12   Q  S) : ri_A E 0 (9, 12, [none], []) S (Qi Q) := by
  unfold w9_b12 at h
  exact A_ret 3 (m := 9) (v := some (.int (1 : Int32))) (S' := S) rfl rfl ⟨_, rfl, h⟩
def w9 (a : Int32) (S : ri_H) (Q : Int32 → ri_H → Prop) : Prop := ((a = (32 : Int32) → w9_b12   Q  S) ∧ (¬ (a = (32 : Int32)) → ((¬ a = (10 : Int32) → Q (0 : Int32) S) ∧ (¬ (¬ a = (10 : Int32)) → w9_b12   Q  S))))
set_option maxRecDepth 10000 in
set_option maxHeartbeats 1000000 in
theorem wt9 {E : ri_E} (a : Int32) {S : ri_H} {Q : Int32 → ri_H → Prop} (h : w9  a S Q) : ri_A E 0 (ri_en 9 [.int a]) S (Qi Q) := by
  unfold w9 at h
  show ri_A E 0 (9, 0, [some (.int a)], []) S (Qi Q)
  refine A_br (a = (32 : Int32)) (r1 := ((9, 12, [some (.int a)], []), S)) (r2 := ((9, 6, [some (.int a)], []), S)) 3 rfl (fun c => ?_) (fun c => ?_)
  · have h := h.1 c
    refine ri_A.less (m := 9) (pc := 12) (L := [some (.int a)]) (L' := [none]) (st := []) trivial ?_
    exact wt9_b12   _ h
  · have h := h.2 c
    refine A_br (¬ a = (10 : Int32)) (r1 := ((9, 16, [some (.int a)], []), S)) (r2 := ((9, 12, [some (.int a)], []), S)) 3 rfl (fun c => ?_) (fun c => ?_)
    · have h := h.1 c
      exact A_ret 2 (m := 9) (v := some (.int (0 : Int32))) (S' := S) rfl rfl ⟨_, rfl, h⟩
    · have h := h.2 c
      refine ri_A.less (m := 9) (pc := 12) (L := [some (.int a)]) (L' := [none]) (st := []) trivial ?_
      exact wt9_b12   _ h
/-! X0_isLetter, depth 0 -/
def w10 (a : Int32) (S : ri_H) (Q : Int32 → ri_H → Prop) : Prop := ((a < (97 : Int32) → Q (0 : Int32) S) ∧ (¬ (a < (97 : Int32)) → (((122 : Int32) < a → Q (0 : Int32) S) ∧ (¬ (122 : Int32) < a → Q (1 : Int32) S))))
set_option maxRecDepth 10000 in
set_option maxHeartbeats 1000000 in
theorem wt10 {E : ri_E} (a : Int32) {S : ri_H} {Q : Int32 → ri_H → Prop} (h : w10  a S Q) : ri_A E 0 (ri_en 10 [.int a]) S (Qi Q) := by
  unfold w10 at h
  show ri_A E 0 (10, 0, [some (.int a)], []) S (Qi Q)
  refine A_br (a < (97 : Int32)) (r1 := ((10, 16, [some (.int a)], []), S)) (r2 := ((10, 6, [some (.int a)], []), S)) 3 rfl (fun c => ?_) (fun c => ?_)
  · have h := h.1 c
    exact A_ret 2 (m := 10) (v := some (.int (0 : Int32))) (S' := S) rfl rfl ⟨_, rfl, h⟩
  · have h := h.2 c
    refine A_br ((122 : Int32) < a) (r1 := ((10, 16, [some (.int a)], []), S)) (r2 := ((10, 12, [some (.int a)], []), S)) 3 rfl (fun c => ?_) (fun c => ?_)
    · have h := h.1 c
      exact A_ret 2 (m := 10) (v := some (.int (0 : Int32))) (S' := S) rfl rfl ⟨_, rfl, h⟩
    · have h := h.2 c
      exact A_ret 3 (m := 10) (v := some (.int (1 : Int32))) (S' := S) rfl rfl ⟨_, rfl, h⟩
/-! X0_isDigit, depth 0 -/
def w11 (a : Int32) (S : ri_H) (Q : Int32 → ri_H → Prop) : Prop := ((a < (48 : Int32) → Q (0 : Int32) S) ∧ (¬ (a < (48 : Int32)) → (((57 : Int32) < a → Q (0 : Int32) S) ∧ (¬ (57 : Int32) < a → Q (1 : Int32) S))))
set_option maxRecDepth 10000 in
set_option maxHeartbeats 1000000 in
theorem wt11 {E : ri_E} (a : Int32) {S : ri_H} {Q : Int32 → ri_H → Prop} (h : w11  a S Q) : ri_A E 0 (ri_en 11 [.int a]) S (Qi Q) := by
  unfold w11 at h
  show ri_A E 0 (11, 0, [some (.int a)], []) S (Qi Q)
  refine A_br (a < (48 : Int32)) (r1 := ((11, 16, [some (.int a)], []), S)) (r2 := ((11, 6, [some (.int a)], []), S)) 3 rfl (fun c => ?_) (fun c => ?_)
  · have h := h.1 c
    exact A_ret 2 (m := 11) (v := some (.int (0 : Int32))) (S' := S) rfl rfl ⟨_, rfl, h⟩
  · have h := h.2 c
    refine A_br ((57 : Int32) < a) (r1 := ((11, 16, [some (.int a)], []), S)) (r2 := ((11, 12, [some (.int a)], []), S)) 3 rfl (fun c => ?_) (fun c => ?_)
    · have h := h.1 c
      exact A_ret 2 (m := 11) (v := some (.int (0 : Int32))) (S' := S) rfl rfl ⟨_, rfl, h⟩
    · have h := h.2 c
      exact A_ret 3 (m := 11) (v := some (.int (1 : Int32))) (S' := S) rfl rfl ⟨_, rfl, h⟩
/-! X0_tokenEnd, depth 1 -/
def w4_b63 (K13 : Int32 → Int32 → ri_H → Prop) (Q : Int32 → ri_H → Prop) (x2 : Int32) (x3 : Int32) (S : ri_H) : Prop := K13 x2 (x3 + (1 : Int32)) S
set_option maxRecDepth 10000 in
set_option maxHeartbeats 1000000 in
theorem wt4_b63 {E : ri_E} {K13 : Int32 → Int32 → ri_H → Prop} {Q : Int32 → ri_H → Prop} (hK13 : ∀ (x2 : Int32) (x3 : Int32) (S : ri_H), K13 x2 x3 S → ri_A E 1 (4, 13, [some (.ref 5), none, some (.int x2), some (.int x3)], []) S (Qi Q)) (x2 : Int32) (x3 : Int32) (S : ri_H) (h : w4_b63  K13 Q x2 x3 S) : ri_A E 1 (4, 63, [some (.ref 5), none, some (.int x2), some (.int x3)], []) S (Qi Q) := by
  unfold w4_b63 at h
  refine A_nx 2 (fr' := (4, 13, [some (.ref 5), none, some (.int x2), some (.int (x3 + (1 : Int32)))], [])) (S' := S) rfl ?_
  refine ri_A.less (m := 4) (pc := 13) (L := [some (.ref 5), none, some (.int x2), some (.int (x3 + (1 : Int32)))]) (L' := [some (.ref 5), none, some (.int x2), some (.int (x3 + (1 : Int32)))]) (st := []) ⟨rfl, ⟨rfl, ⟨rfl, trivial⟩⟩⟩ ?_
  exact hK13 _ _ _ h
def w4_b42 (K13 : Int32 → Int32 → ri_H → Prop) (Q : Int32 → ri_H → Prop) (x2 : Int32) (x3 : Int32) (S : ri_H) : Prop := w11 x2 S (fun (r4 : Int32) (S3 : ri_H) => ((r4 = 0 → Q x3 S3) ∧ (¬ (r4 = 0) → w11 (it (S3.1 6) 160 x3) S3 (fun (r6 : Int32) (S5 : ri_H) => ((r6 = 0 → Q x3 S5) ∧ (¬ (r6 = 0) → w4_b63  K13 Q x2 x3 S5))))))
set_option maxRecDepth 10000 in
set_option maxHeartbeats 1000000 in
theorem wt4_b42 {E : ri_E} {K13 : Int32 → Int32 → ri_H → Prop} {Q : Int32 → ri_H → Prop} (hK13 : ∀ (x2 : Int32) (x3 : Int32) (S : ri_H), K13 x2 x3 S → ri_A E 1 (4, 13, [some (.ref 5), none, some (.int x2), some (.int x3)], []) S (Qi Q)) (x2 : Int32) (x3 : Int32) (S : ri_H) (h : w4_b42  K13 Q x2 x3 S) : ri_A E 1 (4, 42, [some (.ref 5), none, some (.int x2), some (.int x3)], []) S (Qi Q) := by
  unfold w4_b42 at h
  refine A_call (j := 11) (As := [.int x2]) (fr' := (4, 46, [some (.ref 5), none, some (.int x2), some (.int x3)], [])) (S' := S) 2 rfl (e := 0) (by omega) (A_imp (wt11 x2 h) (fun v S3 hq => ?_))
  obtain ⟨r4, hv, h⟩ := hq
  subst hv
  refine A_br (r4 = 0) (r1 := ((4, 69, [some (.ref 5), none, some (.int x2), some (.int x3)], []), S3)) (r2 := ((4, 49, [some (.ref 5), none, some (.int x2), some (.int x3)], []), S3)) 1 rfl (fun c => ?_) (fun c => ?_)
  · have h := h.1 c
    exact A_ret 2 (m := 4) (v := some (.int x3)) (S' := S3) rfl rfl ⟨_, rfl, h⟩
  · have h := h.2 c
    refine A_call (j := 98) (As := [.ref 6, .int x3]) (fr' := (4, 57, [some (.ref 5), none, some (.int x2), some (.int x3)], [])) (S' := S3) 4 rfl (e := 0) (by omega) (sp_item 6 160 _ ⟨by decide, by decide, rfl⟩ (by decide) ?_)
    refine A_call (j := 11) (As := [.int (it (S3.1 6) 160 x3)]) (fr' := (4, 60, [some (.ref 5), none, some (.int x2), some (.int x3)], [])) (S' := S3) 1 rfl (e := 0) (by omega) (A_imp (wt11 (it (S3.1 6) 160 x3) h) (fun v S5 hq => ?_))
    obtain ⟨r6, hv, h⟩ := hq
    subst hv
    refine A_br (r6 = 0) (r1 := ((4, 69, [some (.ref 5), none, some (.int x2), some (.int x3)], []), S5)) (r2 := ((4, 63, [some (.ref 5), none, some (.int x2), some (.int x3)], []), S5)) 1 rfl (fun c => ?_) (fun c => ?_)
    · have h := h.1 c
      exact A_ret 2 (m := 4) (v := some (.int x3)) (S' := S5) rfl rfl ⟨_, rfl, h⟩
    · have h := h.2 c
      refine ri_A.less (m := 4) (pc := 63) (L := [some (.ref 5), none, some (.int x2), some (.int x3)]) (L' := [some (.ref 5), none, some (.int x2), some (.int x3)]) (st := []) ⟨rfl, ⟨rfl, ⟨rfl, trivial⟩⟩⟩ ?_
      exact wt4_b63  hK13 _ _ _ h
def w4_l13 (Q : Int32 → ri_H → Prop) : Nat → Int32 → Int32 → ri_H → Prop
  | 0, _, _, _ => False
  | n + 1, x2, x3, S => (((S.1 5 4) ≤ x3 → Q x3 S) ∧ (¬ (S.1 5 4) ≤ x3 → w10 x2 S (fun (r2 : Int32) (S1 : ri_H) => ((r2 = 0 → w4_b42  (fun x2 x3 S => w4_l13   Q n x2 x3 S) Q x2 x3 S1) ∧ (¬ (r2 = 0) → w10 (it (S1.1 6) 160 x3) S1 (fun (r8 : Int32) (S7 : ri_H) => ((¬ r8 = 0 → w4_b63  (fun x2 x3 S => w4_l13   Q n x2 x3 S) Q x2 x3 S7) ∧ (¬ (¬ r8 = 0) → w4_b42  (fun x2 x3 S => w4_l13   Q n x2 x3 S) Q x2 x3 S7))))))))
set_option maxRecDepth 10000 in
set_option maxHeartbeats 1000000 in
theorem wt4_l13 {E : ri_E} {Q : Int32 → ri_H → Prop} : ∀ (n : Nat) (x2 : Int32) (x3 : Int32) (S : ri_H), w4_l13   Q n x2 x3 S → ri_A E 1 (4, 13, [some (.ref 5), none, some (.int x2), some (.int x3)], []) S (Qi Q) := by
  intro n
  induction n with
  | zero => intro x2 x3 S h; exact h.elim
  | succ n ih =>
    intro x2 x3 S h
    unfold w4_l13 at h
    refine A_br ((S.1 5 4) ≤ x3) (r1 := ((4, 69, [some (.ref 5), none, some (.int x2), some (.int x3)], []), S)) (r2 := ((4, 21, [some (.ref 5), none, some (.int x2), some (.int x3)], []), S)) 4 rfl (fun c => ?_) (fun c => ?_)
    · have h := h.1 c
      exact A_ret 2 (m := 4) (v := some (.int x3)) (S' := S) rfl rfl ⟨_, rfl, h⟩
    · have h := h.2 c
      refine A_call (j := 10) (As := [.int x2]) (fr' := (4, 25, [some (.ref 5), none, some (.int x2), some (.int x3)], [])) (S' := S) 2 rfl (e := 0) (by omega) (A_imp (wt10 x2 h) (fun v S1 hq => ?_))
      obtain ⟨r2, hv, h⟩ := hq
      subst hv
      refine A_br (r2 = 0) (r1 := ((4, 42, [some (.ref 5), none, some (.int x2), some (.int x3)], []), S1)) (r2 := ((4, 28, [some (.ref 5), none, some (.int x2), some (.int x3)], []), S1)) 1 rfl (fun c => ?_) (fun c => ?_)
      · have h := h.1 c
        refine ri_A.less (m := 4) (pc := 42) (L := [some (.ref 5), none, some (.int x2), some (.int x3)]) (L' := [some (.ref 5), none, some (.int x2), some (.int x3)]) (st := []) ⟨rfl, ⟨rfl, ⟨rfl, trivial⟩⟩⟩ ?_
        exact wt4_b42  (fun x2 x3 S hk => ih x2 x3 S hk) _ _ _ h
      · have h := h.2 c
        refine A_call (j := 98) (As := [.ref 6, .int x3]) (fr' := (4, 36, [some (.ref 5), none, some (.int x2), some (.int x3)], [])) (S' := S1) 4 rfl (e := 0) (by omega) (sp_item 6 160 _ ⟨by decide, by decide, rfl⟩ (by decide) ?_)
        refine A_call (j := 10) (As := [.int (it (S1.1 6) 160 x3)]) (fr' := (4, 39, [some (.ref 5), none, some (.int x2), some (.int x3)], [])) (S' := S1) 1 rfl (e := 0) (by omega) (A_imp (wt10 (it (S1.1 6) 160 x3) h) (fun v S7 hq => ?_))
        obtain ⟨r8, hv, h⟩ := hq
        subst hv
        refine A_br (¬ r8 = 0) (r1 := ((4, 63, [some (.ref 5), none, some (.int x2), some (.int x3)], []), S7)) (r2 := ((4, 42, [some (.ref 5), none, some (.int x2), some (.int x3)], []), S7)) 1 rfl (fun c => ?_) (fun c => ?_)
        · have h := h.1 c
          refine ri_A.less (m := 4) (pc := 63) (L := [some (.ref 5), none, some (.int x2), some (.int x3)]) (L' := [some (.ref 5), none, some (.int x2), some (.int x3)]) (st := []) ⟨rfl, ⟨rfl, ⟨rfl, trivial⟩⟩⟩ ?_
          exact wt4_b63  (fun x2 x3 S hk => ih x2 x3 S hk) _ _ _ h
        · have h := h.2 c
          refine ri_A.less (m := 4) (pc := 42) (L := [some (.ref 5), none, some (.int x2), some (.int x3)]) (L' := [some (.ref 5), none, some (.int x2), some (.int x3)]) (st := []) ⟨rfl, ⟨rfl, ⟨rfl, trivial⟩⟩⟩ ?_
          exact wt4_b42  (fun x2 x3 S hk => ih x2 x3 S hk) _ _ _ h
def w4 (a : Int32) (S : ri_H) (Q : Int32 → ri_H → Prop) : Prop := ∃ nn, w4_l13   Q nn (it (S.1 6) 160 a) (a + (1 : Int32)) S
set_option maxRecDepth 10000 in
set_option maxHeartbeats 1000000 in
theorem wt4 {E : ri_E} (a : Int32) {S : ri_H} {Q : Int32 → ri_H → Prop} (h : w4  a S Q) : ri_A E 1 (ri_en 4 [.ref 5, .int a]) S (Qi Q) := by
  unfold w4 at h
  show ri_A E 1 (4, 0, [some (.ref 5), some (.int a), none, none], []) S (Qi Q)
  refine A_call (j := 98) (As := [.ref 6, .int a]) (fr' := (4, 8, [some (.ref 5), some (.int a), none, none], [])) (S' := S) 4 rfl (e := 0) (by omega) (sp_item 6 160 _ ⟨by decide, by decide, rfl⟩ (by decide) ?_)
  refine A_nx 5 (fr' := (4, 13, [some (.ref 5), some (.int a), some (.int (it (S.1 6) 160 a)), some (.int (a + (1 : Int32)))], [])) (S' := S) rfl ?_
  refine ri_A.less (m := 4) (pc := 13) (L := [some (.ref 5), some (.int a), some (.int (it (S.1 6) 160 a)), some (.int (a + (1 : Int32)))]) (L' := [some (.ref 5), none, some (.int (it (S.1 6) 160 a)), some (.int (a + (1 : Int32)))]) (st := []) ⟨rfl, ⟨rfl, ⟨rfl, trivial⟩⟩⟩ ?_
  obtain ⟨nn, h⟩ := h
  exact wt4_l13   nn _ _ _ h
/-! X0_numberOf, depth 1 -/
def w8_l5 (Q : Int32 → ri_H → Prop) : Nat → Int32 → Int32 → Int32 → ri_H → Prop
  | 0, _, _, _, _ => False
  | n + 1, x2, x3, x4, S => ((x2 ≤ x4 → Q x3 S) ∧ (¬ (x2 ≤ x4) → w8_l5   Q n x2 (((x3 * (10 : Int32)) + (it (S.1 6) 160 x4)) - (48 : Int32)) (x4 + (1 : Int32)) S))
set_option maxRecDepth 10000 in
set_option maxHeartbeats 1000000 in
theorem wt8_l5 {E : ri_E} {Q : Int32 → ri_H → Prop} : ∀ (n : Nat) (x2 : Int32) (x3 : Int32) (x4 : Int32) (S : ri_H), w8_l5   Q n x2 x3 x4 S → ri_A E 1 (8, 5, [some (.ref 5), none, some (.int x2), some (.int x3), some (.int x4)], []) S (Qi Q) := by
  intro n
  induction n with
  | zero => intro x2 x3 x4 S h; exact h.elim
  | succ n ih =>
    intro x2 x3 x4 S h
    unfold w8_l5 at h
    refine A_br (x2 ≤ x4) (r1 := ((8, 35, [some (.ref 5), none, some (.int x2), some (.int x3), some (.int x4)], []), S)) (r2 := ((8, 11, [some (.ref 5), none, some (.int x2), some (.int x3), some (.int x4)], []), S)) 3 rfl (fun c => ?_) (fun c => ?_)
    · have h := h.1 c
      exact A_ret 2 (m := 8) (v := some (.int x3)) (S' := S) rfl rfl ⟨_, rfl, h⟩
    · have h := h.2 c
      refine A_call (j := 98) (As := [.ref 6, .int x4]) (fr' := (8, 24, [some (.ref 5), none, some (.int x2), some (.int x3), some (.int x4)], [.int (x3 * (10 : Int32))])) (S' := S) 7 rfl (e := 0) (by omega) (sp_item 6 160 _ ⟨by decide, by decide, rfl⟩ (by decide) ?_)
      refine A_nx 6 (fr' := (8, 5, [some (.ref 5), none, some (.int x2), some (.int (((x3 * (10 : Int32)) + (it (S.1 6) 160 x4)) - (48 : Int32))), some (.int (x4 + (1 : Int32)))], [])) (S' := S) rfl ?_
      refine ri_A.less (m := 8) (pc := 5) (L := [some (.ref 5), none, some (.int x2), some (.int (((x3 * (10 : Int32)) + (it (S.1 6) 160 x4)) - (48 : Int32))), some (.int (x4 + (1 : Int32)))]) (L' := [some (.ref 5), none, some (.int x2), some (.int (((x3 * (10 : Int32)) + (it (S.1 6) 160 x4)) - (48 : Int32))), some (.int (x4 + (1 : Int32)))]) (st := []) ⟨rfl, ⟨rfl, ⟨rfl, ⟨rfl, trivial⟩⟩⟩⟩ ?_
      exact ih _ _ _ _ h
def w8 (a : Int32) (b : Int32) (S : ri_H) (Q : Int32 → ri_H → Prop) : Prop := ∃ nn, w8_l5   Q nn b (0 : Int32) a S
set_option maxRecDepth 10000 in
set_option maxHeartbeats 1000000 in
theorem wt8 {E : ri_E} (a : Int32) (b : Int32) {S : ri_H} {Q : Int32 → ri_H → Prop} (h : w8  a b S Q) : ri_A E 1 (ri_en 8 [.ref 5, .int a, .int b]) S (Qi Q) := by
  unfold w8 at h
  show ri_A E 1 (8, 0, [some (.ref 5), some (.int a), some (.int b), none, none], []) S (Qi Q)
  refine A_nx 4 (fr' := (8, 5, [some (.ref 5), some (.int a), some (.int b), some (.int (0 : Int32)), some (.int a)], [])) (S' := S) rfl ?_
  refine ri_A.less (m := 8) (pc := 5) (L := [some (.ref 5), some (.int a), some (.int b), some (.int (0 : Int32)), some (.int a)]) (L' := [some (.ref 5), none, some (.int b), some (.int (0 : Int32)), some (.int a)]) (st := []) ⟨rfl, ⟨rfl, ⟨rfl, ⟨rfl, trivial⟩⟩⟩⟩ ?_
  obtain ⟨nn, h⟩ := h
  exact wt8_l5   nn _ _ _ _ h
/-! X0_add, depth 1 -/
def w3 (a : Int32) (b : Int32) (g : Int32) (S : ri_H) (Q : ri_H → Prop) : Prop := Q (ri_wi (ri_wr (ri_wr (ri_wr S 7 (pu 161 (S.1 7) (S.1 5 5) a)) 8 (pu 161 (S.1 8) (S.1 5 5) b)) 9 (pu 161 (S.1 9) (S.1 5 5) g)) 5 5 ((S.1 5 5) + (1 : Int32)))
set_option maxRecDepth 10000 in
set_option maxHeartbeats 1000000 in
theorem wt3 {E : ri_E} (a : Int32) (b : Int32) (g : Int32) {S : ri_H} {Q : ri_H → Prop} (h : w3  a b g S Q) : ri_A E 1 (ri_en 3 [.ref 5, .int a, .int b, .int g]) S (Qv Q) := by
  unfold w3 at h
  show ri_A E 1 (3, 0, [some (.ref 5), some (.int a), some (.int b), some (.int g)], []) S (Qv Q)
  refine A_call (j := 99) (As := [.ref 7, .int (S.1 5 5), .int a]) (fr' := (3, 12, [some (.ref 5), some (.int a), some (.int b), some (.int g)], [])) (S' := S) 6 rfl (e := 0) (by omega) (sp_putItem 7 161 _ _ ⟨by decide, by decide, rfl⟩ (by decide) ?_)
  refine A_call (j := 99) (As := [.ref 8, .int (S.1 5 5), .int b]) (fr' := (3, 24, [some (.ref 5), some (.int a), some (.int b), some (.int g)], [])) (S' := (ri_wr S 7 (pu 161 (S.1 7) (S.1 5 5) a))) 6 rfl (e := 0) (by omega) (sp_putItem 8 161 _ _ ⟨by decide, by decide, rfl⟩ (by decide) ?_)
  refine A_call (j := 99) (As := [.ref 9, .int (S.1 5 5), .int g]) (fr' := (3, 36, [some (.ref 5), some (.int a), some (.int b), some (.int g)], [])) (S' := (ri_wr (ri_wr S 7 (pu 161 (S.1 7) (S.1 5 5) a)) 8 (pu 161 (S.1 8) (S.1 5 5) b))) 6 rfl (e := 0) (by omega) (sp_putItem 9 161 _ _ ⟨by decide, by decide, rfl⟩ (by decide) ?_)
  exact A_ret 7 (m := 3) (v := none) (S' := (ri_wi (ri_wr (ri_wr (ri_wr S 7 (pu 161 (S.1 7) (S.1 5 5) a)) 8 (pu 161 (S.1 8) (S.1 5 5) b)) 9 (pu 161 (S.1 9) (S.1 5 5) g)) 5 5 ((S.1 5 5) + (1 : Int32)))) rfl rfl ⟨rfl, h⟩
/-! X0_spells, depth 4 -/
def w7_l15 (t : Nat) (Q : Int32 → ri_H → Prop) : Nat → Int32 → Int32 → ri_H → Prop
  | 0, _, _, _ => False
  | n + 1, x2, x4, S => w206 t  S (fun (r4 : Int32) (S3 : ri_H) => ((r4 ≤ x4 → Q (1 : Int32) S3) ∧ (¬ (r4 ≤ x4) → w207 t x4 S3 (fun (r6 : Int32) (S5 : ri_H) => (((it (S3.1 6) 160 (x2 + x4)) = r6 → w7_l15 t  Q n x2 (x4 + (1 : Int32)) S5) ∧ (¬ (it (S3.1 6) 160 (x2 + x4)) = r6 → Q (0 : Int32) S5))))))
set_option maxRecDepth 10000 in
set_option maxHeartbeats 1000000 in
theorem wt7_l15 {E : ri_E} (t : Nat) (hw : t = 1001 ∨ t = 1002 ∨ t = 1003 ∨ t = 1004 ∨ t = 1005 ∨ t = 1006 ∨ t = 1007 ∨ t = 1008 ∨ t = 1009 ∨ t = 1010 ∨ t = 1011 ∨ t = 1012) {Q : Int32 → ri_H → Prop} : ∀ (n : Nat) (x2 : Int32) (x4 : Int32) (S : ri_H), w7_l15 t  Q n x2 x4 S → ri_A E 4 (7, 15, [some (.ref 5), some (.ref t), some (.int x2), none, some (.int x4)], []) S (Qi Q) := by
  rcases hw with rfl | rfl | rfl | rfl | rfl | rfl | rfl | rfl | rfl | rfl | rfl | rfl
  · intro n
    induction n with
    | zero => intro x2 x4 S h; exact h.elim
    | succ n ih =>
      intro x2 x4 S h
      unfold w7_l15 at h
      refine A_call (j := 206) (As := [.ref 1001]) (fr' := (7, 21, [some (.ref 5), some (.ref 1001), some (.int x2), none, some (.int x4)], [.int x4])) (S' := S) 3 rfl (e := 1) (by omega) (A_imp (wt206 1001 (by decide)  h) (fun v S3 hq => ?_))
      obtain ⟨r4, hv, h⟩ := hq
      subst hv
      refine A_br (r4 ≤ x4) (r1 := ((7, 52, [some (.ref 5), some (.ref 1001), some (.int x2), none, some (.int x4)], []), S3)) (r2 := ((7, 24, [some (.ref 5), some (.ref 1001), some (.int x2), none, some (.int x4)], []), S3)) 1 rfl (fun c => ?_) (fun c => ?_)
      · have h := h.1 c
        exact A_ret 2 (m := 7) (v := some (.int (1 : Int32))) (S' := S3) rfl rfl ⟨_, rfl, h⟩
      · have h := h.2 c
        refine A_call (j := 98) (As := [.ref 6, .int (x2 + x4)]) (fr' := (7, 35, [some (.ref 5), some (.ref 1001), some (.int x2), none, some (.int x4)], [])) (S' := S3) 6 rfl (e := 0) (by omega) (sp_item 6 160 _ ⟨by decide, by decide, rfl⟩ (by decide) ?_)
        refine A_call (j := 207) (As := [.ref 1001, .int x4]) (fr' := (7, 41, [some (.ref 5), some (.ref 1001), some (.int x2), none, some (.int x4)], [.int (it (S3.1 6) 160 (x2 + x4))])) (S' := S3) 3 rfl (e := 3) (by omega) (A_imp (wt207 1001 (by decide) x4 h) (fun v S5 hq => ?_))
        obtain ⟨r6, hv, h⟩ := hq
        subst hv
        refine A_br ((it (S3.1 6) 160 (x2 + x4)) = r6) (r1 := ((7, 46, [some (.ref 5), some (.ref 1001), some (.int x2), none, some (.int x4)], []), S5)) (r2 := ((7, 44, [some (.ref 5), some (.ref 1001), some (.int x2), none, some (.int x4)], []), S5)) 1 rfl (fun c => ?_) (fun c => ?_)
        · have h := h.1 c
          refine A_nx 2 (fr' := (7, 15, [some (.ref 5), some (.ref 1001), some (.int x2), none, some (.int (x4 + (1 : Int32)))], [])) (S' := S5) rfl ?_
          refine ri_A.less (m := 7) (pc := 15) (L := [some (.ref 5), some (.ref 1001), some (.int x2), none, some (.int (x4 + (1 : Int32)))]) (L' := [some (.ref 5), some (.ref 1001), some (.int x2), none, some (.int (x4 + (1 : Int32)))]) (st := []) ⟨rfl, ⟨rfl, ⟨rfl, ⟨rfl, trivial⟩⟩⟩⟩ ?_
          exact ih _ _ _ h
        · have h := h.2 c
          exact A_ret 2 (m := 7) (v := some (.int (0 : Int32))) (S' := S5) rfl rfl ⟨_, rfl, h⟩
  · intro n
    induction n with
    | zero => intro x2 x4 S h; exact h.elim
    | succ n ih =>
      intro x2 x4 S h
      unfold w7_l15 at h
      refine A_call (j := 206) (As := [.ref 1002]) (fr' := (7, 21, [some (.ref 5), some (.ref 1002), some (.int x2), none, some (.int x4)], [.int x4])) (S' := S) 3 rfl (e := 1) (by omega) (A_imp (wt206 1002 (by decide)  h) (fun v S3 hq => ?_))
      obtain ⟨r4, hv, h⟩ := hq
      subst hv
      refine A_br (r4 ≤ x4) (r1 := ((7, 52, [some (.ref 5), some (.ref 1002), some (.int x2), none, some (.int x4)], []), S3)) (r2 := ((7, 24, [some (.ref 5), some (.ref 1002), some (.int x2), none, some (.int x4)], []), S3)) 1 rfl (fun c => ?_) (fun c => ?_)
      · have h := h.1 c
        exact A_ret 2 (m := 7) (v := some (.int (1 : Int32))) (S' := S3) rfl rfl ⟨_, rfl, h⟩
      · have h := h.2 c
        refine A_call (j := 98) (As := [.ref 6, .int (x2 + x4)]) (fr' := (7, 35, [some (.ref 5), some (.ref 1002), some (.int x2), none, some (.int x4)], [])) (S' := S3) 6 rfl (e := 0) (by omega) (sp_item 6 160 _ ⟨by decide, by decide, rfl⟩ (by decide) ?_)
        refine A_call (j := 207) (As := [.ref 1002, .int x4]) (fr' := (7, 41, [some (.ref 5), some (.ref 1002), some (.int x2), none, some (.int x4)], [.int (it (S3.1 6) 160 (x2 + x4))])) (S' := S3) 3 rfl (e := 3) (by omega) (A_imp (wt207 1002 (by decide) x4 h) (fun v S5 hq => ?_))
        obtain ⟨r6, hv, h⟩ := hq
        subst hv
        refine A_br ((it (S3.1 6) 160 (x2 + x4)) = r6) (r1 := ((7, 46, [some (.ref 5), some (.ref 1002), some (.int x2), none, some (.int x4)], []), S5)) (r2 := ((7, 44, [some (.ref 5), some (.ref 1002), some (.int x2), none, some (.int x4)], []), S5)) 1 rfl (fun c => ?_) (fun c => ?_)
        · have h := h.1 c
          refine A_nx 2 (fr' := (7, 15, [some (.ref 5), some (.ref 1002), some (.int x2), none, some (.int (x4 + (1 : Int32)))], [])) (S' := S5) rfl ?_
          refine ri_A.less (m := 7) (pc := 15) (L := [some (.ref 5), some (.ref 1002), some (.int x2), none, some (.int (x4 + (1 : Int32)))]) (L' := [some (.ref 5), some (.ref 1002), some (.int x2), none, some (.int (x4 + (1 : Int32)))]) (st := []) ⟨rfl, ⟨rfl, ⟨rfl, ⟨rfl, trivial⟩⟩⟩⟩ ?_
          exact ih _ _ _ h
        · have h := h.2 c
          exact A_ret 2 (m := 7) (v := some (.int (0 : Int32))) (S' := S5) rfl rfl ⟨_, rfl, h⟩
  · intro n
    induction n with
    | zero => intro x2 x4 S h; exact h.elim
    | succ n ih =>
      intro x2 x4 S h
      unfold w7_l15 at h
      refine A_call (j := 206) (As := [.ref 1003]) (fr' := (7, 21, [some (.ref 5), some (.ref 1003), some (.int x2), none, some (.int x4)], [.int x4])) (S' := S) 3 rfl (e := 1) (by omega) (A_imp (wt206 1003 (by decide)  h) (fun v S3 hq => ?_))
      obtain ⟨r4, hv, h⟩ := hq
      subst hv
      refine A_br (r4 ≤ x4) (r1 := ((7, 52, [some (.ref 5), some (.ref 1003), some (.int x2), none, some (.int x4)], []), S3)) (r2 := ((7, 24, [some (.ref 5), some (.ref 1003), some (.int x2), none, some (.int x4)], []), S3)) 1 rfl (fun c => ?_) (fun c => ?_)
      · have h := h.1 c
        exact A_ret 2 (m := 7) (v := some (.int (1 : Int32))) (S' := S3) rfl rfl ⟨_, rfl, h⟩
      · have h := h.2 c
        refine A_call (j := 98) (As := [.ref 6, .int (x2 + x4)]) (fr' := (7, 35, [some (.ref 5), some (.ref 1003), some (.int x2), none, some (.int x4)], [])) (S' := S3) 6 rfl (e := 0) (by omega) (sp_item 6 160 _ ⟨by decide, by decide, rfl⟩ (by decide) ?_)
        refine A_call (j := 207) (As := [.ref 1003, .int x4]) (fr' := (7, 41, [some (.ref 5), some (.ref 1003), some (.int x2), none, some (.int x4)], [.int (it (S3.1 6) 160 (x2 + x4))])) (S' := S3) 3 rfl (e := 3) (by omega) (A_imp (wt207 1003 (by decide) x4 h) (fun v S5 hq => ?_))
        obtain ⟨r6, hv, h⟩ := hq
        subst hv
        refine A_br ((it (S3.1 6) 160 (x2 + x4)) = r6) (r1 := ((7, 46, [some (.ref 5), some (.ref 1003), some (.int x2), none, some (.int x4)], []), S5)) (r2 := ((7, 44, [some (.ref 5), some (.ref 1003), some (.int x2), none, some (.int x4)], []), S5)) 1 rfl (fun c => ?_) (fun c => ?_)
        · have h := h.1 c
          refine A_nx 2 (fr' := (7, 15, [some (.ref 5), some (.ref 1003), some (.int x2), none, some (.int (x4 + (1 : Int32)))], [])) (S' := S5) rfl ?_
          refine ri_A.less (m := 7) (pc := 15) (L := [some (.ref 5), some (.ref 1003), some (.int x2), none, some (.int (x4 + (1 : Int32)))]) (L' := [some (.ref 5), some (.ref 1003), some (.int x2), none, some (.int (x4 + (1 : Int32)))]) (st := []) ⟨rfl, ⟨rfl, ⟨rfl, ⟨rfl, trivial⟩⟩⟩⟩ ?_
          exact ih _ _ _ h
        · have h := h.2 c
          exact A_ret 2 (m := 7) (v := some (.int (0 : Int32))) (S' := S5) rfl rfl ⟨_, rfl, h⟩
  · intro n
    induction n with
    | zero => intro x2 x4 S h; exact h.elim
    | succ n ih =>
      intro x2 x4 S h
      unfold w7_l15 at h
      refine A_call (j := 206) (As := [.ref 1004]) (fr' := (7, 21, [some (.ref 5), some (.ref 1004), some (.int x2), none, some (.int x4)], [.int x4])) (S' := S) 3 rfl (e := 1) (by omega) (A_imp (wt206 1004 (by decide)  h) (fun v S3 hq => ?_))
      obtain ⟨r4, hv, h⟩ := hq
      subst hv
      refine A_br (r4 ≤ x4) (r1 := ((7, 52, [some (.ref 5), some (.ref 1004), some (.int x2), none, some (.int x4)], []), S3)) (r2 := ((7, 24, [some (.ref 5), some (.ref 1004), some (.int x2), none, some (.int x4)], []), S3)) 1 rfl (fun c => ?_) (fun c => ?_)
      · have h := h.1 c
        exact A_ret 2 (m := 7) (v := some (.int (1 : Int32))) (S' := S3) rfl rfl ⟨_, rfl, h⟩
      · have h := h.2 c
        refine A_call (j := 98) (As := [.ref 6, .int (x2 + x4)]) (fr' := (7, 35, [some (.ref 5), some (.ref 1004), some (.int x2), none, some (.int x4)], [])) (S' := S3) 6 rfl (e := 0) (by omega) (sp_item 6 160 _ ⟨by decide, by decide, rfl⟩ (by decide) ?_)
        refine A_call (j := 207) (As := [.ref 1004, .int x4]) (fr' := (7, 41, [some (.ref 5), some (.ref 1004), some (.int x2), none, some (.int x4)], [.int (it (S3.1 6) 160 (x2 + x4))])) (S' := S3) 3 rfl (e := 3) (by omega) (A_imp (wt207 1004 (by decide) x4 h) (fun v S5 hq => ?_))
        obtain ⟨r6, hv, h⟩ := hq
        subst hv
        refine A_br ((it (S3.1 6) 160 (x2 + x4)) = r6) (r1 := ((7, 46, [some (.ref 5), some (.ref 1004), some (.int x2), none, some (.int x4)], []), S5)) (r2 := ((7, 44, [some (.ref 5), some (.ref 1004), some (.int x2), none, some (.int x4)], []), S5)) 1 rfl (fun c => ?_) (fun c => ?_)
        · have h := h.1 c
          refine A_nx 2 (fr' := (7, 15, [some (.ref 5), some (.ref 1004), some (.int x2), none, some (.int (x4 + (1 : Int32)))], [])) (S' := S5) rfl ?_
          refine ri_A.less (m := 7) (pc := 15) (L := [some (.ref 5), some (.ref 1004), some (.int x2), none, some (.int (x4 + (1 : Int32)))]) (L' := [some (.ref 5), some (.ref 1004), some (.int x2), none, some (.int (x4 + (1 : Int32)))]) (st := []) ⟨rfl, ⟨rfl, ⟨rfl, ⟨rfl, trivial⟩⟩⟩⟩ ?_
          exact ih _ _ _ h
        · have h := h.2 c
          exact A_ret 2 (m := 7) (v := some (.int (0 : Int32))) (S' := S5) rfl rfl ⟨_, rfl, h⟩
  · intro n
    induction n with
    | zero => intro x2 x4 S h; exact h.elim
    | succ n ih =>
      intro x2 x4 S h
      unfold w7_l15 at h
      refine A_call (j := 206) (As := [.ref 1005]) (fr' := (7, 21, [some (.ref 5), some (.ref 1005), some (.int x2), none, some (.int x4)], [.int x4])) (S' := S) 3 rfl (e := 1) (by omega) (A_imp (wt206 1005 (by decide)  h) (fun v S3 hq => ?_))
      obtain ⟨r4, hv, h⟩ := hq
      subst hv
      refine A_br (r4 ≤ x4) (r1 := ((7, 52, [some (.ref 5), some (.ref 1005), some (.int x2), none, some (.int x4)], []), S3)) (r2 := ((7, 24, [some (.ref 5), some (.ref 1005), some (.int x2), none, some (.int x4)], []), S3)) 1 rfl (fun c => ?_) (fun c => ?_)
      · have h := h.1 c
        exact A_ret 2 (m := 7) (v := some (.int (1 : Int32))) (S' := S3) rfl rfl ⟨_, rfl, h⟩
      · have h := h.2 c
        refine A_call (j := 98) (As := [.ref 6, .int (x2 + x4)]) (fr' := (7, 35, [some (.ref 5), some (.ref 1005), some (.int x2), none, some (.int x4)], [])) (S' := S3) 6 rfl (e := 0) (by omega) (sp_item 6 160 _ ⟨by decide, by decide, rfl⟩ (by decide) ?_)
        refine A_call (j := 207) (As := [.ref 1005, .int x4]) (fr' := (7, 41, [some (.ref 5), some (.ref 1005), some (.int x2), none, some (.int x4)], [.int (it (S3.1 6) 160 (x2 + x4))])) (S' := S3) 3 rfl (e := 3) (by omega) (A_imp (wt207 1005 (by decide) x4 h) (fun v S5 hq => ?_))
        obtain ⟨r6, hv, h⟩ := hq
        subst hv
        refine A_br ((it (S3.1 6) 160 (x2 + x4)) = r6) (r1 := ((7, 46, [some (.ref 5), some (.ref 1005), some (.int x2), none, some (.int x4)], []), S5)) (r2 := ((7, 44, [some (.ref 5), some (.ref 1005), some (.int x2), none, some (.int x4)], []), S5)) 1 rfl (fun c => ?_) (fun c => ?_)
        · have h := h.1 c
          refine A_nx 2 (fr' := (7, 15, [some (.ref 5), some (.ref 1005), some (.int x2), none, some (.int (x4 + (1 : Int32)))], [])) (S' := S5) rfl ?_
          refine ri_A.less (m := 7) (pc := 15) (L := [some (.ref 5), some (.ref 1005), some (.int x2), none, some (.int (x4 + (1 : Int32)))]) (L' := [some (.ref 5), some (.ref 1005), some (.int x2), none, some (.int (x4 + (1 : Int32)))]) (st := []) ⟨rfl, ⟨rfl, ⟨rfl, ⟨rfl, trivial⟩⟩⟩⟩ ?_
          exact ih _ _ _ h
        · have h := h.2 c
          exact A_ret 2 (m := 7) (v := some (.int (0 : Int32))) (S' := S5) rfl rfl ⟨_, rfl, h⟩
  · intro n
    induction n with
    | zero => intro x2 x4 S h; exact h.elim
    | succ n ih =>
      intro x2 x4 S h
      unfold w7_l15 at h
      refine A_call (j := 206) (As := [.ref 1006]) (fr' := (7, 21, [some (.ref 5), some (.ref 1006), some (.int x2), none, some (.int x4)], [.int x4])) (S' := S) 3 rfl (e := 1) (by omega) (A_imp (wt206 1006 (by decide)  h) (fun v S3 hq => ?_))
      obtain ⟨r4, hv, h⟩ := hq
      subst hv
      refine A_br (r4 ≤ x4) (r1 := ((7, 52, [some (.ref 5), some (.ref 1006), some (.int x2), none, some (.int x4)], []), S3)) (r2 := ((7, 24, [some (.ref 5), some (.ref 1006), some (.int x2), none, some (.int x4)], []), S3)) 1 rfl (fun c => ?_) (fun c => ?_)
      · have h := h.1 c
        exact A_ret 2 (m := 7) (v := some (.int (1 : Int32))) (S' := S3) rfl rfl ⟨_, rfl, h⟩
      · have h := h.2 c
        refine A_call (j := 98) (As := [.ref 6, .int (x2 + x4)]) (fr' := (7, 35, [some (.ref 5), some (.ref 1006), some (.int x2), none, some (.int x4)], [])) (S' := S3) 6 rfl (e := 0) (by omega) (sp_item 6 160 _ ⟨by decide, by decide, rfl⟩ (by decide) ?_)
        refine A_call (j := 207) (As := [.ref 1006, .int x4]) (fr' := (7, 41, [some (.ref 5), some (.ref 1006), some (.int x2), none, some (.int x4)], [.int (it (S3.1 6) 160 (x2 + x4))])) (S' := S3) 3 rfl (e := 3) (by omega) (A_imp (wt207 1006 (by decide) x4 h) (fun v S5 hq => ?_))
        obtain ⟨r6, hv, h⟩ := hq
        subst hv
        refine A_br ((it (S3.1 6) 160 (x2 + x4)) = r6) (r1 := ((7, 46, [some (.ref 5), some (.ref 1006), some (.int x2), none, some (.int x4)], []), S5)) (r2 := ((7, 44, [some (.ref 5), some (.ref 1006), some (.int x2), none, some (.int x4)], []), S5)) 1 rfl (fun c => ?_) (fun c => ?_)
        · have h := h.1 c
          refine A_nx 2 (fr' := (7, 15, [some (.ref 5), some (.ref 1006), some (.int x2), none, some (.int (x4 + (1 : Int32)))], [])) (S' := S5) rfl ?_
          refine ri_A.less (m := 7) (pc := 15) (L := [some (.ref 5), some (.ref 1006), some (.int x2), none, some (.int (x4 + (1 : Int32)))]) (L' := [some (.ref 5), some (.ref 1006), some (.int x2), none, some (.int (x4 + (1 : Int32)))]) (st := []) ⟨rfl, ⟨rfl, ⟨rfl, ⟨rfl, trivial⟩⟩⟩⟩ ?_
          exact ih _ _ _ h
        · have h := h.2 c
          exact A_ret 2 (m := 7) (v := some (.int (0 : Int32))) (S' := S5) rfl rfl ⟨_, rfl, h⟩
  · intro n
    induction n with
    | zero => intro x2 x4 S h; exact h.elim
    | succ n ih =>
      intro x2 x4 S h
      unfold w7_l15 at h
      refine A_call (j := 206) (As := [.ref 1007]) (fr' := (7, 21, [some (.ref 5), some (.ref 1007), some (.int x2), none, some (.int x4)], [.int x4])) (S' := S) 3 rfl (e := 1) (by omega) (A_imp (wt206 1007 (by decide)  h) (fun v S3 hq => ?_))
      obtain ⟨r4, hv, h⟩ := hq
      subst hv
      refine A_br (r4 ≤ x4) (r1 := ((7, 52, [some (.ref 5), some (.ref 1007), some (.int x2), none, some (.int x4)], []), S3)) (r2 := ((7, 24, [some (.ref 5), some (.ref 1007), some (.int x2), none, some (.int x4)], []), S3)) 1 rfl (fun c => ?_) (fun c => ?_)
      · have h := h.1 c
        exact A_ret 2 (m := 7) (v := some (.int (1 : Int32))) (S' := S3) rfl rfl ⟨_, rfl, h⟩
      · have h := h.2 c
        refine A_call (j := 98) (As := [.ref 6, .int (x2 + x4)]) (fr' := (7, 35, [some (.ref 5), some (.ref 1007), some (.int x2), none, some (.int x4)], [])) (S' := S3) 6 rfl (e := 0) (by omega) (sp_item 6 160 _ ⟨by decide, by decide, rfl⟩ (by decide) ?_)
        refine A_call (j := 207) (As := [.ref 1007, .int x4]) (fr' := (7, 41, [some (.ref 5), some (.ref 1007), some (.int x2), none, some (.int x4)], [.int (it (S3.1 6) 160 (x2 + x4))])) (S' := S3) 3 rfl (e := 3) (by omega) (A_imp (wt207 1007 (by decide) x4 h) (fun v S5 hq => ?_))
        obtain ⟨r6, hv, h⟩ := hq
        subst hv
        refine A_br ((it (S3.1 6) 160 (x2 + x4)) = r6) (r1 := ((7, 46, [some (.ref 5), some (.ref 1007), some (.int x2), none, some (.int x4)], []), S5)) (r2 := ((7, 44, [some (.ref 5), some (.ref 1007), some (.int x2), none, some (.int x4)], []), S5)) 1 rfl (fun c => ?_) (fun c => ?_)
        · have h := h.1 c
          refine A_nx 2 (fr' := (7, 15, [some (.ref 5), some (.ref 1007), some (.int x2), none, some (.int (x4 + (1 : Int32)))], [])) (S' := S5) rfl ?_
          refine ri_A.less (m := 7) (pc := 15) (L := [some (.ref 5), some (.ref 1007), some (.int x2), none, some (.int (x4 + (1 : Int32)))]) (L' := [some (.ref 5), some (.ref 1007), some (.int x2), none, some (.int (x4 + (1 : Int32)))]) (st := []) ⟨rfl, ⟨rfl, ⟨rfl, ⟨rfl, trivial⟩⟩⟩⟩ ?_
          exact ih _ _ _ h
        · have h := h.2 c
          exact A_ret 2 (m := 7) (v := some (.int (0 : Int32))) (S' := S5) rfl rfl ⟨_, rfl, h⟩
  · intro n
    induction n with
    | zero => intro x2 x4 S h; exact h.elim
    | succ n ih =>
      intro x2 x4 S h
      unfold w7_l15 at h
      refine A_call (j := 206) (As := [.ref 1008]) (fr' := (7, 21, [some (.ref 5), some (.ref 1008), some (.int x2), none, some (.int x4)], [.int x4])) (S' := S) 3 rfl (e := 1) (by omega) (A_imp (wt206 1008 (by decide)  h) (fun v S3 hq => ?_))
      obtain ⟨r4, hv, h⟩ := hq
      subst hv
      refine A_br (r4 ≤ x4) (r1 := ((7, 52, [some (.ref 5), some (.ref 1008), some (.int x2), none, some (.int x4)], []), S3)) (r2 := ((7, 24, [some (.ref 5), some (.ref 1008), some (.int x2), none, some (.int x4)], []), S3)) 1 rfl (fun c => ?_) (fun c => ?_)
      · have h := h.1 c
        exact A_ret 2 (m := 7) (v := some (.int (1 : Int32))) (S' := S3) rfl rfl ⟨_, rfl, h⟩
      · have h := h.2 c
        refine A_call (j := 98) (As := [.ref 6, .int (x2 + x4)]) (fr' := (7, 35, [some (.ref 5), some (.ref 1008), some (.int x2), none, some (.int x4)], [])) (S' := S3) 6 rfl (e := 0) (by omega) (sp_item 6 160 _ ⟨by decide, by decide, rfl⟩ (by decide) ?_)
        refine A_call (j := 207) (As := [.ref 1008, .int x4]) (fr' := (7, 41, [some (.ref 5), some (.ref 1008), some (.int x2), none, some (.int x4)], [.int (it (S3.1 6) 160 (x2 + x4))])) (S' := S3) 3 rfl (e := 3) (by omega) (A_imp (wt207 1008 (by decide) x4 h) (fun v S5 hq => ?_))
        obtain ⟨r6, hv, h⟩ := hq
        subst hv
        refine A_br ((it (S3.1 6) 160 (x2 + x4)) = r6) (r1 := ((7, 46, [some (.ref 5), some (.ref 1008), some (.int x2), none, some (.int x4)], []), S5)) (r2 := ((7, 44, [some (.ref 5), some (.ref 1008), some (.int x2), none, some (.int x4)], []), S5)) 1 rfl (fun c => ?_) (fun c => ?_)
        · have h := h.1 c
          refine A_nx 2 (fr' := (7, 15, [some (.ref 5), some (.ref 1008), some (.int x2), none, some (.int (x4 + (1 : Int32)))], [])) (S' := S5) rfl ?_
          refine ri_A.less (m := 7) (pc := 15) (L := [some (.ref 5), some (.ref 1008), some (.int x2), none, some (.int (x4 + (1 : Int32)))]) (L' := [some (.ref 5), some (.ref 1008), some (.int x2), none, some (.int (x4 + (1 : Int32)))]) (st := []) ⟨rfl, ⟨rfl, ⟨rfl, ⟨rfl, trivial⟩⟩⟩⟩ ?_
          exact ih _ _ _ h
        · have h := h.2 c
          exact A_ret 2 (m := 7) (v := some (.int (0 : Int32))) (S' := S5) rfl rfl ⟨_, rfl, h⟩
  · intro n
    induction n with
    | zero => intro x2 x4 S h; exact h.elim
    | succ n ih =>
      intro x2 x4 S h
      unfold w7_l15 at h
      refine A_call (j := 206) (As := [.ref 1009]) (fr' := (7, 21, [some (.ref 5), some (.ref 1009), some (.int x2), none, some (.int x4)], [.int x4])) (S' := S) 3 rfl (e := 1) (by omega) (A_imp (wt206 1009 (by decide)  h) (fun v S3 hq => ?_))
      obtain ⟨r4, hv, h⟩ := hq
      subst hv
      refine A_br (r4 ≤ x4) (r1 := ((7, 52, [some (.ref 5), some (.ref 1009), some (.int x2), none, some (.int x4)], []), S3)) (r2 := ((7, 24, [some (.ref 5), some (.ref 1009), some (.int x2), none, some (.int x4)], []), S3)) 1 rfl (fun c => ?_) (fun c => ?_)
      · have h := h.1 c
        exact A_ret 2 (m := 7) (v := some (.int (1 : Int32))) (S' := S3) rfl rfl ⟨_, rfl, h⟩
      · have h := h.2 c
        refine A_call (j := 98) (As := [.ref 6, .int (x2 + x4)]) (fr' := (7, 35, [some (.ref 5), some (.ref 1009), some (.int x2), none, some (.int x4)], [])) (S' := S3) 6 rfl (e := 0) (by omega) (sp_item 6 160 _ ⟨by decide, by decide, rfl⟩ (by decide) ?_)
        refine A_call (j := 207) (As := [.ref 1009, .int x4]) (fr' := (7, 41, [some (.ref 5), some (.ref 1009), some (.int x2), none, some (.int x4)], [.int (it (S3.1 6) 160 (x2 + x4))])) (S' := S3) 3 rfl (e := 3) (by omega) (A_imp (wt207 1009 (by decide) x4 h) (fun v S5 hq => ?_))
        obtain ⟨r6, hv, h⟩ := hq
        subst hv
        refine A_br ((it (S3.1 6) 160 (x2 + x4)) = r6) (r1 := ((7, 46, [some (.ref 5), some (.ref 1009), some (.int x2), none, some (.int x4)], []), S5)) (r2 := ((7, 44, [some (.ref 5), some (.ref 1009), some (.int x2), none, some (.int x4)], []), S5)) 1 rfl (fun c => ?_) (fun c => ?_)
        · have h := h.1 c
          refine A_nx 2 (fr' := (7, 15, [some (.ref 5), some (.ref 1009), some (.int x2), none, some (.int (x4 + (1 : Int32)))], [])) (S' := S5) rfl ?_
          refine ri_A.less (m := 7) (pc := 15) (L := [some (.ref 5), some (.ref 1009), some (.int x2), none, some (.int (x4 + (1 : Int32)))]) (L' := [some (.ref 5), some (.ref 1009), some (.int x2), none, some (.int (x4 + (1 : Int32)))]) (st := []) ⟨rfl, ⟨rfl, ⟨rfl, ⟨rfl, trivial⟩⟩⟩⟩ ?_
          exact ih _ _ _ h
        · have h := h.2 c
          exact A_ret 2 (m := 7) (v := some (.int (0 : Int32))) (S' := S5) rfl rfl ⟨_, rfl, h⟩
  · intro n
    induction n with
    | zero => intro x2 x4 S h; exact h.elim
    | succ n ih =>
      intro x2 x4 S h
      unfold w7_l15 at h
      refine A_call (j := 206) (As := [.ref 1010]) (fr' := (7, 21, [some (.ref 5), some (.ref 1010), some (.int x2), none, some (.int x4)], [.int x4])) (S' := S) 3 rfl (e := 1) (by omega) (A_imp (wt206 1010 (by decide)  h) (fun v S3 hq => ?_))
      obtain ⟨r4, hv, h⟩ := hq
      subst hv
      refine A_br (r4 ≤ x4) (r1 := ((7, 52, [some (.ref 5), some (.ref 1010), some (.int x2), none, some (.int x4)], []), S3)) (r2 := ((7, 24, [some (.ref 5), some (.ref 1010), some (.int x2), none, some (.int x4)], []), S3)) 1 rfl (fun c => ?_) (fun c => ?_)
      · have h := h.1 c
        exact A_ret 2 (m := 7) (v := some (.int (1 : Int32))) (S' := S3) rfl rfl ⟨_, rfl, h⟩
      · have h := h.2 c
        refine A_call (j := 98) (As := [.ref 6, .int (x2 + x4)]) (fr' := (7, 35, [some (.ref 5), some (.ref 1010), some (.int x2), none, some (.int x4)], [])) (S' := S3) 6 rfl (e := 0) (by omega) (sp_item 6 160 _ ⟨by decide, by decide, rfl⟩ (by decide) ?_)
        refine A_call (j := 207) (As := [.ref 1010, .int x4]) (fr' := (7, 41, [some (.ref 5), some (.ref 1010), some (.int x2), none, some (.int x4)], [.int (it (S3.1 6) 160 (x2 + x4))])) (S' := S3) 3 rfl (e := 3) (by omega) (A_imp (wt207 1010 (by decide) x4 h) (fun v S5 hq => ?_))
        obtain ⟨r6, hv, h⟩ := hq
        subst hv
        refine A_br ((it (S3.1 6) 160 (x2 + x4)) = r6) (r1 := ((7, 46, [some (.ref 5), some (.ref 1010), some (.int x2), none, some (.int x4)], []), S5)) (r2 := ((7, 44, [some (.ref 5), some (.ref 1010), some (.int x2), none, some (.int x4)], []), S5)) 1 rfl (fun c => ?_) (fun c => ?_)
        · have h := h.1 c
          refine A_nx 2 (fr' := (7, 15, [some (.ref 5), some (.ref 1010), some (.int x2), none, some (.int (x4 + (1 : Int32)))], [])) (S' := S5) rfl ?_
          refine ri_A.less (m := 7) (pc := 15) (L := [some (.ref 5), some (.ref 1010), some (.int x2), none, some (.int (x4 + (1 : Int32)))]) (L' := [some (.ref 5), some (.ref 1010), some (.int x2), none, some (.int (x4 + (1 : Int32)))]) (st := []) ⟨rfl, ⟨rfl, ⟨rfl, ⟨rfl, trivial⟩⟩⟩⟩ ?_
          exact ih _ _ _ h
        · have h := h.2 c
          exact A_ret 2 (m := 7) (v := some (.int (0 : Int32))) (S' := S5) rfl rfl ⟨_, rfl, h⟩
  · intro n
    induction n with
    | zero => intro x2 x4 S h; exact h.elim
    | succ n ih =>
      intro x2 x4 S h
      unfold w7_l15 at h
      refine A_call (j := 206) (As := [.ref 1011]) (fr' := (7, 21, [some (.ref 5), some (.ref 1011), some (.int x2), none, some (.int x4)], [.int x4])) (S' := S) 3 rfl (e := 1) (by omega) (A_imp (wt206 1011 (by decide)  h) (fun v S3 hq => ?_))
      obtain ⟨r4, hv, h⟩ := hq
      subst hv
      refine A_br (r4 ≤ x4) (r1 := ((7, 52, [some (.ref 5), some (.ref 1011), some (.int x2), none, some (.int x4)], []), S3)) (r2 := ((7, 24, [some (.ref 5), some (.ref 1011), some (.int x2), none, some (.int x4)], []), S3)) 1 rfl (fun c => ?_) (fun c => ?_)
      · have h := h.1 c
        exact A_ret 2 (m := 7) (v := some (.int (1 : Int32))) (S' := S3) rfl rfl ⟨_, rfl, h⟩
      · have h := h.2 c
        refine A_call (j := 98) (As := [.ref 6, .int (x2 + x4)]) (fr' := (7, 35, [some (.ref 5), some (.ref 1011), some (.int x2), none, some (.int x4)], [])) (S' := S3) 6 rfl (e := 0) (by omega) (sp_item 6 160 _ ⟨by decide, by decide, rfl⟩ (by decide) ?_)
        refine A_call (j := 207) (As := [.ref 1011, .int x4]) (fr' := (7, 41, [some (.ref 5), some (.ref 1011), some (.int x2), none, some (.int x4)], [.int (it (S3.1 6) 160 (x2 + x4))])) (S' := S3) 3 rfl (e := 3) (by omega) (A_imp (wt207 1011 (by decide) x4 h) (fun v S5 hq => ?_))
        obtain ⟨r6, hv, h⟩ := hq
        subst hv
        refine A_br ((it (S3.1 6) 160 (x2 + x4)) = r6) (r1 := ((7, 46, [some (.ref 5), some (.ref 1011), some (.int x2), none, some (.int x4)], []), S5)) (r2 := ((7, 44, [some (.ref 5), some (.ref 1011), some (.int x2), none, some (.int x4)], []), S5)) 1 rfl (fun c => ?_) (fun c => ?_)
        · have h := h.1 c
          refine A_nx 2 (fr' := (7, 15, [some (.ref 5), some (.ref 1011), some (.int x2), none, some (.int (x4 + (1 : Int32)))], [])) (S' := S5) rfl ?_
          refine ri_A.less (m := 7) (pc := 15) (L := [some (.ref 5), some (.ref 1011), some (.int x2), none, some (.int (x4 + (1 : Int32)))]) (L' := [some (.ref 5), some (.ref 1011), some (.int x2), none, some (.int (x4 + (1 : Int32)))]) (st := []) ⟨rfl, ⟨rfl, ⟨rfl, ⟨rfl, trivial⟩⟩⟩⟩ ?_
          exact ih _ _ _ h
        · have h := h.2 c
          exact A_ret 2 (m := 7) (v := some (.int (0 : Int32))) (S' := S5) rfl rfl ⟨_, rfl, h⟩
  · intro n
    induction n with
    | zero => intro x2 x4 S h; exact h.elim
    | succ n ih =>
      intro x2 x4 S h
      unfold w7_l15 at h
      refine A_call (j := 206) (As := [.ref 1012]) (fr' := (7, 21, [some (.ref 5), some (.ref 1012), some (.int x2), none, some (.int x4)], [.int x4])) (S' := S) 3 rfl (e := 1) (by omega) (A_imp (wt206 1012 (by decide)  h) (fun v S3 hq => ?_))
      obtain ⟨r4, hv, h⟩ := hq
      subst hv
      refine A_br (r4 ≤ x4) (r1 := ((7, 52, [some (.ref 5), some (.ref 1012), some (.int x2), none, some (.int x4)], []), S3)) (r2 := ((7, 24, [some (.ref 5), some (.ref 1012), some (.int x2), none, some (.int x4)], []), S3)) 1 rfl (fun c => ?_) (fun c => ?_)
      · have h := h.1 c
        exact A_ret 2 (m := 7) (v := some (.int (1 : Int32))) (S' := S3) rfl rfl ⟨_, rfl, h⟩
      · have h := h.2 c
        refine A_call (j := 98) (As := [.ref 6, .int (x2 + x4)]) (fr' := (7, 35, [some (.ref 5), some (.ref 1012), some (.int x2), none, some (.int x4)], [])) (S' := S3) 6 rfl (e := 0) (by omega) (sp_item 6 160 _ ⟨by decide, by decide, rfl⟩ (by decide) ?_)
        refine A_call (j := 207) (As := [.ref 1012, .int x4]) (fr' := (7, 41, [some (.ref 5), some (.ref 1012), some (.int x2), none, some (.int x4)], [.int (it (S3.1 6) 160 (x2 + x4))])) (S' := S3) 3 rfl (e := 3) (by omega) (A_imp (wt207 1012 (by decide) x4 h) (fun v S5 hq => ?_))
        obtain ⟨r6, hv, h⟩ := hq
        subst hv
        refine A_br ((it (S3.1 6) 160 (x2 + x4)) = r6) (r1 := ((7, 46, [some (.ref 5), some (.ref 1012), some (.int x2), none, some (.int x4)], []), S5)) (r2 := ((7, 44, [some (.ref 5), some (.ref 1012), some (.int x2), none, some (.int x4)], []), S5)) 1 rfl (fun c => ?_) (fun c => ?_)
        · have h := h.1 c
          refine A_nx 2 (fr' := (7, 15, [some (.ref 5), some (.ref 1012), some (.int x2), none, some (.int (x4 + (1 : Int32)))], [])) (S' := S5) rfl ?_
          refine ri_A.less (m := 7) (pc := 15) (L := [some (.ref 5), some (.ref 1012), some (.int x2), none, some (.int (x4 + (1 : Int32)))]) (L' := [some (.ref 5), some (.ref 1012), some (.int x2), none, some (.int (x4 + (1 : Int32)))]) (st := []) ⟨rfl, ⟨rfl, ⟨rfl, ⟨rfl, trivial⟩⟩⟩⟩ ?_
          exact ih _ _ _ h
        · have h := h.2 c
          exact A_ret 2 (m := 7) (v := some (.int (0 : Int32))) (S' := S5) rfl rfl ⟨_, rfl, h⟩
def w7 (t : Nat) (a : Int32) (b : Int32) (S : ri_H) (Q : Int32 → ri_H → Prop) : Prop := w206 t  S (fun (r2 : Int32) (S1 : ri_H) => (((b - a) = r2 → ∃ nn, w7_l15 t  Q nn a (0 : Int32) S1) ∧ (¬ (b - a) = r2 → Q (0 : Int32) S1)))
set_option maxRecDepth 10000 in
set_option maxHeartbeats 1000000 in
theorem wt7 {E : ri_E} (t : Nat) (hw : t = 1001 ∨ t = 1002 ∨ t = 1003 ∨ t = 1004 ∨ t = 1005 ∨ t = 1006 ∨ t = 1007 ∨ t = 1008 ∨ t = 1009 ∨ t = 1010 ∨ t = 1011 ∨ t = 1012) (a : Int32) (b : Int32) {S : ri_H} {Q : Int32 → ri_H → Prop} (h : w7 t a b S Q) : ri_A E 4 (ri_en 7 [.ref 5, .ref t, .int a, .int b]) S (Qi Q) := by
  rcases hw with rfl | rfl | rfl | rfl | rfl | rfl | rfl | rfl | rfl | rfl | rfl | rfl
  · unfold w7 at h
    show ri_A E 4 (7, 0, [some (.ref 5), some (.ref 1001), some (.int a), some (.int b), none], []) S (Qi Q)
    refine A_call (j := 206) (As := [.ref 1001]) (fr' := (7, 7, [some (.ref 5), some (.ref 1001), some (.int a), some (.int b), none], [.int (b - a)])) (S' := S) 5 rfl (e := 1) (by omega) (A_imp (wt206 1001 (by decide)  h) (fun v S1 hq => ?_))
    obtain ⟨r2, hv, h⟩ := hq
    subst hv
    refine A_br ((b - a) = r2) (r1 := ((7, 12, [some (.ref 5), some (.ref 1001), some (.int a), some (.int b), none], []), S1)) (r2 := ((7, 10, [some (.ref 5), some (.ref 1001), some (.int a), some (.int b), none], []), S1)) 1 rfl (fun c => ?_) (fun c => ?_)
    · have h := h.1 c
      refine A_nx 2 (fr' := (7, 15, [some (.ref 5), some (.ref 1001), some (.int a), some (.int b), some (.int (0 : Int32))], [])) (S' := S1) rfl ?_
      refine ri_A.less (m := 7) (pc := 15) (L := [some (.ref 5), some (.ref 1001), some (.int a), some (.int b), some (.int (0 : Int32))]) (L' := [some (.ref 5), some (.ref 1001), some (.int a), none, some (.int (0 : Int32))]) (st := []) ⟨rfl, ⟨rfl, ⟨rfl, ⟨rfl, trivial⟩⟩⟩⟩ ?_
      obtain ⟨nn, h⟩ := h
      exact wt7_l15 1001 (by decide)  nn _ _ _ h
    · have h := h.2 c
      exact A_ret 2 (m := 7) (v := some (.int (0 : Int32))) (S' := S1) rfl rfl ⟨_, rfl, h⟩
  · unfold w7 at h
    show ri_A E 4 (7, 0, [some (.ref 5), some (.ref 1002), some (.int a), some (.int b), none], []) S (Qi Q)
    refine A_call (j := 206) (As := [.ref 1002]) (fr' := (7, 7, [some (.ref 5), some (.ref 1002), some (.int a), some (.int b), none], [.int (b - a)])) (S' := S) 5 rfl (e := 1) (by omega) (A_imp (wt206 1002 (by decide)  h) (fun v S1 hq => ?_))
    obtain ⟨r2, hv, h⟩ := hq
    subst hv
    refine A_br ((b - a) = r2) (r1 := ((7, 12, [some (.ref 5), some (.ref 1002), some (.int a), some (.int b), none], []), S1)) (r2 := ((7, 10, [some (.ref 5), some (.ref 1002), some (.int a), some (.int b), none], []), S1)) 1 rfl (fun c => ?_) (fun c => ?_)
    · have h := h.1 c
      refine A_nx 2 (fr' := (7, 15, [some (.ref 5), some (.ref 1002), some (.int a), some (.int b), some (.int (0 : Int32))], [])) (S' := S1) rfl ?_
      refine ri_A.less (m := 7) (pc := 15) (L := [some (.ref 5), some (.ref 1002), some (.int a), some (.int b), some (.int (0 : Int32))]) (L' := [some (.ref 5), some (.ref 1002), some (.int a), none, some (.int (0 : Int32))]) (st := []) ⟨rfl, ⟨rfl, ⟨rfl, ⟨rfl, trivial⟩⟩⟩⟩ ?_
      obtain ⟨nn, h⟩ := h
      exact wt7_l15 1002 (by decide)  nn _ _ _ h
    · have h := h.2 c
      exact A_ret 2 (m := 7) (v := some (.int (0 : Int32))) (S' := S1) rfl rfl ⟨_, rfl, h⟩
  · unfold w7 at h
    show ri_A E 4 (7, 0, [some (.ref 5), some (.ref 1003), some (.int a), some (.int b), none], []) S (Qi Q)
    refine A_call (j := 206) (As := [.ref 1003]) (fr' := (7, 7, [some (.ref 5), some (.ref 1003), some (.int a), some (.int b), none], [.int (b - a)])) (S' := S) 5 rfl (e := 1) (by omega) (A_imp (wt206 1003 (by decide)  h) (fun v S1 hq => ?_))
    obtain ⟨r2, hv, h⟩ := hq
    subst hv
    refine A_br ((b - a) = r2) (r1 := ((7, 12, [some (.ref 5), some (.ref 1003), some (.int a), some (.int b), none], []), S1)) (r2 := ((7, 10, [some (.ref 5), some (.ref 1003), some (.int a), some (.int b), none], []), S1)) 1 rfl (fun c => ?_) (fun c => ?_)
    · have h := h.1 c
      refine A_nx 2 (fr' := (7, 15, [some (.ref 5), some (.ref 1003), some (.int a), some (.int b), some (.int (0 : Int32))], [])) (S' := S1) rfl ?_
      refine ri_A.less (m := 7) (pc := 15) (L := [some (.ref 5), some (.ref 1003), some (.int a), some (.int b), some (.int (0 : Int32))]) (L' := [some (.ref 5), some (.ref 1003), some (.int a), none, some (.int (0 : Int32))]) (st := []) ⟨rfl, ⟨rfl, ⟨rfl, ⟨rfl, trivial⟩⟩⟩⟩ ?_
      obtain ⟨nn, h⟩ := h
      exact wt7_l15 1003 (by decide)  nn _ _ _ h
    · have h := h.2 c
      exact A_ret 2 (m := 7) (v := some (.int (0 : Int32))) (S' := S1) rfl rfl ⟨_, rfl, h⟩
  · unfold w7 at h
    show ri_A E 4 (7, 0, [some (.ref 5), some (.ref 1004), some (.int a), some (.int b), none], []) S (Qi Q)
    refine A_call (j := 206) (As := [.ref 1004]) (fr' := (7, 7, [some (.ref 5), some (.ref 1004), some (.int a), some (.int b), none], [.int (b - a)])) (S' := S) 5 rfl (e := 1) (by omega) (A_imp (wt206 1004 (by decide)  h) (fun v S1 hq => ?_))
    obtain ⟨r2, hv, h⟩ := hq
    subst hv
    refine A_br ((b - a) = r2) (r1 := ((7, 12, [some (.ref 5), some (.ref 1004), some (.int a), some (.int b), none], []), S1)) (r2 := ((7, 10, [some (.ref 5), some (.ref 1004), some (.int a), some (.int b), none], []), S1)) 1 rfl (fun c => ?_) (fun c => ?_)
    · have h := h.1 c
      refine A_nx 2 (fr' := (7, 15, [some (.ref 5), some (.ref 1004), some (.int a), some (.int b), some (.int (0 : Int32))], [])) (S' := S1) rfl ?_
      refine ri_A.less (m := 7) (pc := 15) (L := [some (.ref 5), some (.ref 1004), some (.int a), some (.int b), some (.int (0 : Int32))]) (L' := [some (.ref 5), some (.ref 1004), some (.int a), none, some (.int (0 : Int32))]) (st := []) ⟨rfl, ⟨rfl, ⟨rfl, ⟨rfl, trivial⟩⟩⟩⟩ ?_
      obtain ⟨nn, h⟩ := h
      exact wt7_l15 1004 (by decide)  nn _ _ _ h
    · have h := h.2 c
      exact A_ret 2 (m := 7) (v := some (.int (0 : Int32))) (S' := S1) rfl rfl ⟨_, rfl, h⟩
  · unfold w7 at h
    show ri_A E 4 (7, 0, [some (.ref 5), some (.ref 1005), some (.int a), some (.int b), none], []) S (Qi Q)
    refine A_call (j := 206) (As := [.ref 1005]) (fr' := (7, 7, [some (.ref 5), some (.ref 1005), some (.int a), some (.int b), none], [.int (b - a)])) (S' := S) 5 rfl (e := 1) (by omega) (A_imp (wt206 1005 (by decide)  h) (fun v S1 hq => ?_))
    obtain ⟨r2, hv, h⟩ := hq
    subst hv
    refine A_br ((b - a) = r2) (r1 := ((7, 12, [some (.ref 5), some (.ref 1005), some (.int a), some (.int b), none], []), S1)) (r2 := ((7, 10, [some (.ref 5), some (.ref 1005), some (.int a), some (.int b), none], []), S1)) 1 rfl (fun c => ?_) (fun c => ?_)
    · have h := h.1 c
      refine A_nx 2 (fr' := (7, 15, [some (.ref 5), some (.ref 1005), some (.int a), some (.int b), some (.int (0 : Int32))], [])) (S' := S1) rfl ?_
      refine ri_A.less (m := 7) (pc := 15) (L := [some (.ref 5), some (.ref 1005), some (.int a), some (.int b), some (.int (0 : Int32))]) (L' := [some (.ref 5), some (.ref 1005), some (.int a), none, some (.int (0 : Int32))]) (st := []) ⟨rfl, ⟨rfl, ⟨rfl, ⟨rfl, trivial⟩⟩⟩⟩ ?_
      obtain ⟨nn, h⟩ := h
      exact wt7_l15 1005 (by decide)  nn _ _ _ h
    · have h := h.2 c
      exact A_ret 2 (m := 7) (v := some (.int (0 : Int32))) (S' := S1) rfl rfl ⟨_, rfl, h⟩
  · unfold w7 at h
    show ri_A E 4 (7, 0, [some (.ref 5), some (.ref 1006), some (.int a), some (.int b), none], []) S (Qi Q)
    refine A_call (j := 206) (As := [.ref 1006]) (fr' := (7, 7, [some (.ref 5), some (.ref 1006), some (.int a), some (.int b), none], [.int (b - a)])) (S' := S) 5 rfl (e := 1) (by omega) (A_imp (wt206 1006 (by decide)  h) (fun v S1 hq => ?_))
    obtain ⟨r2, hv, h⟩ := hq
    subst hv
    refine A_br ((b - a) = r2) (r1 := ((7, 12, [some (.ref 5), some (.ref 1006), some (.int a), some (.int b), none], []), S1)) (r2 := ((7, 10, [some (.ref 5), some (.ref 1006), some (.int a), some (.int b), none], []), S1)) 1 rfl (fun c => ?_) (fun c => ?_)
    · have h := h.1 c
      refine A_nx 2 (fr' := (7, 15, [some (.ref 5), some (.ref 1006), some (.int a), some (.int b), some (.int (0 : Int32))], [])) (S' := S1) rfl ?_
      refine ri_A.less (m := 7) (pc := 15) (L := [some (.ref 5), some (.ref 1006), some (.int a), some (.int b), some (.int (0 : Int32))]) (L' := [some (.ref 5), some (.ref 1006), some (.int a), none, some (.int (0 : Int32))]) (st := []) ⟨rfl, ⟨rfl, ⟨rfl, ⟨rfl, trivial⟩⟩⟩⟩ ?_
      obtain ⟨nn, h⟩ := h
      exact wt7_l15 1006 (by decide)  nn _ _ _ h
    · have h := h.2 c
      exact A_ret 2 (m := 7) (v := some (.int (0 : Int32))) (S' := S1) rfl rfl ⟨_, rfl, h⟩
  · unfold w7 at h
    show ri_A E 4 (7, 0, [some (.ref 5), some (.ref 1007), some (.int a), some (.int b), none], []) S (Qi Q)
    refine A_call (j := 206) (As := [.ref 1007]) (fr' := (7, 7, [some (.ref 5), some (.ref 1007), some (.int a), some (.int b), none], [.int (b - a)])) (S' := S) 5 rfl (e := 1) (by omega) (A_imp (wt206 1007 (by decide)  h) (fun v S1 hq => ?_))
    obtain ⟨r2, hv, h⟩ := hq
    subst hv
    refine A_br ((b - a) = r2) (r1 := ((7, 12, [some (.ref 5), some (.ref 1007), some (.int a), some (.int b), none], []), S1)) (r2 := ((7, 10, [some (.ref 5), some (.ref 1007), some (.int a), some (.int b), none], []), S1)) 1 rfl (fun c => ?_) (fun c => ?_)
    · have h := h.1 c
      refine A_nx 2 (fr' := (7, 15, [some (.ref 5), some (.ref 1007), some (.int a), some (.int b), some (.int (0 : Int32))], [])) (S' := S1) rfl ?_
      refine ri_A.less (m := 7) (pc := 15) (L := [some (.ref 5), some (.ref 1007), some (.int a), some (.int b), some (.int (0 : Int32))]) (L' := [some (.ref 5), some (.ref 1007), some (.int a), none, some (.int (0 : Int32))]) (st := []) ⟨rfl, ⟨rfl, ⟨rfl, ⟨rfl, trivial⟩⟩⟩⟩ ?_
      obtain ⟨nn, h⟩ := h
      exact wt7_l15 1007 (by decide)  nn _ _ _ h
    · have h := h.2 c
      exact A_ret 2 (m := 7) (v := some (.int (0 : Int32))) (S' := S1) rfl rfl ⟨_, rfl, h⟩
  · unfold w7 at h
    show ri_A E 4 (7, 0, [some (.ref 5), some (.ref 1008), some (.int a), some (.int b), none], []) S (Qi Q)
    refine A_call (j := 206) (As := [.ref 1008]) (fr' := (7, 7, [some (.ref 5), some (.ref 1008), some (.int a), some (.int b), none], [.int (b - a)])) (S' := S) 5 rfl (e := 1) (by omega) (A_imp (wt206 1008 (by decide)  h) (fun v S1 hq => ?_))
    obtain ⟨r2, hv, h⟩ := hq
    subst hv
    refine A_br ((b - a) = r2) (r1 := ((7, 12, [some (.ref 5), some (.ref 1008), some (.int a), some (.int b), none], []), S1)) (r2 := ((7, 10, [some (.ref 5), some (.ref 1008), some (.int a), some (.int b), none], []), S1)) 1 rfl (fun c => ?_) (fun c => ?_)
    · have h := h.1 c
      refine A_nx 2 (fr' := (7, 15, [some (.ref 5), some (.ref 1008), some (.int a), some (.int b), some (.int (0 : Int32))], [])) (S' := S1) rfl ?_
      refine ri_A.less (m := 7) (pc := 15) (L := [some (.ref 5), some (.ref 1008), some (.int a), some (.int b), some (.int (0 : Int32))]) (L' := [some (.ref 5), some (.ref 1008), some (.int a), none, some (.int (0 : Int32))]) (st := []) ⟨rfl, ⟨rfl, ⟨rfl, ⟨rfl, trivial⟩⟩⟩⟩ ?_
      obtain ⟨nn, h⟩ := h
      exact wt7_l15 1008 (by decide)  nn _ _ _ h
    · have h := h.2 c
      exact A_ret 2 (m := 7) (v := some (.int (0 : Int32))) (S' := S1) rfl rfl ⟨_, rfl, h⟩
  · unfold w7 at h
    show ri_A E 4 (7, 0, [some (.ref 5), some (.ref 1009), some (.int a), some (.int b), none], []) S (Qi Q)
    refine A_call (j := 206) (As := [.ref 1009]) (fr' := (7, 7, [some (.ref 5), some (.ref 1009), some (.int a), some (.int b), none], [.int (b - a)])) (S' := S) 5 rfl (e := 1) (by omega) (A_imp (wt206 1009 (by decide)  h) (fun v S1 hq => ?_))
    obtain ⟨r2, hv, h⟩ := hq
    subst hv
    refine A_br ((b - a) = r2) (r1 := ((7, 12, [some (.ref 5), some (.ref 1009), some (.int a), some (.int b), none], []), S1)) (r2 := ((7, 10, [some (.ref 5), some (.ref 1009), some (.int a), some (.int b), none], []), S1)) 1 rfl (fun c => ?_) (fun c => ?_)
    · have h := h.1 c
      refine A_nx 2 (fr' := (7, 15, [some (.ref 5), some (.ref 1009), some (.int a), some (.int b), some (.int (0 : Int32))], [])) (S' := S1) rfl ?_
      refine ri_A.less (m := 7) (pc := 15) (L := [some (.ref 5), some (.ref 1009), some (.int a), some (.int b), some (.int (0 : Int32))]) (L' := [some (.ref 5), some (.ref 1009), some (.int a), none, some (.int (0 : Int32))]) (st := []) ⟨rfl, ⟨rfl, ⟨rfl, ⟨rfl, trivial⟩⟩⟩⟩ ?_
      obtain ⟨nn, h⟩ := h
      exact wt7_l15 1009 (by decide)  nn _ _ _ h
    · have h := h.2 c
      exact A_ret 2 (m := 7) (v := some (.int (0 : Int32))) (S' := S1) rfl rfl ⟨_, rfl, h⟩
  · unfold w7 at h
    show ri_A E 4 (7, 0, [some (.ref 5), some (.ref 1010), some (.int a), some (.int b), none], []) S (Qi Q)
    refine A_call (j := 206) (As := [.ref 1010]) (fr' := (7, 7, [some (.ref 5), some (.ref 1010), some (.int a), some (.int b), none], [.int (b - a)])) (S' := S) 5 rfl (e := 1) (by omega) (A_imp (wt206 1010 (by decide)  h) (fun v S1 hq => ?_))
    obtain ⟨r2, hv, h⟩ := hq
    subst hv
    refine A_br ((b - a) = r2) (r1 := ((7, 12, [some (.ref 5), some (.ref 1010), some (.int a), some (.int b), none], []), S1)) (r2 := ((7, 10, [some (.ref 5), some (.ref 1010), some (.int a), some (.int b), none], []), S1)) 1 rfl (fun c => ?_) (fun c => ?_)
    · have h := h.1 c
      refine A_nx 2 (fr' := (7, 15, [some (.ref 5), some (.ref 1010), some (.int a), some (.int b), some (.int (0 : Int32))], [])) (S' := S1) rfl ?_
      refine ri_A.less (m := 7) (pc := 15) (L := [some (.ref 5), some (.ref 1010), some (.int a), some (.int b), some (.int (0 : Int32))]) (L' := [some (.ref 5), some (.ref 1010), some (.int a), none, some (.int (0 : Int32))]) (st := []) ⟨rfl, ⟨rfl, ⟨rfl, ⟨rfl, trivial⟩⟩⟩⟩ ?_
      obtain ⟨nn, h⟩ := h
      exact wt7_l15 1010 (by decide)  nn _ _ _ h
    · have h := h.2 c
      exact A_ret 2 (m := 7) (v := some (.int (0 : Int32))) (S' := S1) rfl rfl ⟨_, rfl, h⟩
  · unfold w7 at h
    show ri_A E 4 (7, 0, [some (.ref 5), some (.ref 1011), some (.int a), some (.int b), none], []) S (Qi Q)
    refine A_call (j := 206) (As := [.ref 1011]) (fr' := (7, 7, [some (.ref 5), some (.ref 1011), some (.int a), some (.int b), none], [.int (b - a)])) (S' := S) 5 rfl (e := 1) (by omega) (A_imp (wt206 1011 (by decide)  h) (fun v S1 hq => ?_))
    obtain ⟨r2, hv, h⟩ := hq
    subst hv
    refine A_br ((b - a) = r2) (r1 := ((7, 12, [some (.ref 5), some (.ref 1011), some (.int a), some (.int b), none], []), S1)) (r2 := ((7, 10, [some (.ref 5), some (.ref 1011), some (.int a), some (.int b), none], []), S1)) 1 rfl (fun c => ?_) (fun c => ?_)
    · have h := h.1 c
      refine A_nx 2 (fr' := (7, 15, [some (.ref 5), some (.ref 1011), some (.int a), some (.int b), some (.int (0 : Int32))], [])) (S' := S1) rfl ?_
      refine ri_A.less (m := 7) (pc := 15) (L := [some (.ref 5), some (.ref 1011), some (.int a), some (.int b), some (.int (0 : Int32))]) (L' := [some (.ref 5), some (.ref 1011), some (.int a), none, some (.int (0 : Int32))]) (st := []) ⟨rfl, ⟨rfl, ⟨rfl, ⟨rfl, trivial⟩⟩⟩⟩ ?_
      obtain ⟨nn, h⟩ := h
      exact wt7_l15 1011 (by decide)  nn _ _ _ h
    · have h := h.2 c
      exact A_ret 2 (m := 7) (v := some (.int (0 : Int32))) (S' := S1) rfl rfl ⟨_, rfl, h⟩
  · unfold w7 at h
    show ri_A E 4 (7, 0, [some (.ref 5), some (.ref 1012), some (.int a), some (.int b), none], []) S (Qi Q)
    refine A_call (j := 206) (As := [.ref 1012]) (fr' := (7, 7, [some (.ref 5), some (.ref 1012), some (.int a), some (.int b), none], [.int (b - a)])) (S' := S) 5 rfl (e := 1) (by omega) (A_imp (wt206 1012 (by decide)  h) (fun v S1 hq => ?_))
    obtain ⟨r2, hv, h⟩ := hq
    subst hv
    refine A_br ((b - a) = r2) (r1 := ((7, 12, [some (.ref 5), some (.ref 1012), some (.int a), some (.int b), none], []), S1)) (r2 := ((7, 10, [some (.ref 5), some (.ref 1012), some (.int a), some (.int b), none], []), S1)) 1 rfl (fun c => ?_) (fun c => ?_)
    · have h := h.1 c
      refine A_nx 2 (fr' := (7, 15, [some (.ref 5), some (.ref 1012), some (.int a), some (.int b), some (.int (0 : Int32))], [])) (S' := S1) rfl ?_
      refine ri_A.less (m := 7) (pc := 15) (L := [some (.ref 5), some (.ref 1012), some (.int a), some (.int b), some (.int (0 : Int32))]) (L' := [some (.ref 5), some (.ref 1012), some (.int a), none, some (.int (0 : Int32))]) (st := []) ⟨rfl, ⟨rfl, ⟨rfl, ⟨rfl, trivial⟩⟩⟩⟩ ?_
      obtain ⟨nn, h⟩ := h
      exact wt7_l15 1012 (by decide)  nn _ _ _ h
    · have h := h.2 c
      exact A_ret 2 (m := 7) (v := some (.int (0 : Int32))) (S' := S1) rfl rfl ⟨_, rfl, h⟩
/-! X0_wordSort, depth 5 -/
def w6_b94 (Q : Int32 → ri_H → Prop) (x1 : Int32) (x2 : Int32) (s0 : Int32) (S : ri_H) : Prop := ((s0 = (1 : Int32) → w7 1007 x1 x2 S (fun (r14 : Int32) (S13 : ri_H) => ((r14 = 0 → w7 1008 x1 x2 S13 (fun (r16 : Int32) (S15 : ri_H) => ((r16 = 0 → w7 1009 x1 x2 S15 (fun (r18 : Int32) (S17 : ri_H) => ((r18 = 0 → w7 1010 x1 x2 S17 (fun (r20 : Int32) (S19 : ri_H) => ((r20 = 0 → w7 1011 x1 x2 S19 (fun (r22 : Int32) (S21 : ri_H) => ((r22 = 0 → w7 1012 x1 x2 S21 (fun (r24 : Int32) (S23 : ri_H) => ((r24 = 0 → Q (1 : Int32) S23) ∧ (¬ (r24 = 0) → Q (15 : Int32) S23)))) ∧ (¬ (r22 = 0) → Q (14 : Int32) S21)))) ∧ (¬ (r20 = 0) → Q (13 : Int32) S19)))) ∧ (¬ (r18 = 0) → Q (12 : Int32) S17)))) ∧ (¬ (r16 = 0) → Q (11 : Int32) S15)))) ∧ (¬ (r14 = 0) → Q (10 : Int32) S13)))) ∧ (¬ (s0 = (1 : Int32)) → Q s0 S))
set_option maxRecDepth 10000 in
set_option maxHeartbeats 1000000 in
theorem wt6_b94 {E : ri_E} {Q : Int32 → ri_H → Prop} (x1 : Int32) (x2 : Int32) (s0 : Int32) (S : ri_H) (h : w6_b94   Q x1 x2 s0 S) : ri_A E 5 (6, 94, [some (.ref 5), some (.int x1), some (.int x2), none], [.int s0]) S (Qi Q) := by
  unfold w6_b94 at h
  refine A_br (s0 = (1 : Int32)) (r1 := ((6, 102, [some (.ref 5), some (.int x1), some (.int x2), some (.int s0)], []), S)) (r2 := ((6, 100, [some (.ref 5), some (.int x1), some (.int x2), some (.int s0)], []), S)) 4 rfl (fun c => ?_) (fun c => ?_)
  · have h := h.1 c
    refine A_call (j := 7) (As := [.ref 5, .ref 1007, .int x1, .int x2]) (fr' := (6, 110, [some (.ref 5), some (.int x1), some (.int x2), some (.int s0)], [])) (S' := S) 5 rfl (e := 4) (by omega) (A_imp (wt7 1007 (by decide) x1 x2 h) (fun v S13 hq => ?_))
    obtain ⟨r14, hv, h⟩ := hq
    subst hv
    refine A_br (r14 = 0) (r1 := ((6, 118, [some (.ref 5), some (.int x1), some (.int x2), some (.int s0)], []), S13)) (r2 := ((6, 113, [some (.ref 5), some (.int x1), some (.int x2), some (.int s0)], []), S13)) 1 rfl (fun c => ?_) (fun c => ?_)
    · have h := h.1 c
      refine A_call (j := 7) (As := [.ref 5, .ref 1008, .int x1, .int x2]) (fr' := (6, 126, [some (.ref 5), some (.int x1), some (.int x2), some (.int s0)], [])) (S' := S13) 5 rfl (e := 4) (by omega) (A_imp (wt7 1008 (by decide) x1 x2 h) (fun v S15 hq => ?_))
      obtain ⟨r16, hv, h⟩ := hq
      subst hv
      refine A_br (r16 = 0) (r1 := ((6, 134, [some (.ref 5), some (.int x1), some (.int x2), some (.int s0)], []), S15)) (r2 := ((6, 129, [some (.ref 5), some (.int x1), some (.int x2), some (.int s0)], []), S15)) 1 rfl (fun c => ?_) (fun c => ?_)
      · have h := h.1 c
        refine A_call (j := 7) (As := [.ref 5, .ref 1009, .int x1, .int x2]) (fr' := (6, 142, [some (.ref 5), some (.int x1), some (.int x2), some (.int s0)], [])) (S' := S15) 5 rfl (e := 4) (by omega) (A_imp (wt7 1009 (by decide) x1 x2 h) (fun v S17 hq => ?_))
        obtain ⟨r18, hv, h⟩ := hq
        subst hv
        refine A_br (r18 = 0) (r1 := ((6, 150, [some (.ref 5), some (.int x1), some (.int x2), some (.int s0)], []), S17)) (r2 := ((6, 145, [some (.ref 5), some (.int x1), some (.int x2), some (.int s0)], []), S17)) 1 rfl (fun c => ?_) (fun c => ?_)
        · have h := h.1 c
          refine A_call (j := 7) (As := [.ref 5, .ref 1010, .int x1, .int x2]) (fr' := (6, 158, [some (.ref 5), some (.int x1), some (.int x2), some (.int s0)], [])) (S' := S17) 5 rfl (e := 4) (by omega) (A_imp (wt7 1010 (by decide) x1 x2 h) (fun v S19 hq => ?_))
          obtain ⟨r20, hv, h⟩ := hq
          subst hv
          refine A_br (r20 = 0) (r1 := ((6, 166, [some (.ref 5), some (.int x1), some (.int x2), some (.int s0)], []), S19)) (r2 := ((6, 161, [some (.ref 5), some (.int x1), some (.int x2), some (.int s0)], []), S19)) 1 rfl (fun c => ?_) (fun c => ?_)
          · have h := h.1 c
            refine A_call (j := 7) (As := [.ref 5, .ref 1011, .int x1, .int x2]) (fr' := (6, 174, [some (.ref 5), some (.int x1), some (.int x2), some (.int s0)], [])) (S' := S19) 5 rfl (e := 4) (by omega) (A_imp (wt7 1011 (by decide) x1 x2 h) (fun v S21 hq => ?_))
            obtain ⟨r22, hv, h⟩ := hq
            subst hv
            refine A_br (r22 = 0) (r1 := ((6, 182, [some (.ref 5), some (.int x1), some (.int x2), some (.int s0)], []), S21)) (r2 := ((6, 177, [some (.ref 5), some (.int x1), some (.int x2), some (.int s0)], []), S21)) 1 rfl (fun c => ?_) (fun c => ?_)
            · have h := h.1 c
              refine A_call (j := 7) (As := [.ref 5, .ref 1012, .int x1, .int x2]) (fr' := (6, 190, [some (.ref 5), some (.int x1), some (.int x2), some (.int s0)], [])) (S' := S21) 5 rfl (e := 4) (by omega) (A_imp (wt7 1012 (by decide) x1 x2 h) (fun v S23 hq => ?_))
              obtain ⟨r24, hv, h⟩ := hq
              subst hv
              refine A_br (r24 = 0) (r1 := ((6, 198, [some (.ref 5), some (.int x1), some (.int x2), some (.int s0)], []), S23)) (r2 := ((6, 193, [some (.ref 5), some (.int x1), some (.int x2), some (.int s0)], []), S23)) 1 rfl (fun c => ?_) (fun c => ?_)
              · have h := h.1 c
                exact A_ret 2 (m := 6) (v := some (.int (1 : Int32))) (S' := S23) rfl rfl ⟨_, rfl, h⟩
              · have h := h.2 c
                exact A_ret 3 (m := 6) (v := some (.int (15 : Int32))) (S' := S23) rfl rfl ⟨_, rfl, h⟩
            · have h := h.2 c
              exact A_ret 3 (m := 6) (v := some (.int (14 : Int32))) (S' := S21) rfl rfl ⟨_, rfl, h⟩
          · have h := h.2 c
            exact A_ret 3 (m := 6) (v := some (.int (13 : Int32))) (S' := S19) rfl rfl ⟨_, rfl, h⟩
        · have h := h.2 c
          exact A_ret 3 (m := 6) (v := some (.int (12 : Int32))) (S' := S17) rfl rfl ⟨_, rfl, h⟩
      · have h := h.2 c
        exact A_ret 3 (m := 6) (v := some (.int (11 : Int32))) (S' := S15) rfl rfl ⟨_, rfl, h⟩
    · have h := h.2 c
      exact A_ret 3 (m := 6) (v := some (.int (10 : Int32))) (S' := S13) rfl rfl ⟨_, rfl, h⟩
  · have h := h.2 c
    exact A_ret 2 (m := 6) (v := some (.int s0)) (S' := S) rfl rfl ⟨_, rfl, h⟩
def w6 (a : Int32) (b : Int32) (S : ri_H) (Q : Int32 → ri_H → Prop) : Prop := w7 1001 a b S (fun (r2 : Int32) (S1 : ri_H) => ((r2 = 0 → w7 1002 a b S1 (fun (r4 : Int32) (S3 : ri_H) => ((r4 = 0 → w7 1003 a b S3 (fun (r6 : Int32) (S5 : ri_H) => ((r6 = 0 → w7 1004 a b S5 (fun (r8 : Int32) (S7 : ri_H) => ((r8 = 0 → w7 1005 a b S7 (fun (r10 : Int32) (S9 : ri_H) => ((r10 = 0 → w7 1006 a b S9 (fun (r12 : Int32) (S11 : ri_H) => ((r12 = 0 → w6_b94   Q a b (1 : Int32) S11) ∧ (¬ (r12 = 0) → w6_b94   Q a b (8 : Int32) S11)))) ∧ (¬ (r10 = 0) → w6_b94   Q a b (7 : Int32) S9)))) ∧ (¬ (r8 = 0) → w6_b94   Q a b (6 : Int32) S7)))) ∧ (¬ (r6 = 0) → w6_b94   Q a b (5 : Int32) S5)))) ∧ (¬ (r4 = 0) → w6_b94   Q a b (4 : Int32) S3)))) ∧ (¬ (r2 = 0) → w6_b94   Q a b (3 : Int32) S1)))
set_option maxRecDepth 10000 in
set_option maxHeartbeats 1000000 in
theorem wt6 {E : ri_E} (a : Int32) (b : Int32) {S : ri_H} {Q : Int32 → ri_H → Prop} (h : w6  a b S Q) : ri_A E 5 (ri_en 6 [.ref 5, .int a, .int b]) S (Qi Q) := by
  unfold w6 at h
  show ri_A E 5 (6, 0, [some (.ref 5), some (.int a), some (.int b), none], []) S (Qi Q)
  refine A_call (j := 7) (As := [.ref 5, .ref 1001, .int a, .int b]) (fr' := (6, 8, [some (.ref 5), some (.int a), some (.int b), none], [])) (S' := S) 5 rfl (e := 4) (by omega) (A_imp (wt7 1001 (by decide) a b h) (fun v S1 hq => ?_))
  obtain ⟨r2, hv, h⟩ := hq
  subst hv
  refine A_br (r2 = 0) (r1 := ((6, 15, [some (.ref 5), some (.int a), some (.int b), none], []), S1)) (r2 := ((6, 11, [some (.ref 5), some (.int a), some (.int b), none], []), S1)) 1 rfl (fun c => ?_) (fun c => ?_)
  · have h := h.1 c
    refine A_call (j := 7) (As := [.ref 5, .ref 1002, .int a, .int b]) (fr' := (6, 23, [some (.ref 5), some (.int a), some (.int b), none], [])) (S' := S1) 5 rfl (e := 4) (by omega) (A_imp (wt7 1002 (by decide) a b h) (fun v S3 hq => ?_))
    obtain ⟨r4, hv, h⟩ := hq
    subst hv
    refine A_br (r4 = 0) (r1 := ((6, 30, [some (.ref 5), some (.int a), some (.int b), none], []), S3)) (r2 := ((6, 26, [some (.ref 5), some (.int a), some (.int b), none], []), S3)) 1 rfl (fun c => ?_) (fun c => ?_)
    · have h := h.1 c
      refine A_call (j := 7) (As := [.ref 5, .ref 1003, .int a, .int b]) (fr' := (6, 38, [some (.ref 5), some (.int a), some (.int b), none], [])) (S' := S3) 5 rfl (e := 4) (by omega) (A_imp (wt7 1003 (by decide) a b h) (fun v S5 hq => ?_))
      obtain ⟨r6, hv, h⟩ := hq
      subst hv
      refine A_br (r6 = 0) (r1 := ((6, 45, [some (.ref 5), some (.int a), some (.int b), none], []), S5)) (r2 := ((6, 41, [some (.ref 5), some (.int a), some (.int b), none], []), S5)) 1 rfl (fun c => ?_) (fun c => ?_)
      · have h := h.1 c
        refine A_call (j := 7) (As := [.ref 5, .ref 1004, .int a, .int b]) (fr' := (6, 53, [some (.ref 5), some (.int a), some (.int b), none], [])) (S' := S5) 5 rfl (e := 4) (by omega) (A_imp (wt7 1004 (by decide) a b h) (fun v S7 hq => ?_))
        obtain ⟨r8, hv, h⟩ := hq
        subst hv
        refine A_br (r8 = 0) (r1 := ((6, 61, [some (.ref 5), some (.int a), some (.int b), none], []), S7)) (r2 := ((6, 56, [some (.ref 5), some (.int a), some (.int b), none], []), S7)) 1 rfl (fun c => ?_) (fun c => ?_)
        · have h := h.1 c
          refine A_call (j := 7) (As := [.ref 5, .ref 1005, .int a, .int b]) (fr' := (6, 69, [some (.ref 5), some (.int a), some (.int b), none], [])) (S' := S7) 5 rfl (e := 4) (by omega) (A_imp (wt7 1005 (by decide) a b h) (fun v S9 hq => ?_))
          obtain ⟨r10, hv, h⟩ := hq
          subst hv
          refine A_br (r10 = 0) (r1 := ((6, 77, [some (.ref 5), some (.int a), some (.int b), none], []), S9)) (r2 := ((6, 72, [some (.ref 5), some (.int a), some (.int b), none], []), S9)) 1 rfl (fun c => ?_) (fun c => ?_)
          · have h := h.1 c
            refine A_call (j := 7) (As := [.ref 5, .ref 1006, .int a, .int b]) (fr' := (6, 85, [some (.ref 5), some (.int a), some (.int b), none], [])) (S' := S9) 5 rfl (e := 4) (by omega) (A_imp (wt7 1006 (by decide) a b h) (fun v S11 hq => ?_))
            obtain ⟨r12, hv, h⟩ := hq
            subst hv
            refine A_br (r12 = 0) (r1 := ((6, 93, [some (.ref 5), some (.int a), some (.int b), none], []), S11)) (r2 := ((6, 88, [some (.ref 5), some (.int a), some (.int b), none], []), S11)) 1 rfl (fun c => ?_) (fun c => ?_)
            · have h := h.1 c
              refine A_nx 1 (fr' := (6, 94, [some (.ref 5), some (.int a), some (.int b), none], [.int (1 : Int32)])) (S' := S11) rfl ?_
              refine ri_A.less (m := 6) (pc := 94) (L := [some (.ref 5), some (.int a), some (.int b), none]) (L' := [some (.ref 5), some (.int a), some (.int b), none]) (st := [.int (1 : Int32)]) ⟨rfl, ⟨rfl, ⟨rfl, trivial⟩⟩⟩ ?_
              exact wt6_b94   _ _ _ _ h
            · have h := h.2 c
              refine A_nx 2 (fr' := (6, 94, [some (.ref 5), some (.int a), some (.int b), none], [.int (8 : Int32)])) (S' := S11) rfl ?_
              refine ri_A.less (m := 6) (pc := 94) (L := [some (.ref 5), some (.int a), some (.int b), none]) (L' := [some (.ref 5), some (.int a), some (.int b), none]) (st := [.int (8 : Int32)]) ⟨rfl, ⟨rfl, ⟨rfl, trivial⟩⟩⟩ ?_
              exact wt6_b94   _ _ _ _ h
          · have h := h.2 c
            refine A_nx 2 (fr' := (6, 94, [some (.ref 5), some (.int a), some (.int b), none], [.int (7 : Int32)])) (S' := S9) rfl ?_
            refine ri_A.less (m := 6) (pc := 94) (L := [some (.ref 5), some (.int a), some (.int b), none]) (L' := [some (.ref 5), some (.int a), some (.int b), none]) (st := [.int (7 : Int32)]) ⟨rfl, ⟨rfl, ⟨rfl, trivial⟩⟩⟩ ?_
            exact wt6_b94   _ _ _ _ h
        · have h := h.2 c
          refine A_nx 2 (fr' := (6, 94, [some (.ref 5), some (.int a), some (.int b), none], [.int (6 : Int32)])) (S' := S7) rfl ?_
          refine ri_A.less (m := 6) (pc := 94) (L := [some (.ref 5), some (.int a), some (.int b), none]) (L' := [some (.ref 5), some (.int a), some (.int b), none]) (st := [.int (6 : Int32)]) ⟨rfl, ⟨rfl, ⟨rfl, trivial⟩⟩⟩ ?_
          exact wt6_b94   _ _ _ _ h
      · have h := h.2 c
        refine A_nx 2 (fr' := (6, 94, [some (.ref 5), some (.int a), some (.int b), none], [.int (5 : Int32)])) (S' := S5) rfl ?_
        refine ri_A.less (m := 6) (pc := 94) (L := [some (.ref 5), some (.int a), some (.int b), none]) (L' := [some (.ref 5), some (.int a), some (.int b), none]) (st := [.int (5 : Int32)]) ⟨rfl, ⟨rfl, ⟨rfl, trivial⟩⟩⟩ ?_
        exact wt6_b94   _ _ _ _ h
    · have h := h.2 c
      refine A_nx 2 (fr' := (6, 94, [some (.ref 5), some (.int a), some (.int b), none], [.int (4 : Int32)])) (S' := S3) rfl ?_
      refine ri_A.less (m := 6) (pc := 94) (L := [some (.ref 5), some (.int a), some (.int b), none]) (L' := [some (.ref 5), some (.int a), some (.int b), none]) (st := [.int (4 : Int32)]) ⟨rfl, ⟨rfl, ⟨rfl, trivial⟩⟩⟩ ?_
      exact wt6_b94   _ _ _ _ h
  · have h := h.2 c
    refine A_nx 2 (fr' := (6, 94, [some (.ref 5), some (.int a), some (.int b), none], [.int (3 : Int32)])) (S' := S1) rfl ?_
    refine ri_A.less (m := 6) (pc := 94) (L := [some (.ref 5), some (.int a), some (.int b), none]) (L' := [some (.ref 5), some (.int a), some (.int b), none]) (st := [.int (3 : Int32)]) ⟨rfl, ⟨rfl, ⟨rfl, trivial⟩⟩⟩ ?_
    exact wt6_b94   _ _ _ _ h
/-! X0_sortOf, depth 6 -/
def w5 (a : Int32) (b : Int32) (S : ri_H) (Q : Int32 → ri_H → Prop) : Prop := w10 (it (S.1 6) 160 a) S (fun (r2 : Int32) (S1 : ri_H) => ((r2 = 0 → w11 (it (S.1 6) 160 a) S1 (fun (r4 : Int32) (S3 : ri_H) => ((r4 = 0 → ((((it (S.1 6) 160 a) < (40 : Int32) ∨ (61 : Int32) < (it (S.1 6) 160 a)) → Q (1 : Int32) S3) ∧ ((it (S.1 6) 160 a) = (40 : Int32) → Q (it (S.1 6) 160 a) S3) ∧ ((it (S.1 6) 160 a) = (41 : Int32) → Q (it (S.1 6) 160 a) S3) ∧ ((it (S.1 6) 160 a) = (42 : Int32) → Q (it (S.1 6) 160 a) S3) ∧ ((it (S.1 6) 160 a) = (43 : Int32) → Q (it (S.1 6) 160 a) S3) ∧ ((it (S.1 6) 160 a) = (44 : Int32) → Q (1 : Int32) S3) ∧ ((it (S.1 6) 160 a) = (45 : Int32) → Q (it (S.1 6) 160 a) S3) ∧ ((it (S.1 6) 160 a) = (46 : Int32) → Q (1 : Int32) S3) ∧ ((it (S.1 6) 160 a) = (47 : Int32) → Q (1 : Int32) S3) ∧ ((it (S.1 6) 160 a) = (48 : Int32) → Q (1 : Int32) S3) ∧ ((it (S.1 6) 160 a) = (49 : Int32) → Q (1 : Int32) S3) ∧ ((it (S.1 6) 160 a) = (50 : Int32) → Q (1 : Int32) S3) ∧ ((it (S.1 6) 160 a) = (51 : Int32) → Q (1 : Int32) S3) ∧ ((it (S.1 6) 160 a) = (52 : Int32) → Q (1 : Int32) S3) ∧ ((it (S.1 6) 160 a) = (53 : Int32) → Q (1 : Int32) S3) ∧ ((it (S.1 6) 160 a) = (54 : Int32) → Q (1 : Int32) S3) ∧ ((it (S.1 6) 160 a) = (55 : Int32) → Q (1 : Int32) S3) ∧ ((it (S.1 6) 160 a) = (56 : Int32) → Q (1 : Int32) S3) ∧ ((it (S.1 6) 160 a) = (57 : Int32) → Q (1 : Int32) S3) ∧ ((it (S.1 6) 160 a) = (58 : Int32) → Q (1 : Int32) S3) ∧ ((it (S.1 6) 160 a) = (59 : Int32) → Q (it (S.1 6) 160 a) S3) ∧ ((it (S.1 6) 160 a) = (60 : Int32) → Q (it (S.1 6) 160 a) S3) ∧ ((it (S.1 6) 160 a) = (61 : Int32) → Q (it (S.1 6) 160 a) S3))) ∧ (¬ (r4 = 0) → (((b - a) ≤ (4 : Int32) → Q (2 : Int32) S3) ∧ (¬ (b - a) ≤ (4 : Int32) → Q (1 : Int32) S3)))))) ∧ (¬ (r2 = 0) → w6 a b S1 (fun (r6 : Int32) (S5 : ri_H) => Q r6 S5))))
set_option maxRecDepth 10000 in
set_option maxHeartbeats 1000000 in
theorem wt5 {E : ri_E} (a : Int32) (b : Int32) {S : ri_H} {Q : Int32 → ri_H → Prop} (h : w5  a b S Q) : ri_A E 6 (ri_en 5 [.ref 5, .int a, .int b]) S (Qi Q) := by
  unfold w5 at h
  show ri_A E 6 (5, 0, [some (.ref 5), some (.int a), some (.int b), none], []) S (Qi Q)
  refine A_call (j := 98) (As := [.ref 6, .int a]) (fr' := (5, 8, [some (.ref 5), some (.int a), some (.int b), none], [])) (S' := S) 4 rfl (e := 0) (by omega) (sp_item 6 160 _ ⟨by decide, by decide, rfl⟩ (by decide) ?_)
  refine A_call (j := 10) (As := [.int (it (S.1 6) 160 a)]) (fr' := (5, 13, [some (.ref 5), some (.int a), some (.int b), some (.int (it (S.1 6) 160 a))], [])) (S' := S) 3 rfl (e := 0) (by omega) (A_imp (wt10 (it (S.1 6) 160 a) h) (fun v S1 hq => ?_))
  obtain ⟨r2, hv, h⟩ := hq
  subst hv
  refine A_br (r2 = 0) (r1 := ((5, 23, [some (.ref 5), some (.int a), some (.int b), some (.int (it (S.1 6) 160 a))], []), S1)) (r2 := ((5, 16, [some (.ref 5), some (.int a), some (.int b), some (.int (it (S.1 6) 160 a))], []), S1)) 1 rfl (fun c => ?_) (fun c => ?_)
  · have h := h.1 c
    refine A_call (j := 11) (As := [.int (it (S.1 6) 160 a)]) (fr' := (5, 27, [some (.ref 5), some (.int a), some (.int b), some (.int (it (S.1 6) 160 a))], [])) (S' := S1) 2 rfl (e := 0) (by omega) (A_imp (wt11 (it (S.1 6) 160 a) h) (fun v S3 hq => ?_))
    obtain ⟨r4, hv, h⟩ := hq
    subst hv
    refine A_br (r4 = 0) (r1 := ((5, 43, [some (.ref 5), some (.int a), some (.int b), some (.int (it (S.1 6) 160 a))], []), S3)) (r2 := ((5, 30, [some (.ref 5), some (.int a), some (.int b), some (.int (it (S.1 6) 160 a))], []), S3)) 1 rfl (fun c => ?_) (fun c => ?_)
    · have h := h.1 c
      refine A_nx 2 (fr' := (5, ri_tgt 44 (106) (40) (61) [104, 104, 104, 104, 106, 104, 106, 106, 106, 106, 106, 106, 106, 106, 106, 106, 106, 106, 106, 104, 104, 104] (it (S.1 6) 160 a), [some (.ref 5), some (.int a), some (.int b), some (.int (it (S.1 6) 160 a))], [])) (S' := S3) rfl ?_
      rcases ri_swc (it (S.1 6) 160 a) (40) 22 (by decide) (by decide) with c | ⟨i, hi, c⟩
      · have c : (it (S.1 6) 160 a) < Int32.ofInt (40) ∨ Int32.ofInt (61) < (it (S.1 6) 160 a) := c
        have h := h.1 c
        rw [ri_tgt_out (it (S.1 6) 160 a) c (by decide) (by decide)]
        exact A_ret 2 (m := 5) (v := some (.int (1 : Int32))) (S' := S3) rfl rfl ⟨_, rfl, h⟩
      · have h := h.2
        match i, hi, c with
        | 0, hi, c =>
          have c : (it (S.1 6) 160 a) = (40 : Int32) := c
          have h := h.1 c
          rw [show ri_tgt 44 (106) (40) (61) [104, 104, 104, 104, 106, 104, 106, 106, 106, 106, 106, 106, 106, 106, 106, 106, 106, 106, 106, 104, 104, 104] (it (S.1 6) 160 a) = 148 by rw [c]; decide]
          exact A_ret 2 (m := 5) (v := some (.int (it (S.1 6) 160 a))) (S' := S3) rfl rfl ⟨_, rfl, h⟩
        | 1, hi, c =>
          have c : (it (S.1 6) 160 a) = (41 : Int32) := c
          have h := h.2.1 c
          rw [show ri_tgt 44 (106) (40) (61) [104, 104, 104, 104, 106, 104, 106, 106, 106, 106, 106, 106, 106, 106, 106, 106, 106, 106, 106, 104, 104, 104] (it (S.1 6) 160 a) = 148 by rw [c]; decide]
          exact A_ret 2 (m := 5) (v := some (.int (it (S.1 6) 160 a))) (S' := S3) rfl rfl ⟨_, rfl, h⟩
        | 2, hi, c =>
          have c : (it (S.1 6) 160 a) = (42 : Int32) := c
          have h := h.2.2.1 c
          rw [show ri_tgt 44 (106) (40) (61) [104, 104, 104, 104, 106, 104, 106, 106, 106, 106, 106, 106, 106, 106, 106, 106, 106, 106, 106, 104, 104, 104] (it (S.1 6) 160 a) = 148 by rw [c]; decide]
          exact A_ret 2 (m := 5) (v := some (.int (it (S.1 6) 160 a))) (S' := S3) rfl rfl ⟨_, rfl, h⟩
        | 3, hi, c =>
          have c : (it (S.1 6) 160 a) = (43 : Int32) := c
          have h := h.2.2.2.1 c
          rw [show ri_tgt 44 (106) (40) (61) [104, 104, 104, 104, 106, 104, 106, 106, 106, 106, 106, 106, 106, 106, 106, 106, 106, 106, 106, 104, 104, 104] (it (S.1 6) 160 a) = 148 by rw [c]; decide]
          exact A_ret 2 (m := 5) (v := some (.int (it (S.1 6) 160 a))) (S' := S3) rfl rfl ⟨_, rfl, h⟩
        | 4, hi, c =>
          have c : (it (S.1 6) 160 a) = (44 : Int32) := c
          have h := h.2.2.2.2.1 c
          rw [show ri_tgt 44 (106) (40) (61) [104, 104, 104, 104, 106, 104, 106, 106, 106, 106, 106, 106, 106, 106, 106, 106, 106, 106, 106, 104, 104, 104] (it (S.1 6) 160 a) = 150 by rw [c]; decide]
          exact A_ret 2 (m := 5) (v := some (.int (1 : Int32))) (S' := S3) rfl rfl ⟨_, rfl, h⟩
        | 5, hi, c =>
          have c : (it (S.1 6) 160 a) = (45 : Int32) := c
          have h := h.2.2.2.2.2.1 c
          rw [show ri_tgt 44 (106) (40) (61) [104, 104, 104, 104, 106, 104, 106, 106, 106, 106, 106, 106, 106, 106, 106, 106, 106, 106, 106, 104, 104, 104] (it (S.1 6) 160 a) = 148 by rw [c]; decide]
          exact A_ret 2 (m := 5) (v := some (.int (it (S.1 6) 160 a))) (S' := S3) rfl rfl ⟨_, rfl, h⟩
        | 6, hi, c =>
          have c : (it (S.1 6) 160 a) = (46 : Int32) := c
          have h := h.2.2.2.2.2.2.1 c
          rw [show ri_tgt 44 (106) (40) (61) [104, 104, 104, 104, 106, 104, 106, 106, 106, 106, 106, 106, 106, 106, 106, 106, 106, 106, 106, 104, 104, 104] (it (S.1 6) 160 a) = 150 by rw [c]; decide]
          exact A_ret 2 (m := 5) (v := some (.int (1 : Int32))) (S' := S3) rfl rfl ⟨_, rfl, h⟩
        | 7, hi, c =>
          have c : (it (S.1 6) 160 a) = (47 : Int32) := c
          have h := h.2.2.2.2.2.2.2.1 c
          rw [show ri_tgt 44 (106) (40) (61) [104, 104, 104, 104, 106, 104, 106, 106, 106, 106, 106, 106, 106, 106, 106, 106, 106, 106, 106, 104, 104, 104] (it (S.1 6) 160 a) = 150 by rw [c]; decide]
          exact A_ret 2 (m := 5) (v := some (.int (1 : Int32))) (S' := S3) rfl rfl ⟨_, rfl, h⟩
        | 8, hi, c =>
          have c : (it (S.1 6) 160 a) = (48 : Int32) := c
          have h := h.2.2.2.2.2.2.2.2.1 c
          rw [show ri_tgt 44 (106) (40) (61) [104, 104, 104, 104, 106, 104, 106, 106, 106, 106, 106, 106, 106, 106, 106, 106, 106, 106, 106, 104, 104, 104] (it (S.1 6) 160 a) = 150 by rw [c]; decide]
          exact A_ret 2 (m := 5) (v := some (.int (1 : Int32))) (S' := S3) rfl rfl ⟨_, rfl, h⟩
        | 9, hi, c =>
          have c : (it (S.1 6) 160 a) = (49 : Int32) := c
          have h := h.2.2.2.2.2.2.2.2.2.1 c
          rw [show ri_tgt 44 (106) (40) (61) [104, 104, 104, 104, 106, 104, 106, 106, 106, 106, 106, 106, 106, 106, 106, 106, 106, 106, 106, 104, 104, 104] (it (S.1 6) 160 a) = 150 by rw [c]; decide]
          exact A_ret 2 (m := 5) (v := some (.int (1 : Int32))) (S' := S3) rfl rfl ⟨_, rfl, h⟩
        | 10, hi, c =>
          have c : (it (S.1 6) 160 a) = (50 : Int32) := c
          have h := h.2.2.2.2.2.2.2.2.2.2.1 c
          rw [show ri_tgt 44 (106) (40) (61) [104, 104, 104, 104, 106, 104, 106, 106, 106, 106, 106, 106, 106, 106, 106, 106, 106, 106, 106, 104, 104, 104] (it (S.1 6) 160 a) = 150 by rw [c]; decide]
          exact A_ret 2 (m := 5) (v := some (.int (1 : Int32))) (S' := S3) rfl rfl ⟨_, rfl, h⟩
        | 11, hi, c =>
          have c : (it (S.1 6) 160 a) = (51 : Int32) := c
          have h := h.2.2.2.2.2.2.2.2.2.2.2.1 c
          rw [show ri_tgt 44 (106) (40) (61) [104, 104, 104, 104, 106, 104, 106, 106, 106, 106, 106, 106, 106, 106, 106, 106, 106, 106, 106, 104, 104, 104] (it (S.1 6) 160 a) = 150 by rw [c]; decide]
          exact A_ret 2 (m := 5) (v := some (.int (1 : Int32))) (S' := S3) rfl rfl ⟨_, rfl, h⟩
        | 12, hi, c =>
          have c : (it (S.1 6) 160 a) = (52 : Int32) := c
          have h := h.2.2.2.2.2.2.2.2.2.2.2.2.1 c
          rw [show ri_tgt 44 (106) (40) (61) [104, 104, 104, 104, 106, 104, 106, 106, 106, 106, 106, 106, 106, 106, 106, 106, 106, 106, 106, 104, 104, 104] (it (S.1 6) 160 a) = 150 by rw [c]; decide]
          exact A_ret 2 (m := 5) (v := some (.int (1 : Int32))) (S' := S3) rfl rfl ⟨_, rfl, h⟩
        | 13, hi, c =>
          have c : (it (S.1 6) 160 a) = (53 : Int32) := c
          have h := h.2.2.2.2.2.2.2.2.2.2.2.2.2.1 c
          rw [show ri_tgt 44 (106) (40) (61) [104, 104, 104, 104, 106, 104, 106, 106, 106, 106, 106, 106, 106, 106, 106, 106, 106, 106, 106, 104, 104, 104] (it (S.1 6) 160 a) = 150 by rw [c]; decide]
          exact A_ret 2 (m := 5) (v := some (.int (1 : Int32))) (S' := S3) rfl rfl ⟨_, rfl, h⟩
        | 14, hi, c =>
          have c : (it (S.1 6) 160 a) = (54 : Int32) := c
          have h := h.2.2.2.2.2.2.2.2.2.2.2.2.2.2.1 c
          rw [show ri_tgt 44 (106) (40) (61) [104, 104, 104, 104, 106, 104, 106, 106, 106, 106, 106, 106, 106, 106, 106, 106, 106, 106, 106, 104, 104, 104] (it (S.1 6) 160 a) = 150 by rw [c]; decide]
          exact A_ret 2 (m := 5) (v := some (.int (1 : Int32))) (S' := S3) rfl rfl ⟨_, rfl, h⟩
        | 15, hi, c =>
          have c : (it (S.1 6) 160 a) = (55 : Int32) := c
          have h := h.2.2.2.2.2.2.2.2.2.2.2.2.2.2.2.1 c
          rw [show ri_tgt 44 (106) (40) (61) [104, 104, 104, 104, 106, 104, 106, 106, 106, 106, 106, 106, 106, 106, 106, 106, 106, 106, 106, 104, 104, 104] (it (S.1 6) 160 a) = 150 by rw [c]; decide]
          exact A_ret 2 (m := 5) (v := some (.int (1 : Int32))) (S' := S3) rfl rfl ⟨_, rfl, h⟩
        | 16, hi, c =>
          have c : (it (S.1 6) 160 a) = (56 : Int32) := c
          have h := h.2.2.2.2.2.2.2.2.2.2.2.2.2.2.2.2.1 c
          rw [show ri_tgt 44 (106) (40) (61) [104, 104, 104, 104, 106, 104, 106, 106, 106, 106, 106, 106, 106, 106, 106, 106, 106, 106, 106, 104, 104, 104] (it (S.1 6) 160 a) = 150 by rw [c]; decide]
          exact A_ret 2 (m := 5) (v := some (.int (1 : Int32))) (S' := S3) rfl rfl ⟨_, rfl, h⟩
        | 17, hi, c =>
          have c : (it (S.1 6) 160 a) = (57 : Int32) := c
          have h := h.2.2.2.2.2.2.2.2.2.2.2.2.2.2.2.2.2.1 c
          rw [show ri_tgt 44 (106) (40) (61) [104, 104, 104, 104, 106, 104, 106, 106, 106, 106, 106, 106, 106, 106, 106, 106, 106, 106, 106, 104, 104, 104] (it (S.1 6) 160 a) = 150 by rw [c]; decide]
          exact A_ret 2 (m := 5) (v := some (.int (1 : Int32))) (S' := S3) rfl rfl ⟨_, rfl, h⟩
        | 18, hi, c =>
          have c : (it (S.1 6) 160 a) = (58 : Int32) := c
          have h := h.2.2.2.2.2.2.2.2.2.2.2.2.2.2.2.2.2.2.1 c
          rw [show ri_tgt 44 (106) (40) (61) [104, 104, 104, 104, 106, 104, 106, 106, 106, 106, 106, 106, 106, 106, 106, 106, 106, 106, 106, 104, 104, 104] (it (S.1 6) 160 a) = 150 by rw [c]; decide]
          exact A_ret 2 (m := 5) (v := some (.int (1 : Int32))) (S' := S3) rfl rfl ⟨_, rfl, h⟩
        | 19, hi, c =>
          have c : (it (S.1 6) 160 a) = (59 : Int32) := c
          have h := h.2.2.2.2.2.2.2.2.2.2.2.2.2.2.2.2.2.2.2.1 c
          rw [show ri_tgt 44 (106) (40) (61) [104, 104, 104, 104, 106, 104, 106, 106, 106, 106, 106, 106, 106, 106, 106, 106, 106, 106, 106, 104, 104, 104] (it (S.1 6) 160 a) = 148 by rw [c]; decide]
          exact A_ret 2 (m := 5) (v := some (.int (it (S.1 6) 160 a))) (S' := S3) rfl rfl ⟨_, rfl, h⟩
        | 20, hi, c =>
          have c : (it (S.1 6) 160 a) = (60 : Int32) := c
          have h := h.2.2.2.2.2.2.2.2.2.2.2.2.2.2.2.2.2.2.2.2.1 c
          rw [show ri_tgt 44 (106) (40) (61) [104, 104, 104, 104, 106, 104, 106, 106, 106, 106, 106, 106, 106, 106, 106, 106, 106, 106, 106, 104, 104, 104] (it (S.1 6) 160 a) = 148 by rw [c]; decide]
          exact A_ret 2 (m := 5) (v := some (.int (it (S.1 6) 160 a))) (S' := S3) rfl rfl ⟨_, rfl, h⟩
        | 21, hi, c =>
          have c : (it (S.1 6) 160 a) = (61 : Int32) := c
          have h := h.2.2.2.2.2.2.2.2.2.2.2.2.2.2.2.2.2.2.2.2.2 c
          rw [show ri_tgt 44 (106) (40) (61) [104, 104, 104, 104, 106, 104, 106, 106, 106, 106, 106, 106, 106, 106, 106, 106, 106, 106, 106, 104, 104, 104] (it (S.1 6) 160 a) = 148 by rw [c]; decide]
          exact A_ret 2 (m := 5) (v := some (.int (it (S.1 6) 160 a))) (S' := S3) rfl rfl ⟨_, rfl, h⟩
        | i + 22, hi, c => exact absurd hi (by omega)
    · have h := h.2 c
      refine A_br ((b - a) ≤ (4 : Int32)) (r1 := ((5, 41, [some (.ref 5), some (.int a), some (.int b), some (.int (it (S.1 6) 160 a))], []), S3)) (r2 := ((5, 37, [some (.ref 5), some (.int a), some (.int b), some (.int (it (S.1 6) 160 a))], []), S3)) 5 rfl (fun c => ?_) (fun c => ?_)
      · have h := h.1 c
        exact A_ret 2 (m := 5) (v := some (.int (2 : Int32))) (S' := S3) rfl rfl ⟨_, rfl, h⟩
      · have h := h.2 c
        exact A_ret 3 (m := 5) (v := some (.int (1 : Int32))) (S' := S3) rfl rfl ⟨_, rfl, h⟩
  · have h := h.2 c
    refine A_call (j := 6) (As := [.ref 5, .int a, .int b]) (fr' := (5, 22, [some (.ref 5), some (.int a), some (.int b), some (.int (it (S.1 6) 160 a))], [])) (S' := S1) 4 rfl (e := 5) (by omega) (A_imp (wt6 a b h) (fun v S5 hq => ?_))
    obtain ⟨r6, hv, h⟩ := hq
    subst hv
    exact A_ret 1 (m := 5) (v := some (.int r6)) (S' := S5) rfl rfl ⟨_, rfl, h⟩
/-! X0_cut, depth 7 -/
def w2_b129 (Q : ri_H → Prop)  (S : ri_H) : Prop := w3 (0 : Int32) (0 : Int32) (S.1 5 4) S (fun (S1 : ri_H) => Q S1)
set_option maxRecDepth 10000 in
set_option maxHeartbeats 1000000 in
theorem wt2_b129 {E : ri_E} {Q : ri_H → Prop}  (S : ri_H) (h : w2_b129   Q  S) : ri_A E 7 (2, 129, [some (.ref 5), none, none, none, none, none], []) S (Qv Q) := by
  unfold w2_b129 at h
  refine A_call (j := 3) (As := [.ref 5, .int (0 : Int32), .int (0 : Int32), .int (S.1 5 4)]) (fr' := (2, 139, [some (.ref 5), none, none, none, none, none], [])) (S' := S) 6 rfl (e := 1) (by omega) (A_imp (wt3 (0 : Int32) (0 : Int32) (S.1 5 4) h) (fun v S1 hq => ?_))
  obtain ⟨hv, h⟩ := hq
  subst hv
  exact A_ret 1 (m := 2) (v := none) (S' := S1) rfl rfl ⟨rfl, h⟩
def w2_b123 (K11 : Int32 → Int32 → Int32 → ri_H → Prop) (Q : ri_H → Prop) (x1 : Int32) (x2 : Int32) (x3 : Int32) (S : ri_H) : Prop := K11 x1 x2 (x3 + (1 : Int32)) S
set_option maxRecDepth 10000 in
set_option maxHeartbeats 1000000 in
theorem wt2_b123 {E : ri_E} {K11 : Int32 → Int32 → Int32 → ri_H → Prop} {Q : ri_H → Prop} (hK11 : ∀ (x1 : Int32) (x2 : Int32) (x3 : Int32) (S : ri_H), K11 x1 x2 x3 S → ri_A E 7 (2, 11, [some (.ref 5), some (.int x1), some (.int x2), some (.int x3), none, none], []) S (Qv Q)) (x1 : Int32) (x2 : Int32) (x3 : Int32) (S : ri_H) (h : w2_b123  K11 Q x1 x2 x3 S) : ri_A E 7 (2, 123, [some (.ref 5), some (.int x1), some (.int x2), some (.int x3), none, none], []) S (Qv Q) := by
  unfold w2_b123 at h
  refine A_nx 2 (fr' := (2, 11, [some (.ref 5), some (.int x1), some (.int x2), some (.int (x3 + (1 : Int32))), none, none], [])) (S' := S) rfl ?_
  refine ri_A.less (m := 2) (pc := 11) (L := [some (.ref 5), some (.int x1), some (.int x2), some (.int (x3 + (1 : Int32))), none, none]) (L' := [some (.ref 5), some (.int x1), some (.int x2), some (.int (x3 + (1 : Int32))), none, none]) (st := []) ⟨rfl, ⟨rfl, ⟨rfl, ⟨rfl, trivial⟩⟩⟩⟩ ?_
  exact hK11 _ _ _ _ h
def w2_b122 (K11 : Int32 → Int32 → Int32 → ri_H → Prop) (Q : ri_H → Prop) (x1 : Int32) (x3 : Int32) (s0 : Int32) (S : ri_H) : Prop := w2_b123  K11 Q x1 s0 x3 S
set_option maxRecDepth 10000 in
set_option maxHeartbeats 1000000 in
theorem wt2_b122 {E : ri_E} {K11 : Int32 → Int32 → Int32 → ri_H → Prop} {Q : ri_H → Prop} (hK11 : ∀ (x1 : Int32) (x2 : Int32) (x3 : Int32) (S : ri_H), K11 x1 x2 x3 S → ri_A E 7 (2, 11, [some (.ref 5), some (.int x1), some (.int x2), some (.int x3), none, none], []) S (Qv Q)) (x1 : Int32) (x3 : Int32) (s0 : Int32) (S : ri_H) (h : w2_b122  K11 Q x1 x3 s0 S) : ri_A E 7 (2, 122, [some (.ref 5), some (.int x1), none, some (.int x3), none, none], [.int s0]) S (Qv Q) := by
  unfold w2_b122 at h
  refine A_nx 1 (fr' := (2, 123, [some (.ref 5), some (.int x1), some (.int s0), some (.int x3), none, none], [])) (S' := S) rfl ?_
  refine ri_A.less (m := 2) (pc := 123) (L := [some (.ref 5), some (.int x1), some (.int s0), some (.int x3), none, none]) (L' := [some (.ref 5), some (.int x1), some (.int s0), some (.int x3), none, none]) (st := []) ⟨rfl, ⟨rfl, ⟨rfl, ⟨rfl, trivial⟩⟩⟩⟩ ?_
  exact wt2_b123  hK11 _ _ _ _ h
def w2_b104 (K11 : Int32 → Int32 → Int32 → ri_H → Prop) (Q : ri_H → Prop) (x1 : Int32) (x3 : Int32) (x4 : Int32) (x5 : Int32) (s0 : Int32) (s1 : Int32) (S : ri_H) : Prop := w3 s1 s0 x1 S (fun (S6 : ri_H) => ((x5 = (1 : Int32) → w2_b122  K11 Q x4 x3 (0 : Int32) S6) ∧ (¬ (x5 = (1 : Int32)) → w2_b122  K11 Q x4 x3 (1 : Int32) S6)))
set_option maxRecDepth 10000 in
set_option maxHeartbeats 1000000 in
theorem wt2_b104 {E : ri_E} {K11 : Int32 → Int32 → Int32 → ri_H → Prop} {Q : ri_H → Prop} (hK11 : ∀ (x1 : Int32) (x2 : Int32) (x3 : Int32) (S : ri_H), K11 x1 x2 x3 S → ri_A E 7 (2, 11, [some (.ref 5), some (.int x1), some (.int x2), some (.int x3), none, none], []) S (Qv Q)) (x1 : Int32) (x3 : Int32) (x4 : Int32) (x5 : Int32) (s0 : Int32) (s1 : Int32) (S : ri_H) (h : w2_b104  K11 Q x1 x3 x4 x5 s0 s1 S) : ri_A E 7 (2, 104, [some (.ref 5), some (.int x1), none, some (.int x3), some (.int x4), some (.int x5)], [.int s0, .int s1, .ref 5]) S (Qv Q) := by
  unfold w2_b104 at h
  refine A_call (j := 3) (As := [.ref 5, .int s1, .int s0, .int x1]) (fr' := (2, 108, [some (.ref 5), some (.int x1), none, some (.int x3), some (.int x4), some (.int x5)], [])) (S' := S) 2 rfl (e := 1) (by omega) (A_imp (wt3 s1 s0 x1 h) (fun v S6 hq => ?_))
  obtain ⟨hv, h⟩ := hq
  subst hv
  refine A_br (x5 = (1 : Int32)) (r1 := ((2, 121, [some (.ref 5), some (.int x4), none, some (.int x3), some (.int x4), some (.int x5)], []), S6)) (r2 := ((2, 117, [some (.ref 5), some (.int x4), none, some (.int x3), some (.int x4), some (.int x5)], []), S6)) 5 rfl (fun c => ?_) (fun c => ?_)
  · have h := h.1 c
    refine A_nx 1 (fr' := (2, 122, [some (.ref 5), some (.int x4), none, some (.int x3), some (.int x4), some (.int x5)], [.int (0 : Int32)])) (S' := S6) rfl ?_
    refine ri_A.less (m := 2) (pc := 122) (L := [some (.ref 5), some (.int x4), none, some (.int x3), some (.int x4), some (.int x5)]) (L' := [some (.ref 5), some (.int x4), none, some (.int x3), none, none]) (st := [.int (0 : Int32)]) ⟨rfl, ⟨rfl, ⟨rfl, trivial⟩⟩⟩ ?_
    exact wt2_b122  hK11 _ _ _ _ h
  · have h := h.2 c
    refine A_nx 2 (fr' := (2, 122, [some (.ref 5), some (.int x4), none, some (.int x3), some (.int x4), some (.int x5)], [.int (1 : Int32)])) (S' := S6) rfl ?_
    refine ri_A.less (m := 2) (pc := 122) (L := [some (.ref 5), some (.int x4), none, some (.int x3), some (.int x4), some (.int x5)]) (L' := [some (.ref 5), some (.int x4), none, some (.int x3), none, none]) (st := [.int (1 : Int32)]) ⟨rfl, ⟨rfl, ⟨rfl, trivial⟩⟩⟩ ?_
    exact wt2_b122  hK11 _ _ _ _ h
def w2_b63 (K11 : Int32 → Int32 → Int32 → ri_H → Prop) (Q : ri_H → Prop) (x1 : Int32) (x3 : Int32) (s0 : Int32) (S : ri_H) : Prop := ((s0 = 0 → w2_b123  K11 Q x1 s0 x3 S) ∧ (¬ (s0 = 0) → w4 x1 S (fun (r3 : Int32) (S2 : ri_H) => w5 x1 r3 S2 (fun (r5 : Int32) (S4 : ri_H) => ((¬ r5 = (2 : Int32) → w2_b104  K11 Q x1 x3 r3 r5 (0 : Int32) r5 S4) ∧ (¬ (¬ r5 = (2 : Int32)) → w8 x1 r3 S4 (fun (r8 : Int32) (S7 : ri_H) => w2_b104  K11 Q x1 x3 r3 r5 r8 r5 S7)))))))
set_option maxRecDepth 10000 in
set_option maxHeartbeats 1000000 in
theorem wt2_b63 {E : ri_E} {K11 : Int32 → Int32 → Int32 → ri_H → Prop} {Q : ri_H → Prop} (hK11 : ∀ (x1 : Int32) (x2 : Int32) (x3 : Int32) (S : ri_H), K11 x1 x2 x3 S → ri_A E 7 (2, 11, [some (.ref 5), some (.int x1), some (.int x2), some (.int x3), none, none], []) S (Qv Q)) (x1 : Int32) (x3 : Int32) (s0 : Int32) (S : ri_H) (h : w2_b63  K11 Q x1 x3 s0 S) : ri_A E 7 (2, 63, [some (.ref 5), some (.int x1), none, some (.int x3), none, none], [.int s0]) S (Qv Q) := by
  unfold w2_b63 at h
  refine A_br (s0 = 0) (r1 := ((2, 123, [some (.ref 5), some (.int x1), some (.int s0), some (.int x3), none, none], []), S)) (r2 := ((2, 68, [some (.ref 5), some (.int x1), some (.int s0), some (.int x3), none, none], []), S)) 3 rfl (fun c => ?_) (fun c => ?_)
  · have h := h.1 c
    refine ri_A.less (m := 2) (pc := 123) (L := [some (.ref 5), some (.int x1), some (.int s0), some (.int x3), none, none]) (L' := [some (.ref 5), some (.int x1), some (.int s0), some (.int x3), none, none]) (st := []) ⟨rfl, ⟨rfl, ⟨rfl, ⟨rfl, trivial⟩⟩⟩⟩ ?_
    exact wt2_b123  hK11 _ _ _ _ h
  · have h := h.2 c
    refine A_call (j := 4) (As := [.ref 5, .int x1]) (fr' := (2, 73, [some (.ref 5), some (.int x1), some (.int s0), some (.int x3), none, none], [])) (S' := S) 3 rfl (e := 1) (by omega) (A_imp (wt4 x1 h) (fun v S2 hq => ?_))
    obtain ⟨r3, hv, h⟩ := hq
    subst hv
    refine A_call (j := 5) (As := [.ref 5, .int x1, .int r3]) (fr' := (2, 82, [some (.ref 5), some (.int x1), some (.int s0), some (.int x3), some (.int r3), none], [])) (S' := S2) 5 rfl (e := 6) (by omega) (A_imp (wt5 x1 r3 h) (fun v S4 hq => ?_))
    obtain ⟨r5, hv, h⟩ := hq
    subst hv
    refine A_br (¬ r5 = (2 : Int32)) (r1 := ((2, 103, [some (.ref 5), some (.int x1), some (.int s0), some (.int x3), some (.int r3), some (.int r5)], [.int r5, .ref 5]), S4)) (r2 := ((2, 93, [some (.ref 5), some (.int x1), some (.int s0), some (.int x3), some (.int r3), some (.int r5)], [.int r5, .ref 5]), S4)) 6 rfl (fun c => ?_) (fun c => ?_)
    · have h := h.1 c
      refine A_nx 1 (fr' := (2, 104, [some (.ref 5), some (.int x1), some (.int s0), some (.int x3), some (.int r3), some (.int r5)], [.int (0 : Int32), .int r5, .ref 5])) (S' := S4) rfl ?_
      refine ri_A.less (m := 2) (pc := 104) (L := [some (.ref 5), some (.int x1), some (.int s0), some (.int x3), some (.int r3), some (.int r5)]) (L' := [some (.ref 5), some (.int x1), none, some (.int x3), some (.int r3), some (.int r5)]) (st := [.int (0 : Int32), .int r5, .ref 5]) ⟨rfl, ⟨rfl, ⟨rfl, ⟨rfl, ⟨rfl, trivial⟩⟩⟩⟩⟩ ?_
      exact wt2_b104  hK11 _ _ _ _ _ _ _ h
    · have h := h.2 c
      refine A_call (j := 8) (As := [.ref 5, .int x1, .int r3]) (fr' := (2, 100, [some (.ref 5), some (.int x1), some (.int s0), some (.int x3), some (.int r3), some (.int r5)], [.int r5, .ref 5])) (S' := S4) 4 rfl (e := 1) (by omega) (A_imp (wt8 x1 r3 h) (fun v S7 hq => ?_))
      obtain ⟨r8, hv, h⟩ := hq
      subst hv
      refine A_nx 1 (fr' := (2, 104, [some (.ref 5), some (.int x1), some (.int s0), some (.int x3), some (.int r3), some (.int r5)], [.int r8, .int r5, .ref 5])) (S' := S7) rfl ?_
      refine ri_A.less (m := 2) (pc := 104) (L := [some (.ref 5), some (.int x1), some (.int s0), some (.int x3), some (.int r3), some (.int r5)]) (L' := [some (.ref 5), some (.int x1), none, some (.int x3), some (.int r3), some (.int r5)]) (st := [.int r8, .int r5, .ref 5]) ⟨rfl, ⟨rfl, ⟨rfl, ⟨rfl, ⟨rfl, trivial⟩⟩⟩⟩⟩ ?_
      exact wt2_b104  hK11 _ _ _ _ _ _ _ h
def w2_b50 (K11 : Int32 → Int32 → Int32 → ri_H → Prop) (Q : ri_H → Prop) (x1 : Int32) (x3 : Int32) (S : ri_H) : Prop := (((S.1 5 4) ≤ x1 → w2_b63  K11 Q x1 x3 (0 : Int32) S) ∧ (¬ (S.1 5 4) ≤ x1 → w2_b63  K11 Q x1 x3 (1 : Int32) S))
set_option maxRecDepth 10000 in
set_option maxHeartbeats 1000000 in
theorem wt2_b50 {E : ri_E} {K11 : Int32 → Int32 → Int32 → ri_H → Prop} {Q : ri_H → Prop} (hK11 : ∀ (x1 : Int32) (x2 : Int32) (x3 : Int32) (S : ri_H), K11 x1 x2 x3 S → ri_A E 7 (2, 11, [some (.ref 5), some (.int x1), some (.int x2), some (.int x3), none, none], []) S (Qv Q)) (x1 : Int32) (x3 : Int32) (S : ri_H) (h : w2_b50  K11 Q x1 x3 S) : ri_A E 7 (2, 50, [some (.ref 5), some (.int x1), none, some (.int x3), none, none], []) S (Qv Q) := by
  unfold w2_b50 at h
  refine A_br ((S.1 5 4) ≤ x1) (r1 := ((2, 62, [some (.ref 5), some (.int x1), none, some (.int x3), none, none], []), S)) (r2 := ((2, 58, [some (.ref 5), some (.int x1), none, some (.int x3), none, none], []), S)) 4 rfl (fun c => ?_) (fun c => ?_)
  · have h := h.1 c
    refine A_nx 1 (fr' := (2, 63, [some (.ref 5), some (.int x1), none, some (.int x3), none, none], [.int (0 : Int32)])) (S' := S) rfl ?_
    refine ri_A.less (m := 2) (pc := 63) (L := [some (.ref 5), some (.int x1), none, some (.int x3), none, none]) (L' := [some (.ref 5), some (.int x1), none, some (.int x3), none, none]) (st := [.int (0 : Int32)]) ⟨rfl, ⟨rfl, ⟨rfl, trivial⟩⟩⟩ ?_
    exact wt2_b63  hK11 _ _ _ _ h
  · have h := h.2 c
    refine A_nx 2 (fr' := (2, 63, [some (.ref 5), some (.int x1), none, some (.int x3), none, none], [.int (1 : Int32)])) (S' := S) rfl ?_
    refine ri_A.less (m := 2) (pc := 63) (L := [some (.ref 5), some (.int x1), none, some (.int x3), none, none]) (L' := [some (.ref 5), some (.int x1), none, some (.int x3), none, none]) (st := [.int (1 : Int32)]) ⟨rfl, ⟨rfl, ⟨rfl, trivial⟩⟩⟩ ?_
    exact wt2_b63  hK11 _ _ _ _ h
def w2_l22 (K11 : Int32 → Int32 → Int32 → ri_H → Prop) (Q : ri_H → Prop) : Nat → Int32 → Int32 → ri_H → Prop
  | 0, _, _, _ => False
  | n + 1, x1, x3, S => (((S.1 5 4) ≤ x1 → w2_b50  K11 Q x1 x3 S) ∧ (¬ (S.1 5 4) ≤ x1 → w9 (it (S.1 6) 160 x1) S (fun (r10 : Int32) (S9 : ri_H) => ((r10 = 0 → w2_b50  K11 Q x1 x3 S9) ∧ (¬ (r10 = 0) → w2_l22  K11 Q n (x1 + (1 : Int32)) x3 S9)))))
set_option maxRecDepth 10000 in
set_option maxHeartbeats 1000000 in
theorem wt2_l22 {E : ri_E} {K11 : Int32 → Int32 → Int32 → ri_H → Prop} {Q : ri_H → Prop} (hK11 : ∀ (x1 : Int32) (x2 : Int32) (x3 : Int32) (S : ri_H), K11 x1 x2 x3 S → ri_A E 7 (2, 11, [some (.ref 5), some (.int x1), some (.int x2), some (.int x3), none, none], []) S (Qv Q)) : ∀ (n : Nat) (x1 : Int32) (x3 : Int32) (S : ri_H), w2_l22  K11 Q n x1 x3 S → ri_A E 7 (2, 22, [some (.ref 5), some (.int x1), none, some (.int x3), none, none], []) S (Qv Q) := by
  intro n
  induction n with
  | zero => intro x1 x3 S h; exact h.elim
  | succ n ih =>
    intro x1 x3 S h
    unfold w2_l22 at h
    refine A_br ((S.1 5 4) ≤ x1) (r1 := ((2, 50, [some (.ref 5), some (.int x1), none, some (.int x3), none, none], []), S)) (r2 := ((2, 30, [some (.ref 5), some (.int x1), none, some (.int x3), none, none], []), S)) 4 rfl (fun c => ?_) (fun c => ?_)
    · have h := h.1 c
      refine ri_A.less (m := 2) (pc := 50) (L := [some (.ref 5), some (.int x1), none, some (.int x3), none, none]) (L' := [some (.ref 5), some (.int x1), none, some (.int x3), none, none]) (st := []) ⟨rfl, ⟨rfl, ⟨rfl, trivial⟩⟩⟩ ?_
      exact wt2_b50  hK11 _ _ _ h
    · have h := h.2 c
      refine A_call (j := 98) (As := [.ref 6, .int x1]) (fr' := (2, 38, [some (.ref 5), some (.int x1), none, some (.int x3), none, none], [])) (S' := S) 4 rfl (e := 0) (by omega) (sp_item 6 160 _ ⟨by decide, by decide, rfl⟩ (by decide) ?_)
      refine A_call (j := 9) (As := [.int (it (S.1 6) 160 x1)]) (fr' := (2, 41, [some (.ref 5), some (.int x1), none, some (.int x3), none, none], [])) (S' := S) 1 rfl (e := 0) (by omega) (A_imp (wt9 (it (S.1 6) 160 x1) h) (fun v S9 hq => ?_))
      obtain ⟨r10, hv, h⟩ := hq
      subst hv
      refine A_br (r10 = 0) (r1 := ((2, 50, [some (.ref 5), some (.int x1), none, some (.int x3), none, none], []), S9)) (r2 := ((2, 44, [some (.ref 5), some (.int x1), none, some (.int x3), none, none], []), S9)) 1 rfl (fun c => ?_) (fun c => ?_)
      · have h := h.1 c
        refine ri_A.less (m := 2) (pc := 50) (L := [some (.ref 5), some (.int x1), none, some (.int x3), none, none]) (L' := [some (.ref 5), some (.int x1), none, some (.int x3), none, none]) (st := []) ⟨rfl, ⟨rfl, ⟨rfl, trivial⟩⟩⟩ ?_
        exact wt2_b50  hK11 _ _ _ h
      · have h := h.2 c
        refine A_nx 2 (fr' := (2, 22, [some (.ref 5), some (.int (x1 + (1 : Int32))), none, some (.int x3), none, none], [])) (S' := S9) rfl ?_
        refine ri_A.less (m := 2) (pc := 22) (L := [some (.ref 5), some (.int (x1 + (1 : Int32))), none, some (.int x3), none, none]) (L' := [some (.ref 5), some (.int (x1 + (1 : Int32))), none, some (.int x3), none, none]) (st := []) ⟨rfl, ⟨rfl, ⟨rfl, trivial⟩⟩⟩ ?_
        exact ih _ _ _ h
def w2_l11 (Q : ri_H → Prop) : Nat → Int32 → Int32 → Int32 → ri_H → Prop
  | 0, _, _, _, _ => False
  | n + 1, x1, x2, x3, S => (((160 : Int32) ≤ x3 → w2_b129   Q  S) ∧ (¬ (160 : Int32) ≤ x3 → ((x2 = 0 → w2_b129   Q  S) ∧ (¬ (x2 = 0) → ∃ nn, w2_l22  (fun x1 x2 x3 S => w2_l11   Q n x1 x2 x3 S) Q nn x1 x3 S))))
set_option maxRecDepth 10000 in
set_option maxHeartbeats 1000000 in
theorem wt2_l11 {E : ri_E} {Q : ri_H → Prop} : ∀ (n : Nat) (x1 : Int32) (x2 : Int32) (x3 : Int32) (S : ri_H), w2_l11   Q n x1 x2 x3 S → ri_A E 7 (2, 11, [some (.ref 5), some (.int x1), some (.int x2), some (.int x3), none, none], []) S (Qv Q) := by
  intro n
  induction n with
  | zero => intro x1 x2 x3 S h; exact h.elim
  | succ n ih =>
    intro x1 x2 x3 S h
    unfold w2_l11 at h
    refine A_br ((160 : Int32) ≤ x3) (r1 := ((2, 129, [some (.ref 5), some (.int x1), some (.int x2), some (.int x3), none, none], []), S)) (r2 := ((2, 18, [some (.ref 5), some (.int x1), some (.int x2), some (.int x3), none, none], []), S)) 3 rfl (fun c => ?_) (fun c => ?_)
    · have h := h.1 c
      refine ri_A.less (m := 2) (pc := 129) (L := [some (.ref 5), some (.int x1), some (.int x2), some (.int x3), none, none]) (L' := [some (.ref 5), none, none, none, none, none]) (st := []) ⟨rfl, trivial⟩ ?_
      exact wt2_b129   _ h
    · have h := h.2 c
      refine A_br (x2 = 0) (r1 := ((2, 129, [some (.ref 5), some (.int x1), some (.int x2), some (.int x3), none, none], []), S)) (r2 := ((2, 22, [some (.ref 5), some (.int x1), some (.int x2), some (.int x3), none, none], []), S)) 2 rfl (fun c => ?_) (fun c => ?_)
      · have h := h.1 c
        refine ri_A.less (m := 2) (pc := 129) (L := [some (.ref 5), some (.int x1), some (.int x2), some (.int x3), none, none]) (L' := [some (.ref 5), none, none, none, none, none]) (st := []) ⟨rfl, trivial⟩ ?_
        exact wt2_b129   _ h
      · have h := h.2 c
        refine ri_A.less (m := 2) (pc := 22) (L := [some (.ref 5), some (.int x1), some (.int x2), some (.int x3), none, none]) (L' := [some (.ref 5), some (.int x1), none, some (.int x3), none, none]) (st := []) ⟨rfl, ⟨rfl, ⟨rfl, trivial⟩⟩⟩ ?_
        obtain ⟨nn, h⟩ := h
        exact wt2_l22  (fun x1 x2 x3 S hk => ih x1 x2 x3 S hk) nn _ _ _ h
def w2  (S : ri_H) (Q : ri_H → Prop) : Prop := ∃ nn, w2_l11   Q nn (0 : Int32) (1 : Int32) (0 : Int32) (ri_wi S 5 5 (0 : Int32))
set_option maxRecDepth 10000 in
set_option maxHeartbeats 1000000 in
theorem wt2 {E : ri_E}  {S : ri_H} {Q : ri_H → Prop} (h : w2   S Q) : ri_A E 7 (ri_en 2 [.ref 5]) S (Qv Q) := by
  unfold w2 at h
  show ri_A E 7 (2, 0, [some (.ref 5), none, none, none, none, none], []) S (Qv Q)
  refine A_nx 9 (fr' := (2, 11, [some (.ref 5), some (.int (0 : Int32)), some (.int (1 : Int32)), some (.int (0 : Int32)), none, none], [])) (S' := (ri_wi S 5 5 (0 : Int32))) rfl ?_
  refine ri_A.less (m := 2) (pc := 11) (L := [some (.ref 5), some (.int (0 : Int32)), some (.int (1 : Int32)), some (.int (0 : Int32)), none, none]) (L' := [some (.ref 5), some (.int (0 : Int32)), some (.int (1 : Int32)), some (.int (0 : Int32)), none, none]) (st := []) ⟨rfl, ⟨rfl, ⟨rfl, ⟨rfl, trivial⟩⟩⟩⟩ ?_
  obtain ⟨nn, h⟩ := h
  exact wt2_l11   nn _ _ _ _ h
/-! X0_token, depth 1 -/
def w12  (S : ri_H) (Q : Int32 → ri_H → Prop) : Prop := ((¬ (S.1 5 7) = (-1 : Int32) → Q (1 : Int32) S) ∧ (¬ (¬ (S.1 5 7) = (-1 : Int32)) → Q (it (S.1 7) 161 (S.1 5 6)) S))
set_option maxRecDepth 10000 in
set_option maxHeartbeats 1000000 in
theorem wt12 {E : ri_E}  {S : ri_H} {Q : Int32 → ri_H → Prop} (h : w12   S Q) : ri_A E 1 (ri_en 12 [.ref 5]) S (Qi Q) := by
  unfold w12 at h
  show ri_A E 1 (12, 0, [some (.ref 5)], []) S (Qi Q)
  refine A_br (¬ (S.1 5 7) = (-1 : Int32)) (r1 := ((12, 22, [some (.ref 5)], []), S)) (r2 := ((12, 8, [some (.ref 5)], []), S)) 4 rfl (fun c => ?_) (fun c => ?_)
  · have h := h.1 c
    exact A_ret 2 (m := 12) (v := some (.int (1 : Int32))) (S' := S) rfl rfl ⟨_, rfl, h⟩
  · have h := h.2 c
    refine A_call (j := 98) (As := [.ref 7, .int (S.1 5 6)]) (fr' := (12, 19, [some (.ref 5)], [])) (S' := S) 5 rfl (e := 0) (by omega) (sp_item 7 161 _ ⟨by decide, by decide, rfl⟩ (by decide) ?_)
    exact A_ret 2 (m := 12) (v := some (.int (it (S.1 7) 161 (S.1 5 6)))) (S' := S) rfl rfl ⟨_, rfl, h⟩
/-! X0_may, depth 2 -/
def w13 (a : Int32) (S : ri_H) (Q : Int32 → ri_H → Prop) : Prop := w12  S (fun (r2 : Int32) (S1 : ri_H) => ((r2 = a → Q (1 : Int32) (ri_wi S1 5 6 ((S1.1 5 6) + (1 : Int32)))) ∧ (¬ (r2 = a) → Q (0 : Int32) S1)))
set_option maxRecDepth 10000 in
set_option maxHeartbeats 1000000 in
theorem wt13 {E : ri_E} (a : Int32) {S : ri_H} {Q : Int32 → ri_H → Prop} (h : w13  a S Q) : ri_A E 2 (ri_en 13 [.ref 5, .int a]) S (Qi Q) := by
  unfold w13 at h
  show ri_A E 2 (13, 0, [some (.ref 5), some (.int a)], []) S (Qi Q)
  refine A_call (j := 12) (As := [.ref 5]) (fr' := (13, 4, [some (.ref 5), some (.int a)], [])) (S' := S) 2 rfl (e := 1) (by omega) (A_imp (wt12  h) (fun v S1 hq => ?_))
  obtain ⟨r2, hv, h⟩ := hq
  subst hv
  refine A_br (r2 = a) (r1 := ((13, 10, [some (.ref 5), some (.int a)], []), S1)) (r2 := ((13, 8, [some (.ref 5), some (.int a)], []), S1)) 2 rfl (fun c => ?_) (fun c => ?_)
  · have h := h.1 c
    exact A_ret 8 (m := 13) (v := some (.int (1 : Int32))) (S' := (ri_wi S1 5 6 ((S1.1 5 6) + (1 : Int32)))) rfl rfl ⟨_, rfl, h⟩
  · have h := h.2 c
    exact A_ret 2 (m := 13) (v := some (.int (0 : Int32))) (S' := S1) rfl rfl ⟨_, rfl, h⟩
/-! X0_fails, depth 1 -/
def w15 (a : Int32) (S : ri_H) (Q : ri_H → Prop) : Prop := ((¬ (S.1 5 7) = (-1 : Int32) → Q S) ∧ (¬ (¬ (S.1 5 7) = (-1 : Int32)) → Q (ri_wi S 5 7 (it (S.1 9) 161 a))))
set_option maxRecDepth 10000 in
set_option maxHeartbeats 1000000 in
theorem wt15 {E : ri_E} (a : Int32) {S : ri_H} {Q : ri_H → Prop} (h : w15  a S Q) : ri_A E 1 (ri_en 15 [.ref 5, .int a]) S (Qv Q) := by
  unfold w15 at h
  show ri_A E 1 (15, 0, [some (.ref 5), some (.int a)], []) S (Qv Q)
  refine A_br (¬ (S.1 5 7) = (-1 : Int32)) (r1 := ((15, 20, [some (.ref 5), some (.int a)], []), S)) (r2 := ((15, 8, [some (.ref 5), some (.int a)], []), S)) 4 rfl (fun c => ?_) (fun c => ?_)
  · have h := h.1 c
    exact A_ret 1 (m := 15) (v := none) (S' := S) rfl rfl ⟨rfl, h⟩
  · have h := h.2 c
    refine A_call (j := 98) (As := [.ref 9, .int a]) (fr' := (15, 17, [some (.ref 5), some (.int a)], [.ref 5])) (S' := S) 5 rfl (e := 0) (by omega) (sp_item 9 161 _ ⟨by decide, by decide, rfl⟩ (by decide) ?_)
    exact A_ret 2 (m := 15) (v := none) (S' := (ri_wi S 5 7 (it (S.1 9) 161 a))) rfl rfl ⟨rfl, h⟩
/-! X0_must, depth 3 -/
def w14 (a : Int32) (S : ri_H) (Q : ri_H → Prop) : Prop := w13 a S (fun (r2 : Int32) (S1 : ri_H) => ((¬ r2 = 0 → Q S1) ∧ (¬ (¬ r2 = 0) → w15 (S1.1 5 6) S1 (fun (S3 : ri_H) => Q S3))))
set_option maxRecDepth 10000 in
set_option maxHeartbeats 1000000 in
theorem wt14 {E : ri_E} (a : Int32) {S : ri_H} {Q : ri_H → Prop} (h : w14  a S Q) : ri_A E 3 (ri_en 14 [.ref 5, .int a]) S (Qv Q) := by
  unfold w14 at h
  show ri_A E 3 (14, 0, [some (.ref 5), some (.int a)], []) S (Qv Q)
  refine A_call (j := 13) (As := [.ref 5, .int a]) (fr' := (14, 5, [some (.ref 5), some (.int a)], [])) (S' := S) 3 rfl (e := 2) (by omega) (A_imp (wt13 a h) (fun v S1 hq => ?_))
  obtain ⟨r2, hv, h⟩ := hq
  subst hv
  refine A_br (¬ r2 = 0) (r1 := ((14, 16, [some (.ref 5), some (.int a)], []), S1)) (r2 := ((14, 8, [some (.ref 5), some (.int a)], []), S1)) 1 rfl (fun c => ?_) (fun c => ?_)
  · have h := h.1 c
    exact A_ret 1 (m := 14) (v := none) (S' := S1) rfl rfl ⟨rfl, h⟩
  · have h := h.2 c
    refine A_call (j := 15) (As := [.ref 5, .int (S1.1 5 6)]) (fr' := (14, 16, [some (.ref 5), some (.int a)], [])) (S' := S1) 4 rfl (e := 1) (by omega) (A_imp (wt15 (S1.1 5 6) h) (fun v S3 hq => ?_))
    obtain ⟨hv, h⟩ := hq
    subst hv
    exact A_ret 1 (m := 14) (v := none) (S' := S3) rfl rfl ⟨rfl, h⟩
/-! X0_readOr, depth (e0 + 1) -/
def w16_l7 (C17 : Int32 → ri_H → (ri_H → Prop) → Prop) (Q : ri_H → Prop) : Nat → Int32 → Int32 → ri_H → Prop
  | 0, _, _, _ => False
  | n + 1, x1, x2, S => (((160 : Int32) ≤ x2 → Q S) ∧ (¬ (160 : Int32) ≤ x2 → w13 (6 : Int32) S (fun (r3 : Int32) (S2 : ri_H) => ((r3 = 0 → Q S2) ∧ (¬ (r3 = 0) → C17 x1 S2 (fun (S4 : ri_H) => w28 (-9 : Int32) S4 (fun (S5 : ri_H) => w16_l7 C17  Q n x1 (x2 + (1 : Int32)) S5)))))))
set_option maxRecDepth 10000 in
set_option maxHeartbeats 1000000 in
theorem wt16_l7 {E : ri_E} (C17 : Int32 → ri_H → (ri_H → Prop) → Prop) (e0 : Nat) (he0 : 20 ≤ e0) (hC17 : ∀ (a : Int32) (S : ri_H) (Q : ri_H → Prop), C17 a S Q → ri_A E e0 (ri_en 17 [.ref 5, .int a]) S (Qv Q)) {Q : ri_H → Prop} : ∀ (n : Nat) (x1 : Int32) (x2 : Int32) (S : ri_H), w16_l7 C17  Q n x1 x2 S → ri_A E (e0 + 1) (16, 7, [some (.ref 5), some (.int x1), some (.int x2)], []) S (Qv Q) := by
  intro n
  induction n with
  | zero => intro x1 x2 S h; exact h.elim
  | succ n ih =>
    intro x1 x2 S h
    unfold w16_l7 at h
    refine A_br ((160 : Int32) ≤ x2) (r1 := ((16, 43, [some (.ref 5), some (.int x1), some (.int x2)], []), S)) (r2 := ((16, 14, [some (.ref 5), some (.int x1), some (.int x2)], []), S)) 3 rfl (fun c => ?_) (fun c => ?_)
    · have h := h.1 c
      exact A_ret 1 (m := 16) (v := none) (S' := S) rfl rfl ⟨rfl, h⟩
    · have h := h.2 c
      refine A_call (j := 13) (As := [.ref 5, .int (6 : Int32)]) (fr' := (16, 20, [some (.ref 5), some (.int x1), some (.int x2)], [])) (S' := S) 3 rfl (e := 2) (by omega) (A_imp (wt13 (6 : Int32) h) (fun v S2 hq => ?_))
      obtain ⟨r3, hv, h⟩ := hq
      subst hv
      refine A_br (r3 = 0) (r1 := ((16, 43, [some (.ref 5), some (.int x1), some (.int x2)], []), S2)) (r2 := ((16, 23, [some (.ref 5), some (.int x1), some (.int x2)], []), S2)) 1 rfl (fun c => ?_) (fun c => ?_)
      · have h := h.1 c
        exact A_ret 1 (m := 16) (v := none) (S' := S2) rfl rfl ⟨rfl, h⟩
      · have h := h.2 c
        refine A_call (j := 17) (As := [.ref 5, .int x1]) (fr' := (16, 28, [some (.ref 5), some (.int x1), some (.int x2)], [])) (S' := S2) 3 rfl (e := e0) (by omega) (A_imp (hC17 x1 _ _ h) (fun v S4 hq => ?_))
        obtain ⟨hv, h⟩ := hq
        subst hv
        refine A_call (j := 28) (As := [.ref 1, .int (-9 : Int32)]) (fr' := (16, 37, [some (.ref 5), some (.int x1), some (.int x2)], [])) (S' := S4) 4 rfl (e := 1) (by omega) (A_imp (wt28 (-9 : Int32) h) (fun v S5 hq => ?_))
        obtain ⟨hv, h⟩ := hq
        subst hv
        refine A_nx 2 (fr' := (16, 7, [some (.ref 5), some (.int x1), some (.int (x2 + (1 : Int32)))], [])) (S' := S5) rfl ?_
        refine ri_A.less (m := 16) (pc := 7) (L := [some (.ref 5), some (.int x1), some (.int (x2 + (1 : Int32)))]) (L' := [some (.ref 5), some (.int x1), some (.int (x2 + (1 : Int32)))]) (st := []) ⟨rfl, ⟨rfl, ⟨rfl, trivial⟩⟩⟩ ?_
        exact ih _ _ _ h
def w16 (C17 : Int32 → ri_H → (ri_H → Prop) → Prop) (a : Int32) (S : ri_H) (Q : ri_H → Prop) : Prop := C17 a S (fun (S1 : ri_H) => ∃ nn, w16_l7 C17  Q nn a (0 : Int32) S1)
set_option maxRecDepth 10000 in
set_option maxHeartbeats 1000000 in
theorem wt16 {E : ri_E} (C17 : Int32 → ri_H → (ri_H → Prop) → Prop) (e0 : Nat) (he0 : 20 ≤ e0) (hC17 : ∀ (a : Int32) (S : ri_H) (Q : ri_H → Prop), C17 a S Q → ri_A E e0 (ri_en 17 [.ref 5, .int a]) S (Qv Q)) (a : Int32) {S : ri_H} {Q : ri_H → Prop} (h : w16 C17 a S Q) : ri_A E (e0 + 1) (ri_en 16 [.ref 5, .int a]) S (Qv Q) := by
  unfold w16 at h
  show ri_A E (e0 + 1) (16, 0, [some (.ref 5), some (.int a), none], []) S (Qv Q)
  refine A_call (j := 17) (As := [.ref 5, .int a]) (fr' := (16, 5, [some (.ref 5), some (.int a), none], [])) (S' := S) 3 rfl (e := e0) (by omega) (A_imp (hC17 a _ _ h) (fun v S1 hq => ?_))
  obtain ⟨hv, h⟩ := hq
  subst hv
  refine A_nx 2 (fr' := (16, 7, [some (.ref 5), some (.int a), some (.int (0 : Int32))], [])) (S' := S1) rfl ?_
  refine ri_A.less (m := 16) (pc := 7) (L := [some (.ref 5), some (.int a), some (.int (0 : Int32))]) (L' := [some (.ref 5), some (.int a), some (.int (0 : Int32))]) (st := []) ⟨rfl, ⟨rfl, ⟨rfl, trivial⟩⟩⟩ ?_
  obtain ⟨nn, h⟩ := h
  exact wt16_l7 C17 e0 he0 hC17  nn _ _ _ h
/-! X0_readAnd, depth (e0 + 1) -/
def w17_l7 (C18 : Int32 → ri_H → (ri_H → Prop) → Prop) (Q : ri_H → Prop) : Nat → Int32 → Int32 → ri_H → Prop
  | 0, _, _, _ => False
  | n + 1, x1, x2, S => (((160 : Int32) ≤ x2 → Q S) ∧ (¬ (160 : Int32) ≤ x2 → w13 (7 : Int32) S (fun (r3 : Int32) (S2 : ri_H) => ((r3 = 0 → Q S2) ∧ (¬ (r3 = 0) → C18 x1 S2 (fun (S4 : ri_H) => w28 (-10 : Int32) S4 (fun (S5 : ri_H) => w17_l7 C18  Q n x1 (x2 + (1 : Int32)) S5)))))))
set_option maxRecDepth 10000 in
set_option maxHeartbeats 1000000 in
theorem wt17_l7 {E : ri_E} (C18 : Int32 → ri_H → (ri_H → Prop) → Prop) (e0 : Nat) (he0 : 20 ≤ e0) (hC18 : ∀ (a : Int32) (S : ri_H) (Q : ri_H → Prop), C18 a S Q → ri_A E e0 (ri_en 18 [.ref 5, .int a]) S (Qv Q)) {Q : ri_H → Prop} : ∀ (n : Nat) (x1 : Int32) (x2 : Int32) (S : ri_H), w17_l7 C18  Q n x1 x2 S → ri_A E (e0 + 1) (17, 7, [some (.ref 5), some (.int x1), some (.int x2)], []) S (Qv Q) := by
  intro n
  induction n with
  | zero => intro x1 x2 S h; exact h.elim
  | succ n ih =>
    intro x1 x2 S h
    unfold w17_l7 at h
    refine A_br ((160 : Int32) ≤ x2) (r1 := ((17, 43, [some (.ref 5), some (.int x1), some (.int x2)], []), S)) (r2 := ((17, 14, [some (.ref 5), some (.int x1), some (.int x2)], []), S)) 3 rfl (fun c => ?_) (fun c => ?_)
    · have h := h.1 c
      exact A_ret 1 (m := 17) (v := none) (S' := S) rfl rfl ⟨rfl, h⟩
    · have h := h.2 c
      refine A_call (j := 13) (As := [.ref 5, .int (7 : Int32)]) (fr' := (17, 20, [some (.ref 5), some (.int x1), some (.int x2)], [])) (S' := S) 3 rfl (e := 2) (by omega) (A_imp (wt13 (7 : Int32) h) (fun v S2 hq => ?_))
      obtain ⟨r3, hv, h⟩ := hq
      subst hv
      refine A_br (r3 = 0) (r1 := ((17, 43, [some (.ref 5), some (.int x1), some (.int x2)], []), S2)) (r2 := ((17, 23, [some (.ref 5), some (.int x1), some (.int x2)], []), S2)) 1 rfl (fun c => ?_) (fun c => ?_)
      · have h := h.1 c
        exact A_ret 1 (m := 17) (v := none) (S' := S2) rfl rfl ⟨rfl, h⟩
      · have h := h.2 c
        refine A_call (j := 18) (As := [.ref 5, .int x1]) (fr' := (17, 28, [some (.ref 5), some (.int x1), some (.int x2)], [])) (S' := S2) 3 rfl (e := e0) (by omega) (A_imp (hC18 x1 _ _ h) (fun v S4 hq => ?_))
        obtain ⟨hv, h⟩ := hq
        subst hv
        refine A_call (j := 28) (As := [.ref 1, .int (-10 : Int32)]) (fr' := (17, 37, [some (.ref 5), some (.int x1), some (.int x2)], [])) (S' := S4) 4 rfl (e := 1) (by omega) (A_imp (wt28 (-10 : Int32) h) (fun v S5 hq => ?_))
        obtain ⟨hv, h⟩ := hq
        subst hv
        refine A_nx 2 (fr' := (17, 7, [some (.ref 5), some (.int x1), some (.int (x2 + (1 : Int32)))], [])) (S' := S5) rfl ?_
        refine ri_A.less (m := 17) (pc := 7) (L := [some (.ref 5), some (.int x1), some (.int (x2 + (1 : Int32)))]) (L' := [some (.ref 5), some (.int x1), some (.int (x2 + (1 : Int32)))]) (st := []) ⟨rfl, ⟨rfl, ⟨rfl, trivial⟩⟩⟩ ?_
        exact ih _ _ _ h
def w17 (C18 : Int32 → ri_H → (ri_H → Prop) → Prop) (a : Int32) (S : ri_H) (Q : ri_H → Prop) : Prop := C18 a S (fun (S1 : ri_H) => ∃ nn, w17_l7 C18  Q nn a (0 : Int32) S1)
set_option maxRecDepth 10000 in
set_option maxHeartbeats 1000000 in
theorem wt17 {E : ri_E} (C18 : Int32 → ri_H → (ri_H → Prop) → Prop) (e0 : Nat) (he0 : 20 ≤ e0) (hC18 : ∀ (a : Int32) (S : ri_H) (Q : ri_H → Prop), C18 a S Q → ri_A E e0 (ri_en 18 [.ref 5, .int a]) S (Qv Q)) (a : Int32) {S : ri_H} {Q : ri_H → Prop} (h : w17 C18 a S Q) : ri_A E (e0 + 1) (ri_en 17 [.ref 5, .int a]) S (Qv Q) := by
  unfold w17 at h
  show ri_A E (e0 + 1) (17, 0, [some (.ref 5), some (.int a), none], []) S (Qv Q)
  refine A_call (j := 18) (As := [.ref 5, .int a]) (fr' := (17, 5, [some (.ref 5), some (.int a), none], [])) (S' := S) 3 rfl (e := e0) (by omega) (A_imp (hC18 a _ _ h) (fun v S1 hq => ?_))
  obtain ⟨hv, h⟩ := hq
  subst hv
  refine A_nx 2 (fr' := (17, 7, [some (.ref 5), some (.int a), some (.int (0 : Int32))], [])) (S' := S1) rfl ?_
  refine ri_A.less (m := 17) (pc := 7) (L := [some (.ref 5), some (.int a), some (.int (0 : Int32))]) (L' := [some (.ref 5), some (.int a), some (.int (0 : Int32))]) (st := []) ⟨rfl, ⟨rfl, ⟨rfl, trivial⟩⟩⟩ ?_
  obtain ⟨nn, h⟩ := h
  exact wt17_l7 C18 e0 he0 hC18  nn _ _ _ h
/-! X0_readNot, depth (e0 + 1) -/
def w18_b81 (C18 : Int32 → ri_H → (ri_H → Prop) → Prop) (C19 : Int32 → ri_H → (ri_H → Prop) → Prop) (Q : ri_H → Prop) (x1 : Int32) (x2 : Int32) (S : ri_H) : Prop := C19 x1 S (fun (S8 : ri_H) => w28 x2 S8 (fun (S9 : ri_H) => Q S9))
set_option maxRecDepth 10000 in
set_option maxHeartbeats 1000000 in
theorem wt18_b81 {E : ri_E} (C18 : Int32 → ri_H → (ri_H → Prop) → Prop) (C19 : Int32 → ri_H → (ri_H → Prop) → Prop) (e0 : Nat) (he0 : 20 ≤ e0) (hC18 : ∀ (a : Int32) (S : ri_H) (Q : ri_H → Prop), C18 a S Q → ri_A E e0 (ri_en 18 [.ref 5, .int a]) S (Qv Q)) (hC19 : ∀ (a : Int32) (S : ri_H) (Q : ri_H → Prop), C19 a S Q → ri_A E e0 (ri_en 19 [.ref 5, .int a]) S (Qv Q)) {Q : ri_H → Prop} (x1 : Int32) (x2 : Int32) (S : ri_H) (h : w18_b81 C18 C19  Q x1 x2 S) : ri_A E (e0 + 1) (18, 81, [some (.ref 5), some (.int x1), some (.int x2)], []) S (Qv Q) := by
  unfold w18_b81 at h
  refine A_call (j := 19) (As := [.ref 5, .int x1]) (fr' := (18, 86, [some (.ref 5), some (.int x1), some (.int x2)], [])) (S' := S) 3 rfl (e := e0) (by omega) (A_imp (hC19 x1 _ _ h) (fun v S8 hq => ?_))
  obtain ⟨hv, h⟩ := hq
  subst hv
  refine A_call (j := 28) (As := [.ref 1, .int x2]) (fr' := (18, 94, [some (.ref 5), some (.int x1), some (.int x2)], [])) (S' := S8) 4 rfl (e := 1) (by omega) (A_imp (wt28 x2 h) (fun v S9 hq => ?_))
  obtain ⟨hv, h⟩ := hq
  subst hv
  exact A_ret 1 (m := 18) (v := none) (S' := S9) rfl rfl ⟨rfl, h⟩
def w18_b62 (C18 : Int32 → ri_H → (ri_H → Prop) → Prop) (C19 : Int32 → ri_H → (ri_H → Prop) → Prop) (Q : ri_H → Prop) (x1 : Int32) (s0 : Int32) (S : ri_H) : Prop := w13 (60 : Int32) S (fun (r7 : Int32) (S6 : ri_H) => ((¬ r7 = 0 → w18_b81 C18 C19  Q x1 s0 S6) ∧ (¬ (¬ r7 = 0) → w13 (61 : Int32) S6 (fun (r11 : Int32) (S10 : ri_H) => ((r11 = 0 → Q S10) ∧ (¬ (r11 = 0) → w18_b81 C18 C19  Q x1 s0 S10))))))
set_option maxRecDepth 10000 in
set_option maxHeartbeats 1000000 in
theorem wt18_b62 {E : ri_E} (C18 : Int32 → ri_H → (ri_H → Prop) → Prop) (C19 : Int32 → ri_H → (ri_H → Prop) → Prop) (e0 : Nat) (he0 : 20 ≤ e0) (hC18 : ∀ (a : Int32) (S : ri_H) (Q : ri_H → Prop), C18 a S Q → ri_A E e0 (ri_en 18 [.ref 5, .int a]) S (Qv Q)) (hC19 : ∀ (a : Int32) (S : ri_H) (Q : ri_H → Prop), C19 a S Q → ri_A E e0 (ri_en 19 [.ref 5, .int a]) S (Qv Q)) {Q : ri_H → Prop} (x1 : Int32) (s0 : Int32) (S : ri_H) (h : w18_b62 C18 C19  Q x1 s0 S) : ri_A E (e0 + 1) (18, 62, [some (.ref 5), some (.int x1), none], [.int s0]) S (Qv Q) := by
  unfold w18_b62 at h
  refine A_call (j := 13) (As := [.ref 5, .int (60 : Int32)]) (fr' := (18, 69, [some (.ref 5), some (.int x1), some (.int s0)], [])) (S' := S) 4 rfl (e := 2) (by omega) (A_imp (wt13 (60 : Int32) h) (fun v S6 hq => ?_))
  obtain ⟨r7, hv, h⟩ := hq
  subst hv
  refine A_br (¬ r7 = 0) (r1 := ((18, 81, [some (.ref 5), some (.int x1), some (.int s0)], []), S6)) (r2 := ((18, 72, [some (.ref 5), some (.int x1), some (.int s0)], []), S6)) 1 rfl (fun c => ?_) (fun c => ?_)
  · have h := h.1 c
    refine ri_A.less (m := 18) (pc := 81) (L := [some (.ref 5), some (.int x1), some (.int s0)]) (L' := [some (.ref 5), some (.int x1), some (.int s0)]) (st := []) ⟨rfl, ⟨rfl, ⟨rfl, trivial⟩⟩⟩ ?_
    exact wt18_b81 C18 C19 e0 he0 hC18 hC19  _ _ _ h
  · have h := h.2 c
    refine A_call (j := 13) (As := [.ref 5, .int (61 : Int32)]) (fr' := (18, 78, [some (.ref 5), some (.int x1), some (.int s0)], [])) (S' := S6) 3 rfl (e := 2) (by omega) (A_imp (wt13 (61 : Int32) h) (fun v S10 hq => ?_))
    obtain ⟨r11, hv, h⟩ := hq
    subst hv
    refine A_br (r11 = 0) (r1 := ((18, 94, [some (.ref 5), some (.int x1), some (.int s0)], []), S10)) (r2 := ((18, 81, [some (.ref 5), some (.int x1), some (.int s0)], []), S10)) 1 rfl (fun c => ?_) (fun c => ?_)
    · have h := h.1 c
      exact A_ret 1 (m := 18) (v := none) (S' := S10) rfl rfl ⟨rfl, h⟩
    · have h := h.2 c
      refine ri_A.less (m := 18) (pc := 81) (L := [some (.ref 5), some (.int x1), some (.int s0)]) (L' := [some (.ref 5), some (.int x1), some (.int s0)]) (st := []) ⟨rfl, ⟨rfl, ⟨rfl, trivial⟩⟩⟩ ?_
      exact wt18_b81 C18 C19 e0 he0 hC18 hC19  _ _ _ h
def w18_b41 (C18 : Int32 → ri_H → (ri_H → Prop) → Prop) (C19 : Int32 → ri_H → (ri_H → Prop) → Prop) (Q : ri_H → Prop) (x1 : Int32) (S : ri_H) : Prop := C19 x1 S (fun (S3 : ri_H) => w12  S3 (fun (r5 : Int32) (S4 : ri_H) => ((¬ r5 = (60 : Int32) → w18_b62 C18 C19  Q x1 (-12 : Int32) S4) ∧ (¬ (¬ r5 = (60 : Int32)) → w18_b62 C18 C19  Q x1 (-11 : Int32) S4))))
set_option maxRecDepth 10000 in
set_option maxHeartbeats 1000000 in
theorem wt18_b41 {E : ri_E} (C18 : Int32 → ri_H → (ri_H → Prop) → Prop) (C19 : Int32 → ri_H → (ri_H → Prop) → Prop) (e0 : Nat) (he0 : 20 ≤ e0) (hC18 : ∀ (a : Int32) (S : ri_H) (Q : ri_H → Prop), C18 a S Q → ri_A E e0 (ri_en 18 [.ref 5, .int a]) S (Qv Q)) (hC19 : ∀ (a : Int32) (S : ri_H) (Q : ri_H → Prop), C19 a S Q → ri_A E e0 (ri_en 19 [.ref 5, .int a]) S (Qv Q)) {Q : ri_H → Prop} (x1 : Int32) (S : ri_H) (h : w18_b41 C18 C19  Q x1 S) : ri_A E (e0 + 1) (18, 41, [some (.ref 5), some (.int x1), none], []) S (Qv Q) := by
  unfold w18_b41 at h
  refine A_call (j := 19) (As := [.ref 5, .int x1]) (fr' := (18, 46, [some (.ref 5), some (.int x1), none], [])) (S' := S) 3 rfl (e := e0) (by omega) (A_imp (hC19 x1 _ _ h) (fun v S3 hq => ?_))
  obtain ⟨hv, h⟩ := hq
  subst hv
  refine A_call (j := 12) (As := [.ref 5]) (fr' := (18, 50, [some (.ref 5), some (.int x1), none], [])) (S' := S3) 2 rfl (e := 1) (by omega) (A_imp (wt12  h) (fun v S4 hq => ?_))
  obtain ⟨r5, hv, h⟩ := hq
  subst hv
  refine A_br (¬ r5 = (60 : Int32)) (r1 := ((18, 60, [some (.ref 5), some (.int x1), none], []), S4)) (r2 := ((18, 55, [some (.ref 5), some (.int x1), none], []), S4)) 2 rfl (fun c => ?_) (fun c => ?_)
  · have h := h.1 c
    refine A_nx 1 (fr' := (18, 62, [some (.ref 5), some (.int x1), none], [.int (-12 : Int32)])) (S' := S4) rfl ?_
    refine ri_A.less (m := 18) (pc := 62) (L := [some (.ref 5), some (.int x1), none]) (L' := [some (.ref 5), some (.int x1), none]) (st := [.int (-12 : Int32)]) ⟨rfl, ⟨rfl, trivial⟩⟩ ?_
    exact wt18_b62 C18 C19 e0 he0 hC18 hC19  _ _ _ h
  · have h := h.2 c
    refine A_nx 2 (fr' := (18, 62, [some (.ref 5), some (.int x1), none], [.int (-11 : Int32)])) (S' := S4) rfl ?_
    refine ri_A.less (m := 18) (pc := 62) (L := [some (.ref 5), some (.int x1), none]) (L' := [some (.ref 5), some (.int x1), none]) (st := [.int (-11 : Int32)]) ⟨rfl, ⟨rfl, trivial⟩⟩ ?_
    exact wt18_b62 C18 C19 e0 he0 hC18 hC19  _ _ _ h
def w18 (C18 : Int32 → ri_H → (ri_H → Prop) → Prop) (C19 : Int32 → ri_H → (ri_H → Prop) → Prop) (a : Int32) (S : ri_H) (Q : ri_H → Prop) : Prop := w12  S (fun (r2 : Int32) (S1 : ri_H) => ((¬ r2 = (8 : Int32) → w18_b41 C18 C19  Q a S1) ∧ (¬ (¬ r2 = (8 : Int32)) → (((5 : Int32) ≤ a → w18_b41 C18 C19  Q a S1) ∧ (¬ (5 : Int32) ≤ a → C18 (a + (1 : Int32)) (ri_wi S1 5 6 ((S1.1 5 6) + (1 : Int32))) (fun (S12 : ri_H) => w28 (-8 : Int32) S12 (fun (S13 : ri_H) => Q S13)))))))
set_option maxRecDepth 10000 in
set_option maxHeartbeats 1000000 in
theorem wt18 {E : ri_E} (C18 : Int32 → ri_H → (ri_H → Prop) → Prop) (C19 : Int32 → ri_H → (ri_H → Prop) → Prop) (e0 : Nat) (he0 : 20 ≤ e0) (hC18 : ∀ (a : Int32) (S : ri_H) (Q : ri_H → Prop), C18 a S Q → ri_A E e0 (ri_en 18 [.ref 5, .int a]) S (Qv Q)) (hC19 : ∀ (a : Int32) (S : ri_H) (Q : ri_H → Prop), C19 a S Q → ri_A E e0 (ri_en 19 [.ref 5, .int a]) S (Qv Q)) (a : Int32) {S : ri_H} {Q : ri_H → Prop} (h : w18 C18 C19 a S Q) : ri_A E (e0 + 1) (ri_en 18 [.ref 5, .int a]) S (Qv Q) := by
  unfold w18 at h
  show ri_A E (e0 + 1) (18, 0, [some (.ref 5), some (.int a), none], []) S (Qv Q)
  refine A_call (j := 12) (As := [.ref 5]) (fr' := (18, 4, [some (.ref 5), some (.int a), none], [])) (S' := S) 2 rfl (e := 1) (by omega) (A_imp (wt12  h) (fun v S1 hq => ?_))
  obtain ⟨r2, hv, h⟩ := hq
  subst hv
  refine A_br (¬ r2 = (8 : Int32)) (r1 := ((18, 41, [some (.ref 5), some (.int a), none], []), S1)) (r2 := ((18, 9, [some (.ref 5), some (.int a), none], []), S1)) 2 rfl (fun c => ?_) (fun c => ?_)
  · have h := h.1 c
    refine ri_A.less (m := 18) (pc := 41) (L := [some (.ref 5), some (.int a), none]) (L' := [some (.ref 5), some (.int a), none]) (st := []) ⟨rfl, ⟨rfl, trivial⟩⟩ ?_
    exact wt18_b41 C18 C19 e0 he0 hC18 hC19  _ _ h
  · have h := h.2 c
    refine A_br ((5 : Int32) ≤ a) (r1 := ((18, 41, [some (.ref 5), some (.int a), none], []), S1)) (r2 := ((18, 14, [some (.ref 5), some (.int a), none], []), S1)) 3 rfl (fun c => ?_) (fun c => ?_)
    · have h := h.1 c
      refine ri_A.less (m := 18) (pc := 41) (L := [some (.ref 5), some (.int a), none]) (L' := [some (.ref 5), some (.int a), none]) (st := []) ⟨rfl, ⟨rfl, trivial⟩⟩ ?_
      exact wt18_b41 C18 C19 e0 he0 hC18 hC19  _ _ h
    · have h := h.2 c
      refine A_call (j := 18) (As := [.ref 5, .int (a + (1 : Int32))]) (fr' := (18, 31, [some (.ref 5), some (.int a), none], [])) (S' := (ri_wi S1 5 6 ((S1.1 5 6) + (1 : Int32)))) 11 rfl (e := e0) (by omega) (A_imp (hC18 (a + (1 : Int32)) _ _ h) (fun v S12 hq => ?_))
      obtain ⟨hv, h⟩ := hq
      subst hv
      refine A_call (j := 28) (As := [.ref 1, .int (-8 : Int32)]) (fr' := (18, 40, [some (.ref 5), some (.int a), none], [])) (S' := S12) 4 rfl (e := 1) (by omega) (A_imp (wt28 (-8 : Int32) h) (fun v S13 hq => ?_))
      obtain ⟨hv, h⟩ := hq
      subst hv
      exact A_ret 1 (m := 18) (v := none) (S' := S13) rfl rfl ⟨rfl, h⟩
/-! X0_readSum, depth (e0 + 1) -/
def w19_b48 (C20 : Int32 → ri_H → (ri_H → Prop) → Prop) (K7 : Int32 → Int32 → ri_H → Prop) (Q : ri_H → Prop) (x1 : Int32) (x2 : Int32) (s0 : Int32) (S : ri_H) : Prop := C20 x1 (ri_wi S 5 6 ((S.1 5 6) + (1 : Int32))) (fun (S6 : ri_H) => w28 s0 S6 (fun (S7 : ri_H) => K7 x1 (x2 + (1 : Int32)) S7))
set_option maxRecDepth 10000 in
set_option maxHeartbeats 1000000 in
theorem wt19_b48 {E : ri_E} (C20 : Int32 → ri_H → (ri_H → Prop) → Prop) (e0 : Nat) (he0 : 20 ≤ e0) (hC20 : ∀ (a : Int32) (S : ri_H) (Q : ri_H → Prop), C20 a S Q → ri_A E e0 (ri_en 20 [.ref 5, .int a]) S (Qv Q)) {K7 : Int32 → Int32 → ri_H → Prop} {Q : ri_H → Prop} (hK7 : ∀ (x1 : Int32) (x2 : Int32) (S : ri_H), K7 x1 x2 S → ri_A E (e0 + 1) (19, 7, [some (.ref 5), some (.int x1), some (.int x2), none], []) S (Qv Q)) (x1 : Int32) (x2 : Int32) (s0 : Int32) (S : ri_H) (h : w19_b48 C20 K7 Q x1 x2 s0 S) : ri_A E (e0 + 1) (19, 48, [some (.ref 5), some (.int x1), some (.int x2), none], [.int s0]) S (Qv Q) := by
  unfold w19_b48 at h
  refine A_call (j := 20) (As := [.ref 5, .int x1]) (fr' := (19, 64, [some (.ref 5), some (.int x1), some (.int x2), some (.int s0)], [])) (S' := (ri_wi S 5 6 ((S.1 5 6) + (1 : Int32)))) 10 rfl (e := e0) (by omega) (A_imp (hC20 x1 _ _ h) (fun v S6 hq => ?_))
  obtain ⟨hv, h⟩ := hq
  subst hv
  refine A_call (j := 28) (As := [.ref 1, .int s0]) (fr' := (19, 72, [some (.ref 5), some (.int x1), some (.int x2), some (.int s0)], [])) (S' := S6) 4 rfl (e := 1) (by omega) (A_imp (wt28 s0 h) (fun v S7 hq => ?_))
  obtain ⟨hv, h⟩ := hq
  subst hv
  refine A_nx 2 (fr' := (19, 7, [some (.ref 5), some (.int x1), some (.int (x2 + (1 : Int32))), some (.int s0)], [])) (S' := S7) rfl ?_
  refine ri_A.less (m := 19) (pc := 7) (L := [some (.ref 5), some (.int x1), some (.int (x2 + (1 : Int32))), some (.int s0)]) (L' := [some (.ref 5), some (.int x1), some (.int (x2 + (1 : Int32))), none]) (st := []) ⟨rfl, ⟨rfl, ⟨rfl, trivial⟩⟩⟩ ?_
  exact hK7 _ _ _ h
def w19_b32 (C20 : Int32 → ri_H → (ri_H → Prop) → Prop) (K7 : Int32 → Int32 → ri_H → Prop) (Q : ri_H → Prop) (x1 : Int32) (x2 : Int32) (S : ri_H) : Prop := w12  S (fun (r5 : Int32) (S4 : ri_H) => ((¬ r5 = (43 : Int32) → w19_b48 C20 K7 Q x1 x2 (-14 : Int32) S4) ∧ (¬ (¬ r5 = (43 : Int32)) → w19_b48 C20 K7 Q x1 x2 (-13 : Int32) S4)))
set_option maxRecDepth 10000 in
set_option maxHeartbeats 1000000 in
theorem wt19_b32 {E : ri_E} (C20 : Int32 → ri_H → (ri_H → Prop) → Prop) (e0 : Nat) (he0 : 20 ≤ e0) (hC20 : ∀ (a : Int32) (S : ri_H) (Q : ri_H → Prop), C20 a S Q → ri_A E e0 (ri_en 20 [.ref 5, .int a]) S (Qv Q)) {K7 : Int32 → Int32 → ri_H → Prop} {Q : ri_H → Prop} (hK7 : ∀ (x1 : Int32) (x2 : Int32) (S : ri_H), K7 x1 x2 S → ri_A E (e0 + 1) (19, 7, [some (.ref 5), some (.int x1), some (.int x2), none], []) S (Qv Q)) (x1 : Int32) (x2 : Int32) (S : ri_H) (h : w19_b32 C20 K7 Q x1 x2 S) : ri_A E (e0 + 1) (19, 32, [some (.ref 5), some (.int x1), some (.int x2), none], []) S (Qv Q) := by
  unfold w19_b32 at h
  refine A_call (j := 12) (As := [.ref 5]) (fr' := (19, 36, [some (.ref 5), some (.int x1), some (.int x2), none], [])) (S' := S) 2 rfl (e := 1) (by omega) (A_imp (wt12  h) (fun v S4 hq => ?_))
  obtain ⟨r5, hv, h⟩ := hq
  subst hv
  refine A_br (¬ r5 = (43 : Int32)) (r1 := ((19, 46, [some (.ref 5), some (.int x1), some (.int x2), none], []), S4)) (r2 := ((19, 41, [some (.ref 5), some (.int x1), some (.int x2), none], []), S4)) 2 rfl (fun c => ?_) (fun c => ?_)
  · have h := h.1 c
    refine A_nx 1 (fr' := (19, 48, [some (.ref 5), some (.int x1), some (.int x2), none], [.int (-14 : Int32)])) (S' := S4) rfl ?_
    refine ri_A.less (m := 19) (pc := 48) (L := [some (.ref 5), some (.int x1), some (.int x2), none]) (L' := [some (.ref 5), some (.int x1), some (.int x2), none]) (st := [.int (-14 : Int32)]) ⟨rfl, ⟨rfl, ⟨rfl, trivial⟩⟩⟩ ?_
    exact wt19_b48 C20 e0 he0 hC20 hK7 _ _ _ _ h
  · have h := h.2 c
    refine A_nx 2 (fr' := (19, 48, [some (.ref 5), some (.int x1), some (.int x2), none], [.int (-13 : Int32)])) (S' := S4) rfl ?_
    refine ri_A.less (m := 19) (pc := 48) (L := [some (.ref 5), some (.int x1), some (.int x2), none]) (L' := [some (.ref 5), some (.int x1), some (.int x2), none]) (st := [.int (-13 : Int32)]) ⟨rfl, ⟨rfl, ⟨rfl, trivial⟩⟩⟩ ?_
    exact wt19_b48 C20 e0 he0 hC20 hK7 _ _ _ _ h
def w19_l7 (C20 : Int32 → ri_H → (ri_H → Prop) → Prop) (Q : ri_H → Prop) : Nat → Int32 → Int32 → ri_H → Prop
  | 0, _, _, _ => False
  | n + 1, x1, x2, S => (((160 : Int32) ≤ x2 → Q S) ∧ (¬ (160 : Int32) ≤ x2 → w12  S (fun (r3 : Int32) (S2 : ri_H) => ((r3 = (43 : Int32) → w19_b32 C20 (fun x1 x2 S => w19_l7 C20  Q n x1 x2 S) Q x1 x2 S2) ∧ (¬ (r3 = (43 : Int32)) → w12  S2 (fun (r9 : Int32) (S8 : ri_H) => ((¬ r9 = (45 : Int32) → Q S8) ∧ (¬ (¬ r9 = (45 : Int32)) → w19_b32 C20 (fun x1 x2 S => w19_l7 C20  Q n x1 x2 S) Q x1 x2 S8))))))))
set_option maxRecDepth 10000 in
set_option maxHeartbeats 1000000 in
theorem wt19_l7 {E : ri_E} (C20 : Int32 → ri_H → (ri_H → Prop) → Prop) (e0 : Nat) (he0 : 20 ≤ e0) (hC20 : ∀ (a : Int32) (S : ri_H) (Q : ri_H → Prop), C20 a S Q → ri_A E e0 (ri_en 20 [.ref 5, .int a]) S (Qv Q)) {Q : ri_H → Prop} : ∀ (n : Nat) (x1 : Int32) (x2 : Int32) (S : ri_H), w19_l7 C20  Q n x1 x2 S → ri_A E (e0 + 1) (19, 7, [some (.ref 5), some (.int x1), some (.int x2), none], []) S (Qv Q) := by
  intro n
  induction n with
  | zero => intro x1 x2 S h; exact h.elim
  | succ n ih =>
    intro x1 x2 S h
    unfold w19_l7 at h
    refine A_br ((160 : Int32) ≤ x2) (r1 := ((19, 78, [some (.ref 5), some (.int x1), some (.int x2), none], []), S)) (r2 := ((19, 14, [some (.ref 5), some (.int x1), some (.int x2), none], []), S)) 3 rfl (fun c => ?_) (fun c => ?_)
    · have h := h.1 c
      exact A_ret 1 (m := 19) (v := none) (S' := S) rfl rfl ⟨rfl, h⟩
    · have h := h.2 c
      refine A_call (j := 12) (As := [.ref 5]) (fr' := (19, 18, [some (.ref 5), some (.int x1), some (.int x2), none], [])) (S' := S) 2 rfl (e := 1) (by omega) (A_imp (wt12  h) (fun v S2 hq => ?_))
      obtain ⟨r3, hv, h⟩ := hq
      subst hv
      refine A_br (r3 = (43 : Int32)) (r1 := ((19, 32, [some (.ref 5), some (.int x1), some (.int x2), none], []), S2)) (r2 := ((19, 23, [some (.ref 5), some (.int x1), some (.int x2), none], []), S2)) 2 rfl (fun c => ?_) (fun c => ?_)
      · have h := h.1 c
        refine ri_A.less (m := 19) (pc := 32) (L := [some (.ref 5), some (.int x1), some (.int x2), none]) (L' := [some (.ref 5), some (.int x1), some (.int x2), none]) (st := []) ⟨rfl, ⟨rfl, ⟨rfl, trivial⟩⟩⟩ ?_
        exact wt19_b32 C20 e0 he0 hC20 (fun x1 x2 S hk => ih x1 x2 S hk) _ _ _ h
      · have h := h.2 c
        refine A_call (j := 12) (As := [.ref 5]) (fr' := (19, 27, [some (.ref 5), some (.int x1), some (.int x2), none], [])) (S' := S2) 2 rfl (e := 1) (by omega) (A_imp (wt12  h) (fun v S8 hq => ?_))
        obtain ⟨r9, hv, h⟩ := hq
        subst hv
        refine A_br (¬ r9 = (45 : Int32)) (r1 := ((19, 78, [some (.ref 5), some (.int x1), some (.int x2), none], []), S8)) (r2 := ((19, 32, [some (.ref 5), some (.int x1), some (.int x2), none], []), S8)) 2 rfl (fun c => ?_) (fun c => ?_)
        · have h := h.1 c
          exact A_ret 1 (m := 19) (v := none) (S' := S8) rfl rfl ⟨rfl, h⟩
        · have h := h.2 c
          refine ri_A.less (m := 19) (pc := 32) (L := [some (.ref 5), some (.int x1), some (.int x2), none]) (L' := [some (.ref 5), some (.int x1), some (.int x2), none]) (st := []) ⟨rfl, ⟨rfl, ⟨rfl, trivial⟩⟩⟩ ?_
          exact wt19_b32 C20 e0 he0 hC20 (fun x1 x2 S hk => ih x1 x2 S hk) _ _ _ h
def w19 (C20 : Int32 → ri_H → (ri_H → Prop) → Prop) (a : Int32) (S : ri_H) (Q : ri_H → Prop) : Prop := C20 a S (fun (S1 : ri_H) => ∃ nn, w19_l7 C20  Q nn a (0 : Int32) S1)
set_option maxRecDepth 10000 in
set_option maxHeartbeats 1000000 in
theorem wt19 {E : ri_E} (C20 : Int32 → ri_H → (ri_H → Prop) → Prop) (e0 : Nat) (he0 : 20 ≤ e0) (hC20 : ∀ (a : Int32) (S : ri_H) (Q : ri_H → Prop), C20 a S Q → ri_A E e0 (ri_en 20 [.ref 5, .int a]) S (Qv Q)) (a : Int32) {S : ri_H} {Q : ri_H → Prop} (h : w19 C20 a S Q) : ri_A E (e0 + 1) (ri_en 19 [.ref 5, .int a]) S (Qv Q) := by
  unfold w19 at h
  show ri_A E (e0 + 1) (19, 0, [some (.ref 5), some (.int a), none, none], []) S (Qv Q)
  refine A_call (j := 20) (As := [.ref 5, .int a]) (fr' := (19, 5, [some (.ref 5), some (.int a), none, none], [])) (S' := S) 3 rfl (e := e0) (by omega) (A_imp (hC20 a _ _ h) (fun v S1 hq => ?_))
  obtain ⟨hv, h⟩ := hq
  subst hv
  refine A_nx 2 (fr' := (19, 7, [some (.ref 5), some (.int a), some (.int (0 : Int32)), none], [])) (S' := S1) rfl ?_
  refine ri_A.less (m := 19) (pc := 7) (L := [some (.ref 5), some (.int a), some (.int (0 : Int32)), none]) (L' := [some (.ref 5), some (.int a), some (.int (0 : Int32)), none]) (st := []) ⟨rfl, ⟨rfl, ⟨rfl, trivial⟩⟩⟩ ?_
  obtain ⟨nn, h⟩ := h
  exact wt19_l7 C20 e0 he0 hC20  nn _ _ _ h
/-! X0_readTerm, depth (e0 + 1) -/
def w20_l7 (C21 : Int32 → ri_H → (ri_H → Prop) → Prop) (Q : ri_H → Prop) : Nat → Int32 → Int32 → ri_H → Prop
  | 0, _, _, _ => False
  | n + 1, x1, x2, S => (((160 : Int32) ≤ x2 → Q S) ∧ (¬ (160 : Int32) ≤ x2 → w13 (42 : Int32) S (fun (r3 : Int32) (S2 : ri_H) => ((r3 = 0 → Q S2) ∧ (¬ (r3 = 0) → C21 x1 S2 (fun (S4 : ri_H) => w28 (-15 : Int32) S4 (fun (S5 : ri_H) => w20_l7 C21  Q n x1 (x2 + (1 : Int32)) S5)))))))
set_option maxRecDepth 10000 in
set_option maxHeartbeats 1000000 in
theorem wt20_l7 {E : ri_E} (C21 : Int32 → ri_H → (ri_H → Prop) → Prop) (e0 : Nat) (he0 : 20 ≤ e0) (hC21 : ∀ (a : Int32) (S : ri_H) (Q : ri_H → Prop), C21 a S Q → ri_A E e0 (ri_en 21 [.ref 5, .int a]) S (Qv Q)) {Q : ri_H → Prop} : ∀ (n : Nat) (x1 : Int32) (x2 : Int32) (S : ri_H), w20_l7 C21  Q n x1 x2 S → ri_A E (e0 + 1) (20, 7, [some (.ref 5), some (.int x1), some (.int x2)], []) S (Qv Q) := by
  intro n
  induction n with
  | zero => intro x1 x2 S h; exact h.elim
  | succ n ih =>
    intro x1 x2 S h
    unfold w20_l7 at h
    refine A_br ((160 : Int32) ≤ x2) (r1 := ((20, 43, [some (.ref 5), some (.int x1), some (.int x2)], []), S)) (r2 := ((20, 14, [some (.ref 5), some (.int x1), some (.int x2)], []), S)) 3 rfl (fun c => ?_) (fun c => ?_)
    · have h := h.1 c
      exact A_ret 1 (m := 20) (v := none) (S' := S) rfl rfl ⟨rfl, h⟩
    · have h := h.2 c
      refine A_call (j := 13) (As := [.ref 5, .int (42 : Int32)]) (fr' := (20, 20, [some (.ref 5), some (.int x1), some (.int x2)], [])) (S' := S) 3 rfl (e := 2) (by omega) (A_imp (wt13 (42 : Int32) h) (fun v S2 hq => ?_))
      obtain ⟨r3, hv, h⟩ := hq
      subst hv
      refine A_br (r3 = 0) (r1 := ((20, 43, [some (.ref 5), some (.int x1), some (.int x2)], []), S2)) (r2 := ((20, 23, [some (.ref 5), some (.int x1), some (.int x2)], []), S2)) 1 rfl (fun c => ?_) (fun c => ?_)
      · have h := h.1 c
        exact A_ret 1 (m := 20) (v := none) (S' := S2) rfl rfl ⟨rfl, h⟩
      · have h := h.2 c
        refine A_call (j := 21) (As := [.ref 5, .int x1]) (fr' := (20, 28, [some (.ref 5), some (.int x1), some (.int x2)], [])) (S' := S2) 3 rfl (e := e0) (by omega) (A_imp (hC21 x1 _ _ h) (fun v S4 hq => ?_))
        obtain ⟨hv, h⟩ := hq
        subst hv
        refine A_call (j := 28) (As := [.ref 1, .int (-15 : Int32)]) (fr' := (20, 37, [some (.ref 5), some (.int x1), some (.int x2)], [])) (S' := S4) 4 rfl (e := 1) (by omega) (A_imp (wt28 (-15 : Int32) h) (fun v S5 hq => ?_))
        obtain ⟨hv, h⟩ := hq
        subst hv
        refine A_nx 2 (fr' := (20, 7, [some (.ref 5), some (.int x1), some (.int (x2 + (1 : Int32)))], [])) (S' := S5) rfl ?_
        refine ri_A.less (m := 20) (pc := 7) (L := [some (.ref 5), some (.int x1), some (.int (x2 + (1 : Int32)))]) (L' := [some (.ref 5), some (.int x1), some (.int (x2 + (1 : Int32)))]) (st := []) ⟨rfl, ⟨rfl, ⟨rfl, trivial⟩⟩⟩ ?_
        exact ih _ _ _ h
def w20 (C21 : Int32 → ri_H → (ri_H → Prop) → Prop) (a : Int32) (S : ri_H) (Q : ri_H → Prop) : Prop := C21 a S (fun (S1 : ri_H) => ∃ nn, w20_l7 C21  Q nn a (0 : Int32) S1)
set_option maxRecDepth 10000 in
set_option maxHeartbeats 1000000 in
theorem wt20 {E : ri_E} (C21 : Int32 → ri_H → (ri_H → Prop) → Prop) (e0 : Nat) (he0 : 20 ≤ e0) (hC21 : ∀ (a : Int32) (S : ri_H) (Q : ri_H → Prop), C21 a S Q → ri_A E e0 (ri_en 21 [.ref 5, .int a]) S (Qv Q)) (a : Int32) {S : ri_H} {Q : ri_H → Prop} (h : w20 C21 a S Q) : ri_A E (e0 + 1) (ri_en 20 [.ref 5, .int a]) S (Qv Q) := by
  unfold w20 at h
  show ri_A E (e0 + 1) (20, 0, [some (.ref 5), some (.int a), none], []) S (Qv Q)
  refine A_call (j := 21) (As := [.ref 5, .int a]) (fr' := (20, 5, [some (.ref 5), some (.int a), none], [])) (S' := S) 3 rfl (e := e0) (by omega) (A_imp (hC21 a _ _ h) (fun v S1 hq => ?_))
  obtain ⟨hv, h⟩ := hq
  subst hv
  refine A_nx 2 (fr' := (20, 7, [some (.ref 5), some (.int a), some (.int (0 : Int32))], [])) (S' := S1) rfl ?_
  refine ri_A.less (m := 20) (pc := 7) (L := [some (.ref 5), some (.int a), some (.int (0 : Int32))]) (L' := [some (.ref 5), some (.int a), some (.int (0 : Int32))]) (st := []) ⟨rfl, ⟨rfl, ⟨rfl, trivial⟩⟩⟩ ?_
  obtain ⟨nn, h⟩ := h
  exact wt20_l7 C21 e0 he0 hC21  nn _ _ _ h
/-! X0_readOne, depth (e0 + 1) -/
def w21_b117 (C214 : Int32 → Int32 → ri_H → (ri_H → Prop) → Prop) (Q : ri_H → Prop)  (S : ri_H) : Prop := w15 (S.1 5 6) S (fun (S3 : ri_H) => Q S3)
set_option maxRecDepth 10000 in
set_option maxHeartbeats 1000000 in
theorem wt21_b117 {E : ri_E} (C214 : Int32 → Int32 → ri_H → (ri_H → Prop) → Prop) (e0 : Nat) (he0 : 20 ≤ e0) (hC214 : ∀ (a b : Int32) (S : ri_H) (Q : ri_H → Prop), C214 a b S Q → ri_A E e0 (ri_en 214 [.ref 5, .int a, .int b]) S (Qv Q)) {Q : ri_H → Prop}  (S : ri_H) (h : w21_b117 C214  Q  S) : ri_A E (e0 + 1) (21, 117, [some (.ref 5), none, none], []) S (Qv Q) := by
  unfold w21_b117 at h
  refine A_call (j := 15) (As := [.ref 5, .int (S.1 5 6)]) (fr' := (21, 125, [some (.ref 5), none, none], [])) (S' := S) 4 rfl (e := 1) (by omega) (A_imp (wt15 (S.1 5 6) h) (fun v S3 hq => ?_))
  obtain ⟨hv, h⟩ := hq
  subst hv
  exact A_ret 1 (m := 21) (v := none) (S' := S3) rfl rfl ⟨rfl, h⟩
def w21_b43 (C214 : Int32 → Int32 → ri_H → (ri_H → Prop) → Prop) (Q : ri_H → Prop) (x2 : Int32) (S : ri_H) : Prop := ((¬ x2 = (2 : Int32) → ((x2 < (10 : Int32) → w21_b117 C214  Q  S) ∧ (¬ (x2 < (10 : Int32)) → (((15 : Int32) < x2 → w21_b117 C214  Q  S) ∧ (¬ (15 : Int32) < x2 → w28 ((-1 : Int32) - (x2 - (10 : Int32))) S (fun (S4 : ri_H) => Q (ri_wi S4 5 6 ((S4.1 5 6) + (1 : Int32))))))))) ∧ (¬ (¬ x2 = (2 : Int32)) → w28 (it (S.1 8) 161 (S.1 5 6)) S (fun (S5 : ri_H) => Q (ri_wi S5 5 6 ((S5.1 5 6) + (1 : Int32))))))
set_option maxRecDepth 10000 in
set_option maxHeartbeats 1000000 in
theorem wt21_b43 {E : ri_E} (C214 : Int32 → Int32 → ri_H → (ri_H → Prop) → Prop) (e0 : Nat) (he0 : 20 ≤ e0) (hC214 : ∀ (a b : Int32) (S : ri_H) (Q : ri_H → Prop), C214 a b S Q → ri_A E e0 (ri_en 214 [.ref 5, .int a, .int b]) S (Qv Q)) {Q : ri_H → Prop} (x2 : Int32) (S : ri_H) (h : w21_b43 C214  Q x2 S) : ri_A E (e0 + 1) (21, 43, [some (.ref 5), none, some (.int x2)], []) S (Qv Q) := by
  unfold w21_b43 at h
  refine A_br (¬ x2 = (2 : Int32)) (r1 := ((21, 79, [some (.ref 5), none, some (.int x2)], []), S)) (r2 := ((21, 48, [some (.ref 5), none, some (.int x2)], []), S)) 3 rfl (fun c => ?_) (fun c => ?_)
  · have h := h.1 c
    refine A_br (x2 < (10 : Int32)) (r1 := ((21, 117, [some (.ref 5), none, some (.int x2)], []), S)) (r2 := ((21, 85, [some (.ref 5), none, some (.int x2)], []), S)) 3 rfl (fun c => ?_) (fun c => ?_)
    · have h := h.1 c
      refine ri_A.less (m := 21) (pc := 117) (L := [some (.ref 5), none, some (.int x2)]) (L' := [some (.ref 5), none, none]) (st := []) ⟨rfl, trivial⟩ ?_
      exact wt21_b117 C214 e0 he0 hC214  _ h
    · have h := h.2 c
      refine A_br ((15 : Int32) < x2) (r1 := ((21, 117, [some (.ref 5), none, some (.int x2)], []), S)) (r2 := ((21, 91, [some (.ref 5), none, some (.int x2)], []), S)) 3 rfl (fun c => ?_) (fun c => ?_)
      · have h := h.1 c
        refine ri_A.less (m := 21) (pc := 117) (L := [some (.ref 5), none, some (.int x2)]) (L' := [some (.ref 5), none, none]) (st := []) ⟨rfl, trivial⟩ ?_
        exact wt21_b117 C214 e0 he0 hC214  _ h
      · have h := h.2 c
        refine A_call (j := 28) (As := [.ref 1, .int ((-1 : Int32) - (x2 - (10 : Int32)))]) (fr' := (21, 104, [some (.ref 5), none, some (.int x2)], [])) (S' := S) 8 rfl (e := 1) (by omega) (A_imp (wt28 ((-1 : Int32) - (x2 - (10 : Int32))) h) (fun v S4 hq => ?_))
        obtain ⟨hv, h⟩ := hq
        subst hv
        exact A_ret 8 (m := 21) (v := none) (S' := (ri_wi S4 5 6 ((S4.1 5 6) + (1 : Int32)))) rfl rfl ⟨rfl, h⟩
  · have h := h.2 c
    refine A_call (j := 98) (As := [.ref 8, .int (S.1 5 6)]) (fr' := (21, 63, [some (.ref 5), none, some (.int x2)], [.ref 1])) (S' := S) 7 rfl (e := 0) (by omega) (sp_item 8 161 _ ⟨by decide, by decide, rfl⟩ (by decide) ?_)
    refine A_call (j := 28) (As := [.ref 1, .int (it (S.1 8) 161 (S.1 5 6))]) (fr' := (21, 66, [some (.ref 5), none, some (.int x2)], [])) (S' := S) 1 rfl (e := 1) (by omega) (A_imp (wt28 (it (S.1 8) 161 (S.1 5 6)) h) (fun v S5 hq => ?_))
    obtain ⟨hv, h⟩ := hq
    subst hv
    exact A_ret 8 (m := 21) (v := none) (S' := (ri_wi S5 5 6 ((S5.1 5 6) + (1 : Int32)))) rfl rfl ⟨rfl, h⟩
def w21_b17 (C214 : Int32 → Int32 → ri_H → (ri_H → Prop) → Prop) (Q : ri_H → Prop) (x1 : Int32) (x2 : Int32) (S : ri_H) : Prop := (((5 : Int32) ≤ x1 → w21_b43 C214  Q x2 S) ∧ (¬ (5 : Int32) ≤ x1 → C214 x2 (x1 + (1 : Int32)) (ri_wi S 5 6 ((S.1 5 6) + (1 : Int32))) (fun (S6 : ri_H) => Q S6)))
set_option maxRecDepth 10000 in
set_option maxHeartbeats 1000000 in
theorem wt21_b17 {E : ri_E} (C214 : Int32 → Int32 → ri_H → (ri_H → Prop) → Prop) (e0 : Nat) (he0 : 20 ≤ e0) (hC214 : ∀ (a b : Int32) (S : ri_H) (Q : ri_H → Prop), C214 a b S Q → ri_A E e0 (ri_en 214 [.ref 5, .int a, .int b]) S (Qv Q)) {Q : ri_H → Prop} (x1 : Int32) (x2 : Int32) (S : ri_H) (h : w21_b17 C214  Q x1 x2 S) : ri_A E (e0 + 1) (21, 17, [some (.ref 5), some (.int x1), some (.int x2)], []) S (Qv Q) := by
  unfold w21_b17 at h
  refine A_br ((5 : Int32) ≤ x1) (r1 := ((21, 43, [some (.ref 5), some (.int x1), some (.int x2)], []), S)) (r2 := ((21, 22, [some (.ref 5), some (.int x1), some (.int x2)], []), S)) 3 rfl (fun c => ?_) (fun c => ?_)
  · have h := h.1 c
    refine ri_A.less (m := 21) (pc := 43) (L := [some (.ref 5), some (.int x1), some (.int x2)]) (L' := [some (.ref 5), none, some (.int x2)]) (st := []) ⟨rfl, ⟨rfl, trivial⟩⟩ ?_
    exact wt21_b43 C214 e0 he0 hC214  _ _ h
  · have h := h.2 c
    refine A_call (j := 214) (As := [.ref 5, .int x2, .int (x1 + (1 : Int32))]) (fr' := (21, 40, [some (.ref 5), some (.int x1), some (.int x2)], [])) (S' := (ri_wi S 5 6 ((S.1 5 6) + (1 : Int32)))) 12 rfl (e := e0) (by omega) (A_imp (hC214 x2 (x1 + (1 : Int32)) _ _ h) (fun v S6 hq => ?_))
    obtain ⟨hv, h⟩ := hq
    subst hv
    exact A_ret 2 (m := 21) (v := none) (S' := S6) rfl rfl ⟨rfl, h⟩
def w21 (C214 : Int32 → Int32 → ri_H → (ri_H → Prop) → Prop) (a : Int32) (S : ri_H) (Q : ri_H → Prop) : Prop := w12  S (fun (r2 : Int32) (S1 : ri_H) => ((r2 = (40 : Int32) → w21_b17 C214  Q a r2 S1) ∧ (¬ (r2 = (40 : Int32)) → ((¬ r2 = (45 : Int32) → w21_b43 C214  Q r2 S1) ∧ (¬ (¬ r2 = (45 : Int32)) → w21_b17 C214  Q a r2 S1)))))
set_option maxRecDepth 10000 in
set_option maxHeartbeats 1000000 in
theorem wt21 {E : ri_E} (C214 : Int32 → Int32 → ri_H → (ri_H → Prop) → Prop) (e0 : Nat) (he0 : 20 ≤ e0) (hC214 : ∀ (a b : Int32) (S : ri_H) (Q : ri_H → Prop), C214 a b S Q → ri_A E e0 (ri_en 214 [.ref 5, .int a, .int b]) S (Qv Q)) (a : Int32) {S : ri_H} {Q : ri_H → Prop} (h : w21 C214 a S Q) : ri_A E (e0 + 1) (ri_en 21 [.ref 5, .int a]) S (Qv Q) := by
  unfold w21 at h
  show ri_A E (e0 + 1) (21, 0, [some (.ref 5), some (.int a), none], []) S (Qv Q)
  refine A_call (j := 12) (As := [.ref 5]) (fr' := (21, 4, [some (.ref 5), some (.int a), none], [])) (S' := S) 2 rfl (e := 1) (by omega) (A_imp (wt12  h) (fun v S1 hq => ?_))
  obtain ⟨r2, hv, h⟩ := hq
  subst hv
  refine A_br (r2 = (40 : Int32)) (r1 := ((21, 17, [some (.ref 5), some (.int a), some (.int r2)], []), S1)) (r2 := ((21, 11, [some (.ref 5), some (.int a), some (.int r2)], []), S1)) 4 rfl (fun c => ?_) (fun c => ?_)
  · have h := h.1 c
    refine ri_A.less (m := 21) (pc := 17) (L := [some (.ref 5), some (.int a), some (.int r2)]) (L' := [some (.ref 5), some (.int a), some (.int r2)]) (st := []) ⟨rfl, ⟨rfl, ⟨rfl, trivial⟩⟩⟩ ?_
    exact wt21_b17 C214 e0 he0 hC214  _ _ _ h
  · have h := h.2 c
    refine A_br (¬ r2 = (45 : Int32)) (r1 := ((21, 43, [some (.ref 5), some (.int a), some (.int r2)], []), S1)) (r2 := ((21, 17, [some (.ref 5), some (.int a), some (.int r2)], []), S1)) 3 rfl (fun c => ?_) (fun c => ?_)
    · have h := h.1 c
      refine ri_A.less (m := 21) (pc := 43) (L := [some (.ref 5), some (.int a), some (.int r2)]) (L' := [some (.ref 5), none, some (.int r2)]) (st := []) ⟨rfl, ⟨rfl, trivial⟩⟩ ?_
      exact wt21_b43 C214 e0 he0 hC214  _ _ h
    · have h := h.2 c
      refine ri_A.less (m := 21) (pc := 17) (L := [some (.ref 5), some (.int a), some (.int r2)]) (L' := [some (.ref 5), some (.int a), some (.int r2)]) (st := []) ⟨rfl, ⟨rfl, ⟨rfl, trivial⟩⟩⟩ ?_
      exact wt21_b17 C214 e0 he0 hC214  _ _ _ h
/-! X0_readOpened, depth (e0 + 1) -/
def w214 (C16 : Int32 → ri_H → (ri_H → Prop) → Prop) (C21 : Int32 → ri_H → (ri_H → Prop) → Prop) (a : Int32) (b : Int32) (S : ri_H) (Q : ri_H → Prop) : Prop := ((¬ a = (40 : Int32) → C21 b S (fun (S1 : ri_H) => w28 (-7 : Int32) S1 (fun (S2 : ri_H) => Q S2))) ∧ (¬ (¬ a = (40 : Int32)) → C16 b S (fun (S3 : ri_H) => w14 (41 : Int32) S3 (fun (S4 : ri_H) => Q S4))))
set_option maxRecDepth 10000 in
set_option maxHeartbeats 1000000 in
theorem wt214 {E : ri_E} (C16 : Int32 → ri_H → (ri_H → Prop) → Prop) (C21 : Int32 → ri_H → (ri_H → Prop) → Prop) (e0 : Nat) (he0 : 20 ≤ e0) (hC16 : ∀ (a : Int32) (S : ri_H) (Q : ri_H → Prop), C16 a S Q → ri_A E e0 (ri_en 16 [.ref 5, .int a]) S (Qv Q)) (hC21 : ∀ (a : Int32) (S : ri_H) (Q : ri_H → Prop), C21 a S Q → ri_A E e0 (ri_en 21 [.ref 5, .int a]) S (Qv Q)) (a : Int32) (b : Int32) {S : ri_H} {Q : ri_H → Prop} (h : w214 C16 C21 a b S Q) : ri_A E (e0 + 1) (ri_en 214 [.ref 5, .int a, .int b]) S (Qv Q) := by
  unfold w214 at h
  show ri_A E (e0 + 1) (214, 0, [some (.ref 5), some (.int a), some (.int b)], []) S (Qv Q)
  refine A_br (¬ a = (40 : Int32)) (r1 := ((214, 20, [some (.ref 5), some (.int a), some (.int b)], []), S)) (r2 := ((214, 6, [some (.ref 5), some (.int a), some (.int b)], []), S)) 3 rfl (fun c => ?_) (fun c => ?_)
  · have h := h.1 c
    refine A_call (j := 21) (As := [.ref 5, .int b]) (fr' := (214, 25, [some (.ref 5), some (.int a), some (.int b)], [])) (S' := S) 3 rfl (e := e0) (by omega) (A_imp (hC21 b _ _ h) (fun v S1 hq => ?_))
    obtain ⟨hv, h⟩ := hq
    subst hv
    refine A_call (j := 28) (As := [.ref 1, .int (-7 : Int32)]) (fr' := (214, 34, [some (.ref 5), some (.int a), some (.int b)], [])) (S' := S1) 4 rfl (e := 1) (by omega) (A_imp (wt28 (-7 : Int32) h) (fun v S2 hq => ?_))
    obtain ⟨hv, h⟩ := hq
    subst hv
    exact A_ret 1 (m := 214) (v := none) (S' := S2) rfl rfl ⟨rfl, h⟩
  · have h := h.2 c
    refine A_call (j := 16) (As := [.ref 5, .int b]) (fr' := (214, 11, [some (.ref 5), some (.int a), some (.int b)], [])) (S' := S) 3 rfl (e := e0) (by omega) (A_imp (hC16 b _ _ h) (fun v S3 hq => ?_))
    obtain ⟨hv, h⟩ := hq
    subst hv
    refine A_call (j := 14) (As := [.ref 5, .int (41 : Int32)]) (fr' := (214, 17, [some (.ref 5), some (.int a), some (.int b)], [])) (S' := S3) 3 rfl (e := 3) (by omega) (A_imp (wt14 (41 : Int32) h) (fun v S4 hq => ?_))
    obtain ⟨hv, h⟩ := hq
    subst hv
    exact A_ret 2 (m := 214) (v := none) (S' := S4) rfl rfl ⟨rfl, h⟩
/-! X0_readText, depth (e0 + 1) -/
def w1_b91 (C16 : Int32 → ri_H → (ri_H → Prop) → Prop) (Q : Int32 → ri_H → Prop)  (S : ri_H) : Prop := Q (S.1 5 7) S
set_option maxRecDepth 10000 in
set_option maxHeartbeats 1000000 in
theorem wt1_b91 {E : ri_E} (C16 : Int32 → ri_H → (ri_H → Prop) → Prop) (e0 : Nat) (he0 : 20 ≤ e0) (hC16 : ∀ (a : Int32) (S : ri_H) (Q : ri_H → Prop), C16 a S Q → ri_A E e0 (ri_en 16 [.ref 5, .int a]) S (Qv Q)) {Q : Int32 → ri_H → Prop}  (S : ri_H) (h : w1_b91 C16  Q  S) : ri_A E (e0 + 1) (1, 91, [some (.ref 5), none], []) S (Qi Q) := by
  unfold w1_b91 at h
  exact A_ret 3 (m := 1) (v := some (.int (S.1 5 7))) (S' := S) rfl rfl ⟨_, rfl, h⟩
def w1_l28 (C16 : Int32 → ri_H → (ri_H → Prop) → Prop) (Q : Int32 → ri_H → Prop) : Nat → Int32 → ri_H → Prop
  | 0, _, _ => False
  | n + 1, x1, S => (((3 : Int32) ≤ x1 → w14 (0 : Int32) S (fun (S3 : ri_H) => ((¬ (S3.1 5 7) = (-1 : Int32) → w1_b91 C16  Q  S3) ∧ (¬ (¬ (S3.1 5 7) = (-1 : Int32)) → w1_b91 C16  Q  (ri_wi S3 1 3 ((S3.1 1 3) + (1 : Int32))))))) ∧ (¬ (3 : Int32) ≤ x1 → w14 ((3 : Int32) + x1) S (fun (S4 : ri_H) => C16 (0 : Int32) S4 (fun (S5 : ri_H) => w14 (59 : Int32) S5 (fun (S6 : ri_H) => w29 x1 S6 (fun (S7 : ri_H) => w1_l28 C16  Q n (x1 + (1 : Int32)) S7))))))
set_option maxRecDepth 10000 in
set_option maxHeartbeats 1000000 in
theorem wt1_l28 {E : ri_E} (C16 : Int32 → ri_H → (ri_H → Prop) → Prop) (e0 : Nat) (he0 : 20 ≤ e0) (hC16 : ∀ (a : Int32) (S : ri_H) (Q : ri_H → Prop), C16 a S Q → ri_A E e0 (ri_en 16 [.ref 5, .int a]) S (Qv Q)) {Q : Int32 → ri_H → Prop} : ∀ (n : Nat) (x1 : Int32) (S : ri_H), w1_l28 C16  Q n x1 S → ri_A E (e0 + 1) (1, 28, [some (.ref 5), some (.int x1)], []) S (Qi Q) := by
  intro n
  induction n with
  | zero => intro x1 S h; exact h.elim
  | succ n ih =>
    intro x1 S h
    unfold w1_l28 at h
    refine A_br ((3 : Int32) ≤ x1) (r1 := ((1, 65, [some (.ref 5), some (.int x1)], []), S)) (r2 := ((1, 33, [some (.ref 5), some (.int x1)], []), S)) 3 rfl (fun c => ?_) (fun c => ?_)
    · have h := h.1 c
      refine A_call (j := 14) (As := [.ref 5, .int (0 : Int32)]) (fr' := (1, 70, [some (.ref 5), some (.int x1)], [])) (S' := S) 3 rfl (e := 3) (by omega) (A_imp (wt14 (0 : Int32) h) (fun v S3 hq => ?_))
      obtain ⟨hv, h⟩ := hq
      subst hv
      refine A_br (¬ (S3.1 5 7) = (-1 : Int32)) (r1 := ((1, 91, [some (.ref 5), some (.int x1)], []), S3)) (r2 := ((1, 78, [some (.ref 5), some (.int x1)], []), S3)) 4 rfl (fun c => ?_) (fun c => ?_)
      · have h := h.1 c
        refine ri_A.less (m := 1) (pc := 91) (L := [some (.ref 5), some (.int x1)]) (L' := [some (.ref 5), none]) (st := []) ⟨rfl, trivial⟩ ?_
        exact wt1_b91 C16 e0 he0 hC16  _ h
      · have h := h.2 c
        refine A_nx 7 (fr' := (1, 91, [some (.ref 5), some (.int x1)], [])) (S' := (ri_wi S3 1 3 ((S3.1 1 3) + (1 : Int32)))) rfl ?_
        refine ri_A.less (m := 1) (pc := 91) (L := [some (.ref 5), some (.int x1)]) (L' := [some (.ref 5), none]) (st := []) ⟨rfl, trivial⟩ ?_
        exact wt1_b91 C16 e0 he0 hC16  _ h
    · have h := h.2 c
      refine A_call (j := 14) (As := [.ref 5, .int ((3 : Int32) + x1)]) (fr' := (1, 40, [some (.ref 5), some (.int x1)], [])) (S' := S) 5 rfl (e := 3) (by omega) (A_imp (wt14 ((3 : Int32) + x1) h) (fun v S4 hq => ?_))
      obtain ⟨hv, h⟩ := hq
      subst hv
      refine A_call (j := 16) (As := [.ref 5, .int (0 : Int32)]) (fr' := (1, 45, [some (.ref 5), some (.int x1)], [])) (S' := S4) 3 rfl (e := e0) (by omega) (A_imp (hC16 (0 : Int32) _ _ h) (fun v S5 hq => ?_))
      obtain ⟨hv, h⟩ := hq
      subst hv
      refine A_call (j := 14) (As := [.ref 5, .int (59 : Int32)]) (fr' := (1, 51, [some (.ref 5), some (.int x1)], [])) (S' := S5) 3 rfl (e := 3) (by omega) (A_imp (wt14 (59 : Int32) h) (fun v S6 hq => ?_))
      obtain ⟨hv, h⟩ := hq
      subst hv
      refine A_call (j := 29) (As := [.ref 1, .int x1]) (fr' := (1, 59, [some (.ref 5), some (.int x1)], [])) (S' := S6) 4 rfl (e := 1) (by omega) (A_imp (wt29 x1 h) (fun v S7 hq => ?_))
      obtain ⟨hv, h⟩ := hq
      subst hv
      refine A_nx 2 (fr' := (1, 28, [some (.ref 5), some (.int (x1 + (1 : Int32)))], [])) (S' := S7) rfl ?_
      refine ri_A.less (m := 1) (pc := 28) (L := [some (.ref 5), some (.int (x1 + (1 : Int32)))]) (L' := [some (.ref 5), some (.int (x1 + (1 : Int32)))]) (st := []) ⟨rfl, ⟨rfl, trivial⟩⟩ ?_
      exact ih _ _ h
def w1 (C16 : Int32 → ri_H → (ri_H → Prop) → Prop)  (S : ri_H) (Q : Int32 → ri_H → Prop) : Prop := w2  S (fun (S1 : ri_H) => w27  (ri_wi (ri_wi (ri_wi S1 5 4 (0 : Int32)) 5 6 (0 : Int32)) 5 7 (-1 : Int32)) (fun (S2 : ri_H) => ∃ nn, w1_l28 C16  Q nn (0 : Int32) S2))
set_option maxRecDepth 10000 in
set_option maxHeartbeats 1000000 in
theorem wt1 {E : ri_E} (C16 : Int32 → ri_H → (ri_H → Prop) → Prop) (e0 : Nat) (he0 : 20 ≤ e0) (hC16 : ∀ (a : Int32) (S : ri_H) (Q : ri_H → Prop), C16 a S Q → ri_A E e0 (ri_en 16 [.ref 5, .int a]) S (Qv Q))  {S : ri_H} {Q : Int32 → ri_H → Prop} (h : w1 C16  S Q) : ri_A E (e0 + 1) (ri_en 1 [.ref 5]) S (Qi Q) := by
  unfold w1 at h
  show ri_A E (e0 + 1) (1, 0, [some (.ref 5), none], []) S (Qi Q)
  refine A_call (j := 2) (As := [.ref 5]) (fr' := (1, 4, [some (.ref 5), none], [])) (S' := S) 2 rfl (e := 7) (by omega) (A_imp (wt2  h) (fun v S1 hq => ?_))
  obtain ⟨hv, h⟩ := hq
  subst hv
  refine A_call (j := 27) (As := [.ref 1]) (fr' := (1, 26, [some (.ref 5), none], [])) (S' := (ri_wi (ri_wi (ri_wi S1 5 4 (0 : Int32)) 5 6 (0 : Int32)) 5 7 (-1 : Int32))) 12 rfl (e := 1) (by omega) (A_imp (wt27  h) (fun v S2 hq => ?_))
  obtain ⟨hv, h⟩ := hq
  subst hv
  refine A_nx 2 (fr' := (1, 28, [some (.ref 5), some (.int (0 : Int32))], [])) (S' := S2) rfl ?_
  refine ri_A.less (m := 1) (pc := 28) (L := [some (.ref 5), some (.int (0 : Int32))]) (L' := [some (.ref 5), some (.int (0 : Int32))]) (st := []) ⟨rfl, ⟨rfl, trivial⟩⟩ ?_
  obtain ⟨nn, h⟩ := h
  exact wt1_l28 C16 e0 he0 hC16  nn _ _ h
