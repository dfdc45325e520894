/-! the model -/
/-! X5_in, depth 0 -/
def w102 (a : Int64) (b : Int64) (g : Int64) (S : ri_H) (Q : Int32 → ri_H → Prop) : Prop := (((lg_cmp a b) < 0 → Q (0 : Int32) S) ∧ (¬ (lg_cmp a b) < 0 → ((0 < (lg_cmp a g) → Q (0 : Int32) S) ∧ (¬ (0 < (lg_cmp a g)) → Q (1 : Int32) S))))
set_option maxRecDepth 10000 in
set_option maxHeartbeats 1000000 in
theorem wt102 {E : ri_E} (a : Int64) (b : Int64) (g : Int64) {S : ri_H} {Q : Int32 → ri_H → Prop} (h : w102  a b g S Q) : ri_A E 0 (ri_en 102 [.long a, .long b, .long g]) S (Qi Q) := by
  unfold w102 at h
  show ri_A E 0 (102, 0, [some (.long a), none, some (.long b), none, some (.long g), none], []) S (Qi Q)
  refine A_br ((lg_cmp a b) < 0) (r1 := ((102, 17, [some (.long a), none, some (.long b), none, some (.long g), none], []), S)) (r2 := ((102, 6, [some (.long a), none, some (.long b), none, some (.long g), none], []), S)) 4 rfl (fun c => ?_) (fun c => ?_)
  · have h := h.1 c
    exact A_ret 2 (m := 102) (v := some (.int (0 : Int32))) (S' := S) rfl rfl ⟨_, rfl, h⟩
  · have h := h.2 c
    refine A_br (0 < (lg_cmp a g)) (r1 := ((102, 17, [some (.long a), none, some (.long b), none, some (.long g), none], []), S)) (r2 := ((102, 13, [some (.long a), none, some (.long b), none, some (.long g), none], []), S)) 4 rfl (fun c => ?_) (fun c => ?_)
    · have h := h.1 c
      exact A_ret 2 (m := 102) (v := some (.int (0 : Int32))) (S' := S) rfl rfl ⟨_, rfl, h⟩
    · have h := h.2 c
      exact A_ret 3 (m := 102) (v := some (.int (1 : Int32))) (S' := S) rfl rfl ⟨_, rfl, h⟩
/-! X5_within, depth 0 -/
def w103 (a : Int32) (b : Int32) (g : Int32) (S : ri_H) (Q : Int32 → ri_H → Prop) : Prop := ((b ≤ a → ((a ≤ g → Q a S) ∧ (¬ (a ≤ g) → Q g S))) ∧ (¬ (b ≤ a) → Q b S))
set_option maxRecDepth 10000 in
set_option maxHeartbeats 1000000 in
theorem wt103 {E : ri_E} (a : Int32) (b : Int32) (g : Int32) {S : ri_H} {Q : Int32 → ri_H → Prop} (h : w103  a b g S Q) : ri_A E 0 (ri_en 103 [.int a, .int b, .int g]) S (Qi Q) := by
  unfold w103 at h
  show ri_A E 0 (103, 0, [some (.int a), some (.int b), some (.int g)], []) S (Qi Q)
  refine A_br (b ≤ a) (r1 := ((103, 9, [some (.int a), some (.int b), some (.int g)], []), S)) (r2 := ((103, 5, [some (.int a), some (.int b), some (.int g)], []), S)) 3 rfl (fun c => ?_) (fun c => ?_)
  · have h := h.1 c
    refine A_br (a ≤ g) (r1 := ((103, 18, [some (.int a), some (.int b), some (.int g)], []), S)) (r2 := ((103, 14, [some (.int a), some (.int b), some (.int g)], []), S)) 3 rfl (fun c => ?_) (fun c => ?_)
    · have h := h.1 c
      exact A_ret 2 (m := 103) (v := some (.int a)) (S' := S) rfl rfl ⟨_, rfl, h⟩
    · have h := h.2 c
      exact A_ret 3 (m := 103) (v := some (.int g)) (S' := S) rfl rfl ⟨_, rfl, h⟩
  · have h := h.2 c
    exact A_ret 3 (m := 103) (v := some (.int b)) (S' := S) rfl rfl ⟨_, rfl, h⟩
/-! X5_byteAt, depth 0 -/
def w116 (a : Int32) (S : ri_H) (Q : Int32 → ri_H → Prop) : Prop := (((S.1 50 19) ≤ a → Q (-1 : Int32) S) ∧ (¬ (S.1 50 19) ≤ a → (vp_in ((S.1 50 18) + a) 960 ∧ Q (S.1 51 (((S.1 50 18) + a)).toNatClampNeg) S)))
set_option maxRecDepth 10000 in
set_option maxHeartbeats 1000000 in
theorem wt116 {E : ri_E} (a : Int32) {S : ri_H} {Q : Int32 → ri_H → Prop} (h : w116  a S Q) : ri_A E 0 (ri_en 116 [.ref 50, .int a]) S (Qi Q) := by
  unfold w116 at h
  show ri_A E 0 (116, 0, [some (.ref 50), some (.int a)], []) S (Qi Q)
  refine A_br ((S.1 50 19) ≤ a) (r1 := ((116, 22, [some (.ref 50), some (.int a)], []), S)) (r2 := ((116, 8, [some (.ref 50), some (.int a)], []), S)) 4 rfl (fun c => ?_) (fun c => ?_)
  · have h := h.1 c
    exact A_ret 2 (m := 116) (v := some (.int (-1 : Int32))) (S' := S) rfl rfl ⟨_, rfl, h⟩
  · have h := h.2 c
    refine A_ix ((S.1 50 18) + a) 960 (r1 := ((116, 19, [some (.ref 50), some (.int a)], [.int (S.1 51 (((S.1 50 18) + a)).toNatClampNeg)]), S)) 7 rfl h.1 ?_
    have h := h.2
    exact A_ret 2 (m := 116) (v := some (.int (S.1 51 (((S.1 50 18) + a)).toNatClampNeg))) (S' := S) rfl rfl ⟨_, rfl, h⟩
/-! X5_next, depth 1 -/
def w117_b26 (K0 : ri_H → Prop) (Q : ri_H → Prop)  (S : ri_H) : Prop := K0  (ri_wi S 50 20 ((S.1 50 20) + (1 : Int32)))
set_option maxRecDepth 10000 in
set_option maxHeartbeats 1000000 in
theorem wt117_b26 {E : ri_E} {K0 : ri_H → Prop} {Q : ri_H → Prop} (hK0 : ∀  (S : ri_H), K0  S → ri_A E 1 (117, 0, [some (.ref 50), none, none], []) S (Qv Q))  (S : ri_H) (h : w117_b26  K0 Q  S) : ri_A E 1 (117, 26, [some (.ref 50), none, none], []) S (Qv Q) := by
  unfold w117_b26 at h
  refine A_nx 7 (fr' := (117, 0, [some (.ref 50), none, none], [])) (S' := (ri_wi S 50 20 ((S.1 50 20) + (1 : Int32)))) rfl ?_
  refine ri_A.less (m := 117) (pc := 0) (L := [some (.ref 50), none, none]) (L' := [some (.ref 50), none, none]) (st := []) ⟨rfl, trivial⟩ ?_
  exact hK0 _ h
def w117_b300 (Q : ri_H → Prop) (x1 : Int32) (S : ri_H) : Prop := Q (ri_wi (ri_wl (ri_wi S 50 21 (3 : Int32)) 50 23 (x1).toInt64) 50 20 ((S.1 50 20) + (1 : Int32)))
set_option maxRecDepth 10000 in
set_option maxHeartbeats 1000000 in
theorem wt117_b300 {E : ri_E} {Q : ri_H → Prop} (x1 : Int32) (S : ri_H) (h : w117_b300   Q x1 S) : ri_A E 1 (117, 300, [some (.ref 50), some (.int x1), none], []) S (Qv Q) := by
  unfold w117_b300 at h
  exact A_ret 14 (m := 117) (v := none) (S' := (ri_wi (ri_wl (ri_wi S 50 21 (3 : Int32)) 50 23 (x1).toInt64) 50 20 ((S.1 50 20) + (1 : Int32)))) rfl rfl ⟨rfl, h⟩
def w117_b246 (Q : ri_H → Prop) (s0 : Int32) (S : ri_H) : Prop := Q (ri_wi S 50 21 s0)
set_option maxRecDepth 10000 in
set_option maxHeartbeats 1000000 in
theorem wt117_b246 {E : ri_E} {Q : ri_H → Prop} (s0 : Int32) (S : ri_H) (h : w117_b246   Q s0 S) : ri_A E 1 (117, 246, [none, none, none], [.int s0, .ref 50]) S (Qv Q) := by
  unfold w117_b246 at h
  exact A_ret 3 (m := 117) (v := none) (S' := (ri_wi S 50 21 s0)) rfl rfl ⟨rfl, h⟩
def w117_b216 (K160 : Int32 → ri_H → Prop) (Q : ri_H → Prop) (x2 : Int32) (t0 : Int64) (S : ri_H) : Prop := K160 (x2 + (1 : Int32)) (ri_wi (ri_wl S 50 23 t0) 50 20 ((S.1 50 20) + (1 : Int32)))
set_option maxRecDepth 10000 in
set_option maxHeartbeats 1000000 in
theorem wt117_b216 {E : ri_E} {K160 : Int32 → ri_H → Prop} {Q : ri_H → Prop} (hK160 : ∀ (x2 : Int32) (S : ri_H), K160 x2 S → ri_A E 1 (117, 160, [some (.ref 50), none, some (.int x2)], []) S (Qv Q)) (x2 : Int32) (t0 : Int64) (S : ri_H) (h : w117_b216  K160 Q x2 t0 S) : ri_A E 1 (117, 216, [some (.ref 50), none, some (.int x2)], [.long t0, .ref 50]) S (Qv Q) := by
  unfold w117_b216 at h
  refine A_nx 9 (fr' := (117, 160, [some (.ref 50), none, some (.int (x2 + (1 : Int32)))], [])) (S' := (ri_wi (ri_wl S 50 23 t0) 50 20 ((S.1 50 20) + (1 : Int32)))) rfl ?_
  refine ri_A.less (m := 117) (pc := 160) (L := [some (.ref 50), none, some (.int (x2 + (1 : Int32)))]) (L' := [some (.ref 50), none, some (.int (x2 + (1 : Int32)))]) (st := []) ⟨rfl, ⟨rfl, trivial⟩⟩ ?_
  exact hK160 _ _ h
def w117_l160 (Q : ri_H → Prop) : Nat → Int32 → ri_H → Prop
  | 0, _, _ => False
  | n + 1, x2, S => w116 (S.1 50 20) S (fun (r12 : Int32) (S11 : ri_H) => w102 (r12).toInt64 (48 : Int64) (57 : Int64) S11 (fun (r14 : Int32) (S13 : ri_H) => ((r14 = 0 → ((x2 ≤ (4 : Int32) → w117_b246   Q (2 : Int32) S13) ∧ (¬ (x2 ≤ (4 : Int32)) → w117_b246   Q (4 : Int32) S13))) ∧ (¬ (r14 = 0) → (((4 : Int32) ≤ x2 → w117_b216  (fun x2 S => w117_l160   Q n x2 S) Q x2 (S13.2 50 23) S13) ∧ (¬ (4 : Int32) ≤ x2 → w116 (S13.1 50 20) S13 (fun (r16 : Int32) (S15 : ri_H) => w117_b216  (fun x2 S => w117_l160   Q n x2 S) Q x2 ((((10 : Int64) * (S13.2 50 23)) + (r16).toInt64) - (48 : Int64)) S15)))))))
set_option maxRecDepth 10000 in
set_option maxHeartbeats 1000000 in
theorem wt117_l160 {E : ri_E} {Q : ri_H → Prop} : ∀ (n : Nat) (x2 : Int32) (S : ri_H), w117_l160   Q n x2 S → ri_A E 1 (117, 160, [some (.ref 50), none, some (.int x2)], []) S (Qv Q) := by
  intro n
  induction n with
  | zero => intro x2 S h; exact h.elim
  | succ n ih =>
    intro x2 S h
    unfold w117_l160 at h
    refine A_call (j := 116) (As := [.ref 50, .int (S.1 50 20)]) (fr' := (117, 168, [some (.ref 50), none, some (.int x2)], [])) (S' := S) 4 rfl (e := 0) (by omega) (A_imp (wt116 (S.1 50 20) h) (fun v S11 hq => ?_))
    obtain ⟨r12, hv, h⟩ := hq
    subst hv
    refine A_call (j := 102) (As := [.long (r12).toInt64, .long (48 : Int64), .long (57 : Int64)]) (fr' := (117, 178, [some (.ref 50), none, some (.int x2)], [])) (S' := S11) 4 rfl (e := 0) (by omega) (A_imp (wt102 (r12).toInt64 (48 : Int64) (57 : Int64) h) (fun v S13 hq => ?_))
    obtain ⟨r14, hv, h⟩ := hq
    subst hv
    refine A_br (r14 = 0) (r1 := ((117, 235, [some (.ref 50), none, some (.int x2)], []), S13)) (r2 := ((117, 181, [some (.ref 50), none, some (.int x2)], []), S13)) 1 rfl (fun c => ?_) (fun c => ?_)
    · have h := h.1 c
      refine A_br (x2 ≤ (4 : Int32)) (r1 := ((117, 245, [some (.ref 50), none, some (.int x2)], [.ref 50]), S13)) (r2 := ((117, 241, [some (.ref 50), none, some (.int x2)], [.ref 50]), S13)) 4 rfl (fun c => ?_) (fun c => ?_)
      · have h := h.1 c
        refine A_nx 1 (fr' := (117, 246, [some (.ref 50), none, some (.int x2)], [.int (2 : Int32), .ref 50])) (S' := S13) rfl ?_
        refine ri_A.less (m := 117) (pc := 246) (L := [some (.ref 50), none, some (.int x2)]) (L' := [none, none, none]) (st := [.int (2 : Int32), .ref 50]) trivial ?_
        exact wt117_b246   _ _ h
      · have h := h.2 c
        refine A_nx 2 (fr' := (117, 246, [some (.ref 50), none, some (.int x2)], [.int (4 : Int32), .ref 50])) (S' := S13) rfl ?_
        refine ri_A.less (m := 117) (pc := 246) (L := [some (.ref 50), none, some (.int x2)]) (L' := [none, none, none]) (st := [.int (4 : Int32), .ref 50]) trivial ?_
        exact wt117_b246   _ _ h
    · have h := h.2 c
      refine A_br ((4 : Int32) ≤ x2) (r1 := ((117, 212, [some (.ref 50), none, some (.int x2)], [.ref 50]), S13)) (r2 := ((117, 187, [some (.ref 50), none, some (.int x2)], [.ref 50]), S13)) 4 rfl (fun c => ?_) (fun c => ?_)
      · have h := h.1 c
        refine A_nx 2 (fr' := (117, 216, [some (.ref 50), none, some (.int x2)], [.long (S13.2 50 23), .ref 50])) (S' := S13) rfl ?_
        refine ri_A.less (m := 117) (pc := 216) (L := [some (.ref 50), none, some (.int x2)]) (L' := [some (.ref 50), none, some (.int x2)]) (st := [.long (S13.2 50 23), .ref 50]) ⟨rfl, ⟨rfl, trivial⟩⟩ ?_
        exact wt117_b216  (fun x2 S hk => ih x2 S hk) _ _ _ h
      · have h := h.2 c
        refine A_call (j := 116) (As := [.ref 50, .int (S13.1 50 20)]) (fr' := (117, 203, [some (.ref 50), none, some (.int x2)], [.long ((10 : Int64) * (S13.2 50 23)), .ref 50])) (S' := S13) 8 rfl (e := 0) (by omega) (A_imp (wt116 (S13.1 50 20) h) (fun v S15 hq => ?_))
        obtain ⟨r16, hv, h⟩ := hq
        subst hv
        refine A_nx 5 (fr' := (117, 216, [some (.ref 50), none, some (.int x2)], [.long ((((10 : Int64) * (S13.2 50 23)) + (r16).toInt64) - (48 : Int64)), .ref 50])) (S' := S15) rfl ?_
        refine ri_A.less (m := 117) (pc := 216) (L := [some (.ref 50), none, some (.int x2)]) (L' := [some (.ref 50), none, some (.int x2)]) (st := [.long ((((10 : Int64) * (S13.2 50 23)) + (r16).toInt64) - (48 : Int64)), .ref 50]) ⟨rfl, ⟨rfl, trivial⟩⟩ ?_
        exact wt117_b216  (fun x2 S hk => ih x2 S hk) _ _ _ h
def w117_l100 (Q : ri_H → Prop) : Nat → ri_H → Prop
  | 0, _ => False
  | n + 1, S => w116 (S.1 50 20) S (fun (r18 : Int32) (S17 : ri_H) => w102 (r18).toInt64 (97 : Int64) (122 : Int64) S17 (fun (r20 : Int32) (S19 : ri_H) => ((r20 = 0 → Q S19) ∧ (¬ (r20 = 0) → w117_l100   Q n  (ri_wi S19 50 20 ((S19.1 50 20) + (1 : Int32)))))))
set_option maxRecDepth 10000 in
set_option maxHeartbeats 1000000 in
theorem wt117_l100 {E : ri_E} {Q : ri_H → Prop} : ∀ (n : Nat)  (S : ri_H), w117_l100   Q n  S → ri_A E 1 (117, 100, [some (.ref 50), none, none], []) S (Qv Q) := by
  intro n
  induction n with
  | zero => intro  S h; exact h.elim
  | succ n ih =>
    intro  S h
    unfold w117_l100 at h
    refine A_call (j := 116) (As := [.ref 50, .int (S.1 50 20)]) (fr' := (117, 108, [some (.ref 50), none, none], [])) (S' := S) 4 rfl (e := 0) (by omega) (A_imp (wt116 (S.1 50 20) h) (fun v S17 hq => ?_))
    obtain ⟨r18, hv, h⟩ := hq
    subst hv
    refine A_call (j := 102) (As := [.long (r18).toInt64, .long (97 : Int64), .long (122 : Int64)]) (fr' := (117, 118, [some (.ref 50), none, none], [])) (S' := S17) 4 rfl (e := 0) (by omega) (A_imp (wt102 (r18).toInt64 (97 : Int64) (122 : Int64) h) (fun v S19 hq => ?_))
    obtain ⟨r20, hv, h⟩ := hq
    subst hv
    refine A_br (r20 = 0) (r1 := ((117, 321, [some (.ref 50), none, none], []), S19)) (r2 := ((117, 121, [some (.ref 50), none, none], []), S19)) 1 rfl (fun c => ?_) (fun c => ?_)
    · have h := h.1 c
      exact A_ret 1 (m := 117) (v := none) (S' := S19) rfl rfl ⟨rfl, h⟩
    · have h := h.2 c
      refine A_nx 7 (fr' := (117, 100, [some (.ref 50), none, none], [])) (S' := (ri_wi S19 50 20 ((S19.1 50 20) + (1 : Int32)))) rfl ?_
      refine ri_A.less (m := 117) (pc := 100) (L := [some (.ref 50), none, none]) (L' := [some (.ref 50), none, none]) (st := []) ⟨rfl, trivial⟩ ?_
      exact ih _ h
def w117_l0 (Q : ri_H → Prop) : Nat → ri_H → Prop
  | 0, _ => False
  | n + 1, S => w116 (S.1 50 20) S (fun (r2 : Int32) (S1 : ri_H) => ((r2 = (32 : Int32) → w117_b26  (fun  S => w117_l0   Q n  S) Q  S1) ∧ (¬ (r2 = (32 : Int32)) → w116 (S1.1 50 20) S1 (fun (r4 : Int32) (S3 : ri_H) => ((¬ r4 = (10 : Int32) → w116 (S3.1 50 20) (ri_wi S3 50 22 (S3.1 50 20)) (fun (r6 : Int32) (S5 : ri_H) => ((0 ≤ r6 → w102 (r6).toInt64 (97 : Int64) (122 : Int64) (ri_wi S5 50 21 (4 : Int32)) (fun (r8 : Int32) (S7 : ri_H) => ((r8 = 0 → w102 (r6).toInt64 (48 : Int64) (57 : Int64) S7 (fun (r10 : Int32) (S9 : ri_H) => ((r10 = 0 → ((r6 = (40 : Int32) → w117_b300   Q r6 S9) ∧ (¬ (r6 = (40 : Int32)) → ((r6 = (41 : Int32) → w117_b300   Q r6 S9) ∧ (¬ (r6 = (41 : Int32)) → ((r6 = (59 : Int32) → w117_b300   Q r6 S9) ∧ (¬ (r6 = (59 : Int32)) → ((r6 = (43 : Int32) → w117_b300   Q r6 S9) ∧ (¬ (r6 = (43 : Int32)) → ((r6 = (45 : Int32) → w117_b300   Q r6 S9) ∧ (¬ (r6 = (45 : Int32)) → ((r6 = (42 : Int32) → w117_b300   Q r6 S9) ∧ (¬ (r6 = (42 : Int32)) → ((r6 = (60 : Int32) → w117_b300   Q r6 S9) ∧ (¬ (r6 = (60 : Int32)) → ((¬ r6 = (61 : Int32) → Q S9) ∧ (¬ (¬ r6 = (61 : Int32)) → w117_b300   Q r6 S9))))))))))))))))) ∧ (¬ (r10 = 0) → ∃ nn, w117_l160   Q nn (0 : Int32) (ri_wl (ri_wi S9 50 21 (2 : Int32)) 50 23 (0 : Int64)))))) ∧ (¬ (r8 = 0) → ∃ nn, w117_l100   Q nn  (ri_wi S7 50 21 (1 : Int32)))))) ∧ (¬ (0 ≤ r6) → Q (ri_wi (ri_wi (ri_wi S5 50 21 (4 : Int32)) 50 21 (0 : Int32)) 50 22 (S5.1 50 19)))))) ∧ (¬ (¬ r4 = (10 : Int32)) → w117_b26  (fun  S => w117_l0   Q n  S) Q  S3))))))
set_option maxRecDepth 10000 in
set_option maxHeartbeats 1000000 in
theorem wt117_l0 {E : ri_E} {Q : ri_H → Prop} : ∀ (n : Nat)  (S : ri_H), w117_l0   Q n  S → ri_A E 1 (117, 0, [some (.ref 50), none, none], []) S (Qv Q) := by
  intro n
  induction n with
  | zero => intro  S h; exact h.elim
  | succ n ih =>
    intro  S h
    unfold w117_l0 at h
    refine A_call (j := 116) (As := [.ref 50, .int (S.1 50 20)]) (fr' := (117, 8, [some (.ref 50), none, none], [])) (S' := S) 4 rfl (e := 0) (by omega) (A_imp (wt116 (S.1 50 20) h) (fun v S1 hq => ?_))
    obtain ⟨r2, hv, h⟩ := hq
    subst hv
    refine A_br (r2 = (32 : Int32)) (r1 := ((117, 26, [some (.ref 50), none, none], []), S1)) (r2 := ((117, 13, [some (.ref 50), none, none], []), S1)) 2 rfl (fun c => ?_) (fun c => ?_)
    · have h := h.1 c
      refine ri_A.less (m := 117) (pc := 26) (L := [some (.ref 50), none, none]) (L' := [some (.ref 50), none, none]) (st := []) ⟨rfl, trivial⟩ ?_
      exact wt117_b26  (fun  S hk => ih  S hk) _ h
    · have h := h.2 c
      refine A_call (j := 116) (As := [.ref 50, .int (S1.1 50 20)]) (fr' := (117, 21, [some (.ref 50), none, none], [])) (S' := S1) 4 rfl (e := 0) (by omega) (A_imp (wt116 (S1.1 50 20) h) (fun v S3 hq => ?_))
      obtain ⟨r4, hv, h⟩ := hq
      subst hv
      refine A_br (¬ r4 = (10 : Int32)) (r1 := ((117, 39, [some (.ref 50), none, none], []), S3)) (r2 := ((117, 26, [some (.ref 50), none, none], []), S3)) 2 rfl (fun c => ?_) (fun c => ?_)
      · have h := h.1 c
        refine A_call (j := 116) (As := [.ref 50, .int (S3.1 50 20)]) (fr' := (117, 55, [some (.ref 50), none, none], [])) (S' := (ri_wi S3 50 22 (S3.1 50 20))) 8 rfl (e := 0) (by omega) (A_imp (wt116 (S3.1 50 20) h) (fun v S5 hq => ?_))
        obtain ⟨r6, hv, h⟩ := hq
        subst hv
        refine A_br (0 ≤ r6) (r1 := ((117, 81, [some (.ref 50), some (.int r6), none], []), (ri_wi S5 50 21 (4 : Int32)))) (r2 := ((117, 65, [some (.ref 50), some (.int r6), none], []), (ri_wi S5 50 21 (4 : Int32)))) 6 rfl (fun c => ?_) (fun c => ?_)
        · have h := h.1 c
          refine A_call (j := 102) (As := [.long (r6).toInt64, .long (97 : Int64), .long (122 : Int64)]) (fr' := (117, 92, [some (.ref 50), some (.int r6), none], [])) (S' := (ri_wi S5 50 21 (4 : Int32))) 5 rfl (e := 0) (by omega) (A_imp (wt102 (r6).toInt64 (97 : Int64) (122 : Int64) h) (fun v S7 hq => ?_))
          obtain ⟨r8, hv, h⟩ := hq
          subst hv
          refine A_br (r8 = 0) (r1 := ((117, 134, [some (.ref 50), some (.int r6), none], []), S7)) (r2 := ((117, 95, [some (.ref 50), some (.int r6), none], []), S7)) 1 rfl (fun c => ?_) (fun c => ?_)
          · have h := h.1 c
            refine A_call (j := 102) (As := [.long (r6).toInt64, .long (48 : Int64), .long (57 : Int64)]) (fr' := (117, 145, [some (.ref 50), some (.int r6), none], [])) (S' := S7) 5 rfl (e := 0) (by omega) (A_imp (wt102 (r6).toInt64 (48 : Int64) (57 : Int64) h) (fun v S9 hq => ?_))
            obtain ⟨r10, hv, h⟩ := hq
            subst hv
            refine A_br (r10 = 0) (r1 := ((117, 252, [some (.ref 50), some (.int r6), none], []), S9)) (r2 := ((117, 148, [some (.ref 50), some (.int r6), none], []), S9)) 1 rfl (fun c => ?_) (fun c => ?_)
            · have h := h.1 c
              refine A_br (r6 = (40 : Int32)) (r1 := ((117, 300, [some (.ref 50), some (.int r6), none], []), S9)) (r2 := ((117, 258, [some (.ref 50), some (.int r6), none], []), S9)) 3 rfl (fun c => ?_) (fun c => ?_)
              · have h := h.1 c
                refine ri_A.less (m := 117) (pc := 300) (L := [some (.ref 50), some (.int r6), none]) (L' := [some (.ref 50), some (.int r6), none]) (st := []) ⟨rfl, ⟨rfl, trivial⟩⟩ ?_
                exact wt117_b300   _ _ h
              · have h := h.2 c
                refine A_br (r6 = (41 : Int32)) (r1 := ((117, 300, [some (.ref 50), some (.int r6), none], []), S9)) (r2 := ((117, 264, [some (.ref 50), some (.int r6), none], []), S9)) 3 rfl (fun c => ?_) (fun c => ?_)
                · have h := h.1 c
                  refine ri_A.less (m := 117) (pc := 300) (L := [some (.ref 50), some (.int r6), none]) (L' := [some (.ref 50), some (.int r6), none]) (st := []) ⟨rfl, ⟨rfl, trivial⟩⟩ ?_
                  exact wt117_b300   _ _ h
                · have h := h.2 c
                  refine A_br (r6 = (59 : Int32)) (r1 := ((117, 300, [some (.ref 50), some (.int r6), none], []), S9)) (r2 := ((117, 270, [some (.ref 50), some (.int r6), none], []), S9)) 3 rfl (fun c => ?_) (fun c => ?_)
                  · have h := h.1 c
                    refine ri_A.less (m := 117) (pc := 300) (L := [some (.ref 50), some (.int r6), none]) (L' := [some (.ref 50), some (.int r6), none]) (st := []) ⟨rfl, ⟨rfl, trivial⟩⟩ ?_
                    exact wt117_b300   _ _ h
                  · have h := h.2 c
                    refine A_br (r6 = (43 : Int32)) (r1 := ((117, 300, [some (.ref 50), some (.int r6), none], []), S9)) (r2 := ((117, 276, [some (.ref 50), some (.int r6), none], []), S9)) 3 rfl (fun c => ?_) (fun c => ?_)
                    · have h := h.1 c
                      refine ri_A.less (m := 117) (pc := 300) (L := [some (.ref 50), some (.int r6), none]) (L' := [some (.ref 50), some (.int r6), none]) (st := []) ⟨rfl, ⟨rfl, trivial⟩⟩ ?_
                      exact wt117_b300   _ _ h
                    · have h := h.2 c
                      refine A_br (r6 = (45 : Int32)) (r1 := ((117, 300, [some (.ref 50), some (.int r6), none], []), S9)) (r2 := ((117, 282, [some (.ref 50), some (.int r6), none], []), S9)) 3 rfl (fun c => ?_) (fun c => ?_)
                      · have h := h.1 c
                        refine ri_A.less (m := 117) (pc := 300) (L := [some (.ref 50), some (.int r6), none]) (L' := [some (.ref 50), some (.int r6), none]) (st := []) ⟨rfl, ⟨rfl, trivial⟩⟩ ?_
                        exact wt117_b300   _ _ h
                      · have h := h.2 c
                        refine A_br (r6 = (42 : Int32)) (r1 := ((117, 300, [some (.ref 50), some (.int r6), none], []), S9)) (r2 := ((117, 288, [some (.ref 50), some (.int r6), none], []), S9)) 3 rfl (fun c => ?_) (fun c => ?_)
                        · have h := h.1 c
                          refine ri_A.less (m := 117) (pc := 300) (L := [some (.ref 50), some (.int r6), none]) (L' := [some (.ref 50), some (.int r6), none]) (st := []) ⟨rfl, ⟨rfl, trivial⟩⟩ ?_
                          exact wt117_b300   _ _ h
                        · have h := h.2 c
                          refine A_br (r6 = (60 : Int32)) (r1 := ((117, 300, [some (.ref 50), some (.int r6), none], []), S9)) (r2 := ((117, 294, [some (.ref 50), some (.int r6), none], []), S9)) 3 rfl (fun c => ?_) (fun c => ?_)
                          · have h := h.1 c
                            refine ri_A.less (m := 117) (pc := 300) (L := [some (.ref 50), some (.int r6), none]) (L' := [some (.ref 50), some (.int r6), none]) (st := []) ⟨rfl, ⟨rfl, trivial⟩⟩ ?_
                            exact wt117_b300   _ _ h
                          · have h := h.2 c
                            refine A_br (¬ r6 = (61 : Int32)) (r1 := ((117, 321, [some (.ref 50), some (.int r6), none], []), S9)) (r2 := ((117, 300, [some (.ref 50), some (.int r6), none], []), S9)) 3 rfl (fun c => ?_) (fun c => ?_)
                            · have h := h.1 c
                              exact A_ret 1 (m := 117) (v := none) (S' := S9) rfl rfl ⟨rfl, h⟩
                            · have h := h.2 c
                              refine ri_A.less (m := 117) (pc := 300) (L := [some (.ref 50), some (.int r6), none]) (L' := [some (.ref 50), some (.int r6), none]) (st := []) ⟨rfl, ⟨rfl, trivial⟩⟩ ?_
                              exact wt117_b300   _ _ h
            · have h := h.2 c
              refine A_nx 8 (fr' := (117, 160, [some (.ref 50), some (.int r6), some (.int (0 : Int32))], [])) (S' := (ri_wl (ri_wi S9 50 21 (2 : Int32)) 50 23 (0 : Int64))) rfl ?_
              refine ri_A.less (m := 117) (pc := 160) (L := [some (.ref 50), some (.int r6), some (.int (0 : Int32))]) (L' := [some (.ref 50), none, some (.int (0 : Int32))]) (st := []) ⟨rfl, ⟨rfl, trivial⟩⟩ ?_
              obtain ⟨nn, h⟩ := h
              exact wt117_l160   nn _ _ h
          · have h := h.2 c
            refine A_nx 3 (fr' := (117, 100, [some (.ref 50), some (.int r6), none], [])) (S' := (ri_wi S7 50 21 (1 : Int32))) rfl ?_
            refine ri_A.less (m := 117) (pc := 100) (L := [some (.ref 50), some (.int r6), none]) (L' := [some (.ref 50), none, none]) (st := []) ⟨rfl, trivial⟩ ?_
            obtain ⟨nn, h⟩ := h
            exact wt117_l100   nn _ h
        · have h := h.2 c
          exact A_ret 9 (m := 117) (v := none) (S' := (ri_wi (ri_wi (ri_wi S5 50 21 (4 : Int32)) 50 21 (0 : Int32)) 50 22 (S5.1 50 19))) rfl rfl ⟨rfl, h⟩
      · have h := h.2 c
        refine ri_A.less (m := 117) (pc := 26) (L := [some (.ref 50), none, none]) (L' := [some (.ref 50), none, none]) (st := []) ⟨rfl, trivial⟩ ?_
        exact wt117_b26  (fun  S hk => ih  S hk) _ h
def w117  (S : ri_H) (Q : ri_H → Prop) : Prop := ∃ nn, w117_l0   Q nn  S
set_option maxRecDepth 10000 in
set_option maxHeartbeats 1000000 in
theorem wt117 {E : ri_E}  {S : ri_H} {Q : ri_H → Prop} (h : w117   S Q) : ri_A E 1 (ri_en 117 [.ref 50]) S (Qv Q) := by
  unfold w117 at h
  show ri_A E 1 (117, 0, [some (.ref 50), none, none], []) S (Qv Q)
  refine ri_A.less (m := 117) (pc := 0) (L := [some (.ref 50), none, none]) (L' := [some (.ref 50), none, none]) (st := []) ⟨rfl, trivial⟩ ?_
  obtain ⟨nn, h⟩ := h
  exact wt117_l0   nn _ h
/-! X5_fail, depth 0 -/
def w118  (S : ri_H) (Q : ri_H → Prop) : Prop := ((¬ (S.1 50 25) = 0 → Q S) ∧ (¬ (¬ (S.1 50 25) = 0) → Q (ri_wi (ri_wi S 50 25 (1 : Int32)) 50 26 (S.1 50 22))))
set_option maxRecDepth 10000 in
set_option maxHeartbeats 1000000 in
theorem wt118 {E : ri_E}  {S : ri_H} {Q : ri_H → Prop} (h : w118   S Q) : ri_A E 0 (ri_en 118 [.ref 50]) S (Qv Q) := by
  unfold w118 at h
  show ri_A E 0 (118, 0, [some (.ref 50)], []) S (Qv Q)
  refine A_br (¬ (S.1 50 25) = 0) (r1 := ((118, 20, [some (.ref 50)], []), S)) (r2 := ((118, 7, [some (.ref 50)], []), S)) 3 rfl (fun c => ?_) (fun c => ?_)
  · have h := h.1 c
    exact A_ret 1 (m := 118) (v := none) (S' := S) rfl rfl ⟨rfl, h⟩
  · have h := h.2 c
    exact A_ret 8 (m := 118) (v := none) (S' := (ri_wi (ri_wi S 50 25 (1 : Int32)) 50 26 (S.1 50 22))) rfl rfl ⟨rfl, h⟩
/-! X5_isLetter, depth 1 -/
def w119 (a : Int32) (b : Int32) (S : ri_H) (Q : Int32 → ri_H → Prop) : Prop := (((S.1 50 20) ≤ ((S.1 50 22) + a) → ((¬ b = 0 → Q (0 : Int32) S) ∧ (¬ (¬ b = 0) → Q (1 : Int32) S))) ∧ (¬ (S.1 50 20) ≤ ((S.1 50 22) + a) → w116 ((S.1 50 22) + a) S (fun (r2 : Int32) (S1 : ri_H) => ((¬ r2 = b → Q (0 : Int32) S1) ∧ (¬ (¬ r2 = b) → Q (1 : Int32) S1)))))
set_option maxRecDepth 10000 in
set_option maxHeartbeats 1000000 in
theorem wt119 {E : ri_E} (a : Int32) (b : Int32) {S : ri_H} {Q : Int32 → ri_H → Prop} (h : w119  a b S Q) : ri_A E 1 (ri_en 119 [.ref 50, .int a, .int b]) S (Qi Q) := by
  unfold w119 at h
  show ri_A E 1 (119, 0, [some (.ref 50), some (.int a), some (.int b)], []) S (Qi Q)
  refine A_br ((S.1 50 20) ≤ ((S.1 50 22) + a)) (r1 := ((119, 35, [some (.ref 50), some (.int a), some (.int b)], []), S)) (r2 := ((119, 13, [some (.ref 50), some (.int a), some (.int b)], []), S)) 7 rfl (fun c => ?_) (fun c => ?_)
  · have h := h.1 c
    refine A_br (¬ b = 0) (r1 := ((119, 43, [some (.ref 50), some (.int a), some (.int b)], []), S)) (r2 := ((119, 39, [some (.ref 50), some (.int a), some (.int b)], []), S)) 2 rfl (fun c => ?_) (fun c => ?_)
    · have h := h.1 c
      exact A_ret 2 (m := 119) (v := some (.int (0 : Int32))) (S' := S) rfl rfl ⟨_, rfl, h⟩
    · have h := h.2 c
      exact A_ret 3 (m := 119) (v := some (.int (1 : Int32))) (S' := S) rfl rfl ⟨_, rfl, h⟩
  · have h := h.2 c
    refine A_call (j := 116) (As := [.ref 50, .int ((S.1 50 22) + a)]) (fr' := (119, 23, [some (.ref 50), some (.int a), some (.int b)], [])) (S' := S) 6 rfl (e := 0) (by omega) (A_imp (wt116 ((S.1 50 22) + a) h) (fun v S1 hq => ?_))
    obtain ⟨r2, hv, h⟩ := hq
    subst hv
    refine A_br (¬ r2 = b) (r1 := ((119, 31, [some (.ref 50), some (.int a), some (.int b)], []), S1)) (r2 := ((119, 27, [some (.ref 50), some (.int a), some (.int b)], []), S1)) 2 rfl (fun c => ?_) (fun c => ?_)
    · have h := h.1 c
      exact A_ret 3 (m := 119) (v := some (.int (0 : Int32))) (S' := S1) rfl rfl ⟨_, rfl, h⟩
    · have h := h.2 c
      exact A_ret 3 (m := 119) (v := some (.int (1 : Int32))) (S' := S1) rfl rfl ⟨_, rfl, h⟩
/-! X5_isWord, depth 2 -/
def w120 (a : Int32) (b : Int32) (g : Int32) (d : Int32) (q : Int32) (u : Int32) (z : Int32) (x : Int32) (S : ri_H) (Q : Int32 → ri_H → Prop) : Prop := ((¬ (S.1 50 25) = 0 → Q (0 : Int32) S) ∧ (¬ (¬ (S.1 50 25) = 0) → ((¬ (S.1 50 21) = (1 : Int32) → Q (0 : Int32) S) ∧ (¬ (¬ (S.1 50 21) = (1 : Int32)) → ((((S.1 50 22) + (8 : Int32)) < (S.1 50 20) → Q (0 : Int32) S) ∧ (¬ ((S.1 50 22) + (8 : Int32)) < (S.1 50 20) → w119 (0 : Int32) a S (fun (r2 : Int32) (S1 : ri_H) => ((r2 = 0 → Q (0 : Int32) S1) ∧ (¬ (r2 = 0) → w119 (1 : Int32) b S1 (fun (r4 : Int32) (S3 : ri_H) => ((r4 = 0 → Q (0 : Int32) S3) ∧ (¬ (r4 = 0) → w119 (2 : Int32) g S3 (fun (r6 : Int32) (S5 : ri_H) => ((r6 = 0 → Q (0 : Int32) S5) ∧ (¬ (r6 = 0) → w119 (3 : Int32) d S5 (fun (r8 : Int32) (S7 : ri_H) => ((r8 = 0 → Q (0 : Int32) S7) ∧ (¬ (r8 = 0) → w119 (4 : Int32) q S7 (fun (r10 : Int32) (S9 : ri_H) => ((r10 = 0 → Q (0 : Int32) S9) ∧ (¬ (r10 = 0) → w119 (5 : Int32) u S9 (fun (r12 : Int32) (S11 : ri_H) => ((r12 = 0 → Q (0 : Int32) S11) ∧ (¬ (r12 = 0) → w119 (6 : Int32) z S11 (fun (r14 : Int32) (S13 : ri_H) => ((r14 = 0 → Q (0 : Int32) S13) ∧ (¬ (r14 = 0) → w119 (7 : Int32) x S13 (fun (r16 : Int32) (S15 : ri_H) => ((r16 = 0 → Q (0 : Int32) S15) ∧ (¬ (r16 = 0) → Q (1 : Int32) S15))))))))))))))))))))))))))))))
set_option maxRecDepth 10000 in
set_option maxHeartbeats 1000000 in
theorem wt120 {E : ri_E} (a : Int32) (b : Int32) (g : Int32) (d : Int32) (q : Int32) (u : Int32) (z : Int32) (x : Int32) {S : ri_H} {Q : Int32 → ri_H → Prop} (h : w120  a b g d q u z x S Q) : ri_A E 2 (ri_en 120 [.ref 50, .int a, .int b, .int g, .int d, .int q, .int u, .int z, .int x]) S (Qi Q) := by
  unfold w120 at h
  show ri_A E 2 (120, 0, [some (.ref 50), some (.int a), some (.int b), some (.int g), some (.int d), some (.int q), some (.int u), some (.int z), some (.int x)], []) S (Qi Q)
  refine A_br (¬ (S.1 50 25) = 0) (r1 := ((120, 112, [some (.ref 50), some (.int a), some (.int b), some (.int g), some (.int d), some (.int q), some (.int u), some (.int z), some (.int x)], []), S)) (r2 := ((120, 7, [some (.ref 50), some (.int a), some (.int b), some (.int g), some (.int d), some (.int q), some (.int u), some (.int z), some (.int x)], []), S)) 3 rfl (fun c => ?_) (fun c => ?_)
  · have h := h.1 c
    exact A_ret 2 (m := 120) (v := some (.int (0 : Int32))) (S' := S) rfl rfl ⟨_, rfl, h⟩
  · have h := h.2 c
    refine A_br (¬ (S.1 50 21) = (1 : Int32)) (r1 := ((120, 112, [some (.ref 50), some (.int a), some (.int b), some (.int g), some (.int d), some (.int q), some (.int u), some (.int z), some (.int x)], []), S)) (r2 := ((120, 15, [some (.ref 50), some (.int a), some (.int b), some (.int g), some (.int d), some (.int q), some (.int u), some (.int z), some (.int x)], []), S)) 4 rfl (fun c => ?_) (fun c => ?_)
    · have h := h.1 c
      exact A_ret 2 (m := 120) (v := some (.int (0 : Int32))) (S' := S) rfl rfl ⟨_, rfl, h⟩
    · have h := h.2 c
      refine A_br (((S.1 50 22) + (8 : Int32)) < (S.1 50 20)) (r1 := ((120, 112, [some (.ref 50), some (.int a), some (.int b), some (.int g), some (.int d), some (.int q), some (.int u), some (.int z), some (.int x)], []), S)) (r2 := ((120, 29, [some (.ref 50), some (.int a), some (.int b), some (.int g), some (.int d), some (.int q), some (.int u), some (.int z), some (.int x)], []), S)) 7 rfl (fun c => ?_) (fun c => ?_)
      · have h := h.1 c
        exact A_ret 2 (m := 120) (v := some (.int (0 : Int32))) (S' := S) rfl rfl ⟨_, rfl, h⟩
      · have h := h.2 c
        refine A_call (j := 119) (As := [.ref 50, .int (0 : Int32), .int a]) (fr' := (120, 35, [some (.ref 50), some (.int a), some (.int b), some (.int g), some (.int d), some (.int q), some (.int u), some (.int z), some (.int x)], [])) (S' := S) 4 rfl (e := 1) (by omega) (A_imp (wt119 (0 : Int32) a h) (fun v S1 hq => ?_))
        obtain ⟨r2, hv, h⟩ := hq
        subst hv
        refine A_br (r2 = 0) (r1 := ((120, 112, [some (.ref 50), some (.int a), some (.int b), some (.int g), some (.int d), some (.int q), some (.int u), some (.int z), some (.int x)], []), S1)) (r2 := ((120, 38, [some (.ref 50), some (.int a), some (.int b), some (.int g), some (.int d), some (.int q), some (.int u), some (.int z), some (.int x)], []), S1)) 1 rfl (fun c => ?_) (fun c => ?_)
        · have h := h.1 c
          exact A_ret 2 (m := 120) (v := some (.int (0 : Int32))) (S' := S1) rfl rfl ⟨_, rfl, h⟩
        · have h := h.2 c
          refine A_call (j := 119) (As := [.ref 50, .int (1 : Int32), .int b]) (fr' := (120, 44, [some (.ref 50), some (.int a), some (.int b), some (.int g), some (.int d), some (.int q), some (.int u), some (.int z), some (.int x)], [])) (S' := S1) 4 rfl (e := 1) (by omega) (A_imp (wt119 (1 : Int32) b h) (fun v S3 hq => ?_))
          obtain ⟨r4, hv, h⟩ := hq
          subst hv
          refine A_br (r4 = 0) (r1 := ((120, 112, [some (.ref 50), some (.int a), some (.int b), some (.int g), some (.int d), some (.int q), some (.int u), some (.int z), some (.int x)], []), S3)) (r2 := ((120, 47, [some (.ref 50), some (.int a), some (.int b), some (.int g), some (.int d), some (.int q), some (.int u), some (.int z), some (.int x)], []), S3)) 1 rfl (fun c => ?_) (fun c => ?_)
          · have h := h.1 c
            exact A_ret 2 (m := 120) (v := some (.int (0 : Int32))) (S' := S3) rfl rfl ⟨_, rfl, h⟩
          · have h := h.2 c
            refine A_call (j := 119) (As := [.ref 50, .int (2 : Int32), .int g]) (fr' := (120, 53, [some (.ref 50), some (.int a), some (.int b), some (.int g), some (.int d), some (.int q), some (.int u), some (.int z), some (.int x)], [])) (S' := S3) 4 rfl (e := 1) (by omega) (A_imp (wt119 (2 : Int32) g h) (fun v S5 hq => ?_))
            obtain ⟨r6, hv, h⟩ := hq
            subst hv
            refine A_br (r6 = 0) (r1 := ((120, 112, [some (.ref 50), some (.int a), some (.int b), some (.int g), some (.int d), some (.int q), some (.int u), some (.int z), some (.int x)], []), S5)) (r2 := ((120, 56, [some (.ref 50), some (.int a), some (.int b), some (.int g), some (.int d), some (.int q), some (.int u), some (.int z), some (.int x)], []), S5)) 1 rfl (fun c => ?_) (fun c => ?_)
            · have h := h.1 c
              exact A_ret 2 (m := 120) (v := some (.int (0 : Int32))) (S' := S5) rfl rfl ⟨_, rfl, h⟩
            · have h := h.2 c
              refine A_call (j := 119) (As := [.ref 50, .int (3 : Int32), .int d]) (fr' := (120, 63, [some (.ref 50), some (.int a), some (.int b), some (.int g), some (.int d), some (.int q), some (.int u), some (.int z), some (.int x)], [])) (S' := S5) 4 rfl (e := 1) (by omega) (A_imp (wt119 (3 : Int32) d h) (fun v S7 hq => ?_))
              obtain ⟨r8, hv, h⟩ := hq
              subst hv
              refine A_br (r8 = 0) (r1 := ((120, 112, [some (.ref 50), some (.int a), some (.int b), some (.int g), some (.int d), some (.int q), some (.int u), some (.int z), some (.int x)], []), S7)) (r2 := ((120, 66, [some (.ref 50), some (.int a), some (.int b), some (.int g), some (.int d), some (.int q), some (.int u), some (.int z), some (.int x)], []), S7)) 1 rfl (fun c => ?_) (fun c => ?_)
              · have h := h.1 c
                exact A_ret 2 (m := 120) (v := some (.int (0 : Int32))) (S' := S7) rfl rfl ⟨_, rfl, h⟩
              · have h := h.2 c
                refine A_call (j := 119) (As := [.ref 50, .int (4 : Int32), .int q]) (fr' := (120, 73, [some (.ref 50), some (.int a), some (.int b), some (.int g), some (.int d), some (.int q), some (.int u), some (.int z), some (.int x)], [])) (S' := S7) 4 rfl (e := 1) (by omega) (A_imp (wt119 (4 : Int32) q h) (fun v S9 hq => ?_))
                obtain ⟨r10, hv, h⟩ := hq
                subst hv
                refine A_br (r10 = 0) (r1 := ((120, 112, [some (.ref 50), some (.int a), some (.int b), some (.int g), some (.int d), some (.int q), some (.int u), some (.int z), some (.int x)], []), S9)) (r2 := ((120, 76, [some (.ref 50), some (.int a), some (.int b), some (.int g), some (.int d), some (.int q), some (.int u), some (.int z), some (.int x)], []), S9)) 1 rfl (fun c => ?_) (fun c => ?_)
                · have h := h.1 c
                  exact A_ret 2 (m := 120) (v := some (.int (0 : Int32))) (S' := S9) rfl rfl ⟨_, rfl, h⟩
                · have h := h.2 c
                  refine A_call (j := 119) (As := [.ref 50, .int (5 : Int32), .int u]) (fr' := (120, 83, [some (.ref 50), some (.int a), some (.int b), some (.int g), some (.int d), some (.int q), some (.int u), some (.int z), some (.int x)], [])) (S' := S9) 4 rfl (e := 1) (by omega) (A_imp (wt119 (5 : Int32) u h) (fun v S11 hq => ?_))
                  obtain ⟨r12, hv, h⟩ := hq
                  subst hv
                  refine A_br (r12 = 0) (r1 := ((120, 112, [some (.ref 50), some (.int a), some (.int b), some (.int g), some (.int d), some (.int q), some (.int u), some (.int z), some (.int x)], []), S11)) (r2 := ((120, 86, [some (.ref 50), some (.int a), some (.int b), some (.int g), some (.int d), some (.int q), some (.int u), some (.int z), some (.int x)], []), S11)) 1 rfl (fun c => ?_) (fun c => ?_)
                  · have h := h.1 c
                    exact A_ret 2 (m := 120) (v := some (.int (0 : Int32))) (S' := S11) rfl rfl ⟨_, rfl, h⟩
                  · have h := h.2 c
                    refine A_call (j := 119) (As := [.ref 50, .int (6 : Int32), .int z]) (fr' := (120, 94, [some (.ref 50), some (.int a), some (.int b), some (.int g), some (.int d), some (.int q), some (.int u), some (.int z), some (.int x)], [])) (S' := S11) 4 rfl (e := 1) (by omega) (A_imp (wt119 (6 : Int32) z h) (fun v S13 hq => ?_))
                    obtain ⟨r14, hv, h⟩ := hq
                    subst hv
                    refine A_br (r14 = 0) (r1 := ((120, 112, [some (.ref 50), some (.int a), some (.int b), some (.int g), some (.int d), some (.int q), some (.int u), some (.int z), some (.int x)], []), S13)) (r2 := ((120, 97, [some (.ref 50), some (.int a), some (.int b), some (.int g), some (.int d), some (.int q), some (.int u), some (.int z), some (.int x)], []), S13)) 1 rfl (fun c => ?_) (fun c => ?_)
                    · have h := h.1 c
                      exact A_ret 2 (m := 120) (v := some (.int (0 : Int32))) (S' := S13) rfl rfl ⟨_, rfl, h⟩
                    · have h := h.2 c
                      refine A_call (j := 119) (As := [.ref 50, .int (7 : Int32), .int x]) (fr' := (120, 105, [some (.ref 50), some (.int a), some (.int b), some (.int g), some (.int d), some (.int q), some (.int u), some (.int z), some (.int x)], [])) (S' := S13) 4 rfl (e := 1) (by omega) (A_imp (wt119 (7 : Int32) x h) (fun v S15 hq => ?_))
                      obtain ⟨r16, hv, h⟩ := hq
                      subst hv
                      refine A_br (r16 = 0) (r1 := ((120, 112, [some (.ref 50), some (.int a), some (.int b), some (.int g), some (.int d), some (.int q), some (.int u), some (.int z), some (.int x)], []), S15)) (r2 := ((120, 108, [some (.ref 50), some (.int a), some (.int b), some (.int g), some (.int d), some (.int q), some (.int u), some (.int z), some (.int x)], []), S15)) 1 rfl (fun c => ?_) (fun c => ?_)
                      · have h := h.1 c
                        exact A_ret 2 (m := 120) (v := some (.int (0 : Int32))) (S' := S15) rfl rfl ⟨_, rfl, h⟩
                      · have h := h.2 c
                        exact A_ret 3 (m := 120) (v := some (.int (1 : Int32))) (S' := S15) rfl rfl ⟨_, rfl, h⟩
/-! X5_isSign, depth 0 -/
def w121 (a : Int32) (S : ri_H) (Q : Int32 → ri_H → Prop) : Prop := ((¬ (S.1 50 25) = 0 → Q (0 : Int32) S) ∧ (¬ (¬ (S.1 50 25) = 0) → ((¬ (S.1 50 21) = (3 : Int32) → Q (0 : Int32) S) ∧ (¬ (¬ (S.1 50 21) = (3 : Int32)) → ((¬ (lg_cmp (S.2 50 23) (a).toInt64) = 0 → Q (0 : Int32) S) ∧ (¬ (¬ (lg_cmp (S.2 50 23) (a).toInt64) = 0) → Q (1 : Int32) S))))))
set_option maxRecDepth 10000 in
set_option maxHeartbeats 1000000 in
theorem wt121 {E : ri_E} (a : Int32) {S : ri_H} {Q : Int32 → ri_H → Prop} (h : w121  a S Q) : ri_A E 0 (ri_en 121 [.ref 50, .int a]) S (Qi Q) := by
  unfold w121 at h
  show ri_A E 0 (121, 0, [some (.ref 50), some (.int a)], []) S (Qi Q)
  refine A_br (¬ (S.1 50 25) = 0) (r1 := ((121, 29, [some (.ref 50), some (.int a)], []), S)) (r2 := ((121, 7, [some (.ref 50), some (.int a)], []), S)) 3 rfl (fun c => ?_) (fun c => ?_)
  · have h := h.1 c
    exact A_ret 2 (m := 121) (v := some (.int (0 : Int32))) (S' := S) rfl rfl ⟨_, rfl, h⟩
  · have h := h.2 c
    refine A_br (¬ (S.1 50 21) = (3 : Int32)) (r1 := ((121, 29, [some (.ref 50), some (.int a)], []), S)) (r2 := ((121, 15, [some (.ref 50), some (.int a)], []), S)) 4 rfl (fun c => ?_) (fun c => ?_)
    · have h := h.1 c
      exact A_ret 2 (m := 121) (v := some (.int (0 : Int32))) (S' := S) rfl rfl ⟨_, rfl, h⟩
    · have h := h.2 c
      refine A_br (¬ (lg_cmp (S.2 50 23) (a).toInt64) = 0) (r1 := ((121, 29, [some (.ref 50), some (.int a)], []), S)) (r2 := ((121, 25, [some (.ref 50), some (.int a)], []), S)) 6 rfl (fun c => ?_) (fun c => ?_)
      · have h := h.1 c
        exact A_ret 2 (m := 121) (v := some (.int (0 : Int32))) (S' := S) rfl rfl ⟨_, rfl, h⟩
      · have h := h.2 c
        exact A_ret 3 (m := 121) (v := some (.int (1 : Int32))) (S' := S) rfl rfl ⟨_, rfl, h⟩
/-! X5_opens, depth 2 -/
def w122  (S : ri_H) (Q : Int32 → ri_H → Prop) : Prop := ((¬ (S.1 50 24) = (5 : Int32) → w117  (ri_wi S 50 24 ((S.1 50 24) + (1 : Int32))) (fun (S1 : ri_H) => Q (1 : Int32) S1)) ∧ (¬ (¬ (S.1 50 24) = (5 : Int32)) → w118  S (fun (S2 : ri_H) => Q (0 : Int32) S2)))
set_option maxRecDepth 10000 in
set_option maxHeartbeats 1000000 in
theorem wt122 {E : ri_E}  {S : ri_H} {Q : Int32 → ri_H → Prop} (h : w122   S Q) : ri_A E 2 (ri_en 122 [.ref 50]) S (Qi Q) := by
  unfold w122 at h
  show ri_A E 2 (122, 0, [some (.ref 50)], []) S (Qi Q)
  refine A_br (¬ (S.1 50 24) = (5 : Int32)) (r1 := ((122, 14, [some (.ref 50)], []), S)) (r2 := ((122, 8, [some (.ref 50)], []), S)) 4 rfl (fun c => ?_) (fun c => ?_)
  · have h := h.1 c
    refine A_call (j := 117) (As := [.ref 50]) (fr' := (122, 28, [some (.ref 50)], [])) (S' := (ri_wi S 50 24 ((S.1 50 24) + (1 : Int32)))) 8 rfl (e := 1) (by omega) (A_imp (wt117  h) (fun v S1 hq => ?_))
    obtain ⟨hv, h⟩ := hq
    subst hv
    exact A_ret 2 (m := 122) (v := some (.int (1 : Int32))) (S' := S1) rfl rfl ⟨_, rfl, h⟩
  · have h := h.2 c
    refine A_call (j := 118) (As := [.ref 50]) (fr' := (122, 12, [some (.ref 50)], [])) (S' := S) 2 rfl (e := 0) (by omega) (A_imp (wt118  h) (fun v S2 hq => ?_))
    obtain ⟨hv, h⟩ := hq
    subst hv
    exact A_ret 2 (m := 122) (v := some (.int (0 : Int32))) (S' := S2) rfl rfl ⟨_, rfl, h⟩
/-! X5_name, depth 3 -/
def w123  (S : ri_H) (Q : Int32 → ri_H → Prop) : Prop := w120 (99 : Int32) (114 : Int32) (111 : Int32) (115 : Int32) (115 : Int32) (105 : Int32) (110 : Int32) (103 : Int32) S (fun (r2 : Int32) (S1 : ri_H) => ((r2 = 0 → w120 (106 : Int32) (97 : Int32) (114 : Int32) (0 : Int32) (0 : Int32) (0 : Int32) (0 : Int32) (0 : Int32) S1 (fun (r4 : Int32) (S3 : ri_H) => ((r4 = 0 → w120 (110 : Int32) (117 : Int32) (109 : Int32) (98 : Int32) (101 : Int32) (114 : Int32) (0 : Int32) (0 : Int32) S3 (fun (r6 : Int32) (S5 : ri_H) => ((r6 = 0 → w120 (121 : Int32) (101 : Int32) (97 : Int32) (114 : Int32) (0 : Int32) (0 : Int32) (0 : Int32) (0 : Int32) S5 (fun (r8 : Int32) (S7 : ri_H) => ((r8 = 0 → w120 (109 : Int32) (111 : Int32) (111 : Int32) (100 : Int32) (0 : Int32) (0 : Int32) (0 : Int32) (0 : Int32) S7 (fun (r10 : Int32) (S9 : ri_H) => ((r10 = 0 → w120 (101 : Int32) (97 : Int32) (116 : Int32) (101 : Int32) (110 : Int32) (0 : Int32) (0 : Int32) (0 : Int32) S9 (fun (r12 : Int32) (S11 : ri_H) => ((r12 = 0 → w118  S11 (fun (S13 : ri_H) => Q (0 : Int32) S13)) ∧ (¬ (r12 = 0) → Q (S11.1 50 17) S11)))) ∧ (¬ (r10 = 0) → Q (S9.1 50 16) S9)))) ∧ (¬ (r8 = 0) → Q (S7.1 50 15) S7)))) ∧ (¬ (r6 = 0) → Q (S5.1 50 14) S5)))) ∧ (¬ (r4 = 0) → Q (S3.1 50 13) S3)))) ∧ (¬ (r2 = 0) → Q (S1.1 50 12) S1)))
set_option maxRecDepth 10000 in
set_option maxHeartbeats 1000000 in
theorem wt123 {E : ri_E}  {S : ri_H} {Q : Int32 → ri_H → Prop} (h : w123   S Q) : ri_A E 3 (ri_en 123 [.ref 50]) S (Qi Q) := by
  unfold w123 at h
  show ri_A E 3 (123, 0, [some (.ref 50)], []) S (Qi Q)
  refine A_call (j := 120) (As := [.ref 50, .int (99 : Int32), .int (114 : Int32), .int (111 : Int32), .int (115 : Int32), .int (115 : Int32), .int (105 : Int32), .int (110 : Int32), .int (103 : Int32)]) (fr' := (123, 20, [some (.ref 50)], [])) (S' := S) 10 rfl (e := 2) (by omega) (A_imp (wt120 (99 : Int32) (114 : Int32) (111 : Int32) (115 : Int32) (115 : Int32) (105 : Int32) (110 : Int32) (103 : Int32) h) (fun v S1 hq => ?_))
  obtain ⟨r2, hv, h⟩ := hq
  subst hv
  refine A_br (r2 = 0) (r1 := ((123, 28, [some (.ref 50)], []), S1)) (r2 := ((123, 23, [some (.ref 50)], []), S1)) 1 rfl (fun c => ?_) (fun c => ?_)
  · have h := h.1 c
    refine A_call (j := 120) (As := [.ref 50, .int (106 : Int32), .int (97 : Int32), .int (114 : Int32), .int (0 : Int32), .int (0 : Int32), .int (0 : Int32), .int (0 : Int32), .int (0 : Int32)]) (fr' := (123, 43, [some (.ref 50)], [])) (S' := S1) 10 rfl (e := 2) (by omega) (A_imp (wt120 (106 : Int32) (97 : Int32) (114 : Int32) (0 : Int32) (0 : Int32) (0 : Int32) (0 : Int32) (0 : Int32) h) (fun v S3 hq => ?_))
    obtain ⟨r4, hv, h⟩ := hq
    subst hv
    refine A_br (r4 = 0) (r1 := ((123, 51, [some (.ref 50)], []), S3)) (r2 := ((123, 46, [some (.ref 50)], []), S3)) 1 rfl (fun c => ?_) (fun c => ?_)
    · have h := h.1 c
      refine A_call (j := 120) (As := [.ref 50, .int (110 : Int32), .int (117 : Int32), .int (109 : Int32), .int (98 : Int32), .int (101 : Int32), .int (114 : Int32), .int (0 : Int32), .int (0 : Int32)]) (fr' := (123, 69, [some (.ref 50)], [])) (S' := S3) 10 rfl (e := 2) (by omega) (A_imp (wt120 (110 : Int32) (117 : Int32) (109 : Int32) (98 : Int32) (101 : Int32) (114 : Int32) (0 : Int32) (0 : Int32) h) (fun v S5 hq => ?_))
      obtain ⟨r6, hv, h⟩ := hq
      subst hv
      refine A_br (r6 = 0) (r1 := ((123, 77, [some (.ref 50)], []), S5)) (r2 := ((123, 72, [some (.ref 50)], []), S5)) 1 rfl (fun c => ?_) (fun c => ?_)
      · have h := h.1 c
        refine A_call (j := 120) (As := [.ref 50, .int (121 : Int32), .int (101 : Int32), .int (97 : Int32), .int (114 : Int32), .int (0 : Int32), .int (0 : Int32), .int (0 : Int32), .int (0 : Int32)]) (fr' := (123, 93, [some (.ref 50)], [])) (S' := S5) 10 rfl (e := 2) (by omega) (A_imp (wt120 (121 : Int32) (101 : Int32) (97 : Int32) (114 : Int32) (0 : Int32) (0 : Int32) (0 : Int32) (0 : Int32) h) (fun v S7 hq => ?_))
        obtain ⟨r8, hv, h⟩ := hq
        subst hv
        refine A_br (r8 = 0) (r1 := ((123, 101, [some (.ref 50)], []), S7)) (r2 := ((123, 96, [some (.ref 50)], []), S7)) 1 rfl (fun c => ?_) (fun c => ?_)
        · have h := h.1 c
          refine A_call (j := 120) (As := [.ref 50, .int (109 : Int32), .int (111 : Int32), .int (111 : Int32), .int (100 : Int32), .int (0 : Int32), .int (0 : Int32), .int (0 : Int32), .int (0 : Int32)]) (fr' := (123, 117, [some (.ref 50)], [])) (S' := S7) 10 rfl (e := 2) (by omega) (A_imp (wt120 (109 : Int32) (111 : Int32) (111 : Int32) (100 : Int32) (0 : Int32) (0 : Int32) (0 : Int32) (0 : Int32) h) (fun v S9 hq => ?_))
          obtain ⟨r10, hv, h⟩ := hq
          subst hv
          refine A_br (r10 = 0) (r1 := ((123, 125, [some (.ref 50)], []), S9)) (r2 := ((123, 120, [some (.ref 50)], []), S9)) 1 rfl (fun c => ?_) (fun c => ?_)
          · have h := h.1 c
            refine A_call (j := 120) (As := [.ref 50, .int (101 : Int32), .int (97 : Int32), .int (116 : Int32), .int (101 : Int32), .int (110 : Int32), .int (0 : Int32), .int (0 : Int32), .int (0 : Int32)]) (fr' := (123, 142, [some (.ref 50)], [])) (S' := S9) 10 rfl (e := 2) (by omega) (A_imp (wt120 (101 : Int32) (97 : Int32) (116 : Int32) (101 : Int32) (110 : Int32) (0 : Int32) (0 : Int32) (0 : Int32) h) (fun v S11 hq => ?_))
            obtain ⟨r12, hv, h⟩ := hq
            subst hv
            refine A_br (r12 = 0) (r1 := ((123, 150, [some (.ref 50)], []), S11)) (r2 := ((123, 145, [some (.ref 50)], []), S11)) 1 rfl (fun c => ?_) (fun c => ?_)
            · have h := h.1 c
              refine A_call (j := 118) (As := [.ref 50]) (fr' := (123, 154, [some (.ref 50)], [])) (S' := S11) 2 rfl (e := 0) (by omega) (A_imp (wt118  h) (fun v S13 hq => ?_))
              obtain ⟨hv, h⟩ := hq
              subst hv
              exact A_ret 2 (m := 123) (v := some (.int (0 : Int32))) (S' := S13) rfl rfl ⟨_, rfl, h⟩
            · have h := h.2 c
              exact A_ret 3 (m := 123) (v := some (.int (S11.1 50 17))) (S' := S11) rfl rfl ⟨_, rfl, h⟩
          · have h := h.2 c
            exact A_ret 3 (m := 123) (v := some (.int (S9.1 50 16))) (S' := S9) rfl rfl ⟨_, rfl, h⟩
        · have h := h.2 c
          exact A_ret 3 (m := 123) (v := some (.int (S7.1 50 15))) (S' := S7) rfl rfl ⟨_, rfl, h⟩
      · have h := h.2 c
        exact A_ret 3 (m := 123) (v := some (.int (S5.1 50 14))) (S' := S5) rfl rfl ⟨_, rfl, h⟩
    · have h := h.2 c
      exact A_ret 3 (m := 123) (v := some (.int (S3.1 50 13))) (S' := S3) rfl rfl ⟨_, rfl, h⟩
  · have h := h.2 c
    exact A_ret 3 (m := 123) (v := some (.int (S1.1 50 12))) (S' := S1) rfl rfl ⟨_, rfl, h⟩
/-! X5_atom5, depth 4 -/
def watom5_b98 (Q : Int32 → ri_H → Prop) (x1 : Int32) (S : ri_H) : Prop := w118  S (fun (S5 : ri_H) => Q x1 S5)
set_option maxRecDepth 10000 in
set_option maxHeartbeats 1000000 in
theorem wt124_b98 {E : ri_E} {Q : Int32 → ri_H → Prop} (x1 : Int32) (S : ri_H) (h : watom5_b98   Q x1 S) : ri_A E 4 (124, 98, [some (.ref 50), some (.int x1)], []) S (Qi Q) := by
  unfold watom5_b98 at h
  refine A_call (j := 118) (As := [.ref 50]) (fr' := (124, 102, [some (.ref 50), some (.int x1)], [])) (S' := S) 2 rfl (e := 0) (by omega) (A_imp (wt118  h) (fun v S5 hq => ?_))
  obtain ⟨hv, h⟩ := hq
  subst hv
  exact A_ret 2 (m := 124) (v := some (.int x1)) (S' := S5) rfl rfl ⟨_, rfl, h⟩
def watom5_b64 (Q : Int32 → ri_H → Prop) (x1 : Int32) (S : ri_H) : Prop := ((¬ (S.1 50 25) = 0 → watom5_b98   Q x1 S) ∧ (¬ (¬ (S.1 50 25) = 0) → ((¬ (S.1 50 21) = (1 : Int32) → watom5_b98   Q x1 S) ∧ (¬ (¬ (S.1 50 21) = (1 : Int32)) → w123  S (fun (r7 : Int32) (S6 : ri_H) => ((¬ (S6.1 50 25) = 0 → Q r7 S6) ∧ (¬ (¬ (S6.1 50 25) = 0) → w117  S6 (fun (S8 : ri_H) => Q r7 S8))))))))
set_option maxRecDepth 10000 in
set_option maxHeartbeats 1000000 in
theorem wt124_b64 {E : ri_E} {Q : Int32 → ri_H → Prop} (x1 : Int32) (S : ri_H) (h : watom5_b64   Q x1 S) : ri_A E 4 (124, 64, [some (.ref 50), some (.int x1)], []) S (Qi Q) := by
  unfold watom5_b64 at h
  refine A_br (¬ (S.1 50 25) = 0) (r1 := ((124, 98, [some (.ref 50), some (.int x1)], []), S)) (r2 := ((124, 71, [some (.ref 50), some (.int x1)], []), S)) 3 rfl (fun c => ?_) (fun c => ?_)
  · have h := h.1 c
    refine ri_A.less (m := 124) (pc := 98) (L := [some (.ref 50), some (.int x1)]) (L' := [some (.ref 50), some (.int x1)]) (st := []) ⟨rfl, ⟨rfl, trivial⟩⟩ ?_
    exact wt124_b98   _ _ h
  · have h := h.2 c
    refine A_br (¬ (S.1 50 21) = (1 : Int32)) (r1 := ((124, 98, [some (.ref 50), some (.int x1)], []), S)) (r2 := ((124, 79, [some (.ref 50), some (.int x1)], []), S)) 4 rfl (fun c => ?_) (fun c => ?_)
    · have h := h.1 c
      refine ri_A.less (m := 124) (pc := 98) (L := [some (.ref 50), some (.int x1)]) (L' := [some (.ref 50), some (.int x1)]) (st := []) ⟨rfl, ⟨rfl, trivial⟩⟩ ?_
      exact wt124_b98   _ _ h
    · have h := h.2 c
      refine A_call (j := 123) (As := [.ref 50]) (fr' := (124, 83, [some (.ref 50), some (.int x1)], [])) (S' := S) 2 rfl (e := 3) (by omega) (A_imp (wt123  h) (fun v S6 hq => ?_))
      obtain ⟨r7, hv, h⟩ := hq
      subst hv
      refine A_br (¬ (S6.1 50 25) = 0) (r1 := ((124, 102, [some (.ref 50), some (.int r7)], []), S6)) (r2 := ((124, 91, [some (.ref 50), some (.int r7)], []), S6)) 4 rfl (fun c => ?_) (fun c => ?_)
      · have h := h.1 c
        exact A_ret 2 (m := 124) (v := some (.int r7)) (S' := S6) rfl rfl ⟨_, rfl, h⟩
      · have h := h.2 c
        refine A_call (j := 117) (As := [.ref 50]) (fr' := (124, 95, [some (.ref 50), some (.int r7)], [])) (S' := S6) 2 rfl (e := 1) (by omega) (A_imp (wt117  h) (fun v S8 hq => ?_))
        obtain ⟨hv, h⟩ := hq
        subst hv
        exact A_ret 3 (m := 124) (v := some (.int r7)) (S' := S8) rfl rfl ⟨_, rfl, h⟩
def watom5  (S : ri_H) (Q : Int32 → ri_H → Prop) : Prop := w121 (45 : Int32) S (fun (r2 : Int32) (S1 : ri_H) => ((r2 = 0 → w121 (40 : Int32) S1 (fun (r4 : Int32) (S3 : ri_H) => ((r4 = 0 → ((¬ (S3.1 50 25) = 0 → watom5_b64   Q (0 : Int32) S3) ∧ (¬ (¬ (S3.1 50 25) = 0) → ((¬ (S3.1 50 21) = (2 : Int32) → watom5_b64   Q (0 : Int32) S3) ∧ (¬ (¬ (S3.1 50 21) = (2 : Int32)) → w117  S3 (fun (S9 : ri_H) => Q ((S3.2 50 23)).toInt32 S9)))))) ∧ (¬ (r4 = 0) → w122  S3 (fun (r11 : Int32) (S10 : ri_H) => Q (0 : Int32) S10))))) ∧ (¬ (r2 = 0) → w122  S1 (fun (r13 : Int32) (S12 : ri_H) => Q (0 : Int32) S12))))
set_option maxRecDepth 10000 in
set_option maxHeartbeats 1000000 in
theorem wt124 {E : ri_E}  {S : ri_H} {Q : Int32 → ri_H → Prop} (h : watom5   S Q) : ri_A E 4 (ri_en 124 [.ref 50]) S (Qi Q) := by
  unfold watom5 at h
  show ri_A E 4 (124, 0, [some (.ref 50), none], []) S (Qi Q)
  refine A_call (j := 121) (As := [.ref 50, .int (45 : Int32)]) (fr' := (124, 8, [some (.ref 50), some (.int (0 : Int32))], [])) (S' := S) 5 rfl (e := 0) (by omega) (A_imp (wt121 (45 : Int32) h) (fun v S1 hq => ?_))
  obtain ⟨r2, hv, h⟩ := hq
  subst hv
  refine A_br (r2 = 0) (r1 := ((124, 19, [some (.ref 50), some (.int (0 : Int32))], []), S1)) (r2 := ((124, 11, [some (.ref 50), some (.int (0 : Int32))], []), S1)) 1 rfl (fun c => ?_) (fun c => ?_)
  · have h := h.1 c
    refine A_call (j := 121) (As := [.ref 50, .int (40 : Int32)]) (fr' := (124, 25, [some (.ref 50), some (.int (0 : Int32))], [])) (S' := S1) 3 rfl (e := 0) (by omega) (A_imp (wt121 (40 : Int32) h) (fun v S3 hq => ?_))
    obtain ⟨r4, hv, h⟩ := hq
    subst hv
    refine A_br (r4 = 0) (r1 := ((124, 36, [some (.ref 50), some (.int (0 : Int32))], []), S3)) (r2 := ((124, 28, [some (.ref 50), some (.int (0 : Int32))], []), S3)) 1 rfl (fun c => ?_) (fun c => ?_)
    · have h := h.1 c
      refine A_br (¬ (S3.1 50 25) = 0) (r1 := ((124, 64, [some (.ref 50), some (.int (0 : Int32))], []), S3)) (r2 := ((124, 43, [some (.ref 50), some (.int (0 : Int32))], []), S3)) 3 rfl (fun c => ?_) (fun c => ?_)
      · have h := h.1 c
        refine ri_A.less (m := 124) (pc := 64) (L := [some (.ref 50), some (.int (0 : Int32))]) (L' := [some (.ref 50), some (.int (0 : Int32))]) (st := []) ⟨rfl, ⟨rfl, trivial⟩⟩ ?_
        exact wt124_b64   _ _ h
      · have h := h.2 c
        refine A_br (¬ (S3.1 50 21) = (2 : Int32)) (r1 := ((124, 64, [some (.ref 50), some (.int (0 : Int32))], []), S3)) (r2 := ((124, 51, [some (.ref 50), some (.int (0 : Int32))], []), S3)) 4 rfl (fun c => ?_) (fun c => ?_)
        · have h := h.1 c
          refine ri_A.less (m := 124) (pc := 64) (L := [some (.ref 50), some (.int (0 : Int32))]) (L' := [some (.ref 50), some (.int (0 : Int32))]) (st := []) ⟨rfl, ⟨rfl, trivial⟩⟩ ?_
          exact wt124_b64   _ _ h
        · have h := h.2 c
          refine A_call (j := 117) (As := [.ref 50]) (fr' := (124, 61, [some (.ref 50), some (.int ((S3.2 50 23)).toInt32)], [])) (S' := S3) 6 rfl (e := 1) (by omega) (A_imp (wt117  h) (fun v S9 hq => ?_))
          obtain ⟨hv, h⟩ := hq
          subst hv
          exact A_ret 3 (m := 124) (v := some (.int ((S3.2 50 23)).toInt32)) (S' := S9) rfl rfl ⟨_, rfl, h⟩
    · have h := h.2 c
      refine A_call (j := 122) (As := [.ref 50]) (fr' := (124, 32, [some (.ref 50), some (.int (0 : Int32))], [])) (S' := S3) 2 rfl (e := 2) (by omega) (A_imp (wt122  h) (fun v S10 hq => ?_))
      obtain ⟨r11, hv, h⟩ := hq
      subst hv
      exact A_ret 4 (m := 124) (v := some (.int (0 : Int32))) (S' := S10) rfl rfl ⟨_, rfl, h⟩
  · have h := h.2 c
    refine A_call (j := 122) (As := [.ref 50]) (fr' := (124, 15, [some (.ref 50), some (.int (0 : Int32))], [])) (S' := S1) 2 rfl (e := 2) (by omega) (A_imp (wt122  h) (fun v S12 hq => ?_))
    obtain ⟨r13, hv, h⟩ := hq
    subst hv
    exact A_ret 4 (m := 124) (v := some (.int (0 : Int32))) (S' := S12) rfl rfl ⟨_, rfl, h⟩
/-! X5_not5, depth (e0 + 1) -/
def wnot5_b93 (CD : ri_H → (Int32 → ri_H → Prop) → Prop) (Q : Int32 → ri_H → Prop)  (S : ri_H) : Prop := Q (1 : Int32) S
set_option maxRecDepth 10000 in
set_option maxHeartbeats 1000000 in
theorem wt127_b93 {E : ri_E} (CD : ri_H → (Int32 → ri_H → Prop) → Prop) (e0 : Nat) (he0 : 20 ≤ e0) (hCD : ∀ (S : ri_H) (Q : Int32 → ri_H → Prop), CD S Q → ri_A E e0 (ri_en 126 [.ref 50]) S (Qi Q)) {Q : Int32 → ri_H → Prop}  (S : ri_H) (h : wnot5_b93 CD  Q  S) : ri_A E (e0 + 1) (127, 93, [none, none, none, none], []) S (Qi Q) := by
  unfold wnot5_b93 at h
  exact A_ret 3 (m := 127) (v := some (.int (1 : Int32))) (S' := S) rfl rfl ⟨_, rfl, h⟩
def wnot5_b66 (CD : ri_H → (Int32 → ri_H → Prop) → Prop) (Q : Int32 → ri_H → Prop) (x1 : Int32) (s0 : Int32) (S : ri_H) : Prop := w117  S (fun (S7 : ri_H) => CD S7 (fun (r9 : Int32) (S8 : ri_H) => ((s0 = 0 → ((¬ x1 = r9 → Q (0 : Int32) S8) ∧ (¬ (¬ x1 = r9) → wnot5_b93 CD  Q  S8))) ∧ (¬ (s0 = 0) → ((r9 ≤ x1 → Q (0 : Int32) S8) ∧ (¬ (r9 ≤ x1) → wnot5_b93 CD  Q  S8))))))
set_option maxRecDepth 10000 in
set_option maxHeartbeats 1000000 in
theorem wt127_b66 {E : ri_E} (CD : ri_H → (Int32 → ri_H → Prop) → Prop) (e0 : Nat) (he0 : 20 ≤ e0) (hCD : ∀ (S : ri_H) (Q : Int32 → ri_H → Prop), CD S Q → ri_A E e0 (ri_en 126 [.ref 50]) S (Qi Q)) {Q : Int32 → ri_H → Prop} (x1 : Int32) (s0 : Int32) (S : ri_H) (h : wnot5_b66 CD  Q x1 s0 S) : ri_A E (e0 + 1) (127, 66, [some (.ref 50), some (.int x1), none, none], [.int s0]) S (Qi Q) := by
  unfold wnot5_b66 at h
  refine A_call (j := 117) (As := [.ref 50]) (fr' := (127, 71, [some (.ref 50), some (.int x1), some (.int s0), none], [])) (S' := S) 3 rfl (e := 1) (by omega) (A_imp (wt117  h) (fun v S7 hq => ?_))
  obtain ⟨hv, h⟩ := hq
  subst hv
  refine A_call (j := 126) (As := [.ref 50]) (fr' := (127, 75, [some (.ref 50), some (.int x1), some (.int s0), none], [])) (S' := S7) 2 rfl (e := e0) (by omega) (A_imp (hCD _ _ h) (fun v S8 hq => ?_))
  obtain ⟨r9, hv, h⟩ := hq
  subst hv
  refine A_br (s0 = 0) (r1 := ((127, 88, [some (.ref 50), some (.int x1), some (.int s0), some (.int r9)], []), S8)) (r2 := ((127, 80, [some (.ref 50), some (.int x1), some (.int s0), some (.int r9)], []), S8)) 3 rfl (fun c => ?_) (fun c => ?_)
  · have h := h.1 c
    refine A_br (¬ x1 = r9) (r1 := ((127, 97, [some (.ref 50), some (.int x1), some (.int s0), some (.int r9)], []), S8)) (r2 := ((127, 93, [some (.ref 50), some (.int x1), some (.int s0), some (.int r9)], []), S8)) 3 rfl (fun c => ?_) (fun c => ?_)
    · have h := h.1 c
      exact A_ret 2 (m := 127) (v := some (.int (0 : Int32))) (S' := S8) rfl rfl ⟨_, rfl, h⟩
    · have h := h.2 c
      refine ri_A.less (m := 127) (pc := 93) (L := [some (.ref 50), some (.int x1), some (.int s0), some (.int r9)]) (L' := [none, none, none, none]) (st := []) trivial ?_
      exact wt127_b93 CD e0 he0 hCD  _ h
  · have h := h.2 c
    refine A_br (r9 ≤ x1) (r1 := ((127, 97, [some (.ref 50), some (.int x1), some (.int s0), some (.int r9)], []), S8)) (r2 := ((127, 85, [some (.ref 50), some (.int x1), some (.int s0), some (.int r9)], []), S8)) 3 rfl (fun c => ?_) (fun c => ?_)
    · have h := h.1 c
      exact A_ret 2 (m := 127) (v := some (.int (0 : Int32))) (S' := S8) rfl rfl ⟨_, rfl, h⟩
    · have h := h.2 c
      refine A_nx 1 (fr' := (127, 93, [some (.ref 50), some (.int x1), some (.int s0), some (.int r9)], [])) (S' := S8) rfl ?_
      refine ri_A.less (m := 127) (pc := 93) (L := [some (.ref 50), some (.int x1), some (.int s0), some (.int r9)]) (L' := [none, none, none, none]) (st := []) trivial ?_
      exact wt127_b93 CD e0 he0 hCD  _ h
def wnot5_b50 (CD : ri_H → (Int32 → ri_H → Prop) → Prop) (Q : Int32 → ri_H → Prop) (x1 : Int32) (S : ri_H) : Prop := ((¬ (lg_cmp (S.2 50 23) (60 : Int64)) = 0 → wnot5_b66 CD  Q x1 (0 : Int32) S) ∧ (¬ (¬ (lg_cmp (S.2 50 23) (60 : Int64)) = 0) → wnot5_b66 CD  Q x1 (1 : Int32) S))
set_option maxRecDepth 10000 in
set_option maxHeartbeats 1000000 in
theorem wt127_b50 {E : ri_E} (CD : ri_H → (Int32 → ri_H → Prop) → Prop) (e0 : Nat) (he0 : 20 ≤ e0) (hCD : ∀ (S : ri_H) (Q : Int32 → ri_H → Prop), CD S Q → ri_A E e0 (ri_en 126 [.ref 50]) S (Qi Q)) {Q : Int32 → ri_H → Prop} (x1 : Int32) (S : ri_H) (h : wnot5_b50 CD  Q x1 S) : ri_A E (e0 + 1) (127, 50, [some (.ref 50), some (.int x1), none, none], []) S (Qi Q) := by
  unfold wnot5_b50 at h
  refine A_br (¬ (lg_cmp (S.2 50 23) (60 : Int64)) = 0) (r1 := ((127, 65, [some (.ref 50), some (.int x1), none, none], []), S)) (r2 := ((127, 61, [some (.ref 50), some (.int x1), none, none], []), S)) 5 rfl (fun c => ?_) (fun c => ?_)
  · have h := h.1 c
    refine A_nx 1 (fr' := (127, 66, [some (.ref 50), some (.int x1), none, none], [.int (0 : Int32)])) (S' := S) rfl ?_
    refine ri_A.less (m := 127) (pc := 66) (L := [some (.ref 50), some (.int x1), none, none]) (L' := [some (.ref 50), some (.int x1), none, none]) (st := [.int (0 : Int32)]) ⟨rfl, ⟨rfl, trivial⟩⟩ ?_
    exact wt127_b66 CD e0 he0 hCD  _ _ _ h
  · have h := h.2 c
    refine A_nx 2 (fr' := (127, 66, [some (.ref 50), some (.int x1), none, none], [.int (1 : Int32)])) (S' := S) rfl ?_
    refine ri_A.less (m := 127) (pc := 66) (L := [some (.ref 50), some (.int x1), none, none]) (L' := [some (.ref 50), some (.int x1), none, none]) (st := [.int (1 : Int32)]) ⟨rfl, ⟨rfl, trivial⟩⟩ ?_
    exact wt127_b66 CD e0 he0 hCD  _ _ _ h
def wnot5 (CD : ri_H → (Int32 → ri_H → Prop) → Prop)  (S : ri_H) (Q : Int32 → ri_H → Prop) : Prop := w120 (110 : Int32) (111 : Int32) (116 : Int32) (0 : Int32) (0 : Int32) (0 : Int32) (0 : Int32) (0 : Int32) S (fun (r2 : Int32) (S1 : ri_H) => ((r2 = 0 → CD S1 (fun (r4 : Int32) (S3 : ri_H) => w121 (60 : Int32) S3 (fun (r6 : Int32) (S5 : ri_H) => ((¬ r6 = 0 → wnot5_b50 CD  Q r4 S5) ∧ (¬ (¬ r6 = 0) → w121 (61 : Int32) S5 (fun (r11 : Int32) (S10 : ri_H) => ((¬ r11 = 0 → wnot5_b50 CD  Q r4 S10) ∧ (¬ (¬ r11 = 0) → Q r4 S10)))))))) ∧ (¬ (r2 = 0) → w122  S1 (fun (r13 : Int32) (S12 : ri_H) => Q (0 : Int32) S12))))
set_option maxRecDepth 10000 in
set_option maxHeartbeats 1000000 in
theorem wt127 {E : ri_E} (CD : ri_H → (Int32 → ri_H → Prop) → Prop) (e0 : Nat) (he0 : 20 ≤ e0) (hCD : ∀ (S : ri_H) (Q : Int32 → ri_H → Prop), CD S Q → ri_A E e0 (ri_en 126 [.ref 50]) S (Qi Q))  {S : ri_H} {Q : Int32 → ri_H → Prop} (h : wnot5 CD  S Q) : ri_A E (e0 + 1) (ri_en 127 [.ref 50]) S (Qi Q) := by
  unfold wnot5 at h
  show ri_A E (e0 + 1) (127, 0, [some (.ref 50), none, none, none], []) S (Qi Q)
  refine A_call (j := 120) (As := [.ref 50, .int (110 : Int32), .int (111 : Int32), .int (116 : Int32), .int (0 : Int32), .int (0 : Int32), .int (0 : Int32), .int (0 : Int32), .int (0 : Int32)]) (fr' := (127, 15, [some (.ref 50), none, none, none], [])) (S' := S) 10 rfl (e := 2) (by omega) (A_imp (wt120 (110 : Int32) (111 : Int32) (116 : Int32) (0 : Int32) (0 : Int32) (0 : Int32) (0 : Int32) (0 : Int32) h) (fun v S1 hq => ?_))
  obtain ⟨r2, hv, h⟩ := hq
  subst hv
  refine A_br (r2 = 0) (r1 := ((127, 25, [some (.ref 50), none, none, none], []), S1)) (r2 := ((127, 18, [some (.ref 50), none, none, none], []), S1)) 1 rfl (fun c => ?_) (fun c => ?_)
  · have h := h.1 c
    refine A_call (j := 126) (As := [.ref 50]) (fr' := (127, 29, [some (.ref 50), none, none, none], [])) (S' := S1) 2 rfl (e := e0) (by omega) (A_imp (hCD _ _ h) (fun v S3 hq => ?_))
    obtain ⟨r4, hv, h⟩ := hq
    subst hv
    refine A_call (j := 121) (As := [.ref 50, .int (60 : Int32)]) (fr' := (127, 36, [some (.ref 50), some (.int r4), none, none], [])) (S' := S3) 4 rfl (e := 0) (by omega) (A_imp (wt121 (60 : Int32) h) (fun v S5 hq => ?_))
    obtain ⟨r6, hv, h⟩ := hq
    subst hv
    refine A_br (¬ r6 = 0) (r1 := ((127, 50, [some (.ref 50), some (.int r4), none, none], []), S5)) (r2 := ((127, 39, [some (.ref 50), some (.int r4), none, none], []), S5)) 1 rfl (fun c => ?_) (fun c => ?_)
    · have h := h.1 c
      refine ri_A.less (m := 127) (pc := 50) (L := [some (.ref 50), some (.int r4), none, none]) (L' := [some (.ref 50), some (.int r4), none, none]) (st := []) ⟨rfl, ⟨rfl, trivial⟩⟩ ?_
      exact wt127_b50 CD e0 he0 hCD  _ _ h
    · have h := h.2 c
      refine A_call (j := 121) (As := [.ref 50, .int (61 : Int32)]) (fr' := (127, 45, [some (.ref 50), some (.int r4), none, none], [])) (S' := S5) 3 rfl (e := 0) (by omega) (A_imp (wt121 (61 : Int32) h) (fun v S10 hq => ?_))
      obtain ⟨r11, hv, h⟩ := hq
      subst hv
      refine A_br (¬ r11 = 0) (r1 := ((127, 50, [some (.ref 50), some (.int r4), none, none], []), S10)) (r2 := ((127, 48, [some (.ref 50), some (.int r4), none, none], []), S10)) 1 rfl (fun c => ?_) (fun c => ?_)
      · have h := h.1 c
        refine ri_A.less (m := 127) (pc := 50) (L := [some (.ref 50), some (.int r4), none, none]) (L' := [some (.ref 50), some (.int r4), none, none]) (st := []) ⟨rfl, ⟨rfl, trivial⟩⟩ ?_
        exact wt127_b50 CD e0 he0 hCD  _ _ h
      · have h := h.2 c
        exact A_ret 2 (m := 127) (v := some (.int r4)) (S' := S10) rfl rfl ⟨_, rfl, h⟩
  · have h := h.2 c
    refine A_call (j := 122) (As := [.ref 50]) (fr' := (127, 22, [some (.ref 50), none, none, none], [])) (S' := S1) 2 rfl (e := 2) (by omega) (A_imp (wt122  h) (fun v S12 hq => ?_))
    obtain ⟨r13, hv, h⟩ := hq
    subst hv
    exact A_ret 3 (m := 127) (v := some (.int (0 : Int32))) (S' := S12) rfl rfl ⟨_, rfl, h⟩
/-! X5_term5, depth (e0 + 1) -/
def wterm_l5 (CA : ri_H → (Int32 → ri_H → Prop) → Prop) (Q : Int32 → ri_H → Prop) : Nat → Int32 → ri_H → Prop
  | 0, _, _ => False
  | n + 1, x1, S => w121 (42 : Int32) S (fun (r4 : Int32) (S3 : ri_H) => ((r4 = 0 → Q x1 S3) ∧ (¬ (r4 = 0) → w117  S3 (fun (S5 : ri_H) => CA S5 (fun (r7 : Int32) (S6 : ri_H) => wterm_l5 CA  Q n (x1 * r7) S6)))))
set_option maxRecDepth 10000 in
set_option maxHeartbeats 1000000 in
theorem wt125_l5 {E : ri_E} (CA : ri_H → (Int32 → ri_H → Prop) → Prop) (e0 : Nat) (he0 : 20 ≤ e0) (hCA : ∀ (S : ri_H) (Q : Int32 → ri_H → Prop), CA S Q → ri_A E e0 (ri_en 124 [.ref 50]) S (Qi Q)) {Q : Int32 → ri_H → Prop} : ∀ (n : Nat) (x1 : Int32) (S : ri_H), wterm_l5 CA  Q n x1 S → ri_A E (e0 + 1) (125, 5, [some (.ref 50), some (.int x1)], []) S (Qi Q) := by
  intro n
  induction n with
  | zero => intro x1 S h; exact h.elim
  | succ n ih =>
    intro x1 S h
    unfold wterm_l5 at h
    refine A_call (j := 121) (As := [.ref 50, .int (42 : Int32)]) (fr' := (125, 11, [some (.ref 50), some (.int x1)], [])) (S' := S) 3 rfl (e := 0) (by omega) (A_imp (wt121 (42 : Int32) h) (fun v S3 hq => ?_))
    obtain ⟨r4, hv, h⟩ := hq
    subst hv
    refine A_br (r4 = 0) (r1 := ((125, 28, [some (.ref 50), some (.int x1)], []), S3)) (r2 := ((125, 14, [some (.ref 50), some (.int x1)], []), S3)) 1 rfl (fun c => ?_) (fun c => ?_)
    · have h := h.1 c
      exact A_ret 2 (m := 125) (v := some (.int x1)) (S' := S3) rfl rfl ⟨_, rfl, h⟩
    · have h := h.2 c
      refine A_call (j := 117) (As := [.ref 50]) (fr' := (125, 18, [some (.ref 50), some (.int x1)], [])) (S' := S3) 2 rfl (e := 1) (by omega) (A_imp (wt117  h) (fun v S5 hq => ?_))
      obtain ⟨hv, h⟩ := hq
      subst hv
      refine A_call (j := 124) (As := [.ref 50]) (fr' := (125, 23, [some (.ref 50), some (.int x1)], [.int x1])) (S' := S5) 3 rfl (e := e0) (by omega) (A_imp (hCA _ _ h) (fun v S6 hq => ?_))
      obtain ⟨r7, hv, h⟩ := hq
      subst hv
      refine A_nx 3 (fr' := (125, 5, [some (.ref 50), some (.int (x1 * r7))], [])) (S' := S6) rfl ?_
      refine ri_A.less (m := 125) (pc := 5) (L := [some (.ref 50), some (.int (x1 * r7))]) (L' := [some (.ref 50), some (.int (x1 * r7))]) (st := []) ⟨rfl, ⟨rfl, trivial⟩⟩ ?_
      exact ih _ _ h
def wterm (CA : ri_H → (Int32 → ri_H → Prop) → Prop)  (S : ri_H) (Q : Int32 → ri_H → Prop) : Prop := CA S (fun (r2 : Int32) (S1 : ri_H) => ∃ nn, wterm_l5 CA  Q nn r2 S1)
set_option maxRecDepth 10000 in
set_option maxHeartbeats 1000000 in
theorem wt125 {E : ri_E} (CA : ri_H → (Int32 → ri_H → Prop) → Prop) (e0 : Nat) (he0 : 20 ≤ e0) (hCA : ∀ (S : ri_H) (Q : Int32 → ri_H → Prop), CA S Q → ri_A E e0 (ri_en 124 [.ref 50]) S (Qi Q))  {S : ri_H} {Q : Int32 → ri_H → Prop} (h : wterm CA  S Q) : ri_A E (e0 + 1) (ri_en 125 [.ref 50]) S (Qi Q) := by
  unfold wterm at h
  show ri_A E (e0 + 1) (125, 0, [some (.ref 50), none], []) S (Qi Q)
  refine A_call (j := 124) (As := [.ref 50]) (fr' := (125, 4, [some (.ref 50), none], [])) (S' := S) 2 rfl (e := e0) (by omega) (A_imp (hCA _ _ h) (fun v S1 hq => ?_))
  obtain ⟨r2, hv, h⟩ := hq
  subst hv
  refine A_nx 1 (fr' := (125, 5, [some (.ref 50), some (.int r2)], [])) (S' := S1) rfl ?_
  refine ri_A.less (m := 125) (pc := 5) (L := [some (.ref 50), some (.int r2)]) (L' := [some (.ref 50), some (.int r2)]) (st := []) ⟨rfl, ⟨rfl, trivial⟩⟩ ?_
  obtain ⟨nn, h⟩ := h
  exact wt125_l5 CA e0 he0 hCA  nn _ _ h
/-! X5_added5, depth (e0 + 1) -/
def wadded_b62 (CT : ri_H → (Int32 → ri_H → Prop) → Prop) (K5 : Int32 → ri_H → Prop) (Q : Int32 → ri_H → Prop) (s0 : Int32) (S : ri_H) : Prop := K5 s0 S
set_option maxRecDepth 10000 in
set_option maxHeartbeats 1000000 in
theorem wt126_b62 {E : ri_E} (CT : ri_H → (Int32 → ri_H → Prop) → Prop) (e0 : Nat) (he0 : 20 ≤ e0) (hCT : ∀ (S : ri_H) (Q : Int32 → ri_H → Prop), CT S Q → ri_A E e0 (ri_en 125 [.ref 50]) S (Qi Q)) {K5 : Int32 → ri_H → Prop} {Q : Int32 → ri_H → Prop} (hK5 : ∀ (x1 : Int32) (S : ri_H), K5 x1 S → ri_A E (e0 + 1) (126, 5, [some (.ref 50), some (.int x1), none, none], []) S (Qi Q)) (s0 : Int32) (S : ri_H) (h : wadded_b62 CT K5 Q s0 S) : ri_A E (e0 + 1) (126, 62, [some (.ref 50), none, none, none], [.int s0]) S (Qi Q) := by
  unfold wadded_b62 at h
  refine A_nx 2 (fr' := (126, 5, [some (.ref 50), some (.int s0), none, none], [])) (S' := S) rfl ?_
  refine ri_A.less (m := 126) (pc := 5) (L := [some (.ref 50), some (.int s0), none, none]) (L' := [some (.ref 50), some (.int s0), none, none]) (st := []) ⟨rfl, ⟨rfl, trivial⟩⟩ ?_
  exact hK5 _ _ h
def wadded_b39 (CT : ri_H → (Int32 → ri_H → Prop) → Prop) (K5 : Int32 → ri_H → Prop) (Q : Int32 → ri_H → Prop) (x1 : Int32) (s0 : Int32) (S : ri_H) : Prop := w117  S (fun (S5 : ri_H) => CT S5 (fun (r7 : Int32) (S6 : ri_H) => ((s0 = 0 → wadded_b62 CT K5 Q (x1 - r7) S6) ∧ (¬ (s0 = 0) → wadded_b62 CT K5 Q (x1 + r7) S6))))
set_option maxRecDepth 10000 in
set_option maxHeartbeats 1000000 in
theorem wt126_b39 {E : ri_E} (CT : ri_H → (Int32 → ri_H → Prop) → Prop) (e0 : Nat) (he0 : 20 ≤ e0) (hCT : ∀ (S : ri_H) (Q : Int32 → ri_H → Prop), CT S Q → ri_A E e0 (ri_en 125 [.ref 50]) S (Qi Q)) {K5 : Int32 → ri_H → Prop} {Q : Int32 → ri_H → Prop} (hK5 : ∀ (x1 : Int32) (S : ri_H), K5 x1 S → ri_A E (e0 + 1) (126, 5, [some (.ref 50), some (.int x1), none, none], []) S (Qi Q)) (x1 : Int32) (s0 : Int32) (S : ri_H) (h : wadded_b39 CT K5 Q x1 s0 S) : ri_A E (e0 + 1) (126, 39, [some (.ref 50), some (.int x1), none, none], [.int s0]) S (Qi Q) := by
  unfold wadded_b39 at h
  refine A_call (j := 117) (As := [.ref 50]) (fr' := (126, 44, [some (.ref 50), some (.int x1), some (.int s0), none], [])) (S' := S) 3 rfl (e := 1) (by omega) (A_imp (wt117  h) (fun v S5 hq => ?_))
  obtain ⟨hv, h⟩ := hq
  subst hv
  refine A_call (j := 125) (As := [.ref 50]) (fr' := (126, 48, [some (.ref 50), some (.int x1), some (.int s0), none], [])) (S' := S5) 2 rfl (e := e0) (by omega) (A_imp (hCT _ _ h) (fun v S6 hq => ?_))
  obtain ⟨r7, hv, h⟩ := hq
  subst hv
  refine A_br (s0 = 0) (r1 := ((126, 59, [some (.ref 50), some (.int x1), some (.int s0), some (.int r7)], []), S6)) (r2 := ((126, 53, [some (.ref 50), some (.int x1), some (.int s0), some (.int r7)], []), S6)) 3 rfl (fun c => ?_) (fun c => ?_)
  · have h := h.1 c
    refine A_nx 3 (fr' := (126, 62, [some (.ref 50), some (.int x1), some (.int s0), some (.int r7)], [.int (x1 - r7)])) (S' := S6) rfl ?_
    refine ri_A.less (m := 126) (pc := 62) (L := [some (.ref 50), some (.int x1), some (.int s0), some (.int r7)]) (L' := [some (.ref 50), none, none, none]) (st := [.int (x1 - r7)]) ⟨rfl, trivial⟩ ?_
    exact wt126_b62 CT e0 he0 hCT hK5 _ _ h
  · have h := h.2 c
    refine A_nx 4 (fr' := (126, 62, [some (.ref 50), some (.int x1), some (.int s0), some (.int r7)], [.int (x1 + r7)])) (S' := S6) rfl ?_
    refine ri_A.less (m := 126) (pc := 62) (L := [some (.ref 50), some (.int x1), some (.int s0), some (.int r7)]) (L' := [some (.ref 50), none, none, none]) (st := [.int (x1 + r7)]) ⟨rfl, trivial⟩ ?_
    exact wt126_b62 CT e0 he0 hCT hK5 _ _ h
def wadded_b23 (CT : ri_H → (Int32 → ri_H → Prop) → Prop) (K5 : Int32 → ri_H → Prop) (Q : Int32 → ri_H → Prop) (x1 : Int32) (S : ri_H) : Prop := ((¬ (lg_cmp (S.2 50 23) (43 : Int64)) = 0 → wadded_b39 CT K5 Q x1 (0 : Int32) S) ∧ (¬ (¬ (lg_cmp (S.2 50 23) (43 : Int64)) = 0) → wadded_b39 CT K5 Q x1 (1 : Int32) S))
set_option maxRecDepth 10000 in
set_option maxHeartbeats 1000000 in
theorem wt126_b23 {E : ri_E} (CT : ri_H → (Int32 → ri_H → Prop) → Prop) (e0 : Nat) (he0 : 20 ≤ e0) (hCT : ∀ (S : ri_H) (Q : Int32 → ri_H → Prop), CT S Q → ri_A E e0 (ri_en 125 [.ref 50]) S (Qi Q)) {K5 : Int32 → ri_H → Prop} {Q : Int32 → ri_H → Prop} (hK5 : ∀ (x1 : Int32) (S : ri_H), K5 x1 S → ri_A E (e0 + 1) (126, 5, [some (.ref 50), some (.int x1), none, none], []) S (Qi Q)) (x1 : Int32) (S : ri_H) (h : wadded_b23 CT K5 Q x1 S) : ri_A E (e0 + 1) (126, 23, [some (.ref 50), some (.int x1), none, none], []) S (Qi Q) := by
  unfold wadded_b23 at h
  refine A_br (¬ (lg_cmp (S.2 50 23) (43 : Int64)) = 0) (r1 := ((126, 38, [some (.ref 50), some (.int x1), none, none], []), S)) (r2 := ((126, 34, [some (.ref 50), some (.int x1), none, none], []), S)) 5 rfl (fun c => ?_) (fun c => ?_)
  · have h := h.1 c
    refine A_nx 1 (fr' := (126, 39, [some (.ref 50), some (.int x1), none, none], [.int (0 : Int32)])) (S' := S) rfl ?_
    refine ri_A.less (m := 126) (pc := 39) (L := [some (.ref 50), some (.int x1), none, none]) (L' := [some (.ref 50), some (.int x1), none, none]) (st := [.int (0 : Int32)]) ⟨rfl, ⟨rfl, trivial⟩⟩ ?_
    exact wt126_b39 CT e0 he0 hCT hK5 _ _ _ h
  · have h := h.2 c
    refine A_nx 2 (fr' := (126, 39, [some (.ref 50), some (.int x1), none, none], [.int (1 : Int32)])) (S' := S) rfl ?_
    refine ri_A.less (m := 126) (pc := 39) (L := [some (.ref 50), some (.int x1), none, none]) (L' := [some (.ref 50), some (.int x1), none, none]) (st := [.int (1 : Int32)]) ⟨rfl, ⟨rfl, trivial⟩⟩ ?_
    exact wt126_b39 CT e0 he0 hCT hK5 _ _ _ h
def wadded_l5 (CT : ri_H → (Int32 → ri_H → Prop) → Prop) (Q : Int32 → ri_H → Prop) : Nat → Int32 → ri_H → Prop
  | 0, _, _ => False
  | n + 1, x1, S => w121 (43 : Int32) S (fun (r4 : Int32) (S3 : ri_H) => ((¬ r4 = 0 → wadded_b23 CT (fun x1 S => wadded_l5 CT  Q n x1 S) Q x1 S3) ∧ (¬ (¬ r4 = 0) → w121 (45 : Int32) S3 (fun (r9 : Int32) (S8 : ri_H) => ((r9 = 0 → Q x1 S8) ∧ (¬ (r9 = 0) → wadded_b23 CT (fun x1 S => wadded_l5 CT  Q n x1 S) Q x1 S8))))))
set_option maxRecDepth 10000 in
set_option maxHeartbeats 1000000 in
theorem wt126_l5 {E : ri_E} (CT : ri_H → (Int32 → ri_H → Prop) → Prop) (e0 : Nat) (he0 : 20 ≤ e0) (hCT : ∀ (S : ri_H) (Q : Int32 → ri_H → Prop), CT S Q → ri_A E e0 (ri_en 125 [.ref 50]) S (Qi Q)) {Q : Int32 → ri_H → Prop} : ∀ (n : Nat) (x1 : Int32) (S : ri_H), wadded_l5 CT  Q n x1 S → ri_A E (e0 + 1) (126, 5, [some (.ref 50), some (.int x1), none, none], []) S (Qi Q) := by
  intro n
  induction n with
  | zero => intro x1 S h; exact h.elim
  | succ n ih =>
    intro x1 S h
    unfold wadded_l5 at h
    refine A_call (j := 121) (As := [.ref 50, .int (43 : Int32)]) (fr' := (126, 11, [some (.ref 50), some (.int x1), none, none], [])) (S' := S) 3 rfl (e := 0) (by omega) (A_imp (wt121 (43 : Int32) h) (fun v S3 hq => ?_))
    obtain ⟨r4, hv, h⟩ := hq
    subst hv
    refine A_br (¬ r4 = 0) (r1 := ((126, 23, [some (.ref 50), some (.int x1), none, none], []), S3)) (r2 := ((126, 14, [some (.ref 50), some (.int x1), none, none], []), S3)) 1 rfl (fun c => ?_) (fun c => ?_)
    · have h := h.1 c
      refine ri_A.less (m := 126) (pc := 23) (L := [some (.ref 50), some (.int x1), none, none]) (L' := [some (.ref 50), some (.int x1), none, none]) (st := []) ⟨rfl, ⟨rfl, trivial⟩⟩ ?_
      exact wt126_b23 CT e0 he0 hCT (fun x1 S hk => ih x1 S hk) _ _ h
    · have h := h.2 c
      refine A_call (j := 121) (As := [.ref 50, .int (45 : Int32)]) (fr' := (126, 20, [some (.ref 50), some (.int x1), none, none], [])) (S' := S3) 3 rfl (e := 0) (by omega) (A_imp (wt121 (45 : Int32) h) (fun v S8 hq => ?_))
      obtain ⟨r9, hv, h⟩ := hq
      subst hv
      refine A_br (r9 = 0) (r1 := ((126, 66, [some (.ref 50), some (.int x1), none, none], []), S8)) (r2 := ((126, 23, [some (.ref 50), some (.int x1), none, none], []), S8)) 1 rfl (fun c => ?_) (fun c => ?_)
      · have h := h.1 c
        exact A_ret 2 (m := 126) (v := some (.int x1)) (S' := S8) rfl rfl ⟨_, rfl, h⟩
      · have h := h.2 c
        refine ri_A.less (m := 126) (pc := 23) (L := [some (.ref 50), some (.int x1), none, none]) (L' := [some (.ref 50), some (.int x1), none, none]) (st := []) ⟨rfl, ⟨rfl, trivial⟩⟩ ?_
        exact wt126_b23 CT e0 he0 hCT (fun x1 S hk => ih x1 S hk) _ _ h
def wadded (CT : ri_H → (Int32 → ri_H → Prop) → Prop)  (S : ri_H) (Q : Int32 → ri_H → Prop) : Prop := CT S (fun (r2 : Int32) (S1 : ri_H) => ∃ nn, wadded_l5 CT  Q nn r2 S1)
set_option maxRecDepth 10000 in
set_option maxHeartbeats 1000000 in
theorem wt126 {E : ri_E} (CT : ri_H → (Int32 → ri_H → Prop) → Prop) (e0 : Nat) (he0 : 20 ≤ e0) (hCT : ∀ (S : ri_H) (Q : Int32 → ri_H → Prop), CT S Q → ri_A E e0 (ri_en 125 [.ref 50]) S (Qi Q))  {S : ri_H} {Q : Int32 → ri_H → Prop} (h : wadded CT  S Q) : ri_A E (e0 + 1) (ri_en 126 [.ref 50]) S (Qi Q) := by
  unfold wadded at h
  show ri_A E (e0 + 1) (126, 0, [some (.ref 50), none, none, none], []) S (Qi Q)
  refine A_call (j := 125) (As := [.ref 50]) (fr' := (126, 4, [some (.ref 50), none, none, none], [])) (S' := S) 2 rfl (e := e0) (by omega) (A_imp (hCT _ _ h) (fun v S1 hq => ?_))
  obtain ⟨r2, hv, h⟩ := hq
  subst hv
  refine A_nx 1 (fr' := (126, 5, [some (.ref 50), some (.int r2), none, none], [])) (S' := S1) rfl ?_
  refine ri_A.less (m := 126) (pc := 5) (L := [some (.ref 50), some (.int r2), none, none]) (L' := [some (.ref 50), some (.int r2), none, none]) (st := []) ⟨rfl, ⟨rfl, trivial⟩⟩ ?_
  obtain ⟨nn, h⟩ := h
  exact wt126_l5 CT e0 he0 hCT  nn _ _ h
/-! X5_both5, depth (e0 + 1) -/
def wboth_b45 (CN : ri_H → (Int32 → ri_H → Prop) → Prop) (K5 : Int32 → ri_H → Prop) (Q : Int32 → ri_H → Prop) (s0 : Int32) (S : ri_H) : Prop := K5 s0 S
set_option maxRecDepth 10000 in
set_option maxHeartbeats 1000000 in
theorem wt128_b45 {E : ri_E} (CN : ri_H → (Int32 → ri_H → Prop) → Prop) (e0 : Nat) (he0 : 20 ≤ e0) (hCN : ∀ (S : ri_H) (Q : Int32 → ri_H → Prop), CN S Q → ri_A E e0 (ri_en 127 [.ref 50]) S (Qi Q)) {K5 : Int32 → ri_H → Prop} {Q : Int32 → ri_H → Prop} (hK5 : ∀ (x1 : Int32) (S : ri_H), K5 x1 S → ri_A E (e0 + 1) (128, 5, [some (.ref 50), some (.int x1), none], []) S (Qi Q)) (s0 : Int32) (S : ri_H) (h : wboth_b45 CN K5 Q s0 S) : ri_A E (e0 + 1) (128, 45, [some (.ref 50), none, none], [.int s0]) S (Qi Q) := by
  unfold wboth_b45 at h
  refine A_nx 2 (fr' := (128, 5, [some (.ref 50), some (.int s0), none], [])) (S' := S) rfl ?_
  refine ri_A.less (m := 128) (pc := 5) (L := [some (.ref 50), some (.int s0), none]) (L' := [some (.ref 50), some (.int s0), none]) (st := []) ⟨rfl, ⟨rfl, trivial⟩⟩ ?_
  exact hK5 _ _ h
def wboth_b44 (CN : ri_H → (Int32 → ri_H → Prop) → Prop) (K5 : Int32 → ri_H → Prop) (Q : Int32 → ri_H → Prop)  (S : ri_H) : Prop := wboth_b45 CN K5 Q (0 : Int32) S
set_option maxRecDepth 10000 in
set_option maxHeartbeats 1000000 in
theorem wt128_b44 {E : ri_E} (CN : ri_H → (Int32 → ri_H → Prop) → Prop) (e0 : Nat) (he0 : 20 ≤ e0) (hCN : ∀ (S : ri_H) (Q : Int32 → ri_H → Prop), CN S Q → ri_A E e0 (ri_en 127 [.ref 50]) S (Qi Q)) {K5 : Int32 → ri_H → Prop} {Q : Int32 → ri_H → Prop} (hK5 : ∀ (x1 : Int32) (S : ri_H), K5 x1 S → ri_A E (e0 + 1) (128, 5, [some (.ref 50), some (.int x1), none], []) S (Qi Q))  (S : ri_H) (h : wboth_b44 CN K5 Q  S) : ri_A E (e0 + 1) (128, 44, [some (.ref 50), none, none], []) S (Qi Q) := by
  unfold wboth_b44 at h
  refine A_nx 1 (fr' := (128, 45, [some (.ref 50), none, none], [.int (0 : Int32)])) (S' := S) rfl ?_
  refine ri_A.less (m := 128) (pc := 45) (L := [some (.ref 50), none, none]) (L' := [some (.ref 50), none, none]) (st := [.int (0 : Int32)]) ⟨rfl, trivial⟩ ?_
  exact wt128_b45 CN e0 he0 hCN hK5 _ _ h
def wboth_l5 (CN : ri_H → (Int32 → ri_H → Prop) → Prop) (Q : Int32 → ri_H → Prop) : Nat → Int32 → ri_H → Prop
  | 0, _, _ => False
  | n + 1, x1, S => w120 (97 : Int32) (110 : Int32) (100 : Int32) (0 : Int32) (0 : Int32) (0 : Int32) (0 : Int32) (0 : Int32) S (fun (r4 : Int32) (S3 : ri_H) => ((r4 = 0 → Q x1 S3) ∧ (¬ (r4 = 0) → w117  S3 (fun (S5 : ri_H) => CN S5 (fun (r7 : Int32) (S6 : ri_H) => ((x1 = 0 → wboth_b44 CN (fun x1 S => wboth_l5 CN  Q n x1 S) Q  S6) ∧ (¬ (x1 = 0) → ((r7 = 0 → wboth_b44 CN (fun x1 S => wboth_l5 CN  Q n x1 S) Q  S6) ∧ (¬ (r7 = 0) → wboth_b45 CN (fun x1 S => wboth_l5 CN  Q n x1 S) Q (1 : Int32) S6)))))))))
set_option maxRecDepth 10000 in
set_option maxHeartbeats 1000000 in
theorem wt128_l5 {E : ri_E} (CN : ri_H → (Int32 → ri_H → Prop) → Prop) (e0 : Nat) (he0 : 20 ≤ e0) (hCN : ∀ (S : ri_H) (Q : Int32 → ri_H → Prop), CN S Q → ri_A E e0 (ri_en 127 [.ref 50]) S (Qi Q)) {Q : Int32 → ri_H → Prop} : ∀ (n : Nat) (x1 : Int32) (S : ri_H), wboth_l5 CN  Q n x1 S → ri_A E (e0 + 1) (128, 5, [some (.ref 50), some (.int x1), none], []) S (Qi Q) := by
  intro n
  induction n with
  | zero => intro x1 S h; exact h.elim
  | succ n ih =>
    intro x1 S h
    unfold wboth_l5 at h
    refine A_call (j := 120) (As := [.ref 50, .int (97 : Int32), .int (110 : Int32), .int (100 : Int32), .int (0 : Int32), .int (0 : Int32), .int (0 : Int32), .int (0 : Int32), .int (0 : Int32)]) (fr' := (128, 20, [some (.ref 50), some (.int x1), none], [])) (S' := S) 10 rfl (e := 2) (by omega) (A_imp (wt120 (97 : Int32) (110 : Int32) (100 : Int32) (0 : Int32) (0 : Int32) (0 : Int32) (0 : Int32) (0 : Int32) h) (fun v S3 hq => ?_))
    obtain ⟨r4, hv, h⟩ := hq
    subst hv
    refine A_br (r4 = 0) (r1 := ((128, 49, [some (.ref 50), some (.int x1), none], []), S3)) (r2 := ((128, 23, [some (.ref 50), some (.int x1), none], []), S3)) 1 rfl (fun c => ?_) (fun c => ?_)
    · have h := h.1 c
      exact A_ret 2 (m := 128) (v := some (.int x1)) (S' := S3) rfl rfl ⟨_, rfl, h⟩
    · have h := h.2 c
      refine A_call (j := 117) (As := [.ref 50]) (fr' := (128, 27, [some (.ref 50), some (.int x1), none], [])) (S' := S3) 2 rfl (e := 1) (by omega) (A_imp (wt117  h) (fun v S5 hq => ?_))
      obtain ⟨hv, h⟩ := hq
      subst hv
      refine A_call (j := 127) (As := [.ref 50]) (fr' := (128, 31, [some (.ref 50), some (.int x1), none], [])) (S' := S5) 2 rfl (e := e0) (by omega) (A_imp (hCN _ _ h) (fun v S6 hq => ?_))
      obtain ⟨r7, hv, h⟩ := hq
      subst hv
      refine A_br (x1 = 0) (r1 := ((128, 44, [some (.ref 50), some (.int x1), some (.int r7)], []), S6)) (r2 := ((128, 36, [some (.ref 50), some (.int x1), some (.int r7)], []), S6)) 3 rfl (fun c => ?_) (fun c => ?_)
      · have h := h.1 c
        refine ri_A.less (m := 128) (pc := 44) (L := [some (.ref 50), some (.int x1), some (.int r7)]) (L' := [some (.ref 50), none, none]) (st := []) ⟨rfl, trivial⟩ ?_
        exact wt128_b44 CN e0 he0 hCN (fun x1 S hk => ih x1 S hk) _ h
      · have h := h.2 c
        refine A_br (r7 = 0) (r1 := ((128, 44, [some (.ref 50), some (.int x1), some (.int r7)], []), S6)) (r2 := ((128, 40, [some (.ref 50), some (.int x1), some (.int r7)], []), S6)) 2 rfl (fun c => ?_) (fun c => ?_)
        · have h := h.1 c
          refine ri_A.less (m := 128) (pc := 44) (L := [some (.ref 50), some (.int x1), some (.int r7)]) (L' := [some (.ref 50), none, none]) (st := []) ⟨rfl, trivial⟩ ?_
          exact wt128_b44 CN e0 he0 hCN (fun x1 S hk => ih x1 S hk) _ h
        · have h := h.2 c
          refine A_nx 2 (fr' := (128, 45, [some (.ref 50), some (.int x1), some (.int r7)], [.int (1 : Int32)])) (S' := S6) rfl ?_
          refine ri_A.less (m := 128) (pc := 45) (L := [some (.ref 50), some (.int x1), some (.int r7)]) (L' := [some (.ref 50), none, none]) (st := [.int (1 : Int32)]) ⟨rfl, trivial⟩ ?_
          exact wt128_b45 CN e0 he0 hCN (fun x1 S hk => ih x1 S hk) _ _ h
def wboth (CN : ri_H → (Int32 → ri_H → Prop) → Prop)  (S : ri_H) (Q : Int32 → ri_H → Prop) : Prop := CN S (fun (r2 : Int32) (S1 : ri_H) => ∃ nn, wboth_l5 CN  Q nn r2 S1)
set_option maxRecDepth 10000 in
set_option maxHeartbeats 1000000 in
theorem wt128 {E : ri_E} (CN : ri_H → (Int32 → ri_H → Prop) → Prop) (e0 : Nat) (he0 : 20 ≤ e0) (hCN : ∀ (S : ri_H) (Q : Int32 → ri_H → Prop), CN S Q → ri_A E e0 (ri_en 127 [.ref 50]) S (Qi Q))  {S : ri_H} {Q : Int32 → ri_H → Prop} (h : wboth CN  S Q) : ri_A E (e0 + 1) (ri_en 128 [.ref 50]) S (Qi Q) := by
  unfold wboth at h
  show ri_A E (e0 + 1) (128, 0, [some (.ref 50), none, none], []) S (Qi Q)
  refine A_call (j := 127) (As := [.ref 50]) (fr' := (128, 4, [some (.ref 50), none, none], [])) (S' := S) 2 rfl (e := e0) (by omega) (A_imp (hCN _ _ h) (fun v S1 hq => ?_))
  obtain ⟨r2, hv, h⟩ := hq
  subst hv
  refine A_nx 1 (fr' := (128, 5, [some (.ref 50), some (.int r2), none], [])) (S' := S1) rfl ?_
  refine ri_A.less (m := 128) (pc := 5) (L := [some (.ref 50), some (.int r2), none]) (L' := [some (.ref 50), some (.int r2), none]) (st := []) ⟨rfl, ⟨rfl, trivial⟩⟩ ?_
  obtain ⟨nn, h⟩ := h
  exact wt128_l5 CN e0 he0 hCN  nn _ _ h
/-! X5_either5, depth (e0 + 1) -/
def weither_b44 (CB : ri_H → (Int32 → ri_H → Prop) → Prop) (K5 : Int32 → ri_H → Prop) (Q : Int32 → ri_H → Prop) (s0 : Int32) (S : ri_H) : Prop := K5 s0 S
set_option maxRecDepth 10000 in
set_option maxHeartbeats 1000000 in
theorem wt129_b44 {E : ri_E} (CB : ri_H → (Int32 → ri_H → Prop) → Prop) (e0 : Nat) (he0 : 20 ≤ e0) (hCB : ∀ (S : ri_H) (Q : Int32 → ri_H → Prop), CB S Q → ri_A E e0 (ri_en 128 [.ref 50]) S (Qi Q)) {K5 : Int32 → ri_H → Prop} {Q : Int32 → ri_H → Prop} (hK5 : ∀ (x1 : Int32) (S : ri_H), K5 x1 S → ri_A E (e0 + 1) (129, 5, [some (.ref 50), some (.int x1), none], []) S (Qi Q)) (s0 : Int32) (S : ri_H) (h : weither_b44 CB K5 Q s0 S) : ri_A E (e0 + 1) (129, 44, [some (.ref 50), none, none], [.int s0]) S (Qi Q) := by
  unfold weither_b44 at h
  refine A_nx 2 (fr' := (129, 5, [some (.ref 50), some (.int s0), none], [])) (S' := S) rfl ?_
  refine ri_A.less (m := 129) (pc := 5) (L := [some (.ref 50), some (.int s0), none]) (L' := [some (.ref 50), some (.int s0), none]) (st := []) ⟨rfl, ⟨rfl, trivial⟩⟩ ?_
  exact hK5 _ _ h
def weither_b39 (CB : ri_H → (Int32 → ri_H → Prop) → Prop) (K5 : Int32 → ri_H → Prop) (Q : Int32 → ri_H → Prop)  (S : ri_H) : Prop := weither_b44 CB K5 Q (1 : Int32) S
set_option maxRecDepth 10000 in
set_option maxHeartbeats 1000000 in
theorem wt129_b39 {E : ri_E} (CB : ri_H → (Int32 → ri_H → Prop) → Prop) (e0 : Nat) (he0 : 20 ≤ e0) (hCB : ∀ (S : ri_H) (Q : Int32 → ri_H → Prop), CB S Q → ri_A E e0 (ri_en 128 [.ref 50]) S (Qi Q)) {K5 : Int32 → ri_H → Prop} {Q : Int32 → ri_H → Prop} (hK5 : ∀ (x1 : Int32) (S : ri_H), K5 x1 S → ri_A E (e0 + 1) (129, 5, [some (.ref 50), some (.int x1), none], []) S (Qi Q))  (S : ri_H) (h : weither_b39 CB K5 Q  S) : ri_A E (e0 + 1) (129, 39, [some (.ref 50), none, none], []) S (Qi Q) := by
  unfold weither_b39 at h
  refine A_nx 2 (fr' := (129, 44, [some (.ref 50), none, none], [.int (1 : Int32)])) (S' := S) rfl ?_
  refine ri_A.less (m := 129) (pc := 44) (L := [some (.ref 50), none, none]) (L' := [some (.ref 50), none, none]) (st := [.int (1 : Int32)]) ⟨rfl, trivial⟩ ?_
  exact wt129_b44 CB e0 he0 hCB hK5 _ _ h
def weither_l5 (CB : ri_H → (Int32 → ri_H → Prop) → Prop) (Q : Int32 → ri_H → Prop) : Nat → Int32 → ri_H → Prop
  | 0, _, _ => False
  | n + 1, x1, S => w120 (111 : Int32) (114 : Int32) (0 : Int32) (0 : Int32) (0 : Int32) (0 : Int32) (0 : Int32) (0 : Int32) S (fun (r4 : Int32) (S3 : ri_H) => ((r4 = 0 → Q x1 S3) ∧ (¬ (r4 = 0) → w117  S3 (fun (S5 : ri_H) => CB S5 (fun (r7 : Int32) (S6 : ri_H) => ((¬ x1 = 0 → weither_b39 CB (fun x1 S => weither_l5 CB  Q n x1 S) Q  S6) ∧ (¬ (¬ x1 = 0) → ((r7 = 0 → weither_b44 CB (fun x1 S => weither_l5 CB  Q n x1 S) Q (0 : Int32) S6) ∧ (¬ (r7 = 0) → weither_b39 CB (fun x1 S => weither_l5 CB  Q n x1 S) Q  S6)))))))))
set_option maxRecDepth 10000 in
set_option maxHeartbeats 1000000 in
theorem wt129_l5 {E : ri_E} (CB : ri_H → (Int32 → ri_H → Prop) → Prop) (e0 : Nat) (he0 : 20 ≤ e0) (hCB : ∀ (S : ri_H) (Q : Int32 → ri_H → Prop), CB S Q → ri_A E e0 (ri_en 128 [.ref 50]) S (Qi Q)) {Q : Int32 → ri_H → Prop} : ∀ (n : Nat) (x1 : Int32) (S : ri_H), weither_l5 CB  Q n x1 S → ri_A E (e0 + 1) (129, 5, [some (.ref 50), some (.int x1), none], []) S (Qi Q) := by
  intro n
  induction n with
  | zero => intro x1 S h; exact h.elim
  | succ n ih =>
    intro x1 S h
    unfold weither_l5 at h
    refine A_call (j := 120) (As := [.ref 50, .int (111 : Int32), .int (114 : Int32), .int (0 : Int32), .int (0 : Int32), .int (0 : Int32), .int (0 : Int32), .int (0 : Int32), .int (0 : Int32)]) (fr' := (129, 19, [some (.ref 50), some (.int x1), none], [])) (S' := S) 10 rfl (e := 2) (by omega) (A_imp (wt120 (111 : Int32) (114 : Int32) (0 : Int32) (0 : Int32) (0 : Int32) (0 : Int32) (0 : Int32) (0 : Int32) h) (fun v S3 hq => ?_))
    obtain ⟨r4, hv, h⟩ := hq
    subst hv
    refine A_br (r4 = 0) (r1 := ((129, 48, [some (.ref 50), some (.int x1), none], []), S3)) (r2 := ((129, 22, [some (.ref 50), some (.int x1), none], []), S3)) 1 rfl (fun c => ?_) (fun c => ?_)
    · have h := h.1 c
      exact A_ret 2 (m := 129) (v := some (.int x1)) (S' := S3) rfl rfl ⟨_, rfl, h⟩
    · have h := h.2 c
      refine A_call (j := 117) (As := [.ref 50]) (fr' := (129, 26, [some (.ref 50), some (.int x1), none], [])) (S' := S3) 2 rfl (e := 1) (by omega) (A_imp (wt117  h) (fun v S5 hq => ?_))
      obtain ⟨hv, h⟩ := hq
      subst hv
      refine A_call (j := 128) (As := [.ref 50]) (fr' := (129, 30, [some (.ref 50), some (.int x1), none], [])) (S' := S5) 2 rfl (e := e0) (by omega) (A_imp (hCB _ _ h) (fun v S6 hq => ?_))
      obtain ⟨r7, hv, h⟩ := hq
      subst hv
      refine A_br (¬ x1 = 0) (r1 := ((129, 39, [some (.ref 50), some (.int x1), some (.int r7)], []), S6)) (r2 := ((129, 35, [some (.ref 50), some (.int x1), some (.int r7)], []), S6)) 3 rfl (fun c => ?_) (fun c => ?_)
      · have h := h.1 c
        refine ri_A.less (m := 129) (pc := 39) (L := [some (.ref 50), some (.int x1), some (.int r7)]) (L' := [some (.ref 50), none, none]) (st := []) ⟨rfl, trivial⟩ ?_
        exact wt129_b39 CB e0 he0 hCB (fun x1 S hk => ih x1 S hk) _ h
      · have h := h.2 c
        refine A_br (r7 = 0) (r1 := ((129, 43, [some (.ref 50), some (.int x1), some (.int r7)], []), S6)) (r2 := ((129, 39, [some (.ref 50), some (.int x1), some (.int r7)], []), S6)) 2 rfl (fun c => ?_) (fun c => ?_)
        · have h := h.1 c
          refine A_nx 1 (fr' := (129, 44, [some (.ref 50), some (.int x1), some (.int r7)], [.int (0 : Int32)])) (S' := S6) rfl ?_
          refine ri_A.less (m := 129) (pc := 44) (L := [some (.ref 50), some (.int x1), some (.int r7)]) (L' := [some (.ref 50), none, none]) (st := [.int (0 : Int32)]) ⟨rfl, trivial⟩ ?_
          exact wt129_b44 CB e0 he0 hCB (fun x1 S hk => ih x1 S hk) _ _ h
        · have h := h.2 c
          refine ri_A.less (m := 129) (pc := 39) (L := [some (.ref 50), some (.int x1), some (.int r7)]) (L' := [some (.ref 50), none, none]) (st := []) ⟨rfl, trivial⟩ ?_
          exact wt129_b39 CB e0 he0 hCB (fun x1 S hk => ih x1 S hk) _ h
def weither (CB : ri_H → (Int32 → ri_H → Prop) → Prop)  (S : ri_H) (Q : Int32 → ri_H → Prop) : Prop := CB S (fun (r2 : Int32) (S1 : ri_H) => ∃ nn, weither_l5 CB  Q nn r2 S1)
set_option maxRecDepth 10000 in
set_option maxHeartbeats 1000000 in
theorem wt129 {E : ri_E} (CB : ri_H → (Int32 → ri_H → Prop) → Prop) (e0 : Nat) (he0 : 20 ≤ e0) (hCB : ∀ (S : ri_H) (Q : Int32 → ri_H → Prop), CB S Q → ri_A E e0 (ri_en 128 [.ref 50]) S (Qi Q))  {S : ri_H} {Q : Int32 → ri_H → Prop} (h : weither CB  S Q) : ri_A E (e0 + 1) (ri_en 129 [.ref 50]) S (Qi Q) := by
  unfold weither at h
  show ri_A E (e0 + 1) (129, 0, [some (.ref 50), none, none], []) S (Qi Q)
  refine A_call (j := 128) (As := [.ref 50]) (fr' := (129, 4, [some (.ref 50), none, none], [])) (S' := S) 2 rfl (e := e0) (by omega) (A_imp (hCB _ _ h) (fun v S1 hq => ?_))
  obtain ⟨r2, hv, h⟩ := hq
  subst hv
  refine A_nx 1 (fr' := (129, 5, [some (.ref 50), some (.int r2), none], [])) (S' := S1) rfl ?_
  refine ri_A.less (m := 129) (pc := 5) (L := [some (.ref 50), some (.int r2), none]) (L' := [some (.ref 50), some (.int r2), none]) (st := []) ⟨rfl, ⟨rfl, trivial⟩⟩ ?_
  obtain ⟨nn, h⟩ := h
  exact wt129_l5 CB e0 he0 hCB  nn _ _ h
/-! X5_term4, depth (e0 + 1) -/
set_option maxRecDepth 10000 in
set_option maxHeartbeats 1000000 in
theorem wt131_l5 {E : ri_E} (CA : ri_H → (Int32 → ri_H → Prop) → Prop) (e0 : Nat) (he0 : 20 ≤ e0) (hCA : ∀ (S : ri_H) (Q : Int32 → ri_H → Prop), CA S Q → ri_A E e0 (ri_en 130 [.ref 50]) S (Qi Q)) {Q : Int32 → ri_H → Prop} : ∀ (n : Nat) (x1 : Int32) (S : ri_H), wterm_l5 CA  Q n x1 S → ri_A E (e0 + 1) (131, 5, [some (.ref 50), some (.int x1)], []) S (Qi Q) := by
  intro n
  induction n with
  | zero => intro x1 S h; exact h.elim
  | succ n ih =>
    intro x1 S h
    unfold wterm_l5 at h
    refine A_call (j := 121) (As := [.ref 50, .int (42 : Int32)]) (fr' := (131, 11, [some (.ref 50), some (.int x1)], [])) (S' := S) 3 rfl (e := 0) (by omega) (A_imp (wt121 (42 : Int32) h) (fun v S3 hq => ?_))
    obtain ⟨r4, hv, h⟩ := hq
    subst hv
    refine A_br (r4 = 0) (r1 := ((131, 28, [some (.ref 50), some (.int x1)], []), S3)) (r2 := ((131, 14, [some (.ref 50), some (.int x1)], []), S3)) 1 rfl (fun c => ?_) (fun c => ?_)
    · have h := h.1 c
      exact A_ret 2 (m := 131) (v := some (.int x1)) (S' := S3) rfl rfl ⟨_, rfl, h⟩
    · have h := h.2 c
      refine A_call (j := 117) (As := [.ref 50]) (fr' := (131, 18, [some (.ref 50), some (.int x1)], [])) (S' := S3) 2 rfl (e := 1) (by omega) (A_imp (wt117  h) (fun v S5 hq => ?_))
      obtain ⟨hv, h⟩ := hq
      subst hv
      refine A_call (j := 130) (As := [.ref 50]) (fr' := (131, 23, [some (.ref 50), some (.int x1)], [.int x1])) (S' := S5) 3 rfl (e := e0) (by omega) (A_imp (hCA _ _ h) (fun v S6 hq => ?_))
      obtain ⟨r7, hv, h⟩ := hq
      subst hv
      refine A_nx 3 (fr' := (131, 5, [some (.ref 50), some (.int (x1 * r7))], [])) (S' := S6) rfl ?_
      refine ri_A.less (m := 131) (pc := 5) (L := [some (.ref 50), some (.int (x1 * r7))]) (L' := [some (.ref 50), some (.int (x1 * r7))]) (st := []) ⟨rfl, ⟨rfl, trivial⟩⟩ ?_
      exact ih _ _ h
set_option maxRecDepth 10000 in
set_option maxHeartbeats 1000000 in
theorem wt131 {E : ri_E} (CA : ri_H → (Int32 → ri_H → Prop) → Prop) (e0 : Nat) (he0 : 20 ≤ e0) (hCA : ∀ (S : ri_H) (Q : Int32 → ri_H → Prop), CA S Q → ri_A E e0 (ri_en 130 [.ref 50]) S (Qi Q))  {S : ri_H} {Q : Int32 → ri_H → Prop} (h : wterm CA  S Q) : ri_A E (e0 + 1) (ri_en 131 [.ref 50]) S (Qi Q) := by
  unfold wterm at h
  show ri_A E (e0 + 1) (131, 0, [some (.ref 50), none], []) S (Qi Q)
  refine A_call (j := 130) (As := [.ref 50]) (fr' := (131, 4, [some (.ref 50), none], [])) (S' := S) 2 rfl (e := e0) (by omega) (A_imp (hCA _ _ h) (fun v S1 hq => ?_))
  obtain ⟨r2, hv, h⟩ := hq
  subst hv
  refine A_nx 1 (fr' := (131, 5, [some (.ref 50), some (.int r2)], [])) (S' := S1) rfl ?_
  refine ri_A.less (m := 131) (pc := 5) (L := [some (.ref 50), some (.int r2)]) (L' := [some (.ref 50), some (.int r2)]) (st := []) ⟨rfl, ⟨rfl, trivial⟩⟩ ?_
  obtain ⟨nn, h⟩ := h
  exact wt131_l5 CA e0 he0 hCA  nn _ _ h
/-! X5_added4, depth (e0 + 1) -/
set_option maxRecDepth 10000 in
set_option maxHeartbeats 1000000 in
theorem wt132_b62 {E : ri_E} (CT : ri_H → (Int32 → ri_H → Prop) → Prop) (e0 : Nat) (he0 : 20 ≤ e0) (hCT : ∀ (S : ri_H) (Q : Int32 → ri_H → Prop), CT S Q → ri_A E e0 (ri_en 131 [.ref 50]) S (Qi Q)) {K5 : Int32 → ri_H → Prop} {Q : Int32 → ri_H → Prop} (hK5 : ∀ (x1 : Int32) (S : ri_H), K5 x1 S → ri_A E (e0 + 1) (132, 5, [some (.ref 50), some (.int x1), none, none], []) S (Qi Q)) (s0 : Int32) (S : ri_H) (h : wadded_b62 CT K5 Q s0 S) : ri_A E (e0 + 1) (132, 62, [some (.ref 50), none, none, none], [.int s0]) S (Qi Q) := by
  unfold wadded_b62 at h
  refine A_nx 2 (fr' := (132, 5, [some (.ref 50), some (.int s0), none, none], [])) (S' := S) rfl ?_
  refine ri_A.less (m := 132) (pc := 5) (L := [some (.ref 50), some (.int s0), none, none]) (L' := [some (.ref 50), some (.int s0), none, none]) (st := []) ⟨rfl, ⟨rfl, trivial⟩⟩ ?_
  exact hK5 _ _ h
set_option maxRecDepth 10000 in
set_option maxHeartbeats 1000000 in
theorem wt132_b39 {E : ri_E} (CT : ri_H → (Int32 → ri_H → Prop) → Prop) (e0 : Nat) (he0 : 20 ≤ e0) (hCT : ∀ (S : ri_H) (Q : Int32 → ri_H → Prop), CT S Q → ri_A E e0 (ri_en 131 [.ref 50]) S (Qi Q)) {K5 : Int32 → ri_H → Prop} {Q : Int32 → ri_H → Prop} (hK5 : ∀ (x1 : Int32) (S : ri_H), K5 x1 S → ri_A E (e0 + 1) (132, 5, [some (.ref 50), some (.int x1), none, none], []) S (Qi Q)) (x1 : Int32) (s0 : Int32) (S : ri_H) (h : wadded_b39 CT K5 Q x1 s0 S) : ri_A E (e0 + 1) (132, 39, [some (.ref 50), some (.int x1), none, none], [.int s0]) S (Qi Q) := by
  unfold wadded_b39 at h
  refine A_call (j := 117) (As := [.ref 50]) (fr' := (132, 44, [some (.ref 50), some (.int x1), some (.int s0), none], [])) (S' := S) 3 rfl (e := 1) (by omega) (A_imp (wt117  h) (fun v S5 hq => ?_))
  obtain ⟨hv, h⟩ := hq
  subst hv
  refine A_call (j := 131) (As := [.ref 50]) (fr' := (132, 48, [some (.ref 50), some (.int x1), some (.int s0), none], [])) (S' := S5) 2 rfl (e := e0) (by omega) (A_imp (hCT _ _ h) (fun v S6 hq => ?_))
  obtain ⟨r7, hv, h⟩ := hq
  subst hv
  refine A_br (s0 = 0) (r1 := ((132, 59, [some (.ref 50), some (.int x1), some (.int s0), some (.int r7)], []), S6)) (r2 := ((132, 53, [some (.ref 50), some (.int x1), some (.int s0), some (.int r7)], []), S6)) 3 rfl (fun c => ?_) (fun c => ?_)
  · have h := h.1 c
    refine A_nx 3 (fr' := (132, 62, [some (.ref 50), some (.int x1), some (.int s0), some (.int r7)], [.int (x1 - r7)])) (S' := S6) rfl ?_
    refine ri_A.less (m := 132) (pc := 62) (L := [some (.ref 50), some (.int x1), some (.int s0), some (.int r7)]) (L' := [some (.ref 50), none, none, none]) (st := [.int (x1 - r7)]) ⟨rfl, trivial⟩ ?_
    exact wt132_b62 CT e0 he0 hCT hK5 _ _ h
  · have h := h.2 c
    refine A_nx 4 (fr' := (132, 62, [some (.ref 50), some (.int x1), some (.int s0), some (.int r7)], [.int (x1 + r7)])) (S' := S6) rfl ?_
    refine ri_A.less (m := 132) (pc := 62) (L := [some (.ref 50), some (.int x1), some (.int s0), some (.int r7)]) (L' := [some (.ref 50), none, none, none]) (st := [.int (x1 + r7)]) ⟨rfl, trivial⟩ ?_
    exact wt132_b62 CT e0 he0 hCT hK5 _ _ h
set_option maxRecDepth 10000 in
set_option maxHeartbeats 1000000 in
theorem wt132_b23 {E : ri_E} (CT : ri_H → (Int32 → ri_H → Prop) → Prop) (e0 : Nat) (he0 : 20 ≤ e0) (hCT : ∀ (S : ri_H) (Q : Int32 → ri_H → Prop), CT S Q → ri_A E e0 (ri_en 131 [.ref 50]) S (Qi Q)) {K5 : Int32 → ri_H → Prop} {Q : Int32 → ri_H → Prop} (hK5 : ∀ (x1 : Int32) (S : ri_H), K5 x1 S → ri_A E (e0 + 1) (132, 5, [some (.ref 50), some (.int x1), none, none], []) S (Qi Q)) (x1 : Int32) (S : ri_H) (h : wadded_b23 CT K5 Q x1 S) : ri_A E (e0 + 1) (132, 23, [some (.ref 50), some (.int x1), none, none], []) S (Qi Q) := by
  unfold wadded_b23 at h
  refine A_br (¬ (lg_cmp (S.2 50 23) (43 : Int64)) = 0) (r1 := ((132, 38, [some (.ref 50), some (.int x1), none, none], []), S)) (r2 := ((132, 34, [some (.ref 50), some (.int x1), none, none], []), S)) 5 rfl (fun c => ?_) (fun c => ?_)
  · have h := h.1 c
    refine A_nx 1 (fr' := (132, 39, [some (.ref 50), some (.int x1), none, none], [.int (0 : Int32)])) (S' := S) rfl ?_
    refine ri_A.less (m := 132) (pc := 39) (L := [some (.ref 50), some (.int x1), none, none]) (L' := [some (.ref 50), some (.int x1), none, none]) (st := [.int (0 : Int32)]) ⟨rfl, ⟨rfl, trivial⟩⟩ ?_
    exact wt132_b39 CT e0 he0 hCT hK5 _ _ _ h
  · have h := h.2 c
    refine A_nx 2 (fr' := (132, 39, [some (.ref 50), some (.int x1), none, none], [.int (1 : Int32)])) (S' := S) rfl ?_
    refine ri_A.less (m := 132) (pc := 39) (L := [some (.ref 50), some (.int x1), none, none]) (L' := [some (.ref 50), some (.int x1), none, none]) (st := [.int (1 : Int32)]) ⟨rfl, ⟨rfl, trivial⟩⟩ ?_
    exact wt132_b39 CT e0 he0 hCT hK5 _ _ _ h
set_option maxRecDepth 10000 in
set_option maxHeartbeats 1000000 in
theorem wt132_l5 {E : ri_E} (CT : ri_H → (Int32 → ri_H → Prop) → Prop) (e0 : Nat) (he0 : 20 ≤ e0) (hCT : ∀ (S : ri_H) (Q : Int32 → ri_H → Prop), CT S Q → ri_A E e0 (ri_en 131 [.ref 50]) S (Qi Q)) {Q : Int32 → ri_H → Prop} : ∀ (n : Nat) (x1 : Int32) (S : ri_H), wadded_l5 CT  Q n x1 S → ri_A E (e0 + 1) (132, 5, [some (.ref 50), some (.int x1), none, none], []) S (Qi Q) := by
  intro n
  induction n with
  | zero => intro x1 S h; exact h.elim
  | succ n ih =>
    intro x1 S h
    unfold wadded_l5 at h
    refine A_call (j := 121) (As := [.ref 50, .int (43 : Int32)]) (fr' := (132, 11, [some (.ref 50), some (.int x1), none, none], [])) (S' := S) 3 rfl (e := 0) (by omega) (A_imp (wt121 (43 : Int32) h) (fun v S3 hq => ?_))
    obtain ⟨r4, hv, h⟩ := hq
    subst hv
    refine A_br (¬ r4 = 0) (r1 := ((132, 23, [some (.ref 50), some (.int x1), none, none], []), S3)) (r2 := ((132, 14, [some (.ref 50), some (.int x1), none, none], []), S3)) 1 rfl (fun c => ?_) (fun c => ?_)
    · have h := h.1 c
      refine ri_A.less (m := 132) (pc := 23) (L := [some (.ref 50), some (.int x1), none, none]) (L' := [some (.ref 50), some (.int x1), none, none]) (st := []) ⟨rfl, ⟨rfl, trivial⟩⟩ ?_
      exact wt132_b23 CT e0 he0 hCT (fun x1 S hk => ih x1 S hk) _ _ h
    · have h := h.2 c
      refine A_call (j := 121) (As := [.ref 50, .int (45 : Int32)]) (fr' := (132, 20, [some (.ref 50), some (.int x1), none, none], [])) (S' := S3) 3 rfl (e := 0) (by omega) (A_imp (wt121 (45 : Int32) h) (fun v S8 hq => ?_))
      obtain ⟨r9, hv, h⟩ := hq
      subst hv
      refine A_br (r9 = 0) (r1 := ((132, 66, [some (.ref 50), some (.int x1), none, none], []), S8)) (r2 := ((132, 23, [some (.ref 50), some (.int x1), none, none], []), S8)) 1 rfl (fun c => ?_) (fun c => ?_)
      · have h := h.1 c
        exact A_ret 2 (m := 132) (v := some (.int x1)) (S' := S8) rfl rfl ⟨_, rfl, h⟩
      · have h := h.2 c
        refine ri_A.less (m := 132) (pc := 23) (L := [some (.ref 50), some (.int x1), none, none]) (L' := [some (.ref 50), some (.int x1), none, none]) (st := []) ⟨rfl, ⟨rfl, trivial⟩⟩ ?_
        exact wt132_b23 CT e0 he0 hCT (fun x1 S hk => ih x1 S hk) _ _ h
set_option maxRecDepth 10000 in
set_option maxHeartbeats 1000000 in
theorem wt132 {E : ri_E} (CT : ri_H → (Int32 → ri_H → Prop) → Prop) (e0 : Nat) (he0 : 20 ≤ e0) (hCT : ∀ (S : ri_H) (Q : Int32 → ri_H → Prop), CT S Q → ri_A E e0 (ri_en 131 [.ref 50]) S (Qi Q))  {S : ri_H} {Q : Int32 → ri_H → Prop} (h : wadded CT  S Q) : ri_A E (e0 + 1) (ri_en 132 [.ref 50]) S (Qi Q) := by
  unfold wadded at h
  show ri_A E (e0 + 1) (132, 0, [some (.ref 50), none, none, none], []) S (Qi Q)
  refine A_call (j := 131) (As := [.ref 50]) (fr' := (132, 4, [some (.ref 50), none, none, none], [])) (S' := S) 2 rfl (e := e0) (by omega) (A_imp (hCT _ _ h) (fun v S1 hq => ?_))
  obtain ⟨r2, hv, h⟩ := hq
  subst hv
  refine A_nx 1 (fr' := (132, 5, [some (.ref 50), some (.int r2), none, none], [])) (S' := S1) rfl ?_
  refine ri_A.less (m := 132) (pc := 5) (L := [some (.ref 50), some (.int r2), none, none]) (L' := [some (.ref 50), some (.int r2), none, none]) (st := []) ⟨rfl, ⟨rfl, trivial⟩⟩ ?_
  obtain ⟨nn, h⟩ := h
  exact wt132_l5 CT e0 he0 hCT  nn _ _ h
/-! X5_both4, depth (e0 + 1) -/
set_option maxRecDepth 10000 in
set_option maxHeartbeats 1000000 in
theorem wt134_b45 {E : ri_E} (CN : ri_H → (Int32 → ri_H → Prop) → Prop) (e0 : Nat) (he0 : 20 ≤ e0) (hCN : ∀ (S : ri_H) (Q : Int32 → ri_H → Prop), CN S Q → ri_A E e0 (ri_en 133 [.ref 50]) S (Qi Q)) {K5 : Int32 → ri_H → Prop} {Q : Int32 → ri_H → Prop} (hK5 : ∀ (x1 : Int32) (S : ri_H), K5 x1 S → ri_A E (e0 + 1) (134, 5, [some (.ref 50), some (.int x1), none], []) S (Qi Q)) (s0 : Int32) (S : ri_H) (h : wboth_b45 CN K5 Q s0 S) : ri_A E (e0 + 1) (134, 45, [some (.ref 50), none, none], [.int s0]) S (Qi Q) := by
  unfold wboth_b45 at h
  refine A_nx 2 (fr' := (134, 5, [some (.ref 50), some (.int s0), none], [])) (S' := S) rfl ?_
  refine ri_A.less (m := 134) (pc := 5) (L := [some (.ref 50), some (.int s0), none]) (L' := [some (.ref 50), some (.int s0), none]) (st := []) ⟨rfl, ⟨rfl, trivial⟩⟩ ?_
  exact hK5 _ _ h
set_option maxRecDepth 10000 in
set_option maxHeartbeats 1000000 in
theorem wt134_b44 {E : ri_E} (CN : ri_H → (Int32 → ri_H → Prop) → Prop) (e0 : Nat) (he0 : 20 ≤ e0) (hCN : ∀ (S : ri_H) (Q : Int32 → ri_H → Prop), CN S Q → ri_A E e0 (ri_en 133 [.ref 50]) S (Qi Q)) {K5 : Int32 → ri_H → Prop} {Q : Int32 → ri_H → Prop} (hK5 : ∀ (x1 : Int32) (S : ri_H), K5 x1 S → ri_A E (e0 + 1) (134, 5, [some (.ref 50), some (.int x1), none], []) S (Qi Q))  (S : ri_H) (h : wboth_b44 CN K5 Q  S) : ri_A E (e0 + 1) (134, 44, [some (.ref 50), none, none], []) S (Qi Q) := by
  unfold wboth_b44 at h
  refine A_nx 1 (fr' := (134, 45, [some (.ref 50), none, none], [.int (0 : Int32)])) (S' := S) rfl ?_
  refine ri_A.less (m := 134) (pc := 45) (L := [some (.ref 50), none, none]) (L' := [some (.ref 50), none, none]) (st := [.int (0 : Int32)]) ⟨rfl, trivial⟩ ?_
  exact wt134_b45 CN e0 he0 hCN hK5 _ _ h
set_option maxRecDepth 10000 in
set_option maxHeartbeats 1000000 in
theorem wt134_l5 {E : ri_E} (CN : ri_H → (Int32 → ri_H → Prop) → Prop) (e0 : Nat) (he0 : 20 ≤ e0) (hCN : ∀ (S : ri_H) (Q : Int32 → ri_H → Prop), CN S Q → ri_A E e0 (ri_en 133 [.ref 50]) S (Qi Q)) {Q : Int32 → ri_H → Prop} : ∀ (n : Nat) (x1 : Int32) (S : ri_H), wboth_l5 CN  Q n x1 S → ri_A E (e0 + 1) (134, 5, [some (.ref 50), some (.int x1), none], []) S (Qi Q) := by
  intro n
  induction n with
  | zero => intro x1 S h; exact h.elim
  | succ n ih =>
    intro x1 S h
    unfold wboth_l5 at h
    refine A_call (j := 120) (As := [.ref 50, .int (97 : Int32), .int (110 : Int32), .int (100 : Int32), .int (0 : Int32), .int (0 : Int32), .int (0 : Int32), .int (0 : Int32), .int (0 : Int32)]) (fr' := (134, 20, [some (.ref 50), some (.int x1), none], [])) (S' := S) 10 rfl (e := 2) (by omega) (A_imp (wt120 (97 : Int32) (110 : Int32) (100 : Int32) (0 : Int32) (0 : Int32) (0 : Int32) (0 : Int32) (0 : Int32) h) (fun v S3 hq => ?_))
    obtain ⟨r4, hv, h⟩ := hq
    subst hv
    refine A_br (r4 = 0) (r1 := ((134, 49, [some (.ref 50), some (.int x1), none], []), S3)) (r2 := ((134, 23, [some (.ref 50), some (.int x1), none], []), S3)) 1 rfl (fun c => ?_) (fun c => ?_)
    · have h := h.1 c
      exact A_ret 2 (m := 134) (v := some (.int x1)) (S' := S3) rfl rfl ⟨_, rfl, h⟩
    · have h := h.2 c
      refine A_call (j := 117) (As := [.ref 50]) (fr' := (134, 27, [some (.ref 50), some (.int x1), none], [])) (S' := S3) 2 rfl (e := 1) (by omega) (A_imp (wt117  h) (fun v S5 hq => ?_))
      obtain ⟨hv, h⟩ := hq
      subst hv
      refine A_call (j := 133) (As := [.ref 50]) (fr' := (134, 31, [some (.ref 50), some (.int x1), none], [])) (S' := S5) 2 rfl (e := e0) (by omega) (A_imp (hCN _ _ h) (fun v S6 hq => ?_))
      obtain ⟨r7, hv, h⟩ := hq
      subst hv
      refine A_br (x1 = 0) (r1 := ((134, 44, [some (.ref 50), some (.int x1), some (.int r7)], []), S6)) (r2 := ((134, 36, [some (.ref 50), some (.int x1), some (.int r7)], []), S6)) 3 rfl (fun c => ?_) (fun c => ?_)
      · have h := h.1 c
        refine ri_A.less (m := 134) (pc := 44) (L := [some (.ref 50), some (.int x1), some (.int r7)]) (L' := [some (.ref 50), none, none]) (st := []) ⟨rfl, trivial⟩ ?_
        exact wt134_b44 CN e0 he0 hCN (fun x1 S hk => ih x1 S hk) _ h
      · have h := h.2 c
        refine A_br (r7 = 0) (r1 := ((134, 44, [some (.ref 50), some (.int x1), some (.int r7)], []), S6)) (r2 := ((134, 40, [some (.ref 50), some (.int x1), some (.int r7)], []), S6)) 2 rfl (fun c => ?_) (fun c => ?_)
        · have h := h.1 c
          refine ri_A.less (m := 134) (pc := 44) (L := [some (.ref 50), some (.int x1), some (.int r7)]) (L' := [some (.ref 50), none, none]) (st := []) ⟨rfl, trivial⟩ ?_
          exact wt134_b44 CN e0 he0 hCN (fun x1 S hk => ih x1 S hk) _ h
        · have h := h.2 c
          refine A_nx 2 (fr' := (134, 45, [some (.ref 50), some (.int x1), some (.int r7)], [.int (1 : Int32)])) (S' := S6) rfl ?_
          refine ri_A.less (m := 134) (pc := 45) (L := [some (.ref 50), some (.int x1), some (.int r7)]) (L' := [some (.ref 50), none, none]) (st := [.int (1 : Int32)]) ⟨rfl, trivial⟩ ?_
          exact wt134_b45 CN e0 he0 hCN (fun x1 S hk => ih x1 S hk) _ _ h
set_option maxRecDepth 10000 in
set_option maxHeartbeats 1000000 in
theorem wt134 {E : ri_E} (CN : ri_H → (Int32 → ri_H → Prop) → Prop) (e0 : Nat) (he0 : 20 ≤ e0) (hCN : ∀ (S : ri_H) (Q : Int32 → ri_H → Prop), CN S Q → ri_A E e0 (ri_en 133 [.ref 50]) S (Qi Q))  {S : ri_H} {Q : Int32 → ri_H → Prop} (h : wboth CN  S Q) : ri_A E (e0 + 1) (ri_en 134 [.ref 50]) S (Qi Q) := by
  unfold wboth at h
  show ri_A E (e0 + 1) (134, 0, [some (.ref 50), none, none], []) S (Qi Q)
  refine A_call (j := 133) (As := [.ref 50]) (fr' := (134, 4, [some (.ref 50), none, none], [])) (S' := S) 2 rfl (e := e0) (by omega) (A_imp (hCN _ _ h) (fun v S1 hq => ?_))
  obtain ⟨r2, hv, h⟩ := hq
  subst hv
  refine A_nx 1 (fr' := (134, 5, [some (.ref 50), some (.int r2), none], [])) (S' := S1) rfl ?_
  refine ri_A.less (m := 134) (pc := 5) (L := [some (.ref 50), some (.int r2), none]) (L' := [some (.ref 50), some (.int r2), none]) (st := []) ⟨rfl, ⟨rfl, trivial⟩⟩ ?_
  obtain ⟨nn, h⟩ := h
  exact wt134_l5 CN e0 he0 hCN  nn _ _ h
/-! X5_either4, depth (e0 + 1) -/
set_option maxRecDepth 10000 in
set_option maxHeartbeats 1000000 in
theorem wt135_b44 {E : ri_E} (CB : ri_H → (Int32 → ri_H → Prop) → Prop) (e0 : Nat) (he0 : 20 ≤ e0) (hCB : ∀ (S : ri_H) (Q : Int32 → ri_H → Prop), CB S Q → ri_A E e0 (ri_en 134 [.ref 50]) S (Qi Q)) {K5 : Int32 → ri_H → Prop} {Q : Int32 → ri_H → Prop} (hK5 : ∀ (x1 : Int32) (S : ri_H), K5 x1 S → ri_A E (e0 + 1) (135, 5, [some (.ref 50), some (.int x1), none], []) S (Qi Q)) (s0 : Int32) (S : ri_H) (h : weither_b44 CB K5 Q s0 S) : ri_A E (e0 + 1) (135, 44, [some (.ref 50), none, none], [.int s0]) S (Qi Q) := by
  unfold weither_b44 at h
  refine A_nx 2 (fr' := (135, 5, [some (.ref 50), some (.int s0), none], [])) (S' := S) rfl ?_
  refine ri_A.less (m := 135) (pc := 5) (L := [some (.ref 50), some (.int s0), none]) (L' := [some (.ref 50), some (.int s0), none]) (st := []) ⟨rfl, ⟨rfl, trivial⟩⟩ ?_
  exact hK5 _ _ h
set_option maxRecDepth 10000 in
set_option maxHeartbeats 1000000 in
theorem wt135_b39 {E : ri_E} (CB : ri_H → (Int32 → ri_H → Prop) → Prop) (e0 : Nat) (he0 : 20 ≤ e0) (hCB : ∀ (S : ri_H) (Q : Int32 → ri_H → Prop), CB S Q → ri_A E e0 (ri_en 134 [.ref 50]) S (Qi Q)) {K5 : Int32 → ri_H → Prop} {Q : Int32 → ri_H → Prop} (hK5 : ∀ (x1 : Int32) (S : ri_H), K5 x1 S → ri_A E (e0 + 1) (135, 5, [some (.ref 50), some (.int x1), none], []) S (Qi Q))  (S : ri_H) (h : weither_b39 CB K5 Q  S) : ri_A E (e0 + 1) (135, 39, [some (.ref 50), none, none], []) S (Qi Q) := by
  unfold weither_b39 at h
  refine A_nx 2 (fr' := (135, 44, [some (.ref 50), none, none], [.int (1 : Int32)])) (S' := S) rfl ?_
  refine ri_A.less (m := 135) (pc := 44) (L := [some (.ref 50), none, none]) (L' := [some (.ref 50), none, none]) (st := [.int (1 : Int32)]) ⟨rfl, trivial⟩ ?_
  exact wt135_b44 CB e0 he0 hCB hK5 _ _ h
set_option maxRecDepth 10000 in
set_option maxHeartbeats 1000000 in
theorem wt135_l5 {E : ri_E} (CB : ri_H → (Int32 → ri_H → Prop) → Prop) (e0 : Nat) (he0 : 20 ≤ e0) (hCB : ∀ (S : ri_H) (Q : Int32 → ri_H → Prop), CB S Q → ri_A E e0 (ri_en 134 [.ref 50]) S (Qi Q)) {Q : Int32 → ri_H → Prop} : ∀ (n : Nat) (x1 : Int32) (S : ri_H), weither_l5 CB  Q n x1 S → ri_A E (e0 + 1) (135, 5, [some (.ref 50), some (.int x1), none], []) S (Qi Q) := by
  intro n
  induction n with
  | zero => intro x1 S h; exact h.elim
  | succ n ih =>
    intro x1 S h
    unfold weither_l5 at h
    refine A_call (j := 120) (As := [.ref 50, .int (111 : Int32), .int (114 : Int32), .int (0 : Int32), .int (0 : Int32), .int (0 : Int32), .int (0 : Int32), .int (0 : Int32), .int (0 : Int32)]) (fr' := (135, 19, [some (.ref 50), some (.int x1), none], [])) (S' := S) 10 rfl (e := 2) (by omega) (A_imp (wt120 (111 : Int32) (114 : Int32) (0 : Int32) (0 : Int32) (0 : Int32) (0 : Int32) (0 : Int32) (0 : Int32) h) (fun v S3 hq => ?_))
    obtain ⟨r4, hv, h⟩ := hq
    subst hv
    refine A_br (r4 = 0) (r1 := ((135, 48, [some (.ref 50), some (.int x1), none], []), S3)) (r2 := ((135, 22, [some (.ref 50), some (.int x1), none], []), S3)) 1 rfl (fun c => ?_) (fun c => ?_)
    · have h := h.1 c
      exact A_ret 2 (m := 135) (v := some (.int x1)) (S' := S3) rfl rfl ⟨_, rfl, h⟩
    · have h := h.2 c
      refine A_call (j := 117) (As := [.ref 50]) (fr' := (135, 26, [some (.ref 50), some (.int x1), none], [])) (S' := S3) 2 rfl (e := 1) (by omega) (A_imp (wt117  h) (fun v S5 hq => ?_))
      obtain ⟨hv, h⟩ := hq
      subst hv
      refine A_call (j := 134) (As := [.ref 50]) (fr' := (135, 30, [some (.ref 50), some (.int x1), none], [])) (S' := S5) 2 rfl (e := e0) (by omega) (A_imp (hCB _ _ h) (fun v S6 hq => ?_))
      obtain ⟨r7, hv, h⟩ := hq
      subst hv
      refine A_br (¬ x1 = 0) (r1 := ((135, 39, [some (.ref 50), some (.int x1), some (.int r7)], []), S6)) (r2 := ((135, 35, [some (.ref 50), some (.int x1), some (.int r7)], []), S6)) 3 rfl (fun c => ?_) (fun c => ?_)
      · have h := h.1 c
        refine ri_A.less (m := 135) (pc := 39) (L := [some (.ref 50), some (.int x1), some (.int r7)]) (L' := [some (.ref 50), none, none]) (st := []) ⟨rfl, trivial⟩ ?_
        exact wt135_b39 CB e0 he0 hCB (fun x1 S hk => ih x1 S hk) _ h
      · have h := h.2 c
        refine A_br (r7 = 0) (r1 := ((135, 43, [some (.ref 50), some (.int x1), some (.int r7)], []), S6)) (r2 := ((135, 39, [some (.ref 50), some (.int x1), some (.int r7)], []), S6)) 2 rfl (fun c => ?_) (fun c => ?_)
        · have h := h.1 c
          refine A_nx 1 (fr' := (135, 44, [some (.ref 50), some (.int x1), some (.int r7)], [.int (0 : Int32)])) (S' := S6) rfl ?_
          refine ri_A.less (m := 135) (pc := 44) (L := [some (.ref 50), some (.int x1), some (.int r7)]) (L' := [some (.ref 50), none, none]) (st := [.int (0 : Int32)]) ⟨rfl, trivial⟩ ?_
          exact wt135_b44 CB e0 he0 hCB (fun x1 S hk => ih x1 S hk) _ _ h
        · have h := h.2 c
          refine ri_A.less (m := 135) (pc := 39) (L := [some (.ref 50), some (.int x1), some (.int r7)]) (L' := [some (.ref 50), none, none]) (st := []) ⟨rfl, trivial⟩ ?_
          exact wt135_b39 CB e0 he0 hCB (fun x1 S hk => ih x1 S hk) _ h
set_option maxRecDepth 10000 in
set_option maxHeartbeats 1000000 in
theorem wt135 {E : ri_E} (CB : ri_H → (Int32 → ri_H → Prop) → Prop) (e0 : Nat) (he0 : 20 ≤ e0) (hCB : ∀ (S : ri_H) (Q : Int32 → ri_H → Prop), CB S Q → ri_A E e0 (ri_en 134 [.ref 50]) S (Qi Q))  {S : ri_H} {Q : Int32 → ri_H → Prop} (h : weither CB  S Q) : ri_A E (e0 + 1) (ri_en 135 [.ref 50]) S (Qi Q) := by
  unfold weither at h
  show ri_A E (e0 + 1) (135, 0, [some (.ref 50), none, none], []) S (Qi Q)
  refine A_call (j := 134) (As := [.ref 50]) (fr' := (135, 4, [some (.ref 50), none, none], [])) (S' := S) 2 rfl (e := e0) (by omega) (A_imp (hCB _ _ h) (fun v S1 hq => ?_))
  obtain ⟨r2, hv, h⟩ := hq
  subst hv
  refine A_nx 1 (fr' := (135, 5, [some (.ref 50), some (.int r2), none], [])) (S' := S1) rfl ?_
  refine ri_A.less (m := 135) (pc := 5) (L := [some (.ref 50), some (.int r2), none]) (L' := [some (.ref 50), some (.int r2), none]) (st := []) ⟨rfl, ⟨rfl, trivial⟩⟩ ?_
  obtain ⟨nn, h⟩ := h
  exact wt135_l5 CB e0 he0 hCB  nn _ _ h
/-! X5_atom4, depth (e0 + 1) -/
def watom_b157 (CA : ri_H → (Int32 → ri_H → Prop) → Prop) (CE : ri_H → (Int32 → ri_H → Prop) → Prop) (Q : Int32 → ri_H → Prop) (x1 : Int32) (S : ri_H) : Prop := w118  S (fun (S5 : ri_H) => Q x1 S5)
set_option maxRecDepth 10000 in
set_option maxHeartbeats 1000000 in
theorem wt130_b157 {E : ri_E} (CA : ri_H → (Int32 → ri_H → Prop) → Prop) (CE : ri_H → (Int32 → ri_H → Prop) → Prop) (e0 : Nat) (he0 : 20 ≤ e0) (hCA : ∀ (S : ri_H) (Q : Int32 → ri_H → Prop), CA S Q → ri_A E e0 (ri_en 124 [.ref 50]) S (Qi Q)) (hCE : ∀ (S : ri_H) (Q : Int32 → ri_H → Prop), CE S Q → ri_A E e0 (ri_en 129 [.ref 50]) S (Qi Q)) {Q : Int32 → ri_H → Prop} (x1 : Int32) (S : ri_H) (h : watom_b157 CA CE  Q x1 S) : ri_A E (e0 + 1) (130, 157, [some (.ref 50), some (.int x1)], []) S (Qi Q) := by
  unfold watom_b157 at h
  refine A_call (j := 118) (As := [.ref 50]) (fr' := (130, 161, [some (.ref 50), some (.int x1)], [])) (S' := S) 2 rfl (e := 0) (by omega) (A_imp (wt118  h) (fun v S5 hq => ?_))
  obtain ⟨hv, h⟩ := hq
  subst hv
  exact A_ret 2 (m := 130) (v := some (.int x1)) (S' := S5) rfl rfl ⟨_, rfl, h⟩
def watom_b123 (CA : ri_H → (Int32 → ri_H → Prop) → Prop) (CE : ri_H → (Int32 → ri_H → Prop) → Prop) (Q : Int32 → ri_H → Prop) (x1 : Int32) (S : ri_H) : Prop := ((¬ (S.1 50 25) = 0 → watom_b157 CA CE  Q x1 S) ∧ (¬ (¬ (S.1 50 25) = 0) → ((¬ (S.1 50 21) = (1 : Int32) → watom_b157 CA CE  Q x1 S) ∧ (¬ (¬ (S.1 50 21) = (1 : Int32)) → w123  S (fun (r7 : Int32) (S6 : ri_H) => ((¬ (S6.1 50 25) = 0 → Q r7 S6) ∧ (¬ (¬ (S6.1 50 25) = 0) → w117  S6 (fun (S8 : ri_H) => Q r7 S8))))))))
set_option maxRecDepth 10000 in
set_option maxHeartbeats 1000000 in
theorem wt130_b123 {E : ri_E} (CA : ri_H → (Int32 → ri_H → Prop) → Prop) (CE : ri_H → (Int32 → ri_H → Prop) → Prop) (e0 : Nat) (he0 : 20 ≤ e0) (hCA : ∀ (S : ri_H) (Q : Int32 → ri_H → Prop), CA S Q → ri_A E e0 (ri_en 124 [.ref 50]) S (Qi Q)) (hCE : ∀ (S : ri_H) (Q : Int32 → ri_H → Prop), CE S Q → ri_A E e0 (ri_en 129 [.ref 50]) S (Qi Q)) {Q : Int32 → ri_H → Prop} (x1 : Int32) (S : ri_H) (h : watom_b123 CA CE  Q x1 S) : ri_A E (e0 + 1) (130, 123, [some (.ref 50), some (.int x1)], []) S (Qi Q) := by
  unfold watom_b123 at h
  refine A_br (¬ (S.1 50 25) = 0) (r1 := ((130, 157, [some (.ref 50), some (.int x1)], []), S)) (r2 := ((130, 130, [some (.ref 50), some (.int x1)], []), S)) 3 rfl (fun c => ?_) (fun c => ?_)
  · have h := h.1 c
    refine ri_A.less (m := 130) (pc := 157) (L := [some (.ref 50), some (.int x1)]) (L' := [some (.ref 50), some (.int x1)]) (st := []) ⟨rfl, ⟨rfl, trivial⟩⟩ ?_
    exact wt130_b157 CA CE e0 he0 hCA hCE  _ _ h
  · have h := h.2 c
    refine A_br (¬ (S.1 50 21) = (1 : Int32)) (r1 := ((130, 157, [some (.ref 50), some (.int x1)], []), S)) (r2 := ((130, 138, [some (.ref 50), some (.int x1)], []), S)) 4 rfl (fun c => ?_) (fun c => ?_)
    · have h := h.1 c
      refine ri_A.less (m := 130) (pc := 157) (L := [some (.ref 50), some (.int x1)]) (L' := [some (.ref 50), some (.int x1)]) (st := []) ⟨rfl, ⟨rfl, trivial⟩⟩ ?_
      exact wt130_b157 CA CE e0 he0 hCA hCE  _ _ h
    · have h := h.2 c
      refine A_call (j := 123) (As := [.ref 50]) (fr' := (130, 142, [some (.ref 50), some (.int x1)], [])) (S' := S) 2 rfl (e := 3) (by omega) (A_imp (wt123  h) (fun v S6 hq => ?_))
      obtain ⟨r7, hv, h⟩ := hq
      subst hv
      refine A_br (¬ (S6.1 50 25) = 0) (r1 := ((130, 161, [some (.ref 50), some (.int r7)], []), S6)) (r2 := ((130, 150, [some (.ref 50), some (.int r7)], []), S6)) 4 rfl (fun c => ?_) (fun c => ?_)
      · have h := h.1 c
        exact A_ret 2 (m := 130) (v := some (.int r7)) (S' := S6) rfl rfl ⟨_, rfl, h⟩
      · have h := h.2 c
        refine A_call (j := 117) (As := [.ref 50]) (fr' := (130, 154, [some (.ref 50), some (.int r7)], [])) (S' := S6) 2 rfl (e := 1) (by omega) (A_imp (wt117  h) (fun v S8 hq => ?_))
        obtain ⟨hv, h⟩ := hq
        subst hv
        exact A_ret 3 (m := 130) (v := some (.int r7)) (S' := S8) rfl rfl ⟨_, rfl, h⟩
def watom_b71 (CA : ri_H → (Int32 → ri_H → Prop) → Prop) (CE : ri_H → (Int32 → ri_H → Prop) → Prop) (Q : Int32 → ri_H → Prop) (x1 : Int32) (S : ri_H) : Prop := ((¬ (S.1 50 25) = 0 → Q x1 (ri_wi S 50 24 ((S.1 50 24) - (1 : Int32)))) ∧ (¬ (¬ (S.1 50 25) = 0) → w117  (ri_wi S 50 24 ((S.1 50 24) - (1 : Int32))) (fun (S16 : ri_H) => Q x1 S16)))
set_option maxRecDepth 10000 in
set_option maxHeartbeats 1000000 in
theorem wt130_b71 {E : ri_E} (CA : ri_H → (Int32 → ri_H → Prop) → Prop) (CE : ri_H → (Int32 → ri_H → Prop) → Prop) (e0 : Nat) (he0 : 20 ≤ e0) (hCA : ∀ (S : ri_H) (Q : Int32 → ri_H → Prop), CA S Q → ri_A E e0 (ri_en 124 [.ref 50]) S (Qi Q)) (hCE : ∀ (S : ri_H) (Q : Int32 → ri_H → Prop), CE S Q → ri_A E e0 (ri_en 129 [.ref 50]) S (Qi Q)) {Q : Int32 → ri_H → Prop} (x1 : Int32) (S : ri_H) (h : watom_b71 CA CE  Q x1 S) : ri_A E (e0 + 1) (130, 71, [some (.ref 50), some (.int x1)], []) S (Qi Q) := by
  unfold watom_b71 at h
  refine A_br (¬ (S.1 50 25) = 0) (r1 := ((130, 161, [some (.ref 50), some (.int x1)], []), (ri_wi S 50 24 ((S.1 50 24) - (1 : Int32))))) (r2 := ((130, 88, [some (.ref 50), some (.int x1)], []), (ri_wi S 50 24 ((S.1 50 24) - (1 : Int32))))) 9 rfl (fun c => ?_) (fun c => ?_)
  · have h := h.1 c
    exact A_ret 2 (m := 130) (v := some (.int x1)) (S' := (ri_wi S 50 24 ((S.1 50 24) - (1 : Int32)))) rfl rfl ⟨_, rfl, h⟩
  · have h := h.2 c
    refine A_call (j := 117) (As := [.ref 50]) (fr' := (130, 92, [some (.ref 50), some (.int x1)], [])) (S' := (ri_wi S 50 24 ((S.1 50 24) - (1 : Int32)))) 2 rfl (e := 1) (by omega) (A_imp (wt117  h) (fun v S16 hq => ?_))
    obtain ⟨hv, h⟩ := hq
    subst hv
    exact A_ret 3 (m := 130) (v := some (.int x1)) (S' := S16) rfl rfl ⟨_, rfl, h⟩
def watom (CA : ri_H → (Int32 → ri_H → Prop) → Prop) (CE : ri_H → (Int32 → ri_H → Prop) → Prop)  (S : ri_H) (Q : Int32 → ri_H → Prop) : Prop := w121 (45 : Int32) S (fun (r2 : Int32) (S1 : ri_H) => ((r2 = 0 → w121 (40 : Int32) S1 (fun (r4 : Int32) (S3 : ri_H) => ((r4 = 0 → ((¬ (S3.1 50 25) = 0 → watom_b123 CA CE  Q (0 : Int32) S3) ∧ (¬ (¬ (S3.1 50 25) = 0) → ((¬ (S3.1 50 21) = (2 : Int32) → watom_b123 CA CE  Q (0 : Int32) S3) ∧ (¬ (¬ (S3.1 50 21) = (2 : Int32)) → w117  S3 (fun (S9 : ri_H) => Q ((S3.2 50 23)).toInt32 S9)))))) ∧ (¬ (r4 = 0) → w122  S3 (fun (r11 : Int32) (S10 : ri_H) => ((r11 = 0 → Q (0 : Int32) S10) ∧ (¬ (r11 = 0) → CE S10 (fun (r13 : Int32) (S12 : ri_H) => w121 (41 : Int32) S12 (fun (r15 : Int32) (S14 : ri_H) => ((¬ r15 = 0 → watom_b71 CA CE  Q r13 S14) ∧ (¬ (¬ r15 = 0) → w118  S14 (fun (S17 : ri_H) => watom_b71 CA CE  Q r13 S17)))))))))))) ∧ (¬ (r2 = 0) → w122  S1 (fun (r19 : Int32) (S18 : ri_H) => ((r19 = 0 → Q (0 : Int32) S18) ∧ (¬ (r19 = 0) → CA S18 (fun (r21 : Int32) (S20 : ri_H) => Q (-r21) (ri_wi S20 50 24 ((S20.1 50 24) - (1 : Int32))))))))))
set_option maxRecDepth 10000 in
set_option maxHeartbeats 1000000 in
theorem wt130 {E : ri_E} (CA : ri_H → (Int32 → ri_H → Prop) → Prop) (CE : ri_H → (Int32 → ri_H → Prop) → Prop) (e0 : Nat) (he0 : 20 ≤ e0) (hCA : ∀ (S : ri_H) (Q : Int32 → ri_H → Prop), CA S Q → ri_A E e0 (ri_en 124 [.ref 50]) S (Qi Q)) (hCE : ∀ (S : ri_H) (Q : Int32 → ri_H → Prop), CE S Q → ri_A E e0 (ri_en 129 [.ref 50]) S (Qi Q))  {S : ri_H} {Q : Int32 → ri_H → Prop} (h : watom CA CE  S Q) : ri_A E (e0 + 1) (ri_en 130 [.ref 50]) S (Qi Q) := by
  unfold watom at h
  show ri_A E (e0 + 1) (130, 0, [some (.ref 50), none], []) S (Qi Q)
  refine A_call (j := 121) (As := [.ref 50, .int (45 : Int32)]) (fr' := (130, 8, [some (.ref 50), some (.int (0 : Int32))], [])) (S' := S) 5 rfl (e := 0) (by omega) (A_imp (wt121 (45 : Int32) h) (fun v S1 hq => ?_))
  obtain ⟨r2, hv, h⟩ := hq
  subst hv
  refine A_br (r2 = 0) (r1 := ((130, 37, [some (.ref 50), some (.int (0 : Int32))], []), S1)) (r2 := ((130, 11, [some (.ref 50), some (.int (0 : Int32))], []), S1)) 1 rfl (fun c => ?_) (fun c => ?_)
  · have h := h.1 c
    refine A_call (j := 121) (As := [.ref 50, .int (40 : Int32)]) (fr' := (130, 43, [some (.ref 50), some (.int (0 : Int32))], [])) (S' := S1) 3 rfl (e := 0) (by omega) (A_imp (wt121 (40 : Int32) h) (fun v S3 hq => ?_))
    obtain ⟨r4, hv, h⟩ := hq
    subst hv
    refine A_br (r4 = 0) (r1 := ((130, 95, [some (.ref 50), some (.int (0 : Int32))], []), S3)) (r2 := ((130, 46, [some (.ref 50), some (.int (0 : Int32))], []), S3)) 1 rfl (fun c => ?_) (fun c => ?_)
    · have h := h.1 c
      refine A_br (¬ (S3.1 50 25) = 0) (r1 := ((130, 123, [some (.ref 50), some (.int (0 : Int32))], []), S3)) (r2 := ((130, 102, [some (.ref 50), some (.int (0 : Int32))], []), S3)) 3 rfl (fun c => ?_) (fun c => ?_)
      · have h := h.1 c
        refine ri_A.less (m := 130) (pc := 123) (L := [some (.ref 50), some (.int (0 : Int32))]) (L' := [some (.ref 50), some (.int (0 : Int32))]) (st := []) ⟨rfl, ⟨rfl, trivial⟩⟩ ?_
        exact wt130_b123 CA CE e0 he0 hCA hCE  _ _ h
      · have h := h.2 c
        refine A_br (¬ (S3.1 50 21) = (2 : Int32)) (r1 := ((130, 123, [some (.ref 50), some (.int (0 : Int32))], []), S3)) (r2 := ((130, 110, [some (.ref 50), some (.int (0 : Int32))], []), S3)) 4 rfl (fun c => ?_) (fun c => ?_)
        · have h := h.1 c
          refine ri_A.less (m := 130) (pc := 123) (L := [some (.ref 50), some (.int (0 : Int32))]) (L' := [some (.ref 50), some (.int (0 : Int32))]) (st := []) ⟨rfl, ⟨rfl, trivial⟩⟩ ?_
          exact wt130_b123 CA CE e0 he0 hCA hCE  _ _ h
        · have h := h.2 c
          refine A_call (j := 117) (As := [.ref 50]) (fr' := (130, 120, [some (.ref 50), some (.int ((S3.2 50 23)).toInt32)], [])) (S' := S3) 6 rfl (e := 1) (by omega) (A_imp (wt117  h) (fun v S9 hq => ?_))
          obtain ⟨hv, h⟩ := hq
          subst hv
          exact A_ret 3 (m := 130) (v := some (.int ((S3.2 50 23)).toInt32)) (S' := S9) rfl rfl ⟨_, rfl, h⟩
    · have h := h.2 c
      refine A_call (j := 122) (As := [.ref 50]) (fr' := (130, 50, [some (.ref 50), some (.int (0 : Int32))], [])) (S' := S3) 2 rfl (e := 2) (by omega) (A_imp (wt122  h) (fun v S10 hq => ?_))
      obtain ⟨r11, hv, h⟩ := hq
      subst hv
      refine A_br (r11 = 0) (r1 := ((130, 161, [some (.ref 50), some (.int (0 : Int32))], []), S10)) (r2 := ((130, 53, [some (.ref 50), some (.int (0 : Int32))], []), S10)) 1 rfl (fun c => ?_) (fun c => ?_)
      · have h := h.1 c
        exact A_ret 2 (m := 130) (v := some (.int (0 : Int32))) (S' := S10) rfl rfl ⟨_, rfl, h⟩
      · have h := h.2 c
        refine A_call (j := 129) (As := [.ref 50]) (fr' := (130, 57, [some (.ref 50), some (.int (0 : Int32))], [])) (S' := S10) 2 rfl (e := e0) (by omega) (A_imp (hCE _ _ h) (fun v S12 hq => ?_))
        obtain ⟨r13, hv, h⟩ := hq
        subst hv
        refine A_call (j := 121) (As := [.ref 50, .int (41 : Int32)]) (fr' := (130, 64, [some (.ref 50), some (.int r13)], [])) (S' := S12) 4 rfl (e := 0) (by omega) (A_imp (wt121 (41 : Int32) h) (fun v S14 hq => ?_))
        obtain ⟨r15, hv, h⟩ := hq
        subst hv
        refine A_br (¬ r15 = 0) (r1 := ((130, 71, [some (.ref 50), some (.int r13)], []), S14)) (r2 := ((130, 67, [some (.ref 50), some (.int r13)], []), S14)) 1 rfl (fun c => ?_) (fun c => ?_)
        · have h := h.1 c
          refine ri_A.less (m := 130) (pc := 71) (L := [some (.ref 50), some (.int r13)]) (L' := [some (.ref 50), some (.int r13)]) (st := []) ⟨rfl, ⟨rfl, trivial⟩⟩ ?_
          exact wt130_b71 CA CE e0 he0 hCA hCE  _ _ h
        · have h := h.2 c
          refine A_call (j := 118) (As := [.ref 50]) (fr' := (130, 71, [some (.ref 50), some (.int r13)], [])) (S' := S14) 2 rfl (e := 0) (by omega) (A_imp (wt118  h) (fun v S17 hq => ?_))
          obtain ⟨hv, h⟩ := hq
          subst hv
          refine ri_A.less (m := 130) (pc := 71) (L := [some (.ref 50), some (.int r13)]) (L' := [some (.ref 50), some (.int r13)]) (st := []) ⟨rfl, ⟨rfl, trivial⟩⟩ ?_
          exact wt130_b71 CA CE e0 he0 hCA hCE  _ _ h
  · have h := h.2 c
    refine A_call (j := 122) (As := [.ref 50]) (fr' := (130, 15, [some (.ref 50), some (.int (0 : Int32))], [])) (S' := S1) 2 rfl (e := 2) (by omega) (A_imp (wt122  h) (fun v S18 hq => ?_))
    obtain ⟨r19, hv, h⟩ := hq
    subst hv
    refine A_br (r19 = 0) (r1 := ((130, 161, [some (.ref 50), some (.int (0 : Int32))], []), S18)) (r2 := ((130, 18, [some (.ref 50), some (.int (0 : Int32))], []), S18)) 1 rfl (fun c => ?_) (fun c => ?_)
    · have h := h.1 c
      exact A_ret 2 (m := 130) (v := some (.int (0 : Int32))) (S' := S18) rfl rfl ⟨_, rfl, h⟩
    · have h := h.2 c
      refine A_call (j := 124) (As := [.ref 50]) (fr' := (130, 22, [some (.ref 50), some (.int (0 : Int32))], [])) (S' := S18) 2 rfl (e := e0) (by omega) (A_imp (hCA _ _ h) (fun v S20 hq => ?_))
      obtain ⟨r21, hv, h⟩ := hq
      subst hv
      exact A_ret 11 (m := 130) (v := some (.int (-r21))) (S' := (ri_wi S20 50 24 ((S20.1 50 24) - (1 : Int32)))) rfl rfl ⟨_, rfl, h⟩
/-! X5_not4, depth (e0 + 1) -/
def wnot_b120 (CN : ri_H → (Int32 → ri_H → Prop) → Prop) (CD : ri_H → (Int32 → ri_H → Prop) → Prop) (Q : Int32 → ri_H → Prop)  (S : ri_H) : Prop := Q (1 : Int32) S
set_option maxRecDepth 10000 in
set_option maxHeartbeats 1000000 in
theorem wt133_b120 {E : ri_E} (CN : ri_H → (Int32 → ri_H → Prop) → Prop) (CD : ri_H → (Int32 → ri_H → Prop) → Prop) (e0 : Nat) (he0 : 20 ≤ e0) (hCN : ∀ (S : ri_H) (Q : Int32 → ri_H → Prop), CN S Q → ri_A E e0 (ri_en 127 [.ref 50]) S (Qi Q)) (hCD : ∀ (S : ri_H) (Q : Int32 → ri_H → Prop), CD S Q → ri_A E e0 (ri_en 132 [.ref 50]) S (Qi Q)) {Q : Int32 → ri_H → Prop}  (S : ri_H) (h : wnot_b120 CN CD  Q  S) : ri_A E (e0 + 1) (133, 120, [none, none, none, none], []) S (Qi Q) := by
  unfold wnot_b120 at h
  exact A_ret 3 (m := 133) (v := some (.int (1 : Int32))) (S' := S) rfl rfl ⟨_, rfl, h⟩
def wnot_b93 (CN : ri_H → (Int32 → ri_H → Prop) → Prop) (CD : ri_H → (Int32 → ri_H → Prop) → Prop) (Q : Int32 → ri_H → Prop) (x1 : Int32) (s0 : Int32) (S : ri_H) : Prop := w117  S (fun (S7 : ri_H) => CD S7 (fun (r9 : Int32) (S8 : ri_H) => ((s0 = 0 → ((¬ x1 = r9 → Q (0 : Int32) S8) ∧ (¬ (¬ x1 = r9) → wnot_b120 CN CD  Q  S8))) ∧ (¬ (s0 = 0) → ((r9 ≤ x1 → Q (0 : Int32) S8) ∧ (¬ (r9 ≤ x1) → wnot_b120 CN CD  Q  S8))))))
set_option maxRecDepth 10000 in
set_option maxHeartbeats 1000000 in
theorem wt133_b93 {E : ri_E} (CN : ri_H → (Int32 → ri_H → Prop) → Prop) (CD : ri_H → (Int32 → ri_H → Prop) → Prop) (e0 : Nat) (he0 : 20 ≤ e0) (hCN : ∀ (S : ri_H) (Q : Int32 → ri_H → Prop), CN S Q → ri_A E e0 (ri_en 127 [.ref 50]) S (Qi Q)) (hCD : ∀ (S : ri_H) (Q : Int32 → ri_H → Prop), CD S Q → ri_A E e0 (ri_en 132 [.ref 50]) S (Qi Q)) {Q : Int32 → ri_H → Prop} (x1 : Int32) (s0 : Int32) (S : ri_H) (h : wnot_b93 CN CD  Q x1 s0 S) : ri_A E (e0 + 1) (133, 93, [some (.ref 50), some (.int x1), none, none], [.int s0]) S (Qi Q) := by
  unfold wnot_b93 at h
  refine A_call (j := 117) (As := [.ref 50]) (fr' := (133, 98, [some (.ref 50), some (.int x1), some (.int s0), none], [])) (S' := S) 3 rfl (e := 1) (by omega) (A_imp (wt117  h) (fun v S7 hq => ?_))
  obtain ⟨hv, h⟩ := hq
  subst hv
  refine A_call (j := 132) (As := [.ref 50]) (fr' := (133, 102, [some (.ref 50), some (.int x1), some (.int s0), none], [])) (S' := S7) 2 rfl (e := e0) (by omega) (A_imp (hCD _ _ h) (fun v S8 hq => ?_))
  obtain ⟨r9, hv, h⟩ := hq
  subst hv
  refine A_br (s0 = 0) (r1 := ((133, 115, [some (.ref 50), some (.int x1), some (.int s0), some (.int r9)], []), S8)) (r2 := ((133, 107, [some (.ref 50), some (.int x1), some (.int s0), some (.int r9)], []), S8)) 3 rfl (fun c => ?_) (fun c => ?_)
  · have h := h.1 c
    refine A_br (¬ x1 = r9) (r1 := ((133, 124, [some (.ref 50), some (.int x1), some (.int s0), some (.int r9)], []), S8)) (r2 := ((133, 120, [some (.ref 50), some (.int x1), some (.int s0), some (.int r9)], []), S8)) 3 rfl (fun c => ?_) (fun c => ?_)
    · have h := h.1 c
      exact A_ret 2 (m := 133) (v := some (.int (0 : Int32))) (S' := S8) rfl rfl ⟨_, rfl, h⟩
    · have h := h.2 c
      refine ri_A.less (m := 133) (pc := 120) (L := [some (.ref 50), some (.int x1), some (.int s0), some (.int r9)]) (L' := [none, none, none, none]) (st := []) trivial ?_
      exact wt133_b120 CN CD e0 he0 hCN hCD  _ h
  · have h := h.2 c
    refine A_br (r9 ≤ x1) (r1 := ((133, 124, [some (.ref 50), some (.int x1), some (.int s0), some (.int r9)], []), S8)) (r2 := ((133, 112, [some (.ref 50), some (.int x1), some (.int s0), some (.int r9)], []), S8)) 3 rfl (fun c => ?_) (fun c => ?_)
    · have h := h.1 c
      exact A_ret 2 (m := 133) (v := some (.int (0 : Int32))) (S' := S8) rfl rfl ⟨_, rfl, h⟩
    · have h := h.2 c
      refine A_nx 1 (fr' := (133, 120, [some (.ref 50), some (.int x1), some (.int s0), some (.int r9)], [])) (S' := S8) rfl ?_
      refine ri_A.less (m := 133) (pc := 120) (L := [some (.ref 50), some (.int x1), some (.int s0), some (.int r9)]) (L' := [none, none, none, none]) (st := []) trivial ?_
      exact wt133_b120 CN CD e0 he0 hCN hCD  _ h
def wnot_b77 (CN : ri_H → (Int32 → ri_H → Prop) → Prop) (CD : ri_H → (Int32 → ri_H → Prop) → Prop) (Q : Int32 → ri_H → Prop) (x1 : Int32) (S : ri_H) : Prop := ((¬ (lg_cmp (S.2 50 23) (60 : Int64)) = 0 → wnot_b93 CN CD  Q x1 (0 : Int32) S) ∧ (¬ (¬ (lg_cmp (S.2 50 23) (60 : Int64)) = 0) → wnot_b93 CN CD  Q x1 (1 : Int32) S))
set_option maxRecDepth 10000 in
set_option maxHeartbeats 1000000 in
theorem wt133_b77 {E : ri_E} (CN : ri_H → (Int32 → ri_H → Prop) → Prop) (CD : ri_H → (Int32 → ri_H → Prop) → Prop) (e0 : Nat) (he0 : 20 ≤ e0) (hCN : ∀ (S : ri_H) (Q : Int32 → ri_H → Prop), CN S Q → ri_A E e0 (ri_en 127 [.ref 50]) S (Qi Q)) (hCD : ∀ (S : ri_H) (Q : Int32 → ri_H → Prop), CD S Q → ri_A E e0 (ri_en 132 [.ref 50]) S (Qi Q)) {Q : Int32 → ri_H → Prop} (x1 : Int32) (S : ri_H) (h : wnot_b77 CN CD  Q x1 S) : ri_A E (e0 + 1) (133, 77, [some (.ref 50), some (.int x1), none, none], []) S (Qi Q) := by
  unfold wnot_b77 at h
  refine A_br (¬ (lg_cmp (S.2 50 23) (60 : Int64)) = 0) (r1 := ((133, 92, [some (.ref 50), some (.int x1), none, none], []), S)) (r2 := ((133, 88, [some (.ref 50), some (.int x1), none, none], []), S)) 5 rfl (fun c => ?_) (fun c => ?_)
  · have h := h.1 c
    refine A_nx 1 (fr' := (133, 93, [some (.ref 50), some (.int x1), none, none], [.int (0 : Int32)])) (S' := S) rfl ?_
    refine ri_A.less (m := 133) (pc := 93) (L := [some (.ref 50), some (.int x1), none, none]) (L' := [some (.ref 50), some (.int x1), none, none]) (st := [.int (0 : Int32)]) ⟨rfl, ⟨rfl, trivial⟩⟩ ?_
    exact wt133_b93 CN CD e0 he0 hCN hCD  _ _ _ h
  · have h := h.2 c
    refine A_nx 2 (fr' := (133, 93, [some (.ref 50), some (.int x1), none, none], [.int (1 : Int32)])) (S' := S) rfl ?_
    refine ri_A.less (m := 133) (pc := 93) (L := [some (.ref 50), some (.int x1), none, none]) (L' := [some (.ref 50), some (.int x1), none, none]) (st := [.int (1 : Int32)]) ⟨rfl, ⟨rfl, trivial⟩⟩ ?_
    exact wt133_b93 CN CD e0 he0 hCN hCD  _ _ _ h
def wnot (CN : ri_H → (Int32 → ri_H → Prop) → Prop) (CD : ri_H → (Int32 → ri_H → Prop) → Prop)  (S : ri_H) (Q : Int32 → ri_H → Prop) : Prop := w120 (110 : Int32) (111 : Int32) (116 : Int32) (0 : Int32) (0 : Int32) (0 : Int32) (0 : Int32) (0 : Int32) S (fun (r2 : Int32) (S1 : ri_H) => ((r2 = 0 → CD S1 (fun (r4 : Int32) (S3 : ri_H) => w121 (60 : Int32) S3 (fun (r6 : Int32) (S5 : ri_H) => ((¬ r6 = 0 → wnot_b77 CN CD  Q r4 S5) ∧ (¬ (¬ r6 = 0) → w121 (61 : Int32) S5 (fun (r11 : Int32) (S10 : ri_H) => ((¬ r11 = 0 → wnot_b77 CN CD  Q r4 S10) ∧ (¬ (¬ r11 = 0) → Q r4 S10)))))))) ∧ (¬ (r2 = 0) → w122  S1 (fun (r13 : Int32) (S12 : ri_H) => ((¬ r13 = 0 → CN S12 (fun (r15 : Int32) (S14 : ri_H) => ((¬ r15 = 0 → Q (0 : Int32) (ri_wi S14 50 24 ((S14.1 50 24) - (1 : Int32)))) ∧ (¬ (¬ r15 = 0) → Q (1 : Int32) (ri_wi S14 50 24 ((S14.1 50 24) - (1 : Int32))))))) ∧ (¬ (¬ r13 = 0) → Q (0 : Int32) S12))))))
set_option maxRecDepth 10000 in
set_option maxHeartbeats 1000000 in
theorem wt133 {E : ri_E} (CN : ri_H → (Int32 → ri_H → Prop) → Prop) (CD : ri_H → (Int32 → ri_H → Prop) → Prop) (e0 : Nat) (he0 : 20 ≤ e0) (hCN : ∀ (S : ri_H) (Q : Int32 → ri_H → Prop), CN S Q → ri_A E e0 (ri_en 127 [.ref 50]) S (Qi Q)) (hCD : ∀ (S : ri_H) (Q : Int32 → ri_H → Prop), CD S Q → ri_A E e0 (ri_en 132 [.ref 50]) S (Qi Q))  {S : ri_H} {Q : Int32 → ri_H → Prop} (h : wnot CN CD  S Q) : ri_A E (e0 + 1) (ri_en 133 [.ref 50]) S (Qi Q) := by
  unfold wnot at h
  show ri_A E (e0 + 1) (133, 0, [some (.ref 50), none, none, none], []) S (Qi Q)
  refine A_call (j := 120) (As := [.ref 50, .int (110 : Int32), .int (111 : Int32), .int (116 : Int32), .int (0 : Int32), .int (0 : Int32), .int (0 : Int32), .int (0 : Int32), .int (0 : Int32)]) (fr' := (133, 15, [some (.ref 50), none, none, none], [])) (S' := S) 10 rfl (e := 2) (by omega) (A_imp (wt120 (110 : Int32) (111 : Int32) (116 : Int32) (0 : Int32) (0 : Int32) (0 : Int32) (0 : Int32) (0 : Int32) h) (fun v S1 hq => ?_))
  obtain ⟨r2, hv, h⟩ := hq
  subst hv
  refine A_br (r2 = 0) (r1 := ((133, 52, [some (.ref 50), none, none, none], []), S1)) (r2 := ((133, 18, [some (.ref 50), none, none, none], []), S1)) 1 rfl (fun c => ?_) (fun c => ?_)
  · have h := h.1 c
    refine A_call (j := 132) (As := [.ref 50]) (fr' := (133, 56, [some (.ref 50), none, none, none], [])) (S' := S1) 2 rfl (e := e0) (by omega) (A_imp (hCD _ _ h) (fun v S3 hq => ?_))
    obtain ⟨r4, hv, h⟩ := hq
    subst hv
    refine A_call (j := 121) (As := [.ref 50, .int (60 : Int32)]) (fr' := (133, 63, [some (.ref 50), some (.int r4), none, none], [])) (S' := S3) 4 rfl (e := 0) (by omega) (A_imp (wt121 (60 : Int32) h) (fun v S5 hq => ?_))
    obtain ⟨r6, hv, h⟩ := hq
    subst hv
    refine A_br (¬ r6 = 0) (r1 := ((133, 77, [some (.ref 50), some (.int r4), none, none], []), S5)) (r2 := ((133, 66, [some (.ref 50), some (.int r4), none, none], []), S5)) 1 rfl (fun c => ?_) (fun c => ?_)
    · have h := h.1 c
      refine ri_A.less (m := 133) (pc := 77) (L := [some (.ref 50), some (.int r4), none, none]) (L' := [some (.ref 50), some (.int r4), none, none]) (st := []) ⟨rfl, ⟨rfl, trivial⟩⟩ ?_
      exact wt133_b77 CN CD e0 he0 hCN hCD  _ _ h
    · have h := h.2 c
      refine A_call (j := 121) (As := [.ref 50, .int (61 : Int32)]) (fr' := (133, 72, [some (.ref 50), some (.int r4), none, none], [])) (S' := S5) 3 rfl (e := 0) (by omega) (A_imp (wt121 (61 : Int32) h) (fun v S10 hq => ?_))
      obtain ⟨r11, hv, h⟩ := hq
      subst hv
      refine A_br (¬ r11 = 0) (r1 := ((133, 77, [some (.ref 50), some (.int r4), none, none], []), S10)) (r2 := ((133, 75, [some (.ref 50), some (.int r4), none, none], []), S10)) 1 rfl (fun c => ?_) (fun c => ?_)
      · have h := h.1 c
        refine ri_A.less (m := 133) (pc := 77) (L := [some (.ref 50), some (.int r4), none, none]) (L' := [some (.ref 50), some (.int r4), none, none]) (st := []) ⟨rfl, ⟨rfl, trivial⟩⟩ ?_
        exact wt133_b77 CN CD e0 he0 hCN hCD  _ _ h
      · have h := h.2 c
        exact A_ret 2 (m := 133) (v := some (.int r4)) (S' := S10) rfl rfl ⟨_, rfl, h⟩
  · have h := h.2 c
    refine A_call (j := 122) (As := [.ref 50]) (fr' := (133, 22, [some (.ref 50), none, none, none], [])) (S' := S1) 2 rfl (e := 2) (by omega) (A_imp (wt122  h) (fun v S12 hq => ?_))
    obtain ⟨r13, hv, h⟩ := hq
    subst hv
    refine A_br (¬ r13 = 0) (r1 := ((133, 27, [some (.ref 50), none, none, none], []), S12)) (r2 := ((133, 25, [some (.ref 50), none, none, none], []), S12)) 1 rfl (fun c => ?_) (fun c => ?_)
    · have h := h.1 c
      refine A_call (j := 127) (As := [.ref 50]) (fr' := (133, 31, [some (.ref 50), none, none, none], [])) (S' := S12) 2 rfl (e := e0) (by omega) (A_imp (hCN _ _ h) (fun v S14 hq => ?_))
      obtain ⟨r15, hv, h⟩ := hq
      subst hv
      refine A_br (¬ r15 = 0) (r1 := ((133, 50, [some (.ref 50), some (.int r15), none, none], []), (ri_wi S14 50 24 ((S14.1 50 24) - (1 : Int32))))) (r2 := ((133, 46, [some (.ref 50), some (.int r15), none, none], []), (ri_wi S14 50 24 ((S14.1 50 24) - (1 : Int32))))) 9 rfl (fun c => ?_) (fun c => ?_)
      · have h := h.1 c
        exact A_ret 2 (m := 133) (v := some (.int (0 : Int32))) (S' := (ri_wi S14 50 24 ((S14.1 50 24) - (1 : Int32)))) rfl rfl ⟨_, rfl, h⟩
      · have h := h.2 c
        exact A_ret 3 (m := 133) (v := some (.int (1 : Int32))) (S' := (ri_wi S14 50 24 ((S14.1 50 24) - (1 : Int32)))) rfl rfl ⟨_, rfl, h⟩
    · have h := h.2 c
      exact A_ret 2 (m := 133) (v := some (.int (0 : Int32))) (S' := S12) rfl rfl ⟨_, rfl, h⟩
/-! X5_term3, depth (e0 + 1) -/
set_option maxRecDepth 10000 in
set_option maxHeartbeats 1000000 in
theorem wt137_l5 {E : ri_E} (CA : ri_H → (Int32 → ri_H → Prop) → Prop) (e0 : Nat) (he0 : 20 ≤ e0) (hCA : ∀ (S : ri_H) (Q : Int32 → ri_H → Prop), CA S Q → ri_A E e0 (ri_en 136 [.ref 50]) S (Qi Q)) {Q : Int32 → ri_H → Prop} : ∀ (n : Nat) (x1 : Int32) (S : ri_H), wterm_l5 CA  Q n x1 S → ri_A E (e0 + 1) (137, 5, [some (.ref 50), some (.int x1)], []) S (Qi Q) := by
  intro n
  induction n with
  | zero => intro x1 S h; exact h.elim
  | succ n ih =>
    intro x1 S h
    unfold wterm_l5 at h
    refine A_call (j := 121) (As := [.ref 50, .int (42 : Int32)]) (fr' := (137, 11, [some (.ref 50), some (.int x1)], [])) (S' := S) 3 rfl (e := 0) (by omega) (A_imp (wt121 (42 : Int32) h) (fun v S3 hq => ?_))
    obtain ⟨r4, hv, h⟩ := hq
    subst hv
    refine A_br (r4 = 0) (r1 := ((137, 28, [some (.ref 50), some (.int x1)], []), S3)) (r2 := ((137, 14, [some (.ref 50), some (.int x1)], []), S3)) 1 rfl (fun c => ?_) (fun c => ?_)
    · have h := h.1 c
      exact A_ret 2 (m := 137) (v := some (.int x1)) (S' := S3) rfl rfl ⟨_, rfl, h⟩
    · have h := h.2 c
      refine A_call (j := 117) (As := [.ref 50]) (fr' := (137, 18, [some (.ref 50), some (.int x1)], [])) (S' := S3) 2 rfl (e := 1) (by omega) (A_imp (wt117  h) (fun v S5 hq => ?_))
      obtain ⟨hv, h⟩ := hq
      subst hv
      refine A_call (j := 136) (As := [.ref 50]) (fr' := (137, 23, [some (.ref 50), some (.int x1)], [.int x1])) (S' := S5) 3 rfl (e := e0) (by omega) (A_imp (hCA _ _ h) (fun v S6 hq => ?_))
      obtain ⟨r7, hv, h⟩ := hq
      subst hv
      refine A_nx 3 (fr' := (137, 5, [some (.ref 50), some (.int (x1 * r7))], [])) (S' := S6) rfl ?_
      refine ri_A.less (m := 137) (pc := 5) (L := [some (.ref 50), some (.int (x1 * r7))]) (L' := [some (.ref 50), some (.int (x1 * r7))]) (st := []) ⟨rfl, ⟨rfl, trivial⟩⟩ ?_
      exact ih _ _ h
set_option maxRecDepth 10000 in
set_option maxHeartbeats 1000000 in
theorem wt137 {E : ri_E} (CA : ri_H → (Int32 → ri_H → Prop) → Prop) (e0 : Nat) (he0 : 20 ≤ e0) (hCA : ∀ (S : ri_H) (Q : Int32 → ri_H → Prop), CA S Q → ri_A E e0 (ri_en 136 [.ref 50]) S (Qi Q))  {S : ri_H} {Q : Int32 → ri_H → Prop} (h : wterm CA  S Q) : ri_A E (e0 + 1) (ri_en 137 [.ref 50]) S (Qi Q) := by
  unfold wterm at h
  show ri_A E (e0 + 1) (137, 0, [some (.ref 50), none], []) S (Qi Q)
  refine A_call (j := 136) (As := [.ref 50]) (fr' := (137, 4, [some (.ref 50), none], [])) (S' := S) 2 rfl (e := e0) (by omega) (A_imp (hCA _ _ h) (fun v S1 hq => ?_))
  obtain ⟨r2, hv, h⟩ := hq
  subst hv
  refine A_nx 1 (fr' := (137, 5, [some (.ref 50), some (.int r2)], [])) (S' := S1) rfl ?_
  refine ri_A.less (m := 137) (pc := 5) (L := [some (.ref 50), some (.int r2)]) (L' := [some (.ref 50), some (.int r2)]) (st := []) ⟨rfl, ⟨rfl, trivial⟩⟩ ?_
  obtain ⟨nn, h⟩ := h
  exact wt137_l5 CA e0 he0 hCA  nn _ _ h
/-! X5_added3, depth (e0 + 1) -/
set_option maxRecDepth 10000 in
set_option maxHeartbeats 1000000 in
theorem wt138_b62 {E : ri_E} (CT : ri_H → (Int32 → ri_H → Prop) → Prop) (e0 : Nat) (he0 : 20 ≤ e0) (hCT : ∀ (S : ri_H) (Q : Int32 → ri_H → Prop), CT S Q → ri_A E e0 (ri_en 137 [.ref 50]) S (Qi Q)) {K5 : Int32 → ri_H → Prop} {Q : Int32 → ri_H → Prop} (hK5 : ∀ (x1 : Int32) (S : ri_H), K5 x1 S → ri_A E (e0 + 1) (138, 5, [some (.ref 50), some (.int x1), none, none], []) S (Qi Q)) (s0 : Int32) (S : ri_H) (h : wadded_b62 CT K5 Q s0 S) : ri_A E (e0 + 1) (138, 62, [some (.ref 50), none, none, none], [.int s0]) S (Qi Q) := by
  unfold wadded_b62 at h
  refine A_nx 2 (fr' := (138, 5, [some (.ref 50), some (.int s0), none, none], [])) (S' := S) rfl ?_
  refine ri_A.less (m := 138) (pc := 5) (L := [some (.ref 50), some (.int s0), none, none]) (L' := [some (.ref 50), some (.int s0), none, none]) (st := []) ⟨rfl, ⟨rfl, trivial⟩⟩ ?_
  exact hK5 _ _ h
set_option maxRecDepth 10000 in
set_option maxHeartbeats 1000000 in
theorem wt138_b39 {E : ri_E} (CT : ri_H → (Int32 → ri_H → Prop) → Prop) (e0 : Nat) (he0 : 20 ≤ e0) (hCT : ∀ (S : ri_H) (Q : Int32 → ri_H → Prop), CT S Q → ri_A E e0 (ri_en 137 [.ref 50]) S (Qi Q)) {K5 : Int32 → ri_H → Prop} {Q : Int32 → ri_H → Prop} (hK5 : ∀ (x1 : Int32) (S : ri_H), K5 x1 S → ri_A E (e0 + 1) (138, 5, [some (.ref 50), some (.int x1), none, none], []) S (Qi Q)) (x1 : Int32) (s0 : Int32) (S : ri_H) (h : wadded_b39 CT K5 Q x1 s0 S) : ri_A E (e0 + 1) (138, 39, [some (.ref 50), some (.int x1), none, none], [.int s0]) S (Qi Q) := by
  unfold wadded_b39 at h
  refine A_call (j := 117) (As := [.ref 50]) (fr' := (138, 44, [some (.ref 50), some (.int x1), some (.int s0), none], [])) (S' := S) 3 rfl (e := 1) (by omega) (A_imp (wt117  h) (fun v S5 hq => ?_))
  obtain ⟨hv, h⟩ := hq
  subst hv
  refine A_call (j := 137) (As := [.ref 50]) (fr' := (138, 48, [some (.ref 50), some (.int x1), some (.int s0), none], [])) (S' := S5) 2 rfl (e := e0) (by omega) (A_imp (hCT _ _ h) (fun v S6 hq => ?_))
  obtain ⟨r7, hv, h⟩ := hq
  subst hv
  refine A_br (s0 = 0) (r1 := ((138, 59, [some (.ref 50), some (.int x1), some (.int s0), some (.int r7)], []), S6)) (r2 := ((138, 53, [some (.ref 50), some (.int x1), some (.int s0), some (.int r7)], []), S6)) 3 rfl (fun c => ?_) (fun c => ?_)
  · have h := h.1 c
    refine A_nx 3 (fr' := (138, 62, [some (.ref 50), some (.int x1), some (.int s0), some (.int r7)], [.int (x1 - r7)])) (S' := S6) rfl ?_
    refine ri_A.less (m := 138) (pc := 62) (L := [some (.ref 50), some (.int x1), some (.int s0), some (.int r7)]) (L' := [some (.ref 50), none, none, none]) (st := [.int (x1 - r7)]) ⟨rfl, trivial⟩ ?_
    exact wt138_b62 CT e0 he0 hCT hK5 _ _ h
  · have h := h.2 c
    refine A_nx 4 (fr' := (138, 62, [some (.ref 50), some (.int x1), some (.int s0), some (.int r7)], [.int (x1 + r7)])) (S' := S6) rfl ?_
    refine ri_A.less (m := 138) (pc := 62) (L := [some (.ref 50), some (.int x1), some (.int s0), some (.int r7)]) (L' := [some (.ref 50), none, none, none]) (st := [.int (x1 + r7)]) ⟨rfl, trivial⟩ ?_
    exact wt138_b62 CT e0 he0 hCT hK5 _ _ h
set_option maxRecDepth 10000 in
set_option maxHeartbeats 1000000 in
theorem wt138_b23 {E : ri_E} (CT : ri_H → (Int32 → ri_H → Prop) → Prop) (e0 : Nat) (he0 : 20 ≤ e0) (hCT : ∀ (S : ri_H) (Q : Int32 → ri_H → Prop), CT S Q → ri_A E e0 (ri_en 137 [.ref 50]) S (Qi Q)) {K5 : Int32 → ri_H → Prop} {Q : Int32 → ri_H → Prop} (hK5 : ∀ (x1 : Int32) (S : ri_H), K5 x1 S → ri_A E (e0 + 1) (138, 5, [some (.ref 50), some (.int x1), none, none], []) S (Qi Q)) (x1 : Int32) (S : ri_H) (h : wadded_b23 CT K5 Q x1 S) : ri_A E (e0 + 1) (138, 23, [some (.ref 50), some (.int x1), none, none], []) S (Qi Q) := by
  unfold wadded_b23 at h
  refine A_br (¬ (lg_cmp (S.2 50 23) (43 : Int64)) = 0) (r1 := ((138, 38, [some (.ref 50), some (.int x1), none, none], []), S)) (r2 := ((138, 34, [some (.ref 50), some (.int x1), none, none], []), S)) 5 rfl (fun c => ?_) (fun c => ?_)
  · have h := h.1 c
    refine A_nx 1 (fr' := (138, 39, [some (.ref 50), some (.int x1), none, none], [.int (0 : Int32)])) (S' := S) rfl ?_
    refine ri_A.less (m := 138) (pc := 39) (L := [some (.ref 50), some (.int x1), none, none]) (L' := [some (.ref 50), some (.int x1), none, none]) (st := [.int (0 : Int32)]) ⟨rfl, ⟨rfl, trivial⟩⟩ ?_
    exact wt138_b39 CT e0 he0 hCT hK5 _ _ _ h
  · have h := h.2 c
    refine A_nx 2 (fr' := (138, 39, [some (.ref 50), some (.int x1), none, none], [.int (1 : Int32)])) (S' := S) rfl ?_
    refine ri_A.less (m := 138) (pc := 39) (L := [some (.ref 50), some (.int x1), none, none]) (L' := [some (.ref 50), some (.int x1), none, none]) (st := [.int (1 : Int32)]) ⟨rfl, ⟨rfl, trivial⟩⟩ ?_
    exact wt138_b39 CT e0 he0 hCT hK5 _ _ _ h
set_option maxRecDepth 10000 in
set_option maxHeartbeats 1000000 in
theorem wt138_l5 {E : ri_E} (CT : ri_H → (Int32 → ri_H → Prop) → Prop) (e0 : Nat) (he0 : 20 ≤ e0) (hCT : ∀ (S : ri_H) (Q : Int32 → ri_H → Prop), CT S Q → ri_A E e0 (ri_en 137 [.ref 50]) S (Qi Q)) {Q : Int32 → ri_H → Prop} : ∀ (n : Nat) (x1 : Int32) (S : ri_H), wadded_l5 CT  Q n x1 S → ri_A E (e0 + 1) (138, 5, [some (.ref 50), some (.int x1), none, none], []) S (Qi Q) := by
  intro n
  induction n with
  | zero => intro x1 S h; exact h.elim
  | succ n ih =>
    intro x1 S h
    unfold wadded_l5 at h
    refine A_call (j := 121) (As := [.ref 50, .int (43 : Int32)]) (fr' := (138, 11, [some (.ref 50), some (.int x1), none, none], [])) (S' := S) 3 rfl (e := 0) (by omega) (A_imp (wt121 (43 : Int32) h) (fun v S3 hq => ?_))
    obtain ⟨r4, hv, h⟩ := hq
    subst hv
    refine A_br (¬ r4 = 0) (r1 := ((138, 23, [some (.ref 50), some (.int x1), none, none], []), S3)) (r2 := ((138, 14, [some (.ref 50), some (.int x1), none, none], []), S3)) 1 rfl (fun c => ?_) (fun c => ?_)
    · have h := h.1 c
      refine ri_A.less (m := 138) (pc := 23) (L := [some (.ref 50), some (.int x1), none, none]) (L' := [some (.ref 50), some (.int x1), none, none]) (st := []) ⟨rfl, ⟨rfl, trivial⟩⟩ ?_
      exact wt138_b23 CT e0 he0 hCT (fun x1 S hk => ih x1 S hk) _ _ h
    · have h := h.2 c
      refine A_call (j := 121) (As := [.ref 50, .int (45 : Int32)]) (fr' := (138, 20, [some (.ref 50), some (.int x1), none, none], [])) (S' := S3) 3 rfl (e := 0) (by omega) (A_imp (wt121 (45 : Int32) h) (fun v S8 hq => ?_))
      obtain ⟨r9, hv, h⟩ := hq
      subst hv
      refine A_br (r9 = 0) (r1 := ((138, 66, [some (.ref 50), some (.int x1), none, none], []), S8)) (r2 := ((138, 23, [some (.ref 50), some (.int x1), none, none], []), S8)) 1 rfl (fun c => ?_) (fun c => ?_)
      · have h := h.1 c
        exact A_ret 2 (m := 138) (v := some (.int x1)) (S' := S8) rfl rfl ⟨_, rfl, h⟩
      · have h := h.2 c
        refine ri_A.less (m := 138) (pc := 23) (L := [some (.ref 50), some (.int x1), none, none]) (L' := [some (.ref 50), some (.int x1), none, none]) (st := []) ⟨rfl, ⟨rfl, trivial⟩⟩ ?_
        exact wt138_b23 CT e0 he0 hCT (fun x1 S hk => ih x1 S hk) _ _ h
set_option maxRecDepth 10000 in
set_option maxHeartbeats 1000000 in
theorem wt138 {E : ri_E} (CT : ri_H → (Int32 → ri_H → Prop) → Prop) (e0 : Nat) (he0 : 20 ≤ e0) (hCT : ∀ (S : ri_H) (Q : Int32 → ri_H → Prop), CT S Q → ri_A E e0 (ri_en 137 [.ref 50]) S (Qi Q))  {S : ri_H} {Q : Int32 → ri_H → Prop} (h : wadded CT  S Q) : ri_A E (e0 + 1) (ri_en 138 [.ref 50]) S (Qi Q) := by
  unfold wadded at h
  show ri_A E (e0 + 1) (138, 0, [some (.ref 50), none, none, none], []) S (Qi Q)
  refine A_call (j := 137) (As := [.ref 50]) (fr' := (138, 4, [some (.ref 50), none, none, none], [])) (S' := S) 2 rfl (e := e0) (by omega) (A_imp (hCT _ _ h) (fun v S1 hq => ?_))
  obtain ⟨r2, hv, h⟩ := hq
  subst hv
  refine A_nx 1 (fr' := (138, 5, [some (.ref 50), some (.int r2), none, none], [])) (S' := S1) rfl ?_
  refine ri_A.less (m := 138) (pc := 5) (L := [some (.ref 50), some (.int r2), none, none]) (L' := [some (.ref 50), some (.int r2), none, none]) (st := []) ⟨rfl, ⟨rfl, trivial⟩⟩ ?_
  obtain ⟨nn, h⟩ := h
  exact wt138_l5 CT e0 he0 hCT  nn _ _ h
/-! X5_both3, depth (e0 + 1) -/
set_option maxRecDepth 10000 in
set_option maxHeartbeats 1000000 in
theorem wt140_b45 {E : ri_E} (CN : ri_H → (Int32 → ri_H → Prop) → Prop) (e0 : Nat) (he0 : 20 ≤ e0) (hCN : ∀ (S : ri_H) (Q : Int32 → ri_H → Prop), CN S Q → ri_A E e0 (ri_en 139 [.ref 50]) S (Qi Q)) {K5 : Int32 → ri_H → Prop} {Q : Int32 → ri_H → Prop} (hK5 : ∀ (x1 : Int32) (S : ri_H), K5 x1 S → ri_A E (e0 + 1) (140, 5, [some (.ref 50), some (.int x1), none], []) S (Qi Q)) (s0 : Int32) (S : ri_H) (h : wboth_b45 CN K5 Q s0 S) : ri_A E (e0 + 1) (140, 45, [some (.ref 50), none, none], [.int s0]) S (Qi Q) := by
  unfold wboth_b45 at h
  refine A_nx 2 (fr' := (140, 5, [some (.ref 50), some (.int s0), none], [])) (S' := S) rfl ?_
  refine ri_A.less (m := 140) (pc := 5) (L := [some (.ref 50), some (.int s0), none]) (L' := [some (.ref 50), some (.int s0), none]) (st := []) ⟨rfl, ⟨rfl, trivial⟩⟩ ?_
  exact hK5 _ _ h
set_option maxRecDepth 10000 in
set_option maxHeartbeats 1000000 in
theorem wt140_b44 {E : ri_E} (CN : ri_H → (Int32 → ri_H → Prop) → Prop) (e0 : Nat) (he0 : 20 ≤ e0) (hCN : ∀ (S : ri_H) (Q : Int32 → ri_H → Prop), CN S Q → ri_A E e0 (ri_en 139 [.ref 50]) S (Qi Q)) {K5 : Int32 → ri_H → Prop} {Q : Int32 → ri_H → Prop} (hK5 : ∀ (x1 : Int32) (S : ri_H), K5 x1 S → ri_A E (e0 + 1) (140, 5, [some (.ref 50), some (.int x1), none], []) S (Qi Q))  (S : ri_H) (h : wboth_b44 CN K5 Q  S) : ri_A E (e0 + 1) (140, 44, [some (.ref 50), none, none], []) S (Qi Q) := by
  unfold wboth_b44 at h
  refine A_nx 1 (fr' := (140, 45, [some (.ref 50), none, none], [.int (0 : Int32)])) (S' := S) rfl ?_
  refine ri_A.less (m := 140) (pc := 45) (L := [some (.ref 50), none, none]) (L' := [some (.ref 50), none, none]) (st := [.int (0 : Int32)]) ⟨rfl, trivial⟩ ?_
  exact wt140_b45 CN e0 he0 hCN hK5 _ _ h
set_option maxRecDepth 10000 in
set_option maxHeartbeats 1000000 in
theorem wt140_l5 {E : ri_E} (CN : ri_H → (Int32 → ri_H → Prop) → Prop) (e0 : Nat) (he0 : 20 ≤ e0) (hCN : ∀ (S : ri_H) (Q : Int32 → ri_H → Prop), CN S Q → ri_A E e0 (ri_en 139 [.ref 50]) S (Qi Q)) {Q : Int32 → ri_H → Prop} : ∀ (n : Nat) (x1 : Int32) (S : ri_H), wboth_l5 CN  Q n x1 S → ri_A E (e0 + 1) (140, 5, [some (.ref 50), some (.int x1), none], []) S (Qi Q) := by
  intro n
  induction n with
  | zero => intro x1 S h; exact h.elim
  | succ n ih =>
    intro x1 S h
    unfold wboth_l5 at h
    refine A_call (j := 120) (As := [.ref 50, .int (97 : Int32), .int (110 : Int32), .int (100 : Int32), .int (0 : Int32), .int (0 : Int32), .int (0 : Int32), .int (0 : Int32), .int (0 : Int32)]) (fr' := (140, 20, [some (.ref 50), some (.int x1), none], [])) (S' := S) 10 rfl (e := 2) (by omega) (A_imp (wt120 (97 : Int32) (110 : Int32) (100 : Int32) (0 : Int32) (0 : Int32) (0 : Int32) (0 : Int32) (0 : Int32) h) (fun v S3 hq => ?_))
    obtain ⟨r4, hv, h⟩ := hq
    subst hv
    refine A_br (r4 = 0) (r1 := ((140, 49, [some (.ref 50), some (.int x1), none], []), S3)) (r2 := ((140, 23, [some (.ref 50), some (.int x1), none], []), S3)) 1 rfl (fun c => ?_) (fun c => ?_)
    · have h := h.1 c
      exact A_ret 2 (m := 140) (v := some (.int x1)) (S' := S3) rfl rfl ⟨_, rfl, h⟩
    · have h := h.2 c
      refine A_call (j := 117) (As := [.ref 50]) (fr' := (140, 27, [some (.ref 50), some (.int x1), none], [])) (S' := S3) 2 rfl (e := 1) (by omega) (A_imp (wt117  h) (fun v S5 hq => ?_))
      obtain ⟨hv, h⟩ := hq
      subst hv
      refine A_call (j := 139) (As := [.ref 50]) (fr' := (140, 31, [some (.ref 50), some (.int x1), none], [])) (S' := S5) 2 rfl (e := e0) (by omega) (A_imp (hCN _ _ h) (fun v S6 hq => ?_))
      obtain ⟨r7, hv, h⟩ := hq
      subst hv
      refine A_br (x1 = 0) (r1 := ((140, 44, [some (.ref 50), some (.int x1), some (.int r7)], []), S6)) (r2 := ((140, 36, [some (.ref 50), some (.int x1), some (.int r7)], []), S6)) 3 rfl (fun c => ?_) (fun c => ?_)
      · have h := h.1 c
        refine ri_A.less (m := 140) (pc := 44) (L := [some (.ref 50), some (.int x1), some (.int r7)]) (L' := [some (.ref 50), none, none]) (st := []) ⟨rfl, trivial⟩ ?_
        exact wt140_b44 CN e0 he0 hCN (fun x1 S hk => ih x1 S hk) _ h
      · have h := h.2 c
        refine A_br (r7 = 0) (r1 := ((140, 44, [some (.ref 50), some (.int x1), some (.int r7)], []), S6)) (r2 := ((140, 40, [some (.ref 50), some (.int x1), some (.int r7)], []), S6)) 2 rfl (fun c => ?_) (fun c => ?_)
        · have h := h.1 c
          refine ri_A.less (m := 140) (pc := 44) (L := [some (.ref 50), some (.int x1), some (.int r7)]) (L' := [some (.ref 50), none, none]) (st := []) ⟨rfl, trivial⟩ ?_
          exact wt140_b44 CN e0 he0 hCN (fun x1 S hk => ih x1 S hk) _ h
        · have h := h.2 c
          refine A_nx 2 (fr' := (140, 45, [some (.ref 50), some (.int x1), some (.int r7)], [.int (1 : Int32)])) (S' := S6) rfl ?_
          refine ri_A.less (m := 140) (pc := 45) (L := [some (.ref 50), some (.int x1), some (.int r7)]) (L' := [some (.ref 50), none, none]) (st := [.int (1 : Int32)]) ⟨rfl, trivial⟩ ?_
          exact wt140_b45 CN e0 he0 hCN (fun x1 S hk => ih x1 S hk) _ _ h
set_option maxRecDepth 10000 in
set_option maxHeartbeats 1000000 in
theorem wt140 {E : ri_E} (CN : ri_H → (Int32 → ri_H → Prop) → Prop) (e0 : Nat) (he0 : 20 ≤ e0) (hCN : ∀ (S : ri_H) (Q : Int32 → ri_H → Prop), CN S Q → ri_A E e0 (ri_en 139 [.ref 50]) S (Qi Q))  {S : ri_H} {Q : Int32 → ri_H → Prop} (h : wboth CN  S Q) : ri_A E (e0 + 1) (ri_en 140 [.ref 50]) S (Qi Q) := by
  unfold wboth at h
  show ri_A E (e0 + 1) (140, 0, [some (.ref 50), none, none], []) S (Qi Q)
  refine A_call (j := 139) (As := [.ref 50]) (fr' := (140, 4, [some (.ref 50), none, none], [])) (S' := S) 2 rfl (e := e0) (by omega) (A_imp (hCN _ _ h) (fun v S1 hq => ?_))
  obtain ⟨r2, hv, h⟩ := hq
  subst hv
  refine A_nx 1 (fr' := (140, 5, [some (.ref 50), some (.int r2), none], [])) (S' := S1) rfl ?_
  refine ri_A.less (m := 140) (pc := 5) (L := [some (.ref 50), some (.int r2), none]) (L' := [some (.ref 50), some (.int r2), none]) (st := []) ⟨rfl, ⟨rfl, trivial⟩⟩ ?_
  obtain ⟨nn, h⟩ := h
  exact wt140_l5 CN e0 he0 hCN  nn _ _ h
/-! X5_either3, depth (e0 + 1) -/
set_option maxRecDepth 10000 in
set_option maxHeartbeats 1000000 in
theorem wt141_b44 {E : ri_E} (CB : ri_H → (Int32 → ri_H → Prop) → Prop) (e0 : Nat) (he0 : 20 ≤ e0) (hCB : ∀ (S : ri_H) (Q : Int32 → ri_H → Prop), CB S Q → ri_A E e0 (ri_en 140 [.ref 50]) S (Qi Q)) {K5 : Int32 → ri_H → Prop} {Q : Int32 → ri_H → Prop} (hK5 : ∀ (x1 : Int32) (S : ri_H), K5 x1 S → ri_A E (e0 + 1) (141, 5, [some (.ref 50), some (.int x1), none], []) S (Qi Q)) (s0 : Int32) (S : ri_H) (h : weither_b44 CB K5 Q s0 S) : ri_A E (e0 + 1) (141, 44, [some (.ref 50), none, none], [.int s0]) S (Qi Q) := by
  unfold weither_b44 at h
  refine A_nx 2 (fr' := (141, 5, [some (.ref 50), some (.int s0), none], [])) (S' := S) rfl ?_
  refine ri_A.less (m := 141) (pc := 5) (L := [some (.ref 50), some (.int s0), none]) (L' := [some (.ref 50), some (.int s0), none]) (st := []) ⟨rfl, ⟨rfl, trivial⟩⟩ ?_
  exact hK5 _ _ h
set_option maxRecDepth 10000 in
set_option maxHeartbeats 1000000 in
theorem wt141_b39 {E : ri_E} (CB : ri_H → (Int32 → ri_H → Prop) → Prop) (e0 : Nat) (he0 : 20 ≤ e0) (hCB : ∀ (S : ri_H) (Q : Int32 → ri_H → Prop), CB S Q → ri_A E e0 (ri_en 140 [.ref 50]) S (Qi Q)) {K5 : Int32 → ri_H → Prop} {Q : Int32 → ri_H → Prop} (hK5 : ∀ (x1 : Int32) (S : ri_H), K5 x1 S → ri_A E (e0 + 1) (141, 5, [some (.ref 50), some (.int x1), none], []) S (Qi Q))  (S : ri_H) (h : weither_b39 CB K5 Q  S) : ri_A E (e0 + 1) (141, 39, [some (.ref 50), none, none], []) S (Qi Q) := by
  unfold weither_b39 at h
  refine A_nx 2 (fr' := (141, 44, [some (.ref 50), none, none], [.int (1 : Int32)])) (S' := S) rfl ?_
  refine ri_A.less (m := 141) (pc := 44) (L := [some (.ref 50), none, none]) (L' := [some (.ref 50), none, none]) (st := [.int (1 : Int32)]) ⟨rfl, trivial⟩ ?_
  exact wt141_b44 CB e0 he0 hCB hK5 _ _ h
set_option maxRecDepth 10000 in
set_option maxHeartbeats 1000000 in
theorem wt141_l5 {E : ri_E} (CB : ri_H → (Int32 → ri_H → Prop) → Prop) (e0 : Nat) (he0 : 20 ≤ e0) (hCB : ∀ (S : ri_H) (Q : Int32 → ri_H → Prop), CB S Q → ri_A E e0 (ri_en 140 [.ref 50]) S (Qi Q)) {Q : Int32 → ri_H → Prop} : ∀ (n : Nat) (x1 : Int32) (S : ri_H), weither_l5 CB  Q n x1 S → ri_A E (e0 + 1) (141, 5, [some (.ref 50), some (.int x1), none], []) S (Qi Q) := by
  intro n
  induction n with
  | zero => intro x1 S h; exact h.elim
  | succ n ih =>
    intro x1 S h
    unfold weither_l5 at h
    refine A_call (j := 120) (As := [.ref 50, .int (111 : Int32), .int (114 : Int32), .int (0 : Int32), .int (0 : Int32), .int (0 : Int32), .int (0 : Int32), .int (0 : Int32), .int (0 : Int32)]) (fr' := (141, 19, [some (.ref 50), some (.int x1), none], [])) (S' := S) 10 rfl (e := 2) (by omega) (A_imp (wt120 (111 : Int32) (114 : Int32) (0 : Int32) (0 : Int32) (0 : Int32) (0 : Int32) (0 : Int32) (0 : Int32) h) (fun v S3 hq => ?_))
    obtain ⟨r4, hv, h⟩ := hq
    subst hv
    refine A_br (r4 = 0) (r1 := ((141, 48, [some (.ref 50), some (.int x1), none], []), S3)) (r2 := ((141, 22, [some (.ref 50), some (.int x1), none], []), S3)) 1 rfl (fun c => ?_) (fun c => ?_)
    · have h := h.1 c
      exact A_ret 2 (m := 141) (v := some (.int x1)) (S' := S3) rfl rfl ⟨_, rfl, h⟩
    · have h := h.2 c
      refine A_call (j := 117) (As := [.ref 50]) (fr' := (141, 26, [some (.ref 50), some (.int x1), none], [])) (S' := S3) 2 rfl (e := 1) (by omega) (A_imp (wt117  h) (fun v S5 hq => ?_))
      obtain ⟨hv, h⟩ := hq
      subst hv
      refine A_call (j := 140) (As := [.ref 50]) (fr' := (141, 30, [some (.ref 50), some (.int x1), none], [])) (S' := S5) 2 rfl (e := e0) (by omega) (A_imp (hCB _ _ h) (fun v S6 hq => ?_))
      obtain ⟨r7, hv, h⟩ := hq
      subst hv
      refine A_br (¬ x1 = 0) (r1 := ((141, 39, [some (.ref 50), some (.int x1), some (.int r7)], []), S6)) (r2 := ((141, 35, [some (.ref 50), some (.int x1), some (.int r7)], []), S6)) 3 rfl (fun c => ?_) (fun c => ?_)
      · have h := h.1 c
        refine ri_A.less (m := 141) (pc := 39) (L := [some (.ref 50), some (.int x1), some (.int r7)]) (L' := [some (.ref 50), none, none]) (st := []) ⟨rfl, trivial⟩ ?_
        exact wt141_b39 CB e0 he0 hCB (fun x1 S hk => ih x1 S hk) _ h
      · have h := h.2 c
        refine A_br (r7 = 0) (r1 := ((141, 43, [some (.ref 50), some (.int x1), some (.int r7)], []), S6)) (r2 := ((141, 39, [some (.ref 50), some (.int x1), some (.int r7)], []), S6)) 2 rfl (fun c => ?_) (fun c => ?_)
        · have h := h.1 c
          refine A_nx 1 (fr' := (141, 44, [some (.ref 50), some (.int x1), some (.int r7)], [.int (0 : Int32)])) (S' := S6) rfl ?_
          refine ri_A.less (m := 141) (pc := 44) (L := [some (.ref 50), some (.int x1), some (.int r7)]) (L' := [some (.ref 50), none, none]) (st := [.int (0 : Int32)]) ⟨rfl, trivial⟩ ?_
          exact wt141_b44 CB e0 he0 hCB (fun x1 S hk => ih x1 S hk) _ _ h
        · have h := h.2 c
          refine ri_A.less (m := 141) (pc := 39) (L := [some (.ref 50), some (.int x1), some (.int r7)]) (L' := [some (.ref 50), none, none]) (st := []) ⟨rfl, trivial⟩ ?_
          exact wt141_b39 CB e0 he0 hCB (fun x1 S hk => ih x1 S hk) _ h
set_option maxRecDepth 10000 in
set_option maxHeartbeats 1000000 in
theorem wt141 {E : ri_E} (CB : ri_H → (Int32 → ri_H → Prop) → Prop) (e0 : Nat) (he0 : 20 ≤ e0) (hCB : ∀ (S : ri_H) (Q : Int32 → ri_H → Prop), CB S Q → ri_A E e0 (ri_en 140 [.ref 50]) S (Qi Q))  {S : ri_H} {Q : Int32 → ri_H → Prop} (h : weither CB  S Q) : ri_A E (e0 + 1) (ri_en 141 [.ref 50]) S (Qi Q) := by
  unfold weither at h
  show ri_A E (e0 + 1) (141, 0, [some (.ref 50), none, none], []) S (Qi Q)
  refine A_call (j := 140) (As := [.ref 50]) (fr' := (141, 4, [some (.ref 50), none, none], [])) (S' := S) 2 rfl (e := e0) (by omega) (A_imp (hCB _ _ h) (fun v S1 hq => ?_))
  obtain ⟨r2, hv, h⟩ := hq
  subst hv
  refine A_nx 1 (fr' := (141, 5, [some (.ref 50), some (.int r2), none], [])) (S' := S1) rfl ?_
  refine ri_A.less (m := 141) (pc := 5) (L := [some (.ref 50), some (.int r2), none]) (L' := [some (.ref 50), some (.int r2), none]) (st := []) ⟨rfl, ⟨rfl, trivial⟩⟩ ?_
  obtain ⟨nn, h⟩ := h
  exact wt141_l5 CB e0 he0 hCB  nn _ _ h
/-! X5_atom3, depth (e0 + 1) -/
set_option maxRecDepth 10000 in
set_option maxHeartbeats 1000000 in
theorem wt136_b157 {E : ri_E} (CA : ri_H → (Int32 → ri_H → Prop) → Prop) (CE : ri_H → (Int32 → ri_H → Prop) → Prop) (e0 : Nat) (he0 : 20 ≤ e0) (hCA : ∀ (S : ri_H) (Q : Int32 → ri_H → Prop), CA S Q → ri_A E e0 (ri_en 130 [.ref 50]) S (Qi Q)) (hCE : ∀ (S : ri_H) (Q : Int32 → ri_H → Prop), CE S Q → ri_A E e0 (ri_en 135 [.ref 50]) S (Qi Q)) {Q : Int32 → ri_H → Prop} (x1 : Int32) (S : ri_H) (h : watom_b157 CA CE  Q x1 S) : ri_A E (e0 + 1) (136, 157, [some (.ref 50), some (.int x1)], []) S (Qi Q) := by
  unfold watom_b157 at h
  refine A_call (j := 118) (As := [.ref 50]) (fr' := (136, 161, [some (.ref 50), some (.int x1)], [])) (S' := S) 2 rfl (e := 0) (by omega) (A_imp (wt118  h) (fun v S5 hq => ?_))
  obtain ⟨hv, h⟩ := hq
  subst hv
  exact A_ret 2 (m := 136) (v := some (.int x1)) (S' := S5) rfl rfl ⟨_, rfl, h⟩
set_option maxRecDepth 10000 in
set_option maxHeartbeats 1000000 in
theorem wt136_b123 {E : ri_E} (CA : ri_H → (Int32 → ri_H → Prop) → Prop) (CE : ri_H → (Int32 → ri_H → Prop) → Prop) (e0 : Nat) (he0 : 20 ≤ e0) (hCA : ∀ (S : ri_H) (Q : Int32 → ri_H → Prop), CA S Q → ri_A E e0 (ri_en 130 [.ref 50]) S (Qi Q)) (hCE : ∀ (S : ri_H) (Q : Int32 → ri_H → Prop), CE S Q → ri_A E e0 (ri_en 135 [.ref 50]) S (Qi Q)) {Q : Int32 → ri_H → Prop} (x1 : Int32) (S : ri_H) (h : watom_b123 CA CE  Q x1 S) : ri_A E (e0 + 1) (136, 123, [some (.ref 50), some (.int x1)], []) S (Qi Q) := by
  unfold watom_b123 at h
  refine A_br (¬ (S.1 50 25) = 0) (r1 := ((136, 157, [some (.ref 50), some (.int x1)], []), S)) (r2 := ((136, 130, [some (.ref 50), some (.int x1)], []), S)) 3 rfl (fun c => ?_) (fun c => ?_)
  · have h := h.1 c
    refine ri_A.less (m := 136) (pc := 157) (L := [some (.ref 50), some (.int x1)]) (L' := [some (.ref 50), some (.int x1)]) (st := []) ⟨rfl, ⟨rfl, trivial⟩⟩ ?_
    exact wt136_b157 CA CE e0 he0 hCA hCE  _ _ h
  · have h := h.2 c
    refine A_br (¬ (S.1 50 21) = (1 : Int32)) (r1 := ((136, 157, [some (.ref 50), some (.int x1)], []), S)) (r2 := ((136, 138, [some (.ref 50), some (.int x1)], []), S)) 4 rfl (fun c => ?_) (fun c => ?_)
    · have h := h.1 c
      refine ri_A.less (m := 136) (pc := 157) (L := [some (.ref 50), some (.int x1)]) (L' := [some (.ref 50), some (.int x1)]) (st := []) ⟨rfl, ⟨rfl, trivial⟩⟩ ?_
      exact wt136_b157 CA CE e0 he0 hCA hCE  _ _ h
    · have h := h.2 c
      refine A_call (j := 123) (As := [.ref 50]) (fr' := (136, 142, [some (.ref 50), some (.int x1)], [])) (S' := S) 2 rfl (e := 3) (by omega) (A_imp (wt123  h) (fun v S6 hq => ?_))
      obtain ⟨r7, hv, h⟩ := hq
      subst hv
      refine A_br (¬ (S6.1 50 25) = 0) (r1 := ((136, 161, [some (.ref 50), some (.int r7)], []), S6)) (r2 := ((136, 150, [some (.ref 50), some (.int r7)], []), S6)) 4 rfl (fun c => ?_) (fun c => ?_)
      · have h := h.1 c
        exact A_ret 2 (m := 136) (v := some (.int r7)) (S' := S6) rfl rfl ⟨_, rfl, h⟩
      · have h := h.2 c
        refine A_call (j := 117) (As := [.ref 50]) (fr' := (136, 154, [some (.ref 50), some (.int r7)], [])) (S' := S6) 2 rfl (e := 1) (by omega) (A_imp (wt117  h) (fun v S8 hq => ?_))
        obtain ⟨hv, h⟩ := hq
        subst hv
        exact A_ret 3 (m := 136) (v := some (.int r7)) (S' := S8) rfl rfl ⟨_, rfl, h⟩
set_option maxRecDepth 10000 in
set_option maxHeartbeats 1000000 in
theorem wt136_b71 {E : ri_E} (CA : ri_H → (Int32 → ri_H → Prop) → Prop) (CE : ri_H → (Int32 → ri_H → Prop) → Prop) (e0 : Nat) (he0 : 20 ≤ e0) (hCA : ∀ (S : ri_H) (Q : Int32 → ri_H → Prop), CA S Q → ri_A E e0 (ri_en 130 [.ref 50]) S (Qi Q)) (hCE : ∀ (S : ri_H) (Q : Int32 → ri_H → Prop), CE S Q → ri_A E e0 (ri_en 135 [.ref 50]) S (Qi Q)) {Q : Int32 → ri_H → Prop} (x1 : Int32) (S : ri_H) (h : watom_b71 CA CE  Q x1 S) : ri_A E (e0 + 1) (136, 71, [some (.ref 50), some (.int x1)], []) S (Qi Q) := by
  unfold watom_b71 at h
  refine A_br (¬ (S.1 50 25) = 0) (r1 := ((136, 161, [some (.ref 50), some (.int x1)], []), (ri_wi S 50 24 ((S.1 50 24) - (1 : Int32))))) (r2 := ((136, 88, [some (.ref 50), some (.int x1)], []), (ri_wi S 50 24 ((S.1 50 24) - (1 : Int32))))) 9 rfl (fun c => ?_) (fun c => ?_)
  · have h := h.1 c
    exact A_ret 2 (m := 136) (v := some (.int x1)) (S' := (ri_wi S 50 24 ((S.1 50 24) - (1 : Int32)))) rfl rfl ⟨_, rfl, h⟩
  · have h := h.2 c
    refine A_call (j := 117) (As := [.ref 50]) (fr' := (136, 92, [some (.ref 50), some (.int x1)], [])) (S' := (ri_wi S 50 24 ((S.1 50 24) - (1 : Int32)))) 2 rfl (e := 1) (by omega) (A_imp (wt117  h) (fun v S16 hq => ?_))
    obtain ⟨hv, h⟩ := hq
    subst hv
    exact A_ret 3 (m := 136) (v := some (.int x1)) (S' := S16) rfl rfl ⟨_, rfl, h⟩
set_option maxRecDepth 10000 in
set_option maxHeartbeats 1000000 in
theorem wt136 {E : ri_E} (CA : ri_H → (Int32 → ri_H → Prop) → Prop) (CE : ri_H → (Int32 → ri_H → Prop) → Prop) (e0 : Nat) (he0 : 20 ≤ e0) (hCA : ∀ (S : ri_H) (Q : Int32 → ri_H → Prop), CA S Q → ri_A E e0 (ri_en 130 [.ref 50]) S (Qi Q)) (hCE : ∀ (S : ri_H) (Q : Int32 → ri_H → Prop), CE S Q → ri_A E e0 (ri_en 135 [.ref 50]) S (Qi Q))  {S : ri_H} {Q : Int32 → ri_H → Prop} (h : watom CA CE  S Q) : ri_A E (e0 + 1) (ri_en 136 [.ref 50]) S (Qi Q) := by
  unfold watom at h
  show ri_A E (e0 + 1) (136, 0, [some (.ref 50), none], []) S (Qi Q)
  refine A_call (j := 121) (As := [.ref 50, .int (45 : Int32)]) (fr' := (136, 8, [some (.ref 50), some (.int (0 : Int32))], [])) (S' := S) 5 rfl (e := 0) (by omega) (A_imp (wt121 (45 : Int32) h) (fun v S1 hq => ?_))
  obtain ⟨r2, hv, h⟩ := hq
  subst hv
  refine A_br (r2 = 0) (r1 := ((136, 37, [some (.ref 50), some (.int (0 : Int32))], []), S1)) (r2 := ((136, 11, [some (.ref 50), some (.int (0 : Int32))], []), S1)) 1 rfl (fun c => ?_) (fun c => ?_)
  · have h := h.1 c
    refine A_call (j := 121) (As := [.ref 50, .int (40 : Int32)]) (fr' := (136, 43, [some (.ref 50), some (.int (0 : Int32))], [])) (S' := S1) 3 rfl (e := 0) (by omega) (A_imp (wt121 (40 : Int32) h) (fun v S3 hq => ?_))
    obtain ⟨r4, hv, h⟩ := hq
    subst hv
    refine A_br (r4 = 0) (r1 := ((136, 95, [some (.ref 50), some (.int (0 : Int32))], []), S3)) (r2 := ((136, 46, [some (.ref 50), some (.int (0 : Int32))], []), S3)) 1 rfl (fun c => ?_) (fun c => ?_)
    · have h := h.1 c
      refine A_br (¬ (S3.1 50 25) = 0) (r1 := ((136, 123, [some (.ref 50), some (.int (0 : Int32))], []), S3)) (r2 := ((136, 102, [some (.ref 50), some (.int (0 : Int32))], []), S3)) 3 rfl (fun c => ?_) (fun c => ?_)
      · have h := h.1 c
        refine ri_A.less (m := 136) (pc := 123) (L := [some (.ref 50), some (.int (0 : Int32))]) (L' := [some (.ref 50), some (.int (0 : Int32))]) (st := []) ⟨rfl, ⟨rfl, trivial⟩⟩ ?_
        exact wt136_b123 CA CE e0 he0 hCA hCE  _ _ h
      · have h := h.2 c
        refine A_br (¬ (S3.1 50 21) = (2 : Int32)) (r1 := ((136, 123, [some (.ref 50), some (.int (0 : Int32))], []), S3)) (r2 := ((136, 110, [some (.ref 50), some (.int (0 : Int32))], []), S3)) 4 rfl (fun c => ?_) (fun c => ?_)
        · have h := h.1 c
          refine ri_A.less (m := 136) (pc := 123) (L := [some (.ref 50), some (.int (0 : Int32))]) (L' := [some (.ref 50), some (.int (0 : Int32))]) (st := []) ⟨rfl, ⟨rfl, trivial⟩⟩ ?_
          exact wt136_b123 CA CE e0 he0 hCA hCE  _ _ h
        · have h := h.2 c
          refine A_call (j := 117) (As := [.ref 50]) (fr' := (136, 120, [some (.ref 50), some (.int ((S3.2 50 23)).toInt32)], [])) (S' := S3) 6 rfl (e := 1) (by omega) (A_imp (wt117  h) (fun v S9 hq => ?_))
          obtain ⟨hv, h⟩ := hq
          subst hv
          exact A_ret 3 (m := 136) (v := some (.int ((S3.2 50 23)).toInt32)) (S' := S9) rfl rfl ⟨_, rfl, h⟩
    · have h := h.2 c
      refine A_call (j := 122) (As := [.ref 50]) (fr' := (136, 50, [some (.ref 50), some (.int (0 : Int32))], [])) (S' := S3) 2 rfl (e := 2) (by omega) (A_imp (wt122  h) (fun v S10 hq => ?_))
      obtain ⟨r11, hv, h⟩ := hq
      subst hv
      refine A_br (r11 = 0) (r1 := ((136, 161, [some (.ref 50), some (.int (0 : Int32))], []), S10)) (r2 := ((136, 53, [some (.ref 50), some (.int (0 : Int32))], []), S10)) 1 rfl (fun c => ?_) (fun c => ?_)
      · have h := h.1 c
        exact A_ret 2 (m := 136) (v := some (.int (0 : Int32))) (S' := S10) rfl rfl ⟨_, rfl, h⟩
      · have h := h.2 c
        refine A_call (j := 135) (As := [.ref 50]) (fr' := (136, 57, [some (.ref 50), some (.int (0 : Int32))], [])) (S' := S10) 2 rfl (e := e0) (by omega) (A_imp (hCE _ _ h) (fun v S12 hq => ?_))
        obtain ⟨r13, hv, h⟩ := hq
        subst hv
        refine A_call (j := 121) (As := [.ref 50, .int (41 : Int32)]) (fr' := (136, 64, [some (.ref 50), some (.int r13)], [])) (S' := S12) 4 rfl (e := 0) (by omega) (A_imp (wt121 (41 : Int32) h) (fun v S14 hq => ?_))
        obtain ⟨r15, hv, h⟩ := hq
        subst hv
        refine A_br (¬ r15 = 0) (r1 := ((136, 71, [some (.ref 50), some (.int r13)], []), S14)) (r2 := ((136, 67, [some (.ref 50), some (.int r13)], []), S14)) 1 rfl (fun c => ?_) (fun c => ?_)
        · have h := h.1 c
          refine ri_A.less (m := 136) (pc := 71) (L := [some (.ref 50), some (.int r13)]) (L' := [some (.ref 50), some (.int r13)]) (st := []) ⟨rfl, ⟨rfl, trivial⟩⟩ ?_
          exact wt136_b71 CA CE e0 he0 hCA hCE  _ _ h
        · have h := h.2 c
          refine A_call (j := 118) (As := [.ref 50]) (fr' := (136, 71, [some (.ref 50), some (.int r13)], [])) (S' := S14) 2 rfl (e := 0) (by omega) (A_imp (wt118  h) (fun v S17 hq => ?_))
          obtain ⟨hv, h⟩ := hq
          subst hv
          refine ri_A.less (m := 136) (pc := 71) (L := [some (.ref 50), some (.int r13)]) (L' := [some (.ref 50), some (.int r13)]) (st := []) ⟨rfl, ⟨rfl, trivial⟩⟩ ?_
          exact wt136_b71 CA CE e0 he0 hCA hCE  _ _ h
  · have h := h.2 c
    refine A_call (j := 122) (As := [.ref 50]) (fr' := (136, 15, [some (.ref 50), some (.int (0 : Int32))], [])) (S' := S1) 2 rfl (e := 2) (by omega) (A_imp (wt122  h) (fun v S18 hq => ?_))
    obtain ⟨r19, hv, h⟩ := hq
    subst hv
    refine A_br (r19 = 0) (r1 := ((136, 161, [some (.ref 50), some (.int (0 : Int32))], []), S18)) (r2 := ((136, 18, [some (.ref 50), some (.int (0 : Int32))], []), S18)) 1 rfl (fun c => ?_) (fun c => ?_)
    · have h := h.1 c
      exact A_ret 2 (m := 136) (v := some (.int (0 : Int32))) (S' := S18) rfl rfl ⟨_, rfl, h⟩
    · have h := h.2 c
      refine A_call (j := 130) (As := [.ref 50]) (fr' := (136, 22, [some (.ref 50), some (.int (0 : Int32))], [])) (S' := S18) 2 rfl (e := e0) (by omega) (A_imp (hCA _ _ h) (fun v S20 hq => ?_))
      obtain ⟨r21, hv, h⟩ := hq
      subst hv
      exact A_ret 11 (m := 136) (v := some (.int (-r21))) (S' := (ri_wi S20 50 24 ((S20.1 50 24) - (1 : Int32)))) rfl rfl ⟨_, rfl, h⟩
/-! X5_not3, depth (e0 + 1) -/
set_option maxRecDepth 10000 in
set_option maxHeartbeats 1000000 in
theorem wt139_b120 {E : ri_E} (CN : ri_H → (Int32 → ri_H → Prop) → Prop) (CD : ri_H → (Int32 → ri_H → Prop) → Prop) (e0 : Nat) (he0 : 20 ≤ e0) (hCN : ∀ (S : ri_H) (Q : Int32 → ri_H → Prop), CN S Q → ri_A E e0 (ri_en 133 [.ref 50]) S (Qi Q)) (hCD : ∀ (S : ri_H) (Q : Int32 → ri_H → Prop), CD S Q → ri_A E e0 (ri_en 138 [.ref 50]) S (Qi Q)) {Q : Int32 → ri_H → Prop}  (S : ri_H) (h : wnot_b120 CN CD  Q  S) : ri_A E (e0 + 1) (139, 120, [none, none, none, none], []) S (Qi Q) := by
  unfold wnot_b120 at h
  exact A_ret 3 (m := 139) (v := some (.int (1 : Int32))) (S' := S) rfl rfl ⟨_, rfl, h⟩
set_option maxRecDepth 10000 in
set_option maxHeartbeats 1000000 in
theorem wt139_b93 {E : ri_E} (CN : ri_H → (Int32 → ri_H → Prop) → Prop) (CD : ri_H → (Int32 → ri_H → Prop) → Prop) (e0 : Nat) (he0 : 20 ≤ e0) (hCN : ∀ (S : ri_H) (Q : Int32 → ri_H → Prop), CN S Q → ri_A E e0 (ri_en 133 [.ref 50]) S (Qi Q)) (hCD : ∀ (S : ri_H) (Q : Int32 → ri_H → Prop), CD S Q → ri_A E e0 (ri_en 138 [.ref 50]) S (Qi Q)) {Q : Int32 → ri_H → Prop} (x1 : Int32) (s0 : Int32) (S : ri_H) (h : wnot_b93 CN CD  Q x1 s0 S) : ri_A E (e0 + 1) (139, 93, [some (.ref 50), some (.int x1), none, none], [.int s0]) S (Qi Q) := by
  unfold wnot_b93 at h
  refine A_call (j := 117) (As := [.ref 50]) (fr' := (139, 98, [some (.ref 50), some (.int x1), some (.int s0), none], [])) (S' := S) 3 rfl (e := 1) (by omega) (A_imp (wt117  h) (fun v S7 hq => ?_))
  obtain ⟨hv, h⟩ := hq
  subst hv
  refine A_call (j := 138) (As := [.ref 50]) (fr' := (139, 102, [some (.ref 50), some (.int x1), some (.int s0), none], [])) (S' := S7) 2 rfl (e := e0) (by omega) (A_imp (hCD _ _ h) (fun v S8 hq => ?_))
  obtain ⟨r9, hv, h⟩ := hq
  subst hv
  refine A_br (s0 = 0) (r1 := ((139, 115, [some (.ref 50), some (.int x1), some (.int s0), some (.int r9)], []), S8)) (r2 := ((139, 107, [some (.ref 50), some (.int x1), some (.int s0), some (.int r9)], []), S8)) 3 rfl (fun c => ?_) (fun c => ?_)
  · have h := h.1 c
    refine A_br (¬ x1 = r9) (r1 := ((139, 124, [some (.ref 50), some (.int x1), some (.int s0), some (.int r9)], []), S8)) (r2 := ((139, 120, [some (.ref 50), some (.int x1), some (.int s0), some (.int r9)], []), S8)) 3 rfl (fun c => ?_) (fun c => ?_)
    · have h := h.1 c
      exact A_ret 2 (m := 139) (v := some (.int (0 : Int32))) (S' := S8) rfl rfl ⟨_, rfl, h⟩
    · have h := h.2 c
      refine ri_A.less (m := 139) (pc := 120) (L := [some (.ref 50), some (.int x1), some (.int s0), some (.int r9)]) (L' := [none, none, none, none]) (st := []) trivial ?_
      exact wt139_b120 CN CD e0 he0 hCN hCD  _ h
  · have h := h.2 c
    refine A_br (r9 ≤ x1) (r1 := ((139, 124, [some (.ref 50), some (.int x1), some (.int s0), some (.int r9)], []), S8)) (r2 := ((139, 112, [some (.ref 50), some (.int x1), some (.int s0), some (.int r9)], []), S8)) 3 rfl (fun c => ?_) (fun c => ?_)
    · have h := h.1 c
      exact A_ret 2 (m := 139) (v := some (.int (0 : Int32))) (S' := S8) rfl rfl ⟨_, rfl, h⟩
    · have h := h.2 c
      refine A_nx 1 (fr' := (139, 120, [some (.ref 50), some (.int x1), some (.int s0), some (.int r9)], [])) (S' := S8) rfl ?_
      refine ri_A.less (m := 139) (pc := 120) (L := [some (.ref 50), some (.int x1), some (.int s0), some (.int r9)]) (L' := [none, none, none, none]) (st := []) trivial ?_
      exact wt139_b120 CN CD e0 he0 hCN hCD  _ h
set_option maxRecDepth 10000 in
set_option maxHeartbeats 1000000 in
theorem wt139_b77 {E : ri_E} (CN : ri_H → (Int32 → ri_H → Prop) → Prop) (CD : ri_H → (Int32 → ri_H → Prop) → Prop) (e0 : Nat) (he0 : 20 ≤ e0) (hCN : ∀ (S : ri_H) (Q : Int32 → ri_H → Prop), CN S Q → ri_A E e0 (ri_en 133 [.ref 50]) S (Qi Q)) (hCD : ∀ (S : ri_H) (Q : Int32 → ri_H → Prop), CD S Q → ri_A E e0 (ri_en 138 [.ref 50]) S (Qi Q)) {Q : Int32 → ri_H → Prop} (x1 : Int32) (S : ri_H) (h : wnot_b77 CN CD  Q x1 S) : ri_A E (e0 + 1) (139, 77, [some (.ref 50), some (.int x1), none, none], []) S (Qi Q) := by
  unfold wnot_b77 at h
  refine A_br (¬ (lg_cmp (S.2 50 23) (60 : Int64)) = 0) (r1 := ((139, 92, [some (.ref 50), some (.int x1), none, none], []), S)) (r2 := ((139, 88, [some (.ref 50), some (.int x1), none, none], []), S)) 5 rfl (fun c => ?_) (fun c => ?_)
  · have h := h.1 c
    refine A_nx 1 (fr' := (139, 93, [some (.ref 50), some (.int x1), none, none], [.int (0 : Int32)])) (S' := S) rfl ?_
    refine ri_A.less (m := 139) (pc := 93) (L := [some (.ref 50), some (.int x1), none, none]) (L' := [some (.ref 50), some (.int x1), none, none]) (st := [.int (0 : Int32)]) ⟨rfl, ⟨rfl, trivial⟩⟩ ?_
    exact wt139_b93 CN CD e0 he0 hCN hCD  _ _ _ h
  · have h := h.2 c
    refine A_nx 2 (fr' := (139, 93, [some (.ref 50), some (.int x1), none, none], [.int (1 : Int32)])) (S' := S) rfl ?_
    refine ri_A.less (m := 139) (pc := 93) (L := [some (.ref 50), some (.int x1), none, none]) (L' := [some (.ref 50), some (.int x1), none, none]) (st := [.int (1 : Int32)]) ⟨rfl, ⟨rfl, trivial⟩⟩ ?_
    exact wt139_b93 CN CD e0 he0 hCN hCD  _ _ _ h
set_option maxRecDepth 10000 in
set_option maxHeartbeats 1000000 in
theorem wt139 {E : ri_E} (CN : ri_H → (Int32 → ri_H → Prop) → Prop) (CD : ri_H → (Int32 → ri_H → Prop) → Prop) (e0 : Nat) (he0 : 20 ≤ e0) (hCN : ∀ (S : ri_H) (Q : Int32 → ri_H → Prop), CN S Q → ri_A E e0 (ri_en 133 [.ref 50]) S (Qi Q)) (hCD : ∀ (S : ri_H) (Q : Int32 → ri_H → Prop), CD S Q → ri_A E e0 (ri_en 138 [.ref 50]) S (Qi Q))  {S : ri_H} {Q : Int32 → ri_H → Prop} (h : wnot CN CD  S Q) : ri_A E (e0 + 1) (ri_en 139 [.ref 50]) S (Qi Q) := by
  unfold wnot at h
  show ri_A E (e0 + 1) (139, 0, [some (.ref 50), none, none, none], []) S (Qi Q)
  refine A_call (j := 120) (As := [.ref 50, .int (110 : Int32), .int (111 : Int32), .int (116 : Int32), .int (0 : Int32), .int (0 : Int32), .int (0 : Int32), .int (0 : Int32), .int (0 : Int32)]) (fr' := (139, 15, [some (.ref 50), none, none, none], [])) (S' := S) 10 rfl (e := 2) (by omega) (A_imp (wt120 (110 : Int32) (111 : Int32) (116 : Int32) (0 : Int32) (0 : Int32) (0 : Int32) (0 : Int32) (0 : Int32) h) (fun v S1 hq => ?_))
  obtain ⟨r2, hv, h⟩ := hq
  subst hv
  refine A_br (r2 = 0) (r1 := ((139, 52, [some (.ref 50), none, none, none], []), S1)) (r2 := ((139, 18, [some (.ref 50), none, none, none], []), S1)) 1 rfl (fun c => ?_) (fun c => ?_)
  · have h := h.1 c
    refine A_call (j := 138) (As := [.ref 50]) (fr' := (139, 56, [some (.ref 50), none, none, none], [])) (S' := S1) 2 rfl (e := e0) (by omega) (A_imp (hCD _ _ h) (fun v S3 hq => ?_))
    obtain ⟨r4, hv, h⟩ := hq
    subst hv
    refine A_call (j := 121) (As := [.ref 50, .int (60 : Int32)]) (fr' := (139, 63, [some (.ref 50), some (.int r4), none, none], [])) (S' := S3) 4 rfl (e := 0) (by omega) (A_imp (wt121 (60 : Int32) h) (fun v S5 hq => ?_))
    obtain ⟨r6, hv, h⟩ := hq
    subst hv
    refine A_br (¬ r6 = 0) (r1 := ((139, 77, [some (.ref 50), some (.int r4), none, none], []), S5)) (r2 := ((139, 66, [some (.ref 50), some (.int r4), none, none], []), S5)) 1 rfl (fun c => ?_) (fun c => ?_)
    · have h := h.1 c
      refine ri_A.less (m := 139) (pc := 77) (L := [some (.ref 50), some (.int r4), none, none]) (L' := [some (.ref 50), some (.int r4), none, none]) (st := []) ⟨rfl, ⟨rfl, trivial⟩⟩ ?_
      exact wt139_b77 CN CD e0 he0 hCN hCD  _ _ h
    · have h := h.2 c
      refine A_call (j := 121) (As := [.ref 50, .int (61 : Int32)]) (fr' := (139, 72, [some (.ref 50), some (.int r4), none, none], [])) (S' := S5) 3 rfl (e := 0) (by omega) (A_imp (wt121 (61 : Int32) h) (fun v S10 hq => ?_))
      obtain ⟨r11, hv, h⟩ := hq
      subst hv
      refine A_br (¬ r11 = 0) (r1 := ((139, 77, [some (.ref 50), some (.int r4), none, none], []), S10)) (r2 := ((139, 75, [some (.ref 50), some (.int r4), none, none], []), S10)) 1 rfl (fun c => ?_) (fun c => ?_)
      · have h := h.1 c
        refine ri_A.less (m := 139) (pc := 77) (L := [some (.ref 50), some (.int r4), none, none]) (L' := [some (.ref 50), some (.int r4), none, none]) (st := []) ⟨rfl, ⟨rfl, trivial⟩⟩ ?_
        exact wt139_b77 CN CD e0 he0 hCN hCD  _ _ h
      · have h := h.2 c
        exact A_ret 2 (m := 139) (v := some (.int r4)) (S' := S10) rfl rfl ⟨_, rfl, h⟩
  · have h := h.2 c
    refine A_call (j := 122) (As := [.ref 50]) (fr' := (139, 22, [some (.ref 50), none, none, none], [])) (S' := S1) 2 rfl (e := 2) (by omega) (A_imp (wt122  h) (fun v S12 hq => ?_))
    obtain ⟨r13, hv, h⟩ := hq
    subst hv
    refine A_br (¬ r13 = 0) (r1 := ((139, 27, [some (.ref 50), none, none, none], []), S12)) (r2 := ((139, 25, [some (.ref 50), none, none, none], []), S12)) 1 rfl (fun c => ?_) (fun c => ?_)
    · have h := h.1 c
      refine A_call (j := 133) (As := [.ref 50]) (fr' := (139, 31, [some (.ref 50), none, none, none], [])) (S' := S12) 2 rfl (e := e0) (by omega) (A_imp (hCN _ _ h) (fun v S14 hq => ?_))
      obtain ⟨r15, hv, h⟩ := hq
      subst hv
      refine A_br (¬ r15 = 0) (r1 := ((139, 50, [some (.ref 50), some (.int r15), none, none], []), (ri_wi S14 50 24 ((S14.1 50 24) - (1 : Int32))))) (r2 := ((139, 46, [some (.ref 50), some (.int r15), none, none], []), (ri_wi S14 50 24 ((S14.1 50 24) - (1 : Int32))))) 9 rfl (fun c => ?_) (fun c => ?_)
      · have h := h.1 c
        exact A_ret 2 (m := 139) (v := some (.int (0 : Int32))) (S' := (ri_wi S14 50 24 ((S14.1 50 24) - (1 : Int32)))) rfl rfl ⟨_, rfl, h⟩
      · have h := h.2 c
        exact A_ret 3 (m := 139) (v := some (.int (1 : Int32))) (S' := (ri_wi S14 50 24 ((S14.1 50 24) - (1 : Int32)))) rfl rfl ⟨_, rfl, h⟩
    · have h := h.2 c
      exact A_ret 2 (m := 139) (v := some (.int (0 : Int32))) (S' := S12) rfl rfl ⟨_, rfl, h⟩
/-! X5_term2, depth (e0 + 1) -/
set_option maxRecDepth 10000 in
set_option maxHeartbeats 1000000 in
theorem wt143_l5 {E : ri_E} (CA : ri_H → (Int32 → ri_H → Prop) → Prop) (e0 : Nat) (he0 : 20 ≤ e0) (hCA : ∀ (S : ri_H) (Q : Int32 → ri_H → Prop), CA S Q → ri_A E e0 (ri_en 142 [.ref 50]) S (Qi Q)) {Q : Int32 → ri_H → Prop} : ∀ (n : Nat) (x1 : Int32) (S : ri_H), wterm_l5 CA  Q n x1 S → ri_A E (e0 + 1) (143, 5, [some (.ref 50), some (.int x1)], []) S (Qi Q) := by
  intro n
  induction n with
  | zero => intro x1 S h; exact h.elim
  | succ n ih =>
    intro x1 S h
    unfold wterm_l5 at h
    refine A_call (j := 121) (As := [.ref 50, .int (42 : Int32)]) (fr' := (143, 11, [some (.ref 50), some (.int x1)], [])) (S' := S) 3 rfl (e := 0) (by omega) (A_imp (wt121 (42 : Int32) h) (fun v S3 hq => ?_))
    obtain ⟨r4, hv, h⟩ := hq
    subst hv
    refine A_br (r4 = 0) (r1 := ((143, 28, [some (.ref 50), some (.int x1)], []), S3)) (r2 := ((143, 14, [some (.ref 50), some (.int x1)], []), S3)) 1 rfl (fun c => ?_) (fun c => ?_)
    · have h := h.1 c
      exact A_ret 2 (m := 143) (v := some (.int x1)) (S' := S3) rfl rfl ⟨_, rfl, h⟩
    · have h := h.2 c
      refine A_call (j := 117) (As := [.ref 50]) (fr' := (143, 18, [some (.ref 50), some (.int x1)], [])) (S' := S3) 2 rfl (e := 1) (by omega) (A_imp (wt117  h) (fun v S5 hq => ?_))
      obtain ⟨hv, h⟩ := hq
      subst hv
      refine A_call (j := 142) (As := [.ref 50]) (fr' := (143, 23, [some (.ref 50), some (.int x1)], [.int x1])) (S' := S5) 3 rfl (e := e0) (by omega) (A_imp (hCA _ _ h) (fun v S6 hq => ?_))
      obtain ⟨r7, hv, h⟩ := hq
      subst hv
      refine A_nx 3 (fr' := (143, 5, [some (.ref 50), some (.int (x1 * r7))], [])) (S' := S6) rfl ?_
      refine ri_A.less (m := 143) (pc := 5) (L := [some (.ref 50), some (.int (x1 * r7))]) (L' := [some (.ref 50), some (.int (x1 * r7))]) (st := []) ⟨rfl, ⟨rfl, trivial⟩⟩ ?_
      exact ih _ _ h
set_option maxRecDepth 10000 in
set_option maxHeartbeats 1000000 in
theorem wt143 {E : ri_E} (CA : ri_H → (Int32 → ri_H → Prop) → Prop) (e0 : Nat) (he0 : 20 ≤ e0) (hCA : ∀ (S : ri_H) (Q : Int32 → ri_H → Prop), CA S Q → ri_A E e0 (ri_en 142 [.ref 50]) S (Qi Q))  {S : ri_H} {Q : Int32 → ri_H → Prop} (h : wterm CA  S Q) : ri_A E (e0 + 1) (ri_en 143 [.ref 50]) S (Qi Q) := by
  unfold wterm at h
  show ri_A E (e0 + 1) (143, 0, [some (.ref 50), none], []) S (Qi Q)
  refine A_call (j := 142) (As := [.ref 50]) (fr' := (143, 4, [some (.ref 50), none], [])) (S' := S) 2 rfl (e := e0) (by omega) (A_imp (hCA _ _ h) (fun v S1 hq => ?_))
  obtain ⟨r2, hv, h⟩ := hq
  subst hv
  refine A_nx 1 (fr' := (143, 5, [some (.ref 50), some (.int r2)], [])) (S' := S1) rfl ?_
  refine ri_A.less (m := 143) (pc := 5) (L := [some (.ref 50), some (.int r2)]) (L' := [some (.ref 50), some (.int r2)]) (st := []) ⟨rfl, ⟨rfl, trivial⟩⟩ ?_
  obtain ⟨nn, h⟩ := h
  exact wt143_l5 CA e0 he0 hCA  nn _ _ h
/-! X5_added2, depth (e0 + 1) -/
set_option maxRecDepth 10000 in
set_option maxHeartbeats 1000000 in
theorem wt144_b62 {E : ri_E} (CT : ri_H → (Int32 → ri_H → Prop) → Prop) (e0 : Nat) (he0 : 20 ≤ e0) (hCT : ∀ (S : ri_H) (Q : Int32 → ri_H → Prop), CT S Q → ri_A E e0 (ri_en 143 [.ref 50]) S (Qi Q)) {K5 : Int32 → ri_H → Prop} {Q : Int32 → ri_H → Prop} (hK5 : ∀ (x1 : Int32) (S : ri_H), K5 x1 S → ri_A E (e0 + 1) (144, 5, [some (.ref 50), some (.int x1), none, none], []) S (Qi Q)) (s0 : Int32) (S : ri_H) (h : wadded_b62 CT K5 Q s0 S) : ri_A E (e0 + 1) (144, 62, [some (.ref 50), none, none, none], [.int s0]) S (Qi Q) := by
  unfold wadded_b62 at h
  refine A_nx 2 (fr' := (144, 5, [some (.ref 50), some (.int s0), none, none], [])) (S' := S) rfl ?_
  refine ri_A.less (m := 144) (pc := 5) (L := [some (.ref 50), some (.int s0), none, none]) (L' := [some (.ref 50), some (.int s0), none, none]) (st := []) ⟨rfl, ⟨rfl, trivial⟩⟩ ?_
  exact hK5 _ _ h
set_option maxRecDepth 10000 in
set_option maxHeartbeats 1000000 in
theorem wt144_b39 {E : ri_E} (CT : ri_H → (Int32 → ri_H → Prop) → Prop) (e0 : Nat) (he0 : 20 ≤ e0) (hCT : ∀ (S : ri_H) (Q : Int32 → ri_H → Prop), CT S Q → ri_A E e0 (ri_en 143 [.ref 50]) S (Qi Q)) {K5 : Int32 → ri_H → Prop} {Q : Int32 → ri_H → Prop} (hK5 : ∀ (x1 : Int32) (S : ri_H), K5 x1 S → ri_A E (e0 + 1) (144, 5, [some (.ref 50), some (.int x1), none, none], []) S (Qi Q)) (x1 : Int32) (s0 : Int32) (S : ri_H) (h : wadded_b39 CT K5 Q x1 s0 S) : ri_A E (e0 + 1) (144, 39, [some (.ref 50), some (.int x1), none, none], [.int s0]) S (Qi Q) := by
  unfold wadded_b39 at h
  refine A_call (j := 117) (As := [.ref 50]) (fr' := (144, 44, [some (.ref 50), some (.int x1), some (.int s0), none], [])) (S' := S) 3 rfl (e := 1) (by omega) (A_imp (wt117  h) (fun v S5 hq => ?_))
  obtain ⟨hv, h⟩ := hq
  subst hv
  refine A_call (j := 143) (As := [.ref 50]) (fr' := (144, 48, [some (.ref 50), some (.int x1), some (.int s0), none], [])) (S' := S5) 2 rfl (e := e0) (by omega) (A_imp (hCT _ _ h) (fun v S6 hq => ?_))
  obtain ⟨r7, hv, h⟩ := hq
  subst hv
  refine A_br (s0 = 0) (r1 := ((144, 59, [some (.ref 50), some (.int x1), some (.int s0), some (.int r7)], []), S6)) (r2 := ((144, 53, [some (.ref 50), some (.int x1), some (.int s0), some (.int r7)], []), S6)) 3 rfl (fun c => ?_) (fun c => ?_)
  · have h := h.1 c
    refine A_nx 3 (fr' := (144, 62, [some (.ref 50), some (.int x1), some (.int s0), some (.int r7)], [.int (x1 - r7)])) (S' := S6) rfl ?_
    refine ri_A.less (m := 144) (pc := 62) (L := [some (.ref 50), some (.int x1), some (.int s0), some (.int r7)]) (L' := [some (.ref 50), none, none, none]) (st := [.int (x1 - r7)]) ⟨rfl, trivial⟩ ?_
    exact wt144_b62 CT e0 he0 hCT hK5 _ _ h
  · have h := h.2 c
    refine A_nx 4 (fr' := (144, 62, [some (.ref 50), some (.int x1), some (.int s0), some (.int r7)], [.int (x1 + r7)])) (S' := S6) rfl ?_
    refine ri_A.less (m := 144) (pc := 62) (L := [some (.ref 50), some (.int x1), some (.int s0), some (.int r7)]) (L' := [some (.ref 50), none, none, none]) (st := [.int (x1 + r7)]) ⟨rfl, trivial⟩ ?_
    exact wt144_b62 CT e0 he0 hCT hK5 _ _ h
set_option maxRecDepth 10000 in
set_option maxHeartbeats 1000000 in
theorem wt144_b23 {E : ri_E} (CT : ri_H → (Int32 → ri_H → Prop) → Prop) (e0 : Nat) (he0 : 20 ≤ e0) (hCT : ∀ (S : ri_H) (Q : Int32 → ri_H → Prop), CT S Q → ri_A E e0 (ri_en 143 [.ref 50]) S (Qi Q)) {K5 : Int32 → ri_H → Prop} {Q : Int32 → ri_H → Prop} (hK5 : ∀ (x1 : Int32) (S : ri_H), K5 x1 S → ri_A E (e0 + 1) (144, 5, [some (.ref 50), some (.int x1), none, none], []) S (Qi Q)) (x1 : Int32) (S : ri_H) (h : wadded_b23 CT K5 Q x1 S) : ri_A E (e0 + 1) (144, 23, [some (.ref 50), some (.int x1), none, none], []) S (Qi Q) := by
  unfold wadded_b23 at h
  refine A_br (¬ (lg_cmp (S.2 50 23) (43 : Int64)) = 0) (r1 := ((144, 38, [some (.ref 50), some (.int x1), none, none], []), S)) (r2 := ((144, 34, [some (.ref 50), some (.int x1), none, none], []), S)) 5 rfl (fun c => ?_) (fun c => ?_)
  · have h := h.1 c
    refine A_nx 1 (fr' := (144, 39, [some (.ref 50), some (.int x1), none, none], [.int (0 : Int32)])) (S' := S) rfl ?_
    refine ri_A.less (m := 144) (pc := 39) (L := [some (.ref 50), some (.int x1), none, none]) (L' := [some (.ref 50), some (.int x1), none, none]) (st := [.int (0 : Int32)]) ⟨rfl, ⟨rfl, trivial⟩⟩ ?_
    exact wt144_b39 CT e0 he0 hCT hK5 _ _ _ h
  · have h := h.2 c
    refine A_nx 2 (fr' := (144, 39, [some (.ref 50), some (.int x1), none, none], [.int (1 : Int32)])) (S' := S) rfl ?_
    refine ri_A.less (m := 144) (pc := 39) (L := [some (.ref 50), some (.int x1), none, none]) (L' := [some (.ref 50), some (.int x1), none, none]) (st := [.int (1 : Int32)]) ⟨rfl, ⟨rfl, trivial⟩⟩ ?_
    exact wt144_b39 CT e0 he0 hCT hK5 _ _ _ h
set_option maxRecDepth 10000 in
set_option maxHeartbeats 1000000 in
theorem wt144_l5 {E : ri_E} (CT : ri_H → (Int32 → ri_H → Prop) → Prop) (e0 : Nat) (he0 : 20 ≤ e0) (hCT : ∀ (S : ri_H) (Q : Int32 → ri_H → Prop), CT S Q → ri_A E e0 (ri_en 143 [.ref 50]) S (Qi Q)) {Q : Int32 → ri_H → Prop} : ∀ (n : Nat) (x1 : Int32) (S : ri_H), wadded_l5 CT  Q n x1 S → ri_A E (e0 + 1) (144, 5, [some (.ref 50), some (.int x1), none, none], []) S (Qi Q) := by
  intro n
  induction n with
  | zero => intro x1 S h; exact h.elim
  | succ n ih =>
    intro x1 S h
    unfold wadded_l5 at h
    refine A_call (j := 121) (As := [.ref 50, .int (43 : Int32)]) (fr' := (144, 11, [some (.ref 50), some (.int x1), none, none], [])) (S' := S) 3 rfl (e := 0) (by omega) (A_imp (wt121 (43 : Int32) h) (fun v S3 hq => ?_))
    obtain ⟨r4, hv, h⟩ := hq
    subst hv
    refine A_br (¬ r4 = 0) (r1 := ((144, 23, [some (.ref 50), some (.int x1), none, none], []), S3)) (r2 := ((144, 14, [some (.ref 50), some (.int x1), none, none], []), S3)) 1 rfl (fun c => ?_) (fun c => ?_)
    · have h := h.1 c
      refine ri_A.less (m := 144) (pc := 23) (L := [some (.ref 50), some (.int x1), none, none]) (L' := [some (.ref 50), some (.int x1), none, none]) (st := []) ⟨rfl, ⟨rfl, trivial⟩⟩ ?_
      exact wt144_b23 CT e0 he0 hCT (fun x1 S hk => ih x1 S hk) _ _ h
    · have h := h.2 c
      refine A_call (j := 121) (As := [.ref 50, .int (45 : Int32)]) (fr' := (144, 20, [some (.ref 50), some (.int x1), none, none], [])) (S' := S3) 3 rfl (e := 0) (by omega) (A_imp (wt121 (45 : Int32) h) (fun v S8 hq => ?_))
      obtain ⟨r9, hv, h⟩ := hq
      subst hv
      refine A_br (r9 = 0) (r1 := ((144, 66, [some (.ref 50), some (.int x1), none, none], []), S8)) (r2 := ((144, 23, [some (.ref 50), some (.int x1), none, none], []), S8)) 1 rfl (fun c => ?_) (fun c => ?_)
      · have h := h.1 c
        exact A_ret 2 (m := 144) (v := some (.int x1)) (S' := S8) rfl rfl ⟨_, rfl, h⟩
      · have h := h.2 c
        refine ri_A.less (m := 144) (pc := 23) (L := [some (.ref 50), some (.int x1), none, none]) (L' := [some (.ref 50), some (.int x1), none, none]) (st := []) ⟨rfl, ⟨rfl, trivial⟩⟩ ?_
        exact wt144_b23 CT e0 he0 hCT (fun x1 S hk => ih x1 S hk) _ _ h
set_option maxRecDepth 10000 in
set_option maxHeartbeats 1000000 in
theorem wt144 {E : ri_E} (CT : ri_H → (Int32 → ri_H → Prop) → Prop) (e0 : Nat) (he0 : 20 ≤ e0) (hCT : ∀ (S : ri_H) (Q : Int32 → ri_H → Prop), CT S Q → ri_A E e0 (ri_en 143 [.ref 50]) S (Qi Q))  {S : ri_H} {Q : Int32 → ri_H → Prop} (h : wadded CT  S Q) : ri_A E (e0 + 1) (ri_en 144 [.ref 50]) S (Qi Q) := by
  unfold wadded at h
  show ri_A E (e0 + 1) (144, 0, [some (.ref 50), none, none, none], []) S (Qi Q)
  refine A_call (j := 143) (As := [.ref 50]) (fr' := (144, 4, [some (.ref 50), none, none, none], [])) (S' := S) 2 rfl (e := e0) (by omega) (A_imp (hCT _ _ h) (fun v S1 hq => ?_))
  obtain ⟨r2, hv, h⟩ := hq
  subst hv
  refine A_nx 1 (fr' := (144, 5, [some (.ref 50), some (.int r2), none, none], [])) (S' := S1) rfl ?_
  refine ri_A.less (m := 144) (pc := 5) (L := [some (.ref 50), some (.int r2), none, none]) (L' := [some (.ref 50), some (.int r2), none, none]) (st := []) ⟨rfl, ⟨rfl, trivial⟩⟩ ?_
  obtain ⟨nn, h⟩ := h
  exact wt144_l5 CT e0 he0 hCT  nn _ _ h
/-! X5_both2, depth (e0 + 1) -/
set_option maxRecDepth 10000 in
set_option maxHeartbeats 1000000 in
theorem wt146_b45 {E : ri_E} (CN : ri_H → (Int32 → ri_H → Prop) → Prop) (e0 : Nat) (he0 : 20 ≤ e0) (hCN : ∀ (S : ri_H) (Q : Int32 → ri_H → Prop), CN S Q → ri_A E e0 (ri_en 145 [.ref 50]) S (Qi Q)) {K5 : Int32 → ri_H → Prop} {Q : Int32 → ri_H → Prop} (hK5 : ∀ (x1 : Int32) (S : ri_H), K5 x1 S → ri_A E (e0 + 1) (146, 5, [some (.ref 50), some (.int x1), none], []) S (Qi Q)) (s0 : Int32) (S : ri_H) (h : wboth_b45 CN K5 Q s0 S) : ri_A E (e0 + 1) (146, 45, [some (.ref 50), none, none], [.int s0]) S (Qi Q) := by
  unfold wboth_b45 at h
  refine A_nx 2 (fr' := (146, 5, [some (.ref 50), some (.int s0), none], [])) (S' := S) rfl ?_
  refine ri_A.less (m := 146) (pc := 5) (L := [some (.ref 50), some (.int s0), none]) (L' := [some (.ref 50), some (.int s0), none]) (st := []) ⟨rfl, ⟨rfl, trivial⟩⟩ ?_
  exact hK5 _ _ h
set_option maxRecDepth 10000 in
set_option maxHeartbeats 1000000 in
theorem wt146_b44 {E : ri_E} (CN : ri_H → (Int32 → ri_H → Prop) → Prop) (e0 : Nat) (he0 : 20 ≤ e0) (hCN : ∀ (S : ri_H) (Q : Int32 → ri_H → Prop), CN S Q → ri_A E e0 (ri_en 145 [.ref 50]) S (Qi Q)) {K5 : Int32 → ri_H → Prop} {Q : Int32 → ri_H → Prop} (hK5 : ∀ (x1 : Int32) (S : ri_H), K5 x1 S → ri_A E (e0 + 1) (146, 5, [some (.ref 50), some (.int x1), none], []) S (Qi Q))  (S : ri_H) (h : wboth_b44 CN K5 Q  S) : ri_A E (e0 + 1) (146, 44, [some (.ref 50), none, none], []) S (Qi Q) := by
  unfold wboth_b44 at h
  refine A_nx 1 (fr' := (146, 45, [some (.ref 50), none, none], [.int (0 : Int32)])) (S' := S) rfl ?_
  refine ri_A.less (m := 146) (pc := 45) (L := [some (.ref 50), none, none]) (L' := [some (.ref 50), none, none]) (st := [.int (0 : Int32)]) ⟨rfl, trivial⟩ ?_
  exact wt146_b45 CN e0 he0 hCN hK5 _ _ h
set_option maxRecDepth 10000 in
set_option maxHeartbeats 1000000 in
theorem wt146_l5 {E : ri_E} (CN : ri_H → (Int32 → ri_H → Prop) → Prop) (e0 : Nat) (he0 : 20 ≤ e0) (hCN : ∀ (S : ri_H) (Q : Int32 → ri_H → Prop), CN S Q → ri_A E e0 (ri_en 145 [.ref 50]) S (Qi Q)) {Q : Int32 → ri_H → Prop} : ∀ (n : Nat) (x1 : Int32) (S : ri_H), wboth_l5 CN  Q n x1 S → ri_A E (e0 + 1) (146, 5, [some (.ref 50), some (.int x1), none], []) S (Qi Q) := by
  intro n
  induction n with
  | zero => intro x1 S h; exact h.elim
  | succ n ih =>
    intro x1 S h
    unfold wboth_l5 at h
    refine A_call (j := 120) (As := [.ref 50, .int (97 : Int32), .int (110 : Int32), .int (100 : Int32), .int (0 : Int32), .int (0 : Int32), .int (0 : Int32), .int (0 : Int32), .int (0 : Int32)]) (fr' := (146, 20, [some (.ref 50), some (.int x1), none], [])) (S' := S) 10 rfl (e := 2) (by omega) (A_imp (wt120 (97 : Int32) (110 : Int32) (100 : Int32) (0 : Int32) (0 : Int32) (0 : Int32) (0 : Int32) (0 : Int32) h) (fun v S3 hq => ?_))
    obtain ⟨r4, hv, h⟩ := hq
    subst hv
    refine A_br (r4 = 0) (r1 := ((146, 49, [some (.ref 50), some (.int x1), none], []), S3)) (r2 := ((146, 23, [some (.ref 50), some (.int x1), none], []), S3)) 1 rfl (fun c => ?_) (fun c => ?_)
    · have h := h.1 c
      exact A_ret 2 (m := 146) (v := some (.int x1)) (S' := S3) rfl rfl ⟨_, rfl, h⟩
    · have h := h.2 c
      refine A_call (j := 117) (As := [.ref 50]) (fr' := (146, 27, [some (.ref 50), some (.int x1), none], [])) (S' := S3) 2 rfl (e := 1) (by omega) (A_imp (wt117  h) (fun v S5 hq => ?_))
      obtain ⟨hv, h⟩ := hq
      subst hv
      refine A_call (j := 145) (As := [.ref 50]) (fr' := (146, 31, [some (.ref 50), some (.int x1), none], [])) (S' := S5) 2 rfl (e := e0) (by omega) (A_imp (hCN _ _ h) (fun v S6 hq => ?_))
      obtain ⟨r7, hv, h⟩ := hq
      subst hv
      refine A_br (x1 = 0) (r1 := ((146, 44, [some (.ref 50), some (.int x1), some (.int r7)], []), S6)) (r2 := ((146, 36, [some (.ref 50), some (.int x1), some (.int r7)], []), S6)) 3 rfl (fun c => ?_) (fun c => ?_)
      · have h := h.1 c
        refine ri_A.less (m := 146) (pc := 44) (L := [some (.ref 50), some (.int x1), some (.int r7)]) (L' := [some (.ref 50), none, none]) (st := []) ⟨rfl, trivial⟩ ?_
        exact wt146_b44 CN e0 he0 hCN (fun x1 S hk => ih x1 S hk) _ h
      · have h := h.2 c
        refine A_br (r7 = 0) (r1 := ((146, 44, [some (.ref 50), some (.int x1), some (.int r7)], []), S6)) (r2 := ((146, 40, [some (.ref 50), some (.int x1), some (.int r7)], []), S6)) 2 rfl (fun c => ?_) (fun c => ?_)
        · have h := h.1 c
          refine ri_A.less (m := 146) (pc := 44) (L := [some (.ref 50), some (.int x1), some (.int r7)]) (L' := [some (.ref 50), none, none]) (st := []) ⟨rfl, trivial⟩ ?_
          exact wt146_b44 CN e0 he0 hCN (fun x1 S hk => ih x1 S hk) _ h
        · have h := h.2 c
          refine A_nx 2 (fr' := (146, 45, [some (.ref 50), some (.int x1), some (.int r7)], [.int (1 : Int32)])) (S' := S6) rfl ?_
          refine ri_A.less (m := 146) (pc := 45) (L := [some (.ref 50), some (.int x1), some (.int r7)]) (L' := [some (.ref 50), none, none]) (st := [.int (1 : Int32)]) ⟨rfl, trivial⟩ ?_
          exact wt146_b45 CN e0 he0 hCN (fun x1 S hk => ih x1 S hk) _ _ h
set_option maxRecDepth 10000 in
set_option maxHeartbeats 1000000 in
theorem wt146 {E : ri_E} (CN : ri_H → (Int32 → ri_H → Prop) → Prop) (e0 : Nat) (he0 : 20 ≤ e0) (hCN : ∀ (S : ri_H) (Q : Int32 → ri_H → Prop), CN S Q → ri_A E e0 (ri_en 145 [.ref 50]) S (Qi Q))  {S : ri_H} {Q : Int32 → ri_H → Prop} (h : wboth CN  S Q) : ri_A E (e0 + 1) (ri_en 146 [.ref 50]) S (Qi Q) := by
  unfold wboth at h
  show ri_A E (e0 + 1) (146, 0, [some (.ref 50), none, none], []) S (Qi Q)
  refine A_call (j := 145) (As := [.ref 50]) (fr' := (146, 4, [some (.ref 50), none, none], [])) (S' := S) 2 rfl (e := e0) (by omega) (A_imp (hCN _ _ h) (fun v S1 hq => ?_))
  obtain ⟨r2, hv, h⟩ := hq
  subst hv
  refine A_nx 1 (fr' := (146, 5, [some (.ref 50), some (.int r2), none], [])) (S' := S1) rfl ?_
  refine ri_A.less (m := 146) (pc := 5) (L := [some (.ref 50), some (.int r2), none]) (L' := [some (.ref 50), some (.int r2), none]) (st := []) ⟨rfl, ⟨rfl, trivial⟩⟩ ?_
  obtain ⟨nn, h⟩ := h
  exact wt146_l5 CN e0 he0 hCN  nn _ _ h
/-! X5_either2, depth (e0 + 1) -/
set_option maxRecDepth 10000 in
set_option maxHeartbeats 1000000 in
theorem wt147_b44 {E : ri_E} (CB : ri_H → (Int32 → ri_H → Prop) → Prop) (e0 : Nat) (he0 : 20 ≤ e0) (hCB : ∀ (S : ri_H) (Q : Int32 → ri_H → Prop), CB S Q → ri_A E e0 (ri_en 146 [.ref 50]) S (Qi Q)) {K5 : Int32 → ri_H → Prop} {Q : Int32 → ri_H → Prop} (hK5 : ∀ (x1 : Int32) (S : ri_H), K5 x1 S → ri_A E (e0 + 1) (147, 5, [some (.ref 50), some (.int x1), none], []) S (Qi Q)) (s0 : Int32) (S : ri_H) (h : weither_b44 CB K5 Q s0 S) : ri_A E (e0 + 1) (147, 44, [some (.ref 50), none, none], [.int s0]) S (Qi Q) := by
  unfold weither_b44 at h
  refine A_nx 2 (fr' := (147, 5, [some (.ref 50), some (.int s0), none], [])) (S' := S) rfl ?_
  refine ri_A.less (m := 147) (pc := 5) (L := [some (.ref 50), some (.int s0), none]) (L' := [some (.ref 50), some (.int s0), none]) (st := []) ⟨rfl, ⟨rfl, trivial⟩⟩ ?_
  exact hK5 _ _ h
set_option maxRecDepth 10000 in
set_option maxHeartbeats 1000000 in
theorem wt147_b39 {E : ri_E} (CB : ri_H → (Int32 → ri_H → Prop) → Prop) (e0 : Nat) (he0 : 20 ≤ e0) (hCB : ∀ (S : ri_H) (Q : Int32 → ri_H → Prop), CB S Q → ri_A E e0 (ri_en 146 [.ref 50]) S (Qi Q)) {K5 : Int32 → ri_H → Prop} {Q : Int32 → ri_H → Prop} (hK5 : ∀ (x1 : Int32) (S : ri_H), K5 x1 S → ri_A E (e0 + 1) (147, 5, [some (.ref 50), some (.int x1), none], []) S (Qi Q))  (S : ri_H) (h : weither_b39 CB K5 Q  S) : ri_A E (e0 + 1) (147, 39, [some (.ref 50), none, none], []) S (Qi Q) := by
  unfold weither_b39 at h
  refine A_nx 2 (fr' := (147, 44, [some (.ref 50), none, none], [.int (1 : Int32)])) (S' := S) rfl ?_
  refine ri_A.less (m := 147) (pc := 44) (L := [some (.ref 50), none, none]) (L' := [some (.ref 50), none, none]) (st := [.int (1 : Int32)]) ⟨rfl, trivial⟩ ?_
  exact wt147_b44 CB e0 he0 hCB hK5 _ _ h
set_option maxRecDepth 10000 in
set_option maxHeartbeats 1000000 in
theorem wt147_l5 {E : ri_E} (CB : ri_H → (Int32 → ri_H → Prop) → Prop) (e0 : Nat) (he0 : 20 ≤ e0) (hCB : ∀ (S : ri_H) (Q : Int32 → ri_H → Prop), CB S Q → ri_A E e0 (ri_en 146 [.ref 50]) S (Qi Q)) {Q : Int32 → ri_H → Prop} : ∀ (n : Nat) (x1 : Int32) (S : ri_H), weither_l5 CB  Q n x1 S → ri_A E (e0 + 1) (147, 5, [some (.ref 50), some (.int x1), none], []) S (Qi Q) := by
  intro n
  induction n with
  | zero => intro x1 S h; exact h.elim
  | succ n ih =>
    intro x1 S h
    unfold weither_l5 at h
    refine A_call (j := 120) (As := [.ref 50, .int (111 : Int32), .int (114 : Int32), .int (0 : Int32), .int (0 : Int32), .int (0 : Int32), .int (0 : Int32), .int (0 : Int32), .int (0 : Int32)]) (fr' := (147, 19, [some (.ref 50), some (.int x1), none], [])) (S' := S) 10 rfl (e := 2) (by omega) (A_imp (wt120 (111 : Int32) (114 : Int32) (0 : Int32) (0 : Int32) (0 : Int32) (0 : Int32) (0 : Int32) (0 : Int32) h) (fun v S3 hq => ?_))
    obtain ⟨r4, hv, h⟩ := hq
    subst hv
    refine A_br (r4 = 0) (r1 := ((147, 48, [some (.ref 50), some (.int x1), none], []), S3)) (r2 := ((147, 22, [some (.ref 50), some (.int x1), none], []), S3)) 1 rfl (fun c => ?_) (fun c => ?_)
    · have h := h.1 c
      exact A_ret 2 (m := 147) (v := some (.int x1)) (S' := S3) rfl rfl ⟨_, rfl, h⟩
    · have h := h.2 c
      refine A_call (j := 117) (As := [.ref 50]) (fr' := (147, 26, [some (.ref 50), some (.int x1), none], [])) (S' := S3) 2 rfl (e := 1) (by omega) (A_imp (wt117  h) (fun v S5 hq => ?_))
      obtain ⟨hv, h⟩ := hq
      subst hv
      refine A_call (j := 146) (As := [.ref 50]) (fr' := (147, 30, [some (.ref 50), some (.int x1), none], [])) (S' := S5) 2 rfl (e := e0) (by omega) (A_imp (hCB _ _ h) (fun v S6 hq => ?_))
      obtain ⟨r7, hv, h⟩ := hq
      subst hv
      refine A_br (¬ x1 = 0) (r1 := ((147, 39, [some (.ref 50), some (.int x1), some (.int r7)], []), S6)) (r2 := ((147, 35, [some (.ref 50), some (.int x1), some (.int r7)], []), S6)) 3 rfl (fun c => ?_) (fun c => ?_)
      · have h := h.1 c
        refine ri_A.less (m := 147) (pc := 39) (L := [some (.ref 50), some (.int x1), some (.int r7)]) (L' := [some (.ref 50), none, none]) (st := []) ⟨rfl, trivial⟩ ?_
        exact wt147_b39 CB e0 he0 hCB (fun x1 S hk => ih x1 S hk) _ h
      · have h := h.2 c
        refine A_br (r7 = 0) (r1 := ((147, 43, [some (.ref 50), some (.int x1), some (.int r7)], []), S6)) (r2 := ((147, 39, [some (.ref 50), some (.int x1), some (.int r7)], []), S6)) 2 rfl (fun c => ?_) (fun c => ?_)
        · have h := h.1 c
          refine A_nx 1 (fr' := (147, 44, [some (.ref 50), some (.int x1), some (.int r7)], [.int (0 : Int32)])) (S' := S6) rfl ?_
          refine ri_A.less (m := 147) (pc := 44) (L := [some (.ref 50), some (.int x1), some (.int r7)]) (L' := [some (.ref 50), none, none]) (st := [.int (0 : Int32)]) ⟨rfl, trivial⟩ ?_
          exact wt147_b44 CB e0 he0 hCB (fun x1 S hk => ih x1 S hk) _ _ h
        · have h := h.2 c
          refine ri_A.less (m := 147) (pc := 39) (L := [some (.ref 50), some (.int x1), some (.int r7)]) (L' := [some (.ref 50), none, none]) (st := []) ⟨rfl, trivial⟩ ?_
          exact wt147_b39 CB e0 he0 hCB (fun x1 S hk => ih x1 S hk) _ h
set_option maxRecDepth 10000 in
set_option maxHeartbeats 1000000 in
theorem wt147 {E : ri_E} (CB : ri_H → (Int32 → ri_H → Prop) → Prop) (e0 : Nat) (he0 : 20 ≤ e0) (hCB : ∀ (S : ri_H) (Q : Int32 → ri_H → Prop), CB S Q → ri_A E e0 (ri_en 146 [.ref 50]) S (Qi Q))  {S : ri_H} {Q : Int32 → ri_H → Prop} (h : weither CB  S Q) : ri_A E (e0 + 1) (ri_en 147 [.ref 50]) S (Qi Q) := by
  unfold weither at h
  show ri_A E (e0 + 1) (147, 0, [some (.ref 50), none, none], []) S (Qi Q)
  refine A_call (j := 146) (As := [.ref 50]) (fr' := (147, 4, [some (.ref 50), none, none], [])) (S' := S) 2 rfl (e := e0) (by omega) (A_imp (hCB _ _ h) (fun v S1 hq => ?_))
  obtain ⟨r2, hv, h⟩ := hq
  subst hv
  refine A_nx 1 (fr' := (147, 5, [some (.ref 50), some (.int r2), none], [])) (S' := S1) rfl ?_
  refine ri_A.less (m := 147) (pc := 5) (L := [some (.ref 50), some (.int r2), none]) (L' := [some (.ref 50), some (.int r2), none]) (st := []) ⟨rfl, ⟨rfl, trivial⟩⟩ ?_
  obtain ⟨nn, h⟩ := h
  exact wt147_l5 CB e0 he0 hCB  nn _ _ h
/-! X5_atom2, depth (e0 + 1) -/
set_option maxRecDepth 10000 in
set_option maxHeartbeats 1000000 in
theorem wt142_b157 {E : ri_E} (CA : ri_H → (Int32 → ri_H → Prop) → Prop) (CE : ri_H → (Int32 → ri_H → Prop) → Prop) (e0 : Nat) (he0 : 20 ≤ e0) (hCA : ∀ (S : ri_H) (Q : Int32 → ri_H → Prop), CA S Q → ri_A E e0 (ri_en 136 [.ref 50]) S (Qi Q)) (hCE : ∀ (S : ri_H) (Q : Int32 → ri_H → Prop), CE S Q → ri_A E e0 (ri_en 141 [.ref 50]) S (Qi Q)) {Q : Int32 → ri_H → Prop} (x1 : Int32) (S : ri_H) (h : watom_b157 CA CE  Q x1 S) : ri_A E (e0 + 1) (142, 157, [some (.ref 50), some (.int x1)], []) S (Qi Q) := by
  unfold watom_b157 at h
  refine A_call (j := 118) (As := [.ref 50]) (fr' := (142, 161, [some (.ref 50), some (.int x1)], [])) (S' := S) 2 rfl (e := 0) (by omega) (A_imp (wt118  h) (fun v S5 hq => ?_))
  obtain ⟨hv, h⟩ := hq
  subst hv
  exact A_ret 2 (m := 142) (v := some (.int x1)) (S' := S5) rfl rfl ⟨_, rfl, h⟩
set_option maxRecDepth 10000 in
set_option maxHeartbeats 1000000 in
theorem wt142_b123 {E : ri_E} (CA : ri_H → (Int32 → ri_H → Prop) → Prop) (CE : ri_H → (Int32 → ri_H → Prop) → Prop) (e0 : Nat) (he0 : 20 ≤ e0) (hCA : ∀ (S : ri_H) (Q : Int32 → ri_H → Prop), CA S Q → ri_A E e0 (ri_en 136 [.ref 50]) S (Qi Q)) (hCE : ∀ (S : ri_H) (Q : Int32 → ri_H → Prop), CE S Q → ri_A E e0 (ri_en 141 [.ref 50]) S (Qi Q)) {Q : Int32 → ri_H → Prop} (x1 : Int32) (S : ri_H) (h : watom_b123 CA CE  Q x1 S) : ri_A E (e0 + 1) (142, 123, [some (.ref 50), some (.int x1)], []) S (Qi Q) := by
  unfold watom_b123 at h
  refine A_br (¬ (S.1 50 25) = 0) (r1 := ((142, 157, [some (.ref 50), some (.int x1)], []), S)) (r2 := ((142, 130, [some (.ref 50), some (.int x1)], []), S)) 3 rfl (fun c => ?_) (fun c => ?_)
  · have h := h.1 c
    refine ri_A.less (m := 142) (pc := 157) (L := [some (.ref 50), some (.int x1)]) (L' := [some (.ref 50), some (.int x1)]) (st := []) ⟨rfl, ⟨rfl, trivial⟩⟩ ?_
    exact wt142_b157 CA CE e0 he0 hCA hCE  _ _ h
  · have h := h.2 c
    refine A_br (¬ (S.1 50 21) = (1 : Int32)) (r1 := ((142, 157, [some (.ref 50), some (.int x1)], []), S)) (r2 := ((142, 138, [some (.ref 50), some (.int x1)], []), S)) 4 rfl (fun c => ?_) (fun c => ?_)
    · have h := h.1 c
      refine ri_A.less (m := 142) (pc := 157) (L := [some (.ref 50), some (.int x1)]) (L' := [some (.ref 50), some (.int x1)]) (st := []) ⟨rfl, ⟨rfl, trivial⟩⟩ ?_
      exact wt142_b157 CA CE e0 he0 hCA hCE  _ _ h
    · have h := h.2 c
      refine A_call (j := 123) (As := [.ref 50]) (fr' := (142, 142, [some (.ref 50), some (.int x1)], [])) (S' := S) 2 rfl (e := 3) (by omega) (A_imp (wt123  h) (fun v S6 hq => ?_))
      obtain ⟨r7, hv, h⟩ := hq
      subst hv
      refine A_br (¬ (S6.1 50 25) = 0) (r1 := ((142, 161, [some (.ref 50), some (.int r7)], []), S6)) (r2 := ((142, 150, [some (.ref 50), some (.int r7)], []), S6)) 4 rfl (fun c => ?_) (fun c => ?_)
      · have h := h.1 c
        exact A_ret 2 (m := 142) (v := some (.int r7)) (S' := S6) rfl rfl ⟨_, rfl, h⟩
      · have h := h.2 c
        refine A_call (j := 117) (As := [.ref 50]) (fr' := (142, 154, [some (.ref 50), some (.int r7)], [])) (S' := S6) 2 rfl (e := 1) (by omega) (A_imp (wt117  h) (fun v S8 hq => ?_))
        obtain ⟨hv, h⟩ := hq
        subst hv
        exact A_ret 3 (m := 142) (v := some (.int r7)) (S' := S8) rfl rfl ⟨_, rfl, h⟩
set_option maxRecDepth 10000 in
set_option maxHeartbeats 1000000 in
theorem wt142_b71 {E : ri_E} (CA : ri_H → (Int32 → ri_H → Prop) → Prop) (CE : ri_H → (Int32 → ri_H → Prop) → Prop) (e0 : Nat) (he0 : 20 ≤ e0) (hCA : ∀ (S : ri_H) (Q : Int32 → ri_H → Prop), CA S Q → ri_A E e0 (ri_en 136 [.ref 50]) S (Qi Q)) (hCE : ∀ (S : ri_H) (Q : Int32 → ri_H → Prop), CE S Q → ri_A E e0 (ri_en 141 [.ref 50]) S (Qi Q)) {Q : Int32 → ri_H → Prop} (x1 : Int32) (S : ri_H) (h : watom_b71 CA CE  Q x1 S) : ri_A E (e0 + 1) (142, 71, [some (.ref 50), some (.int x1)], []) S (Qi Q) := by
  unfold watom_b71 at h
  refine A_br (¬ (S.1 50 25) = 0) (r1 := ((142, 161, [some (.ref 50), some (.int x1)], []), (ri_wi S 50 24 ((S.1 50 24) - (1 : Int32))))) (r2 := ((142, 88, [some (.ref 50), some (.int x1)], []), (ri_wi S 50 24 ((S.1 50 24) - (1 : Int32))))) 9 rfl (fun c => ?_) (fun c => ?_)
  · have h := h.1 c
    exact A_ret 2 (m := 142) (v := some (.int x1)) (S' := (ri_wi S 50 24 ((S.1 50 24) - (1 : Int32)))) rfl rfl ⟨_, rfl, h⟩
  · have h := h.2 c
    refine A_call (j := 117) (As := [.ref 50]) (fr' := (142, 92, [some (.ref 50), some (.int x1)], [])) (S' := (ri_wi S 50 24 ((S.1 50 24) - (1 : Int32)))) 2 rfl (e := 1) (by omega) (A_imp (wt117  h) (fun v S16 hq => ?_))
    obtain ⟨hv, h⟩ := hq
    subst hv
    exact A_ret 3 (m := 142) (v := some (.int x1)) (S' := S16) rfl rfl ⟨_, rfl, h⟩
set_option maxRecDepth 10000 in
set_option maxHeartbeats 1000000 in
theorem wt142 {E : ri_E} (CA : ri_H → (Int32 → ri_H → Prop) → Prop) (CE : ri_H → (Int32 → ri_H → Prop) → Prop) (e0 : Nat) (he0 : 20 ≤ e0) (hCA : ∀ (S : ri_H) (Q : Int32 → ri_H → Prop), CA S Q → ri_A E e0 (ri_en 136 [.ref 50]) S (Qi Q)) (hCE : ∀ (S : ri_H) (Q : Int32 → ri_H → Prop), CE S Q → ri_A E e0 (ri_en 141 [.ref 50]) S (Qi Q))  {S : ri_H} {Q : Int32 → ri_H → Prop} (h : watom CA CE  S Q) : ri_A E (e0 + 1) (ri_en 142 [.ref 50]) S (Qi Q) := by
  unfold watom at h
  show ri_A E (e0 + 1) (142, 0, [some (.ref 50), none], []) S (Qi Q)
  refine A_call (j := 121) (As := [.ref 50, .int (45 : Int32)]) (fr' := (142, 8, [some (.ref 50), some (.int (0 : Int32))], [])) (S' := S) 5 rfl (e := 0) (by omega) (A_imp (wt121 (45 : Int32) h) (fun v S1 hq => ?_))
  obtain ⟨r2, hv, h⟩ := hq
  subst hv
  refine A_br (r2 = 0) (r1 := ((142, 37, [some (.ref 50), some (.int (0 : Int32))], []), S1)) (r2 := ((142, 11, [some (.ref 50), some (.int (0 : Int32))], []), S1)) 1 rfl (fun c => ?_) (fun c => ?_)
  · have h := h.1 c
    refine A_call (j := 121) (As := [.ref 50, .int (40 : Int32)]) (fr' := (142, 43, [some (.ref 50), some (.int (0 : Int32))], [])) (S' := S1) 3 rfl (e := 0) (by omega) (A_imp (wt121 (40 : Int32) h) (fun v S3 hq => ?_))
    obtain ⟨r4, hv, h⟩ := hq
    subst hv
    refine A_br (r4 = 0) (r1 := ((142, 95, [some (.ref 50), some (.int (0 : Int32))], []), S3)) (r2 := ((142, 46, [some (.ref 50), some (.int (0 : Int32))], []), S3)) 1 rfl (fun c => ?_) (fun c => ?_)
    · have h := h.1 c
      refine A_br (¬ (S3.1 50 25) = 0) (r1 := ((142, 123, [some (.ref 50), some (.int (0 : Int32))], []), S3)) (r2 := ((142, 102, [some (.ref 50), some (.int (0 : Int32))], []), S3)) 3 rfl (fun c => ?_) (fun c => ?_)
      · have h := h.1 c
        refine ri_A.less (m := 142) (pc := 123) (L := [some (.ref 50), some (.int (0 : Int32))]) (L' := [some (.ref 50), some (.int (0 : Int32))]) (st := []) ⟨rfl, ⟨rfl, trivial⟩⟩ ?_
        exact wt142_b123 CA CE e0 he0 hCA hCE  _ _ h
      · have h := h.2 c
        refine A_br (¬ (S3.1 50 21) = (2 : Int32)) (r1 := ((142, 123, [some (.ref 50), some (.int (0 : Int32))], []), S3)) (r2 := ((142, 110, [some (.ref 50), some (.int (0 : Int32))], []), S3)) 4 rfl (fun c => ?_) (fun c => ?_)
        · have h := h.1 c
          refine ri_A.less (m := 142) (pc := 123) (L := [some (.ref 50), some (.int (0 : Int32))]) (L' := [some (.ref 50), some (.int (0 : Int32))]) (st := []) ⟨rfl, ⟨rfl, trivial⟩⟩ ?_
          exact wt142_b123 CA CE e0 he0 hCA hCE  _ _ h
        · have h := h.2 c
          refine A_call (j := 117) (As := [.ref 50]) (fr' := (142, 120, [some (.ref 50), some (.int ((S3.2 50 23)).toInt32)], [])) (S' := S3) 6 rfl (e := 1) (by omega) (A_imp (wt117  h) (fun v S9 hq => ?_))
          obtain ⟨hv, h⟩ := hq
          subst hv
          exact A_ret 3 (m := 142) (v := some (.int ((S3.2 50 23)).toInt32)) (S' := S9) rfl rfl ⟨_, rfl, h⟩
    · have h := h.2 c
      refine A_call (j := 122) (As := [.ref 50]) (fr' := (142, 50, [some (.ref 50), some (.int (0 : Int32))], [])) (S' := S3) 2 rfl (e := 2) (by omega) (A_imp (wt122  h) (fun v S10 hq => ?_))
      obtain ⟨r11, hv, h⟩ := hq
      subst hv
      refine A_br (r11 = 0) (r1 := ((142, 161, [some (.ref 50), some (.int (0 : Int32))], []), S10)) (r2 := ((142, 53, [some (.ref 50), some (.int (0 : Int32))], []), S10)) 1 rfl (fun c => ?_) (fun c => ?_)
      · have h := h.1 c
        exact A_ret 2 (m := 142) (v := some (.int (0 : Int32))) (S' := S10) rfl rfl ⟨_, rfl, h⟩
      · have h := h.2 c
        refine A_call (j := 141) (As := [.ref 50]) (fr' := (142, 57, [some (.ref 50), some (.int (0 : Int32))], [])) (S' := S10) 2 rfl (e := e0) (by omega) (A_imp (hCE _ _ h) (fun v S12 hq => ?_))
        obtain ⟨r13, hv, h⟩ := hq
        subst hv
        refine A_call (j := 121) (As := [.ref 50, .int (41 : Int32)]) (fr' := (142, 64, [some (.ref 50), some (.int r13)], [])) (S' := S12) 4 rfl (e := 0) (by omega) (A_imp (wt121 (41 : Int32) h) (fun v S14 hq => ?_))
        obtain ⟨r15, hv, h⟩ := hq
        subst hv
        refine A_br (¬ r15 = 0) (r1 := ((142, 71, [some (.ref 50), some (.int r13)], []), S14)) (r2 := ((142, 67, [some (.ref 50), some (.int r13)], []), S14)) 1 rfl (fun c => ?_) (fun c => ?_)
        · have h := h.1 c
          refine ri_A.less (m := 142) (pc := 71) (L := [some (.ref 50), some (.int r13)]) (L' := [some (.ref 50), some (.int r13)]) (st := []) ⟨rfl, ⟨rfl, trivial⟩⟩ ?_
          exact wt142_b71 CA CE e0 he0 hCA hCE  _ _ h
        · have h := h.2 c
          refine A_call (j := 118) (As := [.ref 50]) (fr' := (142, 71, [some (.ref 50), some (.int r13)], [])) (S' := S14) 2 rfl (e := 0) (by omega) (A_imp (wt118  h) (fun v S17 hq => ?_))
          obtain ⟨hv, h⟩ := hq
          subst hv
          refine ri_A.less (m := 142) (pc := 71) (L := [some (.ref 50), some (.int r13)]) (L' := [some (.ref 50), some (.int r13)]) (st := []) ⟨rfl, ⟨rfl, trivial⟩⟩ ?_
          exact wt142_b71 CA CE e0 he0 hCA hCE  _ _ h
  · have h := h.2 c
    refine A_call (j := 122) (As := [.ref 50]) (fr' := (142, 15, [some (.ref 50), some (.int (0 : Int32))], [])) (S' := S1) 2 rfl (e := 2) (by omega) (A_imp (wt122  h) (fun v S18 hq => ?_))
    obtain ⟨r19, hv, h⟩ := hq
    subst hv
    refine A_br (r19 = 0) (r1 := ((142, 161, [some (.ref 50), some (.int (0 : Int32))], []), S18)) (r2 := ((142, 18, [some (.ref 50), some (.int (0 : Int32))], []), S18)) 1 rfl (fun c => ?_) (fun c => ?_)
    · have h := h.1 c
      exact A_ret 2 (m := 142) (v := some (.int (0 : Int32))) (S' := S18) rfl rfl ⟨_, rfl, h⟩
    · have h := h.2 c
      refine A_call (j := 136) (As := [.ref 50]) (fr' := (142, 22, [some (.ref 50), some (.int (0 : Int32))], [])) (S' := S18) 2 rfl (e := e0) (by omega) (A_imp (hCA _ _ h) (fun v S20 hq => ?_))
      obtain ⟨r21, hv, h⟩ := hq
      subst hv
      exact A_ret 11 (m := 142) (v := some (.int (-r21))) (S' := (ri_wi S20 50 24 ((S20.1 50 24) - (1 : Int32)))) rfl rfl ⟨_, rfl, h⟩
/-! X5_not2, depth (e0 + 1) -/
set_option maxRecDepth 10000 in
set_option maxHeartbeats 1000000 in
theorem wt145_b120 {E : ri_E} (CN : ri_H → (Int32 → ri_H → Prop) → Prop) (CD : ri_H → (Int32 → ri_H → Prop) → Prop) (e0 : Nat) (he0 : 20 ≤ e0) (hCN : ∀ (S : ri_H) (Q : Int32 → ri_H → Prop), CN S Q → ri_A E e0 (ri_en 139 [.ref 50]) S (Qi Q)) (hCD : ∀ (S : ri_H) (Q : Int32 → ri_H → Prop), CD S Q → ri_A E e0 (ri_en 144 [.ref 50]) S (Qi Q)) {Q : Int32 → ri_H → Prop}  (S : ri_H) (h : wnot_b120 CN CD  Q  S) : ri_A E (e0 + 1) (145, 120, [none, none, none, none], []) S (Qi Q) := by
  unfold wnot_b120 at h
  exact A_ret 3 (m := 145) (v := some (.int (1 : Int32))) (S' := S) rfl rfl ⟨_, rfl, h⟩
set_option maxRecDepth 10000 in
set_option maxHeartbeats 1000000 in
theorem wt145_b93 {E : ri_E} (CN : ri_H → (Int32 → ri_H → Prop) → Prop) (CD : ri_H → (Int32 → ri_H → Prop) → Prop) (e0 : Nat) (he0 : 20 ≤ e0) (hCN : ∀ (S : ri_H) (Q : Int32 → ri_H → Prop), CN S Q → ri_A E e0 (ri_en 139 [.ref 50]) S (Qi Q)) (hCD : ∀ (S : ri_H) (Q : Int32 → ri_H → Prop), CD S Q → ri_A E e0 (ri_en 144 [.ref 50]) S (Qi Q)) {Q : Int32 → ri_H → Prop} (x1 : Int32) (s0 : Int32) (S : ri_H) (h : wnot_b93 CN CD  Q x1 s0 S) : ri_A E (e0 + 1) (145, 93, [some (.ref 50), some (.int x1), none, none], [.int s0]) S (Qi Q) := by
  unfold wnot_b93 at h
  refine A_call (j := 117) (As := [.ref 50]) (fr' := (145, 98, [some (.ref 50), some (.int x1), some (.int s0), none], [])) (S' := S) 3 rfl (e := 1) (by omega) (A_imp (wt117  h) (fun v S7 hq => ?_))
  obtain ⟨hv, h⟩ := hq
  subst hv
  refine A_call (j := 144) (As := [.ref 50]) (fr' := (145, 102, [some (.ref 50), some (.int x1), some (.int s0), none], [])) (S' := S7) 2 rfl (e := e0) (by omega) (A_imp (hCD _ _ h) (fun v S8 hq => ?_))
  obtain ⟨r9, hv, h⟩ := hq
  subst hv
  refine A_br (s0 = 0) (r1 := ((145, 115, [some (.ref 50), some (.int x1), some (.int s0), some (.int r9)], []), S8)) (r2 := ((145, 107, [some (.ref 50), some (.int x1), some (.int s0), some (.int r9)], []), S8)) 3 rfl (fun c => ?_) (fun c => ?_)
  · have h := h.1 c
    refine A_br (¬ x1 = r9) (r1 := ((145, 124, [some (.ref 50), some (.int x1), some (.int s0), some (.int r9)], []), S8)) (r2 := ((145, 120, [some (.ref 50), some (.int x1), some (.int s0), some (.int r9)], []), S8)) 3 rfl (fun c => ?_) (fun c => ?_)
    · have h := h.1 c
      exact A_ret 2 (m := 145) (v := some (.int (0 : Int32))) (S' := S8) rfl rfl ⟨_, rfl, h⟩
    · have h := h.2 c
      refine ri_A.less (m := 145) (pc := 120) (L := [some (.ref 50), some (.int x1), some (.int s0), some (.int r9)]) (L' := [none, none, none, none]) (st := []) trivial ?_
      exact wt145_b120 CN CD e0 he0 hCN hCD  _ h
  · have h := h.2 c
    refine A_br (r9 ≤ x1) (r1 := ((145, 124, [some (.ref 50), some (.int x1), some (.int s0), some (.int r9)], []), S8)) (r2 := ((145, 112, [some (.ref 50), some (.int x1), some (.int s0), some (.int r9)], []), S8)) 3 rfl (fun c => ?_) (fun c => ?_)
    · have h := h.1 c
      exact A_ret 2 (m := 145) (v := some (.int (0 : Int32))) (S' := S8) rfl rfl ⟨_, rfl, h⟩
    · have h := h.2 c
      refine A_nx 1 (fr' := (145, 120, [some (.ref 50), some (.int x1), some (.int s0), some (.int r9)], [])) (S' := S8) rfl ?_
      refine ri_A.less (m := 145) (pc := 120) (L := [some (.ref 50), some (.int x1), some (.int s0), some (.int r9)]) (L' := [none, none, none, none]) (st := []) trivial ?_
      exact wt145_b120 CN CD e0 he0 hCN hCD  _ h
set_option maxRecDepth 10000 in
set_option maxHeartbeats 1000000 in
theorem wt145_b77 {E : ri_E} (CN : ri_H → (Int32 → ri_H → Prop) → Prop) (CD : ri_H → (Int32 → ri_H → Prop) → Prop) (e0 : Nat) (he0 : 20 ≤ e0) (hCN : ∀ (S : ri_H) (Q : Int32 → ri_H → Prop), CN S Q → ri_A E e0 (ri_en 139 [.ref 50]) S (Qi Q)) (hCD : ∀ (S : ri_H) (Q : Int32 → ri_H → Prop), CD S Q → ri_A E e0 (ri_en 144 [.ref 50]) S (Qi Q)) {Q : Int32 → ri_H → Prop} (x1 : Int32) (S : ri_H) (h : wnot_b77 CN CD  Q x1 S) : ri_A E (e0 + 1) (145, 77, [some (.ref 50), some (.int x1), none, none], []) S (Qi Q) := by
  unfold wnot_b77 at h
  refine A_br (¬ (lg_cmp (S.2 50 23) (60 : Int64)) = 0) (r1 := ((145, 92, [some (.ref 50), some (.int x1), none, none], []), S)) (r2 := ((145, 88, [some (.ref 50), some (.int x1), none, none], []), S)) 5 rfl (fun c => ?_) (fun c => ?_)
  · have h := h.1 c
    refine A_nx 1 (fr' := (145, 93, [some (.ref 50), some (.int x1), none, none], [.int (0 : Int32)])) (S' := S) rfl ?_
    refine ri_A.less (m := 145) (pc := 93) (L := [some (.ref 50), some (.int x1), none, none]) (L' := [some (.ref 50), some (.int x1), none, none]) (st := [.int (0 : Int32)]) ⟨rfl, ⟨rfl, trivial⟩⟩ ?_
    exact wt145_b93 CN CD e0 he0 hCN hCD  _ _ _ h
  · have h := h.2 c
    refine A_nx 2 (fr' := (145, 93, [some (.ref 50), some (.int x1), none, none], [.int (1 : Int32)])) (S' := S) rfl ?_
    refine ri_A.less (m := 145) (pc := 93) (L := [some (.ref 50), some (.int x1), none, none]) (L' := [some (.ref 50), some (.int x1), none, none]) (st := [.int (1 : Int32)]) ⟨rfl, ⟨rfl, trivial⟩⟩ ?_
    exact wt145_b93 CN CD e0 he0 hCN hCD  _ _ _ h
set_option maxRecDepth 10000 in
set_option maxHeartbeats 1000000 in
theorem wt145 {E : ri_E} (CN : ri_H → (Int32 → ri_H → Prop) → Prop) (CD : ri_H → (Int32 → ri_H → Prop) → Prop) (e0 : Nat) (he0 : 20 ≤ e0) (hCN : ∀ (S : ri_H) (Q : Int32 → ri_H → Prop), CN S Q → ri_A E e0 (ri_en 139 [.ref 50]) S (Qi Q)) (hCD : ∀ (S : ri_H) (Q : Int32 → ri_H → Prop), CD S Q → ri_A E e0 (ri_en 144 [.ref 50]) S (Qi Q))  {S : ri_H} {Q : Int32 → ri_H → Prop} (h : wnot CN CD  S Q) : ri_A E (e0 + 1) (ri_en 145 [.ref 50]) S (Qi Q) := by
  unfold wnot at h
  show ri_A E (e0 + 1) (145, 0, [some (.ref 50), none, none, none], []) S (Qi Q)
  refine A_call (j := 120) (As := [.ref 50, .int (110 : Int32), .int (111 : Int32), .int (116 : Int32), .int (0 : Int32), .int (0 : Int32), .int (0 : Int32), .int (0 : Int32), .int (0 : Int32)]) (fr' := (145, 15, [some (.ref 50), none, none, none], [])) (S' := S) 10 rfl (e := 2) (by omega) (A_imp (wt120 (110 : Int32) (111 : Int32) (116 : Int32) (0 : Int32) (0 : Int32) (0 : Int32) (0 : Int32) (0 : Int32) h) (fun v S1 hq => ?_))
  obtain ⟨r2, hv, h⟩ := hq
  subst hv
  refine A_br (r2 = 0) (r1 := ((145, 52, [some (.ref 50), none, none, none], []), S1)) (r2 := ((145, 18, [some (.ref 50), none, none, none], []), S1)) 1 rfl (fun c => ?_) (fun c => ?_)
  · have h := h.1 c
    refine A_call (j := 144) (As := [.ref 50]) (fr' := (145, 56, [some (.ref 50), none, none, none], [])) (S' := S1) 2 rfl (e := e0) (by omega) (A_imp (hCD _ _ h) (fun v S3 hq => ?_))
    obtain ⟨r4, hv, h⟩ := hq
    subst hv
    refine A_call (j := 121) (As := [.ref 50, .int (60 : Int32)]) (fr' := (145, 63, [some (.ref 50), some (.int r4), none, none], [])) (S' := S3) 4 rfl (e := 0) (by omega) (A_imp (wt121 (60 : Int32) h) (fun v S5 hq => ?_))
    obtain ⟨r6, hv, h⟩ := hq
    subst hv
    refine A_br (¬ r6 = 0) (r1 := ((145, 77, [some (.ref 50), some (.int r4), none, none], []), S5)) (r2 := ((145, 66, [some (.ref 50), some (.int r4), none, none], []), S5)) 1 rfl (fun c => ?_) (fun c => ?_)
    · have h := h.1 c
      refine ri_A.less (m := 145) (pc := 77) (L := [some (.ref 50), some (.int r4), none, none]) (L' := [some (.ref 50), some (.int r4), none, none]) (st := []) ⟨rfl, ⟨rfl, trivial⟩⟩ ?_
      exact wt145_b77 CN CD e0 he0 hCN hCD  _ _ h
    · have h := h.2 c
      refine A_call (j := 121) (As := [.ref 50, .int (61 : Int32)]) (fr' := (145, 72, [some (.ref 50), some (.int r4), none, none], [])) (S' := S5) 3 rfl (e := 0) (by omega) (A_imp (wt121 (61 : Int32) h) (fun v S10 hq => ?_))
      obtain ⟨r11, hv, h⟩ := hq
      subst hv
      refine A_br (¬ r11 = 0) (r1 := ((145, 77, [some (.ref 50), some (.int r4), none, none], []), S10)) (r2 := ((145, 75, [some (.ref 50), some (.int r4), none, none], []), S10)) 1 rfl (fun c => ?_) (fun c => ?_)
      · have h := h.1 c
        refine ri_A.less (m := 145) (pc := 77) (L := [some (.ref 50), some (.int r4), none, none]) (L' := [some (.ref 50), some (.int r4), none, none]) (st := []) ⟨rfl, ⟨rfl, trivial⟩⟩ ?_
        exact wt145_b77 CN CD e0 he0 hCN hCD  _ _ h
      · have h := h.2 c
        exact A_ret 2 (m := 145) (v := some (.int r4)) (S' := S10) rfl rfl ⟨_, rfl, h⟩
  · have h := h.2 c
    refine A_call (j := 122) (As := [.ref 50]) (fr' := (145, 22, [some (.ref 50), none, none, none], [])) (S' := S1) 2 rfl (e := 2) (by omega) (A_imp (wt122  h) (fun v S12 hq => ?_))
    obtain ⟨r13, hv, h⟩ := hq
    subst hv
    refine A_br (¬ r13 = 0) (r1 := ((145, 27, [some (.ref 50), none, none, none], []), S12)) (r2 := ((145, 25, [some (.ref 50), none, none, none], []), S12)) 1 rfl (fun c => ?_) (fun c => ?_)
    · have h := h.1 c
      refine A_call (j := 139) (As := [.ref 50]) (fr' := (145, 31, [some (.ref 50), none, none, none], [])) (S' := S12) 2 rfl (e := e0) (by omega) (A_imp (hCN _ _ h) (fun v S14 hq => ?_))
      obtain ⟨r15, hv, h⟩ := hq
      subst hv
      refine A_br (¬ r15 = 0) (r1 := ((145, 50, [some (.ref 50), some (.int r15), none, none], []), (ri_wi S14 50 24 ((S14.1 50 24) - (1 : Int32))))) (r2 := ((145, 46, [some (.ref 50), some (.int r15), none, none], []), (ri_wi S14 50 24 ((S14.1 50 24) - (1 : Int32))))) 9 rfl (fun c => ?_) (fun c => ?_)
      · have h := h.1 c
        exact A_ret 2 (m := 145) (v := some (.int (0 : Int32))) (S' := (ri_wi S14 50 24 ((S14.1 50 24) - (1 : Int32)))) rfl rfl ⟨_, rfl, h⟩
      · have h := h.2 c
        exact A_ret 3 (m := 145) (v := some (.int (1 : Int32))) (S' := (ri_wi S14 50 24 ((S14.1 50 24) - (1 : Int32)))) rfl rfl ⟨_, rfl, h⟩
    · have h := h.2 c
      exact A_ret 2 (m := 145) (v := some (.int (0 : Int32))) (S' := S12) rfl rfl ⟨_, rfl, h⟩
/-! X5_term1, depth (e0 + 1) -/
set_option maxRecDepth 10000 in
set_option maxHeartbeats 1000000 in
theorem wt149_l5 {E : ri_E} (CA : ri_H → (Int32 → ri_H → Prop) → Prop) (e0 : Nat) (he0 : 20 ≤ e0) (hCA : ∀ (S : ri_H) (Q : Int32 → ri_H → Prop), CA S Q → ri_A E e0 (ri_en 148 [.ref 50]) S (Qi Q)) {Q : Int32 → ri_H → Prop} : ∀ (n : Nat) (x1 : Int32) (S : ri_H), wterm_l5 CA  Q n x1 S → ri_A E (e0 + 1) (149, 5, [some (.ref 50), some (.int x1)], []) S (Qi Q) := by
  intro n
  induction n with
  | zero => intro x1 S h; exact h.elim
  | succ n ih =>
    intro x1 S h
    unfold wterm_l5 at h
    refine A_call (j := 121) (As := [.ref 50, .int (42 : Int32)]) (fr' := (149, 11, [some (.ref 50), some (.int x1)], [])) (S' := S) 3 rfl (e := 0) (by omega) (A_imp (wt121 (42 : Int32) h) (fun v S3 hq => ?_))
    obtain ⟨r4, hv, h⟩ := hq
    subst hv
    refine A_br (r4 = 0) (r1 := ((149, 28, [some (.ref 50), some (.int x1)], []), S3)) (r2 := ((149, 14, [some (.ref 50), some (.int x1)], []), S3)) 1 rfl (fun c => ?_) (fun c => ?_)
    · have h := h.1 c
      exact A_ret 2 (m := 149) (v := some (.int x1)) (S' := S3) rfl rfl ⟨_, rfl, h⟩
    · have h := h.2 c
      refine A_call (j := 117) (As := [.ref 50]) (fr' := (149, 18, [some (.ref 50), some (.int x1)], [])) (S' := S3) 2 rfl (e := 1) (by omega) (A_imp (wt117  h) (fun v S5 hq => ?_))
      obtain ⟨hv, h⟩ := hq
      subst hv
      refine A_call (j := 148) (As := [.ref 50]) (fr' := (149, 23, [some (.ref 50), some (.int x1)], [.int x1])) (S' := S5) 3 rfl (e := e0) (by omega) (A_imp (hCA _ _ h) (fun v S6 hq => ?_))
      obtain ⟨r7, hv, h⟩ := hq
      subst hv
      refine A_nx 3 (fr' := (149, 5, [some (.ref 50), some (.int (x1 * r7))], [])) (S' := S6) rfl ?_
      refine ri_A.less (m := 149) (pc := 5) (L := [some (.ref 50), some (.int (x1 * r7))]) (L' := [some (.ref 50), some (.int (x1 * r7))]) (st := []) ⟨rfl, ⟨rfl, trivial⟩⟩ ?_
      exact ih _ _ h
set_option maxRecDepth 10000 in
set_option maxHeartbeats 1000000 in
theorem wt149 {E : ri_E} (CA : ri_H → (Int32 → ri_H → Prop) → Prop) (e0 : Nat) (he0 : 20 ≤ e0) (hCA : ∀ (S : ri_H) (Q : Int32 → ri_H → Prop), CA S Q → ri_A E e0 (ri_en 148 [.ref 50]) S (Qi Q))  {S : ri_H} {Q : Int32 → ri_H → Prop} (h : wterm CA  S Q) : ri_A E (e0 + 1) (ri_en 149 [.ref 50]) S (Qi Q) := by
  unfold wterm at h
  show ri_A E (e0 + 1) (149, 0, [some (.ref 50), none], []) S (Qi Q)
  refine A_call (j := 148) (As := [.ref 50]) (fr' := (149, 4, [some (.ref 50), none], [])) (S' := S) 2 rfl (e := e0) (by omega) (A_imp (hCA _ _ h) (fun v S1 hq => ?_))
  obtain ⟨r2, hv, h⟩ := hq
  subst hv
  refine A_nx 1 (fr' := (149, 5, [some (.ref 50), some (.int r2)], [])) (S' := S1) rfl ?_
  refine ri_A.less (m := 149) (pc := 5) (L := [some (.ref 50), some (.int r2)]) (L' := [some (.ref 50), some (.int r2)]) (st := []) ⟨rfl, ⟨rfl, trivial⟩⟩ ?_
  obtain ⟨nn, h⟩ := h
  exact wt149_l5 CA e0 he0 hCA  nn _ _ h
/-! X5_added1, depth (e0 + 1) -/
set_option maxRecDepth 10000 in
set_option maxHeartbeats 1000000 in
theorem wt150_b62 {E : ri_E} (CT : ri_H → (Int32 → ri_H → Prop) → Prop) (e0 : Nat) (he0 : 20 ≤ e0) (hCT : ∀ (S : ri_H) (Q : Int32 → ri_H → Prop), CT S Q → ri_A E e0 (ri_en 149 [.ref 50]) S (Qi Q)) {K5 : Int32 → ri_H → Prop} {Q : Int32 → ri_H → Prop} (hK5 : ∀ (x1 : Int32) (S : ri_H), K5 x1 S → ri_A E (e0 + 1) (150, 5, [some (.ref 50), some (.int x1), none, none], []) S (Qi Q)) (s0 : Int32) (S : ri_H) (h : wadded_b62 CT K5 Q s0 S) : ri_A E (e0 + 1) (150, 62, [some (.ref 50), none, none, none], [.int s0]) S (Qi Q) := by
  unfold wadded_b62 at h
  refine A_nx 2 (fr' := (150, 5, [some (.ref 50), some (.int s0), none, none], [])) (S' := S) rfl ?_
  refine ri_A.less (m := 150) (pc := 5) (L := [some (.ref 50), some (.int s0), none, none]) (L' := [some (.ref 50), some (.int s0), none, none]) (st := []) ⟨rfl, ⟨rfl, trivial⟩⟩ ?_
  exact hK5 _ _ h
set_option maxRecDepth 10000 in
set_option maxHeartbeats 1000000 in
theorem wt150_b39 {E : ri_E} (CT : ri_H → (Int32 → ri_H → Prop) → Prop) (e0 : Nat) (he0 : 20 ≤ e0) (hCT : ∀ (S : ri_H) (Q : Int32 → ri_H → Prop), CT S Q → ri_A E e0 (ri_en 149 [.ref 50]) S (Qi Q)) {K5 : Int32 → ri_H → Prop} {Q : Int32 → ri_H → Prop} (hK5 : ∀ (x1 : Int32) (S : ri_H), K5 x1 S → ri_A E (e0 + 1) (150, 5, [some (.ref 50), some (.int x1), none, none], []) S (Qi Q)) (x1 : Int32) (s0 : Int32) (S : ri_H) (h : wadded_b39 CT K5 Q x1 s0 S) : ri_A E (e0 + 1) (150, 39, [some (.ref 50), some (.int x1), none, none], [.int s0]) S (Qi Q) := by
  unfold wadded_b39 at h
  refine A_call (j := 117) (As := [.ref 50]) (fr' := (150, 44, [some (.ref 50), some (.int x1), some (.int s0), none], [])) (S' := S) 3 rfl (e := 1) (by omega) (A_imp (wt117  h) (fun v S5 hq => ?_))
  obtain ⟨hv, h⟩ := hq
  subst hv
  refine A_call (j := 149) (As := [.ref 50]) (fr' := (150, 48, [some (.ref 50), some (.int x1), some (.int s0), none], [])) (S' := S5) 2 rfl (e := e0) (by omega) (A_imp (hCT _ _ h) (fun v S6 hq => ?_))
  obtain ⟨r7, hv, h⟩ := hq
  subst hv
  refine A_br (s0 = 0) (r1 := ((150, 59, [some (.ref 50), some (.int x1), some (.int s0), some (.int r7)], []), S6)) (r2 := ((150, 53, [some (.ref 50), some (.int x1), some (.int s0), some (.int r7)], []), S6)) 3 rfl (fun c => ?_) (fun c => ?_)
  · have h := h.1 c
    refine A_nx 3 (fr' := (150, 62, [some (.ref 50), some (.int x1), some (.int s0), some (.int r7)], [.int (x1 - r7)])) (S' := S6) rfl ?_
    refine ri_A.less (m := 150) (pc := 62) (L := [some (.ref 50), some (.int x1), some (.int s0), some (.int r7)]) (L' := [some (.ref 50), none, none, none]) (st := [.int (x1 - r7)]) ⟨rfl, trivial⟩ ?_
    exact wt150_b62 CT e0 he0 hCT hK5 _ _ h
  · have h := h.2 c
    refine A_nx 4 (fr' := (150, 62, [some (.ref 50), some (.int x1), some (.int s0), some (.int r7)], [.int (x1 + r7)])) (S' := S6) rfl ?_
    refine ri_A.less (m := 150) (pc := 62) (L := [some (.ref 50), some (.int x1), some (.int s0), some (.int r7)]) (L' := [some (.ref 50), none, none, none]) (st := [.int (x1 + r7)]) ⟨rfl, trivial⟩ ?_
    exact wt150_b62 CT e0 he0 hCT hK5 _ _ h
set_option maxRecDepth 10000 in
set_option maxHeartbeats 1000000 in
theorem wt150_b23 {E : ri_E} (CT : ri_H → (Int32 → ri_H → Prop) → Prop) (e0 : Nat) (he0 : 20 ≤ e0) (hCT : ∀ (S : ri_H) (Q : Int32 → ri_H → Prop), CT S Q → ri_A E e0 (ri_en 149 [.ref 50]) S (Qi Q)) {K5 : Int32 → ri_H → Prop} {Q : Int32 → ri_H → Prop} (hK5 : ∀ (x1 : Int32) (S : ri_H), K5 x1 S → ri_A E (e0 + 1) (150, 5, [some (.ref 50), some (.int x1), none, none], []) S (Qi Q)) (x1 : Int32) (S : ri_H) (h : wadded_b23 CT K5 Q x1 S) : ri_A E (e0 + 1) (150, 23, [some (.ref 50), some (.int x1), none, none], []) S (Qi Q) := by
  unfold wadded_b23 at h
  refine A_br (¬ (lg_cmp (S.2 50 23) (43 : Int64)) = 0) (r1 := ((150, 38, [some (.ref 50), some (.int x1), none, none], []), S)) (r2 := ((150, 34, [some (.ref 50), some (.int x1), none, none], []), S)) 5 rfl (fun c => ?_) (fun c => ?_)
  · have h := h.1 c
    refine A_nx 1 (fr' := (150, 39, [some (.ref 50), some (.int x1), none, none], [.int (0 : Int32)])) (S' := S) rfl ?_
    refine ri_A.less (m := 150) (pc := 39) (L := [some (.ref 50), some (.int x1), none, none]) (L' := [some (.ref 50), some (.int x1), none, none]) (st := [.int (0 : Int32)]) ⟨rfl, ⟨rfl, trivial⟩⟩ ?_
    exact wt150_b39 CT e0 he0 hCT hK5 _ _ _ h
  · have h := h.2 c
    refine A_nx 2 (fr' := (150, 39, [some (.ref 50), some (.int x1), none, none], [.int (1 : Int32)])) (S' := S) rfl ?_
    refine ri_A.less (m := 150) (pc := 39) (L := [some (.ref 50), some (.int x1), none, none]) (L' := [some (.ref 50), some (.int x1), none, none]) (st := [.int (1 : Int32)]) ⟨rfl, ⟨rfl, trivial⟩⟩ ?_
    exact wt150_b39 CT e0 he0 hCT hK5 _ _ _ h
set_option maxRecDepth 10000 in
set_option maxHeartbeats 1000000 in
theorem wt150_l5 {E : ri_E} (CT : ri_H → (Int32 → ri_H → Prop) → Prop) (e0 : Nat) (he0 : 20 ≤ e0) (hCT : ∀ (S : ri_H) (Q : Int32 → ri_H → Prop), CT S Q → ri_A E e0 (ri_en 149 [.ref 50]) S (Qi Q)) {Q : Int32 → ri_H → Prop} : ∀ (n : Nat) (x1 : Int32) (S : ri_H), wadded_l5 CT  Q n x1 S → ri_A E (e0 + 1) (150, 5, [some (.ref 50), some (.int x1), none, none], []) S (Qi Q) := by
  intro n
  induction n with
  | zero => intro x1 S h; exact h.elim
  | succ n ih =>
    intro x1 S h
    unfold wadded_l5 at h
    refine A_call (j := 121) (As := [.ref 50, .int (43 : Int32)]) (fr' := (150, 11, [some (.ref 50), some (.int x1), none, none], [])) (S' := S) 3 rfl (e := 0) (by omega) (A_imp (wt121 (43 : Int32) h) (fun v S3 hq => ?_))
    obtain ⟨r4, hv, h⟩ := hq
    subst hv
    refine A_br (¬ r4 = 0) (r1 := ((150, 23, [some (.ref 50), some (.int x1), none, none], []), S3)) (r2 := ((150, 14, [some (.ref 50), some (.int x1), none, none], []), S3)) 1 rfl (fun c => ?_) (fun c => ?_)
    · have h := h.1 c
      refine ri_A.less (m := 150) (pc := 23) (L := [some (.ref 50), some (.int x1), none, none]) (L' := [some (.ref 50), some (.int x1), none, none]) (st := []) ⟨rfl, ⟨rfl, trivial⟩⟩ ?_
      exact wt150_b23 CT e0 he0 hCT (fun x1 S hk => ih x1 S hk) _ _ h
    · have h := h.2 c
      refine A_call (j := 121) (As := [.ref 50, .int (45 : Int32)]) (fr' := (150, 20, [some (.ref 50), some (.int x1), none, none], [])) (S' := S3) 3 rfl (e := 0) (by omega) (A_imp (wt121 (45 : Int32) h) (fun v S8 hq => ?_))
      obtain ⟨r9, hv, h⟩ := hq
      subst hv
      refine A_br (r9 = 0) (r1 := ((150, 66, [some (.ref 50), some (.int x1), none, none], []), S8)) (r2 := ((150, 23, [some (.ref 50), some (.int x1), none, none], []), S8)) 1 rfl (fun c => ?_) (fun c => ?_)
      · have h := h.1 c
        exact A_ret 2 (m := 150) (v := some (.int x1)) (S' := S8) rfl rfl ⟨_, rfl, h⟩
      · have h := h.2 c
        refine ri_A.less (m := 150) (pc := 23) (L := [some (.ref 50), some (.int x1), none, none]) (L' := [some (.ref 50), some (.int x1), none, none]) (st := []) ⟨rfl, ⟨rfl, trivial⟩⟩ ?_
        exact wt150_b23 CT e0 he0 hCT (fun x1 S hk => ih x1 S hk) _ _ h
set_option maxRecDepth 10000 in
set_option maxHeartbeats 1000000 in
theorem wt150 {E : ri_E} (CT : ri_H → (Int32 → ri_H → Prop) → Prop) (e0 : Nat) (he0 : 20 ≤ e0) (hCT : ∀ (S : ri_H) (Q : Int32 → ri_H → Prop), CT S Q → ri_A E e0 (ri_en 149 [.ref 50]) S (Qi Q))  {S : ri_H} {Q : Int32 → ri_H → Prop} (h : wadded CT  S Q) : ri_A E (e0 + 1) (ri_en 150 [.ref 50]) S (Qi Q) := by
  unfold wadded at h
  show ri_A E (e0 + 1) (150, 0, [some (.ref 50), none, none, none], []) S (Qi Q)
  refine A_call (j := 149) (As := [.ref 50]) (fr' := (150, 4, [some (.ref 50), none, none, none], [])) (S' := S) 2 rfl (e := e0) (by omega) (A_imp (hCT _ _ h) (fun v S1 hq => ?_))
  obtain ⟨r2, hv, h⟩ := hq
  subst hv
  refine A_nx 1 (fr' := (150, 5, [some (.ref 50), some (.int r2), none, none], [])) (S' := S1) rfl ?_
  refine ri_A.less (m := 150) (pc := 5) (L := [some (.ref 50), some (.int r2), none, none]) (L' := [some (.ref 50), some (.int r2), none, none]) (st := []) ⟨rfl, ⟨rfl, trivial⟩⟩ ?_
  obtain ⟨nn, h⟩ := h
  exact wt150_l5 CT e0 he0 hCT  nn _ _ h
/-! X5_both1, depth (e0 + 1) -/
set_option maxRecDepth 10000 in
set_option maxHeartbeats 1000000 in
theorem wt152_b45 {E : ri_E} (CN : ri_H → (Int32 → ri_H → Prop) → Prop) (e0 : Nat) (he0 : 20 ≤ e0) (hCN : ∀ (S : ri_H) (Q : Int32 → ri_H → Prop), CN S Q → ri_A E e0 (ri_en 151 [.ref 50]) S (Qi Q)) {K5 : Int32 → ri_H → Prop} {Q : Int32 → ri_H → Prop} (hK5 : ∀ (x1 : Int32) (S : ri_H), K5 x1 S → ri_A E (e0 + 1) (152, 5, [some (.ref 50), some (.int x1), none], []) S (Qi Q)) (s0 : Int32) (S : ri_H) (h : wboth_b45 CN K5 Q s0 S) : ri_A E (e0 + 1) (152, 45, [some (.ref 50), none, none], [.int s0]) S (Qi Q) := by
  unfold wboth_b45 at h
  refine A_nx 2 (fr' := (152, 5, [some (.ref 50), some (.int s0), none], [])) (S' := S) rfl ?_
  refine ri_A.less (m := 152) (pc := 5) (L := [some (.ref 50), some (.int s0), none]) (L' := [some (.ref 50), some (.int s0), none]) (st := []) ⟨rfl, ⟨rfl, trivial⟩⟩ ?_
  exact hK5 _ _ h
set_option maxRecDepth 10000 in
set_option maxHeartbeats 1000000 in
theorem wt152_b44 {E : ri_E} (CN : ri_H → (Int32 → ri_H → Prop) → Prop) (e0 : Nat) (he0 : 20 ≤ e0) (hCN : ∀ (S : ri_H) (Q : Int32 → ri_H → Prop), CN S Q → ri_A E e0 (ri_en 151 [.ref 50]) S (Qi Q)) {K5 : Int32 → ri_H → Prop} {Q : Int32 → ri_H → Prop} (hK5 : ∀ (x1 : Int32) (S : ri_H), K5 x1 S → ri_A E (e0 + 1) (152, 5, [some (.ref 50), some (.int x1), none], []) S (Qi Q))  (S : ri_H) (h : wboth_b44 CN K5 Q  S) : ri_A E (e0 + 1) (152, 44, [some (.ref 50), none, none], []) S (Qi Q) := by
  unfold wboth_b44 at h
  refine A_nx 1 (fr' := (152, 45, [some (.ref 50), none, none], [.int (0 : Int32)])) (S' := S) rfl ?_
  refine ri_A.less (m := 152) (pc := 45) (L := [some (.ref 50), none, none]) (L' := [some (.ref 50), none, none]) (st := [.int (0 : Int32)]) ⟨rfl, trivial⟩ ?_
  exact wt152_b45 CN e0 he0 hCN hK5 _ _ h
set_option maxRecDepth 10000 in
set_option maxHeartbeats 1000000 in
theorem wt152_l5 {E : ri_E} (CN : ri_H → (Int32 → ri_H → Prop) → Prop) (e0 : Nat) (he0 : 20 ≤ e0) (hCN : ∀ (S : ri_H) (Q : Int32 → ri_H → Prop), CN S Q → ri_A E e0 (ri_en 151 [.ref 50]) S (Qi Q)) {Q : Int32 → ri_H → Prop} : ∀ (n : Nat) (x1 : Int32) (S : ri_H), wboth_l5 CN  Q n x1 S → ri_A E (e0 + 1) (152, 5, [some (.ref 50), some (.int x1), none], []) S (Qi Q) := by
  intro n
  induction n with
  | zero => intro x1 S h; exact h.elim
  | succ n ih =>
    intro x1 S h
    unfold wboth_l5 at h
    refine A_call (j := 120) (As := [.ref 50, .int (97 : Int32), .int (110 : Int32), .int (100 : Int32), .int (0 : Int32), .int (0 : Int32), .int (0 : Int32), .int (0 : Int32), .int (0 : Int32)]) (fr' := (152, 20, [some (.ref 50), some (.int x1), none], [])) (S' := S) 10 rfl (e := 2) (by omega) (A_imp (wt120 (97 : Int32) (110 : Int32) (100 : Int32) (0 : Int32) (0 : Int32) (0 : Int32) (0 : Int32) (0 : Int32) h) (fun v S3 hq => ?_))
    obtain ⟨r4, hv, h⟩ := hq
    subst hv
    refine A_br (r4 = 0) (r1 := ((152, 49, [some (.ref 50), some (.int x1), none], []), S3)) (r2 := ((152, 23, [some (.ref 50), some (.int x1), none], []), S3)) 1 rfl (fun c => ?_) (fun c => ?_)
    · have h := h.1 c
      exact A_ret 2 (m := 152) (v := some (.int x1)) (S' := S3) rfl rfl ⟨_, rfl, h⟩
    · have h := h.2 c
      refine A_call (j := 117) (As := [.ref 50]) (fr' := (152, 27, [some (.ref 50), some (.int x1), none], [])) (S' := S3) 2 rfl (e := 1) (by omega) (A_imp (wt117  h) (fun v S5 hq => ?_))
      obtain ⟨hv, h⟩ := hq
      subst hv
      refine A_call (j := 151) (As := [.ref 50]) (fr' := (152, 31, [some (.ref 50), some (.int x1), none], [])) (S' := S5) 2 rfl (e := e0) (by omega) (A_imp (hCN _ _ h) (fun v S6 hq => ?_))
      obtain ⟨r7, hv, h⟩ := hq
      subst hv
      refine A_br (x1 = 0) (r1 := ((152, 44, [some (.ref 50), some (.int x1), some (.int r7)], []), S6)) (r2 := ((152, 36, [some (.ref 50), some (.int x1), some (.int r7)], []), S6)) 3 rfl (fun c => ?_) (fun c => ?_)
      · have h := h.1 c
        refine ri_A.less (m := 152) (pc := 44) (L := [some (.ref 50), some (.int x1), some (.int r7)]) (L' := [some (.ref 50), none, none]) (st := []) ⟨rfl, trivial⟩ ?_
        exact wt152_b44 CN e0 he0 hCN (fun x1 S hk => ih x1 S hk) _ h
      · have h := h.2 c
        refine A_br (r7 = 0) (r1 := ((152, 44, [some (.ref 50), some (.int x1), some (.int r7)], []), S6)) (r2 := ((152, 40, [some (.ref 50), some (.int x1), some (.int r7)], []), S6)) 2 rfl (fun c => ?_) (fun c => ?_)
        · have h := h.1 c
          refine ri_A.less (m := 152) (pc := 44) (L := [some (.ref 50), some (.int x1), some (.int r7)]) (L' := [some (.ref 50), none, none]) (st := []) ⟨rfl, trivial⟩ ?_
          exact wt152_b44 CN e0 he0 hCN (fun x1 S hk => ih x1 S hk) _ h
        · have h := h.2 c
          refine A_nx 2 (fr' := (152, 45, [some (.ref 50), some (.int x1), some (.int r7)], [.int (1 : Int32)])) (S' := S6) rfl ?_
          refine ri_A.less (m := 152) (pc := 45) (L := [some (.ref 50), some (.int x1), some (.int r7)]) (L' := [some (.ref 50), none, none]) (st := [.int (1 : Int32)]) ⟨rfl, trivial⟩ ?_
          exact wt152_b45 CN e0 he0 hCN (fun x1 S hk => ih x1 S hk) _ _ h
set_option maxRecDepth 10000 in
set_option maxHeartbeats 1000000 in
theorem wt152 {E : ri_E} (CN : ri_H → (Int32 → ri_H → Prop) → Prop) (e0 : Nat) (he0 : 20 ≤ e0) (hCN : ∀ (S : ri_H) (Q : Int32 → ri_H → Prop), CN S Q → ri_A E e0 (ri_en 151 [.ref 50]) S (Qi Q))  {S : ri_H} {Q : Int32 → ri_H → Prop} (h : wboth CN  S Q) : ri_A E (e0 + 1) (ri_en 152 [.ref 50]) S (Qi Q) := by
  unfold wboth at h
  show ri_A E (e0 + 1) (152, 0, [some (.ref 50), none, none], []) S (Qi Q)
  refine A_call (j := 151) (As := [.ref 50]) (fr' := (152, 4, [some (.ref 50), none, none], [])) (S' := S) 2 rfl (e := e0) (by omega) (A_imp (hCN _ _ h) (fun v S1 hq => ?_))
  obtain ⟨r2, hv, h⟩ := hq
  subst hv
  refine A_nx 1 (fr' := (152, 5, [some (.ref 50), some (.int r2), none], [])) (S' := S1) rfl ?_
  refine ri_A.less (m := 152) (pc := 5) (L := [some (.ref 50), some (.int r2), none]) (L' := [some (.ref 50), some (.int r2), none]) (st := []) ⟨rfl, ⟨rfl, trivial⟩⟩ ?_
  obtain ⟨nn, h⟩ := h
  exact wt152_l5 CN e0 he0 hCN  nn _ _ h
/-! X5_either1, depth (e0 + 1) -/
set_option maxRecDepth 10000 in
set_option maxHeartbeats 1000000 in
theorem wt153_b44 {E : ri_E} (CB : ri_H → (Int32 → ri_H → Prop) → Prop) (e0 : Nat) (he0 : 20 ≤ e0) (hCB : ∀ (S : ri_H) (Q : Int32 → ri_H → Prop), CB S Q → ri_A E e0 (ri_en 152 [.ref 50]) S (Qi Q)) {K5 : Int32 → ri_H → Prop} {Q : Int32 → ri_H → Prop} (hK5 : ∀ (x1 : Int32) (S : ri_H), K5 x1 S → ri_A E (e0 + 1) (153, 5, [some (.ref 50), some (.int x1), none], []) S (Qi Q)) (s0 : Int32) (S : ri_H) (h : weither_b44 CB K5 Q s0 S) : ri_A E (e0 + 1) (153, 44, [some (.ref 50), none, none], [.int s0]) S (Qi Q) := by
  unfold weither_b44 at h
  refine A_nx 2 (fr' := (153, 5, [some (.ref 50), some (.int s0), none], [])) (S' := S) rfl ?_
  refine ri_A.less (m := 153) (pc := 5) (L := [some (.ref 50), some (.int s0), none]) (L' := [some (.ref 50), some (.int s0), none]) (st := []) ⟨rfl, ⟨rfl, trivial⟩⟩ ?_
  exact hK5 _ _ h
set_option maxRecDepth 10000 in
set_option maxHeartbeats 1000000 in
theorem wt153_b39 {E : ri_E} (CB : ri_H → (Int32 → ri_H → Prop) → Prop) (e0 : Nat) (he0 : 20 ≤ e0) (hCB : ∀ (S : ri_H) (Q : Int32 → ri_H → Prop), CB S Q → ri_A E e0 (ri_en 152 [.ref 50]) S (Qi Q)) {K5 : Int32 → ri_H → Prop} {Q : Int32 → ri_H → Prop} (hK5 : ∀ (x1 : Int32) (S : ri_H), K5 x1 S → ri_A E (e0 + 1) (153, 5, [some (.ref 50), some (.int x1), none], []) S (Qi Q))  (S : ri_H) (h : weither_b39 CB K5 Q  S) : ri_A E (e0 + 1) (153, 39, [some (.ref 50), none, none], []) S (Qi Q) := by
  unfold weither_b39 at h
  refine A_nx 2 (fr' := (153, 44, [some (.ref 50), none, none], [.int (1 : Int32)])) (S' := S) rfl ?_
  refine ri_A.less (m := 153) (pc := 44) (L := [some (.ref 50), none, none]) (L' := [some (.ref 50), none, none]) (st := [.int (1 : Int32)]) ⟨rfl, trivial⟩ ?_
  exact wt153_b44 CB e0 he0 hCB hK5 _ _ h
set_option maxRecDepth 10000 in
set_option maxHeartbeats 1000000 in
theorem wt153_l5 {E : ri_E} (CB : ri_H → (Int32 → ri_H → Prop) → Prop) (e0 : Nat) (he0 : 20 ≤ e0) (hCB : ∀ (S : ri_H) (Q : Int32 → ri_H → Prop), CB S Q → ri_A E e0 (ri_en 152 [.ref 50]) S (Qi Q)) {Q : Int32 → ri_H → Prop} : ∀ (n : Nat) (x1 : Int32) (S : ri_H), weither_l5 CB  Q n x1 S → ri_A E (e0 + 1) (153, 5, [some (.ref 50), some (.int x1), none], []) S (Qi Q) := by
  intro n
  induction n with
  | zero => intro x1 S h; exact h.elim
  | succ n ih =>
    intro x1 S h
    unfold weither_l5 at h
    refine A_call (j := 120) (As := [.ref 50, .int (111 : Int32), .int (114 : Int32), .int (0 : Int32), .int (0 : Int32), .int (0 : Int32), .int (0 : Int32), .int (0 : Int32), .int (0 : Int32)]) (fr' := (153, 19, [some (.ref 50), some (.int x1), none], [])) (S' := S) 10 rfl (e := 2) (by omega) (A_imp (wt120 (111 : Int32) (114 : Int32) (0 : Int32) (0 : Int32) (0 : Int32) (0 : Int32) (0 : Int32) (0 : Int32) h) (fun v S3 hq => ?_))
    obtain ⟨r4, hv, h⟩ := hq
    subst hv
    refine A_br (r4 = 0) (r1 := ((153, 48, [some (.ref 50), some (.int x1), none], []), S3)) (r2 := ((153, 22, [some (.ref 50), some (.int x1), none], []), S3)) 1 rfl (fun c => ?_) (fun c => ?_)
    · have h := h.1 c
      exact A_ret 2 (m := 153) (v := some (.int x1)) (S' := S3) rfl rfl ⟨_, rfl, h⟩
    · have h := h.2 c
      refine A_call (j := 117) (As := [.ref 50]) (fr' := (153, 26, [some (.ref 50), some (.int x1), none], [])) (S' := S3) 2 rfl (e := 1) (by omega) (A_imp (wt117  h) (fun v S5 hq => ?_))
      obtain ⟨hv, h⟩ := hq
      subst hv
      refine A_call (j := 152) (As := [.ref 50]) (fr' := (153, 30, [some (.ref 50), some (.int x1), none], [])) (S' := S5) 2 rfl (e := e0) (by omega) (A_imp (hCB _ _ h) (fun v S6 hq => ?_))
      obtain ⟨r7, hv, h⟩ := hq
      subst hv
      refine A_br (¬ x1 = 0) (r1 := ((153, 39, [some (.ref 50), some (.int x1), some (.int r7)], []), S6)) (r2 := ((153, 35, [some (.ref 50), some (.int x1), some (.int r7)], []), S6)) 3 rfl (fun c => ?_) (fun c => ?_)
      · have h := h.1 c
        refine ri_A.less (m := 153) (pc := 39) (L := [some (.ref 50), some (.int x1), some (.int r7)]) (L' := [some (.ref 50), none, none]) (st := []) ⟨rfl, trivial⟩ ?_
        exact wt153_b39 CB e0 he0 hCB (fun x1 S hk => ih x1 S hk) _ h
      · have h := h.2 c
        refine A_br (r7 = 0) (r1 := ((153, 43, [some (.ref 50), some (.int x1), some (.int r7)], []), S6)) (r2 := ((153, 39, [some (.ref 50), some (.int x1), some (.int r7)], []), S6)) 2 rfl (fun c => ?_) (fun c => ?_)
        · have h := h.1 c
          refine A_nx 1 (fr' := (153, 44, [some (.ref 50), some (.int x1), some (.int r7)], [.int (0 : Int32)])) (S' := S6) rfl ?_
          refine ri_A.less (m := 153) (pc := 44) (L := [some (.ref 50), some (.int x1), some (.int r7)]) (L' := [some (.ref 50), none, none]) (st := [.int (0 : Int32)]) ⟨rfl, trivial⟩ ?_
          exact wt153_b44 CB e0 he0 hCB (fun x1 S hk => ih x1 S hk) _ _ h
        · have h := h.2 c
          refine ri_A.less (m := 153) (pc := 39) (L := [some (.ref 50), some (.int x1), some (.int r7)]) (L' := [some (.ref 50), none, none]) (st := []) ⟨rfl, trivial⟩ ?_
          exact wt153_b39 CB e0 he0 hCB (fun x1 S hk => ih x1 S hk) _ h
set_option maxRecDepth 10000 in
set_option maxHeartbeats 1000000 in
theorem wt153 {E : ri_E} (CB : ri_H → (Int32 → ri_H → Prop) → Prop) (e0 : Nat) (he0 : 20 ≤ e0) (hCB : ∀ (S : ri_H) (Q : Int32 → ri_H → Prop), CB S Q → ri_A E e0 (ri_en 152 [.ref 50]) S (Qi Q))  {S : ri_H} {Q : Int32 → ri_H → Prop} (h : weither CB  S Q) : ri_A E (e0 + 1) (ri_en 153 [.ref 50]) S (Qi Q) := by
  unfold weither at h
  show ri_A E (e0 + 1) (153, 0, [some (.ref 50), none, none], []) S (Qi Q)
  refine A_call (j := 152) (As := [.ref 50]) (fr' := (153, 4, [some (.ref 50), none, none], [])) (S' := S) 2 rfl (e := e0) (by omega) (A_imp (hCB _ _ h) (fun v S1 hq => ?_))
  obtain ⟨r2, hv, h⟩ := hq
  subst hv
  refine A_nx 1 (fr' := (153, 5, [some (.ref 50), some (.int r2), none], [])) (S' := S1) rfl ?_
  refine ri_A.less (m := 153) (pc := 5) (L := [some (.ref 50), some (.int r2), none]) (L' := [some (.ref 50), some (.int r2), none]) (st := []) ⟨rfl, ⟨rfl, trivial⟩⟩ ?_
  obtain ⟨nn, h⟩ := h
  exact wt153_l5 CB e0 he0 hCB  nn _ _ h
/-! X5_atom1, depth (e0 + 1) -/
set_option maxRecDepth 10000 in
set_option maxHeartbeats 1000000 in
theorem wt148_b157 {E : ri_E} (CA : ri_H → (Int32 → ri_H → Prop) → Prop) (CE : ri_H → (Int32 → ri_H → Prop) → Prop) (e0 : Nat) (he0 : 20 ≤ e0) (hCA : ∀ (S : ri_H) (Q : Int32 → ri_H → Prop), CA S Q → ri_A E e0 (ri_en 142 [.ref 50]) S (Qi Q)) (hCE : ∀ (S : ri_H) (Q : Int32 → ri_H → Prop), CE S Q → ri_A E e0 (ri_en 147 [.ref 50]) S (Qi Q)) {Q : Int32 → ri_H → Prop} (x1 : Int32) (S : ri_H) (h : watom_b157 CA CE  Q x1 S) : ri_A E (e0 + 1) (148, 157, [some (.ref 50), some (.int x1)], []) S (Qi Q) := by
  unfold watom_b157 at h
  refine A_call (j := 118) (As := [.ref 50]) (fr' := (148, 161, [some (.ref 50), some (.int x1)], [])) (S' := S) 2 rfl (e := 0) (by omega) (A_imp (wt118  h) (fun v S5 hq => ?_))
  obtain ⟨hv, h⟩ := hq
  subst hv
  exact A_ret 2 (m := 148) (v := some (.int x1)) (S' := S5) rfl rfl ⟨_, rfl, h⟩
set_option maxRecDepth 10000 in
set_option maxHeartbeats 1000000 in
theorem wt148_b123 {E : ri_E} (CA : ri_H → (Int32 → ri_H → Prop) → Prop) (CE : ri_H → (Int32 → ri_H → Prop) → Prop) (e0 : Nat) (he0 : 20 ≤ e0) (hCA : ∀ (S : ri_H) (Q : Int32 → ri_H → Prop), CA S Q → ri_A E e0 (ri_en 142 [.ref 50]) S (Qi Q)) (hCE : ∀ (S : ri_H) (Q : Int32 → ri_H → Prop), CE S Q → ri_A E e0 (ri_en 147 [.ref 50]) S (Qi Q)) {Q : Int32 → ri_H → Prop} (x1 : Int32) (S : ri_H) (h : watom_b123 CA CE  Q x1 S) : ri_A E (e0 + 1) (148, 123, [some (.ref 50), some (.int x1)], []) S (Qi Q) := by
  unfold watom_b123 at h
  refine A_br (¬ (S.1 50 25) = 0) (r1 := ((148, 157, [some (.ref 50), some (.int x1)], []), S)) (r2 := ((148, 130, [some (.ref 50), some (.int x1)], []), S)) 3 rfl (fun c => ?_) (fun c => ?_)
  · have h := h.1 c
    refine ri_A.less (m := 148) (pc := 157) (L := [some (.ref 50), some (.int x1)]) (L' := [some (.ref 50), some (.int x1)]) (st := []) ⟨rfl, ⟨rfl, trivial⟩⟩ ?_
    exact wt148_b157 CA CE e0 he0 hCA hCE  _ _ h
  · have h := h.2 c
    refine A_br (¬ (S.1 50 21) = (1 : Int32)) (r1 := ((148, 157, [some (.ref 50), some (.int x1)], []), S)) (r2 := ((148, 138, [some (.ref 50), some (.int x1)], []), S)) 4 rfl (fun c => ?_) (fun c => ?_)
    · have h := h.1 c
      refine ri_A.less (m := 148) (pc := 157) (L := [some (.ref 50), some (.int x1)]) (L' := [some (.ref 50), some (.int x1)]) (st := []) ⟨rfl, ⟨rfl, trivial⟩⟩ ?_
      exact wt148_b157 CA CE e0 he0 hCA hCE  _ _ h
    · have h := h.2 c
      refine A_call (j := 123) (As := [.ref 50]) (fr' := (148, 142, [some (.ref 50), some (.int x1)], [])) (S' := S) 2 rfl (e := 3) (by omega) (A_imp (wt123  h) (fun v S6 hq => ?_))
      obtain ⟨r7, hv, h⟩ := hq
      subst hv
      refine A_br (¬ (S6.1 50 25) = 0) (r1 := ((148, 161, [some (.ref 50), some (.int r7)], []), S6)) (r2 := ((148, 150, [some (.ref 50), some (.int r7)], []), S6)) 4 rfl (fun c => ?_) (fun c => ?_)
      · have h := h.1 c
        exact A_ret 2 (m := 148) (v := some (.int r7)) (S' := S6) rfl rfl ⟨_, rfl, h⟩
      · have h := h.2 c
        refine A_call (j := 117) (As := [.ref 50]) (fr' := (148, 154, [some (.ref 50), some (.int r7)], [])) (S' := S6) 2 rfl (e := 1) (by omega) (A_imp (wt117  h) (fun v S8 hq => ?_))
        obtain ⟨hv, h⟩ := hq
        subst hv
        exact A_ret 3 (m := 148) (v := some (.int r7)) (S' := S8) rfl rfl ⟨_, rfl, h⟩
set_option maxRecDepth 10000 in
set_option maxHeartbeats 1000000 in
theorem wt148_b71 {E : ri_E} (CA : ri_H → (Int32 → ri_H → Prop) → Prop) (CE : ri_H → (Int32 → ri_H → Prop) → Prop) (e0 : Nat) (he0 : 20 ≤ e0) (hCA : ∀ (S : ri_H) (Q : Int32 → ri_H → Prop), CA S Q → ri_A E e0 (ri_en 142 [.ref 50]) S (Qi Q)) (hCE : ∀ (S : ri_H) (Q : Int32 → ri_H → Prop), CE S Q → ri_A E e0 (ri_en 147 [.ref 50]) S (Qi Q)) {Q : Int32 → ri_H → Prop} (x1 : Int32) (S : ri_H) (h : watom_b71 CA CE  Q x1 S) : ri_A E (e0 + 1) (148, 71, [some (.ref 50), some (.int x1)], []) S (Qi Q) := by
  unfold watom_b71 at h
  refine A_br (¬ (S.1 50 25) = 0) (r1 := ((148, 161, [some (.ref 50), some (.int x1)], []), (ri_wi S 50 24 ((S.1 50 24) - (1 : Int32))))) (r2 := ((148, 88, [some (.ref 50), some (.int x1)], []), (ri_wi S 50 24 ((S.1 50 24) - (1 : Int32))))) 9 rfl (fun c => ?_) (fun c => ?_)
  · have h := h.1 c
    exact A_ret 2 (m := 148) (v := some (.int x1)) (S' := (ri_wi S 50 24 ((S.1 50 24) - (1 : Int32)))) rfl rfl ⟨_, rfl, h⟩
  · have h := h.2 c
    refine A_call (j := 117) (As := [.ref 50]) (fr' := (148, 92, [some (.ref 50), some (.int x1)], [])) (S' := (ri_wi S 50 24 ((S.1 50 24) - (1 : Int32)))) 2 rfl (e := 1) (by omega) (A_imp (wt117  h) (fun v S16 hq => ?_))
    obtain ⟨hv, h⟩ := hq
    subst hv
    exact A_ret 3 (m := 148) (v := some (.int x1)) (S' := S16) rfl rfl ⟨_, rfl, h⟩
set_option maxRecDepth 10000 in
set_option maxHeartbeats 1000000 in
theorem wt148 {E : ri_E} (CA : ri_H → (Int32 → ri_H → Prop) → Prop) (CE : ri_H → (Int32 → ri_H → Prop) → Prop) (e0 : Nat) (he0 : 20 ≤ e0) (hCA : ∀ (S : ri_H) (Q : Int32 → ri_H → Prop), CA S Q → ri_A E e0 (ri_en 142 [.ref 50]) S (Qi Q)) (hCE : ∀ (S : ri_H) (Q : Int32 → ri_H → Prop), CE S Q → ri_A E e0 (ri_en 147 [.ref 50]) S (Qi Q))  {S : ri_H} {Q : Int32 → ri_H → Prop} (h : watom CA CE  S Q) : ri_A E (e0 + 1) (ri_en 148 [.ref 50]) S (Qi Q) := by
  unfold watom at h
  show ri_A E (e0 + 1) (148, 0, [some (.ref 50), none], []) S (Qi Q)
  refine A_call (j := 121) (As := [.ref 50, .int (45 : Int32)]) (fr' := (148, 8, [some (.ref 50), some (.int (0 : Int32))], [])) (S' := S) 5 rfl (e := 0) (by omega) (A_imp (wt121 (45 : Int32) h) (fun v S1 hq => ?_))
  obtain ⟨r2, hv, h⟩ := hq
  subst hv
  refine A_br (r2 = 0) (r1 := ((148, 37, [some (.ref 50), some (.int (0 : Int32))], []), S1)) (r2 := ((148, 11, [some (.ref 50), some (.int (0 : Int32))], []), S1)) 1 rfl (fun c => ?_) (fun c => ?_)
  · have h := h.1 c
    refine A_call (j := 121) (As := [.ref 50, .int (40 : Int32)]) (fr' := (148, 43, [some (.ref 50), some (.int (0 : Int32))], [])) (S' := S1) 3 rfl (e := 0) (by omega) (A_imp (wt121 (40 : Int32) h) (fun v S3 hq => ?_))
    obtain ⟨r4, hv, h⟩ := hq
    subst hv
    refine A_br (r4 = 0) (r1 := ((148, 95, [some (.ref 50), some (.int (0 : Int32))], []), S3)) (r2 := ((148, 46, [some (.ref 50), some (.int (0 : Int32))], []), S3)) 1 rfl (fun c => ?_) (fun c => ?_)
    · have h := h.1 c
      refine A_br (¬ (S3.1 50 25) = 0) (r1 := ((148, 123, [some (.ref 50), some (.int (0 : Int32))], []), S3)) (r2 := ((148, 102, [some (.ref 50), some (.int (0 : Int32))], []), S3)) 3 rfl (fun c => ?_) (fun c => ?_)
      · have h := h.1 c
        refine ri_A.less (m := 148) (pc := 123) (L := [some (.ref 50), some (.int (0 : Int32))]) (L' := [some (.ref 50), some (.int (0 : Int32))]) (st := []) ⟨rfl, ⟨rfl, trivial⟩⟩ ?_
        exact wt148_b123 CA CE e0 he0 hCA hCE  _ _ h
      · have h := h.2 c
        refine A_br (¬ (S3.1 50 21) = (2 : Int32)) (r1 := ((148, 123, [some (.ref 50), some (.int (0 : Int32))], []), S3)) (r2 := ((148, 110, [some (.ref 50), some (.int (0 : Int32))], []), S3)) 4 rfl (fun c => ?_) (fun c => ?_)
        · have h := h.1 c
          refine ri_A.less (m := 148) (pc := 123) (L := [some (.ref 50), some (.int (0 : Int32))]) (L' := [some (.ref 50), some (.int (0 : Int32))]) (st := []) ⟨rfl, ⟨rfl, trivial⟩⟩ ?_
          exact wt148_b123 CA CE e0 he0 hCA hCE  _ _ h
        · have h := h.2 c
          refine A_call (j := 117) (As := [.ref 50]) (fr' := (148, 120, [some (.ref 50), some (.int ((S3.2 50 23)).toInt32)], [])) (S' := S3) 6 rfl (e := 1) (by omega) (A_imp (wt117  h) (fun v S9 hq => ?_))
          obtain ⟨hv, h⟩ := hq
          subst hv
          exact A_ret 3 (m := 148) (v := some (.int ((S3.2 50 23)).toInt32)) (S' := S9) rfl rfl ⟨_, rfl, h⟩
    · have h := h.2 c
      refine A_call (j := 122) (As := [.ref 50]) (fr' := (148, 50, [some (.ref 50), some (.int (0 : Int32))], [])) (S' := S3) 2 rfl (e := 2) (by omega) (A_imp (wt122  h) (fun v S10 hq => ?_))
      obtain ⟨r11, hv, h⟩ := hq
      subst hv
      refine A_br (r11 = 0) (r1 := ((148, 161, [some (.ref 50), some (.int (0 : Int32))], []), S10)) (r2 := ((148, 53, [some (.ref 50), some (.int (0 : Int32))], []), S10)) 1 rfl (fun c => ?_) (fun c => ?_)
      · have h := h.1 c
        exact A_ret 2 (m := 148) (v := some (.int (0 : Int32))) (S' := S10) rfl rfl ⟨_, rfl, h⟩
      · have h := h.2 c
        refine A_call (j := 147) (As := [.ref 50]) (fr' := (148, 57, [some (.ref 50), some (.int (0 : Int32))], [])) (S' := S10) 2 rfl (e := e0) (by omega) (A_imp (hCE _ _ h) (fun v S12 hq => ?_))
        obtain ⟨r13, hv, h⟩ := hq
        subst hv
        refine A_call (j := 121) (As := [.ref 50, .int (41 : Int32)]) (fr' := (148, 64, [some (.ref 50), some (.int r13)], [])) (S' := S12) 4 rfl (e := 0) (by omega) (A_imp (wt121 (41 : Int32) h) (fun v S14 hq => ?_))
        obtain ⟨r15, hv, h⟩ := hq
        subst hv
        refine A_br (¬ r15 = 0) (r1 := ((148, 71, [some (.ref 50), some (.int r13)], []), S14)) (r2 := ((148, 67, [some (.ref 50), some (.int r13)], []), S14)) 1 rfl (fun c => ?_) (fun c => ?_)
        · have h := h.1 c
          refine ri_A.less (m := 148) (pc := 71) (L := [some (.ref 50), some (.int r13)]) (L' := [some (.ref 50), some (.int r13)]) (st := []) ⟨rfl, ⟨rfl, trivial⟩⟩ ?_
          exact wt148_b71 CA CE e0 he0 hCA hCE  _ _ h
        · have h := h.2 c
          refine A_call (j := 118) (As := [.ref 50]) (fr' := (148, 71, [some (.ref 50), some (.int r13)], [])) (S' := S14) 2 rfl (e := 0) (by omega) (A_imp (wt118  h) (fun v S17 hq => ?_))
          obtain ⟨hv, h⟩ := hq
          subst hv
          refine ri_A.less (m := 148) (pc := 71) (L := [some (.ref 50), some (.int r13)]) (L' := [some (.ref 50), some (.int r13)]) (st := []) ⟨rfl, ⟨rfl, trivial⟩⟩ ?_
          exact wt148_b71 CA CE e0 he0 hCA hCE  _ _ h
  · have h := h.2 c
    refine A_call (j := 122) (As := [.ref 50]) (fr' := (148, 15, [some (.ref 50), some (.int (0 : Int32))], [])) (S' := S1) 2 rfl (e := 2) (by omega) (A_imp (wt122  h) (fun v S18 hq => ?_))
    obtain ⟨r19, hv, h⟩ := hq
    subst hv
    refine A_br (r19 = 0) (r1 := ((148, 161, [some (.ref 50), some (.int (0 : Int32))], []), S18)) (r2 := ((148, 18, [some (.ref 50), some (.int (0 : Int32))], []), S18)) 1 rfl (fun c => ?_) (fun c => ?_)
    · have h := h.1 c
      exact A_ret 2 (m := 148) (v := some (.int (0 : Int32))) (S' := S18) rfl rfl ⟨_, rfl, h⟩
    · have h := h.2 c
      refine A_call (j := 142) (As := [.ref 50]) (fr' := (148, 22, [some (.ref 50), some (.int (0 : Int32))], [])) (S' := S18) 2 rfl (e := e0) (by omega) (A_imp (hCA _ _ h) (fun v S20 hq => ?_))
      obtain ⟨r21, hv, h⟩ := hq
      subst hv
      exact A_ret 11 (m := 148) (v := some (.int (-r21))) (S' := (ri_wi S20 50 24 ((S20.1 50 24) - (1 : Int32)))) rfl rfl ⟨_, rfl, h⟩
/-! X5_not1, depth (e0 + 1) -/
set_option maxRecDepth 10000 in
set_option maxHeartbeats 1000000 in
theorem wt151_b120 {E : ri_E} (CN : ri_H → (Int32 → ri_H → Prop) → Prop) (CD : ri_H → (Int32 → ri_H → Prop) → Prop) (e0 : Nat) (he0 : 20 ≤ e0) (hCN : ∀ (S : ri_H) (Q : Int32 → ri_H → Prop), CN S Q → ri_A E e0 (ri_en 145 [.ref 50]) S (Qi Q)) (hCD : ∀ (S : ri_H) (Q : Int32 → ri_H → Prop), CD S Q → ri_A E e0 (ri_en 150 [.ref 50]) S (Qi Q)) {Q : Int32 → ri_H → Prop}  (S : ri_H) (h : wnot_b120 CN CD  Q  S) : ri_A E (e0 + 1) (151, 120, [none, none, none, none], []) S (Qi Q) := by
  unfold wnot_b120 at h
  exact A_ret 3 (m := 151) (v := some (.int (1 : Int32))) (S' := S) rfl rfl ⟨_, rfl, h⟩
set_option maxRecDepth 10000 in
set_option maxHeartbeats 1000000 in
theorem wt151_b93 {E : ri_E} (CN : ri_H → (Int32 → ri_H → Prop) → Prop) (CD : ri_H → (Int32 → ri_H → Prop) → Prop) (e0 : Nat) (he0 : 20 ≤ e0) (hCN : ∀ (S : ri_H) (Q : Int32 → ri_H → Prop), CN S Q → ri_A E e0 (ri_en 145 [.ref 50]) S (Qi Q)) (hCD : ∀ (S : ri_H) (Q : Int32 → ri_H → Prop), CD S Q → ri_A E e0 (ri_en 150 [.ref 50]) S (Qi Q)) {Q : Int32 → ri_H → Prop} (x1 : Int32) (s0 : Int32) (S : ri_H) (h : wnot_b93 CN CD  Q x1 s0 S) : ri_A E (e0 + 1) (151, 93, [some (.ref 50), some (.int x1), none, none], [.int s0]) S (Qi Q) := by
  unfold wnot_b93 at h
  refine A_call (j := 117) (As := [.ref 50]) (fr' := (151, 98, [some (.ref 50), some (.int x1), some (.int s0), none], [])) (S' := S) 3 rfl (e := 1) (by omega) (A_imp (wt117  h) (fun v S7 hq => ?_))
  obtain ⟨hv, h⟩ := hq
  subst hv
  refine A_call (j := 150) (As := [.ref 50]) (fr' := (151, 102, [some (.ref 50), some (.int x1), some (.int s0), none], [])) (S' := S7) 2 rfl (e := e0) (by omega) (A_imp (hCD _ _ h) (fun v S8 hq => ?_))
  obtain ⟨r9, hv, h⟩ := hq
  subst hv
  refine A_br (s0 = 0) (r1 := ((151, 115, [some (.ref 50), some (.int x1), some (.int s0), some (.int r9)], []), S8)) (r2 := ((151, 107, [some (.ref 50), some (.int x1), some (.int s0), some (.int r9)], []), S8)) 3 rfl (fun c => ?_) (fun c => ?_)
  · have h := h.1 c
    refine A_br (¬ x1 = r9) (r1 := ((151, 124, [some (.ref 50), some (.int x1), some (.int s0), some (.int r9)], []), S8)) (r2 := ((151, 120, [some (.ref 50), some (.int x1), some (.int s0), some (.int r9)], []), S8)) 3 rfl (fun c => ?_) (fun c => ?_)
    · have h := h.1 c
      exact A_ret 2 (m := 151) (v := some (.int (0 : Int32))) (S' := S8) rfl rfl ⟨_, rfl, h⟩
    · have h := h.2 c
      refine ri_A.less (m := 151) (pc := 120) (L := [some (.ref 50), some (.int x1), some (.int s0), some (.int r9)]) (L' := [none, none, none, none]) (st := []) trivial ?_
      exact wt151_b120 CN CD e0 he0 hCN hCD  _ h
  · have h := h.2 c
    refine A_br (r9 ≤ x1) (r1 := ((151, 124, [some (.ref 50), some (.int x1), some (.int s0), some (.int r9)], []), S8)) (r2 := ((151, 112, [some (.ref 50), some (.int x1), some (.int s0), some (.int r9)], []), S8)) 3 rfl (fun c => ?_) (fun c => ?_)
    · have h := h.1 c
      exact A_ret 2 (m := 151) (v := some (.int (0 : Int32))) (S' := S8) rfl rfl ⟨_, rfl, h⟩
    · have h := h.2 c
      refine A_nx 1 (fr' := (151, 120, [some (.ref 50), some (.int x1), some (.int s0), some (.int r9)], [])) (S' := S8) rfl ?_
      refine ri_A.less (m := 151) (pc := 120) (L := [some (.ref 50), some (.int x1), some (.int s0), some (.int r9)]) (L' := [none, none, none, none]) (st := []) trivial ?_
      exact wt151_b120 CN CD e0 he0 hCN hCD  _ h
set_option maxRecDepth 10000 in
set_option maxHeartbeats 1000000 in
theorem wt151_b77 {E : ri_E} (CN : ri_H → (Int32 → ri_H → Prop) → Prop) (CD : ri_H → (Int32 → ri_H → Prop) → Prop) (e0 : Nat) (he0 : 20 ≤ e0) (hCN : ∀ (S : ri_H) (Q : Int32 → ri_H → Prop), CN S Q → ri_A E e0 (ri_en 145 [.ref 50]) S (Qi Q)) (hCD : ∀ (S : ri_H) (Q : Int32 → ri_H → Prop), CD S Q → ri_A E e0 (ri_en 150 [.ref 50]) S (Qi Q)) {Q : Int32 → ri_H → Prop} (x1 : Int32) (S : ri_H) (h : wnot_b77 CN CD  Q x1 S) : ri_A E (e0 + 1) (151, 77, [some (.ref 50), some (.int x1), none, none], []) S (Qi Q) := by
  unfold wnot_b77 at h
  refine A_br (¬ (lg_cmp (S.2 50 23) (60 : Int64)) = 0) (r1 := ((151, 92, [some (.ref 50), some (.int x1), none, none], []), S)) (r2 := ((151, 88, [some (.ref 50), some (.int x1), none, none], []), S)) 5 rfl (fun c => ?_) (fun c => ?_)
  · have h := h.1 c
    refine A_nx 1 (fr' := (151, 93, [some (.ref 50), some (.int x1), none, none], [.int (0 : Int32)])) (S' := S) rfl ?_
    refine ri_A.less (m := 151) (pc := 93) (L := [some (.ref 50), some (.int x1), none, none]) (L' := [some (.ref 50), some (.int x1), none, none]) (st := [.int (0 : Int32)]) ⟨rfl, ⟨rfl, trivial⟩⟩ ?_
    exact wt151_b93 CN CD e0 he0 hCN hCD  _ _ _ h
  · have h := h.2 c
    refine A_nx 2 (fr' := (151, 93, [some (.ref 50), some (.int x1), none, none], [.int (1 : Int32)])) (S' := S) rfl ?_
    refine ri_A.less (m := 151) (pc := 93) (L := [some (.ref 50), some (.int x1), none, none]) (L' := [some (.ref 50), some (.int x1), none, none]) (st := [.int (1 : Int32)]) ⟨rfl, ⟨rfl, trivial⟩⟩ ?_
    exact wt151_b93 CN CD e0 he0 hCN hCD  _ _ _ h
set_option maxRecDepth 10000 in
set_option maxHeartbeats 1000000 in
theorem wt151 {E : ri_E} (CN : ri_H → (Int32 → ri_H → Prop) → Prop) (CD : ri_H → (Int32 → ri_H → Prop) → Prop) (e0 : Nat) (he0 : 20 ≤ e0) (hCN : ∀ (S : ri_H) (Q : Int32 → ri_H → Prop), CN S Q → ri_A E e0 (ri_en 145 [.ref 50]) S (Qi Q)) (hCD : ∀ (S : ri_H) (Q : Int32 → ri_H → Prop), CD S Q → ri_A E e0 (ri_en 150 [.ref 50]) S (Qi Q))  {S : ri_H} {Q : Int32 → ri_H → Prop} (h : wnot CN CD  S Q) : ri_A E (e0 + 1) (ri_en 151 [.ref 50]) S (Qi Q) := by
  unfold wnot at h
  show ri_A E (e0 + 1) (151, 0, [some (.ref 50), none, none, none], []) S (Qi Q)
  refine A_call (j := 120) (As := [.ref 50, .int (110 : Int32), .int (111 : Int32), .int (116 : Int32), .int (0 : Int32), .int (0 : Int32), .int (0 : Int32), .int (0 : Int32), .int (0 : Int32)]) (fr' := (151, 15, [some (.ref 50), none, none, none], [])) (S' := S) 10 rfl (e := 2) (by omega) (A_imp (wt120 (110 : Int32) (111 : Int32) (116 : Int32) (0 : Int32) (0 : Int32) (0 : Int32) (0 : Int32) (0 : Int32) h) (fun v S1 hq => ?_))
  obtain ⟨r2, hv, h⟩ := hq
  subst hv
  refine A_br (r2 = 0) (r1 := ((151, 52, [some (.ref 50), none, none, none], []), S1)) (r2 := ((151, 18, [some (.ref 50), none, none, none], []), S1)) 1 rfl (fun c => ?_) (fun c => ?_)
  · have h := h.1 c
    refine A_call (j := 150) (As := [.ref 50]) (fr' := (151, 56, [some (.ref 50), none, none, none], [])) (S' := S1) 2 rfl (e := e0) (by omega) (A_imp (hCD _ _ h) (fun v S3 hq => ?_))
    obtain ⟨r4, hv, h⟩ := hq
    subst hv
    refine A_call (j := 121) (As := [.ref 50, .int (60 : Int32)]) (fr' := (151, 63, [some (.ref 50), some (.int r4), none, none], [])) (S' := S3) 4 rfl (e := 0) (by omega) (A_imp (wt121 (60 : Int32) h) (fun v S5 hq => ?_))
    obtain ⟨r6, hv, h⟩ := hq
    subst hv
    refine A_br (¬ r6 = 0) (r1 := ((151, 77, [some (.ref 50), some (.int r4), none, none], []), S5)) (r2 := ((151, 66, [some (.ref 50), some (.int r4), none, none], []), S5)) 1 rfl (fun c => ?_) (fun c => ?_)
    · have h := h.1 c
      refine ri_A.less (m := 151) (pc := 77) (L := [some (.ref 50), some (.int r4), none, none]) (L' := [some (.ref 50), some (.int r4), none, none]) (st := []) ⟨rfl, ⟨rfl, trivial⟩⟩ ?_
      exact wt151_b77 CN CD e0 he0 hCN hCD  _ _ h
    · have h := h.2 c
      refine A_call (j := 121) (As := [.ref 50, .int (61 : Int32)]) (fr' := (151, 72, [some (.ref 50), some (.int r4), none, none], [])) (S' := S5) 3 rfl (e := 0) (by omega) (A_imp (wt121 (61 : Int32) h) (fun v S10 hq => ?_))
      obtain ⟨r11, hv, h⟩ := hq
      subst hv
      refine A_br (¬ r11 = 0) (r1 := ((151, 77, [some (.ref 50), some (.int r4), none, none], []), S10)) (r2 := ((151, 75, [some (.ref 50), some (.int r4), none, none], []), S10)) 1 rfl (fun c => ?_) (fun c => ?_)
      · have h := h.1 c
        refine ri_A.less (m := 151) (pc := 77) (L := [some (.ref 50), some (.int r4), none, none]) (L' := [some (.ref 50), some (.int r4), none, none]) (st := []) ⟨rfl, ⟨rfl, trivial⟩⟩ ?_
        exact wt151_b77 CN CD e0 he0 hCN hCD  _ _ h
      · have h := h.2 c
        exact A_ret 2 (m := 151) (v := some (.int r4)) (S' := S10) rfl rfl ⟨_, rfl, h⟩
  · have h := h.2 c
    refine A_call (j := 122) (As := [.ref 50]) (fr' := (151, 22, [some (.ref 50), none, none, none], [])) (S' := S1) 2 rfl (e := 2) (by omega) (A_imp (wt122  h) (fun v S12 hq => ?_))
    obtain ⟨r13, hv, h⟩ := hq
    subst hv
    refine A_br (¬ r13 = 0) (r1 := ((151, 27, [some (.ref 50), none, none, none], []), S12)) (r2 := ((151, 25, [some (.ref 50), none, none, none], []), S12)) 1 rfl (fun c => ?_) (fun c => ?_)
    · have h := h.1 c
      refine A_call (j := 145) (As := [.ref 50]) (fr' := (151, 31, [some (.ref 50), none, none, none], [])) (S' := S12) 2 rfl (e := e0) (by omega) (A_imp (hCN _ _ h) (fun v S14 hq => ?_))
      obtain ⟨r15, hv, h⟩ := hq
      subst hv
      refine A_br (¬ r15 = 0) (r1 := ((151, 50, [some (.ref 50), some (.int r15), none, none], []), (ri_wi S14 50 24 ((S14.1 50 24) - (1 : Int32))))) (r2 := ((151, 46, [some (.ref 50), some (.int r15), none, none], []), (ri_wi S14 50 24 ((S14.1 50 24) - (1 : Int32))))) 9 rfl (fun c => ?_) (fun c => ?_)
      · have h := h.1 c
        exact A_ret 2 (m := 151) (v := some (.int (0 : Int32))) (S' := (ri_wi S14 50 24 ((S14.1 50 24) - (1 : Int32)))) rfl rfl ⟨_, rfl, h⟩
      · have h := h.2 c
        exact A_ret 3 (m := 151) (v := some (.int (1 : Int32))) (S' := (ri_wi S14 50 24 ((S14.1 50 24) - (1 : Int32)))) rfl rfl ⟨_, rfl, h⟩
    · have h := h.2 c
      exact A_ret 2 (m := 151) (v := some (.int (0 : Int32))) (S' := S12) rfl rfl ⟨_, rfl, h⟩
/-! X5_term0, depth (e0 + 1) -/
set_option maxRecDepth 10000 in
set_option maxHeartbeats 1000000 in
theorem wt155_l5 {E : ri_E} (CA : ri_H → (Int32 → ri_H → Prop) → Prop) (e0 : Nat) (he0 : 20 ≤ e0) (hCA : ∀ (S : ri_H) (Q : Int32 → ri_H → Prop), CA S Q → ri_A E e0 (ri_en 154 [.ref 50]) S (Qi Q)) {Q : Int32 → ri_H → Prop} : ∀ (n : Nat) (x1 : Int32) (S : ri_H), wterm_l5 CA  Q n x1 S → ri_A E (e0 + 1) (155, 5, [some (.ref 50), some (.int x1)], []) S (Qi Q) := by
  intro n
  induction n with
  | zero => intro x1 S h; exact h.elim
  | succ n ih =>
    intro x1 S h
    unfold wterm_l5 at h
    refine A_call (j := 121) (As := [.ref 50, .int (42 : Int32)]) (fr' := (155, 11, [some (.ref 50), some (.int x1)], [])) (S' := S) 3 rfl (e := 0) (by omega) (A_imp (wt121 (42 : Int32) h) (fun v S3 hq => ?_))
    obtain ⟨r4, hv, h⟩ := hq
    subst hv
    refine A_br (r4 = 0) (r1 := ((155, 28, [some (.ref 50), some (.int x1)], []), S3)) (r2 := ((155, 14, [some (.ref 50), some (.int x1)], []), S3)) 1 rfl (fun c => ?_) (fun c => ?_)
    · have h := h.1 c
      exact A_ret 2 (m := 155) (v := some (.int x1)) (S' := S3) rfl rfl ⟨_, rfl, h⟩
    · have h := h.2 c
      refine A_call (j := 117) (As := [.ref 50]) (fr' := (155, 18, [some (.ref 50), some (.int x1)], [])) (S' := S3) 2 rfl (e := 1) (by omega) (A_imp (wt117  h) (fun v S5 hq => ?_))
      obtain ⟨hv, h⟩ := hq
      subst hv
      refine A_call (j := 154) (As := [.ref 50]) (fr' := (155, 23, [some (.ref 50), some (.int x1)], [.int x1])) (S' := S5) 3 rfl (e := e0) (by omega) (A_imp (hCA _ _ h) (fun v S6 hq => ?_))
      obtain ⟨r7, hv, h⟩ := hq
      subst hv
      refine A_nx 3 (fr' := (155, 5, [some (.ref 50), some (.int (x1 * r7))], [])) (S' := S6) rfl ?_
      refine ri_A.less (m := 155) (pc := 5) (L := [some (.ref 50), some (.int (x1 * r7))]) (L' := [some (.ref 50), some (.int (x1 * r7))]) (st := []) ⟨rfl, ⟨rfl, trivial⟩⟩ ?_
      exact ih _ _ h
set_option maxRecDepth 10000 in
set_option maxHeartbeats 1000000 in
theorem wt155 {E : ri_E} (CA : ri_H → (Int32 → ri_H → Prop) → Prop) (e0 : Nat) (he0 : 20 ≤ e0) (hCA : ∀ (S : ri_H) (Q : Int32 → ri_H → Prop), CA S Q → ri_A E e0 (ri_en 154 [.ref 50]) S (Qi Q))  {S : ri_H} {Q : Int32 → ri_H → Prop} (h : wterm CA  S Q) : ri_A E (e0 + 1) (ri_en 155 [.ref 50]) S (Qi Q) := by
  unfold wterm at h
  show ri_A E (e0 + 1) (155, 0, [some (.ref 50), none], []) S (Qi Q)
  refine A_call (j := 154) (As := [.ref 50]) (fr' := (155, 4, [some (.ref 50), none], [])) (S' := S) 2 rfl (e := e0) (by omega) (A_imp (hCA _ _ h) (fun v S1 hq => ?_))
  obtain ⟨r2, hv, h⟩ := hq
  subst hv
  refine A_nx 1 (fr' := (155, 5, [some (.ref 50), some (.int r2)], [])) (S' := S1) rfl ?_
  refine ri_A.less (m := 155) (pc := 5) (L := [some (.ref 50), some (.int r2)]) (L' := [some (.ref 50), some (.int r2)]) (st := []) ⟨rfl, ⟨rfl, trivial⟩⟩ ?_
  obtain ⟨nn, h⟩ := h
  exact wt155_l5 CA e0 he0 hCA  nn _ _ h
/-! X5_added0, depth (e0 + 1) -/
set_option maxRecDepth 10000 in
set_option maxHeartbeats 1000000 in
theorem wt156_b62 {E : ri_E} (CT : ri_H → (Int32 → ri_H → Prop) → Prop) (e0 : Nat) (he0 : 20 ≤ e0) (hCT : ∀ (S : ri_H) (Q : Int32 → ri_H → Prop), CT S Q → ri_A E e0 (ri_en 155 [.ref 50]) S (Qi Q)) {K5 : Int32 → ri_H → Prop} {Q : Int32 → ri_H → Prop} (hK5 : ∀ (x1 : Int32) (S : ri_H), K5 x1 S → ri_A E (e0 + 1) (156, 5, [some (.ref 50), some (.int x1), none, none], []) S (Qi Q)) (s0 : Int32) (S : ri_H) (h : wadded_b62 CT K5 Q s0 S) : ri_A E (e0 + 1) (156, 62, [some (.ref 50), none, none, none], [.int s0]) S (Qi Q) := by
  unfold wadded_b62 at h
  refine A_nx 2 (fr' := (156, 5, [some (.ref 50), some (.int s0), none, none], [])) (S' := S) rfl ?_
  refine ri_A.less (m := 156) (pc := 5) (L := [some (.ref 50), some (.int s0), none, none]) (L' := [some (.ref 50), some (.int s0), none, none]) (st := []) ⟨rfl, ⟨rfl, trivial⟩⟩ ?_
  exact hK5 _ _ h
set_option maxRecDepth 10000 in
set_option maxHeartbeats 1000000 in
theorem wt156_b39 {E : ri_E} (CT : ri_H → (Int32 → ri_H → Prop) → Prop) (e0 : Nat) (he0 : 20 ≤ e0) (hCT : ∀ (S : ri_H) (Q : Int32 → ri_H → Prop), CT S Q → ri_A E e0 (ri_en 155 [.ref 50]) S (Qi Q)) {K5 : Int32 → ri_H → Prop} {Q : Int32 → ri_H → Prop} (hK5 : ∀ (x1 : Int32) (S : ri_H), K5 x1 S → ri_A E (e0 + 1) (156, 5, [some (.ref 50), some (.int x1), none, none], []) S (Qi Q)) (x1 : Int32) (s0 : Int32) (S : ri_H) (h : wadded_b39 CT K5 Q x1 s0 S) : ri_A E (e0 + 1) (156, 39, [some (.ref 50), some (.int x1), none, none], [.int s0]) S (Qi Q) := by
  unfold wadded_b39 at h
  refine A_call (j := 117) (As := [.ref 50]) (fr' := (156, 44, [some (.ref 50), some (.int x1), some (.int s0), none], [])) (S' := S) 3 rfl (e := 1) (by omega) (A_imp (wt117  h) (fun v S5 hq => ?_))
  obtain ⟨hv, h⟩ := hq
  subst hv
  refine A_call (j := 155) (As := [.ref 50]) (fr' := (156, 48, [some (.ref 50), some (.int x1), some (.int s0), none], [])) (S' := S5) 2 rfl (e := e0) (by omega) (A_imp (hCT _ _ h) (fun v S6 hq => ?_))
  obtain ⟨r7, hv, h⟩ := hq
  subst hv
  refine A_br (s0 = 0) (r1 := ((156, 59, [some (.ref 50), some (.int x1), some (.int s0), some (.int r7)], []), S6)) (r2 := ((156, 53, [some (.ref 50), some (.int x1), some (.int s0), some (.int r7)], []), S6)) 3 rfl (fun c => ?_) (fun c => ?_)
  · have h := h.1 c
    refine A_nx 3 (fr' := (156, 62, [some (.ref 50), some (.int x1), some (.int s0), some (.int r7)], [.int (x1 - r7)])) (S' := S6) rfl ?_
    refine ri_A.less (m := 156) (pc := 62) (L := [some (.ref 50), some (.int x1), some (.int s0), some (.int r7)]) (L' := [some (.ref 50), none, none, none]) (st := [.int (x1 - r7)]) ⟨rfl, trivial⟩ ?_
    exact wt156_b62 CT e0 he0 hCT hK5 _ _ h
  · have h := h.2 c
    refine A_nx 4 (fr' := (156, 62, [some (.ref 50), some (.int x1), some (.int s0), some (.int r7)], [.int (x1 + r7)])) (S' := S6) rfl ?_
    refine ri_A.less (m := 156) (pc := 62) (L := [some (.ref 50), some (.int x1), some (.int s0), some (.int r7)]) (L' := [some (.ref 50), none, none, none]) (st := [.int (x1 + r7)]) ⟨rfl, trivial⟩ ?_
    exact wt156_b62 CT e0 he0 hCT hK5 _ _ h
set_option maxRecDepth 10000 in
set_option maxHeartbeats 1000000 in
theorem wt156_b23 {E : ri_E} (CT : ri_H → (Int32 → ri_H → Prop) → Prop) (e0 : Nat) (he0 : 20 ≤ e0) (hCT : ∀ (S : ri_H) (Q : Int32 → ri_H → Prop), CT S Q → ri_A E e0 (ri_en 155 [.ref 50]) S (Qi Q)) {K5 : Int32 → ri_H → Prop} {Q : Int32 → ri_H → Prop} (hK5 : ∀ (x1 : Int32) (S : ri_H), K5 x1 S → ri_A E (e0 + 1) (156, 5, [some (.ref 50), some (.int x1), none, none], []) S (Qi Q)) (x1 : Int32) (S : ri_H) (h : wadded_b23 CT K5 Q x1 S) : ri_A E (e0 + 1) (156, 23, [some (.ref 50), some (.int x1), none, none], []) S (Qi Q) := by
  unfold wadded_b23 at h
  refine A_br (¬ (lg_cmp (S.2 50 23) (43 : Int64)) = 0) (r1 := ((156, 38, [some (.ref 50), some (.int x1), none, none], []), S)) (r2 := ((156, 34, [some (.ref 50), some (.int x1), none, none], []), S)) 5 rfl (fun c => ?_) (fun c => ?_)
  · have h := h.1 c
    refine A_nx 1 (fr' := (156, 39, [some (.ref 50), some (.int x1), none, none], [.int (0 : Int32)])) (S' := S) rfl ?_
    refine ri_A.less (m := 156) (pc := 39) (L := [some (.ref 50), some (.int x1), none, none]) (L' := [some (.ref 50), some (.int x1), none, none]) (st := [.int (0 : Int32)]) ⟨rfl, ⟨rfl, trivial⟩⟩ ?_
    exact wt156_b39 CT e0 he0 hCT hK5 _ _ _ h
  · have h := h.2 c
    refine A_nx 2 (fr' := (156, 39, [some (.ref 50), some (.int x1), none, none], [.int (1 : Int32)])) (S' := S) rfl ?_
    refine ri_A.less (m := 156) (pc := 39) (L := [some (.ref 50), some (.int x1), none, none]) (L' := [some (.ref 50), some (.int x1), none, none]) (st := [.int (1 : Int32)]) ⟨rfl, ⟨rfl, trivial⟩⟩ ?_
    exact wt156_b39 CT e0 he0 hCT hK5 _ _ _ h
set_option maxRecDepth 10000 in
set_option maxHeartbeats 1000000 in
theorem wt156_l5 {E : ri_E} (CT : ri_H → (Int32 → ri_H → Prop) → Prop) (e0 : Nat) (he0 : 20 ≤ e0) (hCT : ∀ (S : ri_H) (Q : Int32 → ri_H → Prop), CT S Q → ri_A E e0 (ri_en 155 [.ref 50]) S (Qi Q)) {Q : Int32 → ri_H → Prop} : ∀ (n : Nat) (x1 : Int32) (S : ri_H), wadded_l5 CT  Q n x1 S → ri_A E (e0 + 1) (156, 5, [some (.ref 50), some (.int x1), none, none], []) S (Qi Q) := by
  intro n
  induction n with
  | zero => intro x1 S h; exact h.elim
  | succ n ih =>
    intro x1 S h
    unfold wadded_l5 at h
    refine A_call (j := 121) (As := [.ref 50, .int (43 : Int32)]) (fr' := (156, 11, [some (.ref 50), some (.int x1), none, none], [])) (S' := S) 3 rfl (e := 0) (by omega) (A_imp (wt121 (43 : Int32) h) (fun v S3 hq => ?_))
    obtain ⟨r4, hv, h⟩ := hq
    subst hv
    refine A_br (¬ r4 = 0) (r1 := ((156, 23, [some (.ref 50), some (.int x1), none, none], []), S3)) (r2 := ((156, 14, [some (.ref 50), some (.int x1), none, none], []), S3)) 1 rfl (fun c => ?_) (fun c => ?_)
    · have h := h.1 c
      refine ri_A.less (m := 156) (pc := 23) (L := [some (.ref 50), some (.int x1), none, none]) (L' := [some (.ref 50), some (.int x1), none, none]) (st := []) ⟨rfl, ⟨rfl, trivial⟩⟩ ?_
      exact wt156_b23 CT e0 he0 hCT (fun x1 S hk => ih x1 S hk) _ _ h
    · have h := h.2 c
      refine A_call (j := 121) (As := [.ref 50, .int (45 : Int32)]) (fr' := (156, 20, [some (.ref 50), some (.int x1), none, none], [])) (S' := S3) 3 rfl (e := 0) (by omega) (A_imp (wt121 (45 : Int32) h) (fun v S8 hq => ?_))
      obtain ⟨r9, hv, h⟩ := hq
      subst hv
      refine A_br (r9 = 0) (r1 := ((156, 66, [some (.ref 50), some (.int x1), none, none], []), S8)) (r2 := ((156, 23, [some (.ref 50), some (.int x1), none, none], []), S8)) 1 rfl (fun c => ?_) (fun c => ?_)
      · have h := h.1 c
        exact A_ret 2 (m := 156) (v := some (.int x1)) (S' := S8) rfl rfl ⟨_, rfl, h⟩
      · have h := h.2 c
        refine ri_A.less (m := 156) (pc := 23) (L := [some (.ref 50), some (.int x1), none, none]) (L' := [some (.ref 50), some (.int x1), none, none]) (st := []) ⟨rfl, ⟨rfl, trivial⟩⟩ ?_
        exact wt156_b23 CT e0 he0 hCT (fun x1 S hk => ih x1 S hk) _ _ h
set_option maxRecDepth 10000 in
set_option maxHeartbeats 1000000 in
theorem wt156 {E : ri_E} (CT : ri_H → (Int32 → ri_H → Prop) → Prop) (e0 : Nat) (he0 : 20 ≤ e0) (hCT : ∀ (S : ri_H) (Q : Int32 → ri_H → Prop), CT S Q → ri_A E e0 (ri_en 155 [.ref 50]) S (Qi Q))  {S : ri_H} {Q : Int32 → ri_H → Prop} (h : wadded CT  S Q) : ri_A E (e0 + 1) (ri_en 156 [.ref 50]) S (Qi Q) := by
  unfold wadded at h
  show ri_A E (e0 + 1) (156, 0, [some (.ref 50), none, none, none], []) S (Qi Q)
  refine A_call (j := 155) (As := [.ref 50]) (fr' := (156, 4, [some (.ref 50), none, none, none], [])) (S' := S) 2 rfl (e := e0) (by omega) (A_imp (hCT _ _ h) (fun v S1 hq => ?_))
  obtain ⟨r2, hv, h⟩ := hq
  subst hv
  refine A_nx 1 (fr' := (156, 5, [some (.ref 50), some (.int r2), none, none], [])) (S' := S1) rfl ?_
  refine ri_A.less (m := 156) (pc := 5) (L := [some (.ref 50), some (.int r2), none, none]) (L' := [some (.ref 50), some (.int r2), none, none]) (st := []) ⟨rfl, ⟨rfl, trivial⟩⟩ ?_
  obtain ⟨nn, h⟩ := h
  exact wt156_l5 CT e0 he0 hCT  nn _ _ h
/-! X5_both0, depth (e0 + 1) -/
set_option maxRecDepth 10000 in
set_option maxHeartbeats 1000000 in
theorem wt158_b45 {E : ri_E} (CN : ri_H → (Int32 → ri_H → Prop) → Prop) (e0 : Nat) (he0 : 20 ≤ e0) (hCN : ∀ (S : ri_H) (Q : Int32 → ri_H → Prop), CN S Q → ri_A E e0 (ri_en 157 [.ref 50]) S (Qi Q)) {K5 : Int32 → ri_H → Prop} {Q : Int32 → ri_H → Prop} (hK5 : ∀ (x1 : Int32) (S : ri_H), K5 x1 S → ri_A E (e0 + 1) (158, 5, [some (.ref 50), some (.int x1), none], []) S (Qi Q)) (s0 : Int32) (S : ri_H) (h : wboth_b45 CN K5 Q s0 S) : ri_A E (e0 + 1) (158, 45, [some (.ref 50), none, none], [.int s0]) S (Qi Q) := by
  unfold wboth_b45 at h
  refine A_nx 2 (fr' := (158, 5, [some (.ref 50), some (.int s0), none], [])) (S' := S) rfl ?_
  refine ri_A.less (m := 158) (pc := 5) (L := [some (.ref 50), some (.int s0), none]) (L' := [some (.ref 50), some (.int s0), none]) (st := []) ⟨rfl, ⟨rfl, trivial⟩⟩ ?_
  exact hK5 _ _ h
set_option maxRecDepth 10000 in
set_option maxHeartbeats 1000000 in
theorem wt158_b44 {E : ri_E} (CN : ri_H → (Int32 → ri_H → Prop) → Prop) (e0 : Nat) (he0 : 20 ≤ e0) (hCN : ∀ (S : ri_H) (Q : Int32 → ri_H → Prop), CN S Q → ri_A E e0 (ri_en 157 [.ref 50]) S (Qi Q)) {K5 : Int32 → ri_H → Prop} {Q : Int32 → ri_H → Prop} (hK5 : ∀ (x1 : Int32) (S : ri_H), K5 x1 S → ri_A E (e0 + 1) (158, 5, [some (.ref 50), some (.int x1), none], []) S (Qi Q))  (S : ri_H) (h : wboth_b44 CN K5 Q  S) : ri_A E (e0 + 1) (158, 44, [some (.ref 50), none, none], []) S (Qi Q) := by
  unfold wboth_b44 at h
  refine A_nx 1 (fr' := (158, 45, [some (.ref 50), none, none], [.int (0 : Int32)])) (S' := S) rfl ?_
  refine ri_A.less (m := 158) (pc := 45) (L := [some (.ref 50), none, none]) (L' := [some (.ref 50), none, none]) (st := [.int (0 : Int32)]) ⟨rfl, trivial⟩ ?_
  exact wt158_b45 CN e0 he0 hCN hK5 _ _ h
set_option maxRecDepth 10000 in
set_option maxHeartbeats 1000000 in
theorem wt158_l5 {E : ri_E} (CN : ri_H → (Int32 → ri_H → Prop) → Prop) (e0 : Nat) (he0 : 20 ≤ e0) (hCN : ∀ (S : ri_H) (Q : Int32 → ri_H → Prop), CN S Q → ri_A E e0 (ri_en 157 [.ref 50]) S (Qi Q)) {Q : Int32 → ri_H → Prop} : ∀ (n : Nat) (x1 : Int32) (S : ri_H), wboth_l5 CN  Q n x1 S → ri_A E (e0 + 1) (158, 5, [some (.ref 50), some (.int x1), none], []) S (Qi Q) := by
  intro n
  induction n with
  | zero => intro x1 S h; exact h.elim
  | succ n ih =>
    intro x1 S h
    unfold wboth_l5 at h
    refine A_call (j := 120) (As := [.ref 50, .int (97 : Int32), .int (110 : Int32), .int (100 : Int32), .int (0 : Int32), .int (0 : Int32), .int (0 : Int32), .int (0 : Int32), .int (0 : Int32)]) (fr' := (158, 20, [some (.ref 50), some (.int x1), none], [])) (S' := S) 10 rfl (e := 2) (by omega) (A_imp (wt120 (97 : Int32) (110 : Int32) (100 : Int32) (0 : Int32) (0 : Int32) (0 : Int32) (0 : Int32) (0 : Int32) h) (fun v S3 hq => ?_))
    obtain ⟨r4, hv, h⟩ := hq
    subst hv
    refine A_br (r4 = 0) (r1 := ((158, 49, [some (.ref 50), some (.int x1), none], []), S3)) (r2 := ((158, 23, [some (.ref 50), some (.int x1), none], []), S3)) 1 rfl (fun c => ?_) (fun c => ?_)
    · have h := h.1 c
      exact A_ret 2 (m := 158) (v := some (.int x1)) (S' := S3) rfl rfl ⟨_, rfl, h⟩
    · have h := h.2 c
      refine A_call (j := 117) (As := [.ref 50]) (fr' := (158, 27, [some (.ref 50), some (.int x1), none], [])) (S' := S3) 2 rfl (e := 1) (by omega) (A_imp (wt117  h) (fun v S5 hq => ?_))
      obtain ⟨hv, h⟩ := hq
      subst hv
      refine A_call (j := 157) (As := [.ref 50]) (fr' := (158, 31, [some (.ref 50), some (.int x1), none], [])) (S' := S5) 2 rfl (e := e0) (by omega) (A_imp (hCN _ _ h) (fun v S6 hq => ?_))
      obtain ⟨r7, hv, h⟩ := hq
      subst hv
      refine A_br (x1 = 0) (r1 := ((158, 44, [some (.ref 50), some (.int x1), some (.int r7)], []), S6)) (r2 := ((158, 36, [some (.ref 50), some (.int x1), some (.int r7)], []), S6)) 3 rfl (fun c => ?_) (fun c => ?_)
      · have h := h.1 c
        refine ri_A.less (m := 158) (pc := 44) (L := [some (.ref 50), some (.int x1), some (.int r7)]) (L' := [some (.ref 50), none, none]) (st := []) ⟨rfl, trivial⟩ ?_
        exact wt158_b44 CN e0 he0 hCN (fun x1 S hk => ih x1 S hk) _ h
      · have h := h.2 c
        refine A_br (r7 = 0) (r1 := ((158, 44, [some (.ref 50), some (.int x1), some (.int r7)], []), S6)) (r2 := ((158, 40, [some (.ref 50), some (.int x1), some (.int r7)], []), S6)) 2 rfl (fun c => ?_) (fun c => ?_)
        · have h := h.1 c
          refine ri_A.less (m := 158) (pc := 44) (L := [some (.ref 50), some (.int x1), some (.int r7)]) (L' := [some (.ref 50), none, none]) (st := []) ⟨rfl, trivial⟩ ?_
          exact wt158_b44 CN e0 he0 hCN (fun x1 S hk => ih x1 S hk) _ h
        · have h := h.2 c
          refine A_nx 2 (fr' := (158, 45, [some (.ref 50), some (.int x1), some (.int r7)], [.int (1 : Int32)])) (S' := S6) rfl ?_
          refine ri_A.less (m := 158) (pc := 45) (L := [some (.ref 50), some (.int x1), some (.int r7)]) (L' := [some (.ref 50), none, none]) (st := [.int (1 : Int32)]) ⟨rfl, trivial⟩ ?_
          exact wt158_b45 CN e0 he0 hCN (fun x1 S hk => ih x1 S hk) _ _ h
set_option maxRecDepth 10000 in
set_option maxHeartbeats 1000000 in
theorem wt158 {E : ri_E} (CN : ri_H → (Int32 → ri_H → Prop) → Prop) (e0 : Nat) (he0 : 20 ≤ e0) (hCN : ∀ (S : ri_H) (Q : Int32 → ri_H → Prop), CN S Q → ri_A E e0 (ri_en 157 [.ref 50]) S (Qi Q))  {S : ri_H} {Q : Int32 → ri_H → Prop} (h : wboth CN  S Q) : ri_A E (e0 + 1) (ri_en 158 [.ref 50]) S (Qi Q) := by
  unfold wboth at h
  show ri_A E (e0 + 1) (158, 0, [some (.ref 50), none, none], []) S (Qi Q)
  refine A_call (j := 157) (As := [.ref 50]) (fr' := (158, 4, [some (.ref 50), none, none], [])) (S' := S) 2 rfl (e := e0) (by omega) (A_imp (hCN _ _ h) (fun v S1 hq => ?_))
  obtain ⟨r2, hv, h⟩ := hq
  subst hv
  refine A_nx 1 (fr' := (158, 5, [some (.ref 50), some (.int r2), none], [])) (S' := S1) rfl ?_
  refine ri_A.less (m := 158) (pc := 5) (L := [some (.ref 50), some (.int r2), none]) (L' := [some (.ref 50), some (.int r2), none]) (st := []) ⟨rfl, ⟨rfl, trivial⟩⟩ ?_
  obtain ⟨nn, h⟩ := h
  exact wt158_l5 CN e0 he0 hCN  nn _ _ h
/-! X5_either0, depth (e0 + 1) -/
set_option maxRecDepth 10000 in
set_option maxHeartbeats 1000000 in
theorem wt159_b44 {E : ri_E} (CB : ri_H → (Int32 → ri_H → Prop) → Prop) (e0 : Nat) (he0 : 20 ≤ e0) (hCB : ∀ (S : ri_H) (Q : Int32 → ri_H → Prop), CB S Q → ri_A E e0 (ri_en 158 [.ref 50]) S (Qi Q)) {K5 : Int32 → ri_H → Prop} {Q : Int32 → ri_H → Prop} (hK5 : ∀ (x1 : Int32) (S : ri_H), K5 x1 S → ri_A E (e0 + 1) (159, 5, [some (.ref 50), some (.int x1), none], []) S (Qi Q)) (s0 : Int32) (S : ri_H) (h : weither_b44 CB K5 Q s0 S) : ri_A E (e0 + 1) (159, 44, [some (.ref 50), none, none], [.int s0]) S (Qi Q) := by
  unfold weither_b44 at h
  refine A_nx 2 (fr' := (159, 5, [some (.ref 50), some (.int s0), none], [])) (S' := S) rfl ?_
  refine ri_A.less (m := 159) (pc := 5) (L := [some (.ref 50), some (.int s0), none]) (L' := [some (.ref 50), some (.int s0), none]) (st := []) ⟨rfl, ⟨rfl, trivial⟩⟩ ?_
  exact hK5 _ _ h
set_option maxRecDepth 10000 in
set_option maxHeartbeats 1000000 in
theorem wt159_b39 {E : ri_E} (CB : ri_H → (Int32 → ri_H → Prop) → Prop) (e0 : Nat) (he0 : 20 ≤ e0) (hCB : ∀ (S : ri_H) (Q : Int32 → ri_H → Prop), CB S Q → ri_A E e0 (ri_en 158 [.ref 50]) S (Qi Q)) {K5 : Int32 → ri_H → Prop} {Q : Int32 → ri_H → Prop} (hK5 : ∀ (x1 : Int32) (S : ri_H), K5 x1 S → ri_A E (e0 + 1) (159, 5, [some (.ref 50), some (.int x1), none], []) S (Qi Q))  (S : ri_H) (h : weither_b39 CB K5 Q  S) : ri_A E (e0 + 1) (159, 39, [some (.ref 50), none, none], []) S (Qi Q) := by
  unfold weither_b39 at h
  refine A_nx 2 (fr' := (159, 44, [some (.ref 50), none, none], [.int (1 : Int32)])) (S' := S) rfl ?_
  refine ri_A.less (m := 159) (pc := 44) (L := [some (.ref 50), none, none]) (L' := [some (.ref 50), none, none]) (st := [.int (1 : Int32)]) ⟨rfl, trivial⟩ ?_
  exact wt159_b44 CB e0 he0 hCB hK5 _ _ h
set_option maxRecDepth 10000 in
set_option maxHeartbeats 1000000 in
theorem wt159_l5 {E : ri_E} (CB : ri_H → (Int32 → ri_H → Prop) → Prop) (e0 : Nat) (he0 : 20 ≤ e0) (hCB : ∀ (S : ri_H) (Q : Int32 → ri_H → Prop), CB S Q → ri_A E e0 (ri_en 158 [.ref 50]) S (Qi Q)) {Q : Int32 → ri_H → Prop} : ∀ (n : Nat) (x1 : Int32) (S : ri_H), weither_l5 CB  Q n x1 S → ri_A E (e0 + 1) (159, 5, [some (.ref 50), some (.int x1), none], []) S (Qi Q) := by
  intro n
  induction n with
  | zero => intro x1 S h; exact h.elim
  | succ n ih =>
    intro x1 S h
    unfold weither_l5 at h
    refine A_call (j := 120) (As := [.ref 50, .int (111 : Int32), .int (114 : Int32), .int (0 : Int32), .int (0 : Int32), .int (0 : Int32), .int (0 : Int32), .int (0 : Int32), .int (0 : Int32)]) (fr' := (159, 19, [some (.ref 50), some (.int x1), none], [])) (S' := S) 10 rfl (e := 2) (by omega) (A_imp (wt120 (111 : Int32) (114 : Int32) (0 : Int32) (0 : Int32) (0 : Int32) (0 : Int32) (0 : Int32) (0 : Int32) h) (fun v S3 hq => ?_))
    obtain ⟨r4, hv, h⟩ := hq
    subst hv
    refine A_br (r4 = 0) (r1 := ((159, 48, [some (.ref 50), some (.int x1), none], []), S3)) (r2 := ((159, 22, [some (.ref 50), some (.int x1), none], []), S3)) 1 rfl (fun c => ?_) (fun c => ?_)
    · have h := h.1 c
      exact A_ret 2 (m := 159) (v := some (.int x1)) (S' := S3) rfl rfl ⟨_, rfl, h⟩
    · have h := h.2 c
      refine A_call (j := 117) (As := [.ref 50]) (fr' := (159, 26, [some (.ref 50), some (.int x1), none], [])) (S' := S3) 2 rfl (e := 1) (by omega) (A_imp (wt117  h) (fun v S5 hq => ?_))
      obtain ⟨hv, h⟩ := hq
      subst hv
      refine A_call (j := 158) (As := [.ref 50]) (fr' := (159, 30, [some (.ref 50), some (.int x1), none], [])) (S' := S5) 2 rfl (e := e0) (by omega) (A_imp (hCB _ _ h) (fun v S6 hq => ?_))
      obtain ⟨r7, hv, h⟩ := hq
      subst hv
      refine A_br (¬ x1 = 0) (r1 := ((159, 39, [some (.ref 50), some (.int x1), some (.int r7)], []), S6)) (r2 := ((159, 35, [some (.ref 50), some (.int x1), some (.int r7)], []), S6)) 3 rfl (fun c => ?_) (fun c => ?_)
      · have h := h.1 c
        refine ri_A.less (m := 159) (pc := 39) (L := [some (.ref 50), some (.int x1), some (.int r7)]) (L' := [some (.ref 50), none, none]) (st := []) ⟨rfl, trivial⟩ ?_
        exact wt159_b39 CB e0 he0 hCB (fun x1 S hk => ih x1 S hk) _ h
      · have h := h.2 c
        refine A_br (r7 = 0) (r1 := ((159, 43, [some (.ref 50), some (.int x1), some (.int r7)], []), S6)) (r2 := ((159, 39, [some (.ref 50), some (.int x1), some (.int r7)], []), S6)) 2 rfl (fun c => ?_) (fun c => ?_)
        · have h := h.1 c
          refine A_nx 1 (fr' := (159, 44, [some (.ref 50), some (.int x1), some (.int r7)], [.int (0 : Int32)])) (S' := S6) rfl ?_
          refine ri_A.less (m := 159) (pc := 44) (L := [some (.ref 50), some (.int x1), some (.int r7)]) (L' := [some (.ref 50), none, none]) (st := [.int (0 : Int32)]) ⟨rfl, trivial⟩ ?_
          exact wt159_b44 CB e0 he0 hCB (fun x1 S hk => ih x1 S hk) _ _ h
        · have h := h.2 c
          refine ri_A.less (m := 159) (pc := 39) (L := [some (.ref 50), some (.int x1), some (.int r7)]) (L' := [some (.ref 50), none, none]) (st := []) ⟨rfl, trivial⟩ ?_
          exact wt159_b39 CB e0 he0 hCB (fun x1 S hk => ih x1 S hk) _ h
set_option maxRecDepth 10000 in
set_option maxHeartbeats 1000000 in
theorem wt159 {E : ri_E} (CB : ri_H → (Int32 → ri_H → Prop) → Prop) (e0 : Nat) (he0 : 20 ≤ e0) (hCB : ∀ (S : ri_H) (Q : Int32 → ri_H → Prop), CB S Q → ri_A E e0 (ri_en 158 [.ref 50]) S (Qi Q))  {S : ri_H} {Q : Int32 → ri_H → Prop} (h : weither CB  S Q) : ri_A E (e0 + 1) (ri_en 159 [.ref 50]) S (Qi Q) := by
  unfold weither at h
  show ri_A E (e0 + 1) (159, 0, [some (.ref 50), none, none], []) S (Qi Q)
  refine A_call (j := 158) (As := [.ref 50]) (fr' := (159, 4, [some (.ref 50), none, none], [])) (S' := S) 2 rfl (e := e0) (by omega) (A_imp (hCB _ _ h) (fun v S1 hq => ?_))
  obtain ⟨r2, hv, h⟩ := hq
  subst hv
  refine A_nx 1 (fr' := (159, 5, [some (.ref 50), some (.int r2), none], [])) (S' := S1) rfl ?_
  refine ri_A.less (m := 159) (pc := 5) (L := [some (.ref 50), some (.int r2), none]) (L' := [some (.ref 50), some (.int r2), none]) (st := []) ⟨rfl, ⟨rfl, trivial⟩⟩ ?_
  obtain ⟨nn, h⟩ := h
  exact wt159_l5 CB e0 he0 hCB  nn _ _ h
/-! X5_atom0, depth (e0 + 1) -/
set_option maxRecDepth 10000 in
set_option maxHeartbeats 1000000 in
theorem wt154_b157 {E : ri_E} (CA : ri_H → (Int32 → ri_H → Prop) → Prop) (CE : ri_H → (Int32 → ri_H → Prop) → Prop) (e0 : Nat) (he0 : 20 ≤ e0) (hCA : ∀ (S : ri_H) (Q : Int32 → ri_H → Prop), CA S Q → ri_A E e0 (ri_en 148 [.ref 50]) S (Qi Q)) (hCE : ∀ (S : ri_H) (Q : Int32 → ri_H → Prop), CE S Q → ri_A E e0 (ri_en 153 [.ref 50]) S (Qi Q)) {Q : Int32 → ri_H → Prop} (x1 : Int32) (S : ri_H) (h : watom_b157 CA CE  Q x1 S) : ri_A E (e0 + 1) (154, 157, [some (.ref 50), some (.int x1)], []) S (Qi Q) := by
  unfold watom_b157 at h
  refine A_call (j := 118) (As := [.ref 50]) (fr' := (154, 161, [some (.ref 50), some (.int x1)], [])) (S' := S) 2 rfl (e := 0) (by omega) (A_imp (wt118  h) (fun v S5 hq => ?_))
  obtain ⟨hv, h⟩ := hq
  subst hv
  exact A_ret 2 (m := 154) (v := some (.int x1)) (S' := S5) rfl rfl ⟨_, rfl, h⟩
set_option maxRecDepth 10000 in
set_option maxHeartbeats 1000000 in
theorem wt154_b123 {E : ri_E} (CA : ri_H → (Int32 → ri_H → Prop) → Prop) (CE : ri_H → (Int32 → ri_H → Prop) → Prop) (e0 : Nat) (he0 : 20 ≤ e0) (hCA : ∀ (S : ri_H) (Q : Int32 → ri_H → Prop), CA S Q → ri_A E e0 (ri_en 148 [.ref 50]) S (Qi Q)) (hCE : ∀ (S : ri_H) (Q : Int32 → ri_H → Prop), CE S Q → ri_A E e0 (ri_en 153 [.ref 50]) S (Qi Q)) {Q : Int32 → ri_H → Prop} (x1 : Int32) (S : ri_H) (h : watom_b123 CA CE  Q x1 S) : ri_A E (e0 + 1) (154, 123, [some (.ref 50), some (.int x1)], []) S (Qi Q) := by
  unfold watom_b123 at h
  refine A_br (¬ (S.1 50 25) = 0) (r1 := ((154, 157, [some (.ref 50), some (.int x1)], []), S)) (r2 := ((154, 130, [some (.ref 50), some (.int x1)], []), S)) 3 rfl (fun c => ?_) (fun c => ?_)
  · have h := h.1 c
    refine ri_A.less (m := 154) (pc := 157) (L := [some (.ref 50), some (.int x1)]) (L' := [some (.ref 50), some (.int x1)]) (st := []) ⟨rfl, ⟨rfl, trivial⟩⟩ ?_
    exact wt154_b157 CA CE e0 he0 hCA hCE  _ _ h
  · have h := h.2 c
    refine A_br (¬ (S.1 50 21) = (1 : Int32)) (r1 := ((154, 157, [some (.ref 50), some (.int x1)], []), S)) (r2 := ((154, 138, [some (.ref 50), some (.int x1)], []), S)) 4 rfl (fun c => ?_) (fun c => ?_)
    · have h := h.1 c
      refine ri_A.less (m := 154) (pc := 157) (L := [some (.ref 50), some (.int x1)]) (L' := [some (.ref 50), some (.int x1)]) (st := []) ⟨rfl, ⟨rfl, trivial⟩⟩ ?_
      exact wt154_b157 CA CE e0 he0 hCA hCE  _ _ h
    · have h := h.2 c
      refine A_call (j := 123) (As := [.ref 50]) (fr' := (154, 142, [some (.ref 50), some (.int x1)], [])) (S' := S) 2 rfl (e := 3) (by omega) (A_imp (wt123  h) (fun v S6 hq => ?_))
      obtain ⟨r7, hv, h⟩ := hq
      subst hv
      refine A_br (¬ (S6.1 50 25) = 0) (r1 := ((154, 161, [some (.ref 50), some (.int r7)], []), S6)) (r2 := ((154, 150, [some (.ref 50), some (.int r7)], []), S6)) 4 rfl (fun c => ?_) (fun c => ?_)
      · have h := h.1 c
        exact A_ret 2 (m := 154) (v := some (.int r7)) (S' := S6) rfl rfl ⟨_, rfl, h⟩
      · have h := h.2 c
        refine A_call (j := 117) (As := [.ref 50]) (fr' := (154, 154, [some (.ref 50), some (.int r7)], [])) (S' := S6) 2 rfl (e := 1) (by omega) (A_imp (wt117  h) (fun v S8 hq => ?_))
        obtain ⟨hv, h⟩ := hq
        subst hv
        exact A_ret 3 (m := 154) (v := some (.int r7)) (S' := S8) rfl rfl ⟨_, rfl, h⟩
set_option maxRecDepth 10000 in
set_option maxHeartbeats 1000000 in
theorem wt154_b71 {E : ri_E} (CA : ri_H → (Int32 → ri_H → Prop) → Prop) (CE : ri_H → (Int32 → ri_H → Prop) → Prop) (e0 : Nat) (he0 : 20 ≤ e0) (hCA : ∀ (S : ri_H) (Q : Int32 → ri_H → Prop), CA S Q → ri_A E e0 (ri_en 148 [.ref 50]) S (Qi Q)) (hCE : ∀ (S : ri_H) (Q : Int32 → ri_H → Prop), CE S Q → ri_A E e0 (ri_en 153 [.ref 50]) S (Qi Q)) {Q : Int32 → ri_H → Prop} (x1 : Int32) (S : ri_H) (h : watom_b71 CA CE  Q x1 S) : ri_A E (e0 + 1) (154, 71, [some (.ref 50), some (.int x1)], []) S (Qi Q) := by
  unfold watom_b71 at h
  refine A_br (¬ (S.1 50 25) = 0) (r1 := ((154, 161, [some (.ref 50), some (.int x1)], []), (ri_wi S 50 24 ((S.1 50 24) - (1 : Int32))))) (r2 := ((154, 88, [some (.ref 50), some (.int x1)], []), (ri_wi S 50 24 ((S.1 50 24) - (1 : Int32))))) 9 rfl (fun c => ?_) (fun c => ?_)
  · have h := h.1 c
    exact A_ret 2 (m := 154) (v := some (.int x1)) (S' := (ri_wi S 50 24 ((S.1 50 24) - (1 : Int32)))) rfl rfl ⟨_, rfl, h⟩
  · have h := h.2 c
    refine A_call (j := 117) (As := [.ref 50]) (fr' := (154, 92, [some (.ref 50), some (.int x1)], [])) (S' := (ri_wi S 50 24 ((S.1 50 24) - (1 : Int32)))) 2 rfl (e := 1) (by omega) (A_imp (wt117  h) (fun v S16 hq => ?_))
    obtain ⟨hv, h⟩ := hq
    subst hv
    exact A_ret 3 (m := 154) (v := some (.int x1)) (S' := S16) rfl rfl ⟨_, rfl, h⟩
set_option maxRecDepth 10000 in
set_option maxHeartbeats 1000000 in
theorem wt154 {E : ri_E} (CA : ri_H → (Int32 → ri_H → Prop) → Prop) (CE : ri_H → (Int32 → ri_H → Prop) → Prop) (e0 : Nat) (he0 : 20 ≤ e0) (hCA : ∀ (S : ri_H) (Q : Int32 → ri_H → Prop), CA S Q → ri_A E e0 (ri_en 148 [.ref 50]) S (Qi Q)) (hCE : ∀ (S : ri_H) (Q : Int32 → ri_H → Prop), CE S Q → ri_A E e0 (ri_en 153 [.ref 50]) S (Qi Q))  {S : ri_H} {Q : Int32 → ri_H → Prop} (h : watom CA CE  S Q) : ri_A E (e0 + 1) (ri_en 154 [.ref 50]) S (Qi Q) := by
  unfold watom at h
  show ri_A E (e0 + 1) (154, 0, [some (.ref 50), none], []) S (Qi Q)
  refine A_call (j := 121) (As := [.ref 50, .int (45 : Int32)]) (fr' := (154, 8, [some (.ref 50), some (.int (0 : Int32))], [])) (S' := S) 5 rfl (e := 0) (by omega) (A_imp (wt121 (45 : Int32) h) (fun v S1 hq => ?_))
  obtain ⟨r2, hv, h⟩ := hq
  subst hv
  refine A_br (r2 = 0) (r1 := ((154, 37, [some (.ref 50), some (.int (0 : Int32))], []), S1)) (r2 := ((154, 11, [some (.ref 50), some (.int (0 : Int32))], []), S1)) 1 rfl (fun c => ?_) (fun c => ?_)
  · have h := h.1 c
    refine A_call (j := 121) (As := [.ref 50, .int (40 : Int32)]) (fr' := (154, 43, [some (.ref 50), some (.int (0 : Int32))], [])) (S' := S1) 3 rfl (e := 0) (by omega) (A_imp (wt121 (40 : Int32) h) (fun v S3 hq => ?_))
    obtain ⟨r4, hv, h⟩ := hq
    subst hv
    refine A_br (r4 = 0) (r1 := ((154, 95, [some (.ref 50), some (.int (0 : Int32))], []), S3)) (r2 := ((154, 46, [some (.ref 50), some (.int (0 : Int32))], []), S3)) 1 rfl (fun c => ?_) (fun c => ?_)
    · have h := h.1 c
      refine A_br (¬ (S3.1 50 25) = 0) (r1 := ((154, 123, [some (.ref 50), some (.int (0 : Int32))], []), S3)) (r2 := ((154, 102, [some (.ref 50), some (.int (0 : Int32))], []), S3)) 3 rfl (fun c => ?_) (fun c => ?_)
      · have h := h.1 c
        refine ri_A.less (m := 154) (pc := 123) (L := [some (.ref 50), some (.int (0 : Int32))]) (L' := [some (.ref 50), some (.int (0 : Int32))]) (st := []) ⟨rfl, ⟨rfl, trivial⟩⟩ ?_
        exact wt154_b123 CA CE e0 he0 hCA hCE  _ _ h
      · have h := h.2 c
        refine A_br (¬ (S3.1 50 21) = (2 : Int32)) (r1 := ((154, 123, [some (.ref 50), some (.int (0 : Int32))], []), S3)) (r2 := ((154, 110, [some (.ref 50), some (.int (0 : Int32))], []), S3)) 4 rfl (fun c => ?_) (fun c => ?_)
        · have h := h.1 c
          refine ri_A.less (m := 154) (pc := 123) (L := [some (.ref 50), some (.int (0 : Int32))]) (L' := [some (.ref 50), some (.int (0 : Int32))]) (st := []) ⟨rfl, ⟨rfl, trivial⟩⟩ ?_
          exact wt154_b123 CA CE e0 he0 hCA hCE  _ _ h
        · have h := h.2 c
          refine A_call (j := 117) (As := [.ref 50]) (fr' := (154, 120, [some (.ref 50), some (.int ((S3.2 50 23)).toInt32)], [])) (S' := S3) 6 rfl (e := 1) (by omega) (A_imp (wt117  h) (fun v S9 hq => ?_))
          obtain ⟨hv, h⟩ := hq
          subst hv
          exact A_ret 3 (m := 154) (v := some (.int ((S3.2 50 23)).toInt32)) (S' := S9) rfl rfl ⟨_, rfl, h⟩
    · have h := h.2 c
      refine A_call (j := 122) (As := [.ref 50]) (fr' := (154, 50, [some (.ref 50), some (.int (0 : Int32))], [])) (S' := S3) 2 rfl (e := 2) (by omega) (A_imp (wt122  h) (fun v S10 hq => ?_))
      obtain ⟨r11, hv, h⟩ := hq
      subst hv
      refine A_br (r11 = 0) (r1 := ((154, 161, [some (.ref 50), some (.int (0 : Int32))], []), S10)) (r2 := ((154, 53, [some (.ref 50), some (.int (0 : Int32))], []), S10)) 1 rfl (fun c => ?_) (fun c => ?_)
      · have h := h.1 c
        exact A_ret 2 (m := 154) (v := some (.int (0 : Int32))) (S' := S10) rfl rfl ⟨_, rfl, h⟩
      · have h := h.2 c
        refine A_call (j := 153) (As := [.ref 50]) (fr' := (154, 57, [some (.ref 50), some (.int (0 : Int32))], [])) (S' := S10) 2 rfl (e := e0) (by omega) (A_imp (hCE _ _ h) (fun v S12 hq => ?_))
        obtain ⟨r13, hv, h⟩ := hq
        subst hv
        refine A_call (j := 121) (As := [.ref 50, .int (41 : Int32)]) (fr' := (154, 64, [some (.ref 50), some (.int r13)], [])) (S' := S12) 4 rfl (e := 0) (by omega) (A_imp (wt121 (41 : Int32) h) (fun v S14 hq => ?_))
        obtain ⟨r15, hv, h⟩ := hq
        subst hv
        refine A_br (¬ r15 = 0) (r1 := ((154, 71, [some (.ref 50), some (.int r13)], []), S14)) (r2 := ((154, 67, [some (.ref 50), some (.int r13)], []), S14)) 1 rfl (fun c => ?_) (fun c => ?_)
        · have h := h.1 c
          refine ri_A.less (m := 154) (pc := 71) (L := [some (.ref 50), some (.int r13)]) (L' := [some (.ref 50), some (.int r13)]) (st := []) ⟨rfl, ⟨rfl, trivial⟩⟩ ?_
          exact wt154_b71 CA CE e0 he0 hCA hCE  _ _ h
        · have h := h.2 c
          refine A_call (j := 118) (As := [.ref 50]) (fr' := (154, 71, [some (.ref 50), some (.int r13)], [])) (S' := S14) 2 rfl (e := 0) (by omega) (A_imp (wt118  h) (fun v S17 hq => ?_))
          obtain ⟨hv, h⟩ := hq
          subst hv
          refine ri_A.less (m := 154) (pc := 71) (L := [some (.ref 50), some (.int r13)]) (L' := [some (.ref 50), some (.int r13)]) (st := []) ⟨rfl, ⟨rfl, trivial⟩⟩ ?_
          exact wt154_b71 CA CE e0 he0 hCA hCE  _ _ h
  · have h := h.2 c
    refine A_call (j := 122) (As := [.ref 50]) (fr' := (154, 15, [some (.ref 50), some (.int (0 : Int32))], [])) (S' := S1) 2 rfl (e := 2) (by omega) (A_imp (wt122  h) (fun v S18 hq => ?_))
    obtain ⟨r19, hv, h⟩ := hq
    subst hv
    refine A_br (r19 = 0) (r1 := ((154, 161, [some (.ref 50), some (.int (0 : Int32))], []), S18)) (r2 := ((154, 18, [some (.ref 50), some (.int (0 : Int32))], []), S18)) 1 rfl (fun c => ?_) (fun c => ?_)
    · have h := h.1 c
      exact A_ret 2 (m := 154) (v := some (.int (0 : Int32))) (S' := S18) rfl rfl ⟨_, rfl, h⟩
    · have h := h.2 c
      refine A_call (j := 148) (As := [.ref 50]) (fr' := (154, 22, [some (.ref 50), some (.int (0 : Int32))], [])) (S' := S18) 2 rfl (e := e0) (by omega) (A_imp (hCA _ _ h) (fun v S20 hq => ?_))
      obtain ⟨r21, hv, h⟩ := hq
      subst hv
      exact A_ret 11 (m := 154) (v := some (.int (-r21))) (S' := (ri_wi S20 50 24 ((S20.1 50 24) - (1 : Int32)))) rfl rfl ⟨_, rfl, h⟩
/-! X5_not0, depth (e0 + 1) -/
set_option maxRecDepth 10000 in
set_option maxHeartbeats 1000000 in
theorem wt157_b120 {E : ri_E} (CN : ri_H → (Int32 → ri_H → Prop) → Prop) (CD : ri_H → (Int32 → ri_H → Prop) → Prop) (e0 : Nat) (he0 : 20 ≤ e0) (hCN : ∀ (S : ri_H) (Q : Int32 → ri_H → Prop), CN S Q → ri_A E e0 (ri_en 151 [.ref 50]) S (Qi Q)) (hCD : ∀ (S : ri_H) (Q : Int32 → ri_H → Prop), CD S Q → ri_A E e0 (ri_en 156 [.ref 50]) S (Qi Q)) {Q : Int32 → ri_H → Prop}  (S : ri_H) (h : wnot_b120 CN CD  Q  S) : ri_A E (e0 + 1) (157, 120, [none, none, none, none], []) S (Qi Q) := by
  unfold wnot_b120 at h
  exact A_ret 3 (m := 157) (v := some (.int (1 : Int32))) (S' := S) rfl rfl ⟨_, rfl, h⟩
set_option maxRecDepth 10000 in
set_option maxHeartbeats 1000000 in
theorem wt157_b93 {E : ri_E} (CN : ri_H → (Int32 → ri_H → Prop) → Prop) (CD : ri_H → (Int32 → ri_H → Prop) → Prop) (e0 : Nat) (he0 : 20 ≤ e0) (hCN : ∀ (S : ri_H) (Q : Int32 → ri_H → Prop), CN S Q → ri_A E e0 (ri_en 151 [.ref 50]) S (Qi Q)) (hCD : ∀ (S : ri_H) (Q : Int32 → ri_H → Prop), CD S Q → ri_A E e0 (ri_en 156 [.ref 50]) S (Qi Q)) {Q : Int32 → ri_H → Prop} (x1 : Int32) (s0 : Int32) (S : ri_H) (h : wnot_b93 CN CD  Q x1 s0 S) : ri_A E (e0 + 1) (157, 93, [some (.ref 50), some (.int x1), none, none], [.int s0]) S (Qi Q) := by
  unfold wnot_b93 at h
  refine A_call (j := 117) (As := [.ref 50]) (fr' := (157, 98, [some (.ref 50), some (.int x1), some (.int s0), none], [])) (S' := S) 3 rfl (e := 1) (by omega) (A_imp (wt117  h) (fun v S7 hq => ?_))
  obtain ⟨hv, h⟩ := hq
  subst hv
  refine A_call (j := 156) (As := [.ref 50]) (fr' := (157, 102, [some (.ref 50), some (.int x1), some (.int s0), none], [])) (S' := S7) 2 rfl (e := e0) (by omega) (A_imp (hCD _ _ h) (fun v S8 hq => ?_))
  obtain ⟨r9, hv, h⟩ := hq
  subst hv
  refine A_br (s0 = 0) (r1 := ((157, 115, [some (.ref 50), some (.int x1), some (.int s0), some (.int r9)], []), S8)) (r2 := ((157, 107, [some (.ref 50), some (.int x1), some (.int s0), some (.int r9)], []), S8)) 3 rfl (fun c => ?_) (fun c => ?_)
  · have h := h.1 c
    refine A_br (¬ x1 = r9) (r1 := ((157, 124, [some (.ref 50), some (.int x1), some (.int s0), some (.int r9)], []), S8)) (r2 := ((157, 120, [some (.ref 50), some (.int x1), some (.int s0), some (.int r9)], []), S8)) 3 rfl (fun c => ?_) (fun c => ?_)
    · have h := h.1 c
      exact A_ret 2 (m := 157) (v := some (.int (0 : Int32))) (S' := S8) rfl rfl ⟨_, rfl, h⟩
    · have h := h.2 c
      refine ri_A.less (m := 157) (pc := 120) (L := [some (.ref 50), some (.int x1), some (.int s0), some (.int r9)]) (L' := [none, none, none, none]) (st := []) trivial ?_
      exact wt157_b120 CN CD e0 he0 hCN hCD  _ h
  · have h := h.2 c
    refine A_br (r9 ≤ x1) (r1 := ((157, 124, [some (.ref 50), some (.int x1), some (.int s0), some (.int r9)], []), S8)) (r2 := ((157, 112, [some (.ref 50), some (.int x1), some (.int s0), some (.int r9)], []), S8)) 3 rfl (fun c => ?_) (fun c => ?_)
    · have h := h.1 c
      exact A_ret 2 (m := 157) (v := some (.int (0 : Int32))) (S' := S8) rfl rfl ⟨_, rfl, h⟩
    · have h := h.2 c
      refine A_nx 1 (fr' := (157, 120, [some (.ref 50), some (.int x1), some (.int s0), some (.int r9)], [])) (S' := S8) rfl ?_
      refine ri_A.less (m := 157) (pc := 120) (L := [some (.ref 50), some (.int x1), some (.int s0), some (.int r9)]) (L' := [none, none, none, none]) (st := []) trivial ?_
      exact wt157_b120 CN CD e0 he0 hCN hCD  _ h
set_option maxRecDepth 10000 in
set_option maxHeartbeats 1000000 in
theorem wt157_b77 {E : ri_E} (CN : ri_H → (Int32 → ri_H → Prop) → Prop) (CD : ri_H → (Int32 → ri_H → Prop) → Prop) (e0 : Nat) (he0 : 20 ≤ e0) (hCN : ∀ (S : ri_H) (Q : Int32 → ri_H → Prop), CN S Q → ri_A E e0 (ri_en 151 [.ref 50]) S (Qi Q)) (hCD : ∀ (S : ri_H) (Q : Int32 → ri_H → Prop), CD S Q → ri_A E e0 (ri_en 156 [.ref 50]) S (Qi Q)) {Q : Int32 → ri_H → Prop} (x1 : Int32) (S : ri_H) (h : wnot_b77 CN CD  Q x1 S) : ri_A E (e0 + 1) (157, 77, [some (.ref 50), some (.int x1), none, none], []) S (Qi Q) := by
  unfold wnot_b77 at h
  refine A_br (¬ (lg_cmp (S.2 50 23) (60 : Int64)) = 0) (r1 := ((157, 92, [some (.ref 50), some (.int x1), none, none], []), S)) (r2 := ((157, 88, [some (.ref 50), some (.int x1), none, none], []), S)) 5 rfl (fun c => ?_) (fun c => ?_)
  · have h := h.1 c
    refine A_nx 1 (fr' := (157, 93, [some (.ref 50), some (.int x1), none, none], [.int (0 : Int32)])) (S' := S) rfl ?_
    refine ri_A.less (m := 157) (pc := 93) (L := [some (.ref 50), some (.int x1), none, none]) (L' := [some (.ref 50), some (.int x1), none, none]) (st := [.int (0 : Int32)]) ⟨rfl, ⟨rfl, trivial⟩⟩ ?_
    exact wt157_b93 CN CD e0 he0 hCN hCD  _ _ _ h
  · have h := h.2 c
    refine A_nx 2 (fr' := (157, 93, [some (.ref 50), some (.int x1), none, none], [.int (1 : Int32)])) (S' := S) rfl ?_
    refine ri_A.less (m := 157) (pc := 93) (L := [some (.ref 50), some (.int x1), none, none]) (L' := [some (.ref 50), some (.int x1), none, none]) (st := [.int (1 : Int32)]) ⟨rfl, ⟨rfl, trivial⟩⟩ ?_
    exact wt157_b93 CN CD e0 he0 hCN hCD  _ _ _ h
set_option maxRecDepth 10000 in
set_option maxHeartbeats 1000000 in
theorem wt157 {E : ri_E} (CN : ri_H → (Int32 → ri_H → Prop) → Prop) (CD : ri_H → (Int32 → ri_H → Prop) → Prop) (e0 : Nat) (he0 : 20 ≤ e0) (hCN : ∀ (S : ri_H) (Q : Int32 → ri_H → Prop), CN S Q → ri_A E e0 (ri_en 151 [.ref 50]) S (Qi Q)) (hCD : ∀ (S : ri_H) (Q : Int32 → ri_H → Prop), CD S Q → ri_A E e0 (ri_en 156 [.ref 50]) S (Qi Q))  {S : ri_H} {Q : Int32 → ri_H → Prop} (h : wnot CN CD  S Q) : ri_A E (e0 + 1) (ri_en 157 [.ref 50]) S (Qi Q) := by
  unfold wnot at h
  show ri_A E (e0 + 1) (157, 0, [some (.ref 50), none, none, none], []) S (Qi Q)
  refine A_call (j := 120) (As := [.ref 50, .int (110 : Int32), .int (111 : Int32), .int (116 : Int32), .int (0 : Int32), .int (0 : Int32), .int (0 : Int32), .int (0 : Int32), .int (0 : Int32)]) (fr' := (157, 15, [some (.ref 50), none, none, none], [])) (S' := S) 10 rfl (e := 2) (by omega) (A_imp (wt120 (110 : Int32) (111 : Int32) (116 : Int32) (0 : Int32) (0 : Int32) (0 : Int32) (0 : Int32) (0 : Int32) h) (fun v S1 hq => ?_))
  obtain ⟨r2, hv, h⟩ := hq
  subst hv
  refine A_br (r2 = 0) (r1 := ((157, 52, [some (.ref 50), none, none, none], []), S1)) (r2 := ((157, 18, [some (.ref 50), none, none, none], []), S1)) 1 rfl (fun c => ?_) (fun c => ?_)
  · have h := h.1 c
    refine A_call (j := 156) (As := [.ref 50]) (fr' := (157, 56, [some (.ref 50), none, none, none], [])) (S' := S1) 2 rfl (e := e0) (by omega) (A_imp (hCD _ _ h) (fun v S3 hq => ?_))
    obtain ⟨r4, hv, h⟩ := hq
    subst hv
    refine A_call (j := 121) (As := [.ref 50, .int (60 : Int32)]) (fr' := (157, 63, [some (.ref 50), some (.int r4), none, none], [])) (S' := S3) 4 rfl (e := 0) (by omega) (A_imp (wt121 (60 : Int32) h) (fun v S5 hq => ?_))
    obtain ⟨r6, hv, h⟩ := hq
    subst hv
    refine A_br (¬ r6 = 0) (r1 := ((157, 77, [some (.ref 50), some (.int r4), none, none], []), S5)) (r2 := ((157, 66, [some (.ref 50), some (.int r4), none, none], []), S5)) 1 rfl (fun c => ?_) (fun c => ?_)
    · have h := h.1 c
      refine ri_A.less (m := 157) (pc := 77) (L := [some (.ref 50), some (.int r4), none, none]) (L' := [some (.ref 50), some (.int r4), none, none]) (st := []) ⟨rfl, ⟨rfl, trivial⟩⟩ ?_
      exact wt157_b77 CN CD e0 he0 hCN hCD  _ _ h
    · have h := h.2 c
      refine A_call (j := 121) (As := [.ref 50, .int (61 : Int32)]) (fr' := (157, 72, [some (.ref 50), some (.int r4), none, none], [])) (S' := S5) 3 rfl (e := 0) (by omega) (A_imp (wt121 (61 : Int32) h) (fun v S10 hq => ?_))
      obtain ⟨r11, hv, h⟩ := hq
      subst hv
      refine A_br (¬ r11 = 0) (r1 := ((157, 77, [some (.ref 50), some (.int r4), none, none], []), S10)) (r2 := ((157, 75, [some (.ref 50), some (.int r4), none, none], []), S10)) 1 rfl (fun c => ?_) (fun c => ?_)
      · have h := h.1 c
        refine ri_A.less (m := 157) (pc := 77) (L := [some (.ref 50), some (.int r4), none, none]) (L' := [some (.ref 50), some (.int r4), none, none]) (st := []) ⟨rfl, ⟨rfl, trivial⟩⟩ ?_
        exact wt157_b77 CN CD e0 he0 hCN hCD  _ _ h
      · have h := h.2 c
        exact A_ret 2 (m := 157) (v := some (.int r4)) (S' := S10) rfl rfl ⟨_, rfl, h⟩
  · have h := h.2 c
    refine A_call (j := 122) (As := [.ref 50]) (fr' := (157, 22, [some (.ref 50), none, none, none], [])) (S' := S1) 2 rfl (e := 2) (by omega) (A_imp (wt122  h) (fun v S12 hq => ?_))
    obtain ⟨r13, hv, h⟩ := hq
    subst hv
    refine A_br (¬ r13 = 0) (r1 := ((157, 27, [some (.ref 50), none, none, none], []), S12)) (r2 := ((157, 25, [some (.ref 50), none, none, none], []), S12)) 1 rfl (fun c => ?_) (fun c => ?_)
    · have h := h.1 c
      refine A_call (j := 151) (As := [.ref 50]) (fr' := (157, 31, [some (.ref 50), none, none, none], [])) (S' := S12) 2 rfl (e := e0) (by omega) (A_imp (hCN _ _ h) (fun v S14 hq => ?_))
      obtain ⟨r15, hv, h⟩ := hq
      subst hv
      refine A_br (¬ r15 = 0) (r1 := ((157, 50, [some (.ref 50), some (.int r15), none, none], []), (ri_wi S14 50 24 ((S14.1 50 24) - (1 : Int32))))) (r2 := ((157, 46, [some (.ref 50), some (.int r15), none, none], []), (ri_wi S14 50 24 ((S14.1 50 24) - (1 : Int32))))) 9 rfl (fun c => ?_) (fun c => ?_)
      · have h := h.1 c
        exact A_ret 2 (m := 157) (v := some (.int (0 : Int32))) (S' := (ri_wi S14 50 24 ((S14.1 50 24) - (1 : Int32)))) rfl rfl ⟨_, rfl, h⟩
      · have h := h.2 c
        exact A_ret 3 (m := 157) (v := some (.int (1 : Int32))) (S' := (ri_wi S14 50 24 ((S14.1 50 24) - (1 : Int32)))) rfl rfl ⟨_, rfl, h⟩
    · have h := h.2 c
      exact A_ret 2 (m := 157) (v := some (.int (0 : Int32))) (S' := S12) rfl rfl ⟨_, rfl, h⟩
def dt : Type := ri_H → (Int32 → ri_H → Prop) → Prop
def mAt : Nat → dt × dt × dt
  | 0 => (watom5, wnot5 (wadded (wterm watom5)), weither (wboth (wnot5 (wadded (wterm watom5)))))
  | n + 1 => (watom (mAt n).1 (mAt n).2.2, wnot (mAt n).2.1 (wadded (wterm (watom (mAt n).1 (mAt n).2.2))), weither (wboth (wnot (mAt n).2.1 (wadded (wterm (watom (mAt n).1 (mAt n).2.2))))))
theorem mAt_ok0 {E : ri_E} : (∀ (S : ri_H) (Q : Int32 → ri_H → Prop), (mAt 0).1 S Q → ri_A E 26 (ri_en 124 [.ref 50]) S (Qi Q)) ∧ (∀ (S : ri_H) (Q : Int32 → ri_H → Prop), (mAt 0).2.1 S Q → ri_A E 26 (ri_en 127 [.ref 50]) S (Qi Q)) ∧ (∀ (S : ri_H) (Q : Int32 → ri_H → Prop), (mAt 0).2.2 S Q → ri_A E 26 (ri_en 129 [.ref 50]) S (Qi Q)) := by
  have k1 : ∀ (S : ri_H) (Q : Int32 → ri_H → Prop), (mAt 0).1 S Q → ri_A E 21 (ri_en 124 [.ref 50]) S (Qi Q) := fun S Q h => A_mono (wt124 h) (by omega)
  have k2 : ∀ (S : ri_H) (Q : Int32 → ri_H → Prop), wterm (mAt 0).1 S Q → ri_A E 22 (ri_en 125 [.ref 50]) S (Qi Q) := fun S Q h => wt125 _ 21 (by omega) k1 h
  have k3 : ∀ (S : ri_H) (Q : Int32 → ri_H → Prop), wadded (wterm (mAt 0).1) S Q → ri_A E 23 (ri_en 126 [.ref 50]) S (Qi Q) := fun S Q h => wt126 _ 22 (by omega) k2 h
  have k4 : ∀ (S : ri_H) (Q : Int32 → ri_H → Prop), (mAt 0).2.1 S Q → ri_A E 24 (ri_en 127 [.ref 50]) S (Qi Q) := fun S Q h => wt127 _ 23 (by omega) k3 h
  have k5 : ∀ (S : ri_H) (Q : Int32 → ri_H → Prop), wboth (mAt 0).2.1 S Q → ri_A E 25 (ri_en 128 [.ref 50]) S (Qi Q) := fun S Q h => wt128 _ 24 (by omega) k4 h
  exact ⟨fun S Q h => A_mono (k1 S Q h) (by omega), fun S Q h => A_mono (k4 S Q h) (by omega), fun S Q h => wt129 _ 25 (by omega) k5 h⟩
theorem mAt_ok1 {E : ri_E} : (∀ (S : ri_H) (Q : Int32 → ri_H → Prop), (mAt 1).1 S Q → ri_A E 32 (ri_en 130 [.ref 50]) S (Qi Q)) ∧ (∀ (S : ri_H) (Q : Int32 → ri_H → Prop), (mAt 1).2.1 S Q → ri_A E 32 (ri_en 133 [.ref 50]) S (Qi Q)) ∧ (∀ (S : ri_H) (Q : Int32 → ri_H → Prop), (mAt 1).2.2 S Q → ri_A E 32 (ri_en 135 [.ref 50]) S (Qi Q)) := by
  obtain ⟨i1, i2, i3⟩ := mAt_ok0 (E := E)
  have k1 : ∀ (S : ri_H) (Q : Int32 → ri_H → Prop), (mAt 1).1 S Q → ri_A E 27 (ri_en 130 [.ref 50]) S (Qi Q) := fun S Q h => wt130 _ _ 26 (by omega) i1 i3 h
  have k2 : ∀ (S : ri_H) (Q : Int32 → ri_H → Prop), wterm (mAt 1).1 S Q → ri_A E 28 (ri_en 131 [.ref 50]) S (Qi Q) := fun S Q h => wt131 _ 27 (by omega) k1 h
  have k3 : ∀ (S : ri_H) (Q : Int32 → ri_H → Prop), wadded (wterm (mAt 1).1) S Q → ri_A E 29 (ri_en 132 [.ref 50]) S (Qi Q) := fun S Q h => wt132 _ 28 (by omega) k2 h
  have k4 : ∀ (S : ri_H) (Q : Int32 → ri_H → Prop), (mAt 1).2.1 S Q → ri_A E 30 (ri_en 133 [.ref 50]) S (Qi Q) := fun S Q h => wt133 _ _ 29 (by omega) (fun S Q h => A_mono (i2 S Q h) (by omega)) k3 h
  have k5 : ∀ (S : ri_H) (Q : Int32 → ri_H → Prop), wboth (mAt 1).2.1 S Q → ri_A E 31 (ri_en 134 [.ref 50]) S (Qi Q) := fun S Q h => wt134 _ 30 (by omega) k4 h
  exact ⟨fun S Q h => A_mono (k1 S Q h) (by omega), fun S Q h => A_mono (k4 S Q h) (by omega), fun S Q h => wt135 _ 31 (by omega) k5 h⟩
theorem mAt_ok2 {E : ri_E} : (∀ (S : ri_H) (Q : Int32 → ri_H → Prop), (mAt 2).1 S Q → ri_A E 38 (ri_en 136 [.ref 50]) S (Qi Q)) ∧ (∀ (S : ri_H) (Q : Int32 → ri_H → Prop), (mAt 2).2.1 S Q → ri_A E 38 (ri_en 139 [.ref 50]) S (Qi Q)) ∧ (∀ (S : ri_H) (Q : Int32 → ri_H → Prop), (mAt 2).2.2 S Q → ri_A E 38 (ri_en 141 [.ref 50]) S (Qi Q)) := by
  obtain ⟨i1, i2, i3⟩ := mAt_ok1 (E := E)
  have k1 : ∀ (S : ri_H) (Q : Int32 → ri_H → Prop), (mAt 2).1 S Q → ri_A E 33 (ri_en 136 [.ref 50]) S (Qi Q) := fun S Q h => wt136 _ _ 32 (by omega) i1 i3 h
  have k2 : ∀ (S : ri_H) (Q : Int32 → ri_H → Prop), wterm (mAt 2).1 S Q → ri_A E 34 (ri_en 137 [.ref 50]) S (Qi Q) := fun S Q h => wt137 _ 33 (by omega) k1 h
  have k3 : ∀ (S : ri_H) (Q : Int32 → ri_H → Prop), wadded (wterm (mAt 2).1) S Q → ri_A E 35 (ri_en 138 [.ref 50]) S (Qi Q) := fun S Q h => wt138 _ 34 (by omega) k2 h
  have k4 : ∀ (S : ri_H) (Q : Int32 → ri_H → Prop), (mAt 2).2.1 S Q → ri_A E 36 (ri_en 139 [.ref 50]) S (Qi Q) := fun S Q h => wt139 _ _ 35 (by omega) (fun S Q h => A_mono (i2 S Q h) (by omega)) k3 h
  have k5 : ∀ (S : ri_H) (Q : Int32 → ri_H → Prop), wboth (mAt 2).2.1 S Q → ri_A E 37 (ri_en 140 [.ref 50]) S (Qi Q) := fun S Q h => wt140 _ 36 (by omega) k4 h
  exact ⟨fun S Q h => A_mono (k1 S Q h) (by omega), fun S Q h => A_mono (k4 S Q h) (by omega), fun S Q h => wt141 _ 37 (by omega) k5 h⟩
theorem mAt_ok3 {E : ri_E} : (∀ (S : ri_H) (Q : Int32 → ri_H → Prop), (mAt 3).1 S Q → ri_A E 44 (ri_en 142 [.ref 50]) S (Qi Q)) ∧ (∀ (S : ri_H) (Q : Int32 → ri_H → Prop), (mAt 3).2.1 S Q → ri_A E 44 (ri_en 145 [.ref 50]) S (Qi Q)) ∧ (∀ (S : ri_H) (Q : Int32 → ri_H → Prop), (mAt 3).2.2 S Q → ri_A E 44 (ri_en 147 [.ref 50]) S (Qi Q)) := by
  obtain ⟨i1, i2, i3⟩ := mAt_ok2 (E := E)
  have k1 : ∀ (S : ri_H) (Q : Int32 → ri_H → Prop), (mAt 3).1 S Q → ri_A E 39 (ri_en 142 [.ref 50]) S (Qi Q) := fun S Q h => wt142 _ _ 38 (by omega) i1 i3 h
  have k2 : ∀ (S : ri_H) (Q : Int32 → ri_H → Prop), wterm (mAt 3).1 S Q → ri_A E 40 (ri_en 143 [.ref 50]) S (Qi Q) := fun S Q h => wt143 _ 39 (by omega) k1 h
  have k3 : ∀ (S : ri_H) (Q : Int32 → ri_H → Prop), wadded (wterm (mAt 3).1) S Q → ri_A E 41 (ri_en 144 [.ref 50]) S (Qi Q) := fun S Q h => wt144 _ 40 (by omega) k2 h
  have k4 : ∀ (S : ri_H) (Q : Int32 → ri_H → Prop), (mAt 3).2.1 S Q → ri_A E 42 (ri_en 145 [.ref 50]) S (Qi Q) := fun S Q h => wt145 _ _ 41 (by omega) (fun S Q h => A_mono (i2 S Q h) (by omega)) k3 h
  have k5 : ∀ (S : ri_H) (Q : Int32 → ri_H → Prop), wboth (mAt 3).2.1 S Q → ri_A E 43 (ri_en 146 [.ref 50]) S (Qi Q) := fun S Q h => wt146 _ 42 (by omega) k4 h
  exact ⟨fun S Q h => A_mono (k1 S Q h) (by omega), fun S Q h => A_mono (k4 S Q h) (by omega), fun S Q h => wt147 _ 43 (by omega) k5 h⟩
theorem mAt_ok4 {E : ri_E} : (∀ (S : ri_H) (Q : Int32 → ri_H → Prop), (mAt 4).1 S Q → ri_A E 50 (ri_en 148 [.ref 50]) S (Qi Q)) ∧ (∀ (S : ri_H) (Q : Int32 → ri_H → Prop), (mAt 4).2.1 S Q → ri_A E 50 (ri_en 151 [.ref 50]) S (Qi Q)) ∧ (∀ (S : ri_H) (Q : Int32 → ri_H → Prop), (mAt 4).2.2 S Q → ri_A E 50 (ri_en 153 [.ref 50]) S (Qi Q)) := by
  obtain ⟨i1, i2, i3⟩ := mAt_ok3 (E := E)
  have k1 : ∀ (S : ri_H) (Q : Int32 → ri_H → Prop), (mAt 4).1 S Q → ri_A E 45 (ri_en 148 [.ref 50]) S (Qi Q) := fun S Q h => wt148 _ _ 44 (by omega) i1 i3 h
  have k2 : ∀ (S : ri_H) (Q : Int32 → ri_H → Prop), wterm (mAt 4).1 S Q → ri_A E 46 (ri_en 149 [.ref 50]) S (Qi Q) := fun S Q h => wt149 _ 45 (by omega) k1 h
  have k3 : ∀ (S : ri_H) (Q : Int32 → ri_H → Prop), wadded (wterm (mAt 4).1) S Q → ri_A E 47 (ri_en 150 [.ref 50]) S (Qi Q) := fun S Q h => wt150 _ 46 (by omega) k2 h
  have k4 : ∀ (S : ri_H) (Q : Int32 → ri_H → Prop), (mAt 4).2.1 S Q → ri_A E 48 (ri_en 151 [.ref 50]) S (Qi Q) := fun S Q h => wt151 _ _ 47 (by omega) (fun S Q h => A_mono (i2 S Q h) (by omega)) k3 h
  have k5 : ∀ (S : ri_H) (Q : Int32 → ri_H → Prop), wboth (mAt 4).2.1 S Q → ri_A E 49 (ri_en 152 [.ref 50]) S (Qi Q) := fun S Q h => wt152 _ 48 (by omega) k4 h
  exact ⟨fun S Q h => A_mono (k1 S Q h) (by omega), fun S Q h => A_mono (k4 S Q h) (by omega), fun S Q h => wt153 _ 49 (by omega) k5 h⟩
theorem mAt_ok5 {E : ri_E} : (∀ (S : ri_H) (Q : Int32 → ri_H → Prop), (mAt 5).1 S Q → ri_A E 56 (ri_en 154 [.ref 50]) S (Qi Q)) ∧ (∀ (S : ri_H) (Q : Int32 → ri_H → Prop), (mAt 5).2.1 S Q → ri_A E 56 (ri_en 157 [.ref 50]) S (Qi Q)) ∧ (∀ (S : ri_H) (Q : Int32 → ri_H → Prop), (mAt 5).2.2 S Q → ri_A E 56 (ri_en 159 [.ref 50]) S (Qi Q)) := by
  obtain ⟨i1, i2, i3⟩ := mAt_ok4 (E := E)
  have k1 : ∀ (S : ri_H) (Q : Int32 → ri_H → Prop), (mAt 5).1 S Q → ri_A E 51 (ri_en 154 [.ref 50]) S (Qi Q) := fun S Q h => wt154 _ _ 50 (by omega) i1 i3 h
  have k2 : ∀ (S : ri_H) (Q : Int32 → ri_H → Prop), wterm (mAt 5).1 S Q → ri_A E 52 (ri_en 155 [.ref 50]) S (Qi Q) := fun S Q h => wt155 _ 51 (by omega) k1 h
  have k3 : ∀ (S : ri_H) (Q : Int32 → ri_H → Prop), wadded (wterm (mAt 5).1) S Q → ri_A E 53 (ri_en 156 [.ref 50]) S (Qi Q) := fun S Q h => wt156 _ 52 (by omega) k2 h
  have k4 : ∀ (S : ri_H) (Q : Int32 → ri_H → Prop), (mAt 5).2.1 S Q → ri_A E 54 (ri_en 157 [.ref 50]) S (Qi Q) := fun S Q h => wt157 _ _ 53 (by omega) (fun S Q h => A_mono (i2 S Q h) (by omega)) k3 h
  have k5 : ∀ (S : ri_H) (Q : Int32 → ri_H → Prop), wboth (mAt 5).2.1 S Q → ri_A E 55 (ri_en 158 [.ref 50]) S (Qi Q) := fun S Q h => wt158 _ 54 (by omega) k4 h
  exact ⟨fun S Q h => A_mono (k1 S Q h) (by omega), fun S Q h => A_mono (k4 S Q h) (by omega), fun S Q h => wt159 _ 55 (by omega) k5 h⟩
/-! X5_isOne, depth 1 -/
def w104 (a : Int32) (S : ri_H) (Q : Int32 → ri_H → Prop) : Prop := w102 (a).toInt64 (0 : Int64) (((S.1 50 11) - (1 : Int32))).toInt64 S (fun (r2 : Int32) (S1 : ri_H) => ((r2 = 0 ∨ r2 = 1) ∧ Q r2 S1))
set_option maxRecDepth 10000 in
set_option maxHeartbeats 1000000 in
theorem wt104 {E : ri_E} (a : Int32) {S : ri_H} {Q : Int32 → ri_H → Prop} (h : w104  a S Q) : ri_A E 1 (ri_en 104 [.ref 50, .int a]) S (Qi Q) := by
  unfold w104 at h
  show ri_A E 1 (104, 0, [some (.ref 50), some (.int a)], []) S (Qi Q)
  refine A_call (j := 102) (As := [.long (a).toInt64, .long (0 : Int64), .long (((S.1 50 11) - (1 : Int32))).toInt64]) (fr' := (104, 13, [some (.ref 50), some (.int a)], [])) (S' := S) 9 rfl (e := 0) (by omega) (A_imp (wt102 (a).toInt64 (0 : Int64) (((S.1 50 11) - (1 : Int32))).toInt64 h) (fun v S1 hq => ?_))
  obtain ⟨r2, hv, h⟩ := hq
  subst hv
  exact A_ret 1 (m := 104) (v := some (.int r2)) (S' := S1) rfl (by rcases h.1 with c | c <;> rw [c] <;> rfl) ⟨_, rfl, h.2⟩
/-! X5_isCrossing, depth 1 -/
def w105 (a : Int32) (S : ri_H) (Q : Int32 → ri_H → Prop) : Prop := w102 (a).toInt64 (0 : Int64) (11 : Int64) S (fun (r2 : Int32) (S1 : ri_H) => ((r2 = 0 ∨ r2 = 1) ∧ Q r2 S1))
set_option maxRecDepth 10000 in
set_option maxHeartbeats 1000000 in
theorem wt105 {E : ri_E} (a : Int32) {S : ri_H} {Q : Int32 → ri_H → Prop} (h : w105  a S Q) : ri_A E 1 (ri_en 105 [.int a]) S (Qi Q) := by
  unfold w105 at h
  show ri_A E 1 (105, 0, [some (.int a)], []) S (Qi Q)
  refine A_call (j := 102) (As := [.long (a).toInt64, .long (0 : Int64), .long (11 : Int64)]) (fr' := (105, 9, [some (.int a)], [])) (S' := S) 5 rfl (e := 0) (by omega) (A_imp (wt102 (a).toInt64 (0 : Int64) (11 : Int64) h) (fun v S1 hq => ?_))
  obtain ⟨r2, hv, h⟩ := hq
  subst hv
  exact A_ret 1 (m := 105) (v := some (.int r2)) (S' := S1) rfl (by rcases h.1 with c | c <;> rw [c] <;> rfl) ⟨_, rfl, h.2⟩
/-! X5_isJar, depth 1 -/
def w106 (a : Int32) (S : ri_H) (Q : Int32 → ri_H → Prop) : Prop := w102 (a).toInt64 (0 : Int64) (23 : Int64) S (fun (r2 : Int32) (S1 : ri_H) => ((r2 = 0 ∨ r2 = 1) ∧ Q r2 S1))
set_option maxRecDepth 10000 in
set_option maxHeartbeats 1000000 in
theorem wt106 {E : ri_E} (a : Int32) {S : ri_H} {Q : Int32 → ri_H → Prop} (h : w106  a S Q) : ri_A E 1 (ri_en 106 [.int a]) S (Qi Q) := by
  unfold w106 at h
  show ri_A E 1 (106, 0, [some (.int a)], []) S (Qi Q)
  refine A_call (j := 102) (As := [.long (a).toInt64, .long (0 : Int64), .long (23 : Int64)]) (fr' := (106, 9, [some (.int a)], [])) (S' := S) 5 rfl (e := 0) (by omega) (A_imp (wt102 (a).toInt64 (0 : Int64) (23 : Int64) h) (fun v S1 hq => ?_))
  obtain ⟨r2, hv, h⟩ := hq
  subst hv
  exact A_ret 1 (m := 106) (v := some (.int r2)) (S' := S1) rfl (by rcases h.1 with c | c <;> rw [c] <;> rfl) ⟨_, rfl, h.2⟩
/-! X5_isOf, depth 2 -/
def w107_b17 (Q : Int32 → ri_H → Prop)  (S : ri_H) : Prop := Q (1 : Int32) S
set_option maxRecDepth 10000 in
set_option maxHeartbeats 1000000 in
theorem wt107_b17 {E : ri_E} {Q : Int32 → ri_H → Prop}  (S : ri_H) (h : w107_b17   Q  S) : ri_A E 2 (107, 17, [none, none, none], []) S (Qi Q) := by
  unfold w107_b17 at h
  exact A_ret 3 (m := 107) (v := some (.int (1 : Int32))) (S' := S) rfl rfl ⟨_, rfl, h⟩
def w107 (a : Int32) (b : Int32) (S : ri_H) (Q : Int32 → ri_H → Prop) : Prop := (((3 : Int32) ≤ a → ((¬ a = (10 : Int32) → w104 b S (fun (r2 : Int32) (S1 : ri_H) => ((r2 = 0 ∨ r2 = 1) ∧ Q r2 S1))) ∧ (¬ (¬ a = (10 : Int32)) → w105 b S (fun (r4 : Int32) (S3 : ri_H) => ((r4 = 0 ∨ r4 = 1) ∧ Q r4 S3))))) ∧ (¬ (3 : Int32) ≤ a → ((a = (2 : Int32) → w107_b17   Q  S) ∧ (¬ (a = (2 : Int32)) → w106 b S (fun (r6 : Int32) (S5 : ri_H) => ((r6 = 0 → Q (0 : Int32) S5) ∧ (¬ (r6 = 0) → w107_b17   Q  S5)))))))
set_option maxRecDepth 10000 in
set_option maxHeartbeats 1000000 in
theorem wt107 {E : ri_E} (a : Int32) (b : Int32) {S : ri_H} {Q : Int32 → ri_H → Prop} (h : w107  a b S Q) : ri_A E 2 (ri_en 107 [.ref 50, .int a, .int b]) S (Qi Q) := by
  unfold w107 at h
  show ri_A E 2 (107, 0, [some (.ref 50), some (.int a), some (.int b)], []) S (Qi Q)
  refine A_br ((3 : Int32) ≤ a) (r1 := ((107, 23, [some (.ref 50), some (.int a), some (.int b)], []), S)) (r2 := ((107, 5, [some (.ref 50), some (.int a), some (.int b)], []), S)) 3 rfl (fun c => ?_) (fun c => ?_)
  · have h := h.1 c
    refine A_br (¬ a = (10 : Int32)) (r1 := ((107, 36, [some (.ref 50), some (.int a), some (.int b)], []), S)) (r2 := ((107, 29, [some (.ref 50), some (.int a), some (.int b)], []), S)) 3 rfl (fun c => ?_) (fun c => ?_)
    · have h := h.1 c
      refine A_call (j := 104) (As := [.ref 50, .int b]) (fr' := (107, 41, [some (.ref 50), some (.int a), some (.int b)], [])) (S' := S) 3 rfl (e := 1) (by omega) (A_imp (wt104 b h) (fun v S1 hq => ?_))
      obtain ⟨r2, hv, h⟩ := hq
      subst hv
      exact A_ret 1 (m := 107) (v := some (.int r2)) (S' := S1) rfl (by rcases h.1 with c | c <;> rw [c] <;> rfl) ⟨_, rfl, h.2⟩
    · have h := h.2 c
      refine A_call (j := 105) (As := [.int b]) (fr' := (107, 33, [some (.ref 50), some (.int a), some (.int b)], [])) (S' := S) 2 rfl (e := 1) (by omega) (A_imp (wt105 b h) (fun v S3 hq => ?_))
      obtain ⟨r4, hv, h⟩ := hq
      subst hv
      exact A_ret 2 (m := 107) (v := some (.int r4)) (S' := S3) rfl (by rcases h.1 with c | c <;> rw [c] <;> rfl) ⟨_, rfl, h.2⟩
  · have h := h.2 c
    refine A_br (a = (2 : Int32)) (r1 := ((107, 17, [some (.ref 50), some (.int a), some (.int b)], []), S)) (r2 := ((107, 10, [some (.ref 50), some (.int a), some (.int b)], []), S)) 3 rfl (fun c => ?_) (fun c => ?_)
    · have h := h.1 c
      refine ri_A.less (m := 107) (pc := 17) (L := [some (.ref 50), some (.int a), some (.int b)]) (L' := [none, none, none]) (st := []) trivial ?_
      exact wt107_b17   _ h
    · have h := h.2 c
      refine A_call (j := 106) (As := [.int b]) (fr' := (107, 14, [some (.ref 50), some (.int a), some (.int b)], [])) (S' := S) 2 rfl (e := 1) (by omega) (A_imp (wt106 b h) (fun v S5 hq => ?_))
      obtain ⟨r6, hv, h⟩ := hq
      subst hv
      refine A_br (r6 = 0) (r1 := ((107, 21, [some (.ref 50), some (.int a), some (.int b)], []), S5)) (r2 := ((107, 17, [some (.ref 50), some (.int a), some (.int b)], []), S5)) 1 rfl (fun c => ?_) (fun c => ?_)
      · have h := h.1 c
        exact A_ret 2 (m := 107) (v := some (.int (0 : Int32))) (S' := S5) rfl rfl ⟨_, rfl, h⟩
      · have h := h.2 c
        refine ri_A.less (m := 107) (pc := 17) (L := [some (.ref 50), some (.int a), some (.int b)]) (L' := [none, none, none]) (st := []) trivial ?_
        exact wt107_b17   _ h
/-! X5_mostOf, depth 0 -/
def w108_b9 (Q : Int32 → ri_H → Prop)  (S : ri_H) : Prop := Q (11 : Int32) S
set_option maxRecDepth 10000 in
set_option maxHeartbeats 1000000 in
theorem wt108_b9 {E : ri_E} {Q : Int32 → ri_H → Prop}  (S : ri_H) (h : w108_b9   Q  S) : ri_A E 0 (108, 9, [none], []) S (Qi Q) := by
  unfold w108_b9 at h
  exact A_ret 3 (m := 108) (v := some (.int (11 : Int32))) (S' := S) rfl rfl ⟨_, rfl, h⟩
def w108 (a : Int32) (S : ri_H) (Q : Int32 → ri_H → Prop) : Prop := ((a = 0 → w108_b9   Q  S) ∧ (¬ (a = 0) → ((¬ a = (4 : Int32) → ((¬ a = (3 : Int32) → ((¬ a = (5 : Int32) → Q (999 : Int32) S) ∧ (¬ (¬ a = (5 : Int32)) → Q (99 : Int32) S))) ∧ (¬ (¬ a = (3 : Int32)) → Q (9 : Int32) S))) ∧ (¬ (¬ a = (4 : Int32)) → w108_b9   Q  S))))
set_option maxRecDepth 10000 in
set_option maxHeartbeats 1000000 in
theorem wt108 {E : ri_E} (a : Int32) {S : ri_H} {Q : Int32 → ri_H → Prop} (h : w108  a S Q) : ri_A E 0 (ri_en 108 [.int a]) S (Qi Q) := by
  unfold w108 at h
  show ri_A E 0 (108, 0, [some (.int a)], []) S (Qi Q)
  refine A_br (a = 0) (r1 := ((108, 9, [some (.int a)], []), S)) (r2 := ((108, 4, [some (.int a)], []), S)) 2 rfl (fun c => ?_) (fun c => ?_)
  · have h := h.1 c
    refine ri_A.less (m := 108) (pc := 9) (L := [some (.int a)]) (L' := [none]) (st := []) trivial ?_
    exact wt108_b9   _ h
  · have h := h.2 c
    refine A_br (¬ a = (4 : Int32)) (r1 := ((108, 14, [some (.int a)], []), S)) (r2 := ((108, 9, [some (.int a)], []), S)) 3 rfl (fun c => ?_) (fun c => ?_)
    · have h := h.1 c
      refine A_br (¬ a = (3 : Int32)) (r1 := ((108, 24, [some (.int a)], []), S)) (r2 := ((108, 19, [some (.int a)], []), S)) 3 rfl (fun c => ?_) (fun c => ?_)
      · have h := h.1 c
        refine A_br (¬ a = (5 : Int32)) (r1 := ((108, 34, [some (.int a)], []), S)) (r2 := ((108, 29, [some (.int a)], []), S)) 3 rfl (fun c => ?_) (fun c => ?_)
        · have h := h.1 c
          exact A_ret 2 (m := 108) (v := some (.int (999 : Int32))) (S' := S) rfl rfl ⟨_, rfl, h⟩
        · have h := h.2 c
          exact A_ret 3 (m := 108) (v := some (.int (99 : Int32))) (S' := S) rfl rfl ⟨_, rfl, h⟩
      · have h := h.2 c
        exact A_ret 3 (m := 108) (v := some (.int (9 : Int32))) (S' := S) rfl rfl ⟨_, rfl, h⟩
    · have h := h.2 c
      refine ri_A.less (m := 108) (pc := 9) (L := [some (.int a)]) (L' := [none]) (st := []) trivial ?_
      exact wt108_b9   _ h
/-! X5_atOf, depth 0 -/
def w114 (a : Int32) (S : ri_H) (Q : Int32 → ri_H → Prop) : Prop := (vp_in (((5 : Int32) * a) + (1 : Int32)) 25 ∧ Q (S.1 56 ((((5 : Int32) * a) + (1 : Int32))).toNatClampNeg) S)
set_option maxRecDepth 10000 in
set_option maxHeartbeats 1000000 in
theorem wt114 {E : ri_E} (a : Int32) {S : ri_H} {Q : Int32 → ri_H → Prop} (h : w114  a S Q) : ri_A E 0 (ri_en 114 [.ref 50, .int a]) S (Qi Q) := by
  unfold w114 at h
  show ri_A E 0 (114, 0, [some (.ref 50), some (.int a)], []) S (Qi Q)
  refine A_ix (((5 : Int32) * a) + (1 : Int32)) 25 (r1 := ((114, 10, [some (.ref 50), some (.int a)], [.int (S.1 56 ((((5 : Int32) * a) + (1 : Int32))).toNatClampNeg)]), S)) 8 rfl h.1 ?_
  have h := h.2
  exact A_ret 1 (m := 114) (v := some (.int (S.1 56 ((((5 : Int32) * a) + (1 : Int32))).toNatClampNeg))) (S' := S) rfl rfl ⟨_, rfl, h⟩
/-! X5_part, depth 57 -/
def w160_b48 (Q : Int32 → ri_H → Prop) (x2 : Int32) (S : ri_H) : Prop := ((¬ (S.1 50 25) = 0 → Q x2 S) ∧ (¬ (¬ (S.1 50 25) = 0) → w117  S (fun (S5 : ri_H) => Q x2 S5)))
set_option maxRecDepth 10000 in
set_option maxHeartbeats 1000000 in
theorem wt160_b48 {E : ri_E} {Q : Int32 → ri_H → Prop} (x2 : Int32) (S : ri_H) (h : w160_b48   Q x2 S) : ri_A E 57 (160, 48, [some (.ref 50), none, some (.int x2)], []) S (Qi Q) := by
  unfold w160_b48 at h
  refine A_br (¬ (S.1 50 25) = 0) (r1 := ((160, 59, [some (.ref 50), none, some (.int x2)], []), S)) (r2 := ((160, 55, [some (.ref 50), none, some (.int x2)], []), S)) 3 rfl (fun c => ?_) (fun c => ?_)
  · have h := h.1 c
    exact A_ret 2 (m := 160) (v := some (.int x2)) (S' := S) rfl rfl ⟨_, rfl, h⟩
  · have h := h.2 c
    refine A_call (j := 117) (As := [.ref 50]) (fr' := (160, 59, [some (.ref 50), none, some (.int x2)], [])) (S' := S) 2 rfl (e := 1) (by omega) (A_imp (wt117  h) (fun v S5 hq => ?_))
    obtain ⟨hv, h⟩ := hq
    subst hv
    exact A_ret 2 (m := 160) (v := some (.int x2)) (S' := S5) rfl rfl ⟨_, rfl, h⟩
def w160_b34 (Q : Int32 → ri_H → Prop) (s0 : Int32) (S : ri_H) : Prop := w121 (59 : Int32) S (fun (r4 : Int32) (S3 : ri_H) => ((¬ r4 = 0 → w160_b48   Q s0 S3) ∧ (¬ (¬ r4 = 0) → w118  S3 (fun (S6 : ri_H) => w160_b48   Q s0 S6))))
set_option maxRecDepth 10000 in
set_option maxHeartbeats 1000000 in
theorem wt160_b34 {E : ri_E} {Q : Int32 → ri_H → Prop} (s0 : Int32) (S : ri_H) (h : w160_b34   Q s0 S) : ri_A E 57 (160, 34, [some (.ref 50), none, none], [.int s0]) S (Qi Q) := by
  unfold w160_b34 at h
  refine A_call (j := 121) (As := [.ref 50, .int (59 : Int32)]) (fr' := (160, 41, [some (.ref 50), none, some (.int s0)], [])) (S' := S) 4 rfl (e := 0) (by omega) (A_imp (wt121 (59 : Int32) h) (fun v S3 hq => ?_))
  obtain ⟨r4, hv, h⟩ := hq
  subst hv
  refine A_br (¬ r4 = 0) (r1 := ((160, 48, [some (.ref 50), none, some (.int s0)], []), S3)) (r2 := ((160, 44, [some (.ref 50), none, some (.int s0)], []), S3)) 1 rfl (fun c => ?_) (fun c => ?_)
  · have h := h.1 c
    refine ri_A.less (m := 160) (pc := 48) (L := [some (.ref 50), none, some (.int s0)]) (L' := [some (.ref 50), none, some (.int s0)]) (st := []) ⟨rfl, ⟨rfl, trivial⟩⟩ ?_
    exact wt160_b48   _ _ h
  · have h := h.2 c
    refine A_call (j := 118) (As := [.ref 50]) (fr' := (160, 48, [some (.ref 50), none, some (.int s0)], [])) (S' := S3) 2 rfl (e := 0) (by omega) (A_imp (wt118  h) (fun v S6 hq => ?_))
    obtain ⟨hv, h⟩ := hq
    subst hv
    refine ri_A.less (m := 160) (pc := 48) (L := [some (.ref 50), none, some (.int s0)]) (L' := [some (.ref 50), none, some (.int s0)]) (st := []) ⟨rfl, ⟨rfl, trivial⟩⟩ ?_
    exact wt160_b48   _ _ h
def w160_b19 (Q : Int32 → ri_H → Prop)  (S : ri_H) : Prop := (((S.1 50 25) = 0 → (mAt 5).2.2 S (fun (r2 : Int32) (S1 : ri_H) => w160_b34   Q r2 S1)) ∧ (¬ (S.1 50 25) = 0 → w160_b34   Q (0 : Int32) S))
set_option maxRecDepth 10000 in
set_option maxHeartbeats 1000000 in
theorem wt160_b19 {E : ri_E} {Q : Int32 → ri_H → Prop}  (S : ri_H) (h : w160_b19   Q  S) : ri_A E 57 (160, 19, [some (.ref 50), none, none], []) S (Qi Q) := by
  unfold w160_b19 at h
  refine A_br ((S.1 50 25) = 0) (r1 := ((160, 30, [some (.ref 50), none, none], []), S)) (r2 := ((160, 26, [some (.ref 50), none, none], []), S)) 3 rfl (fun c => ?_) (fun c => ?_)
  · have h := h.1 c
    refine A_call (j := 159) (As := [.ref 50]) (fr' := (160, 34, [some (.ref 50), none, none], [])) (S' := S) 2 rfl (e := 56) (by omega) (A_imp (mAt_ok5.2.2 _ _ h) (fun v S1 hq => ?_))
    obtain ⟨r2, hv, h⟩ := hq
    subst hv
    refine ri_A.less (m := 160) (pc := 34) (L := [some (.ref 50), none, none]) (L' := [some (.ref 50), none, none]) (st := [.int r2]) ⟨rfl, trivial⟩ ?_
    exact wt160_b34   _ _ h
  · have h := h.2 c
    refine A_nx 2 (fr' := (160, 34, [some (.ref 50), none, none], [.int (0 : Int32)])) (S' := S) rfl ?_
    refine ri_A.less (m := 160) (pc := 34) (L := [some (.ref 50), none, none]) (L' := [some (.ref 50), none, none]) (st := [.int (0 : Int32)]) ⟨rfl, trivial⟩ ?_
    exact wt160_b34   _ _ h
def w160_b8 (Q : Int32 → ri_H → Prop)  (S : ri_H) : Prop := ((¬ (S.1 50 25) = 0 → w160_b19   Q  S) ∧ (¬ (¬ (S.1 50 25) = 0) → w117  S (fun (S7 : ri_H) => w160_b19   Q  S7)))
set_option maxRecDepth 10000 in
set_option maxHeartbeats 1000000 in
theorem wt160_b8 {E : ri_E} {Q : Int32 → ri_H → Prop}  (S : ri_H) (h : w160_b8   Q  S) : ri_A E 57 (160, 8, [some (.ref 50), none, none], []) S (Qi Q) := by
  unfold w160_b8 at h
  refine A_br (¬ (S.1 50 25) = 0) (r1 := ((160, 19, [some (.ref 50), none, none], []), S)) (r2 := ((160, 15, [some (.ref 50), none, none], []), S)) 3 rfl (fun c => ?_) (fun c => ?_)
  · have h := h.1 c
    refine ri_A.less (m := 160) (pc := 19) (L := [some (.ref 50), none, none]) (L' := [some (.ref 50), none, none]) (st := []) ⟨rfl, trivial⟩ ?_
    exact wt160_b19   _ h
  · have h := h.2 c
    refine A_call (j := 117) (As := [.ref 50]) (fr' := (160, 19, [some (.ref 50), none, none], [])) (S' := S) 2 rfl (e := 1) (by omega) (A_imp (wt117  h) (fun v S7 hq => ?_))
    obtain ⟨hv, h⟩ := hq
    subst hv
    refine ri_A.less (m := 160) (pc := 19) (L := [some (.ref 50), none, none]) (L' := [some (.ref 50), none, none]) (st := []) ⟨rfl, trivial⟩ ?_
    exact wt160_b19   _ h
def w160 (a : Int32) (S : ri_H) (Q : Int32 → ri_H → Prop) : Prop := ((¬ a = 0 → w160_b8   Q  S) ∧ (¬ (¬ a = 0) → w118  S (fun (S8 : ri_H) => w160_b8   Q  S8)))
set_option maxRecDepth 10000 in
set_option maxHeartbeats 1000000 in
theorem wt160 {E : ri_E} (a : Int32) {S : ri_H} {Q : Int32 → ri_H → Prop} (h : w160  a S Q) : ri_A E 57 (ri_en 160 [.ref 50, .int a]) S (Qi Q) := by
  unfold w160 at h
  show ri_A E 57 (160, 0, [some (.ref 50), some (.int a), none], []) S (Qi Q)
  refine A_br (¬ a = 0) (r1 := ((160, 8, [some (.ref 50), some (.int a), none], []), S)) (r2 := ((160, 4, [some (.ref 50), some (.int a), none], []), S)) 2 rfl (fun c => ?_) (fun c => ?_)
  · have h := h.1 c
    refine ri_A.less (m := 160) (pc := 8) (L := [some (.ref 50), some (.int a), none]) (L' := [some (.ref 50), none, none]) (st := []) ⟨rfl, trivial⟩ ?_
    exact wt160_b8   _ h
  · have h := h.2 c
    refine A_call (j := 118) (As := [.ref 50]) (fr' := (160, 8, [some (.ref 50), some (.int a), none], [])) (S' := S) 2 rfl (e := 0) (by omega) (A_imp (wt118  h) (fun v S8 hq => ?_))
    obtain ⟨hv, h⟩ := hq
    subst hv
    refine ri_A.less (m := 160) (pc := 8) (L := [some (.ref 50), some (.int a), none]) (L' := [some (.ref 50), none, none]) (st := []) ⟨rfl, trivial⟩ ?_
    exact wt160_b8   _ h
/-! X5_read, depth 58 -/
def w161_b145 (Q : Int32 → ri_H → Prop) (x2 : Int32) (x3 : Int32) (x4 : Int32) (x5 : Int32) (S : ri_H) : Prop := ((¬ x2 = 0 → ((¬ x2 = (1 : Int32) → Q x5 S) ∧ (¬ (¬ x2 = (1 : Int32)) → Q x4 S))) ∧ (¬ (¬ x2 = 0) → Q x3 S))
set_option maxRecDepth 10000 in
set_option maxHeartbeats 1000000 in
theorem wt161_b145 {E : ri_E} {Q : Int32 → ri_H → Prop} (x2 : Int32) (x3 : Int32) (x4 : Int32) (x5 : Int32) (S : ri_H) (h : w161_b145   Q x2 x3 x4 x5 S) : ri_A E 58 (161, 145, [none, none, some (.int x2), some (.int x3), some (.int x4), some (.int x5)], []) S (Qi Q) := by
  unfold w161_b145 at h
  refine A_br (¬ x2 = 0) (r1 := ((161, 153, [none, none, some (.int x2), some (.int x3), some (.int x4), some (.int x5)], []), S)) (r2 := ((161, 149, [none, none, some (.int x2), some (.int x3), some (.int x4), some (.int x5)], []), S)) 2 rfl (fun c => ?_) (fun c => ?_)
  · have h := h.1 c
    refine A_br (¬ x2 = (1 : Int32)) (r1 := ((161, 163, [none, none, some (.int x2), some (.int x3), some (.int x4), some (.int x5)], []), S)) (r2 := ((161, 158, [none, none, some (.int x2), some (.int x3), some (.int x4), some (.int x5)], []), S)) 3 rfl (fun c => ?_) (fun c => ?_)
    · have h := h.1 c
      exact A_ret 2 (m := 161) (v := some (.int x5)) (S' := S) rfl rfl ⟨_, rfl, h⟩
    · have h := h.2 c
      exact A_ret 3 (m := 161) (v := some (.int x4)) (S' := S) rfl rfl ⟨_, rfl, h⟩
  · have h := h.2 c
    exact A_ret 3 (m := 161) (v := some (.int x3)) (S' := S) rfl rfl ⟨_, rfl, h⟩
def w161_b125 (Q : Int32 → ri_H → Prop) (x2 : Int32) (x3 : Int32) (x4 : Int32) (s0 : Int32) (S : ri_H) : Prop := ((¬ (S.1 50 25) = 0 → w161_b145   Q x2 x3 x4 s0 S) ∧ (¬ (¬ (S.1 50 25) = 0) → (((S.1 50 21) = 0 → w161_b145   Q x2 x3 x4 s0 S) ∧ (¬ (S.1 50 21) = 0 → w118  S (fun (S14 : ri_H) => w161_b145   Q x2 x3 x4 s0 S14)))))
set_option maxRecDepth 10000 in
set_option maxHeartbeats 1000000 in
theorem wt161_b125 {E : ri_E} {Q : Int32 → ri_H → Prop} (x2 : Int32) (x3 : Int32) (x4 : Int32) (s0 : Int32) (S : ri_H) (h : w161_b125   Q x2 x3 x4 s0 S) : ri_A E 58 (161, 125, [some (.ref 50), none, some (.int x2), some (.int x3), some (.int x4), none], [.int s0]) S (Qi Q) := by
  unfold w161_b125 at h
  refine A_br (¬ (S.1 50 25) = 0) (r1 := ((161, 145, [some (.ref 50), none, some (.int x2), some (.int x3), some (.int x4), some (.int s0)], []), S)) (r2 := ((161, 134, [some (.ref 50), none, some (.int x2), some (.int x3), some (.int x4), some (.int s0)], []), S)) 4 rfl (fun c => ?_) (fun c => ?_)
  · have h := h.1 c
    refine ri_A.less (m := 161) (pc := 145) (L := [some (.ref 50), none, some (.int x2), some (.int x3), some (.int x4), some (.int s0)]) (L' := [none, none, some (.int x2), some (.int x3), some (.int x4), some (.int s0)]) (st := []) ⟨rfl, ⟨rfl, ⟨rfl, ⟨rfl, trivial⟩⟩⟩⟩ ?_
    exact wt161_b145   _ _ _ _ _ h
  · have h := h.2 c
    refine A_br ((S.1 50 21) = 0) (r1 := ((161, 145, [some (.ref 50), none, some (.int x2), some (.int x3), some (.int x4), some (.int s0)], []), S)) (r2 := ((161, 141, [some (.ref 50), none, some (.int x2), some (.int x3), some (.int x4), some (.int s0)], []), S)) 3 rfl (fun c => ?_) (fun c => ?_)
    · have h := h.1 c
      refine ri_A.less (m := 161) (pc := 145) (L := [some (.ref 50), none, some (.int x2), some (.int x3), some (.int x4), some (.int s0)]) (L' := [none, none, some (.int x2), some (.int x3), some (.int x4), some (.int s0)]) (st := []) ⟨rfl, ⟨rfl, ⟨rfl, ⟨rfl, trivial⟩⟩⟩⟩ ?_
      exact wt161_b145   _ _ _ _ _ h
    · have h := h.2 c
      refine A_call (j := 118) (As := [.ref 50]) (fr' := (161, 145, [some (.ref 50), none, some (.int x2), some (.int x3), some (.int x4), some (.int s0)], [])) (S' := S) 2 rfl (e := 0) (by omega) (A_imp (wt118  h) (fun v S14 hq => ?_))
      obtain ⟨hv, h⟩ := hq
      subst hv
      refine ri_A.less (m := 161) (pc := 145) (L := [some (.ref 50), none, some (.int x2), some (.int x3), some (.int x4), some (.int s0)]) (L' := [none, none, some (.int x2), some (.int x3), some (.int x4), some (.int s0)]) (st := []) ⟨rfl, ⟨rfl, ⟨rfl, ⟨rfl, trivial⟩⟩⟩⟩ ?_
      exact wt161_b145   _ _ _ _ _ h
def w161_b91 (Q : Int32 → ri_H → Prop) (x2 : Int32) (x3 : Int32) (s0 : Int32) (S : ri_H) : Prop := (((S.1 50 25) = 0 → w120 (102 : Int32) (101 : Int32) (101 : Int32) (108 : Int32) (115 : Int32) (0 : Int32) (0 : Int32) (0 : Int32) S (fun (r11 : Int32) (S10 : ri_H) => w160 r11 S10 (fun (r13 : Int32) (S12 : ri_H) => w161_b125   Q x2 x3 s0 r13 S12))) ∧ (¬ (S.1 50 25) = 0 → w161_b125   Q x2 x3 s0 (0 : Int32) S))
set_option maxRecDepth 10000 in
set_option maxHeartbeats 1000000 in
theorem wt161_b91 {E : ri_E} {Q : Int32 → ri_H → Prop} (x2 : Int32) (x3 : Int32) (s0 : Int32) (S : ri_H) (h : w161_b91   Q x2 x3 s0 S) : ri_A E 58 (161, 91, [some (.ref 50), none, some (.int x2), some (.int x3), none, none], [.int s0]) S (Qi Q) := by
  unfold w161_b91 at h
  refine A_br ((S.1 50 25) = 0) (r1 := ((161, 104, [some (.ref 50), none, some (.int x2), some (.int x3), some (.int s0), none], []), S)) (r2 := ((161, 100, [some (.ref 50), none, some (.int x2), some (.int x3), some (.int s0), none], []), S)) 4 rfl (fun c => ?_) (fun c => ?_)
  · have h := h.1 c
    refine A_call (j := 120) (As := [.ref 50, .int (102 : Int32), .int (101 : Int32), .int (101 : Int32), .int (108 : Int32), .int (115 : Int32), .int (0 : Int32), .int (0 : Int32), .int (0 : Int32)]) (fr' := (161, 122, [some (.ref 50), none, some (.int x2), some (.int x3), some (.int s0), none], [.ref 50])) (S' := S) 11 rfl (e := 2) (by omega) (A_imp (wt120 (102 : Int32) (101 : Int32) (101 : Int32) (108 : Int32) (115 : Int32) (0 : Int32) (0 : Int32) (0 : Int32) h) (fun v S10 hq => ?_))
    obtain ⟨r11, hv, h⟩ := hq
    subst hv
    refine A_call (j := 160) (As := [.ref 50, .int r11]) (fr' := (161, 125, [some (.ref 50), none, some (.int x2), some (.int x3), some (.int s0), none], [])) (S' := S10) 1 rfl (e := 57) (by omega) (A_imp (wt160 r11 h) (fun v S12 hq => ?_))
    obtain ⟨r13, hv, h⟩ := hq
    subst hv
    refine ri_A.less (m := 161) (pc := 125) (L := [some (.ref 50), none, some (.int x2), some (.int x3), some (.int s0), none]) (L' := [some (.ref 50), none, some (.int x2), some (.int x3), some (.int s0), none]) (st := [.int r13]) ⟨rfl, ⟨rfl, ⟨rfl, ⟨rfl, trivial⟩⟩⟩⟩ ?_
    exact wt161_b125   _ _ _ _ _ h
  · have h := h.2 c
    refine A_nx 2 (fr' := (161, 125, [some (.ref 50), none, some (.int x2), some (.int x3), some (.int s0), none], [.int (0 : Int32)])) (S' := S) rfl ?_
    refine ri_A.less (m := 161) (pc := 125) (L := [some (.ref 50), none, some (.int x2), some (.int x3), some (.int s0), none]) (L' := [some (.ref 50), none, some (.int x2), some (.int x3), some (.int s0), none]) (st := [.int (0 : Int32)]) ⟨rfl, ⟨rfl, ⟨rfl, ⟨rfl, trivial⟩⟩⟩⟩ ?_
    exact wt161_b125   _ _ _ _ _ h
def w161 (a : Int32) (b : Int32) (S : ri_H) (Q : Int32 → ri_H → Prop) : Prop := (vp_in a 6 ∧ w117  (ri_wi (ri_wi (ri_wi (ri_wi (ri_wi S 50 18 ((160 : Int32) * a)) 50 19 (S.1 52 (a).toNatClampNeg)) 50 20 (0 : Int32)) 50 24 (0 : Int32)) 50 25 (0 : Int32)) (fun (S1 : ri_H) => w120 (116 : Int32) (97 : Int32) (107 : Int32) (101 : Int32) (115 : Int32) (0 : Int32) (0 : Int32) (0 : Int32) S1 (fun (r3 : Int32) (S2 : ri_H) => w160 r3 S2 (fun (r5 : Int32) (S4 : ri_H) => (((S4.1 50 25) = 0 → w120 (112 : Int32) (117 : Int32) (116 : Int32) (115 : Int32) (0 : Int32) (0 : Int32) (0 : Int32) (0 : Int32) S4 (fun (r7 : Int32) (S6 : ri_H) => w160 r7 S6 (fun (r9 : Int32) (S8 : ri_H) => w161_b91   Q b r5 r9 S8))) ∧ (¬ (S4.1 50 25) = 0 → w161_b91   Q b r5 (0 : Int32) S4))))))
set_option maxRecDepth 10000 in
set_option maxHeartbeats 1000000 in
theorem wt161 {E : ri_E} (a : Int32) (b : Int32) {S : ri_H} {Q : Int32 → ri_H → Prop} (h : w161  a b S Q) : ri_A E 58 (ri_en 161 [.ref 50, .int a, .int b]) S (Qi Q) := by
  unfold w161 at h
  show ri_A E 58 (161, 0, [some (.ref 50), some (.int a), some (.int b), none, none, none], []) S (Qi Q)
  refine A_ix a 6 (r1 := ((161, 16, [some (.ref 50), some (.int a), some (.int b), none, none, none], [.int (S.1 52 (a).toNatClampNeg), .ref 50]), (ri_wi S 50 18 ((160 : Int32) * a)))) 10 rfl h.1 ?_
  have h := h.2
  refine A_call (j := 117) (As := [.ref 50]) (fr' := (161, 38, [some (.ref 50), some (.int a), some (.int b), none, none, none], [])) (S' := (ri_wi (ri_wi (ri_wi (ri_wi (ri_wi S 50 18 ((160 : Int32) * a)) 50 19 (S.1 52 (a).toNatClampNeg)) 50 20 (0 : Int32)) 50 24 (0 : Int32)) 50 25 (0 : Int32))) 12 rfl (e := 1) (by omega) (A_imp (wt117  h) (fun v S1 hq => ?_))
  obtain ⟨hv, h⟩ := hq
  subst hv
  refine A_call (j := 120) (As := [.ref 50, .int (116 : Int32), .int (97 : Int32), .int (107 : Int32), .int (101 : Int32), .int (115 : Int32), .int (0 : Int32), .int (0 : Int32), .int (0 : Int32)]) (fr' := (161, 56, [some (.ref 50), some (.int a), some (.int b), none, none, none], [.ref 50])) (S' := S1) 11 rfl (e := 2) (by omega) (A_imp (wt120 (116 : Int32) (97 : Int32) (107 : Int32) (101 : Int32) (115 : Int32) (0 : Int32) (0 : Int32) (0 : Int32) h) (fun v S2 hq => ?_))
  obtain ⟨r3, hv, h⟩ := hq
  subst hv
  refine A_call (j := 160) (As := [.ref 50, .int r3]) (fr' := (161, 59, [some (.ref 50), some (.int a), some (.int b), none, none, none], [])) (S' := S2) 1 rfl (e := 57) (by omega) (A_imp (wt160 r3 h) (fun v S4 hq => ?_))
  obtain ⟨r5, hv, h⟩ := hq
  subst hv
  refine A_br ((S4.1 50 25) = 0) (r1 := ((161, 71, [some (.ref 50), some (.int a), some (.int b), some (.int r5), none, none], []), S4)) (r2 := ((161, 67, [some (.ref 50), some (.int a), some (.int b), some (.int r5), none, none], []), S4)) 4 rfl (fun c => ?_) (fun c => ?_)
  · have h := h.1 c
    refine A_call (j := 120) (As := [.ref 50, .int (112 : Int32), .int (117 : Int32), .int (116 : Int32), .int (115 : Int32), .int (0 : Int32), .int (0 : Int32), .int (0 : Int32), .int (0 : Int32)]) (fr' := (161, 88, [some (.ref 50), some (.int a), some (.int b), some (.int r5), none, none], [.ref 50])) (S' := S4) 11 rfl (e := 2) (by omega) (A_imp (wt120 (112 : Int32) (117 : Int32) (116 : Int32) (115 : Int32) (0 : Int32) (0 : Int32) (0 : Int32) (0 : Int32) h) (fun v S6 hq => ?_))
    obtain ⟨r7, hv, h⟩ := hq
    subst hv
    refine A_call (j := 160) (As := [.ref 50, .int r7]) (fr' := (161, 91, [some (.ref 50), some (.int a), some (.int b), some (.int r5), none, none], [])) (S' := S6) 1 rfl (e := 57) (by omega) (A_imp (wt160 r7 h) (fun v S8 hq => ?_))
    obtain ⟨r9, hv, h⟩ := hq
    subst hv
    refine ri_A.less (m := 161) (pc := 91) (L := [some (.ref 50), some (.int a), some (.int b), some (.int r5), none, none]) (L' := [some (.ref 50), none, some (.int b), some (.int r5), none, none]) (st := [.int r9]) ⟨rfl, ⟨rfl, ⟨rfl, trivial⟩⟩⟩ ?_
    exact wt161_b91   _ _ _ _ h
  · have h := h.2 c
    refine A_nx 2 (fr' := (161, 91, [some (.ref 50), some (.int a), some (.int b), some (.int r5), none, none], [.int (0 : Int32)])) (S' := S4) rfl ?_
    refine ri_A.less (m := 161) (pc := 91) (L := [some (.ref 50), some (.int a), some (.int b), some (.int r5), none, none]) (L' := [some (.ref 50), none, some (.int b), some (.int r5), none, none]) (st := [.int (0 : Int32)]) ⟨rfl, ⟨rfl, ⟨rfl, trivial⟩⟩⟩ ?_
    exact wt161_b91   _ _ _ _ h
/-! X5_says, depth 59 -/
def w164_b120 (Q : Int32 → ri_H → Prop) (s0 : Int32) (s1 : Int32) (S : ri_H) : Prop := w103 s1 s0 (99 : Int32) S (fun (r6 : Int32) (S5 : ri_H) => Q r6 S5)
set_option maxRecDepth 10000 in
set_option maxHeartbeats 1000000 in
theorem wt164_b120 {E : ri_E} {Q : Int32 → ri_H → Prop} (s0 : Int32) (s1 : Int32) (S : ri_H) (h : w164_b120   Q s0 s1 S) : ri_A E 59 (164, 120, [none, none, none, none, none], [.int s0, .int s1]) S (Qi Q) := by
  unfold w164_b120 at h
  refine A_call (j := 103) (As := [.int s1, .int s0, .int (99 : Int32)]) (fr' := (164, 125, [none, none, none, none, none], [])) (S' := S) 2 rfl (e := 0) (by omega) (A_imp (wt103 s1 s0 (99 : Int32) h) (fun v S5 hq => ?_))
  obtain ⟨r6, hv, h⟩ := hq
  subst hv
  exact A_ret 1 (m := 164) (v := some (.int r6)) (S' := S5) rfl rfl ⟨_, rfl, h⟩
def w164_b49 (Q : Int32 → ri_H → Prop) (x1 : Int32) (x2 : Int32) (s0 : Int32) (S : ri_H) : Prop := (vp_in ((5 : Int32) * x2) 25 ∧ (vp_in (((5 : Int32) * x2) + (2 : Int32)) 25 ∧ (vp_in (((5 : Int32) * x2) + (3 : Int32)) 25 ∧ w161 (S.1 50 4) x1 (ri_wi (ri_wi (ri_wi (ri_wi (ri_wi S 50 13 s0) 50 14 (S.1 56 (((5 : Int32) * x2)).toNatClampNeg)) 50 15 (S.1 50 7)) 50 16 (S.1 56 ((((5 : Int32) * x2) + (2 : Int32))).toNatClampNeg)) 50 17 (S.1 56 ((((5 : Int32) * x2) + (3 : Int32))).toNatClampNeg)) (fun (r4 : Int32) (S3 : ri_H) => ((¬ x1 = (1 : Int32) → w164_b120   Q (-99 : Int32) r4 S3) ∧ (¬ (¬ x1 = (1 : Int32)) → w164_b120   Q (0 : Int32) r4 S3))))))
set_option maxRecDepth 10000 in
set_option maxHeartbeats 1000000 in
theorem wt164_b49 {E : ri_E} {Q : Int32 → ri_H → Prop} (x1 : Int32) (x2 : Int32) (s0 : Int32) (S : ri_H) (h : w164_b49   Q x1 x2 s0 S) : ri_A E 59 (164, 49, [some (.ref 50), some (.int x1), some (.int x2), none, none], [.int s0, .ref 50]) S (Qi Q) := by
  unfold w164_b49 at h
  refine A_ix ((5 : Int32) * x2) 25 (r1 := ((164, 61, [some (.ref 50), some (.int x1), some (.int x2), none, none], [.int (S.1 56 (((5 : Int32) * x2)).toNatClampNeg), .ref 50]), (ri_wi S 50 13 s0))) 8 rfl h.1 ?_
  have h := h.2
  refine A_ix (((5 : Int32) * x2) + (2 : Int32)) 25 (r1 := ((164, 83, [some (.ref 50), some (.int x1), some (.int x2), none, none], [.int (S.1 56 ((((5 : Int32) * x2) + (2 : Int32))).toNatClampNeg), .ref 50]), (ri_wi (ri_wi (ri_wi S 50 13 s0) 50 14 (S.1 56 (((5 : Int32) * x2)).toNatClampNeg)) 50 15 (S.1 50 7)))) 14 rfl h.1 ?_
  have h := h.2
  refine A_ix (((5 : Int32) * x2) + (3 : Int32)) 25 (r1 := ((164, 97, [some (.ref 50), some (.int x1), some (.int x2), none, none], [.int (S.1 56 ((((5 : Int32) * x2) + (3 : Int32))).toNatClampNeg), .ref 50]), (ri_wi (ri_wi (ri_wi (ri_wi S 50 13 s0) 50 14 (S.1 56 (((5 : Int32) * x2)).toNatClampNeg)) 50 15 (S.1 50 7)) 50 16 (S.1 56 ((((5 : Int32) * x2) + (2 : Int32))).toNatClampNeg)))) 10 rfl h.1 ?_
  have h := h.2
  refine A_call (j := 161) (As := [.ref 50, .int (S.1 50 4), .int x1]) (fr' := (164, 109, [some (.ref 50), some (.int x1), some (.int x2), none, none], [])) (S' := (ri_wi (ri_wi (ri_wi (ri_wi (ri_wi S 50 13 s0) 50 14 (S.1 56 (((5 : Int32) * x2)).toNatClampNeg)) 50 15 (S.1 50 7)) 50 16 (S.1 56 ((((5 : Int32) * x2) + (2 : Int32))).toNatClampNeg)) 50 17 (S.1 56 ((((5 : Int32) * x2) + (3 : Int32))).toNatClampNeg))) 6 rfl (e := 58) (by omega) (A_imp (wt161 (S.1 50 4) x1 h) (fun v S3 hq => ?_))
  obtain ⟨r4, hv, h⟩ := hq
  subst hv
  refine A_br (¬ x1 = (1 : Int32)) (r1 := ((164, 118, [some (.ref 50), some (.int x1), some (.int x2), none, none], [.int r4]), S3)) (r2 := ((164, 114, [some (.ref 50), some (.int x1), some (.int x2), none, none], [.int r4]), S3)) 3 rfl (fun c => ?_) (fun c => ?_)
  · have h := h.1 c
    refine A_nx 1 (fr' := (164, 120, [some (.ref 50), some (.int x1), some (.int x2), none, none], [.int (-99 : Int32), .int r4])) (S' := S3) rfl ?_
    refine ri_A.less (m := 164) (pc := 120) (L := [some (.ref 50), some (.int x1), some (.int x2), none, none]) (L' := [none, none, none, none, none]) (st := [.int (-99 : Int32), .int r4]) trivial ?_
    exact wt164_b120   _ _ _ h
  · have h := h.2 c
    refine A_nx 2 (fr' := (164, 120, [some (.ref 50), some (.int x1), some (.int x2), none, none], [.int (0 : Int32), .int r4])) (S' := S3) rfl ?_
    refine ri_A.less (m := 164) (pc := 120) (L := [some (.ref 50), some (.int x1), some (.int x2), none, none]) (L' := [none, none, none, none, none]) (st := [.int (0 : Int32), .int r4]) trivial ?_
    exact wt164_b120   _ _ _ h
def w164 (a : Int32) (b : Int32) (g : Int32) (S : ri_H) (Q : Int32 → ri_H → Prop) : Prop := w114 b S (fun (r2 : Int32) (S1 : ri_H) => ((¬ g = (-1 : Int32) → (vp_in g 24 ∧ w164_b49   Q a b (S1.1 55 (g).toNatClampNeg) (ri_wi S1 50 12 r2))) ∧ (¬ (¬ g = (-1 : Int32)) → (vp_in ((2 : Int32) * r2) 24 ∧ (vp_in (((2 : Int32) * r2) + (1 : Int32)) 24 ∧ w164_b49   Q a b ((S1.1 55 (((2 : Int32) * r2)).toNatClampNeg) + (S1.1 55 ((((2 : Int32) * r2) + (1 : Int32))).toNatClampNeg)) (ri_wi S1 50 12 r2))))))
set_option maxRecDepth 10000 in
set_option maxHeartbeats 1000000 in
theorem wt164 {E : ri_E} (a : Int32) (b : Int32) (g : Int32) {S : ri_H} {Q : Int32 → ri_H → Prop} (h : w164  a b g S Q) : ri_A E 59 (ri_en 164 [.ref 50, .int a, .int b, .int g]) S (Qi Q) := by
  unfold w164 at h
  show ri_A E 59 (164, 0, [some (.ref 50), some (.int a), some (.int b), some (.int g), none], []) S (Qi Q)
  refine A_call (j := 114) (As := [.ref 50, .int b]) (fr' := (164, 5, [some (.ref 50), some (.int a), some (.int b), some (.int g), none], [])) (S' := S) 3 rfl (e := 0) (by omega) (A_imp (wt114 b h) (fun v S1 hq => ?_))
  obtain ⟨r2, hv, h⟩ := hq
  subst hv
  refine A_br (¬ g = (-1 : Int32)) (r1 := ((164, 43, [some (.ref 50), some (.int a), some (.int b), some (.int g), some (.int r2)], [.ref 50]), (ri_wi S1 50 12 r2))) (r2 := ((164, 19, [some (.ref 50), some (.int a), some (.int b), some (.int g), some (.int r2)], [.ref 50]), (ri_wi S1 50 12 r2))) 8 rfl (fun c => ?_) (fun c => ?_)
  · have h := h.1 c
    refine A_ix g 24 (r1 := ((164, 49, [some (.ref 50), some (.int a), some (.int b), some (.int g), some (.int r2)], [.int (S1.1 55 (g).toNatClampNeg), .ref 50]), (ri_wi S1 50 12 r2))) 4 rfl h.1 ?_
    have h := h.2
    refine ri_A.less (m := 164) (pc := 49) (L := [some (.ref 50), some (.int a), some (.int b), some (.int g), some (.int r2)]) (L' := [some (.ref 50), some (.int a), some (.int b), none, none]) (st := [.int (S1.1 55 (g).toNatClampNeg), .ref 50]) ⟨rfl, ⟨rfl, ⟨rfl, trivial⟩⟩⟩ ?_
    exact wt164_b49   _ _ _ _ h
  · have h := h.2 c
    refine A_ix ((2 : Int32) * r2) 24 (r1 := ((164, 28, [some (.ref 50), some (.int a), some (.int b), some (.int g), some (.int r2)], [.int (S1.1 55 (((2 : Int32) * r2)).toNatClampNeg), .ref 50]), (ri_wi S1 50 12 r2))) 6 rfl h.1 ?_
    have h := h.2
    refine A_ix (((2 : Int32) * r2) + (1 : Int32)) 24 (r1 := ((164, 39, [some (.ref 50), some (.int a), some (.int b), some (.int g), some (.int r2)], [.int (S1.1 55 ((((2 : Int32) * r2) + (1 : Int32))).toNatClampNeg), .int (S1.1 55 (((2 : Int32) * r2)).toNatClampNeg), .ref 50]), (ri_wi S1 50 12 r2))) 8 rfl h.1 ?_
    have h := h.2
    refine A_nx 2 (fr' := (164, 49, [some (.ref 50), some (.int a), some (.int b), some (.int g), some (.int r2)], [.int ((S1.1 55 (((2 : Int32) * r2)).toNatClampNeg) + (S1.1 55 ((((2 : Int32) * r2) + (1 : Int32))).toNatClampNeg)), .ref 50])) (S' := (ri_wi S1 50 12 r2)) rfl ?_
    refine ri_A.less (m := 164) (pc := 49) (L := [some (.ref 50), some (.int a), some (.int b), some (.int g), some (.int r2)]) (L' := [some (.ref 50), some (.int a), some (.int b), none, none]) (st := [.int ((S1.1 55 (((2 : Int32) * r2)).toNatClampNeg) + (S1.1 55 ((((2 : Int32) * r2) + (1 : Int32))).toNatClampNeg)), .ref 50]) ⟨rfl, ⟨rfl, ⟨rfl, trivial⟩⟩⟩ ?_
    exact wt164_b49   _ _ _ _ h
/-! X5_takesOf, depth 60 -/
def w165_b83 (Q : Int32 → ri_H → Prop) (s0 : Int32) (S : ri_H) : Prop := ((s0 = 0 → Q (1 : Int32) S) ∧ (¬ (s0 = 0) → Q (0 : Int32) S))
set_option maxRecDepth 10000 in
set_option maxHeartbeats 1000000 in
theorem wt165_b83 {E : ri_E} {Q : Int32 → ri_H → Prop} (s0 : Int32) (S : ri_H) (h : w165_b83   Q s0 S) : ri_A E 60 (165, 83, [none, none, none, none, none, none], [.int s0]) S (Qi Q) := by
  unfold w165_b83 at h
  refine A_br (s0 = 0) (r1 := ((165, 94, [none, none, none, none, some (.int s0), none], []), S)) (r2 := ((165, 90, [none, none, none, none, some (.int s0), none], []), S)) 3 rfl (fun c => ?_) (fun c => ?_)
  · have h := h.1 c
    exact A_ret 2 (m := 165) (v := some (.int (1 : Int32))) (S' := S) rfl rfl ⟨_, rfl, h⟩
  · have h := h.2 c
    exact A_ret 3 (m := 165) (v := some (.int (0 : Int32))) (S' := S) rfl rfl ⟨_, rfl, h⟩
def w165_b78 (Q : Int32 → ri_H → Prop)  (S : ri_H) : Prop := w165_b83   Q (1 : Int32) S
set_option maxRecDepth 10000 in
set_option maxHeartbeats 1000000 in
theorem wt165_b78 {E : ri_E} {Q : Int32 → ri_H → Prop}  (S : ri_H) (h : w165_b78   Q  S) : ri_A E 60 (165, 78, [none, none, none, none, none, none], []) S (Qi Q) := by
  unfold w165_b78 at h
  refine A_nx 2 (fr' := (165, 83, [none, none, none, none, none, none], [.int (1 : Int32)])) (S' := S) rfl ?_
  refine ri_A.less (m := 165) (pc := 83) (L := [none, none, none, none, none, none]) (L' := [none, none, none, none, none, none]) (st := [.int (1 : Int32)]) trivial ?_
  exact wt165_b83   _ _ h
def w165_b57 (Q : Int32 → ri_H → Prop) (x3 : Int32) (S : ri_H) : Prop := (vp_in ((2 : Int32) * x3) 24 ∧ (vp_in (((2 : Int32) * x3) + (1 : Int32)) 24 ∧ (((S.1 55 ((((2 : Int32) * x3) + (1 : Int32))).toNatClampNeg) < (S.1 55 (((2 : Int32) * x3)).toNatClampNeg) → w165_b83   Q (0 : Int32) S) ∧ (¬ (S.1 55 ((((2 : Int32) * x3) + (1 : Int32))).toNatClampNeg) < (S.1 55 (((2 : Int32) * x3)).toNatClampNeg) → w165_b78   Q  S))))
set_option maxRecDepth 10000 in
set_option maxHeartbeats 1000000 in
theorem wt165_b57 {E : ri_E} {Q : Int32 → ri_H → Prop} (x3 : Int32) (S : ri_H) (h : w165_b57   Q x3 S) : ri_A E 60 (165, 57, [some (.ref 50), none, none, some (.int x3), none, none], []) S (Qi Q) := by
  unfold w165_b57 at h
  refine A_ix ((2 : Int32) * x3) 24 (r1 := ((165, 65, [some (.ref 50), none, none, some (.int x3), none, none], [.int (S.1 55 (((2 : Int32) * x3)).toNatClampNeg)]), S)) 6 rfl h.1 ?_
  have h := h.2
  refine A_ix (((2 : Int32) * x3) + (1 : Int32)) 24 (r1 := ((165, 75, [some (.ref 50), none, none, some (.int x3), none, none], [.int (S.1 55 ((((2 : Int32) * x3) + (1 : Int32))).toNatClampNeg), .int (S.1 55 (((2 : Int32) * x3)).toNatClampNeg)]), S)) 8 rfl h.1 ?_
  have h := h.2
  refine A_br ((S.1 55 ((((2 : Int32) * x3) + (1 : Int32))).toNatClampNeg) < (S.1 55 (((2 : Int32) * x3)).toNatClampNeg)) (r1 := ((165, 82, [some (.ref 50), none, none, some (.int x3), none, none], []), S)) (r2 := ((165, 78, [some (.ref 50), none, none, some (.int x3), none, none], []), S)) 1 rfl (fun c => ?_) (fun c => ?_)
  · have h := h.1 c
    refine A_nx 1 (fr' := (165, 83, [some (.ref 50), none, none, some (.int x3), none, none], [.int (0 : Int32)])) (S' := S) rfl ?_
    refine ri_A.less (m := 165) (pc := 83) (L := [some (.ref 50), none, none, some (.int x3), none, none]) (L' := [none, none, none, none, none, none]) (st := [.int (0 : Int32)]) trivial ?_
    exact wt165_b83   _ _ h
  · have h := h.2 c
    refine ri_A.less (m := 165) (pc := 78) (L := [some (.ref 50), none, none, some (.int x3), none, none]) (L' := [none, none, none, none, none, none]) (st := []) trivial ?_
    exact wt165_b78   _ h
def w165_b43 (Q : Int32 → ri_H → Prop) (x2 : Int32) (x3 : Int32) (S : ri_H) : Prop := ((¬ x2 = (4 : Int32) → w165_b57   Q x3 S) ∧ (¬ (¬ x2 = (4 : Int32)) → ((((S.1 50 7) - (S.1 50 7) / (3 : Int32) * (3 : Int32)) = 0 → w165_b78   Q  S) ∧ (¬ ((S.1 50 7) - (S.1 50 7) / (3 : Int32) * (3 : Int32)) = 0 → w165_b57   Q x3 S))))
set_option maxRecDepth 10000 in
set_option maxHeartbeats 1000000 in
theorem wt165_b43 {E : ri_E} {Q : Int32 → ri_H → Prop} (x2 : Int32) (x3 : Int32) (S : ri_H) (h : w165_b43   Q x2 x3 S) : ri_A E 60 (165, 43, [some (.ref 50), none, some (.int x2), some (.int x3), none, none], []) S (Qi Q) := by
  unfold w165_b43 at h
  refine A_br (¬ x2 = (4 : Int32)) (r1 := ((165, 57, [some (.ref 50), none, some (.int x2), some (.int x3), none, none], []), S)) (r2 := ((165, 48, [some (.ref 50), none, some (.int x2), some (.int x3), none, none], []), S)) 3 rfl (fun c => ?_) (fun c => ?_)
  · have h := h.1 c
    refine ri_A.less (m := 165) (pc := 57) (L := [some (.ref 50), none, some (.int x2), some (.int x3), none, none]) (L' := [some (.ref 50), none, none, some (.int x3), none, none]) (st := []) ⟨rfl, ⟨rfl, trivial⟩⟩ ?_
    exact wt165_b57   _ _ h
  · have h := h.2 c
    refine A_gd (¬ (3 : Int32) = 0) (r1 := ((165, 54, [some (.ref 50), none, some (.int x2), some (.int x3), none, none], [.int ((S.1 50 7) - (S.1 50 7) / (3 : Int32) * (3 : Int32))]), S)) 4 rfl (by decide) ?_
    refine A_br (((S.1 50 7) - (S.1 50 7) / (3 : Int32) * (3 : Int32)) = 0) (r1 := ((165, 78, [some (.ref 50), none, some (.int x2), some (.int x3), none, none], []), S)) (r2 := ((165, 57, [some (.ref 50), none, some (.int x2), some (.int x3), none, none], []), S)) 1 rfl (fun c => ?_) (fun c => ?_)
    · have h := h.1 c
      refine ri_A.less (m := 165) (pc := 78) (L := [some (.ref 50), none, some (.int x2), some (.int x3), none, none]) (L' := [none, none, none, none, none, none]) (st := []) trivial ?_
      exact wt165_b78   _ h
    · have h := h.2 c
      refine ri_A.less (m := 165) (pc := 57) (L := [some (.ref 50), none, some (.int x2), some (.int x3), none, none]) (L' := [some (.ref 50), none, none, some (.int x3), none, none]) (st := []) ⟨rfl, ⟨rfl, trivial⟩⟩ ?_
      exact wt165_b57   _ _ h
def w165_b133 (Q : Int32 → ri_H → Prop) (x1 : Int32) (x2 : Int32) (x4 : Int32) (s0 : Int32) (S : ri_H) : Prop := ((¬ x2 = 0 → ((¬ x2 = (3 : Int32) → Q s0 S) ∧ (¬ (¬ x2 = (3 : Int32)) → (vp_in (((5 : Int32) * x1) + (2 : Int32)) 25 ∧ ((0 ≤ (S.1 56 ((((5 : Int32) * x1) + (2 : Int32))).toNatClampNeg) → Q s0 S) ∧ (¬ (0 ≤ (S.1 56 ((((5 : Int32) * x1) + (2 : Int32))).toNatClampNeg)) → Q ((1 : Int32) - s0) S)))))) ∧ (¬ (¬ x2 = 0) → Q x4 S))
set_option maxRecDepth 10000 in
set_option maxHeartbeats 1000000 in
theorem wt165_b133 {E : ri_E} {Q : Int32 → ri_H → Prop} (x1 : Int32) (x2 : Int32) (x4 : Int32) (s0 : Int32) (S : ri_H) (h : w165_b133   Q x1 x2 x4 s0 S) : ri_A E 60 (165, 133, [some (.ref 50), some (.int x1), some (.int x2), none, some (.int x4), none], [.int s0]) S (Qi Q) := by
  unfold w165_b133 at h
  refine A_br (¬ x2 = 0) (r1 := ((165, 144, [some (.ref 50), some (.int x1), some (.int x2), none, some (.int x4), some (.int s0)], []), S)) (r2 := ((165, 139, [some (.ref 50), some (.int x1), some (.int x2), none, some (.int x4), some (.int s0)], []), S)) 3 rfl (fun c => ?_) (fun c => ?_)
  · have h := h.1 c
    refine A_br (¬ x2 = (3 : Int32)) (r1 := ((165, 169, [some (.ref 50), some (.int x1), some (.int x2), none, some (.int x4), some (.int s0)], []), S)) (r2 := ((165, 149, [some (.ref 50), some (.int x1), some (.int x2), none, some (.int x4), some (.int s0)], []), S)) 3 rfl (fun c => ?_) (fun c => ?_)
    · have h := h.1 c
      exact A_ret 2 (m := 165) (v := some (.int s0)) (S' := S) rfl rfl ⟨_, rfl, h⟩
    · have h := h.2 c
      refine A_ix (((5 : Int32) * x1) + (2 : Int32)) 25 (r1 := ((165, 159, [some (.ref 50), some (.int x1), some (.int x2), none, some (.int x4), some (.int s0)], [.int (S.1 56 ((((5 : Int32) * x1) + (2 : Int32))).toNatClampNeg)]), S)) 8 rfl h.1 ?_
      have h := h.2
      refine A_br (0 ≤ (S.1 56 ((((5 : Int32) * x1) + (2 : Int32))).toNatClampNeg)) (r1 := ((165, 169, [some (.ref 50), some (.int x1), some (.int x2), none, some (.int x4), some (.int s0)], []), S)) (r2 := ((165, 162, [some (.ref 50), some (.int x1), some (.int x2), none, some (.int x4), some (.int s0)], []), S)) 1 rfl (fun c => ?_) (fun c => ?_)
      · have h := h.1 c
        exact A_ret 2 (m := 165) (v := some (.int s0)) (S' := S) rfl rfl ⟨_, rfl, h⟩
      · have h := h.2 c
        exact A_ret 5 (m := 165) (v := some (.int ((1 : Int32) - s0))) (S' := S) rfl rfl ⟨_, rfl, h⟩
  · have h := h.2 c
    exact A_ret 3 (m := 165) (v := some (.int x4)) (S' := S) rfl rfl ⟨_, rfl, h⟩
def w165_b113 (Q : Int32 → ri_H → Prop) (x1 : Int32) (x2 : Int32) (x3 : Int32) (s0 : Int32) (S : ri_H) : Prop := (vp_in ((5 : Int32) * x1) 25 ∧ ((¬ x3 = (S.1 56 (((5 : Int32) * x1)).toNatClampNeg) → w165_b133   Q x1 x2 s0 s0 S) ∧ (¬ (¬ x3 = (S.1 56 (((5 : Int32) * x1)).toNatClampNeg)) → w165_b133   Q x1 x2 s0 (1 : Int32) S)))
set_option maxRecDepth 10000 in
set_option maxHeartbeats 1000000 in
theorem wt165_b113 {E : ri_E} {Q : Int32 → ri_H → Prop} (x1 : Int32) (x2 : Int32) (x3 : Int32) (s0 : Int32) (S : ri_H) (h : w165_b113   Q x1 x2 x3 s0 S) : ri_A E 60 (165, 113, [some (.ref 50), some (.int x1), some (.int x2), some (.int x3), none, none], [.int s0]) S (Qi Q) := by
  unfold w165_b113 at h
  refine A_ix ((5 : Int32) * x1) 25 (r1 := ((165, 124, [some (.ref 50), some (.int x1), some (.int x2), some (.int x3), some (.int s0), none], [.int (S.1 56 (((5 : Int32) * x1)).toNatClampNeg), .int x3]), S)) 8 rfl h.1 ?_
  have h := h.2
  refine A_br (¬ x3 = (S.1 56 (((5 : Int32) * x1)).toNatClampNeg)) (r1 := ((165, 131, [some (.ref 50), some (.int x1), some (.int x2), some (.int x3), some (.int s0), none], []), S)) (r2 := ((165, 127, [some (.ref 50), some (.int x1), some (.int x2), some (.int x3), some (.int s0), none], []), S)) 1 rfl (fun c => ?_) (fun c => ?_)
  · have h := h.1 c
    refine A_nx 1 (fr' := (165, 133, [some (.ref 50), some (.int x1), some (.int x2), some (.int x3), some (.int s0), none], [.int s0])) (S' := S) rfl ?_
    refine ri_A.less (m := 165) (pc := 133) (L := [some (.ref 50), some (.int x1), some (.int x2), some (.int x3), some (.int s0), none]) (L' := [some (.ref 50), some (.int x1), some (.int x2), none, some (.int s0), none]) (st := [.int s0]) ⟨rfl, ⟨rfl, ⟨rfl, ⟨rfl, trivial⟩⟩⟩⟩ ?_
    exact wt165_b133   _ _ _ _ _ h
  · have h := h.2 c
    refine A_nx 2 (fr' := (165, 133, [some (.ref 50), some (.int x1), some (.int x2), some (.int x3), some (.int s0), none], [.int (1 : Int32)])) (S' := S) rfl ?_
    refine ri_A.less (m := 165) (pc := 133) (L := [some (.ref 50), some (.int x1), some (.int x2), some (.int x3), some (.int s0), none]) (L' := [some (.ref 50), some (.int x1), some (.int x2), none, some (.int s0), none]) (st := [.int (1 : Int32)]) ⟨rfl, ⟨rfl, ⟨rfl, ⟨rfl, trivial⟩⟩⟩⟩ ?_
    exact wt165_b133   _ _ _ _ _ h
def w165 (a : Int32) (S : ri_H) (Q : Int32 → ri_H → Prop) : Prop := (vp_in (((5 : Int32) * a) + (4 : Int32)) 25 ∧ w114 a S (fun (r2 : Int32) (S1 : ri_H) => ((¬ (S.1 56 ((((5 : Int32) * a) + (4 : Int32))).toNatClampNeg) = (5 : Int32) → (((S.1 56 ((((5 : Int32) * a) + (4 : Int32))).toNatClampNeg) = (2 : Int32) → w165_b43   Q (S.1 56 ((((5 : Int32) * a) + (4 : Int32))).toNatClampNeg) r2 S1) ∧ (¬ (S.1 56 ((((5 : Int32) * a) + (4 : Int32))).toNatClampNeg) = (2 : Int32) → ((¬ (S.1 56 ((((5 : Int32) * a) + (4 : Int32))).toNatClampNeg) = (4 : Int32) → w164 (0 : Int32) a (-1 : Int32) S1 (fun (r4 : Int32) (S3 : ri_H) => ((¬ (r4 - r4 / (2 : Int32) * (2 : Int32)) = 0 → w165_b113   Q a (S.1 56 ((((5 : Int32) * a) + (4 : Int32))).toNatClampNeg) r2 (1 : Int32) S3) ∧ (¬ (¬ (r4 - r4 / (2 : Int32) * (2 : Int32)) = 0) → w165_b113   Q a (S.1 56 ((((5 : Int32) * a) + (4 : Int32))).toNatClampNeg) r2 (0 : Int32) S3)))) ∧ (¬ (¬ (S.1 56 ((((5 : Int32) * a) + (4 : Int32))).toNatClampNeg) = (4 : Int32)) → w165_b43   Q (S.1 56 ((((5 : Int32) * a) + (4 : Int32))).toNatClampNeg) r2 S1))))) ∧ (¬ (¬ (S.1 56 ((((5 : Int32) * a) + (4 : Int32))).toNatClampNeg) = (5 : Int32)) → (vp_in ((5 : Int32) * a) 25 ∧ Q ((S1.1 56 (((5 : Int32) * a)).toNatClampNeg) - (S1.1 56 (((5 : Int32) * a)).toNatClampNeg) / (2 : Int32) * (2 : Int32)) S1)))))
set_option maxRecDepth 10000 in
set_option maxHeartbeats 1000000 in
theorem wt165 {E : ri_E} (a : Int32) {S : ri_H} {Q : Int32 → ri_H → Prop} (h : w165  a S Q) : ri_A E 60 (ri_en 165 [.ref 50, .int a]) S (Qi Q) := by
  unfold w165 at h
  show ri_A E 60 (165, 0, [some (.ref 50), some (.int a), none, none, none, none], []) S (Qi Q)
  refine A_ix (((5 : Int32) * a) + (4 : Int32)) 25 (r1 := ((165, 10, [some (.ref 50), some (.int a), none, none, none, none], [.int (S.1 56 ((((5 : Int32) * a) + (4 : Int32))).toNatClampNeg)]), S)) 8 rfl h.1 ?_
  have h := h.2
  refine A_call (j := 114) (As := [.ref 50, .int a]) (fr' := (165, 16, [some (.ref 50), some (.int a), some (.int (S.1 56 ((((5 : Int32) * a) + (4 : Int32))).toNatClampNeg)), none, none, none], [])) (S' := S) 4 rfl (e := 0) (by omega) (A_imp (wt114 a h) (fun v S1 hq => ?_))
  obtain ⟨r2, hv, h⟩ := hq
  subst hv
  refine A_br (¬ (S.1 56 ((((5 : Int32) * a) + (4 : Int32))).toNatClampNeg) = (5 : Int32)) (r1 := ((165, 33, [some (.ref 50), some (.int a), some (.int (S.1 56 ((((5 : Int32) * a) + (4 : Int32))).toNatClampNeg)), some (.int r2), none, none], []), S1)) (r2 := ((165, 22, [some (.ref 50), some (.int a), some (.int (S.1 56 ((((5 : Int32) * a) + (4 : Int32))).toNatClampNeg)), some (.int r2), none, none], []), S1)) 4 rfl (fun c => ?_) (fun c => ?_)
  · have h := h.1 c
    refine A_br ((S.1 56 ((((5 : Int32) * a) + (4 : Int32))).toNatClampNeg) = (2 : Int32)) (r1 := ((165, 43, [some (.ref 50), some (.int a), some (.int (S.1 56 ((((5 : Int32) * a) + (4 : Int32))).toNatClampNeg)), some (.int r2), none, none], []), S1)) (r2 := ((165, 38, [some (.ref 50), some (.int a), some (.int (S.1 56 ((((5 : Int32) * a) + (4 : Int32))).toNatClampNeg)), some (.int r2), none, none], []), S1)) 3 rfl (fun c => ?_) (fun c => ?_)
    · have h := h.1 c
      refine ri_A.less (m := 165) (pc := 43) (L := [some (.ref 50), some (.int a), some (.int (S.1 56 ((((5 : Int32) * a) + (4 : Int32))).toNatClampNeg)), some (.int r2), none, none]) (L' := [some (.ref 50), none, some (.int (S.1 56 ((((5 : Int32) * a) + (4 : Int32))).toNatClampNeg)), some (.int r2), none, none]) (st := []) ⟨rfl, ⟨rfl, ⟨rfl, trivial⟩⟩⟩ ?_
      exact wt165_b43   _ _ _ h
    · have h := h.2 c
      refine A_br (¬ (S.1 56 ((((5 : Int32) * a) + (4 : Int32))).toNatClampNeg) = (4 : Int32)) (r1 := ((165, 96, [some (.ref 50), some (.int a), some (.int (S.1 56 ((((5 : Int32) * a) + (4 : Int32))).toNatClampNeg)), some (.int r2), none, none], []), S1)) (r2 := ((165, 43, [some (.ref 50), some (.int a), some (.int (S.1 56 ((((5 : Int32) * a) + (4 : Int32))).toNatClampNeg)), some (.int r2), none, none], []), S1)) 3 rfl (fun c => ?_) (fun c => ?_)
      · have h := h.1 c
        refine A_call (j := 164) (As := [.ref 50, .int (0 : Int32), .int a, .int (-1 : Int32)]) (fr' := (165, 103, [some (.ref 50), some (.int a), some (.int (S.1 56 ((((5 : Int32) * a) + (4 : Int32))).toNatClampNeg)), some (.int r2), none, none], [])) (S' := S1) 5 rfl (e := 59) (by omega) (A_imp (wt164 (0 : Int32) a (-1 : Int32) h) (fun v S3 hq => ?_))
        obtain ⟨r4, hv, h⟩ := hq
        subst hv
        refine A_gd (¬ (2 : Int32) = 0) (r1 := ((165, 105, [some (.ref 50), some (.int a), some (.int (S.1 56 ((((5 : Int32) * a) + (4 : Int32))).toNatClampNeg)), some (.int r2), none, none], [.int (r4 - r4 / (2 : Int32) * (2 : Int32))]), S3)) 2 rfl (by decide) ?_
        refine A_br (¬ (r4 - r4 / (2 : Int32) * (2 : Int32)) = 0) (r1 := ((165, 112, [some (.ref 50), some (.int a), some (.int (S.1 56 ((((5 : Int32) * a) + (4 : Int32))).toNatClampNeg)), some (.int r2), none, none], []), S3)) (r2 := ((165, 108, [some (.ref 50), some (.int a), some (.int (S.1 56 ((((5 : Int32) * a) + (4 : Int32))).toNatClampNeg)), some (.int r2), none, none], []), S3)) 1 rfl (fun c => ?_) (fun c => ?_)
        · have h := h.1 c
          refine A_nx 1 (fr' := (165, 113, [some (.ref 50), some (.int a), some (.int (S.1 56 ((((5 : Int32) * a) + (4 : Int32))).toNatClampNeg)), some (.int r2), none, none], [.int (1 : Int32)])) (S' := S3) rfl ?_
          refine ri_A.less (m := 165) (pc := 113) (L := [some (.ref 50), some (.int a), some (.int (S.1 56 ((((5 : Int32) * a) + (4 : Int32))).toNatClampNeg)), some (.int r2), none, none]) (L' := [some (.ref 50), some (.int a), some (.int (S.1 56 ((((5 : Int32) * a) + (4 : Int32))).toNatClampNeg)), some (.int r2), none, none]) (st := [.int (1 : Int32)]) ⟨rfl, ⟨rfl, ⟨rfl, ⟨rfl, trivial⟩⟩⟩⟩ ?_
          exact wt165_b113   _ _ _ _ _ h
        · have h := h.2 c
          refine A_nx 2 (fr' := (165, 113, [some (.ref 50), some (.int a), some (.int (S.1 56 ((((5 : Int32) * a) + (4 : Int32))).toNatClampNeg)), some (.int r2), none, none], [.int (0 : Int32)])) (S' := S3) rfl ?_
          refine ri_A.less (m := 165) (pc := 113) (L := [some (.ref 50), some (.int a), some (.int (S.1 56 ((((5 : Int32) * a) + (4 : Int32))).toNatClampNeg)), some (.int r2), none, none]) (L' := [some (.ref 50), some (.int a), some (.int (S.1 56 ((((5 : Int32) * a) + (4 : Int32))).toNatClampNeg)), some (.int r2), none, none]) (st := [.int (0 : Int32)]) ⟨rfl, ⟨rfl, ⟨rfl, ⟨rfl, trivial⟩⟩⟩⟩ ?_
          exact wt165_b113   _ _ _ _ _ h
      · have h := h.2 c
        refine ri_A.less (m := 165) (pc := 43) (L := [some (.ref 50), some (.int a), some (.int (S.1 56 ((((5 : Int32) * a) + (4 : Int32))).toNatClampNeg)), some (.int r2), none, none]) (L' := [some (.ref 50), none, some (.int (S.1 56 ((((5 : Int32) * a) + (4 : Int32))).toNatClampNeg)), some (.int r2), none, none]) (st := []) ⟨rfl, ⟨rfl, ⟨rfl, trivial⟩⟩⟩ ?_
        exact wt165_b43   _ _ _ h
  · have h := h.2 c
    refine A_ix ((5 : Int32) * a) 25 (r1 := ((165, 30, [some (.ref 50), some (.int a), some (.int (S.1 56 ((((5 : Int32) * a) + (4 : Int32))).toNatClampNeg)), some (.int r2), none, none], [.int (S1.1 56 (((5 : Int32) * a)).toNatClampNeg)]), S1)) 6 rfl h.1 ?_
    have h := h.2
    refine A_gd (¬ (2 : Int32) = 0) (r1 := ((165, 32, [some (.ref 50), some (.int a), some (.int (S.1 56 ((((5 : Int32) * a) + (4 : Int32))).toNatClampNeg)), some (.int r2), none, none], [.int ((S1.1 56 (((5 : Int32) * a)).toNatClampNeg) - (S1.1 56 (((5 : Int32) * a)).toNatClampNeg) / (2 : Int32) * (2 : Int32))]), S1)) 2 rfl (by decide) ?_
    exact A_ret 1 (m := 165) (v := some (.int ((S1.1 56 (((5 : Int32) * a)).toNatClampNeg) - (S1.1 56 (((5 : Int32) * a)).toNatClampNeg) / (2 : Int32) * (2 : Int32)))) (S' := S1) rfl rfl ⟨_, rfl, h⟩
/-! X5_putsOf, depth 60 -/
def w166_b88 (Q : Int32 → ri_H → Prop) (s0 : Int32) (S : ri_H) : Prop := w103 s0 (0 : Int32) (99 : Int32) S (fun (r4 : Int32) (S3 : ri_H) => Q r4 S3)
set_option maxRecDepth 10000 in
set_option maxHeartbeats 1000000 in
theorem wt166_b88 {E : ri_E} {Q : Int32 → ri_H → Prop} (s0 : Int32) (S : ri_H) (h : w166_b88   Q s0 S) : ri_A E 60 (166, 88, [none, none, none, none, none, none], [.int s0]) S (Qi Q) := by
  unfold w166_b88 at h
  refine A_call (j := 103) (As := [.int s0, .int (0 : Int32), .int (99 : Int32)]) (fr' := (166, 94, [none, none, none, none, none, none], [])) (S' := S) 3 rfl (e := 0) (by omega) (A_imp (wt103 s0 (0 : Int32) (99 : Int32) h) (fun v S3 hq => ?_))
  obtain ⟨r4, hv, h⟩ := hq
  subst hv
  exact A_ret 1 (m := 166) (v := some (.int r4)) (S' := S3) rfl rfl ⟨_, rfl, h⟩
def w166 (a : Int32) (S : ri_H) (Q : Int32 → ri_H → Prop) : Prop := (vp_in (((5 : Int32) * a) + (4 : Int32)) 25 ∧ ((¬ (S.1 56 ((((5 : Int32) * a) + (4 : Int32))).toNatClampNeg) = (5 : Int32) → w164 (1 : Int32) a (-1 : Int32) S (fun (r2 : Int32) (S1 : ri_H) => ((¬ (S.1 56 ((((5 : Int32) * a) + (4 : Int32))).toNatClampNeg) = (1 : Int32) → ((¬ (S.1 56 ((((5 : Int32) * a) + (4 : Int32))).toNatClampNeg) = (2 : Int32) → ((¬ (S.1 56 ((((5 : Int32) * a) + (4 : Int32))).toNatClampNeg) = (3 : Int32) → ((¬ (S.1 56 ((((5 : Int32) * a) + (4 : Int32))).toNatClampNeg) = (4 : Int32) → w166_b88   Q r2 S1) ∧ (¬ (¬ (S.1 56 ((((5 : Int32) * a) + (4 : Int32))).toNatClampNeg) = (4 : Int32)) → w166_b88   Q ((r2 + (1 : Int32)) / (2 : Int32)) S1))) ∧ (¬ (¬ (S.1 56 ((((5 : Int32) * a) + (4 : Int32))).toNatClampNeg) = (3 : Int32)) → (vp_in ((5 : Int32) * a) 25 ∧ w166_b88   Q (((2 : Int32) * r2) + (S1.1 56 (((5 : Int32) * a)).toNatClampNeg)) S1)))) ∧ (¬ (¬ (S.1 56 ((((5 : Int32) * a) + (4 : Int32))).toNatClampNeg) = (2 : Int32)) → w166_b88   Q (r2 + (1 : Int32)) S1))) ∧ (¬ (¬ (S.1 56 ((((5 : Int32) * a) + (4 : Int32))).toNatClampNeg) = (1 : Int32)) → w166_b88   Q ((2 : Int32) * r2) S1)))) ∧ (¬ (¬ (S.1 56 ((((5 : Int32) * a) + (4 : Int32))).toNatClampNeg) = (5 : Int32)) → Q (0 : Int32) S)))
set_option maxRecDepth 10000 in
set_option maxHeartbeats 1000000 in
theorem wt166 {E : ri_E} (a : Int32) {S : ri_H} {Q : Int32 → ri_H → Prop} (h : w166  a S Q) : ri_A E 60 (ri_en 166 [.ref 50, .int a]) S (Qi Q) := by
  unfold w166 at h
  show ri_A E 60 (166, 0, [some (.ref 50), some (.int a), none, none, none, none], []) S (Qi Q)
  refine A_ix (((5 : Int32) * a) + (4 : Int32)) 25 (r1 := ((166, 10, [some (.ref 50), some (.int a), none, none, none, none], [.int (S.1 56 ((((5 : Int32) * a) + (4 : Int32))).toNatClampNeg)]), S)) 8 rfl h.1 ?_
  have h := h.2
  refine A_br (¬ (S.1 56 ((((5 : Int32) * a) + (4 : Int32))).toNatClampNeg) = (5 : Int32)) (r1 := ((166, 18, [some (.ref 50), some (.int a), some (.int (S.1 56 ((((5 : Int32) * a) + (4 : Int32))).toNatClampNeg)), none, none, none], []), S)) (r2 := ((166, 16, [some (.ref 50), some (.int a), some (.int (S.1 56 ((((5 : Int32) * a) + (4 : Int32))).toNatClampNeg)), none, none, none], []), S)) 4 rfl (fun c => ?_) (fun c => ?_)
  · have h := h.1 c
    refine A_call (j := 164) (As := [.ref 50, .int (1 : Int32), .int a, .int (-1 : Int32)]) (fr' := (166, 25, [some (.ref 50), some (.int a), some (.int (S.1 56 ((((5 : Int32) * a) + (4 : Int32))).toNatClampNeg)), none, none, none], [])) (S' := S) 5 rfl (e := 59) (by omega) (A_imp (wt164 (1 : Int32) a (-1 : Int32) h) (fun v S1 hq => ?_))
    obtain ⟨r2, hv, h⟩ := hq
    subst hv
    refine A_br (¬ (S.1 56 ((((5 : Int32) * a) + (4 : Int32))).toNatClampNeg) = (1 : Int32)) (r1 := ((166, 46, [some (.ref 50), some (.int a), some (.int (S.1 56 ((((5 : Int32) * a) + (4 : Int32))).toNatClampNeg)), some (.int r2), some (.int ((2 : Int32) * r2)), some (.int (r2 + (1 : Int32)))], []), S1)) (r2 := ((166, 41, [some (.ref 50), some (.int a), some (.int (S.1 56 ((((5 : Int32) * a) + (4 : Int32))).toNatClampNeg)), some (.int r2), some (.int ((2 : Int32) * r2)), some (.int (r2 + (1 : Int32)))], []), S1)) 12 rfl (fun c => ?_) (fun c => ?_)
    · have h := h.1 c
      refine A_br (¬ (S.1 56 ((((5 : Int32) * a) + (4 : Int32))).toNatClampNeg) = (2 : Int32)) (r1 := ((166, 56, [some (.ref 50), some (.int a), some (.int (S.1 56 ((((5 : Int32) * a) + (4 : Int32))).toNatClampNeg)), some (.int r2), some (.int ((2 : Int32) * r2)), some (.int (r2 + (1 : Int32)))], []), S1)) (r2 := ((166, 51, [some (.ref 50), some (.int a), some (.int (S.1 56 ((((5 : Int32) * a) + (4 : Int32))).toNatClampNeg)), some (.int r2), some (.int ((2 : Int32) * r2)), some (.int (r2 + (1 : Int32)))], []), S1)) 3 rfl (fun c => ?_) (fun c => ?_)
      · have h := h.1 c
        refine A_br (¬ (S.1 56 ((((5 : Int32) * a) + (4 : Int32))).toNatClampNeg) = (3 : Int32)) (r1 := ((166, 75, [some (.ref 50), some (.int a), some (.int (S.1 56 ((((5 : Int32) * a) + (4 : Int32))).toNatClampNeg)), some (.int r2), some (.int ((2 : Int32) * r2)), some (.int (r2 + (1 : Int32)))], []), S1)) (r2 := ((166, 61, [some (.ref 50), some (.int a), some (.int (S.1 56 ((((5 : Int32) * a) + (4 : Int32))).toNatClampNeg)), some (.int r2), some (.int ((2 : Int32) * r2)), some (.int (r2 + (1 : Int32)))], []), S1)) 3 rfl (fun c => ?_) (fun c => ?_)
        · have h := h.1 c
          refine A_br (¬ (S.1 56 ((((5 : Int32) * a) + (4 : Int32))).toNatClampNeg) = (4 : Int32)) (r1 := ((166, 87, [some (.ref 50), some (.int a), some (.int (S.1 56 ((((5 : Int32) * a) + (4 : Int32))).toNatClampNeg)), some (.int r2), some (.int ((2 : Int32) * r2)), some (.int (r2 + (1 : Int32)))], []), S1)) (r2 := ((166, 80, [some (.ref 50), some (.int a), some (.int (S.1 56 ((((5 : Int32) * a) + (4 : Int32))).toNatClampNeg)), some (.int r2), some (.int ((2 : Int32) * r2)), some (.int (r2 + (1 : Int32)))], []), S1)) 3 rfl (fun c => ?_) (fun c => ?_)
          · have h := h.1 c
            refine A_nx 1 (fr' := (166, 88, [some (.ref 50), some (.int a), some (.int (S.1 56 ((((5 : Int32) * a) + (4 : Int32))).toNatClampNeg)), some (.int r2), some (.int ((2 : Int32) * r2)), some (.int (r2 + (1 : Int32)))], [.int r2])) (S' := S1) rfl ?_
            refine ri_A.less (m := 166) (pc := 88) (L := [some (.ref 50), some (.int a), some (.int (S.1 56 ((((5 : Int32) * a) + (4 : Int32))).toNatClampNeg)), some (.int r2), some (.int ((2 : Int32) * r2)), some (.int (r2 + (1 : Int32)))]) (L' := [none, none, none, none, none, none]) (st := [.int r2]) trivial ?_
            exact wt166_b88   _ _ h
          · have h := h.2 c
            refine A_gd (¬ (2 : Int32) = 0) (r1 := ((166, 84, [some (.ref 50), some (.int a), some (.int (S.1 56 ((((5 : Int32) * a) + (4 : Int32))).toNatClampNeg)), some (.int r2), some (.int ((2 : Int32) * r2)), some (.int (r2 + (1 : Int32)))], [.int ((r2 + (1 : Int32)) / (2 : Int32))]), S1)) 3 rfl (by decide) ?_
            refine A_nx 1 (fr' := (166, 88, [some (.ref 50), some (.int a), some (.int (S.1 56 ((((5 : Int32) * a) + (4 : Int32))).toNatClampNeg)), some (.int r2), some (.int ((2 : Int32) * r2)), some (.int (r2 + (1 : Int32)))], [.int ((r2 + (1 : Int32)) / (2 : Int32))])) (S' := S1) rfl ?_
            refine ri_A.less (m := 166) (pc := 88) (L := [some (.ref 50), some (.int a), some (.int (S.1 56 ((((5 : Int32) * a) + (4 : Int32))).toNatClampNeg)), some (.int r2), some (.int ((2 : Int32) * r2)), some (.int (r2 + (1 : Int32)))]) (L' := [none, none, none, none, none, none]) (st := [.int ((r2 + (1 : Int32)) / (2 : Int32))]) trivial ?_
            exact wt166_b88   _ _ h
        · have h := h.2 c
          refine A_ix ((5 : Int32) * a) 25 (r1 := ((166, 71, [some (.ref 50), some (.int a), some (.int (S.1 56 ((((5 : Int32) * a) + (4 : Int32))).toNatClampNeg)), some (.int r2), some (.int ((2 : Int32) * r2)), some (.int (r2 + (1 : Int32)))], [.int (S1.1 56 (((5 : Int32) * a)).toNatClampNeg), .int ((2 : Int32) * r2)]), S1)) 7 rfl h.1 ?_
          have h := h.2
          refine A_nx 2 (fr' := (166, 88, [some (.ref 50), some (.int a), some (.int (S.1 56 ((((5 : Int32) * a) + (4 : Int32))).toNatClampNeg)), some (.int r2), some (.int ((2 : Int32) * r2)), some (.int (r2 + (1 : Int32)))], [.int (((2 : Int32) * r2) + (S1.1 56 (((5 : Int32) * a)).toNatClampNeg))])) (S' := S1) rfl ?_
          refine ri_A.less (m := 166) (pc := 88) (L := [some (.ref 50), some (.int a), some (.int (S.1 56 ((((5 : Int32) * a) + (4 : Int32))).toNatClampNeg)), some (.int r2), some (.int ((2 : Int32) * r2)), some (.int (r2 + (1 : Int32)))]) (L' := [none, none, none, none, none, none]) (st := [.int (((2 : Int32) * r2) + (S1.1 56 (((5 : Int32) * a)).toNatClampNeg))]) trivial ?_
          exact wt166_b88   _ _ h
      · have h := h.2 c
        refine A_nx 2 (fr' := (166, 88, [some (.ref 50), some (.int a), some (.int (S.1 56 ((((5 : Int32) * a) + (4 : Int32))).toNatClampNeg)), some (.int r2), some (.int ((2 : Int32) * r2)), some (.int (r2 + (1 : Int32)))], [.int (r2 + (1 : Int32))])) (S' := S1) rfl ?_
        refine ri_A.less (m := 166) (pc := 88) (L := [some (.ref 50), some (.int a), some (.int (S.1 56 ((((5 : Int32) * a) + (4 : Int32))).toNatClampNeg)), some (.int r2), some (.int ((2 : Int32) * r2)), some (.int (r2 + (1 : Int32)))]) (L' := [none, none, none, none, none, none]) (st := [.int (r2 + (1 : Int32))]) trivial ?_
        exact wt166_b88   _ _ h
    · have h := h.2 c
      refine A_nx 2 (fr' := (166, 88, [some (.ref 50), some (.int a), some (.int (S.1 56 ((((5 : Int32) * a) + (4 : Int32))).toNatClampNeg)), some (.int r2), some (.int ((2 : Int32) * r2)), some (.int (r2 + (1 : Int32)))], [.int ((2 : Int32) * r2)])) (S' := S1) rfl ?_
      refine ri_A.less (m := 166) (pc := 88) (L := [some (.ref 50), some (.int a), some (.int (S.1 56 ((((5 : Int32) * a) + (4 : Int32))).toNatClampNeg)), some (.int r2), some (.int ((2 : Int32) * r2)), some (.int (r2 + (1 : Int32)))]) (L' := [none, none, none, none, none, none]) (st := [.int ((2 : Int32) * r2)]) trivial ?_
      exact wt166_b88   _ _ h
  · have h := h.2 c
    exact A_ret 2 (m := 166) (v := some (.int (0 : Int32))) (S' := S) rfl rfl ⟨_, rfl, h⟩
/-! X5_whoAt, depth 0 -/
def w113_b32 (K4 : Int32 → Int32 → Int32 → ri_H → Prop) (Q : Int32 → ri_H → Prop) (x1 : Int32) (x3 : Int32) (s0 : Int32) (s1 : Int32) (S : ri_H) : Prop := K4 x1 (s1 ||| (s0 <<< (x3 &&& 31))) (x3 + (1 : Int32)) S
set_option maxRecDepth 10000 in
set_option maxHeartbeats 1000000 in
theorem wt113_b32 {E : ri_E} {K4 : Int32 → Int32 → Int32 → ri_H → Prop} {Q : Int32 → ri_H → Prop} (hK4 : ∀ (x1 : Int32) (x2 : Int32) (x3 : Int32) (S : ri_H), K4 x1 x2 x3 S → ri_A E 0 (113, 4, [some (.ref 50), some (.int x1), some (.int x2), some (.int x3)], []) S (Qi Q)) (x1 : Int32) (x3 : Int32) (s0 : Int32) (s1 : Int32) (S : ri_H) (h : w113_b32  K4 Q x1 x3 s0 s1 S) : ri_A E 0 (113, 32, [some (.ref 50), some (.int x1), none, some (.int x3)], [.int s0, .int s1]) S (Qi Q) := by
  unfold w113_b32 at h
  refine A_nx 6 (fr' := (113, 4, [some (.ref 50), some (.int x1), some (.int (s1 ||| (s0 <<< (x3 &&& 31)))), some (.int (x3 + (1 : Int32)))], [])) (S' := S) rfl ?_
  refine ri_A.less (m := 113) (pc := 4) (L := [some (.ref 50), some (.int x1), some (.int (s1 ||| (s0 <<< (x3 &&& 31)))), some (.int (x3 + (1 : Int32)))]) (L' := [some (.ref 50), some (.int x1), some (.int (s1 ||| (s0 <<< (x3 &&& 31)))), some (.int (x3 + (1 : Int32)))]) (st := []) ⟨rfl, ⟨rfl, ⟨rfl, ⟨rfl, trivial⟩⟩⟩⟩ ?_
  exact hK4 _ _ _ _ h
def w113_l4 (Q : Int32 → ri_H → Prop) : Nat → Int32 → Int32 → Int32 → ri_H → Prop
  | 0, _, _, _, _ => False
  | n + 1, x1, x2, x3, S => (((S.1 50 11) ≤ x3 → Q x2 S) ∧ (¬ (S.1 50 11) ≤ x3 → (vp_in (((5 : Int32) * x3) + (1 : Int32)) 25 ∧ ((¬ (S.1 56 ((((5 : Int32) * x3) + (1 : Int32))).toNatClampNeg) = x1 → w113_b32  (fun x1 x2 x3 S => w113_l4   Q n x1 x2 x3 S) Q x1 x3 (0 : Int32) x2 S) ∧ (¬ (¬ (S.1 56 ((((5 : Int32) * x3) + (1 : Int32))).toNatClampNeg) = x1) → w113_b32  (fun x1 x2 x3 S => w113_l4   Q n x1 x2 x3 S) Q x1 x3 (1 : Int32) x2 S)))))
set_option maxRecDepth 10000 in
set_option maxHeartbeats 1000000 in
theorem wt113_l4 {E : ri_E} {Q : Int32 → ri_H → Prop} : ∀ (n : Nat) (x1 : Int32) (x2 : Int32) (x3 : Int32) (S : ri_H), w113_l4   Q n x1 x2 x3 S → ri_A E 0 (113, 4, [some (.ref 50), some (.int x1), some (.int x2), some (.int x3)], []) S (Qi Q) := by
  intro n
  induction n with
  | zero => intro x1 x2 x3 S h; exact h.elim
  | succ n ih =>
    intro x1 x2 x3 S h
    unfold w113_l4 at h
    refine A_br ((S.1 50 11) ≤ x3) (r1 := ((113, 42, [some (.ref 50), some (.int x1), some (.int x2), some (.int x3)], []), S)) (r2 := ((113, 12, [some (.ref 50), some (.int x1), some (.int x2), some (.int x3)], []), S)) 4 rfl (fun c => ?_) (fun c => ?_)
    · have h := h.1 c
      exact A_ret 2 (m := 113) (v := some (.int x2)) (S' := S) rfl rfl ⟨_, rfl, h⟩
    · have h := h.2 c
      refine A_ix (((5 : Int32) * x3) + (1 : Int32)) 25 (r1 := ((113, 23, [some (.ref 50), some (.int x1), some (.int x2), some (.int x3)], [.int (S.1 56 ((((5 : Int32) * x3) + (1 : Int32))).toNatClampNeg), .int x2]), S)) 9 rfl h.1 ?_
      have h := h.2
      refine A_br (¬ (S.1 56 ((((5 : Int32) * x3) + (1 : Int32))).toNatClampNeg) = x1) (r1 := ((113, 31, [some (.ref 50), some (.int x1), some (.int x2), some (.int x3)], [.int x2]), S)) (r2 := ((113, 27, [some (.ref 50), some (.int x1), some (.int x2), some (.int x3)], [.int x2]), S)) 2 rfl (fun c => ?_) (fun c => ?_)
      · have h := h.1 c
        refine A_nx 1 (fr' := (113, 32, [some (.ref 50), some (.int x1), some (.int x2), some (.int x3)], [.int (0 : Int32), .int x2])) (S' := S) rfl ?_
        refine ri_A.less (m := 113) (pc := 32) (L := [some (.ref 50), some (.int x1), some (.int x2), some (.int x3)]) (L' := [some (.ref 50), some (.int x1), none, some (.int x3)]) (st := [.int (0 : Int32), .int x2]) ⟨rfl, ⟨rfl, ⟨rfl, trivial⟩⟩⟩ ?_
        exact wt113_b32  (fun x1 x2 x3 S hk => ih x1 x2 x3 S hk) _ _ _ _ _ h
      · have h := h.2 c
        refine A_nx 2 (fr' := (113, 32, [some (.ref 50), some (.int x1), some (.int x2), some (.int x3)], [.int (1 : Int32), .int x2])) (S' := S) rfl ?_
        refine ri_A.less (m := 113) (pc := 32) (L := [some (.ref 50), some (.int x1), some (.int x2), some (.int x3)]) (L' := [some (.ref 50), some (.int x1), none, some (.int x3)]) (st := [.int (1 : Int32), .int x2]) ⟨rfl, ⟨rfl, ⟨rfl, trivial⟩⟩⟩ ?_
        exact wt113_b32  (fun x1 x2 x3 S hk => ih x1 x2 x3 S hk) _ _ _ _ _ h
def w113 (a : Int32) (S : ri_H) (Q : Int32 → ri_H → Prop) : Prop := ∃ nn, w113_l4   Q nn a (0 : Int32) (0 : Int32) S
set_option maxRecDepth 10000 in
set_option maxHeartbeats 1000000 in
theorem wt113 {E : ri_E} (a : Int32) {S : ri_H} {Q : Int32 → ri_H → Prop} (h : w113  a S Q) : ri_A E 0 (ri_en 113 [.ref 50, .int a]) S (Qi Q) := by
  unfold w113 at h
  show ri_A E 0 (113, 0, [some (.ref 50), some (.int a), none, none], []) S (Qi Q)
  refine A_nx 4 (fr' := (113, 4, [some (.ref 50), some (.int a), some (.int (0 : Int32)), some (.int (0 : Int32))], [])) (S' := S) rfl ?_
  refine ri_A.less (m := 113) (pc := 4) (L := [some (.ref 50), some (.int a), some (.int (0 : Int32)), some (.int (0 : Int32))]) (L' := [some (.ref 50), some (.int a), some (.int (0 : Int32)), some (.int (0 : Int32))]) (st := []) ⟨rfl, ⟨rfl, ⟨rfl, ⟨rfl, trivial⟩⟩⟩⟩ ?_
  obtain ⟨nn, h⟩ := h
  exact wt113_l4   nn _ _ _ _ h
/-! X5_told, depth 61 -/
def w112 (a : Int32) (b : Int32) (S : ri_H) (Q : Int32 → ri_H → Prop) : Prop := w102 (b).toInt64 (0 : Int64) (10 : Int64) S (fun (r2 : Int32) (S1 : ri_H) => ((r2 = 0 → Q (-1000 : Int32) S1) ∧ (¬ (r2 = 0) → w107 b a S1 (fun (r4 : Int32) (S3 : ri_H) => ((¬ r4 = 0 → (((3 : Int32) ≤ b → (((8 : Int32) ≤ b → ((¬ b = (8 : Int32) → ((¬ b = (9 : Int32) → w113 a S3 (fun (r6 : Int32) (S5 : ri_H) => Q r6 S5)) ∧ (¬ (¬ b = (9 : Int32)) → w166 a S3 (fun (r8 : Int32) (S7 : ri_H) => Q r8 S7)))) ∧ (¬ (¬ b = (8 : Int32)) → w165 a S3 (fun (r10 : Int32) (S9 : ri_H) => Q r10 S9)))) ∧ (¬ (8 : Int32) ≤ b → (vp_in ((((5 : Int32) * a) + b) - (3 : Int32)) 25 ∧ Q (S3.1 56 (((((5 : Int32) * a) + b) - (3 : Int32))).toNatClampNeg) S3)))) ∧ (¬ (3 : Int32) ≤ b → ((¬ b = 0 → ((¬ b = (1 : Int32) → Q (S3.1 50 7) S3) ∧ (¬ (¬ b = (1 : Int32)) → (vp_in a 24 ∧ Q (S3.1 55 (a).toNatClampNeg) S3)))) ∧ (¬ (¬ b = 0) → (vp_in a 24 ∧ Q (S3.1 54 (a).toNatClampNeg) S3)))))) ∧ (¬ (¬ r4 = 0) → Q (-1000 : Int32) S3))))))
set_option maxRecDepth 10000 in
set_option maxHeartbeats 1000000 in
theorem wt112 {E : ri_E} (a : Int32) (b : Int32) {S : ri_H} {Q : Int32 → ri_H → Prop} (h : w112  a b S Q) : ri_A E 61 (ri_en 112 [.ref 50, .int a, .int b]) S (Qi Q) := by
  unfold w112 at h
  show ri_A E 61 (112, 0, [some (.ref 50), some (.int a), some (.int b)], []) S (Qi Q)
  refine A_call (j := 102) (As := [.long (b).toInt64, .long (0 : Int64), .long (10 : Int64)]) (fr' := (112, 9, [some (.ref 50), some (.int a), some (.int b)], [])) (S' := S) 5 rfl (e := 0) (by omega) (A_imp (wt102 (b).toInt64 (0 : Int64) (10 : Int64) h) (fun v S1 hq => ?_))
  obtain ⟨r2, hv, h⟩ := hq
  subst hv
  refine A_br (r2 = 0) (r1 := ((112, 21, [some (.ref 50), some (.int a), some (.int b)], []), S1)) (r2 := ((112, 12, [some (.ref 50), some (.int a), some (.int b)], []), S1)) 1 rfl (fun c => ?_) (fun c => ?_)
  · have h := h.1 c
    exact A_ret 2 (m := 112) (v := some (.int (-1000 : Int32))) (S' := S1) rfl rfl ⟨_, rfl, h⟩
  · have h := h.2 c
    refine A_call (j := 107) (As := [.ref 50, .int b, .int a]) (fr' := (112, 18, [some (.ref 50), some (.int a), some (.int b)], [])) (S' := S1) 4 rfl (e := 2) (by omega) (A_imp (wt107 b a h) (fun v S3 hq => ?_))
    obtain ⟨r4, hv, h⟩ := hq
    subst hv
    refine A_br (¬ r4 = 0) (r1 := ((112, 25, [some (.ref 50), some (.int a), some (.int b)], []), S3)) (r2 := ((112, 21, [some (.ref 50), some (.int a), some (.int b)], []), S3)) 1 rfl (fun c => ?_) (fun c => ?_)
    · have h := h.1 c
      refine A_br ((3 : Int32) ≤ b) (r1 := ((112, 62, [some (.ref 50), some (.int a), some (.int b)], []), S3)) (r2 := ((112, 30, [some (.ref 50), some (.int a), some (.int b)], []), S3)) 3 rfl (fun c => ?_) (fun c => ?_)
      · have h := h.1 c
        refine A_br ((8 : Int32) ≤ b) (r1 := ((112, 81, [some (.ref 50), some (.int a), some (.int b)], []), S3)) (r2 := ((112, 68, [some (.ref 50), some (.int a), some (.int b)], []), S3)) 3 rfl (fun c => ?_) (fun c => ?_)
        · have h := h.1 c
          refine A_br (¬ b = (8 : Int32)) (r1 := ((112, 95, [some (.ref 50), some (.int a), some (.int b)], []), S3)) (r2 := ((112, 87, [some (.ref 50), some (.int a), some (.int b)], []), S3)) 3 rfl (fun c => ?_) (fun c => ?_)
          · have h := h.1 c
            refine A_br (¬ b = (9 : Int32)) (r1 := ((112, 109, [some (.ref 50), some (.int a), some (.int b)], []), S3)) (r2 := ((112, 101, [some (.ref 50), some (.int a), some (.int b)], []), S3)) 3 rfl (fun c => ?_) (fun c => ?_)
            · have h := h.1 c
              refine A_call (j := 113) (As := [.ref 50, .int a]) (fr' := (112, 114, [some (.ref 50), some (.int a), some (.int b)], [])) (S' := S3) 3 rfl (e := 0) (by omega) (A_imp (wt113 a h) (fun v S5 hq => ?_))
              obtain ⟨r6, hv, h⟩ := hq
              subst hv
              exact A_ret 1 (m := 112) (v := some (.int r6)) (S' := S5) rfl rfl ⟨_, rfl, h⟩
            · have h := h.2 c
              refine A_call (j := 166) (As := [.ref 50, .int a]) (fr' := (112, 106, [some (.ref 50), some (.int a), some (.int b)], [])) (S' := S3) 3 rfl (e := 60) (by omega) (A_imp (wt166 a h) (fun v S7 hq => ?_))
              obtain ⟨r8, hv, h⟩ := hq
              subst hv
              exact A_ret 2 (m := 112) (v := some (.int r8)) (S' := S7) rfl rfl ⟨_, rfl, h⟩
          · have h := h.2 c
            refine A_call (j := 165) (As := [.ref 50, .int a]) (fr' := (112, 92, [some (.ref 50), some (.int a), some (.int b)], [])) (S' := S3) 3 rfl (e := 60) (by omega) (A_imp (wt165 a h) (fun v S9 hq => ?_))
            obtain ⟨r10, hv, h⟩ := hq
            subst hv
            exact A_ret 2 (m := 112) (v := some (.int r10)) (S' := S9) rfl rfl ⟨_, rfl, h⟩
        · have h := h.2 c
          refine A_ix ((((5 : Int32) * a) + b) - (3 : Int32)) 25 (r1 := ((112, 80, [some (.ref 50), some (.int a), some (.int b)], [.int (S3.1 56 (((((5 : Int32) * a) + b) - (3 : Int32))).toNatClampNeg)]), S3)) 10 rfl h.1 ?_
          have h := h.2
          exact A_ret 1 (m := 112) (v := some (.int (S3.1 56 (((((5 : Int32) * a) + b) - (3 : Int32))).toNatClampNeg))) (S' := S3) rfl rfl ⟨_, rfl, h⟩
      · have h := h.2 c
        refine A_br (¬ b = 0) (r1 := ((112, 43, [some (.ref 50), some (.int a), some (.int b)], []), S3)) (r2 := ((112, 34, [some (.ref 50), some (.int a), some (.int b)], []), S3)) 2 rfl (fun c => ?_) (fun c => ?_)
        · have h := h.1 c
          refine A_br (¬ b = (1 : Int32)) (r1 := ((112, 57, [some (.ref 50), some (.int a), some (.int b)], []), S3)) (r2 := ((112, 48, [some (.ref 50), some (.int a), some (.int b)], []), S3)) 3 rfl (fun c => ?_) (fun c => ?_)
          · have h := h.1 c
            exact A_ret 3 (m := 112) (v := some (.int (S3.1 50 7))) (S' := S3) rfl rfl ⟨_, rfl, h⟩
          · have h := h.2 c
            refine A_ix a 24 (r1 := ((112, 54, [some (.ref 50), some (.int a), some (.int b)], [.int (S3.1 55 (a).toNatClampNeg)]), S3)) 4 rfl h.1 ?_
            have h := h.2
            exact A_ret 2 (m := 112) (v := some (.int (S3.1 55 (a).toNatClampNeg))) (S' := S3) rfl rfl ⟨_, rfl, h⟩
        · have h := h.2 c
          refine A_ix a 24 (r1 := ((112, 40, [some (.ref 50), some (.int a), some (.int b)], [.int (S3.1 54 (a).toNatClampNeg)]), S3)) 4 rfl h.1 ?_
          have h := h.2
          exact A_ret 2 (m := 112) (v := some (.int (S3.1 54 (a).toNatClampNeg))) (S' := S3) rfl rfl ⟨_, rfl, h⟩
    · have h := h.2 c
      exact A_ret 2 (m := 112) (v := some (.int (-1000 : Int32))) (S' := S3) rfl rfl ⟨_, rfl, h⟩
/-! X5_lays, depth 0 -/
def w110 (a : Int32) (b : Int32) (g : Int32) (S : ri_H) (Q : ri_H → Prop) : Prop := ((¬ a = 0 → ((¬ a = (1 : Int32) → ((¬ a = (2 : Int32) → (((8 : Int32) ≤ a → Q (ri_wi S 50 4 g)) ∧ (¬ (8 : Int32) ≤ a → (vp_in ((((5 : Int32) * b) + a) - (3 : Int32)) 25 ∧ Q (ri_wi S 56 (((((5 : Int32) * b) + a) - (3 : Int32))).toNatClampNeg g))))) ∧ (¬ (¬ a = (2 : Int32)) → Q (ri_wi S 50 7 g)))) ∧ (¬ (¬ a = (1 : Int32)) → (vp_in b 24 ∧ Q (ri_wi S 55 (b).toNatClampNeg g))))) ∧ (¬ (¬ a = 0) → (vp_in b 24 ∧ Q (ri_wi S 54 (b).toNatClampNeg g))))
set_option maxRecDepth 10000 in
set_option maxHeartbeats 1000000 in
theorem wt110 {E : ri_E} (a : Int32) (b : Int32) (g : Int32) {S : ri_H} {Q : ri_H → Prop} (h : w110  a b g S Q) : ri_A E 0 (ri_en 110 [.ref 50, .int a, .int b, .int g]) S (Qv Q) := by
  unfold w110 at h
  show ri_A E 0 (110, 0, [some (.ref 50), some (.int a), some (.int b), some (.int g)], []) S (Qv Q)
  refine A_br (¬ a = 0) (r1 := ((110, 14, [some (.ref 50), some (.int a), some (.int b), some (.int g)], []), S)) (r2 := ((110, 4, [some (.ref 50), some (.int a), some (.int b), some (.int g)], []), S)) 2 rfl (fun c => ?_) (fun c => ?_)
  · have h := h.1 c
    refine A_br (¬ a = (1 : Int32)) (r1 := ((110, 29, [some (.ref 50), some (.int a), some (.int b), some (.int g)], []), S)) (r2 := ((110, 19, [some (.ref 50), some (.int a), some (.int b), some (.int g)], []), S)) 3 rfl (fun c => ?_) (fun c => ?_)
    · have h := h.1 c
      refine A_br (¬ a = (2 : Int32)) (r1 := ((110, 42, [some (.ref 50), some (.int a), some (.int b), some (.int g)], []), S)) (r2 := ((110, 34, [some (.ref 50), some (.int a), some (.int b), some (.int g)], []), S)) 3 rfl (fun c => ?_) (fun c => ?_)
      · have h := h.1 c
        refine A_br ((8 : Int32) ≤ a) (r1 := ((110, 64, [some (.ref 50), some (.int a), some (.int b), some (.int g)], []), S)) (r2 := ((110, 48, [some (.ref 50), some (.int a), some (.int b), some (.int g)], []), S)) 3 rfl (fun c => ?_) (fun c => ?_)
        · have h := h.1 c
          exact A_ret 4 (m := 110) (v := none) (S' := (ri_wi S 50 4 g)) rfl rfl ⟨rfl, h⟩
        · have h := h.2 c
          refine A_ix ((((5 : Int32) * b) + a) - (3 : Int32)) 25 (r1 := ((110, 61, [some (.ref 50), some (.int a), some (.int b), some (.int g)], []), (ri_wi S 56 (((((5 : Int32) * b) + a) - (3 : Int32))).toNatClampNeg g))) 11 rfl h.1 ?_
          have h := h.2
          exact A_ret 2 (m := 110) (v := none) (S' := (ri_wi S 56 (((((5 : Int32) * b) + a) - (3 : Int32))).toNatClampNeg g)) rfl rfl ⟨rfl, h⟩
      · have h := h.2 c
        exact A_ret 5 (m := 110) (v := none) (S' := (ri_wi S 50 7 g)) rfl rfl ⟨rfl, h⟩
    · have h := h.2 c
      refine A_ix b 24 (r1 := ((110, 26, [some (.ref 50), some (.int a), some (.int b), some (.int g)], []), (ri_wi S 55 (b).toNatClampNeg g))) 5 rfl h.1 ?_
      have h := h.2
      exact A_ret 2 (m := 110) (v := none) (S' := (ri_wi S 55 (b).toNatClampNeg g)) rfl rfl ⟨rfl, h⟩
  · have h := h.2 c
    refine A_ix b 24 (r1 := ((110, 11, [some (.ref 50), some (.int a), some (.int b), some (.int g)], []), (ri_wi S 54 (b).toNatClampNeg g))) 5 rfl h.1 ?_
    have h := h.2
    exact A_ret 2 (m := 110) (v := none) (S' := (ri_wi S 54 (b).toNatClampNeg g)) rfl rfl ⟨rfl, h⟩
/-! X5_set, depth 62 -/
def w109_b35 (Q : Int32 → ri_H → Prop) (x1 : Int32) (x2 : Int32) (x3 : Int32) (t0 : Int64) (t1 : Int64) (S : ri_H) : Prop := w108 x1 S (fun (r6 : Int32) (S5 : ri_H) => w102 t1 t0 (r6).toInt64 S5 (fun (r8 : Int32) (S7 : ri_H) => ((¬ r8 = 0 → w112 x2 x1 S7 (fun (r10 : Int32) (S9 : ri_H) => w110 x1 x2 x3 S9 (fun (S11 : ri_H) => Q r10 S11))) ∧ (¬ (¬ r8 = 0) → Q (-1000 : Int32) S7))))
set_option maxRecDepth 10000 in
set_option maxHeartbeats 1000000 in
theorem wt109_b35 {E : ri_E} {Q : Int32 → ri_H → Prop} (x1 : Int32) (x2 : Int32) (x3 : Int32) (t0 : Int64) (t1 : Int64) (S : ri_H) (h : w109_b35   Q x1 x2 x3 t0 t1 S) : ri_A E 62 (109, 35, [some (.ref 50), some (.int x1), some (.int x2), some (.int x3), none], [.long t0, .long t1]) S (Qi Q) := by
  unfold w109_b35 at h
  refine A_call (j := 108) (As := [.int x1]) (fr' := (109, 39, [some (.ref 50), some (.int x1), some (.int x2), some (.int x3), none], [.long t0, .long t1])) (S' := S) 2 rfl (e := 0) (by omega) (A_imp (wt108 x1 h) (fun v S5 hq => ?_))
  obtain ⟨r6, hv, h⟩ := hq
  subst hv
  refine A_call (j := 102) (As := [.long t1, .long t0, .long (r6).toInt64]) (fr' := (109, 43, [some (.ref 50), some (.int x1), some (.int x2), some (.int x3), none], [])) (S' := S5) 2 rfl (e := 0) (by omega) (A_imp (wt102 t1 t0 (r6).toInt64 h) (fun v S7 hq => ?_))
  obtain ⟨r8, hv, h⟩ := hq
  subst hv
  refine A_br (¬ r8 = 0) (r1 := ((109, 50, [some (.ref 50), some (.int x1), some (.int x2), some (.int x3), none], []), S7)) (r2 := ((109, 46, [some (.ref 50), some (.int x1), some (.int x2), some (.int x3), none], []), S7)) 1 rfl (fun c => ?_) (fun c => ?_)
  · have h := h.1 c
    refine A_call (j := 112) (As := [.ref 50, .int x2, .int x1]) (fr' := (109, 56, [some (.ref 50), some (.int x1), some (.int x2), some (.int x3), none], [])) (S' := S7) 4 rfl (e := 61) (by omega) (A_imp (wt112 x2 x1 h) (fun v S9 hq => ?_))
    obtain ⟨r10, hv, h⟩ := hq
    subst hv
    refine A_call (j := 110) (As := [.ref 50, .int x1, .int x2, .int x3]) (fr' := (109, 65, [some (.ref 50), some (.int x1), some (.int x2), some (.int x3), some (.int r10)], [])) (S' := S9) 6 rfl (e := 0) (by omega) (A_imp (wt110 x1 x2 x3 h) (fun v S11 hq => ?_))
    obtain ⟨hv, h⟩ := hq
    subst hv
    exact A_ret 2 (m := 109) (v := some (.int r10)) (S' := S11) rfl rfl ⟨_, rfl, h⟩
  · have h := h.2 c
    exact A_ret 2 (m := 109) (v := some (.int (-1000 : Int32))) (S' := S7) rfl rfl ⟨_, rfl, h⟩
def w109 (a : Int32) (b : Int32) (g : Int32) (S : ri_H) (Q : Int32 → ri_H → Prop) : Prop := w102 (a).toInt64 (0 : Int64) (6 : Int64) S (fun (r2 : Int32) (S1 : ri_H) => ((r2 = 0 → Q (-1000 : Int32) S1) ∧ (¬ (r2 = 0) → w107 a b S1 (fun (r4 : Int32) (S3 : ri_H) => ((r4 = 0 → Q (-1000 : Int32) S3) ∧ (¬ (r4 = 0) → ((¬ a = (5 : Int32) → w109_b35   Q a b g (0 : Int64) (g).toInt64 S3) ∧ (¬ (¬ a = (5 : Int32)) → w109_b35   Q a b g (-99 : Int64) (g).toInt64 S3))))))))
set_option maxRecDepth 10000 in
set_option maxHeartbeats 1000000 in
theorem wt109 {E : ri_E} (a : Int32) (b : Int32) (g : Int32) {S : ri_H} {Q : Int32 → ri_H → Prop} (h : w109  a b g S Q) : ri_A E 62 (ri_en 109 [.ref 50, .int a, .int b, .int g]) S (Qi Q) := by
  unfold w109 at h
  show ri_A E 62 (109, 0, [some (.ref 50), some (.int a), some (.int b), some (.int g), none], []) S (Qi Q)
  refine A_call (j := 102) (As := [.long (a).toInt64, .long (0 : Int64), .long (6 : Int64)]) (fr' := (109, 9, [some (.ref 50), some (.int a), some (.int b), some (.int g), none], [])) (S' := S) 5 rfl (e := 0) (by omega) (A_imp (wt102 (a).toInt64 (0 : Int64) (6 : Int64) h) (fun v S1 hq => ?_))
  obtain ⟨r2, hv, h⟩ := hq
  subst hv
  refine A_br (r2 = 0) (r1 := ((109, 46, [some (.ref 50), some (.int a), some (.int b), some (.int g), none], []), S1)) (r2 := ((109, 12, [some (.ref 50), some (.int a), some (.int b), some (.int g), none], []), S1)) 1 rfl (fun c => ?_) (fun c => ?_)
  · have h := h.1 c
    exact A_ret 2 (m := 109) (v := some (.int (-1000 : Int32))) (S' := S1) rfl rfl ⟨_, rfl, h⟩
  · have h := h.2 c
    refine A_call (j := 107) (As := [.ref 50, .int a, .int b]) (fr' := (109, 18, [some (.ref 50), some (.int a), some (.int b), some (.int g), none], [])) (S' := S1) 4 rfl (e := 2) (by omega) (A_imp (wt107 a b h) (fun v S3 hq => ?_))
    obtain ⟨r4, hv, h⟩ := hq
    subst hv
    refine A_br (r4 = 0) (r1 := ((109, 46, [some (.ref 50), some (.int a), some (.int b), some (.int g), none], []), S3)) (r2 := ((109, 21, [some (.ref 50), some (.int a), some (.int b), some (.int g), none], []), S3)) 1 rfl (fun c => ?_) (fun c => ?_)
    · have h := h.1 c
      exact A_ret 2 (m := 109) (v := some (.int (-1000 : Int32))) (S' := S3) rfl rfl ⟨_, rfl, h⟩
    · have h := h.2 c
      refine A_br (¬ a = (5 : Int32)) (r1 := ((109, 34, [some (.ref 50), some (.int a), some (.int b), some (.int g), none], [.long (g).toInt64]), S3)) (r2 := ((109, 28, [some (.ref 50), some (.int a), some (.int b), some (.int g), none], [.long (g).toInt64]), S3)) 5 rfl (fun c => ?_) (fun c => ?_)
      · have h := h.1 c
        refine A_nx 1 (fr' := (109, 35, [some (.ref 50), some (.int a), some (.int b), some (.int g), none], [.long (0 : Int64), .long (g).toInt64])) (S' := S3) rfl ?_
        refine ri_A.less (m := 109) (pc := 35) (L := [some (.ref 50), some (.int a), some (.int b), some (.int g), none]) (L' := [some (.ref 50), some (.int a), some (.int b), some (.int g), none]) (st := [.long (0 : Int64), .long (g).toInt64]) ⟨rfl, ⟨rfl, ⟨rfl, ⟨rfl, trivial⟩⟩⟩⟩ ?_
        exact wt109_b35   _ _ _ _ _ _ h
      · have h := h.2 c
        refine A_nx 2 (fr' := (109, 35, [some (.ref 50), some (.int a), some (.int b), some (.int g), none], [.long (-99 : Int64), .long (g).toInt64])) (S' := S3) rfl ?_
        refine ri_A.less (m := 109) (pc := 35) (L := [some (.ref 50), some (.int a), some (.int b), some (.int g), none]) (L' := [some (.ref 50), some (.int a), some (.int b), some (.int g), none]) (st := [.long (-99 : Int64), .long (g).toInt64]) ⟨rfl, ⟨rfl, ⟨rfl, ⟨rfl, trivial⟩⟩⟩⟩ ?_
        exact wt109_b35   _ _ _ _ _ _ h
/-! X5_life, depth 2 -/
def w111 (a : Int32) (b : Int32) (g : Int32) (S : ri_H) (Q : Int32 → ri_H → Prop) : Prop := w102 (a).toInt64 (0 : Int64) (5 : Int64) S (fun (r2 : Int32) (S1 : ri_H) => ((r2 = 0 → Q (-2 : Int32) S1) ∧ (¬ (r2 = 0) → w102 (b).toInt64 (0 : Int64) (9 : Int64) S1 (fun (r4 : Int32) (S3 : ri_H) => ((r4 = 0 → Q (-2 : Int32) S3) ∧ (¬ (r4 = 0) → w105 g S3 (fun (r6 : Int32) (S5 : ri_H) => ((¬ r6 = 0 → ((¬ (S5.1 50 11) = (5 : Int32) → (vp_in ((5 : Int32) * (S5.1 50 11)) 25 ∧ (vp_in (((5 : Int32) * (S5.1 50 11)) + (1 : Int32)) 25 ∧ (vp_in (((5 : Int32) * (S5.1 50 11)) + (2 : Int32)) 25 ∧ (vp_in (((5 : Int32) * (S5.1 50 11)) + (3 : Int32)) 25 ∧ (vp_in (((5 : Int32) * (S5.1 50 11)) + (4 : Int32)) 25 ∧ Q (((S5.1 50 11) + (1 : Int32)) - (1 : Int32)) (ri_wi (ri_wi (ri_wi (ri_wi (ri_wi (ri_wi S5 56 (((5 : Int32) * (S5.1 50 11))).toNatClampNeg b) 56 ((((5 : Int32) * (S5.1 50 11)) + (1 : Int32))).toNatClampNeg g) 56 ((((5 : Int32) * (S5.1 50 11)) + (2 : Int32))).toNatClampNeg (0 : Int32)) 56 ((((5 : Int32) * (S5.1 50 11)) + (3 : Int32))).toNatClampNeg (0 : Int32)) 56 ((((5 : Int32) * (S5.1 50 11)) + (4 : Int32))).toNatClampNeg a) 50 11 ((S5.1 50 11) + (1 : Int32))))))))) ∧ (¬ (¬ (S5.1 50 11) = (5 : Int32)) → Q (-4 : Int32) S5))) ∧ (¬ (¬ r6 = 0) → Q (-2 : Int32) S5)))))))))
set_option maxRecDepth 10000 in
set_option maxHeartbeats 1000000 in
theorem wt111 {E : ri_E} (a : Int32) (b : Int32) (g : Int32) {S : ri_H} {Q : Int32 → ri_H → Prop} (h : w111  a b g S Q) : ri_A E 2 (ri_en 111 [.ref 50, .int a, .int b, .int g]) S (Qi Q) := by
  unfold w111 at h
  show ri_A E 2 (111, 0, [some (.ref 50), some (.int a), some (.int b), some (.int g)], []) S (Qi Q)
  refine A_call (j := 102) (As := [.long (a).toInt64, .long (0 : Int64), .long (5 : Int64)]) (fr' := (111, 9, [some (.ref 50), some (.int a), some (.int b), some (.int g)], [])) (S' := S) 5 rfl (e := 0) (by omega) (A_imp (wt102 (a).toInt64 (0 : Int64) (5 : Int64) h) (fun v S1 hq => ?_))
  obtain ⟨r2, hv, h⟩ := hq
  subst hv
  refine A_br (r2 = 0) (r1 := ((111, 31, [some (.ref 50), some (.int a), some (.int b), some (.int g)], []), S1)) (r2 := ((111, 12, [some (.ref 50), some (.int a), some (.int b), some (.int g)], []), S1)) 1 rfl (fun c => ?_) (fun c => ?_)
  · have h := h.1 c
    exact A_ret 2 (m := 111) (v := some (.int (-2 : Int32))) (S' := S1) rfl rfl ⟨_, rfl, h⟩
  · have h := h.2 c
    refine A_call (j := 102) (As := [.long (b).toInt64, .long (0 : Int64), .long (9 : Int64)]) (fr' := (111, 21, [some (.ref 50), some (.int a), some (.int b), some (.int g)], [])) (S' := S1) 5 rfl (e := 0) (by omega) (A_imp (wt102 (b).toInt64 (0 : Int64) (9 : Int64) h) (fun v S3 hq => ?_))
    obtain ⟨r4, hv, h⟩ := hq
    subst hv
    refine A_br (r4 = 0) (r1 := ((111, 31, [some (.ref 50), some (.int a), some (.int b), some (.int g)], []), S3)) (r2 := ((111, 24, [some (.ref 50), some (.int a), some (.int b), some (.int g)], []), S3)) 1 rfl (fun c => ?_) (fun c => ?_)
    · have h := h.1 c
      exact A_ret 2 (m := 111) (v := some (.int (-2 : Int32))) (S' := S3) rfl rfl ⟨_, rfl, h⟩
    · have h := h.2 c
      refine A_call (j := 105) (As := [.int g]) (fr' := (111, 28, [some (.ref 50), some (.int a), some (.int b), some (.int g)], [])) (S' := S3) 2 rfl (e := 1) (by omega) (A_imp (wt105 g h) (fun v S5 hq => ?_))
      obtain ⟨r6, hv, h⟩ := hq
      subst hv
      refine A_br (¬ r6 = 0) (r1 := ((111, 34, [some (.ref 50), some (.int a), some (.int b), some (.int g)], []), S5)) (r2 := ((111, 31, [some (.ref 50), some (.int a), some (.int b), some (.int g)], []), S5)) 1 rfl (fun c => ?_) (fun c => ?_)
      · have h := h.1 c
        refine A_br (¬ (S5.1 50 11) = (5 : Int32)) (r1 := ((111, 45, [some (.ref 50), some (.int a), some (.int b), some (.int g)], []), S5)) (r2 := ((111, 42, [some (.ref 50), some (.int a), some (.int b), some (.int g)], []), S5)) 4 rfl (fun c => ?_) (fun c => ?_)
        · have h := h.1 c
          refine A_ix ((5 : Int32) * (S5.1 50 11)) 25 (r1 := ((111, 57, [some (.ref 50), some (.int a), some (.int b), some (.int g)], []), (ri_wi S5 56 (((5 : Int32) * (S5.1 50 11))).toNatClampNeg b))) 8 rfl h.1 ?_
          have h := h.2
          refine A_ix (((5 : Int32) * (S5.1 50 11)) + (1 : Int32)) 25 (r1 := ((111, 71, [some (.ref 50), some (.int a), some (.int b), some (.int g)], []), (ri_wi (ri_wi S5 56 (((5 : Int32) * (S5.1 50 11))).toNatClampNeg b) 56 ((((5 : Int32) * (S5.1 50 11)) + (1 : Int32))).toNatClampNeg g))) 10 rfl h.1 ?_
          have h := h.2
          refine A_ix (((5 : Int32) * (S5.1 50 11)) + (2 : Int32)) 25 (r1 := ((111, 85, [some (.ref 50), some (.int a), some (.int b), some (.int g)], []), (ri_wi (ri_wi (ri_wi S5 56 (((5 : Int32) * (S5.1 50 11))).toNatClampNeg b) 56 ((((5 : Int32) * (S5.1 50 11)) + (1 : Int32))).toNatClampNeg g) 56 ((((5 : Int32) * (S5.1 50 11)) + (2 : Int32))).toNatClampNeg (0 : Int32)))) 10 rfl h.1 ?_
          have h := h.2
          refine A_ix (((5 : Int32) * (S5.1 50 11)) + (3 : Int32)) 25 (r1 := ((111, 99, [some (.ref 50), some (.int a), some (.int b), some (.int g)], []), (ri_wi (ri_wi (ri_wi (ri_wi S5 56 (((5 : Int32) * (S5.1 50 11))).toNatClampNeg b) 56 ((((5 : Int32) * (S5.1 50 11)) + (1 : Int32))).toNatClampNeg g) 56 ((((5 : Int32) * (S5.1 50 11)) + (2 : Int32))).toNatClampNeg (0 : Int32)) 56 ((((5 : Int32) * (S5.1 50 11)) + (3 : Int32))).toNatClampNeg (0 : Int32)))) 10 rfl h.1 ?_
          have h := h.2
          refine A_ix (((5 : Int32) * (S5.1 50 11)) + (4 : Int32)) 25 (r1 := ((111, 113, [some (.ref 50), some (.int a), some (.int b), some (.int g)], []), (ri_wi (ri_wi (ri_wi (ri_wi (ri_wi S5 56 (((5 : Int32) * (S5.1 50 11))).toNatClampNeg b) 56 ((((5 : Int32) * (S5.1 50 11)) + (1 : Int32))).toNatClampNeg g) 56 ((((5 : Int32) * (S5.1 50 11)) + (2 : Int32))).toNatClampNeg (0 : Int32)) 56 ((((5 : Int32) * (S5.1 50 11)) + (3 : Int32))).toNatClampNeg (0 : Int32)) 56 ((((5 : Int32) * (S5.1 50 11)) + (4 : Int32))).toNatClampNeg a))) 10 rfl h.1 ?_
          have h := h.2
          exact A_ret 11 (m := 111) (v := some (.int (((S5.1 50 11) + (1 : Int32)) - (1 : Int32)))) (S' := (ri_wi (ri_wi (ri_wi (ri_wi (ri_wi (ri_wi S5 56 (((5 : Int32) * (S5.1 50 11))).toNatClampNeg b) 56 ((((5 : Int32) * (S5.1 50 11)) + (1 : Int32))).toNatClampNeg g) 56 ((((5 : Int32) * (S5.1 50 11)) + (2 : Int32))).toNatClampNeg (0 : Int32)) 56 ((((5 : Int32) * (S5.1 50 11)) + (3 : Int32))).toNatClampNeg (0 : Int32)) 56 ((((5 : Int32) * (S5.1 50 11)) + (4 : Int32))).toNatClampNeg a) 50 11 ((S5.1 50 11) + (1 : Int32)))) rfl rfl ⟨_, rfl, h⟩
        · have h := h.2 c
          exact A_ret 2 (m := 111) (v := some (.int (-4 : Int32))) (S' := S5) rfl rfl ⟨_, rfl, h⟩
      · have h := h.2 c
        exact A_ret 2 (m := 111) (v := some (.int (-2 : Int32))) (S' := S5) rfl rfl ⟨_, rfl, h⟩
/-! X5_feed, depth 1 -/
def w115 (a : Int32) (S : ri_H) (Q : Int32 → ri_H → Prop) : Prop := w102 (a).toInt64 (0 : Int64) (255 : Int64) S (fun (r2 : Int32) (S1 : ri_H) => ((¬ r2 = 0 → ((¬ (S1.1 50 6) = (160 : Int32) → (vp_in (S1.1 50 6) 160 ∧ Q ((S1.1 50 6) + (1 : Int32)) (ri_wi (ri_wi S1 53 ((S1.1 50 6)).toNatClampNeg a) 50 6 ((S1.1 50 6) + (1 : Int32))))) ∧ (¬ (¬ (S1.1 50 6) = (160 : Int32)) → Q (-4 : Int32) S1))) ∧ (¬ (¬ r2 = 0) → Q (-2 : Int32) S1)))
set_option maxRecDepth 10000 in
set_option maxHeartbeats 1000000 in
theorem wt115 {E : ri_E} (a : Int32) {S : ri_H} {Q : Int32 → ri_H → Prop} (h : w115  a S Q) : ri_A E 1 (ri_en 115 [.ref 50, .int a]) S (Qi Q) := by
  unfold w115 at h
  show ri_A E 1 (115, 0, [some (.ref 50), some (.int a)], []) S (Qi Q)
  refine A_call (j := 102) (As := [.long (a).toInt64, .long (0 : Int64), .long (255 : Int64)]) (fr' := (115, 9, [some (.ref 50), some (.int a)], [])) (S' := S) 5 rfl (e := 0) (by omega) (A_imp (wt102 (a).toInt64 (0 : Int64) (255 : Int64) h) (fun v S1 hq => ?_))
  obtain ⟨r2, hv, h⟩ := hq
  subst hv
  refine A_br (¬ r2 = 0) (r1 := ((115, 15, [some (.ref 50), some (.int a)], []), S1)) (r2 := ((115, 12, [some (.ref 50), some (.int a)], []), S1)) 1 rfl (fun c => ?_) (fun c => ?_)
  · have h := h.1 c
    refine A_br (¬ (S1.1 50 6) = (160 : Int32)) (r1 := ((115, 28, [some (.ref 50), some (.int a)], []), S1)) (r2 := ((115, 25, [some (.ref 50), some (.int a)], []), S1)) 4 rfl (fun c => ?_) (fun c => ?_)
    · have h := h.1 c
      refine A_ix (S1.1 50 6) 160 (r1 := ((115, 38, [some (.ref 50), some (.int a)], []), (ri_wi S1 53 ((S1.1 50 6)).toNatClampNeg a))) 6 rfl h.1 ?_
      have h := h.2
      exact A_ret 9 (m := 115) (v := some (.int ((S1.1 50 6) + (1 : Int32)))) (S' := (ri_wi (ri_wi S1 53 ((S1.1 50 6)).toNatClampNeg a) 50 6 ((S1.1 50 6) + (1 : Int32)))) rfl rfl ⟨_, rfl, h⟩
    · have h := h.2 c
      exact A_ret 2 (m := 115) (v := some (.int (-4 : Int32))) (S' := S1) rfl rfl ⟨_, rfl, h⟩
  · have h := h.2 c
    exact A_ret 2 (m := 115) (v := some (.int (-2 : Int32))) (S' := S1) rfl rfl ⟨_, rfl, h⟩
/-! X5_text, depth 59 -/
def w162_l14 (Q : Int32 → ri_H → Prop) : Nat → Int32 → ri_H → Prop
  | 0, _, _ => False
  | n + 1, x1, S => (((S.1 50 6) ≤ x1 → (vp_in (S.1 50 3) 6 ∧ w161 (S.1 50 3) (0 : Int32) (ri_wi (ri_wi S 52 ((S.1 50 3)).toNatClampNeg (S.1 50 6)) 50 6 (0 : Int32)) (fun (r2 : Int32) (S1 : ri_H) => (((S1.1 50 25) = 0 → Q (((S1.1 50 3) + (1 : Int32)) - (1 : Int32)) (ri_wi S1 50 3 ((S1.1 50 3) + (1 : Int32)))) ∧ (¬ (S1.1 50 25) = 0 → Q ((-100 : Int32) - (S1.1 50 26)) S1))))) ∧ (¬ (S.1 50 6) ≤ x1 → (vp_in x1 160 ∧ (vp_in (((160 : Int32) * (S.1 50 3)) + x1) 960 ∧ w162_l14   Q n (x1 + (1 : Int32)) (ri_wi S 51 ((((160 : Int32) * (S.1 50 3)) + x1)).toNatClampNeg (S.1 53 (x1).toNatClampNeg))))))
set_option maxRecDepth 10000 in
set_option maxHeartbeats 1000000 in
theorem wt162_l14 {E : ri_E} {Q : Int32 → ri_H → Prop} : ∀ (n : Nat) (x1 : Int32) (S : ri_H), w162_l14   Q n x1 S → ri_A E 59 (162, 14, [some (.ref 50), some (.int x1)], []) S (Qi Q) := by
  intro n
  induction n with
  | zero => intro x1 S h; exact h.elim
  | succ n ih =>
    intro x1 S h
    unfold w162_l14 at h
    refine A_br ((S.1 50 6) ≤ x1) (r1 := ((162, 49, [some (.ref 50), some (.int x1)], []), S)) (r2 := ((162, 22, [some (.ref 50), some (.int x1)], []), S)) 4 rfl (fun c => ?_) (fun c => ?_)
    · have h := h.1 c
      refine A_ix (S.1 50 3) 6 (r1 := ((162, 62, [some (.ref 50), some (.int x1)], []), (ri_wi S 52 ((S.1 50 3)).toNatClampNeg (S.1 50 6)))) 7 rfl h.1 ?_
      have h := h.2
      refine A_call (j := 161) (As := [.ref 50, .int (S.1 50 3), .int (0 : Int32)]) (fr' := (162, 76, [some (.ref 50), some (.int x1)], [])) (S' := (ri_wi (ri_wi S 52 ((S.1 50 3)).toNatClampNeg (S.1 50 6)) 50 6 (0 : Int32))) 8 rfl (e := 58) (by omega) (A_imp (wt161 (S.1 50 3) (0 : Int32) h) (fun v S1 hq => ?_))
      obtain ⟨r2, hv, h⟩ := hq
      subst hv
      refine A_br ((S1.1 50 25) = 0) (r1 := ((162, 92, [some (.ref 50), some (.int r2)], []), S1)) (r2 := ((162, 84, [some (.ref 50), some (.int r2)], []), S1)) 4 rfl (fun c => ?_) (fun c => ?_)
      · have h := h.1 c
        exact A_ret 11 (m := 162) (v := some (.int (((S1.1 50 3) + (1 : Int32)) - (1 : Int32)))) (S' := (ri_wi S1 50 3 ((S1.1 50 3) + (1 : Int32)))) rfl rfl ⟨_, rfl, h⟩
      · have h := h.2 c
        exact A_ret 5 (m := 162) (v := some (.int ((-100 : Int32) - (S1.1 50 26)))) (S' := S1) rfl rfl ⟨_, rfl, h⟩
    · have h := h.2 c
      refine A_ix x1 160 (r1 := ((162, 42, [some (.ref 50), some (.int x1)], [.int (S.1 53 (x1).toNatClampNeg), .int (((160 : Int32) * (S.1 50 3)) + x1), .ref 51]), S)) 12 rfl h.1 ?_
      have h := h.2
      refine A_ix (((160 : Int32) * (S.1 50 3)) + x1) 960 (r1 := ((162, 43, [some (.ref 50), some (.int x1)], []), (ri_wi S 51 ((((160 : Int32) * (S.1 50 3)) + x1)).toNatClampNeg (S.1 53 (x1).toNatClampNeg)))) 1 rfl h.1 ?_
      have h := h.2
      refine A_nx 2 (fr' := (162, 14, [some (.ref 50), some (.int (x1 + (1 : Int32)))], [])) (S' := (ri_wi S 51 ((((160 : Int32) * (S.1 50 3)) + x1)).toNatClampNeg (S.1 53 (x1).toNatClampNeg))) rfl ?_
      refine ri_A.less (m := 162) (pc := 14) (L := [some (.ref 50), some (.int (x1 + (1 : Int32)))]) (L' := [some (.ref 50), some (.int (x1 + (1 : Int32)))]) (st := []) ⟨rfl, ⟨rfl, trivial⟩⟩ ?_
      exact ih _ _ h
def w162  (S : ri_H) (Q : Int32 → ri_H → Prop) : Prop := ((¬ (S.1 50 3) = (6 : Int32) → ∃ nn, w162_l14   Q nn (0 : Int32) S) ∧ (¬ (¬ (S.1 50 3) = (6 : Int32)) → Q (-4 : Int32) S))
set_option maxRecDepth 10000 in
set_option maxHeartbeats 1000000 in
theorem wt162 {E : ri_E}  {S : ri_H} {Q : Int32 → ri_H → Prop} (h : w162   S Q) : ri_A E 59 (ri_en 162 [.ref 50]) S (Qi Q) := by
  unfold w162 at h
  show ri_A E 59 (162, 0, [some (.ref 50), none], []) S (Qi Q)
  refine A_br (¬ (S.1 50 3) = (6 : Int32)) (r1 := ((162, 12, [some (.ref 50), none], []), S)) (r2 := ((162, 9, [some (.ref 50), none], []), S)) 4 rfl (fun c => ?_) (fun c => ?_)
  · have h := h.1 c
    refine A_nx 2 (fr' := (162, 14, [some (.ref 50), some (.int (0 : Int32))], [])) (S' := S) rfl ?_
    refine ri_A.less (m := 162) (pc := 14) (L := [some (.ref 50), some (.int (0 : Int32))]) (L' := [some (.ref 50), some (.int (0 : Int32))]) (st := []) ⟨rfl, ⟨rfl, trivial⟩⟩ ?_
    obtain ⟨nn, h⟩ := h
    exact wt162_l14   nn _ _ h
  · have h := h.2 c
    exact A_ret 2 (m := 162) (v := some (.int (-4 : Int32))) (S' := S) rfl rfl ⟨_, rfl, h⟩
/-! X5_force, depth 1 -/
def w163 (a : Int32) (S : ri_H) (Q : Int32 → ri_H → Prop) : Prop := w102 (a).toInt64 (0 : Int64) (((S.1 50 3) - (1 : Int32))).toInt64 S (fun (r2 : Int32) (S1 : ri_H) => ((¬ r2 = 0 → Q (S1.1 50 4) (ri_wi S1 50 4 a)) ∧ (¬ (¬ r2 = 0) → Q (-2 : Int32) S1)))
set_option maxRecDepth 10000 in
set_option maxHeartbeats 1000000 in
theorem wt163 {E : ri_E} (a : Int32) {S : ri_H} {Q : Int32 → ri_H → Prop} (h : w163  a S Q) : ri_A E 1 (ri_en 163 [.ref 50, .int a]) S (Qi Q) := by
  unfold w163 at h
  show ri_A E 1 (163, 0, [some (.ref 50), some (.int a), none], []) S (Qi Q)
  refine A_call (j := 102) (As := [.long (a).toInt64, .long (0 : Int64), .long (((S.1 50 3) - (1 : Int32))).toInt64]) (fr' := (163, 13, [some (.ref 50), some (.int a), none], [])) (S' := S) 9 rfl (e := 0) (by omega) (A_imp (wt102 (a).toInt64 (0 : Int64) (((S.1 50 3) - (1 : Int32))).toInt64 h) (fun v S1 hq => ?_))
  obtain ⟨r2, hv, h⟩ := hq
  subst hv
  refine A_br (¬ r2 = 0) (r1 := ((163, 19, [some (.ref 50), some (.int a), none], []), S1)) (r2 := ((163, 16, [some (.ref 50), some (.int a), none], []), S1)) 1 rfl (fun c => ?_) (fun c => ?_)
  · have h := h.1 c
    exact A_ret 8 (m := 163) (v := some (.int (S1.1 50 4))) (S' := (ri_wi S1 50 4 a)) rfl rfl ⟨_, rfl, h⟩
  · have h := h.2 c
    exact A_ret 2 (m := 163) (v := some (.int (-2 : Int32))) (S' := S1) rfl rfl ⟨_, rfl, h⟩
/-! X5_feelsOf, depth 60 -/
def w167_b62 (Q : Int32 → ri_H → Prop) (x1 : Int32) (x3 : Int32) (x4 : Int32) (x5 : Int32) (s0 : Int32) (S : ri_H) : Prop := ((¬ x3 = (1 : Int32) → ((¬ x3 = (3 : Int32) → ((¬ x3 = (2 : Int32) → ((¬ x3 = (4 : Int32) → Q x4 S) ∧ (¬ (¬ x3 = (4 : Int32)) → (vp_in ((5 : Int32) * x1) 25 ∧ Q (s0 + (S.1 56 (((5 : Int32) * x1)).toNatClampNeg)) S)))) ∧ (¬ (¬ x3 = (2 : Int32)) → Q s0 S))) ∧ (¬ (¬ x3 = (3 : Int32)) → Q ((2 : Int32) * x5) S))) ∧ (¬ (¬ x3 = (1 : Int32)) → Q x5 S))
set_option maxRecDepth 10000 in
set_option maxHeartbeats 1000000 in
theorem wt167_b62 {E : ri_E} {Q : Int32 → ri_H → Prop} (x1 : Int32) (x3 : Int32) (x4 : Int32) (x5 : Int32) (s0 : Int32) (S : ri_H) (h : w167_b62   Q x1 x3 x4 x5 s0 S) : ri_A E 60 (167, 62, [some (.ref 50), some (.int x1), none, some (.int x3), some (.int x4), some (.int x5), none], [.int s0]) S (Qi Q) := by
  unfold w167_b62 at h
  refine A_br (¬ x3 = (1 : Int32)) (r1 := ((167, 74, [some (.ref 50), some (.int x1), none, some (.int x3), some (.int x4), some (.int x5), some (.int s0)], []), S)) (r2 := ((167, 69, [some (.ref 50), some (.int x1), none, some (.int x3), some (.int x4), some (.int x5), some (.int s0)], []), S)) 4 rfl (fun c => ?_) (fun c => ?_)
  · have h := h.1 c
    refine A_br (¬ x3 = (3 : Int32)) (r1 := ((167, 86, [some (.ref 50), some (.int x1), none, some (.int x3), some (.int x4), some (.int x5), some (.int s0)], []), S)) (r2 := ((167, 79, [some (.ref 50), some (.int x1), none, some (.int x3), some (.int x4), some (.int x5), some (.int s0)], []), S)) 3 rfl (fun c => ?_) (fun c => ?_)
    · have h := h.1 c
      refine A_br (¬ x3 = (2 : Int32)) (r1 := ((167, 96, [some (.ref 50), some (.int x1), none, some (.int x3), some (.int x4), some (.int x5), some (.int s0)], []), S)) (r2 := ((167, 91, [some (.ref 50), some (.int x1), none, some (.int x3), some (.int x4), some (.int x5), some (.int s0)], []), S)) 3 rfl (fun c => ?_) (fun c => ?_)
      · have h := h.1 c
        refine A_br (¬ x3 = (4 : Int32)) (r1 := ((167, 115, [some (.ref 50), some (.int x1), none, some (.int x3), some (.int x4), some (.int x5), some (.int s0)], []), S)) (r2 := ((167, 101, [some (.ref 50), some (.int x1), none, some (.int x3), some (.int x4), some (.int x5), some (.int s0)], []), S)) 3 rfl (fun c => ?_) (fun c => ?_)
        · have h := h.1 c
          exact A_ret 2 (m := 167) (v := some (.int x4)) (S' := S) rfl rfl ⟨_, rfl, h⟩
        · have h := h.2 c
          refine A_ix ((5 : Int32) * x1) 25 (r1 := ((167, 111, [some (.ref 50), some (.int x1), none, some (.int x3), some (.int x4), some (.int x5), some (.int s0)], [.int (S.1 56 (((5 : Int32) * x1)).toNatClampNeg), .int s0]), S)) 7 rfl h.1 ?_
          have h := h.2
          exact A_ret 3 (m := 167) (v := some (.int (s0 + (S.1 56 (((5 : Int32) * x1)).toNatClampNeg)))) (S' := S) rfl rfl ⟨_, rfl, h⟩
      · have h := h.2 c
        exact A_ret 3 (m := 167) (v := some (.int s0)) (S' := S) rfl rfl ⟨_, rfl, h⟩
    · have h := h.2 c
      exact A_ret 5 (m := 167) (v := some (.int ((2 : Int32) * x5))) (S' := S) rfl rfl ⟨_, rfl, h⟩
  · have h := h.2 c
    exact A_ret 3 (m := 167) (v := some (.int x5)) (S' := S) rfl rfl ⟨_, rfl, h⟩
def w167_b38 (Q : Int32 → ri_H → Prop) (x1 : Int32) (x3 : Int32) (x4 : Int32) (s0 : Int32) (S : ri_H) : Prop := (vp_in (((5 : Int32) * x1) + (3 : Int32)) 25 ∧ (((S.1 56 ((((5 : Int32) * x1) + (3 : Int32))).toNatClampNeg) ≤ (2 : Int32) → w167_b62   Q x1 x3 x4 s0 x4 S) ∧ (¬ (S.1 56 ((((5 : Int32) * x1) + (3 : Int32))).toNatClampNeg) ≤ (2 : Int32) → w167_b62   Q x1 x3 x4 s0 (-x4) S)))
set_option maxRecDepth 10000 in
set_option maxHeartbeats 1000000 in
theorem wt167_b38 {E : ri_E} {Q : Int32 → ri_H → Prop} (x1 : Int32) (x3 : Int32) (x4 : Int32) (s0 : Int32) (S : ri_H) (h : w167_b38   Q x1 x3 x4 s0 S) : ri_A E 60 (167, 38, [some (.ref 50), some (.int x1), none, some (.int x3), some (.int x4), none, none], [.int s0]) S (Qi Q) := by
  unfold w167_b38 at h
  refine A_ix (((5 : Int32) * x1) + (3 : Int32)) 25 (r1 := ((167, 50, [some (.ref 50), some (.int x1), none, some (.int x3), some (.int x4), some (.int s0), none], [.int (S.1 56 ((((5 : Int32) * x1) + (3 : Int32))).toNatClampNeg)]), S)) 9 rfl h.1 ?_
  have h := h.2
  refine A_br ((S.1 56 ((((5 : Int32) * x1) + (3 : Int32))).toNatClampNeg) ≤ (2 : Int32)) (r1 := ((167, 60, [some (.ref 50), some (.int x1), none, some (.int x3), some (.int x4), some (.int s0), none], []), S)) (r2 := ((167, 54, [some (.ref 50), some (.int x1), none, some (.int x3), some (.int x4), some (.int s0), none], []), S)) 2 rfl (fun c => ?_) (fun c => ?_)
  · have h := h.1 c
    refine A_nx 1 (fr' := (167, 62, [some (.ref 50), some (.int x1), none, some (.int x3), some (.int x4), some (.int s0), none], [.int x4])) (S' := S) rfl ?_
    refine ri_A.less (m := 167) (pc := 62) (L := [some (.ref 50), some (.int x1), none, some (.int x3), some (.int x4), some (.int s0), none]) (L' := [some (.ref 50), some (.int x1), none, some (.int x3), some (.int x4), some (.int s0), none]) (st := [.int x4]) ⟨rfl, ⟨rfl, ⟨rfl, ⟨rfl, ⟨rfl, trivial⟩⟩⟩⟩⟩ ?_
    exact wt167_b62   _ _ _ _ _ _ h
  · have h := h.2 c
    refine A_nx 3 (fr' := (167, 62, [some (.ref 50), some (.int x1), none, some (.int x3), some (.int x4), some (.int s0), none], [.int (-x4)])) (S' := S) rfl ?_
    refine ri_A.less (m := 167) (pc := 62) (L := [some (.ref 50), some (.int x1), none, some (.int x3), some (.int x4), some (.int s0), none]) (L' := [some (.ref 50), some (.int x1), none, some (.int x3), some (.int x4), some (.int s0), none]) (st := [.int (-x4)]) ⟨rfl, ⟨rfl, ⟨rfl, ⟨rfl, ⟨rfl, trivial⟩⟩⟩⟩⟩ ?_
    exact wt167_b62   _ _ _ _ _ _ h
def w167 (a : Int32) (b : Int32) (S : ri_H) (Q : Int32 → ri_H → Prop) : Prop := (vp_in (((5 : Int32) * a) + (4 : Int32)) 25 ∧ ((¬ (S.1 56 ((((5 : Int32) * a) + (4 : Int32))).toNatClampNeg) = (5 : Int32) → w164 (2 : Int32) a b S (fun (r2 : Int32) (S1 : ri_H) => ((0 ≤ r2 → w167_b38   Q a (S.1 56 ((((5 : Int32) * a) + (4 : Int32))).toNatClampNeg) r2 r2 S1) ∧ (¬ (0 ≤ r2) → w167_b38   Q a (S.1 56 ((((5 : Int32) * a) + (4 : Int32))).toNatClampNeg) r2 (0 : Int32) S1)))) ∧ (¬ (¬ (S.1 56 ((((5 : Int32) * a) + (4 : Int32))).toNatClampNeg) = (5 : Int32)) → Q (0 : Int32) S)))
set_option maxRecDepth 10000 in
set_option maxHeartbeats 1000000 in
theorem wt167 {E : ri_E} (a : Int32) (b : Int32) {S : ri_H} {Q : Int32 → ri_H → Prop} (h : w167  a b S Q) : ri_A E 60 (ri_en 167 [.ref 50, .int a, .int b]) S (Qi Q) := by
  unfold w167 at h
  show ri_A E 60 (167, 0, [some (.ref 50), some (.int a), some (.int b), none, none, none, none], []) S (Qi Q)
  refine A_ix (((5 : Int32) * a) + (4 : Int32)) 25 (r1 := ((167, 10, [some (.ref 50), some (.int a), some (.int b), none, none, none, none], [.int (S.1 56 ((((5 : Int32) * a) + (4 : Int32))).toNatClampNeg)]), S)) 8 rfl h.1 ?_
  have h := h.2
  refine A_br (¬ (S.1 56 ((((5 : Int32) * a) + (4 : Int32))).toNatClampNeg) = (5 : Int32)) (r1 := ((167, 18, [some (.ref 50), some (.int a), some (.int b), some (.int (S.1 56 ((((5 : Int32) * a) + (4 : Int32))).toNatClampNeg)), none, none, none], []), S)) (r2 := ((167, 16, [some (.ref 50), some (.int a), some (.int b), some (.int (S.1 56 ((((5 : Int32) * a) + (4 : Int32))).toNatClampNeg)), none, none, none], []), S)) 4 rfl (fun c => ?_) (fun c => ?_)
  · have h := h.1 c
    refine A_call (j := 164) (As := [.ref 50, .int (2 : Int32), .int a, .int b]) (fr' := (167, 25, [some (.ref 50), some (.int a), some (.int b), some (.int (S.1 56 ((((5 : Int32) * a) + (4 : Int32))).toNatClampNeg)), none, none, none], [])) (S' := S) 5 rfl (e := 59) (by omega) (A_imp (wt164 (2 : Int32) a b h) (fun v S1 hq => ?_))
    obtain ⟨r2, hv, h⟩ := hq
    subst hv
    refine A_br (0 ≤ r2) (r1 := ((167, 36, [some (.ref 50), some (.int a), some (.int b), some (.int (S.1 56 ((((5 : Int32) * a) + (4 : Int32))).toNatClampNeg)), some (.int r2), none, none], []), S1)) (r2 := ((167, 32, [some (.ref 50), some (.int a), some (.int b), some (.int (S.1 56 ((((5 : Int32) * a) + (4 : Int32))).toNatClampNeg)), some (.int r2), none, none], []), S1)) 3 rfl (fun c => ?_) (fun c => ?_)
    · have h := h.1 c
      refine A_nx 1 (fr' := (167, 38, [some (.ref 50), some (.int a), some (.int b), some (.int (S.1 56 ((((5 : Int32) * a) + (4 : Int32))).toNatClampNeg)), some (.int r2), none, none], [.int r2])) (S' := S1) rfl ?_
      refine ri_A.less (m := 167) (pc := 38) (L := [some (.ref 50), some (.int a), some (.int b), some (.int (S.1 56 ((((5 : Int32) * a) + (4 : Int32))).toNatClampNeg)), some (.int r2), none, none]) (L' := [some (.ref 50), some (.int a), none, some (.int (S.1 56 ((((5 : Int32) * a) + (4 : Int32))).toNatClampNeg)), some (.int r2), none, none]) (st := [.int r2]) ⟨rfl, ⟨rfl, ⟨rfl, ⟨rfl, trivial⟩⟩⟩⟩ ?_
      exact wt167_b38   _ _ _ _ _ h
    · have h := h.2 c
      refine A_nx 2 (fr' := (167, 38, [some (.ref 50), some (.int a), some (.int b), some (.int (S.1 56 ((((5 : Int32) * a) + (4 : Int32))).toNatClampNeg)), some (.int r2), none, none], [.int (0 : Int32)])) (S' := S1) rfl ?_
      refine ri_A.less (m := 167) (pc := 38) (L := [some (.ref 50), some (.int a), some (.int b), some (.int (S.1 56 ((((5 : Int32) * a) + (4 : Int32))).toNatClampNeg)), some (.int r2), none, none]) (L' := [some (.ref 50), some (.int a), none, some (.int (S.1 56 ((((5 : Int32) * a) + (4 : Int32))).toNatClampNeg)), some (.int r2), none, none]) (st := [.int (0 : Int32)]) ⟨rfl, ⟨rfl, ⟨rfl, ⟨rfl, trivial⟩⟩⟩⟩ ?_
      exact wt167_b38   _ _ _ _ _ h
  · have h := h.2 c
    exact A_ret 2 (m := 167) (v := some (.int (0 : Int32))) (S' := S) rfl rfl ⟨_, rfl, h⟩
/-! X5_tastes, depth 61 -/
def w168 (a : Int32) (b : Int32) (S : ri_H) (Q : Int32 → ri_H → Prop) : Prop := w104 a S (fun (r2 : Int32) (S1 : ri_H) => ((r2 = 0 → Q (-1000 : Int32) S1) ∧ (¬ (r2 = 0) → w106 b S1 (fun (r4 : Int32) (S3 : ri_H) => ((r4 = 0 → Q (-1000 : Int32) S3) ∧ (¬ (r4 = 0) → w167 a b S3 (fun (r6 : Int32) (S5 : ri_H) => Q r6 S5)))))))
set_option maxRecDepth 10000 in
set_option maxHeartbeats 1000000 in
theorem wt168 {E : ri_E} (a : Int32) (b : Int32) {S : ri_H} {Q : Int32 → ri_H → Prop} (h : w168  a b S Q) : ri_A E 61 (ri_en 168 [.ref 50, .int a, .int b]) S (Qi Q) := by
  unfold w168 at h
  show ri_A E 61 (168, 0, [some (.ref 50), some (.int a), some (.int b)], []) S (Qi Q)
  refine A_call (j := 104) (As := [.ref 50, .int a]) (fr' := (168, 5, [some (.ref 50), some (.int a), some (.int b)], [])) (S' := S) 3 rfl (e := 1) (by omega) (A_imp (wt104 a h) (fun v S1 hq => ?_))
  obtain ⟨r2, hv, h⟩ := hq
  subst hv
  refine A_br (r2 = 0) (r1 := ((168, 24, [some (.ref 50), some (.int a), some (.int b)], []), S1)) (r2 := ((168, 8, [some (.ref 50), some (.int a), some (.int b)], []), S1)) 1 rfl (fun c => ?_) (fun c => ?_)
  · have h := h.1 c
    exact A_ret 2 (m := 168) (v := some (.int (-1000 : Int32))) (S' := S1) rfl rfl ⟨_, rfl, h⟩
  · have h := h.2 c
    refine A_call (j := 106) (As := [.int b]) (fr' := (168, 12, [some (.ref 50), some (.int a), some (.int b)], [])) (S' := S1) 2 rfl (e := 1) (by omega) (A_imp (wt106 b h) (fun v S3 hq => ?_))
    obtain ⟨r4, hv, h⟩ := hq
    subst hv
    refine A_br (r4 = 0) (r1 := ((168, 24, [some (.ref 50), some (.int a), some (.int b)], []), S3)) (r2 := ((168, 15, [some (.ref 50), some (.int a), some (.int b)], []), S3)) 1 rfl (fun c => ?_) (fun c => ?_)
    · have h := h.1 c
      exact A_ret 2 (m := 168) (v := some (.int (-1000 : Int32))) (S' := S3) rfl rfl ⟨_, rfl, h⟩
    · have h := h.2 c
      refine A_call (j := 167) (As := [.ref 50, .int a, .int b]) (fr' := (168, 21, [some (.ref 50), some (.int a), some (.int b)], [])) (S' := S3) 4 rfl (e := 60) (by omega) (A_imp (wt167 a b h) (fun v S5 hq => ?_))
      obtain ⟨r6, hv, h⟩ := hq
      subst hv
      exact A_ret 2 (m := 168) (v := some (.int r6)) (S' := S5) rfl rfl ⟨_, rfl, h⟩
/-! X5_jarsAll, depth 0 -/
def w169_l4 (Q : Int32 → ri_H → Prop) : Nat → Int32 → Int32 → ri_H → Prop
  | 0, _, _, _ => False
  | n + 1, x1, x2, S => (((24 : Int32) ≤ x2 → Q x1 S) ∧ (¬ (24 : Int32) ≤ x2 → (vp_in x2 24 ∧ w169_l4   Q n (x1 + (S.1 55 (x2).toNatClampNeg)) (x2 + (1 : Int32)) S)))
set_option maxRecDepth 10000 in
set_option maxHeartbeats 1000000 in
theorem wt169_l4 {E : ri_E} {Q : Int32 → ri_H → Prop} : ∀ (n : Nat) (x1 : Int32) (x2 : Int32) (S : ri_H), w169_l4   Q n x1 x2 S → ri_A E 0 (169, 4, [some (.ref 50), some (.int x1), some (.int x2)], []) S (Qi Q) := by
  intro n
  induction n with
  | zero => intro x1 x2 S h; exact h.elim
  | succ n ih =>
    intro x1 x2 S h
    unfold w169_l4 at h
    refine A_br ((24 : Int32) ≤ x2) (r1 := ((169, 25, [some (.ref 50), some (.int x1), some (.int x2)], []), S)) (r2 := ((169, 10, [some (.ref 50), some (.int x1), some (.int x2)], []), S)) 3 rfl (fun c => ?_) (fun c => ?_)
    · have h := h.1 c
      exact A_ret 2 (m := 169) (v := some (.int x1)) (S' := S) rfl rfl ⟨_, rfl, h⟩
    · have h := h.2 c
      refine A_ix x2 24 (r1 := ((169, 17, [some (.ref 50), some (.int x1), some (.int x2)], [.int (S.1 55 (x2).toNatClampNeg), .int x1]), S)) 5 rfl h.1 ?_
      have h := h.2
      refine A_nx 4 (fr' := (169, 4, [some (.ref 50), some (.int (x1 + (S.1 55 (x2).toNatClampNeg))), some (.int (x2 + (1 : Int32)))], [])) (S' := S) rfl ?_
      refine ri_A.less (m := 169) (pc := 4) (L := [some (.ref 50), some (.int (x1 + (S.1 55 (x2).toNatClampNeg))), some (.int (x2 + (1 : Int32)))]) (L' := [some (.ref 50), some (.int (x1 + (S.1 55 (x2).toNatClampNeg))), some (.int (x2 + (1 : Int32)))]) (st := []) ⟨rfl, ⟨rfl, ⟨rfl, trivial⟩⟩⟩ ?_
      exact ih _ _ _ h
def w169  (S : ri_H) (Q : Int32 → ri_H → Prop) : Prop := ∃ nn, w169_l4   Q nn (0 : Int32) (0 : Int32) S
set_option maxRecDepth 10000 in
set_option maxHeartbeats 1000000 in
theorem wt169 {E : ri_E}  {S : ri_H} {Q : Int32 → ri_H → Prop} (h : w169   S Q) : ri_A E 0 (ri_en 169 [.ref 50]) S (Qi Q) := by
  unfold w169 at h
  show ri_A E 0 (169, 0, [some (.ref 50), none, none], []) S (Qi Q)
  refine A_nx 4 (fr' := (169, 4, [some (.ref 50), some (.int (0 : Int32)), some (.int (0 : Int32))], [])) (S' := S) rfl ?_
  refine ri_A.less (m := 169) (pc := 4) (L := [some (.ref 50), some (.int (0 : Int32)), some (.int (0 : Int32))]) (L' := [some (.ref 50), some (.int (0 : Int32)), some (.int (0 : Int32))]) (st := []) ⟨rfl, ⟨rfl, ⟨rfl, trivial⟩⟩⟩ ?_
  obtain ⟨nn, h⟩ := h
  exact wt169_l4   nn _ _ _ h
/-! X5_goes, depth 61 -/
def w170 (a : Int32) (b : Int32) (S : ri_H) (Q : ri_H → Prop) : Prop := w165 a S (fun (r2 : Int32) (S1 : ri_H) => w166 a S1 (fun (r4 : Int32) (S3 : ri_H) => w114 a S3 (fun (r6 : Int32) (S5 : ri_H) => (vp_in ((((2 : Int32) * r6) + (1 : Int32)) - (r2 ^^^ b)) 24 ∧ w103 ((S5.1 55 (((((2 : Int32) * r6) + (1 : Int32)) - (r2 ^^^ b))).toNatClampNeg) + r4) (0 : Int32) (999 : Int32) S5 (fun (r8 : Int32) (S7 : ri_H) => (vp_in ((((2 : Int32) * r6) + (1 : Int32)) - (r2 ^^^ b)) 24 ∧ (vp_in (((2 : Int32) * r6) + (r2 ^^^ b)) 24 ∧ (vp_in (((5 : Int32) * a) + (1 : Int32)) 25 ∧ Q (ri_wi (ri_wi S7 55 (((((2 : Int32) * r6) + (1 : Int32)) - (r2 ^^^ b))).toNatClampNeg r8) 56 ((((5 : Int32) * a) + (1 : Int32))).toNatClampNeg (S7.1 54 ((((2 : Int32) * r6) + (r2 ^^^ b))).toNatClampNeg))))))))))
set_option maxRecDepth 10000 in
set_option maxHeartbeats 1000000 in
theorem wt170 {E : ri_E} (a : Int32) (b : Int32) {S : ri_H} {Q : ri_H → Prop} (h : w170  a b S Q) : ri_A E 61 (ri_en 170 [.ref 50, .int a, .int b]) S (Qv Q) := by
  unfold w170 at h
  show ri_A E 61 (170, 0, [some (.ref 50), some (.int a), some (.int b), none, none, none, none], []) S (Qv Q)
  refine A_call (j := 165) (As := [.ref 50, .int a]) (fr' := (170, 5, [some (.ref 50), some (.int a), some (.int b), none, none, none, none], [])) (S' := S) 3 rfl (e := 60) (by omega) (A_imp (wt165 a h) (fun v S1 hq => ?_))
  obtain ⟨r2, hv, h⟩ := hq
  subst hv
  refine A_call (j := 166) (As := [.ref 50, .int a]) (fr' := (170, 13, [some (.ref 50), some (.int a), some (.int b), some (.int (r2 ^^^ b)), none, none, none], [])) (S' := S1) 6 rfl (e := 60) (by omega) (A_imp (wt166 a h) (fun v S3 hq => ?_))
  obtain ⟨r4, hv, h⟩ := hq
  subst hv
  refine A_call (j := 114) (As := [.ref 50, .int a]) (fr' := (170, 20, [some (.ref 50), some (.int a), some (.int b), some (.int (r2 ^^^ b)), some (.int r4), none, none], [])) (S' := S3) 4 rfl (e := 0) (by omega) (A_imp (wt114 a h) (fun v S5 hq => ?_))
  obtain ⟨r6, hv, h⟩ := hq
  subst hv
  refine A_ix ((((2 : Int32) * r6) + (1 : Int32)) - (r2 ^^^ b)) 24 (r1 := ((170, 45, [some (.ref 50), some (.int a), some (.int b), some (.int (r2 ^^^ b)), some (.int r4), some (.int r6), some (.int ((((2 : Int32) * r6) + (1 : Int32)) - (r2 ^^^ b)))], [.int (S5.1 55 (((((2 : Int32) * r6) + (1 : Int32)) - (r2 ^^^ b))).toNatClampNeg), .int ((((2 : Int32) * r6) + (1 : Int32)) - (r2 ^^^ b)), .ref 55]), S5)) 16 rfl h.1 ?_
  have h := h.2
  refine A_call (j := 103) (As := [.int ((S5.1 55 (((((2 : Int32) * r6) + (1 : Int32)) - (r2 ^^^ b))).toNatClampNeg) + r4), .int (0 : Int32), .int (999 : Int32)]) (fr' := (170, 55, [some (.ref 50), some (.int a), some (.int b), some (.int (r2 ^^^ b)), some (.int r4), some (.int r6), some (.int ((((2 : Int32) * r6) + (1 : Int32)) - (r2 ^^^ b)))], [.int ((((2 : Int32) * r6) + (1 : Int32)) - (r2 ^^^ b)), .ref 55])) (S' := S5) 5 rfl (e := 0) (by omega) (A_imp (wt103 ((S5.1 55 (((((2 : Int32) * r6) + (1 : Int32)) - (r2 ^^^ b))).toNatClampNeg) + r4) (0 : Int32) (999 : Int32) h) (fun v S7 hq => ?_))
  obtain ⟨r8, hv, h⟩ := hq
  subst hv
  refine A_ix ((((2 : Int32) * r6) + (1 : Int32)) - (r2 ^^^ b)) 24 (r1 := ((170, 56, [some (.ref 50), some (.int a), some (.int b), some (.int (r2 ^^^ b)), some (.int r4), some (.int r6), some (.int ((((2 : Int32) * r6) + (1 : Int32)) - (r2 ^^^ b)))], []), (ri_wi S7 55 (((((2 : Int32) * r6) + (1 : Int32)) - (r2 ^^^ b))).toNatClampNeg r8))) 1 rfl h.1 ?_
  have h := h.2
  refine A_ix (((2 : Int32) * r6) + (r2 ^^^ b)) 24 (r1 := ((170, 76, [some (.ref 50), some (.int a), some (.int b), some (.int (r2 ^^^ b)), some (.int r4), some (.int r6), some (.int ((((2 : Int32) * r6) + (1 : Int32)) - (r2 ^^^ b)))], [.int (S7.1 54 ((((2 : Int32) * r6) + (r2 ^^^ b))).toNatClampNeg), .int (((5 : Int32) * a) + (1 : Int32)), .ref 56]), (ri_wi S7 55 (((((2 : Int32) * r6) + (1 : Int32)) - (r2 ^^^ b))).toNatClampNeg r8))) 15 rfl h.1 ?_
  have h := h.2
  refine A_ix (((5 : Int32) * a) + (1 : Int32)) 25 (r1 := ((170, 77, [some (.ref 50), some (.int a), some (.int b), some (.int (r2 ^^^ b)), some (.int r4), some (.int r6), some (.int ((((2 : Int32) * r6) + (1 : Int32)) - (r2 ^^^ b)))], []), (ri_wi (ri_wi S7 55 (((((2 : Int32) * r6) + (1 : Int32)) - (r2 ^^^ b))).toNatClampNeg r8) 56 ((((5 : Int32) * a) + (1 : Int32))).toNatClampNeg (S7.1 54 ((((2 : Int32) * r6) + (r2 ^^^ b))).toNatClampNeg)))) 1 rfl h.1 ?_
  have h := h.2
  exact A_ret 1 (m := 170) (v := none) (S' := (ri_wi (ri_wi S7 55 (((((2 : Int32) * r6) + (1 : Int32)) - (r2 ^^^ b))).toNatClampNeg r8) 56 ((((5 : Int32) * a) + (1 : Int32))).toNatClampNeg (S7.1 54 ((((2 : Int32) * r6) + (r2 ^^^ b))).toNatClampNeg))) rfl rfl ⟨rfl, h⟩
/-! X5_passes, depth 62 -/
def w171_l2 (Q : ri_H → Prop) : Nat → Int32 → ri_H → Prop
  | 0, _, _ => False
  | n + 1, x1, S => (((S.1 50 11) ≤ x1 → Q (ri_wi S 50 7 ((S.1 50 7) + (1 : Int32)))) ∧ (¬ (S.1 50 11) ≤ x1 → w170 x1 (0 : Int32) S (fun (S1 : ri_H) => w171_l2   Q n (x1 + (1 : Int32)) S1)))
set_option maxRecDepth 10000 in
set_option maxHeartbeats 1000000 in
theorem wt171_l2 {E : ri_E} {Q : ri_H → Prop} : ∀ (n : Nat) (x1 : Int32) (S : ri_H), w171_l2   Q n x1 S → ri_A E 62 (171, 2, [some (.ref 50), some (.int x1)], []) S (Qv Q) := by
  intro n
  induction n with
  | zero => intro x1 S h; exact h.elim
  | succ n ih =>
    intro x1 S h
    unfold w171_l2 at h
    refine A_br ((S.1 50 11) ≤ x1) (r1 := ((171, 22, [some (.ref 50), some (.int x1)], []), S)) (r2 := ((171, 10, [some (.ref 50), some (.int x1)], []), S)) 4 rfl (fun c => ?_) (fun c => ?_)
    · have h := h.1 c
      exact A_ret 7 (m := 171) (v := none) (S' := (ri_wi S 50 7 ((S.1 50 7) + (1 : Int32)))) rfl rfl ⟨rfl, h⟩
    · have h := h.2 c
      refine A_call (j := 170) (As := [.ref 50, .int x1, .int (0 : Int32)]) (fr' := (171, 16, [some (.ref 50), some (.int x1)], [])) (S' := S) 4 rfl (e := 61) (by omega) (A_imp (wt170 x1 (0 : Int32) h) (fun v S1 hq => ?_))
      obtain ⟨hv, h⟩ := hq
      subst hv
      refine A_nx 2 (fr' := (171, 2, [some (.ref 50), some (.int (x1 + (1 : Int32)))], [])) (S' := S1) rfl ?_
      refine ri_A.less (m := 171) (pc := 2) (L := [some (.ref 50), some (.int (x1 + (1 : Int32)))]) (L' := [some (.ref 50), some (.int (x1 + (1 : Int32)))]) (st := []) ⟨rfl, ⟨rfl, trivial⟩⟩ ?_
      exact ih _ _ h
def w171  (S : ri_H) (Q : ri_H → Prop) : Prop := ∃ nn, w171_l2   Q nn (0 : Int32) S
set_option maxRecDepth 10000 in
set_option maxHeartbeats 1000000 in
theorem wt171 {E : ri_E}  {S : ri_H} {Q : ri_H → Prop} (h : w171   S Q) : ri_A E 62 (ri_en 171 [.ref 50]) S (Qv Q) := by
  unfold w171 at h
  show ri_A E 62 (171, 0, [some (.ref 50), none], []) S (Qv Q)
  refine A_nx 2 (fr' := (171, 2, [some (.ref 50), some (.int (0 : Int32))], [])) (S' := S) rfl ?_
  refine ri_A.less (m := 171) (pc := 2) (L := [some (.ref 50), some (.int (0 : Int32))]) (L' := [some (.ref 50), some (.int (0 : Int32))]) (st := []) ⟨rfl, ⟨rfl, trivial⟩⟩ ?_
  obtain ⟨nn, h⟩ := h
  exact wt171_l2   nn _ _ h
/-! X5_year, depth 63 -/
def w172  (S : ri_H) (Q : Int32 → ri_H → Prop) : Prop := ((¬ (S.1 50 7) = (999 : Int32) → w171  S (fun (S1 : ri_H) => w169  S1 (fun (r3 : Int32) (S2 : ri_H) => Q r3 S2))) ∧ (¬ (¬ (S.1 50 7) = (999 : Int32)) → Q (-3 : Int32) S))
set_option maxRecDepth 10000 in
set_option maxHeartbeats 1000000 in
theorem wt172 {E : ri_E}  {S : ri_H} {Q : Int32 → ri_H → Prop} (h : w172   S Q) : ri_A E 63 (ri_en 172 [.ref 50]) S (Qi Q) := by
  unfold w172 at h
  show ri_A E 63 (172, 0, [some (.ref 50)], []) S (Qi Q)
  refine A_br (¬ (S.1 50 7) = (999 : Int32)) (r1 := ((172, 13, [some (.ref 50)], []), S)) (r2 := ((172, 10, [some (.ref 50)], []), S)) 4 rfl (fun c => ?_) (fun c => ?_)
  · have h := h.1 c
    refine A_call (j := 171) (As := [.ref 50]) (fr' := (172, 17, [some (.ref 50)], [])) (S' := S) 2 rfl (e := 62) (by omega) (A_imp (wt171  h) (fun v S1 hq => ?_))
    obtain ⟨hv, h⟩ := hq
    subst hv
    refine A_call (j := 169) (As := [.ref 50]) (fr' := (172, 21, [some (.ref 50)], [])) (S' := S1) 2 rfl (e := 0) (by omega) (A_imp (wt169  h) (fun v S2 hq => ?_))
    obtain ⟨r3, hv, h⟩ := hq
    subst hv
    exact A_ret 1 (m := 172) (v := some (.int r3)) (S' := S2) rfl rfl ⟨_, rfl, h⟩
  · have h := h.2 c
    exact A_ret 2 (m := 172) (v := some (.int (-3 : Int32))) (S' := S) rfl rfl ⟨_, rfl, h⟩
/-! X5_spoon, depth 61 -/
def w173 (a : Int32) (b : Int32) (S : ri_H) (Q : Int32 → ri_H → Prop) : Prop := w104 a S (fun (r2 : Int32) (S1 : ri_H) => ((r2 = 0 → Q (-1000 : Int32) S1) ∧ (¬ (r2 = 0) → w106 b S1 (fun (r4 : Int32) (S3 : ri_H) => ((¬ r4 = 0 → (vp_in b 24 ∧ ((¬ (S3.1 55 (b).toNatClampNeg) = 0 → (vp_in (((5 : Int32) * a) + (2 : Int32)) 25 ∧ w167 a b S3 (fun (r6 : Int32) (S5 : ri_H) => w103 ((S3.1 56 ((((5 : Int32) * a) + (2 : Int32))).toNatClampNeg) + r6) (-99 : Int32) (99 : Int32) S5 (fun (r8 : Int32) (S7 : ri_H) => (vp_in (((5 : Int32) * a) + (2 : Int32)) 25 ∧ (vp_in (((5 : Int32) * a) + (3 : Int32)) 25 ∧ w103 (((ri_wi S7 56 ((((5 : Int32) * a) + (2 : Int32))).toNatClampNeg r8).1 56 ((((5 : Int32) * a) + (3 : Int32))).toNatClampNeg) + (1 : Int32)) (0 : Int32) (999 : Int32) (ri_wi S7 56 ((((5 : Int32) * a) + (2 : Int32))).toNatClampNeg r8) (fun (r10 : Int32) (S9 : ri_H) => (vp_in (((5 : Int32) * a) + (3 : Int32)) 25 ∧ (vp_in b 24 ∧ (vp_in b 24 ∧ (vp_in (((5 : Int32) * a) + (2 : Int32)) 25 ∧ Q ((ri_wi S9 56 ((((5 : Int32) * a) + (3 : Int32))).toNatClampNeg r10).1 56 ((((5 : Int32) * a) + (2 : Int32))).toNatClampNeg) (ri_wi (ri_wi S9 56 ((((5 : Int32) * a) + (3 : Int32))).toNatClampNeg r10) 55 (b).toNatClampNeg ((S9.1 55 (b).toNatClampNeg) - (1 : Int32)))))))))))))) ∧ (¬ (¬ (S3.1 55 (b).toNatClampNeg) = 0) → Q (-1003 : Int32) S3)))) ∧ (¬ (¬ r4 = 0) → Q (-1000 : Int32) S3))))))
set_option maxRecDepth 10000 in
set_option maxHeartbeats 1000000 in
theorem wt173 {E : ri_E} (a : Int32) (b : Int32) {S : ri_H} {Q : Int32 → ri_H → Prop} (h : w173  a b S Q) : ri_A E 61 (ri_en 173 [.ref 50, .int a, .int b]) S (Qi Q) := by
  unfold w173 at h
  show ri_A E 61 (173, 0, [some (.ref 50), some (.int a), some (.int b)], []) S (Qi Q)
  refine A_call (j := 104) (As := [.ref 50, .int a]) (fr' := (173, 5, [some (.ref 50), some (.int a), some (.int b)], [])) (S' := S) 3 rfl (e := 1) (by omega) (A_imp (wt104 a h) (fun v S1 hq => ?_))
  obtain ⟨r2, hv, h⟩ := hq
  subst hv
  refine A_br (r2 = 0) (r1 := ((173, 15, [some (.ref 50), some (.int a), some (.int b)], []), S1)) (r2 := ((173, 8, [some (.ref 50), some (.int a), some (.int b)], []), S1)) 1 rfl (fun c => ?_) (fun c => ?_)
  · have h := h.1 c
    exact A_ret 2 (m := 173) (v := some (.int (-1000 : Int32))) (S' := S1) rfl rfl ⟨_, rfl, h⟩
  · have h := h.2 c
    refine A_call (j := 106) (As := [.int b]) (fr' := (173, 12, [some (.ref 50), some (.int a), some (.int b)], [])) (S' := S1) 2 rfl (e := 1) (by omega) (A_imp (wt106 b h) (fun v S3 hq => ?_))
    obtain ⟨r4, hv, h⟩ := hq
    subst hv
    refine A_br (¬ r4 = 0) (r1 := ((173, 19, [some (.ref 50), some (.int a), some (.int b)], []), S3)) (r2 := ((173, 15, [some (.ref 50), some (.int a), some (.int b)], []), S3)) 1 rfl (fun c => ?_) (fun c => ?_)
    · have h := h.1 c
      refine A_ix b 24 (r1 := ((173, 25, [some (.ref 50), some (.int a), some (.int b)], [.int (S3.1 55 (b).toNatClampNeg)]), S3)) 4 rfl h.1 ?_
      have h := h.2
      refine A_br (¬ (S3.1 55 (b).toNatClampNeg) = 0) (r1 := ((173, 32, [some (.ref 50), some (.int a), some (.int b)], []), S3)) (r2 := ((173, 28, [some (.ref 50), some (.int a), some (.int b)], []), S3)) 1 rfl (fun c => ?_) (fun c => ?_)
      · have h := h.1 c
        refine A_ix (((5 : Int32) * a) + (2 : Int32)) 25 (r1 := ((173, 51, [some (.ref 50), some (.int a), some (.int b)], [.int (S3.1 56 ((((5 : Int32) * a) + (2 : Int32))).toNatClampNeg), .int (((5 : Int32) * a) + (2 : Int32)), .ref 56]), S3)) 15 rfl h.1 ?_
        have h := h.2
        refine A_call (j := 167) (As := [.ref 50, .int a, .int b]) (fr' := (173, 57, [some (.ref 50), some (.int a), some (.int b)], [.int (S3.1 56 ((((5 : Int32) * a) + (2 : Int32))).toNatClampNeg), .int (((5 : Int32) * a) + (2 : Int32)), .ref 56])) (S' := S3) 4 rfl (e := 60) (by omega) (A_imp (wt167 a b h) (fun v S5 hq => ?_))
        obtain ⟨r6, hv, h⟩ := hq
        subst hv
        refine A_call (j := 103) (As := [.int ((S3.1 56 ((((5 : Int32) * a) + (2 : Int32))).toNatClampNeg) + r6), .int (-99 : Int32), .int (99 : Int32)]) (fr' := (173, 65, [some (.ref 50), some (.int a), some (.int b)], [.int (((5 : Int32) * a) + (2 : Int32)), .ref 56])) (S' := S5) 4 rfl (e := 0) (by omega) (A_imp (wt103 ((S3.1 56 ((((5 : Int32) * a) + (2 : Int32))).toNatClampNeg) + r6) (-99 : Int32) (99 : Int32) h) (fun v S7 hq => ?_))
        obtain ⟨r8, hv, h⟩ := hq
        subst hv
        refine A_ix (((5 : Int32) * a) + (2 : Int32)) 25 (r1 := ((173, 66, [some (.ref 50), some (.int a), some (.int b)], []), (ri_wi S7 56 ((((5 : Int32) * a) + (2 : Int32))).toNatClampNeg r8))) 1 rfl h.1 ?_
        have h := h.2
        refine A_ix (((5 : Int32) * a) + (3 : Int32)) 25 (r1 := ((173, 85, [some (.ref 50), some (.int a), some (.int b)], [.int ((ri_wi S7 56 ((((5 : Int32) * a) + (2 : Int32))).toNatClampNeg r8).1 56 ((((5 : Int32) * a) + (3 : Int32))).toNatClampNeg), .int (((5 : Int32) * a) + (3 : Int32)), .ref 56]), (ri_wi S7 56 ((((5 : Int32) * a) + (2 : Int32))).toNatClampNeg r8))) 15 rfl h.1 ?_
        have h := h.2
        refine A_call (j := 103) (As := [.int (((ri_wi S7 56 ((((5 : Int32) * a) + (2 : Int32))).toNatClampNeg r8).1 56 ((((5 : Int32) * a) + (3 : Int32))).toNatClampNeg) + (1 : Int32)), .int (0 : Int32), .int (999 : Int32)]) (fr' := (173, 94, [some (.ref 50), some (.int a), some (.int b)], [.int (((5 : Int32) * a) + (3 : Int32)), .ref 56])) (S' := (ri_wi S7 56 ((((5 : Int32) * a) + (2 : Int32))).toNatClampNeg r8)) 5 rfl (e := 0) (by omega) (A_imp (wt103 (((ri_wi S7 56 ((((5 : Int32) * a) + (2 : Int32))).toNatClampNeg r8).1 56 ((((5 : Int32) * a) + (3 : Int32))).toNatClampNeg) + (1 : Int32)) (0 : Int32) (999 : Int32) h) (fun v S9 hq => ?_))
        obtain ⟨r10, hv, h⟩ := hq
        subst hv
        refine A_ix (((5 : Int32) * a) + (3 : Int32)) 25 (r1 := ((173, 95, [some (.ref 50), some (.int a), some (.int b)], []), (ri_wi S9 56 ((((5 : Int32) * a) + (3 : Int32))).toNatClampNeg r10))) 1 rfl h.1 ?_
        have h := h.2
        refine A_ix b 24 (r1 := ((173, 102, [some (.ref 50), some (.int a), some (.int b)], [.int (S9.1 55 (b).toNatClampNeg), .int b, .ref 55]), (ri_wi S9 56 ((((5 : Int32) * a) + (3 : Int32))).toNatClampNeg r10))) 5 rfl h.1 ?_
        have h := h.2
        refine A_ix b 24 (r1 := ((173, 105, [some (.ref 50), some (.int a), some (.int b)], []), (ri_wi (ri_wi S9 56 ((((5 : Int32) * a) + (3 : Int32))).toNatClampNeg r10) 55 (b).toNatClampNeg ((S9.1 55 (b).toNatClampNeg) - (1 : Int32))))) 3 rfl h.1 ?_
        have h := h.2
        refine A_ix (((5 : Int32) * a) + (2 : Int32)) 25 (r1 := ((173, 115, [some (.ref 50), some (.int a), some (.int b)], [.int ((ri_wi S9 56 ((((5 : Int32) * a) + (3 : Int32))).toNatClampNeg r10).1 56 ((((5 : Int32) * a) + (2 : Int32))).toNatClampNeg)]), (ri_wi (ri_wi S9 56 ((((5 : Int32) * a) + (3 : Int32))).toNatClampNeg r10) 55 (b).toNatClampNeg ((S9.1 55 (b).toNatClampNeg) - (1 : Int32))))) 8 rfl h.1 ?_
        have h := h.2
        exact A_ret 1 (m := 173) (v := some (.int ((ri_wi S9 56 ((((5 : Int32) * a) + (3 : Int32))).toNatClampNeg r10).1 56 ((((5 : Int32) * a) + (2 : Int32))).toNatClampNeg))) (S' := (ri_wi (ri_wi S9 56 ((((5 : Int32) * a) + (3 : Int32))).toNatClampNeg r10) 55 (b).toNatClampNeg ((S9.1 55 (b).toNatClampNeg) - (1 : Int32)))) rfl rfl ⟨_, rfl, h⟩
      · have h := h.2 c
        exact A_ret 2 (m := 173) (v := some (.int (-1003 : Int32))) (S' := S3) rfl rfl ⟨_, rfl, h⟩
    · have h := h.2 c
      exact A_ret 2 (m := 173) (v := some (.int (-1000 : Int32))) (S' := S3) rfl rfl ⟨_, rfl, h⟩
/-! X5_laysAside, depth 0 -/
def w174_l28 (Q : ri_H → Prop) : Nat → Int32 → ri_H → Prop
  | 0, _, _ => False
  | n + 1, x1, S => (((25 : Int32) ≤ x1 → (vp_in (49 : Int32) 50 ∧ Q (ri_wi S 57 ((49 : Int32)).toNatClampNeg (S.1 50 7)))) ∧ (¬ (25 : Int32) ≤ x1 → (vp_in x1 25 ∧ (vp_in ((24 : Int32) + x1) 50 ∧ w174_l28   Q n (x1 + (1 : Int32)) (ri_wi S 57 (((24 : Int32) + x1)).toNatClampNeg (S.1 56 (x1).toNatClampNeg))))))
set_option maxRecDepth 10000 in
set_option maxHeartbeats 1000000 in
theorem wt174_l28 {E : ri_E} {Q : ri_H → Prop} : ∀ (n : Nat) (x1 : Int32) (S : ri_H), w174_l28   Q n x1 S → ri_A E 0 (174, 28, [some (.ref 50), some (.int x1)], []) S (Qv Q) := by
  intro n
  induction n with
  | zero => intro x1 S h; exact h.elim
  | succ n ih =>
    intro x1 S h
    unfold w174_l28 at h
    refine A_br ((25 : Int32) ≤ x1) (r1 := ((174, 55, [some (.ref 50), some (.int x1)], []), S)) (r2 := ((174, 34, [some (.ref 50), some (.int x1)], []), S)) 3 rfl (fun c => ?_) (fun c => ?_)
    · have h := h.1 c
      refine A_ix (49 : Int32) 50 (r1 := ((174, 66, [some (.ref 50), some (.int x1)], []), (ri_wi S 57 ((49 : Int32)).toNatClampNeg (S.1 50 7)))) 6 rfl h.1 ?_
      have h := h.2
      exact A_ret 1 (m := 174) (v := none) (S' := (ri_wi S 57 ((49 : Int32)).toNatClampNeg (S.1 50 7))) rfl rfl ⟨rfl, h⟩
    · have h := h.2 c
      refine A_ix x1 25 (r1 := ((174, 48, [some (.ref 50), some (.int x1)], [.int (S.1 56 (x1).toNatClampNeg), .int ((24 : Int32) + x1), .ref 57]), S)) 9 rfl h.1 ?_
      have h := h.2
      refine A_ix ((24 : Int32) + x1) 50 (r1 := ((174, 49, [some (.ref 50), some (.int x1)], []), (ri_wi S 57 (((24 : Int32) + x1)).toNatClampNeg (S.1 56 (x1).toNatClampNeg)))) 1 rfl h.1 ?_
      have h := h.2
      refine A_nx 2 (fr' := (174, 28, [some (.ref 50), some (.int (x1 + (1 : Int32)))], [])) (S' := (ri_wi S 57 (((24 : Int32) + x1)).toNatClampNeg (S.1 56 (x1).toNatClampNeg))) rfl ?_
      refine ri_A.less (m := 174) (pc := 28) (L := [some (.ref 50), some (.int (x1 + (1 : Int32)))]) (L' := [some (.ref 50), some (.int (x1 + (1 : Int32)))]) (st := []) ⟨rfl, ⟨rfl, trivial⟩⟩ ?_
      exact ih _ _ h
def w174_l2 (Q : ri_H → Prop) : Nat → Int32 → ri_H → Prop
  | 0, _, _ => False
  | n + 1, x1, S => (((24 : Int32) ≤ x1 → ∃ nn, w174_l28   Q nn (0 : Int32) S) ∧ (¬ (24 : Int32) ≤ x1 → (vp_in x1 24 ∧ (vp_in x1 50 ∧ w174_l2   Q n (x1 + (1 : Int32)) (ri_wi S 57 (x1).toNatClampNeg (S.1 55 (x1).toNatClampNeg))))))
set_option maxRecDepth 10000 in
set_option maxHeartbeats 1000000 in
theorem wt174_l2 {E : ri_E} {Q : ri_H → Prop} : ∀ (n : Nat) (x1 : Int32) (S : ri_H), w174_l2   Q n x1 S → ri_A E 0 (174, 2, [some (.ref 50), some (.int x1)], []) S (Qv Q) := by
  intro n
  induction n with
  | zero => intro x1 S h; exact h.elim
  | succ n ih =>
    intro x1 S h
    unfold w174_l2 at h
    refine A_br ((24 : Int32) ≤ x1) (r1 := ((174, 26, [some (.ref 50), some (.int x1)], []), S)) (r2 := ((174, 8, [some (.ref 50), some (.int x1)], []), S)) 3 rfl (fun c => ?_) (fun c => ?_)
    · have h := h.1 c
      refine A_nx 2 (fr' := (174, 28, [some (.ref 50), some (.int (0 : Int32))], [])) (S' := S) rfl ?_
      refine ri_A.less (m := 174) (pc := 28) (L := [some (.ref 50), some (.int (0 : Int32))]) (L' := [some (.ref 50), some (.int (0 : Int32))]) (st := []) ⟨rfl, ⟨rfl, trivial⟩⟩ ?_
      obtain ⟨nn, h⟩ := h
      exact wt174_l28   nn _ _ h
    · have h := h.2 c
      refine A_ix x1 24 (r1 := ((174, 19, [some (.ref 50), some (.int x1)], [.int (S.1 55 (x1).toNatClampNeg), .int x1, .ref 57]), S)) 7 rfl h.1 ?_
      have h := h.2
      refine A_ix x1 50 (r1 := ((174, 20, [some (.ref 50), some (.int x1)], []), (ri_wi S 57 (x1).toNatClampNeg (S.1 55 (x1).toNatClampNeg)))) 1 rfl h.1 ?_
      have h := h.2
      refine A_nx 2 (fr' := (174, 2, [some (.ref 50), some (.int (x1 + (1 : Int32)))], [])) (S' := (ri_wi S 57 (x1).toNatClampNeg (S.1 55 (x1).toNatClampNeg))) rfl ?_
      refine ri_A.less (m := 174) (pc := 2) (L := [some (.ref 50), some (.int (x1 + (1 : Int32)))]) (L' := [some (.ref 50), some (.int (x1 + (1 : Int32)))]) (st := []) ⟨rfl, ⟨rfl, trivial⟩⟩ ?_
      exact ih _ _ h
def w174  (S : ri_H) (Q : ri_H → Prop) : Prop := ∃ nn, w174_l2   Q nn (0 : Int32) S
set_option maxRecDepth 10000 in
set_option maxHeartbeats 1000000 in
theorem wt174 {E : ri_E}  {S : ri_H} {Q : ri_H → Prop} (h : w174   S Q) : ri_A E 0 (ri_en 174 [.ref 50]) S (Qv Q) := by
  unfold w174 at h
  show ri_A E 0 (174, 0, [some (.ref 50), none], []) S (Qv Q)
  refine A_nx 2 (fr' := (174, 2, [some (.ref 50), some (.int (0 : Int32))], [])) (S' := S) rfl ?_
  refine ri_A.less (m := 174) (pc := 2) (L := [some (.ref 50), some (.int (0 : Int32))]) (L' := [some (.ref 50), some (.int (0 : Int32))]) (st := []) ⟨rfl, ⟨rfl, trivial⟩⟩ ?_
  obtain ⟨nn, h⟩ := h
  exact wt174_l2   nn _ _ h
/-! X5_laysBack, depth 0 -/
def w175_l28 (Q : ri_H → Prop) : Nat → Int32 → ri_H → Prop
  | 0, _, _ => False
  | n + 1, x1, S => (((25 : Int32) ≤ x1 → (vp_in (49 : Int32) 50 ∧ Q (ri_wi S 50 7 (S.1 57 ((49 : Int32)).toNatClampNeg)))) ∧ (¬ (25 : Int32) ≤ x1 → (vp_in ((24 : Int32) + x1) 50 ∧ (vp_in x1 25 ∧ w175_l28   Q n (x1 + (1 : Int32)) (ri_wi S 56 (x1).toNatClampNeg (S.1 57 (((24 : Int32) + x1)).toNatClampNeg))))))
set_option maxRecDepth 10000 in
set_option maxHeartbeats 1000000 in
theorem wt175_l28 {E : ri_E} {Q : ri_H → Prop} : ∀ (n : Nat) (x1 : Int32) (S : ri_H), w175_l28   Q n x1 S → ri_A E 0 (175, 28, [some (.ref 50), some (.int x1)], []) S (Qv Q) := by
  intro n
  induction n with
  | zero => intro x1 S h; exact h.elim
  | succ n ih =>
    intro x1 S h
    unfold w175_l28 at h
    refine A_br ((25 : Int32) ≤ x1) (r1 := ((175, 55, [some (.ref 50), some (.int x1)], []), S)) (r2 := ((175, 34, [some (.ref 50), some (.int x1)], []), S)) 3 rfl (fun c => ?_) (fun c => ?_)
    · have h := h.1 c
      refine A_ix (49 : Int32) 50 (r1 := ((175, 63, [some (.ref 50), some (.int x1)], [.int (S.1 57 ((49 : Int32)).toNatClampNeg), .ref 50]), S)) 5 rfl h.1 ?_
      have h := h.2
      exact A_ret 2 (m := 175) (v := none) (S' := (ri_wi S 50 7 (S.1 57 ((49 : Int32)).toNatClampNeg))) rfl rfl ⟨rfl, h⟩
    · have h := h.2 c
      refine A_ix ((24 : Int32) + x1) 50 (r1 := ((175, 48, [some (.ref 50), some (.int x1)], [.int (S.1 57 (((24 : Int32) + x1)).toNatClampNeg), .int x1, .ref 56]), S)) 9 rfl h.1 ?_
      have h := h.2
      refine A_ix x1 25 (r1 := ((175, 49, [some (.ref 50), some (.int x1)], []), (ri_wi S 56 (x1).toNatClampNeg (S.1 57 (((24 : Int32) + x1)).toNatClampNeg)))) 1 rfl h.1 ?_
      have h := h.2
      refine A_nx 2 (fr' := (175, 28, [some (.ref 50), some (.int (x1 + (1 : Int32)))], [])) (S' := (ri_wi S 56 (x1).toNatClampNeg (S.1 57 (((24 : Int32) + x1)).toNatClampNeg))) rfl ?_
      refine ri_A.less (m := 175) (pc := 28) (L := [some (.ref 50), some (.int (x1 + (1 : Int32)))]) (L' := [some (.ref 50), some (.int (x1 + (1 : Int32)))]) (st := []) ⟨rfl, ⟨rfl, trivial⟩⟩ ?_
      exact ih _ _ h
def w175_l2 (Q : ri_H → Prop) : Nat → Int32 → ri_H → Prop
  | 0, _, _ => False
  | n + 1, x1, S => (((24 : Int32) ≤ x1 → ∃ nn, w175_l28   Q nn (0 : Int32) S) ∧ (¬ (24 : Int32) ≤ x1 → (vp_in x1 50 ∧ (vp_in x1 24 ∧ w175_l2   Q n (x1 + (1 : Int32)) (ri_wi S 55 (x1).toNatClampNeg (S.1 57 (x1).toNatClampNeg))))))
set_option maxRecDepth 10000 in
set_option maxHeartbeats 1000000 in
theorem wt175_l2 {E : ri_E} {Q : ri_H → Prop} : ∀ (n : Nat) (x1 : Int32) (S : ri_H), w175_l2   Q n x1 S → ri_A E 0 (175, 2, [some (.ref 50), some (.int x1)], []) S (Qv Q) := by
  intro n
  induction n with
  | zero => intro x1 S h; exact h.elim
  | succ n ih =>
    intro x1 S h
    unfold w175_l2 at h
    refine A_br ((24 : Int32) ≤ x1) (r1 := ((175, 26, [some (.ref 50), some (.int x1)], []), S)) (r2 := ((175, 8, [some (.ref 50), some (.int x1)], []), S)) 3 rfl (fun c => ?_) (fun c => ?_)
    · have h := h.1 c
      refine A_nx 2 (fr' := (175, 28, [some (.ref 50), some (.int (0 : Int32))], [])) (S' := S) rfl ?_
      refine ri_A.less (m := 175) (pc := 28) (L := [some (.ref 50), some (.int (0 : Int32))]) (L' := [some (.ref 50), some (.int (0 : Int32))]) (st := []) ⟨rfl, ⟨rfl, trivial⟩⟩ ?_
      obtain ⟨nn, h⟩ := h
      exact wt175_l28   nn _ _ h
    · have h := h.2 c
      refine A_ix x1 50 (r1 := ((175, 19, [some (.ref 50), some (.int x1)], [.int (S.1 57 (x1).toNatClampNeg), .int x1, .ref 55]), S)) 7 rfl h.1 ?_
      have h := h.2
      refine A_ix x1 24 (r1 := ((175, 20, [some (.ref 50), some (.int x1)], []), (ri_wi S 55 (x1).toNatClampNeg (S.1 57 (x1).toNatClampNeg)))) 1 rfl h.1 ?_
      have h := h.2
      refine A_nx 2 (fr' := (175, 2, [some (.ref 50), some (.int (x1 + (1 : Int32)))], [])) (S' := (ri_wi S 55 (x1).toNatClampNeg (S.1 57 (x1).toNatClampNeg))) rfl ?_
      refine ri_A.less (m := 175) (pc := 2) (L := [some (.ref 50), some (.int (x1 + (1 : Int32)))]) (L' := [some (.ref 50), some (.int (x1 + (1 : Int32)))]) (st := []) ⟨rfl, ⟨rfl, trivial⟩⟩ ?_
      exact ih _ _ h
def w175  (S : ri_H) (Q : ri_H → Prop) : Prop := ∃ nn, w175_l2   Q nn (0 : Int32) S
set_option maxRecDepth 10000 in
set_option maxHeartbeats 1000000 in
theorem wt175 {E : ri_E}  {S : ri_H} {Q : ri_H → Prop} (h : w175   S Q) : ri_A E 0 (ri_en 175 [.ref 50]) S (Qv Q) := by
  unfold w175 at h
  show ri_A E 0 (175, 0, [some (.ref 50), none], []) S (Qv Q)
  refine A_nx 2 (fr' := (175, 2, [some (.ref 50), some (.int (0 : Int32))], [])) (S' := S) rfl ?_
  refine ri_A.less (m := 175) (pc := 2) (L := [some (.ref 50), some (.int (0 : Int32))]) (L' := [some (.ref 50), some (.int (0 : Int32))]) (st := []) ⟨rfl, ⟨rfl, trivial⟩⟩ ?_
  obtain ⟨nn, h⟩ := h
  exact wt175_l2   nn _ _ h
/-! X5_run, depth 63 -/
def w176_b136 (Q : Int32 → ri_H → Prop) (s0 : Int32) (S : ri_H) : Prop := w175  S (fun (S10 : ri_H) => Q s0 S10)
set_option maxRecDepth 10000 in
set_option maxHeartbeats 1000000 in
theorem wt176_b136 {E : ri_E} {Q : Int32 → ri_H → Prop} (s0 : Int32) (S : ri_H) (h : w176_b136   Q s0 S) : ri_A E 63 (176, 136, [some (.ref 50), none, none, none, none, none], [.int s0]) S (Qi Q) := by
  unfold w176_b136 at h
  refine A_call (j := 175) (As := [.ref 50]) (fr' := (176, 142, [some (.ref 50), none, none, none, none, some (.int s0)], [])) (S' := S) 3 rfl (e := 0) (by omega) (A_imp (wt175  h) (fun v S10 hq => ?_))
  obtain ⟨hv, h⟩ := hq
  subst hv
  exact A_ret 2 (m := 176) (v := some (.int s0)) (S' := S10) rfl rfl ⟨_, rfl, h⟩
def w176_l65 (Q : Int32 → ri_H → Prop) : Nat → Int32 → Int32 → Int32 → Int32 → Int32 → ri_H → Prop
  | 0, _, _, _, _, _, _ => False
  | n + 1, x1, x2, x3, x4, x5, S => ((x2 ≤ x5 → ((¬ x3 = 0 → ((¬ x3 = (1 : Int32) → ((¬ x3 = (2 : Int32) → (vp_in (x3 - (10 : Int32)) 24 ∧ w176_b136   Q (S.1 55 ((x3 - (10 : Int32))).toNatClampNeg) S)) ∧ (¬ (¬ x3 = (2 : Int32)) → w169  S (fun (r12 : Int32) (S11 : ri_H) => w176_b136   Q r12 S11)))) ∧ (¬ (¬ x3 = (1 : Int32)) → w176_b136   Q x4 S))) ∧ (¬ (¬ x3 = 0) → w114 x1 S (fun (r14 : Int32) (S13 : ri_H) => w176_b136   Q r14 S13)))) ∧ (¬ (x2 ≤ x5) → w171  S (fun (S15 : ri_H) => w114 x1 S15 (fun (r17 : Int32) (S16 : ri_H) => w176_l65   Q n x1 x2 x3 (x4 ||| ((1 : Int32) <<< (r17 &&& 31))) (x5 + (1 : Int32)) S16))))
set_option maxRecDepth 10000 in
set_option maxHeartbeats 1000000 in
theorem wt176_l65 {E : ri_E} {Q : Int32 → ri_H → Prop} : ∀ (n : Nat) (x1 : Int32) (x2 : Int32) (x3 : Int32) (x4 : Int32) (x5 : Int32) (S : ri_H), w176_l65   Q n x1 x2 x3 x4 x5 S → ri_A E 63 (176, 65, [some (.ref 50), some (.int x1), some (.int x2), some (.int x3), some (.int x4), some (.int x5)], []) S (Qi Q) := by
  intro n
  induction n with
  | zero => intro x1 x2 x3 x4 x5 S h; exact h.elim
  | succ n ih =>
    intro x1 x2 x3 x4 x5 S h
    unfold w176_l65 at h
    refine A_br (x2 ≤ x5) (r1 := ((176, 93, [some (.ref 50), some (.int x1), some (.int x2), some (.int x3), some (.int x4), some (.int x5)], []), S)) (r2 := ((176, 71, [some (.ref 50), some (.int x1), some (.int x2), some (.int x3), some (.int x4), some (.int x5)], []), S)) 3 rfl (fun c => ?_) (fun c => ?_)
    · have h := h.1 c
      refine A_br (¬ x3 = 0) (r1 := ((176, 105, [some (.ref 50), some (.int x1), some (.int x2), some (.int x3), some (.int x4), some (.int x5)], []), S)) (r2 := ((176, 97, [some (.ref 50), some (.int x1), some (.int x2), some (.int x3), some (.int x4), some (.int x5)], []), S)) 2 rfl (fun c => ?_) (fun c => ?_)
      · have h := h.1 c
        refine A_br (¬ x3 = (1 : Int32)) (r1 := ((176, 115, [some (.ref 50), some (.int x1), some (.int x2), some (.int x3), some (.int x4), some (.int x5)], []), S)) (r2 := ((176, 110, [some (.ref 50), some (.int x1), some (.int x2), some (.int x3), some (.int x4), some (.int x5)], []), S)) 3 rfl (fun c => ?_) (fun c => ?_)
        · have h := h.1 c
          refine A_br (¬ x3 = (2 : Int32)) (r1 := ((176, 127, [some (.ref 50), some (.int x1), some (.int x2), some (.int x3), some (.int x4), some (.int x5)], []), S)) (r2 := ((176, 120, [some (.ref 50), some (.int x1), some (.int x2), some (.int x3), some (.int x4), some (.int x5)], []), S)) 3 rfl (fun c => ?_) (fun c => ?_)
          · have h := h.1 c
            refine A_ix (x3 - (10 : Int32)) 24 (r1 := ((176, 136, [some (.ref 50), some (.int x1), some (.int x2), some (.int x3), some (.int x4), some (.int x5)], [.int (S.1 55 ((x3 - (10 : Int32))).toNatClampNeg)]), S)) 6 rfl h.1 ?_
            have h := h.2
            refine ri_A.less (m := 176) (pc := 136) (L := [some (.ref 50), some (.int x1), some (.int x2), some (.int x3), some (.int x4), some (.int x5)]) (L' := [some (.ref 50), none, none, none, none, none]) (st := [.int (S.1 55 ((x3 - (10 : Int32))).toNatClampNeg)]) ⟨rfl, trivial⟩ ?_
            exact wt176_b136   _ _ h
          · have h := h.2 c
            refine A_call (j := 169) (As := [.ref 50]) (fr' := (176, 124, [some (.ref 50), some (.int x1), some (.int x2), some (.int x3), some (.int x4), some (.int x5)], [])) (S' := S) 2 rfl (e := 0) (by omega) (A_imp (wt169  h) (fun v S11 hq => ?_))
            obtain ⟨r12, hv, h⟩ := hq
            subst hv
            refine A_nx 1 (fr' := (176, 136, [some (.ref 50), some (.int x1), some (.int x2), some (.int x3), some (.int x4), some (.int x5)], [.int r12])) (S' := S11) rfl ?_
            refine ri_A.less (m := 176) (pc := 136) (L := [some (.ref 50), some (.int x1), some (.int x2), some (.int x3), some (.int x4), some (.int x5)]) (L' := [some (.ref 50), none, none, none, none, none]) (st := [.int r12]) ⟨rfl, trivial⟩ ?_
            exact wt176_b136   _ _ h
        · have h := h.2 c
          refine A_nx 2 (fr' := (176, 136, [some (.ref 50), some (.int x1), some (.int x2), some (.int x3), some (.int x4), some (.int x5)], [.int x4])) (S' := S) rfl ?_
          refine ri_A.less (m := 176) (pc := 136) (L := [some (.ref 50), some (.int x1), some (.int x2), some (.int x3), some (.int x4), some (.int x5)]) (L' := [some (.ref 50), none, none, none, none, none]) (st := [.int x4]) ⟨rfl, trivial⟩ ?_
          exact wt176_b136   _ _ h
      · have h := h.2 c
        refine A_call (j := 114) (As := [.ref 50, .int x1]) (fr' := (176, 102, [some (.ref 50), some (.int x1), some (.int x2), some (.int x3), some (.int x4), some (.int x5)], [])) (S' := S) 3 rfl (e := 0) (by omega) (A_imp (wt114 x1 h) (fun v S13 hq => ?_))
        obtain ⟨r14, hv, h⟩ := hq
        subst hv
        refine A_nx 1 (fr' := (176, 136, [some (.ref 50), some (.int x1), some (.int x2), some (.int x3), some (.int x4), some (.int x5)], [.int r14])) (S' := S13) rfl ?_
        refine ri_A.less (m := 176) (pc := 136) (L := [some (.ref 50), some (.int x1), some (.int x2), some (.int x3), some (.int x4), some (.int x5)]) (L' := [some (.ref 50), none, none, none, none, none]) (st := [.int r14]) ⟨rfl, trivial⟩ ?_
        exact wt176_b136   _ _ h
    · have h := h.2 c
      refine A_call (j := 171) (As := [.ref 50]) (fr' := (176, 75, [some (.ref 50), some (.int x1), some (.int x2), some (.int x3), some (.int x4), some (.int x5)], [])) (S' := S) 2 rfl (e := 62) (by omega) (A_imp (wt171  h) (fun v S15 hq => ?_))
      obtain ⟨hv, h⟩ := hq
      subst hv
      refine A_call (j := 114) (As := [.ref 50, .int x1]) (fr' := (176, 83, [some (.ref 50), some (.int x1), some (.int x2), some (.int x3), some (.int x4), some (.int x5)], [.int (1 : Int32), .int x4])) (S' := S15) 5 rfl (e := 0) (by omega) (A_imp (wt114 x1 h) (fun v S16 hq => ?_))
      obtain ⟨r17, hv, h⟩ := hq
      subst hv
      refine A_nx 5 (fr' := (176, 65, [some (.ref 50), some (.int x1), some (.int x2), some (.int x3), some (.int (x4 ||| ((1 : Int32) <<< (r17 &&& 31)))), some (.int (x5 + (1 : Int32)))], [])) (S' := S16) rfl ?_
      refine ri_A.less (m := 176) (pc := 65) (L := [some (.ref 50), some (.int x1), some (.int x2), some (.int x3), some (.int (x4 ||| ((1 : Int32) <<< (r17 &&& 31)))), some (.int (x5 + (1 : Int32)))]) (L' := [some (.ref 50), some (.int x1), some (.int x2), some (.int x3), some (.int (x4 ||| ((1 : Int32) <<< (r17 &&& 31)))), some (.int (x5 + (1 : Int32)))]) (st := []) ⟨rfl, ⟨rfl, ⟨rfl, ⟨rfl, ⟨rfl, ⟨rfl, trivial⟩⟩⟩⟩⟩⟩ ?_
      exact ih _ _ _ _ _ _ h
def w176_b49 (Q : Int32 → ri_H → Prop) (x1 : Int32) (x2 : Int32) (x3 : Int32) (S : ri_H) : Prop := w174  S (fun (S7 : ri_H) => w114 x1 S7 (fun (r9 : Int32) (S8 : ri_H) => ∃ nn, w176_l65   Q nn x1 x2 x3 ((1 : Int32) <<< (r9 &&& 31)) (0 : Int32) S8))
set_option maxRecDepth 10000 in
set_option maxHeartbeats 1000000 in
theorem wt176_b49 {E : ri_E} {Q : Int32 → ri_H → Prop} (x1 : Int32) (x2 : Int32) (x3 : Int32) (S : ri_H) (h : w176_b49   Q x1 x2 x3 S) : ri_A E 63 (176, 49, [some (.ref 50), some (.int x1), some (.int x2), some (.int x3), none, none], []) S (Qi Q) := by
  unfold w176_b49 at h
  refine A_call (j := 174) (As := [.ref 50]) (fr' := (176, 53, [some (.ref 50), some (.int x1), some (.int x2), some (.int x3), none, none], [])) (S' := S) 2 rfl (e := 0) (by omega) (A_imp (wt174  h) (fun v S7 hq => ?_))
  obtain ⟨hv, h⟩ := hq
  subst hv
  refine A_call (j := 114) (As := [.ref 50, .int x1]) (fr' := (176, 59, [some (.ref 50), some (.int x1), some (.int x2), some (.int x3), none, none], [.int (1 : Int32)])) (S' := S7) 4 rfl (e := 0) (by omega) (A_imp (wt114 x1 h) (fun v S8 hq => ?_))
  obtain ⟨r9, hv, h⟩ := hq
  subst hv
  refine A_nx 4 (fr' := (176, 65, [some (.ref 50), some (.int x1), some (.int x2), some (.int x3), some (.int ((1 : Int32) <<< (r9 &&& 31))), some (.int (0 : Int32))], [])) (S' := S8) rfl ?_
  refine ri_A.less (m := 176) (pc := 65) (L := [some (.ref 50), some (.int x1), some (.int x2), some (.int x3), some (.int ((1 : Int32) <<< (r9 &&& 31))), some (.int (0 : Int32))]) (L' := [some (.ref 50), some (.int x1), some (.int x2), some (.int x3), some (.int ((1 : Int32) <<< (r9 &&& 31))), some (.int (0 : Int32))]) (st := []) ⟨rfl, ⟨rfl, ⟨rfl, ⟨rfl, ⟨rfl, ⟨rfl, trivial⟩⟩⟩⟩⟩⟩ ?_
  obtain ⟨nn, h⟩ := h
  exact wt176_l65   nn _ _ _ _ _ _ h
def w176 (a : Int32) (b : Int32) (g : Int32) (S : ri_H) (Q : Int32 → ri_H → Prop) : Prop := w104 a S (fun (r2 : Int32) (S1 : ri_H) => ((r2 = 0 → Q (-2 : Int32) S1) ∧ (¬ (r2 = 0) → w102 (b).toInt64 (0 : Int64) (60 : Int64) S1 (fun (r4 : Int32) (S3 : ri_H) => ((r4 = 0 → Q (-2 : Int32) S3) ∧ (¬ (r4 = 0) → w102 (g).toInt64 (0 : Int64) (2 : Int64) S3 (fun (r6 : Int32) (S5 : ri_H) => ((¬ r6 = 0 → w176_b49   Q a b g S5) ∧ (¬ (¬ r6 = 0) → w102 (g).toInt64 (10 : Int64) (33 : Int64) S5 (fun (r19 : Int32) (S18 : ri_H) => ((¬ r19 = 0 → w176_b49   Q a b g S18) ∧ (¬ (¬ r19 = 0) → Q (-2 : Int32) S18))))))))))))
set_option maxRecDepth 10000 in
set_option maxHeartbeats 1000000 in
theorem wt176 {E : ri_E} (a : Int32) (b : Int32) (g : Int32) {S : ri_H} {Q : Int32 → ri_H → Prop} (h : w176  a b g S Q) : ri_A E 63 (ri_en 176 [.ref 50, .int a, .int b, .int g]) S (Qi Q) := by
  unfold w176 at h
  show ri_A E 63 (176, 0, [some (.ref 50), some (.int a), some (.int b), some (.int g), none, none], []) S (Qi Q)
  refine A_call (j := 104) (As := [.ref 50, .int a]) (fr' := (176, 5, [some (.ref 50), some (.int a), some (.int b), some (.int g), none, none], [])) (S' := S) 3 rfl (e := 1) (by omega) (A_imp (wt104 a h) (fun v S1 hq => ?_))
  obtain ⟨r2, hv, h⟩ := hq
  subst hv
  refine A_br (r2 = 0) (r1 := ((176, 46, [some (.ref 50), some (.int a), some (.int b), some (.int g), none, none], []), S1)) (r2 := ((176, 8, [some (.ref 50), some (.int a), some (.int b), some (.int g), none, none], []), S1)) 1 rfl (fun c => ?_) (fun c => ?_)
  · have h := h.1 c
    exact A_ret 2 (m := 176) (v := some (.int (-2 : Int32))) (S' := S1) rfl rfl ⟨_, rfl, h⟩
  · have h := h.2 c
    refine A_call (j := 102) (As := [.long (b).toInt64, .long (0 : Int64), .long (60 : Int64)]) (fr' := (176, 17, [some (.ref 50), some (.int a), some (.int b), some (.int g), none, none], [])) (S' := S1) 5 rfl (e := 0) (by omega) (A_imp (wt102 (b).toInt64 (0 : Int64) (60 : Int64) h) (fun v S3 hq => ?_))
    obtain ⟨r4, hv, h⟩ := hq
    subst hv
    refine A_br (r4 = 0) (r1 := ((176, 46, [some (.ref 50), some (.int a), some (.int b), some (.int g), none, none], []), S3)) (r2 := ((176, 20, [some (.ref 50), some (.int a), some (.int b), some (.int g), none, none], []), S3)) 1 rfl (fun c => ?_) (fun c => ?_)
    · have h := h.1 c
      exact A_ret 2 (m := 176) (v := some (.int (-2 : Int32))) (S' := S3) rfl rfl ⟨_, rfl, h⟩
    · have h := h.2 c
      refine A_call (j := 102) (As := [.long (g).toInt64, .long (0 : Int64), .long (2 : Int64)]) (fr' := (176, 29, [some (.ref 50), some (.int a), some (.int b), some (.int g), none, none], [])) (S' := S3) 5 rfl (e := 0) (by omega) (A_imp (wt102 (g).toInt64 (0 : Int64) (2 : Int64) h) (fun v S5 hq => ?_))
      obtain ⟨r6, hv, h⟩ := hq
      subst hv
      refine A_br (¬ r6 = 0) (r1 := ((176, 49, [some (.ref 50), some (.int a), some (.int b), some (.int g), none, none], []), S5)) (r2 := ((176, 32, [some (.ref 50), some (.int a), some (.int b), some (.int g), none, none], []), S5)) 1 rfl (fun c => ?_) (fun c => ?_)
      · have h := h.1 c
        refine ri_A.less (m := 176) (pc := 49) (L := [some (.ref 50), some (.int a), some (.int b), some (.int g), none, none]) (L' := [some (.ref 50), some (.int a), some (.int b), some (.int g), none, none]) (st := []) ⟨rfl, ⟨rfl, ⟨rfl, ⟨rfl, trivial⟩⟩⟩⟩ ?_
        exact wt176_b49   _ _ _ _ h
      · have h := h.2 c
        refine A_call (j := 102) (As := [.long (g).toInt64, .long (10 : Int64), .long (33 : Int64)]) (fr' := (176, 43, [some (.ref 50), some (.int a), some (.int b), some (.int g), none, none], [])) (S' := S5) 5 rfl (e := 0) (by omega) (A_imp (wt102 (g).toInt64 (10 : Int64) (33 : Int64) h) (fun v S18 hq => ?_))
        obtain ⟨r19, hv, h⟩ := hq
        subst hv
        refine A_br (¬ r19 = 0) (r1 := ((176, 49, [some (.ref 50), some (.int a), some (.int b), some (.int g), none, none], []), S18)) (r2 := ((176, 46, [some (.ref 50), some (.int a), some (.int b), some (.int g), none, none], []), S18)) 1 rfl (fun c => ?_) (fun c => ?_)
        · have h := h.1 c
          refine ri_A.less (m := 176) (pc := 49) (L := [some (.ref 50), some (.int a), some (.int b), some (.int g), none, none]) (L' := [some (.ref 50), some (.int a), some (.int b), some (.int g), none, none]) (st := []) ⟨rfl, ⟨rfl, ⟨rfl, ⟨rfl, trivial⟩⟩⟩⟩ ?_
          exact wt176_b49   _ _ _ _ h
        · have h := h.2 c
          exact A_ret 2 (m := 176) (v := some (.int (-2 : Int32))) (S' := S18) rfl rfl ⟨_, rfl, h⟩
/-! X5_otherwise, depth 62 -/
def w177_b81 (K43 : Int32 → Int32 → Int32 → Int32 → ri_H → Prop) (K52 : Int32 → Int32 → Int32 → Int32 → Int32 → ri_H → Prop) (Q : Int32 → ri_H → Prop) (x1 : Int32) (x2 : Int32) (x3 : Int32) (x4 : Int32) (x5 : Int32) (s0 : Int32) (s1 : Int32) (S : ri_H) : Prop := w170 s1 s0 S (fun (S11 : ri_H) => K52 x1 x2 x3 x4 (x5 + (1 : Int32)) S11)
set_option maxRecDepth 10000 in
set_option maxHeartbeats 1000000 in
theorem wt177_b81 {E : ri_E} {K43 : Int32 → Int32 → Int32 → Int32 → ri_H → Prop} {K52 : Int32 → Int32 → Int32 → Int32 → Int32 → ri_H → Prop} {Q : Int32 → ri_H → Prop} (hK43 : ∀ (x1 : Int32) (x2 : Int32) (x3 : Int32) (x4 : Int32) (S : ri_H), K43 x1 x2 x3 x4 S → ri_A E 62 (177, 43, [some (.ref 50), some (.int x1), some (.int x2), some (.int x3), some (.int x4), none], []) S (Qi Q)) (hK52 : ∀ (x1 : Int32) (x2 : Int32) (x3 : Int32) (x4 : Int32) (x5 : Int32) (S : ri_H), K52 x1 x2 x3 x4 x5 S → ri_A E 62 (177, 52, [some (.ref 50), some (.int x1), some (.int x2), some (.int x3), some (.int x4), some (.int x5)], []) S (Qi Q)) (x1 : Int32) (x2 : Int32) (x3 : Int32) (x4 : Int32) (x5 : Int32) (s0 : Int32) (s1 : Int32) (S : ri_H) (h : w177_b81  K43 K52 Q x1 x2 x3 x4 x5 s0 s1 S) : ri_A E 62 (177, 81, [some (.ref 50), some (.int x1), some (.int x2), some (.int x3), some (.int x4), some (.int x5)], [.int s0, .int s1, .ref 50]) S (Qi Q) := by
  unfold w177_b81 at h
  refine A_call (j := 170) (As := [.ref 50, .int s1, .int s0]) (fr' := (177, 84, [some (.ref 50), some (.int x1), some (.int x2), some (.int x3), some (.int x4), some (.int x5)], [])) (S' := S) 1 rfl (e := 61) (by omega) (A_imp (wt170 s1 s0 h) (fun v S11 hq => ?_))
  obtain ⟨hv, h⟩ := hq
  subst hv
  refine A_nx 2 (fr' := (177, 52, [some (.ref 50), some (.int x1), some (.int x2), some (.int x3), some (.int x4), some (.int (x5 + (1 : Int32)))], [])) (S' := S11) rfl ?_
  refine ri_A.less (m := 177) (pc := 52) (L := [some (.ref 50), some (.int x1), some (.int x2), some (.int x3), some (.int x4), some (.int (x5 + (1 : Int32)))]) (L' := [some (.ref 50), some (.int x1), some (.int x2), some (.int x3), some (.int x4), some (.int (x5 + (1 : Int32)))]) (st := []) ⟨rfl, ⟨rfl, ⟨rfl, ⟨rfl, ⟨rfl, ⟨rfl, trivial⟩⟩⟩⟩⟩⟩ ?_
  exact hK52 _ _ _ _ _ _ h
def w177_b80 (K43 : Int32 → Int32 → Int32 → Int32 → ri_H → Prop) (K52 : Int32 → Int32 → Int32 → Int32 → Int32 → ri_H → Prop) (Q : Int32 → ri_H → Prop) (x1 : Int32) (x2 : Int32) (x3 : Int32) (x4 : Int32) (x5 : Int32) (s0 : Int32) (S : ri_H) : Prop := w177_b81  K43 K52 Q x1 x2 x3 x4 x5 (0 : Int32) s0 S
set_option maxRecDepth 10000 in
set_option maxHeartbeats 1000000 in
theorem wt177_b80 {E : ri_E} {K43 : Int32 → Int32 → Int32 → Int32 → ri_H → Prop} {K52 : Int32 → Int32 → Int32 → Int32 → Int32 → ri_H → Prop} {Q : Int32 → ri_H → Prop} (hK43 : ∀ (x1 : Int32) (x2 : Int32) (x3 : Int32) (x4 : Int32) (S : ri_H), K43 x1 x2 x3 x4 S → ri_A E 62 (177, 43, [some (.ref 50), some (.int x1), some (.int x2), some (.int x3), some (.int x4), none], []) S (Qi Q)) (hK52 : ∀ (x1 : Int32) (x2 : Int32) (x3 : Int32) (x4 : Int32) (x5 : Int32) (S : ri_H), K52 x1 x2 x3 x4 x5 S → ri_A E 62 (177, 52, [some (.ref 50), some (.int x1), some (.int x2), some (.int x3), some (.int x4), some (.int x5)], []) S (Qi Q)) (x1 : Int32) (x2 : Int32) (x3 : Int32) (x4 : Int32) (x5 : Int32) (s0 : Int32) (S : ri_H) (h : w177_b80  K43 K52 Q x1 x2 x3 x4 x5 s0 S) : ri_A E 62 (177, 80, [some (.ref 50), some (.int x1), some (.int x2), some (.int x3), some (.int x4), some (.int x5)], [.int s0, .ref 50]) S (Qi Q) := by
  unfold w177_b80 at h
  refine A_nx 1 (fr' := (177, 81, [some (.ref 50), some (.int x1), some (.int x2), some (.int x3), some (.int x4), some (.int x5)], [.int (0 : Int32), .int s0, .ref 50])) (S' := S) rfl ?_
  refine ri_A.less (m := 177) (pc := 81) (L := [some (.ref 50), some (.int x1), some (.int x2), some (.int x3), some (.int x4), some (.int x5)]) (L' := [some (.ref 50), some (.int x1), some (.int x2), some (.int x3), some (.int x4), some (.int x5)]) (st := [.int (0 : Int32), .int s0, .ref 50]) ⟨rfl, ⟨rfl, ⟨rfl, ⟨rfl, ⟨rfl, ⟨rfl, trivial⟩⟩⟩⟩⟩⟩ ?_
  exact wt177_b81  hK43 hK52 _ _ _ _ _ _ _ _ h
def w177_l52 (K43 : Int32 → Int32 → Int32 → Int32 → ri_H → Prop) (Q : Int32 → ri_H → Prop) : Nat → Int32 → Int32 → Int32 → Int32 → Int32 → ri_H → Prop
  | 0, _, _, _, _, _, _ => False
  | n + 1, x1, x2, x3, x4, x5, S => (((S.1 50 11) ≤ x5 → K43 x1 x2 x3 (x4 + (1 : Int32)) (ri_wi S 50 7 ((S.1 50 7) + (1 : Int32)))) ∧ (¬ (S.1 50 11) ≤ x5 → ((¬ x5 = x1 → w177_b80  K43 (fun x1 x2 x3 x4 x5 S => w177_l52  K43 Q n x1 x2 x3 x4 x5 S) Q x1 x2 x3 x4 x5 x5 S) ∧ (¬ (¬ x5 = x1) → ((¬ x4 = x3 → w177_b80  K43 (fun x1 x2 x3 x4 x5 S => w177_l52  K43 Q n x1 x2 x3 x4 x5 S) Q x1 x2 x3 x4 x5 x5 S) ∧ (¬ (¬ x4 = x3) → w177_b81  K43 (fun x1 x2 x3 x4 x5 S => w177_l52  K43 Q n x1 x2 x3 x4 x5 S) Q x1 x2 x3 x4 x5 (1 : Int32) x5 S))))))
set_option maxRecDepth 10000 in
set_option maxHeartbeats 1000000 in
theorem wt177_l52 {E : ri_E} {K43 : Int32 → Int32 → Int32 → Int32 → ri_H → Prop} {Q : Int32 → ri_H → Prop} (hK43 : ∀ (x1 : Int32) (x2 : Int32) (x3 : Int32) (x4 : Int32) (S : ri_H), K43 x1 x2 x3 x4 S → ri_A E 62 (177, 43, [some (.ref 50), some (.int x1), some (.int x2), some (.int x3), some (.int x4), none], []) S (Qi Q)) : ∀ (n : Nat) (x1 : Int32) (x2 : Int32) (x3 : Int32) (x4 : Int32) (x5 : Int32) (S : ri_H), w177_l52  K43 Q n x1 x2 x3 x4 x5 S → ri_A E 62 (177, 52, [some (.ref 50), some (.int x1), some (.int x2), some (.int x3), some (.int x4), some (.int x5)], []) S (Qi Q) := by
  intro n
  induction n with
  | zero => intro x1 x2 x3 x4 x5 S h; exact h.elim
  | succ n ih =>
    intro x1 x2 x3 x4 x5 S h
    unfold w177_l52 at h
    refine A_br ((S.1 50 11) ≤ x5) (r1 := ((177, 90, [some (.ref 50), some (.int x1), some (.int x2), some (.int x3), some (.int x4), some (.int x5)], []), S)) (r2 := ((177, 61, [some (.ref 50), some (.int x1), some (.int x2), some (.int x3), some (.int x4), some (.int x5)], []), S)) 4 rfl (fun c => ?_) (fun c => ?_)
    · have h := h.1 c
      refine A_nx 8 (fr' := (177, 43, [some (.ref 50), some (.int x1), some (.int x2), some (.int x3), some (.int (x4 + (1 : Int32))), some (.int x5)], [])) (S' := (ri_wi S 50 7 ((S.1 50 7) + (1 : Int32)))) rfl ?_
      refine ri_A.less (m := 177) (pc := 43) (L := [some (.ref 50), some (.int x1), some (.int x2), some (.int x3), some (.int (x4 + (1 : Int32))), some (.int x5)]) (L' := [some (.ref 50), some (.int x1), some (.int x2), some (.int x3), some (.int (x4 + (1 : Int32))), none]) (st := []) ⟨rfl, ⟨rfl, ⟨rfl, ⟨rfl, ⟨rfl, trivial⟩⟩⟩⟩⟩ ?_
      exact hK43 _ _ _ _ _ h
    · have h := h.2 c
      refine A_br (¬ x5 = x1) (r1 := ((177, 80, [some (.ref 50), some (.int x1), some (.int x2), some (.int x3), some (.int x4), some (.int x5)], [.int x5, .ref 50]), S)) (r2 := ((177, 70, [some (.ref 50), some (.int x1), some (.int x2), some (.int x3), some (.int x4), some (.int x5)], [.int x5, .ref 50]), S)) 5 rfl (fun c => ?_) (fun c => ?_)
      · have h := h.1 c
        refine ri_A.less (m := 177) (pc := 80) (L := [some (.ref 50), some (.int x1), some (.int x2), some (.int x3), some (.int x4), some (.int x5)]) (L' := [some (.ref 50), some (.int x1), some (.int x2), some (.int x3), some (.int x4), some (.int x5)]) (st := [.int x5, .ref 50]) ⟨rfl, ⟨rfl, ⟨rfl, ⟨rfl, ⟨rfl, ⟨rfl, trivial⟩⟩⟩⟩⟩⟩ ?_
        exact wt177_b80  hK43 (fun x1 x2 x3 x4 x5 S hk => ih x1 x2 x3 x4 x5 S hk) _ _ _ _ _ _ _ h
      · have h := h.2 c
        refine A_br (¬ x4 = x3) (r1 := ((177, 80, [some (.ref 50), some (.int x1), some (.int x2), some (.int x3), some (.int x4), some (.int x5)], [.int x5, .ref 50]), S)) (r2 := ((177, 76, [some (.ref 50), some (.int x1), some (.int x2), some (.int x3), some (.int x4), some (.int x5)], [.int x5, .ref 50]), S)) 3 rfl (fun c => ?_) (fun c => ?_)
        · have h := h.1 c
          refine ri_A.less (m := 177) (pc := 80) (L := [some (.ref 50), some (.int x1), some (.int x2), some (.int x3), some (.int x4), some (.int x5)]) (L' := [some (.ref 50), some (.int x1), some (.int x2), some (.int x3), some (.int x4), some (.int x5)]) (st := [.int x5, .ref 50]) ⟨rfl, ⟨rfl, ⟨rfl, ⟨rfl, ⟨rfl, ⟨rfl, trivial⟩⟩⟩⟩⟩⟩ ?_
          exact wt177_b80  hK43 (fun x1 x2 x3 x4 x5 S hk => ih x1 x2 x3 x4 x5 S hk) _ _ _ _ _ _ _ h
        · have h := h.2 c
          refine A_nx 2 (fr' := (177, 81, [some (.ref 50), some (.int x1), some (.int x2), some (.int x3), some (.int x4), some (.int x5)], [.int (1 : Int32), .int x5, .ref 50])) (S' := S) rfl ?_
          refine ri_A.less (m := 177) (pc := 81) (L := [some (.ref 50), some (.int x1), some (.int x2), some (.int x3), some (.int x4), some (.int x5)]) (L' := [some (.ref 50), some (.int x1), some (.int x2), some (.int x3), some (.int x4), some (.int x5)]) (st := [.int (1 : Int32), .int x5, .ref 50]) ⟨rfl, ⟨rfl, ⟨rfl, ⟨rfl, ⟨rfl, ⟨rfl, trivial⟩⟩⟩⟩⟩⟩ ?_
          exact wt177_b81  hK43 (fun x1 x2 x3 x4 x5 S hk => ih x1 x2 x3 x4 x5 S hk) _ _ _ _ _ _ _ _ h
def w177_l43 (Q : Int32 → ri_H → Prop) : Nat → Int32 → Int32 → Int32 → Int32 → ri_H → Prop
  | 0, _, _, _, _, _ => False
  | n + 1, x1, x2, x3, x4, S => ((x2 ≤ x4 → w114 x1 S (fun (r9 : Int32) (S8 : ri_H) => w175  S8 (fun (S10 : ri_H) => Q r9 S10))) ∧ (¬ (x2 ≤ x4) → ∃ nn, w177_l52  (fun x1 x2 x3 x4 S => w177_l43   Q n x1 x2 x3 x4 S) Q nn x1 x2 x3 x4 (0 : Int32) S))
set_option maxRecDepth 10000 in
set_option maxHeartbeats 1000000 in
theorem wt177_l43 {E : ri_E} {Q : Int32 → ri_H → Prop} : ∀ (n : Nat) (x1 : Int32) (x2 : Int32) (x3 : Int32) (x4 : Int32) (S : ri_H), w177_l43   Q n x1 x2 x3 x4 S → ri_A E 62 (177, 43, [some (.ref 50), some (.int x1), some (.int x2), some (.int x3), some (.int x4), none], []) S (Qi Q) := by
  intro n
  induction n with
  | zero => intro x1 x2 x3 x4 S h; exact h.elim
  | succ n ih =>
    intro x1 x2 x3 x4 S h
    unfold w177_l43 at h
    refine A_br (x2 ≤ x4) (r1 := ((177, 106, [some (.ref 50), some (.int x1), some (.int x2), some (.int x3), some (.int x4), none], []), S)) (r2 := ((177, 49, [some (.ref 50), some (.int x1), some (.int x2), some (.int x3), some (.int x4), none], []), S)) 3 rfl (fun c => ?_) (fun c => ?_)
    · have h := h.1 c
      refine A_call (j := 114) (As := [.ref 50, .int x1]) (fr' := (177, 111, [some (.ref 50), some (.int x1), some (.int x2), some (.int x3), some (.int x4), none], [])) (S' := S) 3 rfl (e := 0) (by omega) (A_imp (wt114 x1 h) (fun v S8 hq => ?_))
      obtain ⟨r9, hv, h⟩ := hq
      subst hv
      refine A_call (j := 175) (As := [.ref 50]) (fr' := (177, 117, [some (.ref 50), some (.int x1), some (.int x2), some (.int x3), some (.int r9), none], [])) (S' := S8) 3 rfl (e := 0) (by omega) (A_imp (wt175  h) (fun v S10 hq => ?_))
      obtain ⟨hv, h⟩ := hq
      subst hv
      exact A_ret 2 (m := 177) (v := some (.int r9)) (S' := S10) rfl rfl ⟨_, rfl, h⟩
    · have h := h.2 c
      refine A_nx 2 (fr' := (177, 52, [some (.ref 50), some (.int x1), some (.int x2), some (.int x3), some (.int x4), some (.int (0 : Int32))], [])) (S' := S) rfl ?_
      refine ri_A.less (m := 177) (pc := 52) (L := [some (.ref 50), some (.int x1), some (.int x2), some (.int x3), some (.int x4), some (.int (0 : Int32))]) (L' := [some (.ref 50), some (.int x1), some (.int x2), some (.int x3), some (.int x4), some (.int (0 : Int32))]) (st := []) ⟨rfl, ⟨rfl, ⟨rfl, ⟨rfl, ⟨rfl, ⟨rfl, trivial⟩⟩⟩⟩⟩⟩ ?_
      obtain ⟨nn, h⟩ := h
      exact wt177_l52  (fun x1 x2 x3 x4 S hk => ih x1 x2 x3 x4 S hk) nn _ _ _ _ _ _ h
def w177 (a : Int32) (b : Int32) (g : Int32) (S : ri_H) (Q : Int32 → ri_H → Prop) : Prop := w104 a S (fun (r2 : Int32) (S1 : ri_H) => ((r2 = 0 → Q (-2 : Int32) S1) ∧ (¬ (r2 = 0) → w102 (b).toInt64 (1 : Int64) (40 : Int64) S1 (fun (r4 : Int32) (S3 : ri_H) => ((r4 = 0 → Q (-2 : Int32) S3) ∧ (¬ (r4 = 0) → w102 (g).toInt64 (0 : Int64) ((b - (1 : Int32))).toInt64 S3 (fun (r6 : Int32) (S5 : ri_H) => ((¬ r6 = 0 → w174  S5 (fun (S7 : ri_H) => ∃ nn, w177_l43   Q nn a b g (0 : Int32) S7)) ∧ (¬ (¬ r6 = 0) → Q (-2 : Int32) S5)))))))))
set_option maxRecDepth 10000 in
set_option maxHeartbeats 1000000 in
theorem wt177 {E : ri_E} (a : Int32) (b : Int32) (g : Int32) {S : ri_H} {Q : Int32 → ri_H → Prop} (h : w177  a b g S Q) : ri_A E 62 (ri_en 177 [.ref 50, .int a, .int b, .int g]) S (Qi Q) := by
  unfold w177 at h
  show ri_A E 62 (177, 0, [some (.ref 50), some (.int a), some (.int b), some (.int g), none, none], []) S (Qi Q)
  refine A_call (j := 104) (As := [.ref 50, .int a]) (fr' := (177, 5, [some (.ref 50), some (.int a), some (.int b), some (.int g), none, none], [])) (S' := S) 3 rfl (e := 1) (by omega) (A_imp (wt104 a h) (fun v S1 hq => ?_))
  obtain ⟨r2, hv, h⟩ := hq
  subst hv
  refine A_br (r2 = 0) (r1 := ((177, 33, [some (.ref 50), some (.int a), some (.int b), some (.int g), none, none], []), S1)) (r2 := ((177, 8, [some (.ref 50), some (.int a), some (.int b), some (.int g), none, none], []), S1)) 1 rfl (fun c => ?_) (fun c => ?_)
  · have h := h.1 c
    exact A_ret 2 (m := 177) (v := some (.int (-2 : Int32))) (S' := S1) rfl rfl ⟨_, rfl, h⟩
  · have h := h.2 c
    refine A_call (j := 102) (As := [.long (b).toInt64, .long (1 : Int64), .long (40 : Int64)]) (fr' := (177, 17, [some (.ref 50), some (.int a), some (.int b), some (.int g), none, none], [])) (S' := S1) 5 rfl (e := 0) (by omega) (A_imp (wt102 (b).toInt64 (1 : Int64) (40 : Int64) h) (fun v S3 hq => ?_))
    obtain ⟨r4, hv, h⟩ := hq
    subst hv
    refine A_br (r4 = 0) (r1 := ((177, 33, [some (.ref 50), some (.int a), some (.int b), some (.int g), none, none], []), S3)) (r2 := ((177, 20, [some (.ref 50), some (.int a), some (.int b), some (.int g), none, none], []), S3)) 1 rfl (fun c => ?_) (fun c => ?_)
    · have h := h.1 c
      exact A_ret 2 (m := 177) (v := some (.int (-2 : Int32))) (S' := S3) rfl rfl ⟨_, rfl, h⟩
    · have h := h.2 c
      refine A_call (j := 102) (As := [.long (g).toInt64, .long (0 : Int64), .long ((b - (1 : Int32))).toInt64]) (fr' := (177, 30, [some (.ref 50), some (.int a), some (.int b), some (.int g), none, none], [])) (S' := S3) 8 rfl (e := 0) (by omega) (A_imp (wt102 (g).toInt64 (0 : Int64) ((b - (1 : Int32))).toInt64 h) (fun v S5 hq => ?_))
      obtain ⟨r6, hv, h⟩ := hq
      subst hv
      refine A_br (¬ r6 = 0) (r1 := ((177, 36, [some (.ref 50), some (.int a), some (.int b), some (.int g), none, none], []), S5)) (r2 := ((177, 33, [some (.ref 50), some (.int a), some (.int b), some (.int g), none, none], []), S5)) 1 rfl (fun c => ?_) (fun c => ?_)
      · have h := h.1 c
        refine A_call (j := 174) (As := [.ref 50]) (fr' := (177, 40, [some (.ref 50), some (.int a), some (.int b), some (.int g), none, none], [])) (S' := S5) 2 rfl (e := 0) (by omega) (A_imp (wt174  h) (fun v S7 hq => ?_))
        obtain ⟨hv, h⟩ := hq
        subst hv
        refine A_nx 2 (fr' := (177, 43, [some (.ref 50), some (.int a), some (.int b), some (.int g), some (.int (0 : Int32)), none], [])) (S' := S7) rfl ?_
        refine ri_A.less (m := 177) (pc := 43) (L := [some (.ref 50), some (.int a), some (.int b), some (.int g), some (.int (0 : Int32)), none]) (L' := [some (.ref 50), some (.int a), some (.int b), some (.int g), some (.int (0 : Int32)), none]) (st := []) ⟨rfl, ⟨rfl, ⟨rfl, ⟨rfl, ⟨rfl, trivial⟩⟩⟩⟩⟩ ?_
        obtain ⟨nn, h⟩ := h
        exact wt177_l43   nn _ _ _ _ _ h
      · have h := h.2 c
        exact A_ret 2 (m := 177) (v := some (.int (-2 : Int32))) (S' := S5) rfl rfl ⟨_, rfl, h⟩
/-! X5_waysTo, depth 0 -/
def w178_l110 (K37 : Int32 → Int32 → Int32 → ri_H → Prop) (Q : Int64 → ri_H → Prop) : Nat → Int32 → Int32 → Int32 → Int32 → ri_H → Prop
  | 0, _, _, _, _, _ => False
  | n + 1, x2, x3, x4, x5, S => (((12 : Int32) ≤ x5 → K37 x2 x3 (x4 + (1 : Int32)) S) ∧ (¬ (12 : Int32) ≤ x5 → (vp_in x5 12 ∧ (vp_in x5 12 ∧ w178_l110  K37 Q n x2 x3 x4 (x5 + (1 : Int32)) (ri_wl S 58 (x5).toNatClampNeg (S.2 59 (x5).toNatClampNeg))))))
set_option maxRecDepth 10000 in
set_option maxHeartbeats 1000000 in
theorem wt178_l110 {E : ri_E} {K37 : Int32 → Int32 → Int32 → ri_H → Prop} {Q : Int64 → ri_H → Prop} (hK37 : ∀ (x2 : Int32) (x3 : Int32) (x4 : Int32) (S : ri_H), K37 x2 x3 x4 S → ri_A E 0 (178, 37, [some (.ref 50), none, some (.int x2), some (.int x3), some (.int x4), none], []) S (Ql Q)) : ∀ (n : Nat) (x2 : Int32) (x3 : Int32) (x4 : Int32) (x5 : Int32) (S : ri_H), w178_l110  K37 Q n x2 x3 x4 x5 S → ri_A E 0 (178, 110, [some (.ref 50), none, some (.int x2), some (.int x3), some (.int x4), some (.int x5)], []) S (Ql Q) := by
  intro n
  induction n with
  | zero => intro x2 x3 x4 x5 S h; exact h.elim
  | succ n ih =>
    intro x2 x3 x4 x5 S h
    unfold w178_l110 at h
    refine A_br ((12 : Int32) ≤ x5) (r1 := ((178, 137, [some (.ref 50), none, some (.int x2), some (.int x3), some (.int x4), some (.int x5)], []), S)) (r2 := ((178, 117, [some (.ref 50), none, some (.int x2), some (.int x3), some (.int x4), some (.int x5)], []), S)) 3 rfl (fun c => ?_) (fun c => ?_)
    · have h := h.1 c
      refine A_nx 2 (fr' := (178, 37, [some (.ref 50), none, some (.int x2), some (.int x3), some (.int (x4 + (1 : Int32))), some (.int x5)], [])) (S' := S) rfl ?_
      refine ri_A.less (m := 178) (pc := 37) (L := [some (.ref 50), none, some (.int x2), some (.int x3), some (.int (x4 + (1 : Int32))), some (.int x5)]) (L' := [some (.ref 50), none, some (.int x2), some (.int x3), some (.int (x4 + (1 : Int32))), none]) (st := []) ⟨rfl, ⟨rfl, ⟨rfl, ⟨rfl, trivial⟩⟩⟩⟩ ?_
      exact hK37 _ _ _ _ h
    · have h := h.2 c
      refine A_ix x5 12 (r1 := ((178, 130, [some (.ref 50), none, some (.int x2), some (.int x3), some (.int x4), some (.int x5)], [.long (S.2 59 (x5).toNatClampNeg), .int x5, .ref 58]), S)) 7 rfl h.1 ?_
      have h := h.2
      refine A_ix x5 12 (r1 := ((178, 131, [some (.ref 50), none, some (.int x2), some (.int x3), some (.int x4), some (.int x5)], []), (ri_wl S 58 (x5).toNatClampNeg (S.2 59 (x5).toNatClampNeg)))) 1 rfl h.1 ?_
      have h := h.2
      refine A_nx 2 (fr' := (178, 110, [some (.ref 50), none, some (.int x2), some (.int x3), some (.int x4), some (.int (x5 + (1 : Int32)))], [])) (S' := (ri_wl S 58 (x5).toNatClampNeg (S.2 59 (x5).toNatClampNeg))) rfl ?_
      refine ri_A.less (m := 178) (pc := 110) (L := [some (.ref 50), none, some (.int x2), some (.int x3), some (.int x4), some (.int (x5 + (1 : Int32)))]) (L' := [some (.ref 50), none, some (.int x2), some (.int x3), some (.int x4), some (.int (x5 + (1 : Int32)))]) (st := []) ⟨rfl, ⟨rfl, ⟨rfl, ⟨rfl, ⟨rfl, trivial⟩⟩⟩⟩⟩ ?_
      exact ih _ _ _ _ _ h
def w178_l70 (K37 : Int32 → Int32 → Int32 → ri_H → Prop) (Q : Int64 → ri_H → Prop) : Nat → Int32 → Int32 → Int32 → Int32 → ri_H → Prop
  | 0, _, _, _, _, _ => False
  | n + 1, x2, x3, x4, x5, S => (((24 : Int32) ≤ x5 → ∃ nn, w178_l110  K37 Q nn x2 x3 x4 (0 : Int32) S) ∧ (¬ (24 : Int32) ≤ x5 → (vp_in x5 24 ∧ (vp_in (S.1 54 (x5).toNatClampNeg) 12 ∧ (vp_in (x5 / (2 : Int32)) 12 ∧ (vp_in (S.1 54 (x5).toNatClampNeg) 12 ∧ w178_l70  K37 Q n x2 x3 x4 (x5 + (1 : Int32)) (ri_wl S 59 ((S.1 54 (x5).toNatClampNeg)).toNatClampNeg ((S.2 59 ((S.1 54 (x5).toNatClampNeg)).toNatClampNeg) + (S.2 58 ((x5 / (2 : Int32))).toNatClampNeg)))))))))
set_option maxRecDepth 10000 in
set_option maxHeartbeats 1000000 in
theorem wt178_l70 {E : ri_E} {K37 : Int32 → Int32 → Int32 → ri_H → Prop} {Q : Int64 → ri_H → Prop} (hK37 : ∀ (x2 : Int32) (x3 : Int32) (x4 : Int32) (S : ri_H), K37 x2 x3 x4 S → ri_A E 0 (178, 37, [some (.ref 50), none, some (.int x2), some (.int x3), some (.int x4), none], []) S (Ql Q)) : ∀ (n : Nat) (x2 : Int32) (x3 : Int32) (x4 : Int32) (x5 : Int32) (S : ri_H), w178_l70  K37 Q n x2 x3 x4 x5 S → ri_A E 0 (178, 70, [some (.ref 50), none, some (.int x2), some (.int x3), some (.int x4), some (.int x5)], []) S (Ql Q) := by
  intro n
  induction n with
  | zero => intro x2 x3 x4 x5 S h; exact h.elim
  | succ n ih =>
    intro x2 x3 x4 x5 S h
    unfold w178_l70 at h
    refine A_br ((24 : Int32) ≤ x5) (r1 := ((178, 107, [some (.ref 50), none, some (.int x2), some (.int x3), some (.int x4), some (.int x5)], []), S)) (r2 := ((178, 77, [some (.ref 50), none, some (.int x2), some (.int x3), some (.int x4), some (.int x5)], []), S)) 3 rfl (fun c => ?_) (fun c => ?_)
    · have h := h.1 c
      refine A_nx 2 (fr' := (178, 110, [some (.ref 50), none, some (.int x2), some (.int x3), some (.int x4), some (.int (0 : Int32))], [])) (S' := S) rfl ?_
      refine ri_A.less (m := 178) (pc := 110) (L := [some (.ref 50), none, some (.int x2), some (.int x3), some (.int x4), some (.int (0 : Int32))]) (L' := [some (.ref 50), none, some (.int x2), some (.int x3), some (.int x4), some (.int (0 : Int32))]) (st := []) ⟨rfl, ⟨rfl, ⟨rfl, ⟨rfl, ⟨rfl, trivial⟩⟩⟩⟩⟩ ?_
      obtain ⟨nn, h⟩ := h
      exact wt178_l110  hK37 nn _ _ _ _ _ h
    · have h := h.2 c
      refine A_ix x5 24 (r1 := ((178, 88, [some (.ref 50), none, some (.int x2), some (.int x3), some (.int x4), some (.int x5)], [.int (S.1 54 (x5).toNatClampNeg), .ref 59]), S)) 6 rfl h.1 ?_
      have h := h.2
      refine A_ix (S.1 54 (x5).toNatClampNeg) 12 (r1 := ((178, 90, [some (.ref 50), none, some (.int x2), some (.int x3), some (.int x4), some (.int x5)], [.long (S.2 59 ((S.1 54 (x5).toNatClampNeg)).toNatClampNeg), .int (S.1 54 (x5).toNatClampNeg), .ref 59]), S)) 2 rfl h.1 ?_
      have h := h.2
      refine A_gd (¬ (2 : Int32) = 0) (r1 := ((178, 98, [some (.ref 50), none, some (.int x2), some (.int x3), some (.int x4), some (.int x5)], [.int (x5 / (2 : Int32)), .ref 58, .long (S.2 59 ((S.1 54 (x5).toNatClampNeg)).toNatClampNeg), .int (S.1 54 (x5).toNatClampNeg), .ref 59]), S)) 5 rfl (by decide) ?_
      refine A_ix (x5 / (2 : Int32)) 12 (r1 := ((178, 99, [some (.ref 50), none, some (.int x2), some (.int x3), some (.int x4), some (.int x5)], [.long (S.2 58 ((x5 / (2 : Int32))).toNatClampNeg), .long (S.2 59 ((S.1 54 (x5).toNatClampNeg)).toNatClampNeg), .int (S.1 54 (x5).toNatClampNeg), .ref 59]), S)) 1 rfl h.1 ?_
      have h := h.2
      refine A_ix (S.1 54 (x5).toNatClampNeg) 12 (r1 := ((178, 101, [some (.ref 50), none, some (.int x2), some (.int x3), some (.int x4), some (.int x5)], []), (ri_wl S 59 ((S.1 54 (x5).toNatClampNeg)).toNatClampNeg ((S.2 59 ((S.1 54 (x5).toNatClampNeg)).toNatClampNeg) + (S.2 58 ((x5 / (2 : Int32))).toNatClampNeg))))) 2 rfl h.1 ?_
      have h := h.2
      refine A_nx 2 (fr' := (178, 70, [some (.ref 50), none, some (.int x2), some (.int x3), some (.int x4), some (.int (x5 + (1 : Int32)))], [])) (S' := (ri_wl S 59 ((S.1 54 (x5).toNatClampNeg)).toNatClampNeg ((S.2 59 ((S.1 54 (x5).toNatClampNeg)).toNatClampNeg) + (S.2 58 ((x5 / (2 : Int32))).toNatClampNeg)))) rfl ?_
      refine ri_A.less (m := 178) (pc := 70) (L := [some (.ref 50), none, some (.int x2), some (.int x3), some (.int x4), some (.int (x5 + (1 : Int32)))]) (L' := [some (.ref 50), none, some (.int x2), some (.int x3), some (.int x4), some (.int (x5 + (1 : Int32)))]) (st := []) ⟨rfl, ⟨rfl, ⟨rfl, ⟨rfl, ⟨rfl, trivial⟩⟩⟩⟩⟩ ?_
      exact ih _ _ _ _ _ h
def w178_l46 (K37 : Int32 → Int32 → Int32 → ri_H → Prop) (Q : Int64 → ri_H → Prop) : Nat → Int32 → Int32 → Int32 → Int32 → ri_H → Prop
  | 0, _, _, _, _, _ => False
  | n + 1, x2, x3, x4, x5, S => (((12 : Int32) ≤ x5 → ∃ nn, w178_l70  K37 Q nn x2 x3 x4 (0 : Int32) S) ∧ (¬ (12 : Int32) ≤ x5 → (vp_in x5 12 ∧ w178_l46  K37 Q n x2 x3 x4 (x5 + (1 : Int32)) (ri_wl S 59 (x5).toNatClampNeg (0 : Int64)))))
set_option maxRecDepth 10000 in
set_option maxHeartbeats 1000000 in
theorem wt178_l46 {E : ri_E} {K37 : Int32 → Int32 → Int32 → ri_H → Prop} {Q : Int64 → ri_H → Prop} (hK37 : ∀ (x2 : Int32) (x3 : Int32) (x4 : Int32) (S : ri_H), K37 x2 x3 x4 S → ri_A E 0 (178, 37, [some (.ref 50), none, some (.int x2), some (.int x3), some (.int x4), none], []) S (Ql Q)) : ∀ (n : Nat) (x2 : Int32) (x3 : Int32) (x4 : Int32) (x5 : Int32) (S : ri_H), w178_l46  K37 Q n x2 x3 x4 x5 S → ri_A E 0 (178, 46, [some (.ref 50), none, some (.int x2), some (.int x3), some (.int x4), some (.int x5)], []) S (Ql Q) := by
  intro n
  induction n with
  | zero => intro x2 x3 x4 x5 S h; exact h.elim
  | succ n ih =>
    intro x2 x3 x4 x5 S h
    unfold w178_l46 at h
    refine A_br ((12 : Int32) ≤ x5) (r1 := ((178, 67, [some (.ref 50), none, some (.int x2), some (.int x3), some (.int x4), some (.int x5)], []), S)) (r2 := ((178, 53, [some (.ref 50), none, some (.int x2), some (.int x3), some (.int x4), some (.int x5)], []), S)) 3 rfl (fun c => ?_) (fun c => ?_)
    · have h := h.1 c
      refine A_nx 2 (fr' := (178, 70, [some (.ref 50), none, some (.int x2), some (.int x3), some (.int x4), some (.int (0 : Int32))], [])) (S' := S) rfl ?_
      refine ri_A.less (m := 178) (pc := 70) (L := [some (.ref 50), none, some (.int x2), some (.int x3), some (.int x4), some (.int (0 : Int32))]) (L' := [some (.ref 50), none, some (.int x2), some (.int x3), some (.int x4), some (.int (0 : Int32))]) (st := []) ⟨rfl, ⟨rfl, ⟨rfl, ⟨rfl, ⟨rfl, trivial⟩⟩⟩⟩⟩ ?_
      obtain ⟨nn, h⟩ := h
      exact wt178_l70  hK37 nn _ _ _ _ _ h
    · have h := h.2 c
      refine A_ix x5 12 (r1 := ((178, 61, [some (.ref 50), none, some (.int x2), some (.int x3), some (.int x4), some (.int x5)], []), (ri_wl S 59 (x5).toNatClampNeg (0 : Int64)))) 5 rfl h.1 ?_
      have h := h.2
      refine A_nx 2 (fr' := (178, 46, [some (.ref 50), none, some (.int x2), some (.int x3), some (.int x4), some (.int (x5 + (1 : Int32)))], [])) (S' := (ri_wl S 59 (x5).toNatClampNeg (0 : Int64))) rfl ?_
      refine ri_A.less (m := 178) (pc := 46) (L := [some (.ref 50), none, some (.int x2), some (.int x3), some (.int x4), some (.int (x5 + (1 : Int32)))]) (L' := [some (.ref 50), none, some (.int x2), some (.int x3), some (.int x4), some (.int (x5 + (1 : Int32)))]) (st := []) ⟨rfl, ⟨rfl, ⟨rfl, ⟨rfl, ⟨rfl, trivial⟩⟩⟩⟩⟩ ?_
      exact ih _ _ _ _ _ h
def w178_l37 (Q : Int64 → ri_H → Prop) : Nat → Int32 → Int32 → Int32 → ri_H → Prop
  | 0, _, _, _, _ => False
  | n + 1, x2, x3, x4, S => ((x3 ≤ x4 → (vp_in x2 12 ∧ Q (S.2 58 (x2).toNatClampNeg) S)) ∧ (¬ (x3 ≤ x4) → ∃ nn, w178_l46  (fun x2 x3 x4 S => w178_l37   Q n x2 x3 x4 S) Q nn x2 x3 x4 (0 : Int32) S))
set_option maxRecDepth 10000 in
set_option maxHeartbeats 1000000 in
theorem wt178_l37 {E : ri_E} {Q : Int64 → ri_H → Prop} : ∀ (n : Nat) (x2 : Int32) (x3 : Int32) (x4 : Int32) (S : ri_H), w178_l37   Q n x2 x3 x4 S → ri_A E 0 (178, 37, [some (.ref 50), none, some (.int x2), some (.int x3), some (.int x4), none], []) S (Ql Q) := by
  intro n
  induction n with
  | zero => intro x2 x3 x4 S h; exact h.elim
  | succ n ih =>
    intro x2 x3 x4 S h
    unfold w178_l37 at h
    refine A_br (x3 ≤ x4) (r1 := ((178, 143, [some (.ref 50), none, some (.int x2), some (.int x3), some (.int x4), none], []), S)) (r2 := ((178, 43, [some (.ref 50), none, some (.int x2), some (.int x3), some (.int x4), none], []), S)) 3 rfl (fun c => ?_) (fun c => ?_)
    · have h := h.1 c
      refine A_ix x2 12 (r1 := ((178, 149, [some (.ref 50), none, some (.int x2), some (.int x3), some (.int x4), none], [.long (S.2 58 (x2).toNatClampNeg)]), S)) 4 rfl h.1 ?_
      have h := h.2
      exact A_ret 1 (m := 178) (v := some (.long (S.2 58 (x2).toNatClampNeg))) (S' := S) rfl rfl ⟨_, rfl, h⟩
    · have h := h.2 c
      refine A_nx 2 (fr' := (178, 46, [some (.ref 50), none, some (.int x2), some (.int x3), some (.int x4), some (.int (0 : Int32))], [])) (S' := S) rfl ?_
      refine ri_A.less (m := 178) (pc := 46) (L := [some (.ref 50), none, some (.int x2), some (.int x3), some (.int x4), some (.int (0 : Int32))]) (L' := [some (.ref 50), none, some (.int x2), some (.int x3), some (.int x4), some (.int (0 : Int32))]) (st := []) ⟨rfl, ⟨rfl, ⟨rfl, ⟨rfl, ⟨rfl, trivial⟩⟩⟩⟩⟩ ?_
      obtain ⟨nn, h⟩ := h
      exact wt178_l46  (fun x2 x3 x4 S hk => ih x2 x3 x4 S hk) nn _ _ _ _ _ h
def w178_b27 (K3 : Int32 → Int32 → Int32 → Int32 → ri_H → Prop) (Q : Int64 → ri_H → Prop) (x1 : Int32) (x2 : Int32) (x3 : Int32) (x4 : Int32) (t0 : Int64) (s1 : Int32) (S : ri_H) : Prop := (vp_in s1 12 ∧ K3 x1 x2 x3 (x4 + (1 : Int32)) (ri_wl S 58 (s1).toNatClampNeg t0))
set_option maxRecDepth 10000 in
set_option maxHeartbeats 1000000 in
theorem wt178_b27 {E : ri_E} {K3 : Int32 → Int32 → Int32 → Int32 → ri_H → Prop} {Q : Int64 → ri_H → Prop} (hK3 : ∀ (x1 : Int32) (x2 : Int32) (x3 : Int32) (x4 : Int32) (S : ri_H), K3 x1 x2 x3 x4 S → ri_A E 0 (178, 3, [some (.ref 50), some (.int x1), some (.int x2), some (.int x3), some (.int x4), none], []) S (Ql Q)) (x1 : Int32) (x2 : Int32) (x3 : Int32) (x4 : Int32) (t0 : Int64) (s1 : Int32) (S : ri_H) (h : w178_b27  K3 Q x1 x2 x3 x4 t0 s1 S) : ri_A E 0 (178, 27, [some (.ref 50), some (.int x1), some (.int x2), some (.int x3), some (.int x4), none], [.long t0, .int s1, .ref 58]) S (Ql Q) := by
  unfold w178_b27 at h
  refine A_ix s1 12 (r1 := ((178, 28, [some (.ref 50), some (.int x1), some (.int x2), some (.int x3), some (.int x4), none], []), (ri_wl S 58 (s1).toNatClampNeg t0))) 1 rfl h.1 ?_
  have h := h.2
  refine A_nx 2 (fr' := (178, 3, [some (.ref 50), some (.int x1), some (.int x2), some (.int x3), some (.int (x4 + (1 : Int32))), none], [])) (S' := (ri_wl S 58 (s1).toNatClampNeg t0)) rfl ?_
  refine ri_A.less (m := 178) (pc := 3) (L := [some (.ref 50), some (.int x1), some (.int x2), some (.int x3), some (.int (x4 + (1 : Int32))), none]) (L' := [some (.ref 50), some (.int x1), some (.int x2), some (.int x3), some (.int (x4 + (1 : Int32))), none]) (st := []) ⟨rfl, ⟨rfl, ⟨rfl, ⟨rfl, ⟨rfl, trivial⟩⟩⟩⟩⟩ ?_
  exact hK3 _ _ _ _ _ h
def w178_l3 (Q : Int64 → ri_H → Prop) : Nat → Int32 → Int32 → Int32 → Int32 → ri_H → Prop
  | 0, _, _, _, _, _ => False
  | n + 1, x1, x2, x3, x4, S => (((12 : Int32) ≤ x4 → ∃ nn, w178_l37   Q nn x2 x3 (0 : Int32) S) ∧ (¬ (12 : Int32) ≤ x4 → ((¬ x4 = x1 → w178_b27  (fun x1 x2 x3 x4 S => w178_l3   Q n x1 x2 x3 x4 S) Q x1 x2 x3 x4 (0 : Int64) x4 S) ∧ (¬ (¬ x4 = x1) → w178_b27  (fun x1 x2 x3 x4 S => w178_l3   Q n x1 x2 x3 x4 S) Q x1 x2 x3 x4 (1 : Int64) x4 S))))
set_option maxRecDepth 10000 in
set_option maxHeartbeats 1000000 in
theorem wt178_l3 {E : ri_E} {Q : Int64 → ri_H → Prop} : ∀ (n : Nat) (x1 : Int32) (x2 : Int32) (x3 : Int32) (x4 : Int32) (S : ri_H), w178_l3   Q n x1 x2 x3 x4 S → ri_A E 0 (178, 3, [some (.ref 50), some (.int x1), some (.int x2), some (.int x3), some (.int x4), none], []) S (Ql Q) := by
  intro n
  induction n with
  | zero => intro x1 x2 x3 x4 S h; exact h.elim
  | succ n ih =>
    intro x1 x2 x3 x4 S h
    unfold w178_l3 at h
    refine A_br ((12 : Int32) ≤ x4) (r1 := ((178, 34, [some (.ref 50), some (.int x1), some (.int x2), some (.int x3), some (.int x4), none], []), S)) (r2 := ((178, 10, [some (.ref 50), some (.int x1), some (.int x2), some (.int x3), some (.int x4), none], []), S)) 3 rfl (fun c => ?_) (fun c => ?_)
    · have h := h.1 c
      refine A_nx 2 (fr' := (178, 37, [some (.ref 50), some (.int x1), some (.int x2), some (.int x3), some (.int (0 : Int32)), none], [])) (S' := S) rfl ?_
      refine ri_A.less (m := 178) (pc := 37) (L := [some (.ref 50), some (.int x1), some (.int x2), some (.int x3), some (.int (0 : Int32)), none]) (L' := [some (.ref 50), none, some (.int x2), some (.int x3), some (.int (0 : Int32)), none]) (st := []) ⟨rfl, ⟨rfl, ⟨rfl, ⟨rfl, trivial⟩⟩⟩⟩ ?_
      obtain ⟨nn, h⟩ := h
      exact wt178_l37   nn _ _ _ _ h
    · have h := h.2 c
      refine A_br (¬ x4 = x1) (r1 := ((178, 26, [some (.ref 50), some (.int x1), some (.int x2), some (.int x3), some (.int x4), none], [.int x4, .ref 58]), S)) (r2 := ((178, 22, [some (.ref 50), some (.int x1), some (.int x2), some (.int x3), some (.int x4), none], [.int x4, .ref 58]), S)) 6 rfl (fun c => ?_) (fun c => ?_)
      · have h := h.1 c
        refine A_nx 1 (fr' := (178, 27, [some (.ref 50), some (.int x1), some (.int x2), some (.int x3), some (.int x4), none], [.long (0 : Int64), .int x4, .ref 58])) (S' := S) rfl ?_
        refine ri_A.less (m := 178) (pc := 27) (L := [some (.ref 50), some (.int x1), some (.int x2), some (.int x3), some (.int x4), none]) (L' := [some (.ref 50), some (.int x1), some (.int x2), some (.int x3), some (.int x4), none]) (st := [.long (0 : Int64), .int x4, .ref 58]) ⟨rfl, ⟨rfl, ⟨rfl, ⟨rfl, ⟨rfl, trivial⟩⟩⟩⟩⟩ ?_
        exact wt178_b27  (fun x1 x2 x3 x4 S hk => ih x1 x2 x3 x4 S hk) _ _ _ _ _ _ _ h
      · have h := h.2 c
        refine A_nx 2 (fr' := (178, 27, [some (.ref 50), some (.int x1), some (.int x2), some (.int x3), some (.int x4), none], [.long (1 : Int64), .int x4, .ref 58])) (S' := S) rfl ?_
        refine ri_A.less (m := 178) (pc := 27) (L := [some (.ref 50), some (.int x1), some (.int x2), some (.int x3), some (.int x4), none]) (L' := [some (.ref 50), some (.int x1), some (.int x2), some (.int x3), some (.int x4), none]) (st := [.long (1 : Int64), .int x4, .ref 58]) ⟨rfl, ⟨rfl, ⟨rfl, ⟨rfl, ⟨rfl, trivial⟩⟩⟩⟩⟩ ?_
        exact wt178_b27  (fun x1 x2 x3 x4 S hk => ih x1 x2 x3 x4 S hk) _ _ _ _ _ _ _ h
def w178 (a : Int32) (b : Int32) (g : Int32) (S : ri_H) (Q : Int64 → ri_H → Prop) : Prop := ∃ nn, w178_l3   Q nn a b g (0 : Int32) S
set_option maxRecDepth 10000 in
set_option maxHeartbeats 1000000 in
theorem wt178 {E : ri_E} (a : Int32) (b : Int32) (g : Int32) {S : ri_H} {Q : Int64 → ri_H → Prop} (h : w178  a b g S Q) : ri_A E 0 (ri_en 178 [.ref 50, .int a, .int b, .int g]) S (Ql Q) := by
  unfold w178 at h
  show ri_A E 0 (178, 0, [some (.ref 50), some (.int a), some (.int b), some (.int g), none, none], []) S (Ql Q)
  refine A_nx 2 (fr' := (178, 3, [some (.ref 50), some (.int a), some (.int b), some (.int g), some (.int (0 : Int32)), none], [])) (S' := S) rfl ?_
  refine ri_A.less (m := 178) (pc := 3) (L := [some (.ref 50), some (.int a), some (.int b), some (.int g), some (.int (0 : Int32)), none]) (L' := [some (.ref 50), some (.int a), some (.int b), some (.int g), some (.int (0 : Int32)), none]) (st := []) ⟨rfl, ⟨rfl, ⟨rfl, ⟨rfl, ⟨rfl, trivial⟩⟩⟩⟩⟩ ?_
  obtain ⟨nn, h⟩ := h
  exact wt178_l3   nn _ _ _ _ _ h
/-! X5_turns, depth 2 -/
def w179_b36 (Q : Int64 → ri_H → Prop)  (S : ri_H) : Prop := Q (-4611686018427387904 : Int64) S
set_option maxRecDepth 10000 in
set_option maxHeartbeats 1000000 in
theorem wt179_b36 {E : ri_E} {Q : Int64 → ri_H → Prop}  (S : ri_H) (h : w179_b36   Q  S) : ri_A E 2 (179, 36, [none, none, none, none], []) S (Ql Q) := by
  unfold w179_b36 at h
  exact A_ret 2 (m := 179) (v := some (.long (-4611686018427387904 : Int64))) (S' := S) rfl rfl ⟨_, rfl, h⟩
def w179 (a : Int32) (b : Int32) (g : Int32) (S : ri_H) (Q : Int64 → ri_H → Prop) : Prop := w105 a S (fun (r2 : Int32) (S1 : ri_H) => ((r2 = 0 → w179_b36   Q  S1) ∧ (¬ (r2 = 0) → w105 b S1 (fun (r4 : Int32) (S3 : ri_H) => ((r4 = 0 → w179_b36   Q  S3) ∧ (¬ (r4 = 0) → w102 (g).toInt64 (0 : Int64) (30 : Int64) S3 (fun (r6 : Int32) (S5 : ri_H) => ((r6 = 0 → w179_b36   Q  S5) ∧ (¬ (r6 = 0) → w178 a b g S5 (fun (r8 : Int64) (S7 : ri_H) => Q r8 S7))))))))))
set_option maxRecDepth 10000 in
set_option maxHeartbeats 1000000 in
theorem wt179 {E : ri_E} (a : Int32) (b : Int32) (g : Int32) {S : ri_H} {Q : Int64 → ri_H → Prop} (h : w179  a b g S Q) : ri_A E 2 (ri_en 179 [.ref 50, .int a, .int b, .int g]) S (Ql Q) := by
  unfold w179 at h
  show ri_A E 2 (179, 0, [some (.ref 50), some (.int a), some (.int b), some (.int g)], []) S (Ql Q)
  refine A_call (j := 105) (As := [.int a]) (fr' := (179, 4, [some (.ref 50), some (.int a), some (.int b), some (.int g)], [])) (S' := S) 2 rfl (e := 1) (by omega) (A_imp (wt105 a h) (fun v S1 hq => ?_))
  obtain ⟨r2, hv, h⟩ := hq
  subst hv
  refine A_br (r2 = 0) (r1 := ((179, 36, [some (.ref 50), some (.int a), some (.int b), some (.int g)], []), S1)) (r2 := ((179, 7, [some (.ref 50), some (.int a), some (.int b), some (.int g)], []), S1)) 1 rfl (fun c => ?_) (fun c => ?_)
  · have h := h.1 c
    refine ri_A.less (m := 179) (pc := 36) (L := [some (.ref 50), some (.int a), some (.int b), some (.int g)]) (L' := [none, none, none, none]) (st := []) trivial ?_
    exact wt179_b36   _ h
  · have h := h.2 c
    refine A_call (j := 105) (As := [.int b]) (fr' := (179, 11, [some (.ref 50), some (.int a), some (.int b), some (.int g)], [])) (S' := S1) 2 rfl (e := 1) (by omega) (A_imp (wt105 b h) (fun v S3 hq => ?_))
    obtain ⟨r4, hv, h⟩ := hq
    subst hv
    refine A_br (r4 = 0) (r1 := ((179, 36, [some (.ref 50), some (.int a), some (.int b), some (.int g)], []), S3)) (r2 := ((179, 14, [some (.ref 50), some (.int a), some (.int b), some (.int g)], []), S3)) 1 rfl (fun c => ?_) (fun c => ?_)
    · have h := h.1 c
      refine ri_A.less (m := 179) (pc := 36) (L := [some (.ref 50), some (.int a), some (.int b), some (.int g)]) (L' := [none, none, none, none]) (st := []) trivial ?_
      exact wt179_b36   _ h
    · have h := h.2 c
      refine A_call (j := 102) (As := [.long (g).toInt64, .long (0 : Int64), .long (30 : Int64)]) (fr' := (179, 23, [some (.ref 50), some (.int a), some (.int b), some (.int g)], [])) (S' := S3) 5 rfl (e := 0) (by omega) (A_imp (wt102 (g).toInt64 (0 : Int64) (30 : Int64) h) (fun v S5 hq => ?_))
      obtain ⟨r6, hv, h⟩ := hq
      subst hv
      refine A_br (r6 = 0) (r1 := ((179, 36, [some (.ref 50), some (.int a), some (.int b), some (.int g)], []), S5)) (r2 := ((179, 26, [some (.ref 50), some (.int a), some (.int b), some (.int g)], []), S5)) 1 rfl (fun c => ?_) (fun c => ?_)
      · have h := h.1 c
        refine ri_A.less (m := 179) (pc := 36) (L := [some (.ref 50), some (.int a), some (.int b), some (.int g)]) (L' := [none, none, none, none]) (st := []) trivial ?_
        exact wt179_b36   _ h
      · have h := h.2 c
        refine A_call (j := 178) (As := [.ref 50, .int a, .int b, .int g]) (fr' := (179, 33, [some (.ref 50), some (.int a), some (.int b), some (.int g)], [])) (S' := S5) 5 rfl (e := 0) (by omega) (A_imp (wt178 a b g h) (fun v S7 hq => ?_))
        obtain ⟨r8, hv, h⟩ := hq
        subst hv
        exact A_ret 2 (m := 179) (v := some (.long r8)) (S' := S7) rfl rfl ⟨_, rfl, h⟩
/-! X5_lowest, depth 0 -/
def w180_l6 (Q : Int64 → ri_H → Prop) : Nat → Int64 → Int64 → Int32 → Int64 → Int64 → ri_H → Prop
  | 0, _, _, _, _, _, _ => False
  | n + 1, y0, y2, x4, y5, y7, S => (((lg_cmp y7 (0 : Int64)) = 0 → ((¬ x4 = 0 → (¬ y5 = 0) ∧ (Q (y2 / y5) S)) ∧ (¬ (¬ x4 = 0) → (¬ y5 = 0) ∧ (Q (y0 / y5) S)))) ∧ (¬ (lg_cmp y7 (0 : Int64)) = 0 → (¬ y7 = 0) ∧ (w180_l6   Q n y0 y2 x4 y7 (y5 - y5 / y7 * y7) S)))
set_option maxRecDepth 10000 in
set_option maxHeartbeats 1000000 in
theorem wt180_l6 {E : ri_E} {Q : Int64 → ri_H → Prop} : ∀ (n : Nat) (y0 : Int64) (y2 : Int64) (x4 : Int32) (y5 : Int64) (y7 : Int64) (S : ri_H), w180_l6   Q n y0 y2 x4 y5 y7 S → ri_A E 0 (180, 6, [some (.long y0), none, some (.long y2), none, some (.int x4), some (.long y5), none, some (.long y7), none, none, none], []) S (Ql Q) := by
  intro n
  induction n with
  | zero => intro y0 y2 x4 y5 y7 S h; exact h.elim
  | succ n ih =>
    intro y0 y2 x4 y5 y7 S h
    unfold w180_l6 at h
    refine A_br ((lg_cmp y7 (0 : Int64)) = 0) (r1 := ((180, 31, [some (.long y0), none, some (.long y2), none, some (.int x4), some (.long y5), none, some (.long y7), none, none, none], []), S)) (r2 := ((180, 13, [some (.long y0), none, some (.long y2), none, some (.int x4), some (.long y5), none, some (.long y7), none, none, none], []), S)) 4 rfl (fun c => ?_) (fun c => ?_)
    · have h := h.1 c
      refine A_br (¬ x4 = 0) (r1 := ((180, 43, [some (.long y0), none, some (.long y2), none, some (.int x4), some (.long y5), none, some (.long y7), none, none, none], []), S)) (r2 := ((180, 36, [some (.long y0), none, some (.long y2), none, some (.int x4), some (.long y5), none, some (.long y7), none, none, none], []), S)) 2 rfl (fun c => ?_) (fun c => ?_)
      · have h := h.1 c
        refine A_gd (¬ y5 = 0) (r1 := ((180, 47, [some (.long y0), none, some (.long y2), none, some (.int x4), some (.long y5), none, some (.long y7), none, none, none], [.long (y2 / y5)]), S)) 3 rfl h.1 ?_
        have h := h.2
        exact A_ret 1 (m := 180) (v := some (.long (y2 / y5))) (S' := S) rfl rfl ⟨_, rfl, h⟩
      · have h := h.2 c
        refine A_gd (¬ y5 = 0) (r1 := ((180, 40, [some (.long y0), none, some (.long y2), none, some (.int x4), some (.long y5), none, some (.long y7), none, none, none], [.long (y0 / y5)]), S)) 3 rfl h.1 ?_
        have h := h.2
        exact A_ret 2 (m := 180) (v := some (.long (y0 / y5))) (S' := S) rfl rfl ⟨_, rfl, h⟩
    · have h := h.2 c
      refine A_gd (¬ y7 = 0) (r1 := ((180, 18, [some (.long y0), none, some (.long y2), none, some (.int x4), some (.long y5), none, some (.long y7), none, none, none], [.long (y5 - y5 / y7 * y7)]), S)) 3 rfl h.1 ?_
      have h := h.2
      refine A_nx 6 (fr' := (180, 6, [some (.long y0), none, some (.long y2), none, some (.int x4), some (.long y7), none, some (.long (y5 - y5 / y7 * y7)), none, some (.long (y5 - y5 / y7 * y7)), none], [])) (S' := S) rfl ?_
      refine ri_A.less (m := 180) (pc := 6) (L := [some (.long y0), none, some (.long y2), none, some (.int x4), some (.long y7), none, some (.long (y5 - y5 / y7 * y7)), none, some (.long (y5 - y5 / y7 * y7)), none]) (L' := [some (.long y0), none, some (.long y2), none, some (.int x4), some (.long y7), none, some (.long (y5 - y5 / y7 * y7)), none, none, none]) (st := []) ⟨rfl, ⟨rfl, ⟨rfl, ⟨rfl, ⟨rfl, trivial⟩⟩⟩⟩⟩ ?_
      exact ih _ _ _ _ _ _ h
def w180 (a : Int64) (b : Int64) (g : Int32) (S : ri_H) (Q : Int64 → ri_H → Prop) : Prop := ∃ nn, w180_l6   Q nn a b g a b S
set_option maxRecDepth 10000 in
set_option maxHeartbeats 1000000 in
theorem wt180 {E : ri_E} (a : Int64) (b : Int64) (g : Int32) {S : ri_H} {Q : Int64 → ri_H → Prop} (h : w180  a b g S Q) : ri_A E 0 (ri_en 180 [.long a, .long b, .int g]) S (Ql Q) := by
  unfold w180 at h
  show ri_A E 0 (180, 0, [some (.long a), none, some (.long b), none, some (.int g), none, none, none, none, none, none], []) S (Ql Q)
  refine A_nx 4 (fr' := (180, 6, [some (.long a), none, some (.long b), none, some (.int g), some (.long a), none, some (.long b), none, none, none], [])) (S' := S) rfl ?_
  refine ri_A.less (m := 180) (pc := 6) (L := [some (.long a), none, some (.long b), none, some (.int g), some (.long a), none, some (.long b), none, none, none]) (L' := [some (.long a), none, some (.long b), none, some (.int g), some (.long a), none, some (.long b), none, none, none]) (st := []) ⟨rfl, ⟨rfl, ⟨rfl, ⟨rfl, ⟨rfl, trivial⟩⟩⟩⟩⟩ ?_
  obtain ⟨nn, h⟩ := h
  exact wt180_l6   nn _ _ _ _ _ _ h
/-! X5_likely, depth 2 -/
def w181_b37 (Q : Int64 → ri_H → Prop)  (S : ri_H) : Prop := Q (-4611686018427387904 : Int64) S
set_option maxRecDepth 10000 in
set_option maxHeartbeats 1000000 in
theorem wt181_b37 {E : ri_E} {Q : Int64 → ri_H → Prop}  (S : ri_H) (h : w181_b37   Q  S) : ri_A E 2 (181, 37, [none, none, none, none, none], []) S (Ql Q) := by
  unfold w181_b37 at h
  exact A_ret 2 (m := 181) (v := some (.long (-4611686018427387904 : Int64))) (S' := S) rfl rfl ⟨_, rfl, h⟩
def w181 (a : Int32) (b : Int32) (g : Int32) (d : Int32) (S : ri_H) (Q : Int64 → ri_H → Prop) : Prop := w105 a S (fun (r2 : Int32) (S1 : ri_H) => ((r2 = 0 → w181_b37   Q  S1) ∧ (¬ (r2 = 0) → w105 b S1 (fun (r4 : Int32) (S3 : ri_H) => ((r4 = 0 → w181_b37   Q  S3) ∧ (¬ (r4 = 0) → w102 (g).toInt64 (0 : Int64) (30 : Int64) S3 (fun (r6 : Int32) (S5 : ri_H) => ((r6 = 0 → w181_b37   Q  S5) ∧ (¬ (r6 = 0) → w102 (d).toInt64 (0 : Int64) (1 : Int64) S5 (fun (r8 : Int32) (S7 : ri_H) => ((¬ r8 = 0 → w178 a b g S7 (fun (r10 : Int64) (S9 : ri_H) => w180 r10 ((1 : Int64) <<< ((g).toInt64 &&& 63)) d S9 (fun (r12 : Int64) (S11 : ri_H) => Q r12 S11))) ∧ (¬ (¬ r8 = 0) → w181_b37   Q  S7))))))))))))
set_option maxRecDepth 10000 in
set_option maxHeartbeats 1000000 in
theorem wt181 {E : ri_E} (a : Int32) (b : Int32) (g : Int32) (d : Int32) {S : ri_H} {Q : Int64 → ri_H → Prop} (h : w181  a b g d S Q) : ri_A E 2 (ri_en 181 [.ref 50, .int a, .int b, .int g, .int d]) S (Ql Q) := by
  unfold w181 at h
  show ri_A E 2 (181, 0, [some (.ref 50), some (.int a), some (.int b), some (.int g), some (.int d)], []) S (Ql Q)
  refine A_call (j := 105) (As := [.int a]) (fr' := (181, 4, [some (.ref 50), some (.int a), some (.int b), some (.int g), some (.int d)], [])) (S' := S) 2 rfl (e := 1) (by omega) (A_imp (wt105 a h) (fun v S1 hq => ?_))
  obtain ⟨r2, hv, h⟩ := hq
  subst hv
  refine A_br (r2 = 0) (r1 := ((181, 37, [some (.ref 50), some (.int a), some (.int b), some (.int g), some (.int d)], []), S1)) (r2 := ((181, 7, [some (.ref 50), some (.int a), some (.int b), some (.int g), some (.int d)], []), S1)) 1 rfl (fun c => ?_) (fun c => ?_)
  · have h := h.1 c
    refine ri_A.less (m := 181) (pc := 37) (L := [some (.ref 50), some (.int a), some (.int b), some (.int g), some (.int d)]) (L' := [none, none, none, none, none]) (st := []) trivial ?_
    exact wt181_b37   _ h
  · have h := h.2 c
    refine A_call (j := 105) (As := [.int b]) (fr' := (181, 11, [some (.ref 50), some (.int a), some (.int b), some (.int g), some (.int d)], [])) (S' := S1) 2 rfl (e := 1) (by omega) (A_imp (wt105 b h) (fun v S3 hq => ?_))
    obtain ⟨r4, hv, h⟩ := hq
    subst hv
    refine A_br (r4 = 0) (r1 := ((181, 37, [some (.ref 50), some (.int a), some (.int b), some (.int g), some (.int d)], []), S3)) (r2 := ((181, 14, [some (.ref 50), some (.int a), some (.int b), some (.int g), some (.int d)], []), S3)) 1 rfl (fun c => ?_) (fun c => ?_)
    · have h := h.1 c
      refine ri_A.less (m := 181) (pc := 37) (L := [some (.ref 50), some (.int a), some (.int b), some (.int g), some (.int d)]) (L' := [none, none, none, none, none]) (st := []) trivial ?_
      exact wt181_b37   _ h
    · have h := h.2 c
      refine A_call (j := 102) (As := [.long (g).toInt64, .long (0 : Int64), .long (30 : Int64)]) (fr' := (181, 23, [some (.ref 50), some (.int a), some (.int b), some (.int g), some (.int d)], [])) (S' := S3) 5 rfl (e := 0) (by omega) (A_imp (wt102 (g).toInt64 (0 : Int64) (30 : Int64) h) (fun v S5 hq => ?_))
      obtain ⟨r6, hv, h⟩ := hq
      subst hv
      refine A_br (r6 = 0) (r1 := ((181, 37, [some (.ref 50), some (.int a), some (.int b), some (.int g), some (.int d)], []), S5)) (r2 := ((181, 26, [some (.ref 50), some (.int a), some (.int b), some (.int g), some (.int d)], []), S5)) 1 rfl (fun c => ?_) (fun c => ?_)
      · have h := h.1 c
        refine ri_A.less (m := 181) (pc := 37) (L := [some (.ref 50), some (.int a), some (.int b), some (.int g), some (.int d)]) (L' := [none, none, none, none, none]) (st := []) trivial ?_
        exact wt181_b37   _ h
      · have h := h.2 c
        refine A_call (j := 102) (As := [.long (d).toInt64, .long (0 : Int64), .long (1 : Int64)]) (fr' := (181, 34, [some (.ref 50), some (.int a), some (.int b), some (.int g), some (.int d)], [])) (S' := S5) 5 rfl (e := 0) (by omega) (A_imp (wt102 (d).toInt64 (0 : Int64) (1 : Int64) h) (fun v S7 hq => ?_))
        obtain ⟨r8, hv, h⟩ := hq
        subst hv
        refine A_br (¬ r8 = 0) (r1 := ((181, 41, [some (.ref 50), some (.int a), some (.int b), some (.int g), some (.int d)], []), S7)) (r2 := ((181, 37, [some (.ref 50), some (.int a), some (.int b), some (.int g), some (.int d)], []), S7)) 1 rfl (fun c => ?_) (fun c => ?_)
        · have h := h.1 c
          refine A_call (j := 178) (As := [.ref 50, .int a, .int b, .int g]) (fr' := (181, 48, [some (.ref 50), some (.int a), some (.int b), some (.int g), some (.int d)], [])) (S' := S7) 5 rfl (e := 0) (by omega) (A_imp (wt178 a b g h) (fun v S9 hq => ?_))
          obtain ⟨r10, hv, h⟩ := hq
          subst hv
          refine A_call (j := 180) (As := [.long r10, .long ((1 : Int64) <<< ((g).toInt64 &&& 63)), .int d]) (fr' := (181, 56, [some (.ref 50), some (.int a), some (.int b), some (.int g), some (.int d)], [])) (S' := S9) 5 rfl (e := 0) (by omega) (A_imp (wt180 r10 ((1 : Int64) <<< ((g).toInt64 &&& 63)) d h) (fun v S11 hq => ?_))
          obtain ⟨r12, hv, h⟩ := hq
          subst hv
          exact A_ret 1 (m := 181) (v := some (.long r12)) (S' := S11) rfl rfl ⟨_, rfl, h⟩
        · have h := h.2 c
          refine ri_A.less (m := 181) (pc := 37) (L := [some (.ref 50), some (.int a), some (.int b), some (.int g), some (.int d)]) (L' := [none, none, none, none, none]) (st := []) trivial ?_
          exact wt181_b37   _ h
/-! X5_fewest, depth 61 -/
def w182_l217 (K77 : Int32 → Int32 → Int32 → Int32 → ri_H → Prop) (Q : Int32 → ri_H → Prop) : Nat → Int32 → Int32 → Int32 → Int32 → Int32 → ri_H → Prop
  | 0, _, _, _, _, _, _ => False
  | n + 1, x1, x2, x3, x4, x5, S => (((12 : Int32) ≤ x5 → K77 x1 x2 x3 (x4 + (1 : Int32)) (ri_wi S 50 7 ((S.1 50 7) + (1 : Int32)))) ∧ (¬ (12 : Int32) ≤ x5 → (vp_in x5 12 ∧ (vp_in x5 12 ∧ w182_l217  K77 Q n x1 x2 x3 x4 (x5 + (1 : Int32)) (ri_wi S 60 (x5).toNatClampNeg (S.1 61 (x5).toNatClampNeg))))))
set_option maxRecDepth 10000 in
set_option maxHeartbeats 1000000 in
theorem wt182_l217 {E : ri_E} {K77 : Int32 → Int32 → Int32 → Int32 → ri_H → Prop} {Q : Int32 → ri_H → Prop} (hK77 : ∀ (x1 : Int32) (x2 : Int32) (x3 : Int32) (x4 : Int32) (S : ri_H), K77 x1 x2 x3 x4 S → ri_A E 61 (182, 77, [some (.ref 50), some (.int x1), some (.int x2), some (.int x3), some (.int x4), none, none], []) S (Qi Q)) : ∀ (n : Nat) (x1 : Int32) (x2 : Int32) (x3 : Int32) (x4 : Int32) (x5 : Int32) (S : ri_H), w182_l217  K77 Q n x1 x2 x3 x4 x5 S → ri_A E 61 (182, 217, [some (.ref 50), some (.int x1), some (.int x2), some (.int x3), some (.int x4), some (.int x5), none], []) S (Qi Q) := by
  intro n
  induction n with
  | zero => intro x1 x2 x3 x4 x5 S h; exact h.elim
  | succ n ih =>
    intro x1 x2 x3 x4 x5 S h
    unfold w182_l217 at h
    refine A_br ((12 : Int32) ≤ x5) (r1 := ((182, 244, [some (.ref 50), some (.int x1), some (.int x2), some (.int x3), some (.int x4), some (.int x5), none], []), S)) (r2 := ((182, 224, [some (.ref 50), some (.int x1), some (.int x2), some (.int x3), some (.int x4), some (.int x5), none], []), S)) 3 rfl (fun c => ?_) (fun c => ?_)
    · have h := h.1 c
      refine A_nx 8 (fr' := (182, 77, [some (.ref 50), some (.int x1), some (.int x2), some (.int x3), some (.int (x4 + (1 : Int32))), some (.int x5), none], [])) (S' := (ri_wi S 50 7 ((S.1 50 7) + (1 : Int32)))) rfl ?_
      refine ri_A.less (m := 182) (pc := 77) (L := [some (.ref 50), some (.int x1), some (.int x2), some (.int x3), some (.int (x4 + (1 : Int32))), some (.int x5), none]) (L' := [some (.ref 50), some (.int x1), some (.int x2), some (.int x3), some (.int (x4 + (1 : Int32))), none, none]) (st := []) ⟨rfl, ⟨rfl, ⟨rfl, ⟨rfl, ⟨rfl, trivial⟩⟩⟩⟩⟩ ?_
      exact hK77 _ _ _ _ _ h
    · have h := h.2 c
      refine A_ix x5 12 (r1 := ((182, 237, [some (.ref 50), some (.int x1), some (.int x2), some (.int x3), some (.int x4), some (.int x5), none], [.int (S.1 61 (x5).toNatClampNeg), .int x5, .ref 60]), S)) 7 rfl h.1 ?_
      have h := h.2
      refine A_ix x5 12 (r1 := ((182, 238, [some (.ref 50), some (.int x1), some (.int x2), some (.int x3), some (.int x4), some (.int x5), none], []), (ri_wi S 60 (x5).toNatClampNeg (S.1 61 (x5).toNatClampNeg)))) 1 rfl h.1 ?_
      have h := h.2
      refine A_nx 2 (fr' := (182, 217, [some (.ref 50), some (.int x1), some (.int x2), some (.int x3), some (.int x4), some (.int (x5 + (1 : Int32))), none], [])) (S' := (ri_wi S 60 (x5).toNatClampNeg (S.1 61 (x5).toNatClampNeg))) rfl ?_
      refine ri_A.less (m := 182) (pc := 217) (L := [some (.ref 50), some (.int x1), some (.int x2), some (.int x3), some (.int x4), some (.int (x5 + (1 : Int32))), none]) (L' := [some (.ref 50), some (.int x1), some (.int x2), some (.int x3), some (.int x4), some (.int (x5 + (1 : Int32))), none]) (st := []) ⟨rfl, ⟨rfl, ⟨rfl, ⟨rfl, ⟨rfl, ⟨rfl, trivial⟩⟩⟩⟩⟩⟩ ?_
      exact ih _ _ _ _ _ _ h
def w182_b207 (K77 : Int32 → Int32 → Int32 → Int32 → ri_H → Prop) (K112 : Int32 → Int32 → Int32 → Int32 → Int32 → ri_H → Prop) (Q : Int32 → ri_H → Prop) (x1 : Int32) (x2 : Int32) (x3 : Int32) (x4 : Int32) (x5 : Int32) (s0 : Int32) (s1 : Int32) (S : ri_H) : Prop := (vp_in s1 12 ∧ K112 x1 x2 x3 x4 (x5 + (1 : Int32)) (ri_wi S 61 (s1).toNatClampNeg s0))
set_option maxRecDepth 10000 in
set_option maxHeartbeats 1000000 in
theorem wt182_b207 {E : ri_E} {K77 : Int32 → Int32 → Int32 → Int32 → ri_H → Prop} {K112 : Int32 → Int32 → Int32 → Int32 → Int32 → ri_H → Prop} {Q : Int32 → ri_H → Prop} (hK77 : ∀ (x1 : Int32) (x2 : Int32) (x3 : Int32) (x4 : Int32) (S : ri_H), K77 x1 x2 x3 x4 S → ri_A E 61 (182, 77, [some (.ref 50), some (.int x1), some (.int x2), some (.int x3), some (.int x4), none, none], []) S (Qi Q)) (hK112 : ∀ (x1 : Int32) (x2 : Int32) (x3 : Int32) (x4 : Int32) (x5 : Int32) (S : ri_H), K112 x1 x2 x3 x4 x5 S → ri_A E 61 (182, 112, [some (.ref 50), some (.int x1), some (.int x2), some (.int x3), some (.int x4), some (.int x5), none], []) S (Qi Q)) (x1 : Int32) (x2 : Int32) (x3 : Int32) (x4 : Int32) (x5 : Int32) (s0 : Int32) (s1 : Int32) (S : ri_H) (h : w182_b207  K77 K112 Q x1 x2 x3 x4 x5 s0 s1 S) : ri_A E 61 (182, 207, [some (.ref 50), some (.int x1), some (.int x2), some (.int x3), some (.int x4), some (.int x5), none], [.int s0, .int s1, .ref 61]) S (Qi Q) := by
  unfold w182_b207 at h
  refine A_ix s1 12 (r1 := ((182, 208, [some (.ref 50), some (.int x1), some (.int x2), some (.int x3), some (.int x4), some (.int x5), none], []), (ri_wi S 61 (s1).toNatClampNeg s0))) 1 rfl h.1 ?_
  have h := h.2
  refine A_nx 2 (fr' := (182, 112, [some (.ref 50), some (.int x1), some (.int x2), some (.int x3), some (.int x4), some (.int (x5 + (1 : Int32))), none], [])) (S' := (ri_wi S 61 (s1).toNatClampNeg s0)) rfl ?_
  refine ri_A.less (m := 182) (pc := 112) (L := [some (.ref 50), some (.int x1), some (.int x2), some (.int x3), some (.int x4), some (.int (x5 + (1 : Int32))), none]) (L' := [some (.ref 50), some (.int x1), some (.int x2), some (.int x3), some (.int x4), some (.int (x5 + (1 : Int32))), none]) (st := []) ⟨rfl, ⟨rfl, ⟨rfl, ⟨rfl, ⟨rfl, ⟨rfl, trivial⟩⟩⟩⟩⟩⟩ ?_
  exact hK112 _ _ _ _ _ _ h
def w182_b159 (K77 : Int32 → Int32 → Int32 → Int32 → ri_H → Prop) (K112 : Int32 → Int32 → Int32 → Int32 → Int32 → ri_H → Prop) (Q : Int32 → ri_H → Prop) (x1 : Int32) (x2 : Int32) (x3 : Int32) (x4 : Int32) (x5 : Int32) (s0 : Int32) (s1 : Int32) (S : ri_H) : Prop := (vp_in x5 24 ∧ (vp_in x5 24 ∧ (vp_in (S.1 54 (x5).toNatClampNeg) 12 ∧ (((S.1 61 ((S.1 54 (x5).toNatClampNeg)).toNatClampNeg) ≤ (s1 + s0) → (vp_in x5 24 ∧ (vp_in (S.1 54 (x5).toNatClampNeg) 12 ∧ w182_b207  K77 K112 Q x1 x2 x3 x4 x5 (S.1 61 ((S.1 54 (x5).toNatClampNeg)).toNatClampNeg) (S.1 54 (x5).toNatClampNeg) S))) ∧ (¬ (S.1 61 ((S.1 54 (x5).toNatClampNeg)).toNatClampNeg) ≤ (s1 + s0) → w182_b207  K77 K112 Q x1 x2 x3 x4 x5 (s1 + s0) (S.1 54 (x5).toNatClampNeg) S)))))
set_option maxRecDepth 10000 in
set_option maxHeartbeats 1000000 in
theorem wt182_b159 {E : ri_E} {K77 : Int32 → Int32 → Int32 → Int32 → ri_H → Prop} {K112 : Int32 → Int32 → Int32 → Int32 → Int32 → ri_H → Prop} {Q : Int32 → ri_H → Prop} (hK77 : ∀ (x1 : Int32) (x2 : Int32) (x3 : Int32) (x4 : Int32) (S : ri_H), K77 x1 x2 x3 x4 S → ri_A E 61 (182, 77, [some (.ref 50), some (.int x1), some (.int x2), some (.int x3), some (.int x4), none, none], []) S (Qi Q)) (hK112 : ∀ (x1 : Int32) (x2 : Int32) (x3 : Int32) (x4 : Int32) (x5 : Int32) (S : ri_H), K112 x1 x2 x3 x4 x5 S → ri_A E 61 (182, 112, [some (.ref 50), some (.int x1), some (.int x2), some (.int x3), some (.int x4), some (.int x5), none], []) S (Qi Q)) (x1 : Int32) (x2 : Int32) (x3 : Int32) (x4 : Int32) (x5 : Int32) (s0 : Int32) (s1 : Int32) (S : ri_H) (h : w182_b159  K77 K112 Q x1 x2 x3 x4 x5 s0 s1 S) : ri_A E 61 (182, 159, [some (.ref 50), some (.int x1), some (.int x2), some (.int x3), some (.int x4), some (.int x5), none], [.int s0, .int s1]) S (Qi Q) := by
  unfold w182_b159 at h
  refine A_ix x5 24 (r1 := ((182, 173, [some (.ref 50), some (.int x1), some (.int x2), some (.int x3), some (.int x4), some (.int x5), some (.int (s1 + s0))], [.int (S.1 54 (x5).toNatClampNeg), .ref 61]), S)) 8 rfl h.1 ?_
  have h := h.2
  refine A_ix x5 24 (r1 := ((182, 186, [some (.ref 50), some (.int x1), some (.int x2), some (.int x3), some (.int x4), some (.int x5), some (.int (s1 + s0))], [.int (S.1 54 (x5).toNatClampNeg), .ref 61, .int (s1 + s0), .int (S.1 54 (x5).toNatClampNeg), .ref 61]), S)) 7 rfl h.1 ?_
  have h := h.2
  refine A_ix (S.1 54 (x5).toNatClampNeg) 12 (r1 := ((182, 187, [some (.ref 50), some (.int x1), some (.int x2), some (.int x3), some (.int x4), some (.int x5), some (.int (s1 + s0))], [.int (S.1 61 ((S.1 54 (x5).toNatClampNeg)).toNatClampNeg), .int (s1 + s0), .int (S.1 54 (x5).toNatClampNeg), .ref 61]), S)) 1 rfl h.1 ?_
  have h := h.2
  refine A_br ((S.1 61 ((S.1 54 (x5).toNatClampNeg)).toNatClampNeg) ≤ (s1 + s0)) (r1 := ((182, 195, [some (.ref 50), some (.int x1), some (.int x2), some (.int x3), some (.int x4), some (.int x5), some (.int (s1 + s0))], [.int (S.1 54 (x5).toNatClampNeg), .ref 61]), S)) (r2 := ((182, 190, [some (.ref 50), some (.int x1), some (.int x2), some (.int x3), some (.int x4), some (.int x5), some (.int (s1 + s0))], [.int (S.1 54 (x5).toNatClampNeg), .ref 61]), S)) 1 rfl (fun c => ?_) (fun c => ?_)
  · have h := h.1 c
    refine A_ix x5 24 (r1 := ((182, 206, [some (.ref 50), some (.int x1), some (.int x2), some (.int x3), some (.int x4), some (.int x5), some (.int (s1 + s0))], [.int (S.1 54 (x5).toNatClampNeg), .ref 61, .int (S.1 54 (x5).toNatClampNeg), .ref 61]), S)) 6 rfl h.1 ?_
    have h := h.2
    refine A_ix (S.1 54 (x5).toNatClampNeg) 12 (r1 := ((182, 207, [some (.ref 50), some (.int x1), some (.int x2), some (.int x3), some (.int x4), some (.int x5), some (.int (s1 + s0))], [.int (S.1 61 ((S.1 54 (x5).toNatClampNeg)).toNatClampNeg), .int (S.1 54 (x5).toNatClampNeg), .ref 61]), S)) 1 rfl h.1 ?_
    have h := h.2
    refine ri_A.less (m := 182) (pc := 207) (L := [some (.ref 50), some (.int x1), some (.int x2), some (.int x3), some (.int x4), some (.int x5), some (.int (s1 + s0))]) (L' := [some (.ref 50), some (.int x1), some (.int x2), some (.int x3), some (.int x4), some (.int x5), none]) (st := [.int (S.1 61 ((S.1 54 (x5).toNatClampNeg)).toNatClampNeg), .int (S.1 54 (x5).toNatClampNeg), .ref 61]) ⟨rfl, ⟨rfl, ⟨rfl, ⟨rfl, ⟨rfl, ⟨rfl, trivial⟩⟩⟩⟩⟩⟩ ?_
    exact wt182_b207  hK77 hK112 _ _ _ _ _ _ _ _ h
  · have h := h.2 c
    refine A_nx 2 (fr' := (182, 207, [some (.ref 50), some (.int x1), some (.int x2), some (.int x3), some (.int x4), some (.int x5), some (.int (s1 + s0))], [.int (s1 + s0), .int (S.1 54 (x5).toNatClampNeg), .ref 61])) (S' := S) rfl ?_
    refine ri_A.less (m := 182) (pc := 207) (L := [some (.ref 50), some (.int x1), some (.int x2), some (.int x3), some (.int x4), some (.int x5), some (.int (s1 + s0))]) (L' := [some (.ref 50), some (.int x1), some (.int x2), some (.int x3), some (.int x4), some (.int x5), none]) (st := [.int (s1 + s0), .int (S.1 54 (x5).toNatClampNeg), .ref 61]) ⟨rfl, ⟨rfl, ⟨rfl, ⟨rfl, ⟨rfl, ⟨rfl, trivial⟩⟩⟩⟩⟩⟩ ?_
    exact wt182_b207  hK77 hK112 _ _ _ _ _ _ _ _ h
def w182_l112 (K77 : Int32 → Int32 → Int32 → Int32 → ri_H → Prop) (Q : Int32 → ri_H → Prop) : Nat → Int32 → Int32 → Int32 → Int32 → Int32 → ri_H → Prop
  | 0, _, _, _, _, _, _ => False
  | n + 1, x1, x2, x3, x4, x5, S => (((24 : Int32) ≤ x5 → ∃ nn, w182_l217  K77 Q nn x1 x2 x3 x4 (0 : Int32) S) ∧ (¬ (24 : Int32) ≤ x5 → (vp_in (((5 : Int32) * x1) + (1 : Int32)) 25 ∧ (vp_in (x5 / (2 : Int32)) 12 ∧ w165 x1 (ri_wi S 56 ((((5 : Int32) * x1) + (1 : Int32))).toNatClampNeg (x5 / (2 : Int32))) (fun (r10 : Int32) (S9 : ri_H) => ((¬ r10 = (x5 - x5 / (2 : Int32) * (2 : Int32)) → w182_b159  K77 (fun x1 x2 x3 x4 x5 S => w182_l112  K77 Q n x1 x2 x3 x4 x5 S) Q x1 x2 x3 x4 x5 (1 : Int32) (S.1 60 ((x5 / (2 : Int32))).toNatClampNeg) S9) ∧ (¬ (¬ r10 = (x5 - x5 / (2 : Int32) * (2 : Int32))) → w182_b159  K77 (fun x1 x2 x3 x4 x5 S => w182_l112  K77 Q n x1 x2 x3 x4 x5 S) Q x1 x2 x3 x4 x5 (0 : Int32) (S.1 60 ((x5 / (2 : Int32))).toNatClampNeg) S9)))))))
set_option maxRecDepth 10000 in
set_option maxHeartbeats 1000000 in
theorem wt182_l112 {E : ri_E} {K77 : Int32 → Int32 → Int32 → Int32 → ri_H → Prop} {Q : Int32 → ri_H → Prop} (hK77 : ∀ (x1 : Int32) (x2 : Int32) (x3 : Int32) (x4 : Int32) (S : ri_H), K77 x1 x2 x3 x4 S → ri_A E 61 (182, 77, [some (.ref 50), some (.int x1), some (.int x2), some (.int x3), some (.int x4), none, none], []) S (Qi Q)) : ∀ (n : Nat) (x1 : Int32) (x2 : Int32) (x3 : Int32) (x4 : Int32) (x5 : Int32) (S : ri_H), w182_l112  K77 Q n x1 x2 x3 x4 x5 S → ri_A E 61 (182, 112, [some (.ref 50), some (.int x1), some (.int x2), some (.int x3), some (.int x4), some (.int x5), none], []) S (Qi Q) := by
  intro n
  induction n with
  | zero => intro x1 x2 x3 x4 x5 S h; exact h.elim
  | succ n ih =>
    intro x1 x2 x3 x4 x5 S h
    unfold w182_l112 at h
    refine A_br ((24 : Int32) ≤ x5) (r1 := ((182, 214, [some (.ref 50), some (.int x1), some (.int x2), some (.int x3), some (.int x4), some (.int x5), none], []), S)) (r2 := ((182, 119, [some (.ref 50), some (.int x1), some (.int x2), some (.int x3), some (.int x4), some (.int x5), none], []), S)) 3 rfl (fun c => ?_) (fun c => ?_)
    · have h := h.1 c
      refine A_nx 2 (fr' := (182, 217, [some (.ref 50), some (.int x1), some (.int x2), some (.int x3), some (.int x4), some (.int (0 : Int32)), none], [])) (S' := S) rfl ?_
      refine ri_A.less (m := 182) (pc := 217) (L := [some (.ref 50), some (.int x1), some (.int x2), some (.int x3), some (.int x4), some (.int (0 : Int32)), none]) (L' := [some (.ref 50), some (.int x1), some (.int x2), some (.int x3), some (.int x4), some (.int (0 : Int32)), none]) (st := []) ⟨rfl, ⟨rfl, ⟨rfl, ⟨rfl, ⟨rfl, ⟨rfl, trivial⟩⟩⟩⟩⟩⟩ ?_
      obtain ⟨nn, h⟩ := h
      exact wt182_l217  hK77 nn _ _ _ _ _ _ h
    · have h := h.2 c
      refine A_gd (¬ (2 : Int32) = 0) (r1 := ((182, 132, [some (.ref 50), some (.int x1), some (.int x2), some (.int x3), some (.int x4), some (.int x5), none], [.int (x5 / (2 : Int32)), .int (((5 : Int32) * x1) + (1 : Int32)), .ref 56]), S)) 10 rfl (by decide) ?_
      refine A_ix (((5 : Int32) * x1) + (1 : Int32)) 25 (r1 := ((182, 133, [some (.ref 50), some (.int x1), some (.int x2), some (.int x3), some (.int x4), some (.int x5), none], []), (ri_wi S 56 ((((5 : Int32) * x1) + (1 : Int32))).toNatClampNeg (x5 / (2 : Int32))))) 1 rfl h.1 ?_
      have h := h.2
      refine A_gd (¬ (2 : Int32) = 0) (r1 := ((182, 141, [some (.ref 50), some (.int x1), some (.int x2), some (.int x3), some (.int x4), some (.int x5), none], [.int (x5 / (2 : Int32)), .ref 60]), (ri_wi S 56 ((((5 : Int32) * x1) + (1 : Int32))).toNatClampNeg (x5 / (2 : Int32))))) 5 rfl (by decide) ?_
      refine A_ix (x5 / (2 : Int32)) 12 (r1 := ((182, 142, [some (.ref 50), some (.int x1), some (.int x2), some (.int x3), some (.int x4), some (.int x5), none], [.int (S.1 60 ((x5 / (2 : Int32))).toNatClampNeg)]), (ri_wi S 56 ((((5 : Int32) * x1) + (1 : Int32))).toNatClampNeg (x5 / (2 : Int32))))) 1 rfl h.1 ?_
      have h := h.2
      refine A_call (j := 165) (As := [.ref 50, .int x1]) (fr' := (182, 147, [some (.ref 50), some (.int x1), some (.int x2), some (.int x3), some (.int x4), some (.int x5), none], [.int (S.1 60 ((x5 / (2 : Int32))).toNatClampNeg)])) (S' := (ri_wi S 56 ((((5 : Int32) * x1) + (1 : Int32))).toNatClampNeg (x5 / (2 : Int32)))) 3 rfl (e := 60) (by omega) (A_imp (wt165 x1 h) (fun v S9 hq => ?_))
      obtain ⟨r10, hv, h⟩ := hq
      subst hv
      refine A_gd (¬ (2 : Int32) = 0) (r1 := ((182, 151, [some (.ref 50), some (.int x1), some (.int x2), some (.int x3), some (.int x4), some (.int x5), none], [.int (x5 - x5 / (2 : Int32) * (2 : Int32)), .int r10, .int (S.1 60 ((x5 / (2 : Int32))).toNatClampNeg)]), S9)) 3 rfl (by decide) ?_
      refine A_br (¬ r10 = (x5 - x5 / (2 : Int32) * (2 : Int32))) (r1 := ((182, 158, [some (.ref 50), some (.int x1), some (.int x2), some (.int x3), some (.int x4), some (.int x5), none], [.int (S.1 60 ((x5 / (2 : Int32))).toNatClampNeg)]), S9)) (r2 := ((182, 154, [some (.ref 50), some (.int x1), some (.int x2), some (.int x3), some (.int x4), some (.int x5), none], [.int (S.1 60 ((x5 / (2 : Int32))).toNatClampNeg)]), S9)) 1 rfl (fun c => ?_) (fun c => ?_)
      · have h := h.1 c
        refine A_nx 1 (fr' := (182, 159, [some (.ref 50), some (.int x1), some (.int x2), some (.int x3), some (.int x4), some (.int x5), none], [.int (1 : Int32), .int (S.1 60 ((x5 / (2 : Int32))).toNatClampNeg)])) (S' := S9) rfl ?_
        refine ri_A.less (m := 182) (pc := 159) (L := [some (.ref 50), some (.int x1), some (.int x2), some (.int x3), some (.int x4), some (.int x5), none]) (L' := [some (.ref 50), some (.int x1), some (.int x2), some (.int x3), some (.int x4), some (.int x5), none]) (st := [.int (1 : Int32), .int (S.1 60 ((x5 / (2 : Int32))).toNatClampNeg)]) ⟨rfl, ⟨rfl, ⟨rfl, ⟨rfl, ⟨rfl, ⟨rfl, trivial⟩⟩⟩⟩⟩⟩ ?_
        exact wt182_b159  hK77 (fun x1 x2 x3 x4 x5 S hk => ih x1 x2 x3 x4 x5 S hk) _ _ _ _ _ _ _ _ h
      · have h := h.2 c
        refine A_nx 2 (fr' := (182, 159, [some (.ref 50), some (.int x1), some (.int x2), some (.int x3), some (.int x4), some (.int x5), none], [.int (0 : Int32), .int (S.1 60 ((x5 / (2 : Int32))).toNatClampNeg)])) (S' := S9) rfl ?_
        refine ri_A.less (m := 182) (pc := 159) (L := [some (.ref 50), some (.int x1), some (.int x2), some (.int x3), some (.int x4), some (.int x5), none]) (L' := [some (.ref 50), some (.int x1), some (.int x2), some (.int x3), some (.int x4), some (.int x5), none]) (st := [.int (0 : Int32), .int (S.1 60 ((x5 / (2 : Int32))).toNatClampNeg)]) ⟨rfl, ⟨rfl, ⟨rfl, ⟨rfl, ⟨rfl, ⟨rfl, trivial⟩⟩⟩⟩⟩⟩ ?_
        exact wt182_b159  hK77 (fun x1 x2 x3 x4 x5 S hk => ih x1 x2 x3 x4 x5 S hk) _ _ _ _ _ _ _ _ h
def w182_l86 (K77 : Int32 → Int32 → Int32 → Int32 → ri_H → Prop) (Q : Int32 → ri_H → Prop) : Nat → Int32 → Int32 → Int32 → Int32 → Int32 → ri_H → Prop
  | 0, _, _, _, _, _, _ => False
  | n + 1, x1, x2, x3, x4, x5, S => (((12 : Int32) ≤ x5 → ∃ nn, w182_l112  K77 Q nn x1 x2 x3 x4 (0 : Int32) S) ∧ (¬ (12 : Int32) ≤ x5 → (vp_in x5 12 ∧ w182_l86  K77 Q n x1 x2 x3 x4 (x5 + (1 : Int32)) (ri_wi S 61 (x5).toNatClampNeg (1000 : Int32)))))
set_option maxRecDepth 10000 in
set_option maxHeartbeats 1000000 in
theorem wt182_l86 {E : ri_E} {K77 : Int32 → Int32 → Int32 → Int32 → ri_H → Prop} {Q : Int32 → ri_H → Prop} (hK77 : ∀ (x1 : Int32) (x2 : Int32) (x3 : Int32) (x4 : Int32) (S : ri_H), K77 x1 x2 x3 x4 S → ri_A E 61 (182, 77, [some (.ref 50), some (.int x1), some (.int x2), some (.int x3), some (.int x4), none, none], []) S (Qi Q)) : ∀ (n : Nat) (x1 : Int32) (x2 : Int32) (x3 : Int32) (x4 : Int32) (x5 : Int32) (S : ri_H), w182_l86  K77 Q n x1 x2 x3 x4 x5 S → ri_A E 61 (182, 86, [some (.ref 50), some (.int x1), some (.int x2), some (.int x3), some (.int x4), some (.int x5), none], []) S (Qi Q) := by
  intro n
  induction n with
  | zero => intro x1 x2 x3 x4 x5 S h; exact h.elim
  | succ n ih =>
    intro x1 x2 x3 x4 x5 S h
    unfold w182_l86 at h
    refine A_br ((12 : Int32) ≤ x5) (r1 := ((182, 109, [some (.ref 50), some (.int x1), some (.int x2), some (.int x3), some (.int x4), some (.int x5), none], []), S)) (r2 := ((182, 93, [some (.ref 50), some (.int x1), some (.int x2), some (.int x3), some (.int x4), some (.int x5), none], []), S)) 3 rfl (fun c => ?_) (fun c => ?_)
    · have h := h.1 c
      refine A_nx 2 (fr' := (182, 112, [some (.ref 50), some (.int x1), some (.int x2), some (.int x3), some (.int x4), some (.int (0 : Int32)), none], [])) (S' := S) rfl ?_
      refine ri_A.less (m := 182) (pc := 112) (L := [some (.ref 50), some (.int x1), some (.int x2), some (.int x3), some (.int x4), some (.int (0 : Int32)), none]) (L' := [some (.ref 50), some (.int x1), some (.int x2), some (.int x3), some (.int x4), some (.int (0 : Int32)), none]) (st := []) ⟨rfl, ⟨rfl, ⟨rfl, ⟨rfl, ⟨rfl, ⟨rfl, trivial⟩⟩⟩⟩⟩⟩ ?_
      obtain ⟨nn, h⟩ := h
      exact wt182_l112  hK77 nn _ _ _ _ _ _ h
    · have h := h.2 c
      refine A_ix x5 12 (r1 := ((182, 103, [some (.ref 50), some (.int x1), some (.int x2), some (.int x3), some (.int x4), some (.int x5), none], []), (ri_wi S 61 (x5).toNatClampNeg (1000 : Int32)))) 5 rfl h.1 ?_
      have h := h.2
      refine A_nx 2 (fr' := (182, 86, [some (.ref 50), some (.int x1), some (.int x2), some (.int x3), some (.int x4), some (.int (x5 + (1 : Int32))), none], [])) (S' := (ri_wi S 61 (x5).toNatClampNeg (1000 : Int32))) rfl ?_
      refine ri_A.less (m := 182) (pc := 86) (L := [some (.ref 50), some (.int x1), some (.int x2), some (.int x3), some (.int x4), some (.int (x5 + (1 : Int32))), none]) (L' := [some (.ref 50), some (.int x1), some (.int x2), some (.int x3), some (.int x4), some (.int (x5 + (1 : Int32))), none]) (st := []) ⟨rfl, ⟨rfl, ⟨rfl, ⟨rfl, ⟨rfl, ⟨rfl, trivial⟩⟩⟩⟩⟩⟩ ?_
      exact ih _ _ _ _ _ _ h
def w182_l77 (Q : Int32 → ri_H → Prop) : Nat → Int32 → Int32 → Int32 → Int32 → ri_H → Prop
  | 0, _, _, _, _, _ => False
  | n + 1, x1, x2, x3, x4, S => ((x3 ≤ x4 → w175  S (fun (S8 : ri_H) => (vp_in x2 12 ∧ (((S8.1 60 (x2).toNatClampNeg) < (1000 : Int32) → (vp_in x2 12 ∧ Q (S8.1 60 (x2).toNatClampNeg) S8)) ∧ (¬ (S8.1 60 (x2).toNatClampNeg) < (1000 : Int32) → Q (-1 : Int32) S8))))) ∧ (¬ (x3 ≤ x4) → ∃ nn, w182_l86  (fun x1 x2 x3 x4 S => w182_l77   Q n x1 x2 x3 x4 S) Q nn x1 x2 x3 x4 (0 : Int32) S))
set_option maxRecDepth 10000 in
set_option maxHeartbeats 1000000 in
theorem wt182_l77 {E : ri_E} {Q : Int32 → ri_H → Prop} : ∀ (n : Nat) (x1 : Int32) (x2 : Int32) (x3 : Int32) (x4 : Int32) (S : ri_H), w182_l77   Q n x1 x2 x3 x4 S → ri_A E 61 (182, 77, [some (.ref 50), some (.int x1), some (.int x2), some (.int x3), some (.int x4), none, none], []) S (Qi Q) := by
  intro n
  induction n with
  | zero => intro x1 x2 x3 x4 S h; exact h.elim
  | succ n ih =>
    intro x1 x2 x3 x4 S h
    unfold w182_l77 at h
    refine A_br (x3 ≤ x4) (r1 := ((182, 260, [some (.ref 50), some (.int x1), some (.int x2), some (.int x3), some (.int x4), none, none], []), S)) (r2 := ((182, 83, [some (.ref 50), some (.int x1), some (.int x2), some (.int x3), some (.int x4), none, none], []), S)) 3 rfl (fun c => ?_) (fun c => ?_)
    · have h := h.1 c
      refine A_call (j := 175) (As := [.ref 50]) (fr' := (182, 264, [some (.ref 50), some (.int x1), some (.int x2), some (.int x3), some (.int x4), none, none], [])) (S' := S) 2 rfl (e := 0) (by omega) (A_imp (wt175  h) (fun v S8 hq => ?_))
      obtain ⟨hv, h⟩ := hq
      subst hv
      refine A_ix x2 12 (r1 := ((182, 270, [some (.ref 50), some (.int x1), some (.int x2), some (.int x3), some (.int x4), none, none], [.int (S8.1 60 (x2).toNatClampNeg)]), S8)) 4 rfl h.1 ?_
      have h := h.2
      refine A_br ((S8.1 60 (x2).toNatClampNeg) < (1000 : Int32)) (r1 := ((182, 280, [some (.ref 50), some (.int x1), some (.int x2), some (.int x3), some (.int x4), none, none], []), S8)) (r2 := ((182, 276, [some (.ref 50), some (.int x1), some (.int x2), some (.int x3), some (.int x4), none, none], []), S8)) 2 rfl (fun c => ?_) (fun c => ?_)
      · have h := h.1 c
        refine A_ix x2 12 (r1 := ((182, 286, [some (.ref 50), some (.int x1), some (.int x2), some (.int x3), some (.int x4), none, none], [.int (S8.1 60 (x2).toNatClampNeg)]), S8)) 4 rfl h.1 ?_
        have h := h.2
        exact A_ret 1 (m := 182) (v := some (.int (S8.1 60 (x2).toNatClampNeg))) (S' := S8) rfl rfl ⟨_, rfl, h⟩
      · have h := h.2 c
        exact A_ret 3 (m := 182) (v := some (.int (-1 : Int32))) (S' := S8) rfl rfl ⟨_, rfl, h⟩
    · have h := h.2 c
      refine A_nx 2 (fr' := (182, 86, [some (.ref 50), some (.int x1), some (.int x2), some (.int x3), some (.int x4), some (.int (0 : Int32)), none], [])) (S' := S) rfl ?_
      refine ri_A.less (m := 182) (pc := 86) (L := [some (.ref 50), some (.int x1), some (.int x2), some (.int x3), some (.int x4), some (.int (0 : Int32)), none]) (L' := [some (.ref 50), some (.int x1), some (.int x2), some (.int x3), some (.int x4), some (.int (0 : Int32)), none]) (st := []) ⟨rfl, ⟨rfl, ⟨rfl, ⟨rfl, ⟨rfl, ⟨rfl, trivial⟩⟩⟩⟩⟩⟩ ?_
      obtain ⟨nn, h⟩ := h
      exact wt182_l86  (fun x1 x2 x3 x4 S hk => ih x1 x2 x3 x4 S hk) nn _ _ _ _ _ _ h
def w182_b67 (K37 : Int32 → Int32 → Int32 → Int32 → ri_H → Prop) (Q : Int32 → ri_H → Prop) (x1 : Int32) (x2 : Int32) (x3 : Int32) (x4 : Int32) (s0 : Int32) (s1 : Int32) (S : ri_H) : Prop := (vp_in s1 12 ∧ K37 x1 x2 x3 (x4 + (1 : Int32)) (ri_wi S 60 (s1).toNatClampNeg s0))
set_option maxRecDepth 10000 in
set_option maxHeartbeats 1000000 in
theorem wt182_b67 {E : ri_E} {K37 : Int32 → Int32 → Int32 → Int32 → ri_H → Prop} {Q : Int32 → ri_H → Prop} (hK37 : ∀ (x1 : Int32) (x2 : Int32) (x3 : Int32) (x4 : Int32) (S : ri_H), K37 x1 x2 x3 x4 S → ri_A E 61 (182, 37, [some (.ref 50), some (.int x1), some (.int x2), some (.int x3), some (.int x4), none, none], []) S (Qi Q)) (x1 : Int32) (x2 : Int32) (x3 : Int32) (x4 : Int32) (s0 : Int32) (s1 : Int32) (S : ri_H) (h : w182_b67  K37 Q x1 x2 x3 x4 s0 s1 S) : ri_A E 61 (182, 67, [some (.ref 50), some (.int x1), some (.int x2), some (.int x3), some (.int x4), none, none], [.int s0, .int s1, .ref 60]) S (Qi Q) := by
  unfold w182_b67 at h
  refine A_ix s1 12 (r1 := ((182, 68, [some (.ref 50), some (.int x1), some (.int x2), some (.int x3), some (.int x4), none, none], []), (ri_wi S 60 (s1).toNatClampNeg s0))) 1 rfl h.1 ?_
  have h := h.2
  refine A_nx 2 (fr' := (182, 37, [some (.ref 50), some (.int x1), some (.int x2), some (.int x3), some (.int (x4 + (1 : Int32))), none, none], [])) (S' := (ri_wi S 60 (s1).toNatClampNeg s0)) rfl ?_
  refine ri_A.less (m := 182) (pc := 37) (L := [some (.ref 50), some (.int x1), some (.int x2), some (.int x3), some (.int (x4 + (1 : Int32))), none, none]) (L' := [some (.ref 50), some (.int x1), some (.int x2), some (.int x3), some (.int (x4 + (1 : Int32))), none, none]) (st := []) ⟨rfl, ⟨rfl, ⟨rfl, ⟨rfl, ⟨rfl, trivial⟩⟩⟩⟩⟩ ?_
  exact hK37 _ _ _ _ _ h
def w182_l37 (Q : Int32 → ri_H → Prop) : Nat → Int32 → Int32 → Int32 → Int32 → ri_H → Prop
  | 0, _, _, _, _, _ => False
  | n + 1, x1, x2, x3, x4, S => (((12 : Int32) ≤ x4 → ∃ nn, w182_l77   Q nn x1 x2 x3 (0 : Int32) S) ∧ (¬ (12 : Int32) ≤ x4 → w114 x1 S (fun (r12 : Int32) (S11 : ri_H) => ((¬ x4 = r12 → w182_b67  (fun x1 x2 x3 x4 S => w182_l37   Q n x1 x2 x3 x4 S) Q x1 x2 x3 x4 (1000 : Int32) x4 S11) ∧ (¬ (¬ x4 = r12) → w182_b67  (fun x1 x2 x3 x4 S => w182_l37   Q n x1 x2 x3 x4 S) Q x1 x2 x3 x4 (0 : Int32) x4 S11)))))
set_option maxRecDepth 10000 in
set_option maxHeartbeats 1000000 in
theorem wt182_l37 {E : ri_E} {Q : Int32 → ri_H → Prop} : ∀ (n : Nat) (x1 : Int32) (x2 : Int32) (x3 : Int32) (x4 : Int32) (S : ri_H), w182_l37   Q n x1 x2 x3 x4 S → ri_A E 61 (182, 37, [some (.ref 50), some (.int x1), some (.int x2), some (.int x3), some (.int x4), none, none], []) S (Qi Q) := by
  intro n
  induction n with
  | zero => intro x1 x2 x3 x4 S h; exact h.elim
  | succ n ih =>
    intro x1 x2 x3 x4 S h
    unfold w182_l37 at h
    refine A_br ((12 : Int32) ≤ x4) (r1 := ((182, 74, [some (.ref 50), some (.int x1), some (.int x2), some (.int x3), some (.int x4), none, none], []), S)) (r2 := ((182, 44, [some (.ref 50), some (.int x1), some (.int x2), some (.int x3), some (.int x4), none, none], []), S)) 3 rfl (fun c => ?_) (fun c => ?_)
    · have h := h.1 c
      refine A_nx 2 (fr' := (182, 77, [some (.ref 50), some (.int x1), some (.int x2), some (.int x3), some (.int (0 : Int32)), none, none], [])) (S' := S) rfl ?_
      refine ri_A.less (m := 182) (pc := 77) (L := [some (.ref 50), some (.int x1), some (.int x2), some (.int x3), some (.int (0 : Int32)), none, none]) (L' := [some (.ref 50), some (.int x1), some (.int x2), some (.int x3), some (.int (0 : Int32)), none, none]) (st := []) ⟨rfl, ⟨rfl, ⟨rfl, ⟨rfl, ⟨rfl, trivial⟩⟩⟩⟩⟩ ?_
      obtain ⟨nn, h⟩ := h
      exact wt182_l77   nn _ _ _ _ _ h
    · have h := h.2 c
      refine A_call (j := 114) (As := [.ref 50, .int x1]) (fr' := (182, 57, [some (.ref 50), some (.int x1), some (.int x2), some (.int x3), some (.int x4), none, none], [.int x4, .int x4, .ref 60])) (S' := S) 7 rfl (e := 0) (by omega) (A_imp (wt114 x1 h) (fun v S11 hq => ?_))
      obtain ⟨r12, hv, h⟩ := hq
      subst hv
      refine A_br (¬ x4 = r12) (r1 := ((182, 64, [some (.ref 50), some (.int x1), some (.int x2), some (.int x3), some (.int x4), none, none], [.int x4, .ref 60]), S11)) (r2 := ((182, 60, [some (.ref 50), some (.int x1), some (.int x2), some (.int x3), some (.int x4), none, none], [.int x4, .ref 60]), S11)) 1 rfl (fun c => ?_) (fun c => ?_)
      · have h := h.1 c
        refine A_nx 1 (fr' := (182, 67, [some (.ref 50), some (.int x1), some (.int x2), some (.int x3), some (.int x4), none, none], [.int (1000 : Int32), .int x4, .ref 60])) (S' := S11) rfl ?_
        refine ri_A.less (m := 182) (pc := 67) (L := [some (.ref 50), some (.int x1), some (.int x2), some (.int x3), some (.int x4), none, none]) (L' := [some (.ref 50), some (.int x1), some (.int x2), some (.int x3), some (.int x4), none, none]) (st := [.int (1000 : Int32), .int x4, .ref 60]) ⟨rfl, ⟨rfl, ⟨rfl, ⟨rfl, ⟨rfl, trivial⟩⟩⟩⟩⟩ ?_
        exact wt182_b67  (fun x1 x2 x3 x4 S hk => ih x1 x2 x3 x4 S hk) _ _ _ _ _ _ _ h
      · have h := h.2 c
        refine A_nx 2 (fr' := (182, 67, [some (.ref 50), some (.int x1), some (.int x2), some (.int x3), some (.int x4), none, none], [.int (0 : Int32), .int x4, .ref 60])) (S' := S11) rfl ?_
        refine ri_A.less (m := 182) (pc := 67) (L := [some (.ref 50), some (.int x1), some (.int x2), some (.int x3), some (.int x4), none, none]) (L' := [some (.ref 50), some (.int x1), some (.int x2), some (.int x3), some (.int x4), none, none]) (st := [.int (0 : Int32), .int x4, .ref 60]) ⟨rfl, ⟨rfl, ⟨rfl, ⟨rfl, ⟨rfl, trivial⟩⟩⟩⟩⟩ ?_
        exact wt182_b67  (fun x1 x2 x3 x4 S hk => ih x1 x2 x3 x4 S hk) _ _ _ _ _ _ _ h
def w182 (a : Int32) (b : Int32) (g : Int32) (S : ri_H) (Q : Int32 → ri_H → Prop) : Prop := w104 a S (fun (r2 : Int32) (S1 : ri_H) => ((r2 = 0 → Q (-2 : Int32) S1) ∧ (¬ (r2 = 0) → w105 b S1 (fun (r4 : Int32) (S3 : ri_H) => ((r4 = 0 → Q (-2 : Int32) S3) ∧ (¬ (r4 = 0) → w102 (g).toInt64 (0 : Int64) (30 : Int64) S3 (fun (r6 : Int32) (S5 : ri_H) => ((¬ r6 = 0 → w174  S5 (fun (S7 : ri_H) => ∃ nn, w182_l37   Q nn a b g (0 : Int32) S7)) ∧ (¬ (¬ r6 = 0) → Q (-2 : Int32) S5)))))))))
set_option maxRecDepth 10000 in
set_option maxHeartbeats 1000000 in
theorem wt182 {E : ri_E} (a : Int32) (b : Int32) (g : Int32) {S : ri_H} {Q : Int32 → ri_H → Prop} (h : w182  a b g S Q) : ri_A E 61 (ri_en 182 [.ref 50, .int a, .int b, .int g]) S (Qi Q) := by
  unfold w182 at h
  show ri_A E 61 (182, 0, [some (.ref 50), some (.int a), some (.int b), some (.int g), none, none, none], []) S (Qi Q)
  refine A_call (j := 104) (As := [.ref 50, .int a]) (fr' := (182, 5, [some (.ref 50), some (.int a), some (.int b), some (.int g), none, none, none], [])) (S' := S) 3 rfl (e := 1) (by omega) (A_imp (wt104 a h) (fun v S1 hq => ?_))
  obtain ⟨r2, hv, h⟩ := hq
  subst hv
  refine A_br (r2 = 0) (r1 := ((182, 27, [some (.ref 50), some (.int a), some (.int b), some (.int g), none, none, none], []), S1)) (r2 := ((182, 8, [some (.ref 50), some (.int a), some (.int b), some (.int g), none, none, none], []), S1)) 1 rfl (fun c => ?_) (fun c => ?_)
  · have h := h.1 c
    exact A_ret 2 (m := 182) (v := some (.int (-2 : Int32))) (S' := S1) rfl rfl ⟨_, rfl, h⟩
  · have h := h.2 c
    refine A_call (j := 105) (As := [.int b]) (fr' := (182, 12, [some (.ref 50), some (.int a), some (.int b), some (.int g), none, none, none], [])) (S' := S1) 2 rfl (e := 1) (by omega) (A_imp (wt105 b h) (fun v S3 hq => ?_))
    obtain ⟨r4, hv, h⟩ := hq
    subst hv
    refine A_br (r4 = 0) (r1 := ((182, 27, [some (.ref 50), some (.int a), some (.int b), some (.int g), none, none, none], []), S3)) (r2 := ((182, 15, [some (.ref 50), some (.int a), some (.int b), some (.int g), none, none, none], []), S3)) 1 rfl (fun c => ?_) (fun c => ?_)
    · have h := h.1 c
      exact A_ret 2 (m := 182) (v := some (.int (-2 : Int32))) (S' := S3) rfl rfl ⟨_, rfl, h⟩
    · have h := h.2 c
      refine A_call (j := 102) (As := [.long (g).toInt64, .long (0 : Int64), .long (30 : Int64)]) (fr' := (182, 24, [some (.ref 50), some (.int a), some (.int b), some (.int g), none, none, none], [])) (S' := S3) 5 rfl (e := 0) (by omega) (A_imp (wt102 (g).toInt64 (0 : Int64) (30 : Int64) h) (fun v S5 hq => ?_))
      obtain ⟨r6, hv, h⟩ := hq
      subst hv
      refine A_br (¬ r6 = 0) (r1 := ((182, 30, [some (.ref 50), some (.int a), some (.int b), some (.int g), none, none, none], []), S5)) (r2 := ((182, 27, [some (.ref 50), some (.int a), some (.int b), some (.int g), none, none, none], []), S5)) 1 rfl (fun c => ?_) (fun c => ?_)
      · have h := h.1 c
        refine A_call (j := 174) (As := [.ref 50]) (fr' := (182, 34, [some (.ref 50), some (.int a), some (.int b), some (.int g), none, none, none], [])) (S' := S5) 2 rfl (e := 0) (by omega) (A_imp (wt174  h) (fun v S7 hq => ?_))
        obtain ⟨hv, h⟩ := hq
        subst hv
        refine A_nx 2 (fr' := (182, 37, [some (.ref 50), some (.int a), some (.int b), some (.int g), some (.int (0 : Int32)), none, none], [])) (S' := S7) rfl ?_
        refine ri_A.less (m := 182) (pc := 37) (L := [some (.ref 50), some (.int a), some (.int b), some (.int g), some (.int (0 : Int32)), none, none]) (L' := [some (.ref 50), some (.int a), some (.int b), some (.int g), some (.int (0 : Int32)), none, none]) (st := []) ⟨rfl, ⟨rfl, ⟨rfl, ⟨rfl, ⟨rfl, trivial⟩⟩⟩⟩⟩ ?_
        obtain ⟨nn, h⟩ := h
        exact wt182_l37   nn _ _ _ _ _ h
      · have h := h.2 c
        exact A_ret 2 (m := 182) (v := some (.int (-2 : Int32))) (S' := S5) rfl rfl ⟨_, rfl, h⟩
/-! X5_meet, depth 63 -/
def w183_b59 (Q : Int32 → ri_H → Prop) (x3 : Int32) (S : ri_H) : Prop := w175  S (fun (S6 : ri_H) => ((x3 ≤ (60 : Int32) → Q x3 S6) ∧ (¬ (x3 ≤ (60 : Int32)) → Q (-1 : Int32) S6)))
set_option maxRecDepth 10000 in
set_option maxHeartbeats 1000000 in
theorem wt183_b59 {E : ri_E} {Q : Int32 → ri_H → Prop} (x3 : Int32) (S : ri_H) (h : w183_b59   Q x3 S) : ri_A E 63 (183, 59, [some (.ref 50), none, none, some (.int x3)], []) S (Qi Q) := by
  unfold w183_b59 at h
  refine A_call (j := 175) (As := [.ref 50]) (fr' := (183, 63, [some (.ref 50), none, none, some (.int x3)], [])) (S' := S) 2 rfl (e := 0) (by omega) (A_imp (wt175  h) (fun v S6 hq => ?_))
  obtain ⟨hv, h⟩ := hq
  subst hv
  refine A_br (x3 ≤ (60 : Int32)) (r1 := ((183, 73, [some (.ref 50), none, none, some (.int x3)], []), S6)) (r2 := ((183, 69, [some (.ref 50), none, none, some (.int x3)], []), S6)) 3 rfl (fun c => ?_) (fun c => ?_)
  · have h := h.1 c
    exact A_ret 2 (m := 183) (v := some (.int x3)) (S' := S6) rfl rfl ⟨_, rfl, h⟩
  · have h := h.2 c
    exact A_ret 3 (m := 183) (v := some (.int (-1 : Int32))) (S' := S6) rfl rfl ⟨_, rfl, h⟩
def w183_l30 (Q : Int32 → ri_H → Prop) : Nat → Int32 → Int32 → Int32 → ri_H → Prop
  | 0, _, _, _, _ => False
  | n + 1, x1, x2, x3, S => (((60 : Int32) < x3 → w183_b59   Q x3 S) ∧ (¬ (60 : Int32) < x3 → w114 x1 S (fun (r8 : Int32) (S7 : ri_H) => w114 x2 S7 (fun (r10 : Int32) (S9 : ri_H) => ((r8 = r10 → w183_b59   Q x3 S9) ∧ (¬ (r8 = r10) → w171  S9 (fun (S11 : ri_H) => w183_l30   Q n x1 x2 (x3 + (1 : Int32)) S11)))))))
set_option maxRecDepth 10000 in
set_option maxHeartbeats 1000000 in
theorem wt183_l30 {E : ri_E} {Q : Int32 → ri_H → Prop} : ∀ (n : Nat) (x1 : Int32) (x2 : Int32) (x3 : Int32) (S : ri_H), w183_l30   Q n x1 x2 x3 S → ri_A E 63 (183, 30, [some (.ref 50), some (.int x1), some (.int x2), some (.int x3)], []) S (Qi Q) := by
  intro n
  induction n with
  | zero => intro x1 x2 x3 S h; exact h.elim
  | succ n ih =>
    intro x1 x2 x3 S h
    unfold w183_l30 at h
    refine A_br ((60 : Int32) < x3) (r1 := ((183, 59, [some (.ref 50), some (.int x1), some (.int x2), some (.int x3)], []), S)) (r2 := ((183, 36, [some (.ref 50), some (.int x1), some (.int x2), some (.int x3)], []), S)) 3 rfl (fun c => ?_) (fun c => ?_)
    · have h := h.1 c
      refine ri_A.less (m := 183) (pc := 59) (L := [some (.ref 50), some (.int x1), some (.int x2), some (.int x3)]) (L' := [some (.ref 50), none, none, some (.int x3)]) (st := []) ⟨rfl, ⟨rfl, trivial⟩⟩ ?_
      exact wt183_b59   _ _ h
    · have h := h.2 c
      refine A_call (j := 114) (As := [.ref 50, .int x1]) (fr' := (183, 41, [some (.ref 50), some (.int x1), some (.int x2), some (.int x3)], [])) (S' := S) 3 rfl (e := 0) (by omega) (A_imp (wt114 x1 h) (fun v S7 hq => ?_))
      obtain ⟨r8, hv, h⟩ := hq
      subst hv
      refine A_call (j := 114) (As := [.ref 50, .int x2]) (fr' := (183, 46, [some (.ref 50), some (.int x1), some (.int x2), some (.int x3)], [.int r8])) (S' := S7) 3 rfl (e := 0) (by omega) (A_imp (wt114 x2 h) (fun v S9 hq => ?_))
      obtain ⟨r10, hv, h⟩ := hq
      subst hv
      refine A_br (r8 = r10) (r1 := ((183, 59, [some (.ref 50), some (.int x1), some (.int x2), some (.int x3)], []), S9)) (r2 := ((183, 49, [some (.ref 50), some (.int x1), some (.int x2), some (.int x3)], []), S9)) 1 rfl (fun c => ?_) (fun c => ?_)
      · have h := h.1 c
        refine ri_A.less (m := 183) (pc := 59) (L := [some (.ref 50), some (.int x1), some (.int x2), some (.int x3)]) (L' := [some (.ref 50), none, none, some (.int x3)]) (st := []) ⟨rfl, ⟨rfl, trivial⟩⟩ ?_
        exact wt183_b59   _ _ h
      · have h := h.2 c
        refine A_call (j := 171) (As := [.ref 50]) (fr' := (183, 53, [some (.ref 50), some (.int x1), some (.int x2), some (.int x3)], [])) (S' := S9) 2 rfl (e := 62) (by omega) (A_imp (wt171  h) (fun v S11 hq => ?_))
        obtain ⟨hv, h⟩ := hq
        subst hv
        refine A_nx 2 (fr' := (183, 30, [some (.ref 50), some (.int x1), some (.int x2), some (.int (x3 + (1 : Int32)))], [])) (S' := S11) rfl ?_
        refine ri_A.less (m := 183) (pc := 30) (L := [some (.ref 50), some (.int x1), some (.int x2), some (.int (x3 + (1 : Int32)))]) (L' := [some (.ref 50), some (.int x1), some (.int x2), some (.int (x3 + (1 : Int32)))]) (st := []) ⟨rfl, ⟨rfl, ⟨rfl, ⟨rfl, trivial⟩⟩⟩⟩ ?_
        exact ih _ _ _ _ h
def w183 (a : Int32) (b : Int32) (S : ri_H) (Q : Int32 → ri_H → Prop) : Prop := w104 a S (fun (r2 : Int32) (S1 : ri_H) => ((r2 = 0 → Q (-2 : Int32) S1) ∧ (¬ (r2 = 0) → w104 b S1 (fun (r4 : Int32) (S3 : ri_H) => ((r4 = 0 → Q (-2 : Int32) S3) ∧ (¬ (r4 = 0) → ((¬ a = b → w174  S3 (fun (S5 : ri_H) => ∃ nn, w183_l30   Q nn a b (0 : Int32) S5)) ∧ (¬ (¬ a = b) → Q (-2 : Int32) S3))))))))
set_option maxRecDepth 10000 in
set_option maxHeartbeats 1000000 in
theorem wt183 {E : ri_E} (a : Int32) (b : Int32) {S : ri_H} {Q : Int32 → ri_H → Prop} (h : w183  a b S Q) : ri_A E 63 (ri_en 183 [.ref 50, .int a, .int b]) S (Qi Q) := by
  unfold w183 at h
  show ri_A E 63 (183, 0, [some (.ref 50), some (.int a), some (.int b), none], []) S (Qi Q)
  refine A_call (j := 104) (As := [.ref 50, .int a]) (fr' := (183, 5, [some (.ref 50), some (.int a), some (.int b), none], [])) (S' := S) 3 rfl (e := 1) (by omega) (A_imp (wt104 a h) (fun v S1 hq => ?_))
  obtain ⟨r2, hv, h⟩ := hq
  subst hv
  refine A_br (r2 = 0) (r1 := ((183, 21, [some (.ref 50), some (.int a), some (.int b), none], []), S1)) (r2 := ((183, 8, [some (.ref 50), some (.int a), some (.int b), none], []), S1)) 1 rfl (fun c => ?_) (fun c => ?_)
  · have h := h.1 c
    exact A_ret 2 (m := 183) (v := some (.int (-2 : Int32))) (S' := S1) rfl rfl ⟨_, rfl, h⟩
  · have h := h.2 c
    refine A_call (j := 104) (As := [.ref 50, .int b]) (fr' := (183, 13, [some (.ref 50), some (.int a), some (.int b), none], [])) (S' := S1) 3 rfl (e := 1) (by omega) (A_imp (wt104 b h) (fun v S3 hq => ?_))
    obtain ⟨r4, hv, h⟩ := hq
    subst hv
    refine A_br (r4 = 0) (r1 := ((183, 21, [some (.ref 50), some (.int a), some (.int b), none], []), S3)) (r2 := ((183, 16, [some (.ref 50), some (.int a), some (.int b), none], []), S3)) 1 rfl (fun c => ?_) (fun c => ?_)
    · have h := h.1 c
      exact A_ret 2 (m := 183) (v := some (.int (-2 : Int32))) (S' := S3) rfl rfl ⟨_, rfl, h⟩
    · have h := h.2 c
      refine A_br (¬ a = b) (r1 := ((183, 24, [some (.ref 50), some (.int a), some (.int b), none], []), S3)) (r2 := ((183, 21, [some (.ref 50), some (.int a), some (.int b), none], []), S3)) 3 rfl (fun c => ?_) (fun c => ?_)
      · have h := h.1 c
        refine A_call (j := 174) (As := [.ref 50]) (fr' := (183, 28, [some (.ref 50), some (.int a), some (.int b), none], [])) (S' := S3) 2 rfl (e := 0) (by omega) (A_imp (wt174  h) (fun v S5 hq => ?_))
        obtain ⟨hv, h⟩ := hq
        subst hv
        refine A_nx 2 (fr' := (183, 30, [some (.ref 50), some (.int a), some (.int b), some (.int (0 : Int32))], [])) (S' := S5) rfl ?_
        refine ri_A.less (m := 183) (pc := 30) (L := [some (.ref 50), some (.int a), some (.int b), some (.int (0 : Int32))]) (L' := [some (.ref 50), some (.int a), some (.int b), some (.int (0 : Int32))]) (st := []) ⟨rfl, ⟨rfl, ⟨rfl, ⟨rfl, trivial⟩⟩⟩⟩ ?_
        obtain ⟨nn, h⟩ := h
        exact wt183_l30   nn _ _ _ _ h
      · have h := h.2 c
        exact A_ret 2 (m := 183) (v := some (.int (-2 : Int32))) (S' := S3) rfl rfl ⟨_, rfl, h⟩
/-! X5_jarsBehind, depth 63 -/
def w184_l6 (Q : Int32 → ri_H → Prop) : Nat → Int32 → Int32 → ri_H → Prop
  | 0, _, _, _ => False
  | n + 1, x1, x2, S => ((x1 ≤ x2 → w169  S (fun (r3 : Int32) (S2 : ri_H) => w175  S2 (fun (S4 : ri_H) => Q r3 S4))) ∧ (¬ (x1 ≤ x2) → w171  S (fun (S5 : ri_H) => w184_l6   Q n x1 (x2 + (1 : Int32)) S5)))
set_option maxRecDepth 10000 in
set_option maxHeartbeats 1000000 in
theorem wt184_l6 {E : ri_E} {Q : Int32 → ri_H → Prop} : ∀ (n : Nat) (x1 : Int32) (x2 : Int32) (S : ri_H), w184_l6   Q n x1 x2 S → ri_A E 63 (184, 6, [some (.ref 50), some (.int x1), some (.int x2)], []) S (Qi Q) := by
  intro n
  induction n with
  | zero => intro x1 x2 S h; exact h.elim
  | succ n ih =>
    intro x1 x2 S h
    unfold w184_l6 at h
    refine A_br (x1 ≤ x2) (r1 := ((184, 21, [some (.ref 50), some (.int x1), some (.int x2)], []), S)) (r2 := ((184, 11, [some (.ref 50), some (.int x1), some (.int x2)], []), S)) 3 rfl (fun c => ?_) (fun c => ?_)
    · have h := h.1 c
      refine A_call (j := 169) (As := [.ref 50]) (fr' := (184, 25, [some (.ref 50), some (.int x1), some (.int x2)], [])) (S' := S) 2 rfl (e := 0) (by omega) (A_imp (wt169  h) (fun v S2 hq => ?_))
      obtain ⟨r3, hv, h⟩ := hq
      subst hv
      refine A_call (j := 175) (As := [.ref 50]) (fr' := (184, 30, [some (.ref 50), some (.int x1), some (.int r3)], [])) (S' := S2) 3 rfl (e := 0) (by omega) (A_imp (wt175  h) (fun v S4 hq => ?_))
      obtain ⟨hv, h⟩ := hq
      subst hv
      exact A_ret 2 (m := 184) (v := some (.int r3)) (S' := S4) rfl rfl ⟨_, rfl, h⟩
    · have h := h.2 c
      refine A_call (j := 171) (As := [.ref 50]) (fr' := (184, 15, [some (.ref 50), some (.int x1), some (.int x2)], [])) (S' := S) 2 rfl (e := 62) (by omega) (A_imp (wt171  h) (fun v S5 hq => ?_))
      obtain ⟨hv, h⟩ := hq
      subst hv
      refine A_nx 2 (fr' := (184, 6, [some (.ref 50), some (.int x1), some (.int (x2 + (1 : Int32)))], [])) (S' := S5) rfl ?_
      refine ri_A.less (m := 184) (pc := 6) (L := [some (.ref 50), some (.int x1), some (.int (x2 + (1 : Int32)))]) (L' := [some (.ref 50), some (.int x1), some (.int (x2 + (1 : Int32)))]) (st := []) ⟨rfl, ⟨rfl, ⟨rfl, trivial⟩⟩⟩ ?_
      exact ih _ _ _ h
def w184 (a : Int32) (S : ri_H) (Q : Int32 → ri_H → Prop) : Prop := w174  S (fun (S1 : ri_H) => ∃ nn, w184_l6   Q nn a (0 : Int32) S1)
set_option maxRecDepth 10000 in
set_option maxHeartbeats 1000000 in
theorem wt184 {E : ri_E} (a : Int32) {S : ri_H} {Q : Int32 → ri_H → Prop} (h : w184  a S Q) : ri_A E 63 (ri_en 184 [.ref 50, .int a]) S (Qi Q) := by
  unfold w184 at h
  show ri_A E 63 (184, 0, [some (.ref 50), some (.int a), none], []) S (Qi Q)
  refine A_call (j := 174) (As := [.ref 50]) (fr' := (184, 4, [some (.ref 50), some (.int a), none], [])) (S' := S) 2 rfl (e := 0) (by omega) (A_imp (wt174  h) (fun v S1 hq => ?_))
  obtain ⟨hv, h⟩ := hq
  subst hv
  refine A_nx 2 (fr' := (184, 6, [some (.ref 50), some (.int a), some (.int (0 : Int32))], [])) (S' := S1) rfl ?_
  refine ri_A.less (m := 184) (pc := 6) (L := [some (.ref 50), some (.int a), some (.int (0 : Int32))]) (L' := [some (.ref 50), some (.int a), some (.int (0 : Int32))]) (st := []) ⟨rfl, ⟨rfl, ⟨rfl, trivial⟩⟩⟩ ?_
  obtain ⟨nn, h⟩ := h
  exact wt184_l6   nn _ _ _ h
/-! X5_shut, depth 64 -/
def w185_l152 (Q : Int32 → ri_H → Prop) : Nat → Int32 → Int32 → Int32 → Int32 → ri_H → Prop
  | 0, _, _, _, _, _ => False
  | n + 1, x2, x3, x4, x5, S => (((24 : Int32) ≤ x5 → ((¬ x2 = 0 → Q x4 S) ∧ (¬ (¬ x2 = 0) → Q x3 S))) ∧ (¬ (24 : Int32) ≤ x5 → (vp_in x5 24 ∧ (vp_in x5 24 ∧ w185_l152   Q n x2 x3 x4 (x5 + (1 : Int32)) (ri_wi S 54 (x5).toNatClampNeg (S.1 62 (x5).toNatClampNeg))))))
set_option maxRecDepth 10000 in
set_option maxHeartbeats 1000000 in
theorem wt185_l152 {E : ri_E} {Q : Int32 → ri_H → Prop} : ∀ (n : Nat) (x2 : Int32) (x3 : Int32) (x4 : Int32) (x5 : Int32) (S : ri_H), w185_l152   Q n x2 x3 x4 x5 S → ri_A E 64 (185, 152, [some (.ref 50), none, some (.int x2), some (.int x3), some (.int x4), some (.int x5), none], []) S (Qi Q) := by
  intro n
  induction n with
  | zero => intro x2 x3 x4 x5 S h; exact h.elim
  | succ n ih =>
    intro x2 x3 x4 x5 S h
    unfold w185_l152 at h
    refine A_br ((24 : Int32) ≤ x5) (r1 := ((185, 179, [some (.ref 50), none, some (.int x2), some (.int x3), some (.int x4), some (.int x5), none], []), S)) (r2 := ((185, 159, [some (.ref 50), none, some (.int x2), some (.int x3), some (.int x4), some (.int x5), none], []), S)) 3 rfl (fun c => ?_) (fun c => ?_)
    · have h := h.1 c
      refine A_br (¬ x2 = 0) (r1 := ((185, 187, [some (.ref 50), none, some (.int x2), some (.int x3), some (.int x4), some (.int x5), none], []), S)) (r2 := ((185, 183, [some (.ref 50), none, some (.int x2), some (.int x3), some (.int x4), some (.int x5), none], []), S)) 2 rfl (fun c => ?_) (fun c => ?_)
      · have h := h.1 c
        exact A_ret 2 (m := 185) (v := some (.int x4)) (S' := S) rfl rfl ⟨_, rfl, h⟩
      · have h := h.2 c
        exact A_ret 3 (m := 185) (v := some (.int x3)) (S' := S) rfl rfl ⟨_, rfl, h⟩
    · have h := h.2 c
      refine A_ix x5 24 (r1 := ((185, 172, [some (.ref 50), none, some (.int x2), some (.int x3), some (.int x4), some (.int x5), none], [.int (S.1 62 (x5).toNatClampNeg), .int x5, .ref 54]), S)) 7 rfl h.1 ?_
      have h := h.2
      refine A_ix x5 24 (r1 := ((185, 173, [some (.ref 50), none, some (.int x2), some (.int x3), some (.int x4), some (.int x5), none], []), (ri_wi S 54 (x5).toNatClampNeg (S.1 62 (x5).toNatClampNeg)))) 1 rfl h.1 ?_
      have h := h.2
      refine A_nx 2 (fr' := (185, 152, [some (.ref 50), none, some (.int x2), some (.int x3), some (.int x4), some (.int (x5 + (1 : Int32))), none], [])) (S' := (ri_wi S 54 (x5).toNatClampNeg (S.1 62 (x5).toNatClampNeg))) rfl ?_
      refine ri_A.less (m := 185) (pc := 152) (L := [some (.ref 50), none, some (.int x2), some (.int x3), some (.int x4), some (.int (x5 + (1 : Int32))), none]) (L' := [some (.ref 50), none, some (.int x2), some (.int x3), some (.int x4), some (.int (x5 + (1 : Int32))), none]) (st := []) ⟨rfl, ⟨rfl, ⟨rfl, ⟨rfl, ⟨rfl, trivial⟩⟩⟩⟩⟩ ?_
      exact ih _ _ _ _ _ h
def w185_b143 (K63 : Int32 → Int32 → Int32 → Int32 → Int32 → ri_H → Prop) (Q : Int32 → ri_H → Prop) (x1 : Int32) (x2 : Int32) (x3 : Int32) (x4 : Int32) (x5 : Int32) (S : ri_H) : Prop := K63 x1 x2 x3 x4 (x5 + (1 : Int32)) S
set_option maxRecDepth 10000 in
set_option maxHeartbeats 1000000 in
theorem wt185_b143 {E : ri_E} {K63 : Int32 → Int32 → Int32 → Int32 → Int32 → ri_H → Prop} {Q : Int32 → ri_H → Prop} (hK63 : ∀ (x1 : Int32) (x2 : Int32) (x3 : Int32) (x4 : Int32) (x5 : Int32) (S : ri_H), K63 x1 x2 x3 x4 x5 S → ri_A E 64 (185, 63, [some (.ref 50), some (.int x1), some (.int x2), some (.int x3), some (.int x4), some (.int x5), none], []) S (Qi Q)) (x1 : Int32) (x2 : Int32) (x3 : Int32) (x4 : Int32) (x5 : Int32) (S : ri_H) (h : w185_b143  K63 Q x1 x2 x3 x4 x5 S) : ri_A E 64 (185, 143, [some (.ref 50), some (.int x1), some (.int x2), some (.int x3), some (.int x4), some (.int x5), none], []) S (Qi Q) := by
  unfold w185_b143 at h
  refine A_nx 2 (fr' := (185, 63, [some (.ref 50), some (.int x1), some (.int x2), some (.int x3), some (.int x4), some (.int (x5 + (1 : Int32))), none], [])) (S' := S) rfl ?_
  refine ri_A.less (m := 185) (pc := 63) (L := [some (.ref 50), some (.int x1), some (.int x2), some (.int x3), some (.int x4), some (.int (x5 + (1 : Int32))), none]) (L' := [some (.ref 50), some (.int x1), some (.int x2), some (.int x3), some (.int x4), some (.int (x5 + (1 : Int32))), none]) (st := []) ⟨rfl, ⟨rfl, ⟨rfl, ⟨rfl, ⟨rfl, ⟨rfl, trivial⟩⟩⟩⟩⟩⟩ ?_
  exact hK63 _ _ _ _ _ _ h
def w185_b115 (K63 : Int32 → Int32 → Int32 → Int32 → Int32 → ri_H → Prop) (K73 : Int32 → Int32 → Int32 → Int32 → Int32 → Int32 → ri_H → Prop) (Q : Int32 → ri_H → Prop) (x1 : Int32) (x2 : Int32) (x3 : Int32) (x4 : Int32) (x5 : Int32) (x6 : Int32) (s0 : Int32) (s1 : Int32) (S : ri_H) : Prop := (vp_in s1 24 ∧ K73 x1 x2 x3 x4 x5 (x6 + (1 : Int32)) (ri_wi S 54 (s1).toNatClampNeg s0))
set_option maxRecDepth 10000 in
set_option maxHeartbeats 1000000 in
theorem wt185_b115 {E : ri_E} {K63 : Int32 → Int32 → Int32 → Int32 → Int32 → ri_H → Prop} {K73 : Int32 → Int32 → Int32 → Int32 → Int32 → Int32 → ri_H → Prop} {Q : Int32 → ri_H → Prop} (hK63 : ∀ (x1 : Int32) (x2 : Int32) (x3 : Int32) (x4 : Int32) (x5 : Int32) (S : ri_H), K63 x1 x2 x3 x4 x5 S → ri_A E 64 (185, 63, [some (.ref 50), some (.int x1), some (.int x2), some (.int x3), some (.int x4), some (.int x5), none], []) S (Qi Q)) (hK73 : ∀ (x1 : Int32) (x2 : Int32) (x3 : Int32) (x4 : Int32) (x5 : Int32) (x6 : Int32) (S : ri_H), K73 x1 x2 x3 x4 x5 x6 S → ri_A E 64 (185, 73, [some (.ref 50), some (.int x1), some (.int x2), some (.int x3), some (.int x4), some (.int x5), some (.int x6)], []) S (Qi Q)) (x1 : Int32) (x2 : Int32) (x3 : Int32) (x4 : Int32) (x5 : Int32) (x6 : Int32) (s0 : Int32) (s1 : Int32) (S : ri_H) (h : w185_b115  K63 K73 Q x1 x2 x3 x4 x5 x6 s0 s1 S) : ri_A E 64 (185, 115, [some (.ref 50), some (.int x1), some (.int x2), some (.int x3), some (.int x4), some (.int x5), some (.int x6)], [.int s0, .int s1, .ref 54]) S (Qi Q) := by
  unfold w185_b115 at h
  refine A_ix s1 24 (r1 := ((185, 116, [some (.ref 50), some (.int x1), some (.int x2), some (.int x3), some (.int x4), some (.int x5), some (.int x6)], []), (ri_wi S 54 (s1).toNatClampNeg s0))) 1 rfl h.1 ?_
  have h := h.2
  refine A_nx 2 (fr' := (185, 73, [some (.ref 50), some (.int x1), some (.int x2), some (.int x3), some (.int x4), some (.int x5), some (.int (x6 + (1 : Int32)))], [])) (S' := (ri_wi S 54 (s1).toNatClampNeg s0)) rfl ?_
  refine ri_A.less (m := 185) (pc := 73) (L := [some (.ref 50), some (.int x1), some (.int x2), some (.int x3), some (.int x4), some (.int x5), some (.int (x6 + (1 : Int32)))]) (L' := [some (.ref 50), some (.int x1), some (.int x2), some (.int x3), some (.int x4), some (.int x5), some (.int (x6 + (1 : Int32)))]) (st := []) ⟨rfl, ⟨rfl, ⟨rfl, ⟨rfl, ⟨rfl, ⟨rfl, ⟨rfl, trivial⟩⟩⟩⟩⟩⟩⟩ ?_
  exact hK73 _ _ _ _ _ _ _ h
def w185_l73 (K63 : Int32 → Int32 → Int32 → Int32 → Int32 → ri_H → Prop) (Q : Int32 → ri_H → Prop) : Nat → Int32 → Int32 → Int32 → Int32 → Int32 → Int32 → ri_H → Prop
  | 0, _, _, _, _, _, _, _ => False
  | n + 1, x1, x2, x3, x4, x5, x6, S => (((24 : Int32) ≤ x6 → w184 x1 S (fun (r8 : Int32) (S7 : ri_H) => ((r8 ≤ x4 → w185_b143  K63 Q x1 x2 x3 x4 x5 S7) ∧ (¬ (r8 ≤ x4) → w185_b143  K63 Q x1 x2 x5 r8 x5 S7)))) ∧ (¬ (24 : Int32) ≤ x6 → (vp_in x6 24 ∧ ((¬ (S.1 62 (x6).toNatClampNeg) = x5 → (vp_in x6 24 ∧ w185_b115  K63 (fun x1 x2 x3 x4 x5 x6 S => w185_l73  K63 Q n x1 x2 x3 x4 x5 x6 S) Q x1 x2 x3 x4 x5 x6 (S.1 62 (x6).toNatClampNeg) x6 S)) ∧ (¬ (¬ (S.1 62 (x6).toNatClampNeg) = x5) → w185_b115  K63 (fun x1 x2 x3 x4 x5 x6 S => w185_l73  K63 Q n x1 x2 x3 x4 x5 x6 S) Q x1 x2 x3 x4 x5 x6 ((x5 + (1 : Int32)) - (x5 + (1 : Int32)) / (12 : Int32) * (12 : Int32)) x6 S)))))
set_option maxRecDepth 10000 in
set_option maxHeartbeats 1000000 in
theorem wt185_l73 {E : ri_E} {K63 : Int32 → Int32 → Int32 → Int32 → Int32 → ri_H → Prop} {Q : Int32 → ri_H → Prop} (hK63 : ∀ (x1 : Int32) (x2 : Int32) (x3 : Int32) (x4 : Int32) (x5 : Int32) (S : ri_H), K63 x1 x2 x3 x4 x5 S → ri_A E 64 (185, 63, [some (.ref 50), some (.int x1), some (.int x2), some (.int x3), some (.int x4), some (.int x5), none], []) S (Qi Q)) : ∀ (n : Nat) (x1 : Int32) (x2 : Int32) (x3 : Int32) (x4 : Int32) (x5 : Int32) (x6 : Int32) (S : ri_H), w185_l73  K63 Q n x1 x2 x3 x4 x5 x6 S → ri_A E 64 (185, 73, [some (.ref 50), some (.int x1), some (.int x2), some (.int x3), some (.int x4), some (.int x5), some (.int x6)], []) S (Qi Q) := by
  intro n
  induction n with
  | zero => intro x1 x2 x3 x4 x5 x6 S h; exact h.elim
  | succ n ih =>
    intro x1 x2 x3 x4 x5 x6 S h
    unfold w185_l73 at h
    refine A_br ((24 : Int32) ≤ x6) (r1 := ((185, 122, [some (.ref 50), some (.int x1), some (.int x2), some (.int x3), some (.int x4), some (.int x5), some (.int x6)], []), S)) (r2 := ((185, 80, [some (.ref 50), some (.int x1), some (.int x2), some (.int x3), some (.int x4), some (.int x5), some (.int x6)], []), S)) 3 rfl (fun c => ?_) (fun c => ?_)
    · have h := h.1 c
      refine A_call (j := 184) (As := [.ref 50, .int x1]) (fr' := (185, 127, [some (.ref 50), some (.int x1), some (.int x2), some (.int x3), some (.int x4), some (.int x5), some (.int x6)], [])) (S' := S) 3 rfl (e := 63) (by omega) (A_imp (wt184 x1 h) (fun v S7 hq => ?_))
      obtain ⟨r8, hv, h⟩ := hq
      subst hv
      refine A_br (r8 ≤ x4) (r1 := ((185, 143, [some (.ref 50), some (.int x1), some (.int x2), some (.int x3), some (.int x4), some (.int x5), some (.int r8)], []), S7)) (r2 := ((185, 136, [some (.ref 50), some (.int x1), some (.int x2), some (.int x3), some (.int x4), some (.int x5), some (.int r8)], []), S7)) 4 rfl (fun c => ?_) (fun c => ?_)
      · have h := h.1 c
        refine ri_A.less (m := 185) (pc := 143) (L := [some (.ref 50), some (.int x1), some (.int x2), some (.int x3), some (.int x4), some (.int x5), some (.int r8)]) (L' := [some (.ref 50), some (.int x1), some (.int x2), some (.int x3), some (.int x4), some (.int x5), none]) (st := []) ⟨rfl, ⟨rfl, ⟨rfl, ⟨rfl, ⟨rfl, ⟨rfl, trivial⟩⟩⟩⟩⟩⟩ ?_
        exact wt185_b143  hK63 _ _ _ _ _ _ h
      · have h := h.2 c
        refine A_nx 4 (fr' := (185, 143, [some (.ref 50), some (.int x1), some (.int x2), some (.int x5), some (.int r8), some (.int x5), some (.int r8)], [])) (S' := S7) rfl ?_
        refine ri_A.less (m := 185) (pc := 143) (L := [some (.ref 50), some (.int x1), some (.int x2), some (.int x5), some (.int r8), some (.int x5), some (.int r8)]) (L' := [some (.ref 50), some (.int x1), some (.int x2), some (.int x5), some (.int r8), some (.int x5), none]) (st := []) ⟨rfl, ⟨rfl, ⟨rfl, ⟨rfl, ⟨rfl, ⟨rfl, trivial⟩⟩⟩⟩⟩⟩ ?_
        exact wt185_b143  hK63 _ _ _ _ _ _ h
    · have h := h.2 c
      refine A_ix x6 24 (r1 := ((185, 93, [some (.ref 50), some (.int x1), some (.int x2), some (.int x3), some (.int x4), some (.int x5), some (.int x6)], [.int (S.1 62 (x6).toNatClampNeg), .int x6, .ref 54]), S)) 7 rfl h.1 ?_
      have h := h.2
      refine A_br (¬ (S.1 62 (x6).toNatClampNeg) = x5) (r1 := ((185, 108, [some (.ref 50), some (.int x1), some (.int x2), some (.int x3), some (.int x4), some (.int x5), some (.int x6)], [.int x6, .ref 54]), S)) (r2 := ((185, 98, [some (.ref 50), some (.int x1), some (.int x2), some (.int x3), some (.int x4), some (.int x5), some (.int x6)], [.int x6, .ref 54]), S)) 2 rfl (fun c => ?_) (fun c => ?_)
      · have h := h.1 c
        refine A_ix x6 24 (r1 := ((185, 115, [some (.ref 50), some (.int x1), some (.int x2), some (.int x3), some (.int x4), some (.int x5), some (.int x6)], [.int (S.1 62 (x6).toNatClampNeg), .int x6, .ref 54]), S)) 4 rfl h.1 ?_
        have h := h.2
        refine ri_A.less (m := 185) (pc := 115) (L := [some (.ref 50), some (.int x1), some (.int x2), some (.int x3), some (.int x4), some (.int x5), some (.int x6)]) (L' := [some (.ref 50), some (.int x1), some (.int x2), some (.int x3), some (.int x4), some (.int x5), some (.int x6)]) (st := [.int (S.1 62 (x6).toNatClampNeg), .int x6, .ref 54]) ⟨rfl, ⟨rfl, ⟨rfl, ⟨rfl, ⟨rfl, ⟨rfl, ⟨rfl, trivial⟩⟩⟩⟩⟩⟩⟩ ?_
        exact wt185_b115  hK63 (fun x1 x2 x3 x4 x5 x6 S hk => ih x1 x2 x3 x4 x5 x6 S hk) _ _ _ _ _ _ _ _ _ h
      · have h := h.2 c
        refine A_gd (¬ (12 : Int32) = 0) (r1 := ((185, 105, [some (.ref 50), some (.int x1), some (.int x2), some (.int x3), some (.int x4), some (.int x5), some (.int x6)], [.int ((x5 + (1 : Int32)) - (x5 + (1 : Int32)) / (12 : Int32) * (12 : Int32)), .int x6, .ref 54]), S)) 5 rfl (by decide) ?_
        refine A_nx 1 (fr' := (185, 115, [some (.ref 50), some (.int x1), some (.int x2), some (.int x3), some (.int x4), some (.int x5), some (.int x6)], [.int ((x5 + (1 : Int32)) - (x5 + (1 : Int32)) / (12 : Int32) * (12 : Int32)), .int x6, .ref 54])) (S' := S) rfl ?_
        refine ri_A.less (m := 185) (pc := 115) (L := [some (.ref 50), some (.int x1), some (.int x2), some (.int x3), some (.int x4), some (.int x5), some (.int x6)]) (L' := [some (.ref 50), some (.int x1), some (.int x2), some (.int x3), some (.int x4), some (.int x5), some (.int x6)]) (st := [.int ((x5 + (1 : Int32)) - (x5 + (1 : Int32)) / (12 : Int32) * (12 : Int32)), .int x6, .ref 54]) ⟨rfl, ⟨rfl, ⟨rfl, ⟨rfl, ⟨rfl, ⟨rfl, ⟨rfl, trivial⟩⟩⟩⟩⟩⟩⟩ ?_
        exact wt185_b115  hK63 (fun x1 x2 x3 x4 x5 x6 S hk => ih x1 x2 x3 x4 x5 x6 S hk) _ _ _ _ _ _ _ _ _ h
def w185_l63 (Q : Int32 → ri_H → Prop) : Nat → Int32 → Int32 → Int32 → Int32 → Int32 → ri_H → Prop
  | 0, _, _, _, _, _, _ => False
  | n + 1, x1, x2, x3, x4, x5, S => (((12 : Int32) ≤ x5 → ∃ nn, w185_l152   Q nn x2 x3 x4 (0 : Int32) S) ∧ (¬ (12 : Int32) ≤ x5 → ∃ nn, w185_l73  (fun x1 x2 x3 x4 x5 S => w185_l63   Q n x1 x2 x3 x4 x5 S) Q nn x1 x2 x3 x4 x5 (0 : Int32) S))
set_option maxRecDepth 10000 in
set_option maxHeartbeats 1000000 in
theorem wt185_l63 {E : ri_E} {Q : Int32 → ri_H → Prop} : ∀ (n : Nat) (x1 : Int32) (x2 : Int32) (x3 : Int32) (x4 : Int32) (x5 : Int32) (S : ri_H), w185_l63   Q n x1 x2 x3 x4 x5 S → ri_A E 64 (185, 63, [some (.ref 50), some (.int x1), some (.int x2), some (.int x3), some (.int x4), some (.int x5), none], []) S (Qi Q) := by
  intro n
  induction n with
  | zero => intro x1 x2 x3 x4 x5 S h; exact h.elim
  | succ n ih =>
    intro x1 x2 x3 x4 x5 S h
    unfold w185_l63 at h
    refine A_br ((12 : Int32) ≤ x5) (r1 := ((185, 149, [some (.ref 50), some (.int x1), some (.int x2), some (.int x3), some (.int x4), some (.int x5), none], []), S)) (r2 := ((185, 70, [some (.ref 50), some (.int x1), some (.int x2), some (.int x3), some (.int x4), some (.int x5), none], []), S)) 3 rfl (fun c => ?_) (fun c => ?_)
    · have h := h.1 c
      refine A_nx 2 (fr' := (185, 152, [some (.ref 50), some (.int x1), some (.int x2), some (.int x3), some (.int x4), some (.int (0 : Int32)), none], [])) (S' := S) rfl ?_
      refine ri_A.less (m := 185) (pc := 152) (L := [some (.ref 50), some (.int x1), some (.int x2), some (.int x3), some (.int x4), some (.int (0 : Int32)), none]) (L' := [some (.ref 50), none, some (.int x2), some (.int x3), some (.int x4), some (.int (0 : Int32)), none]) (st := []) ⟨rfl, ⟨rfl, ⟨rfl, ⟨rfl, ⟨rfl, trivial⟩⟩⟩⟩⟩ ?_
      obtain ⟨nn, h⟩ := h
      exact wt185_l152   nn _ _ _ _ _ h
    · have h := h.2 c
      refine A_nx 2 (fr' := (185, 73, [some (.ref 50), some (.int x1), some (.int x2), some (.int x3), some (.int x4), some (.int x5), some (.int (0 : Int32))], [])) (S' := S) rfl ?_
      refine ri_A.less (m := 185) (pc := 73) (L := [some (.ref 50), some (.int x1), some (.int x2), some (.int x3), some (.int x4), some (.int x5), some (.int (0 : Int32))]) (L' := [some (.ref 50), some (.int x1), some (.int x2), some (.int x3), some (.int x4), some (.int x5), some (.int (0 : Int32))]) (st := []) ⟨rfl, ⟨rfl, ⟨rfl, ⟨rfl, ⟨rfl, ⟨rfl, ⟨rfl, trivial⟩⟩⟩⟩⟩⟩⟩ ?_
      obtain ⟨nn, h⟩ := h
      exact wt185_l73  (fun x1 x2 x3 x4 x5 S hk => ih x1 x2 x3 x4 x5 S hk) nn _ _ _ _ _ _ _ h
def w185_l27 (Q : Int32 → ri_H → Prop) : Nat → Int32 → Int32 → Int32 → ri_H → Prop
  | 0, _, _, _, _ => False
  | n + 1, x1, x2, x3, S => (((24 : Int32) ≤ x3 → w184 x1 S (fun (r6 : Int32) (S5 : ri_H) => ∃ nn, w185_l63   Q nn x1 x2 (-1 : Int32) r6 (0 : Int32) S5)) ∧ (¬ (24 : Int32) ≤ x3 → (vp_in x3 24 ∧ (vp_in x3 24 ∧ w185_l27   Q n x1 x2 (x3 + (1 : Int32)) (ri_wi S 62 (x3).toNatClampNeg (S.1 54 (x3).toNatClampNeg))))))
set_option maxRecDepth 10000 in
set_option maxHeartbeats 1000000 in
theorem wt185_l27 {E : ri_E} {Q : Int32 → ri_H → Prop} : ∀ (n : Nat) (x1 : Int32) (x2 : Int32) (x3 : Int32) (S : ri_H), w185_l27   Q n x1 x2 x3 S → ri_A E 64 (185, 27, [some (.ref 50), some (.int x1), some (.int x2), some (.int x3), none, none, none], []) S (Qi Q) := by
  intro n
  induction n with
  | zero => intro x1 x2 x3 S h; exact h.elim
  | succ n ih =>
    intro x1 x2 x3 S h
    unfold w185_l27 at h
    refine A_br ((24 : Int32) ≤ x3) (r1 := ((185, 51, [some (.ref 50), some (.int x1), some (.int x2), some (.int x3), none, none, none], []), S)) (r2 := ((185, 33, [some (.ref 50), some (.int x1), some (.int x2), some (.int x3), none, none, none], []), S)) 3 rfl (fun c => ?_) (fun c => ?_)
    · have h := h.1 c
      refine A_call (j := 184) (As := [.ref 50, .int x1]) (fr' := (185, 58, [some (.ref 50), some (.int x1), some (.int x2), some (.int (-1 : Int32)), none, none, none], [])) (S' := S) 5 rfl (e := 63) (by omega) (A_imp (wt184 x1 h) (fun v S5 hq => ?_))
      obtain ⟨r6, hv, h⟩ := hq
      subst hv
      refine A_nx 3 (fr' := (185, 63, [some (.ref 50), some (.int x1), some (.int x2), some (.int (-1 : Int32)), some (.int r6), some (.int (0 : Int32)), none], [])) (S' := S5) rfl ?_
      refine ri_A.less (m := 185) (pc := 63) (L := [some (.ref 50), some (.int x1), some (.int x2), some (.int (-1 : Int32)), some (.int r6), some (.int (0 : Int32)), none]) (L' := [some (.ref 50), some (.int x1), some (.int x2), some (.int (-1 : Int32)), some (.int r6), some (.int (0 : Int32)), none]) (st := []) ⟨rfl, ⟨rfl, ⟨rfl, ⟨rfl, ⟨rfl, ⟨rfl, trivial⟩⟩⟩⟩⟩⟩ ?_
      obtain ⟨nn, h⟩ := h
      exact wt185_l63   nn _ _ _ _ _ _ h
    · have h := h.2 c
      refine A_ix x3 24 (r1 := ((185, 44, [some (.ref 50), some (.int x1), some (.int x2), some (.int x3), none, none, none], [.int (S.1 54 (x3).toNatClampNeg), .int x3, .ref 62]), S)) 7 rfl h.1 ?_
      have h := h.2
      refine A_ix x3 24 (r1 := ((185, 45, [some (.ref 50), some (.int x1), some (.int x2), some (.int x3), none, none, none], []), (ri_wi S 62 (x3).toNatClampNeg (S.1 54 (x3).toNatClampNeg)))) 1 rfl h.1 ?_
      have h := h.2
      refine A_nx 2 (fr' := (185, 27, [some (.ref 50), some (.int x1), some (.int x2), some (.int (x3 + (1 : Int32))), none, none, none], [])) (S' := (ri_wi S 62 (x3).toNatClampNeg (S.1 54 (x3).toNatClampNeg))) rfl ?_
      refine ri_A.less (m := 185) (pc := 27) (L := [some (.ref 50), some (.int x1), some (.int x2), some (.int (x3 + (1 : Int32))), none, none, none]) (L' := [some (.ref 50), some (.int x1), some (.int x2), some (.int (x3 + (1 : Int32))), none, none, none]) (st := []) ⟨rfl, ⟨rfl, ⟨rfl, ⟨rfl, trivial⟩⟩⟩⟩ ?_
      exact ih _ _ _ _ h
def w185 (a : Int32) (b : Int32) (S : ri_H) (Q : Int32 → ri_H → Prop) : Prop := w102 (a).toInt64 (0 : Int64) (40 : Int64) S (fun (r2 : Int32) (S1 : ri_H) => ((r2 = 0 → Q (-2 : Int32) S1) ∧ (¬ (r2 = 0) → w102 (b).toInt64 (0 : Int64) (1 : Int64) S1 (fun (r4 : Int32) (S3 : ri_H) => ((¬ r4 = 0 → ∃ nn, w185_l27   Q nn a b (0 : Int32) S3) ∧ (¬ (¬ r4 = 0) → Q (-2 : Int32) S3))))))
set_option maxRecDepth 10000 in
set_option maxHeartbeats 1000000 in
theorem wt185 {E : ri_E} (a : Int32) (b : Int32) {S : ri_H} {Q : Int32 → ri_H → Prop} (h : w185  a b S Q) : ri_A E 64 (ri_en 185 [.ref 50, .int a, .int b]) S (Qi Q) := by
  unfold w185 at h
  show ri_A E 64 (185, 0, [some (.ref 50), some (.int a), some (.int b), none, none, none, none], []) S (Qi Q)
  refine A_call (j := 102) (As := [.long (a).toInt64, .long (0 : Int64), .long (40 : Int64)]) (fr' := (185, 9, [some (.ref 50), some (.int a), some (.int b), none, none, none, none], [])) (S' := S) 5 rfl (e := 0) (by omega) (A_imp (wt102 (a).toInt64 (0 : Int64) (40 : Int64) h) (fun v S1 hq => ?_))
  obtain ⟨r2, hv, h⟩ := hq
  subst hv
  refine A_br (r2 = 0) (r1 := ((185, 22, [some (.ref 50), some (.int a), some (.int b), none, none, none, none], []), S1)) (r2 := ((185, 12, [some (.ref 50), some (.int a), some (.int b), none, none, none, none], []), S1)) 1 rfl (fun c => ?_) (fun c => ?_)
  · have h := h.1 c
    exact A_ret 2 (m := 185) (v := some (.int (-2 : Int32))) (S' := S1) rfl rfl ⟨_, rfl, h⟩
  · have h := h.2 c
    refine A_call (j := 102) (As := [.long (b).toInt64, .long (0 : Int64), .long (1 : Int64)]) (fr' := (185, 19, [some (.ref 50), some (.int a), some (.int b), none, none, none, none], [])) (S' := S1) 5 rfl (e := 0) (by omega) (A_imp (wt102 (b).toInt64 (0 : Int64) (1 : Int64) h) (fun v S3 hq => ?_))
    obtain ⟨r4, hv, h⟩ := hq
    subst hv
    refine A_br (¬ r4 = 0) (r1 := ((185, 25, [some (.ref 50), some (.int a), some (.int b), none, none, none, none], []), S3)) (r2 := ((185, 22, [some (.ref 50), some (.int a), some (.int b), none, none, none, none], []), S3)) 1 rfl (fun c => ?_) (fun c => ?_)
    · have h := h.1 c
      refine A_nx 2 (fr' := (185, 27, [some (.ref 50), some (.int a), some (.int b), some (.int (0 : Int32)), none, none, none], [])) (S' := S3) rfl ?_
      refine ri_A.less (m := 185) (pc := 27) (L := [some (.ref 50), some (.int a), some (.int b), some (.int (0 : Int32)), none, none, none]) (L' := [some (.ref 50), some (.int a), some (.int b), some (.int (0 : Int32)), none, none, none]) (st := []) ⟨rfl, ⟨rfl, ⟨rfl, ⟨rfl, trivial⟩⟩⟩⟩ ?_
      obtain ⟨nn, h⟩ := h
      exact wt185_l27   nn _ _ _ _ h
    · have h := h.2 c
      exact A_ret 2 (m := 185) (v := some (.int (-2 : Int32))) (S' := S3) rfl rfl ⟨_, rfl, h⟩
/-! X5_spoonFor, depth 61 -/
def w186_b53 (K8 : Int32 → Int32 → Int32 → Int32 → Int32 → ri_H → Prop) (Q : Int32 → ri_H → Prop) (x1 : Int32) (x2 : Int32) (x3 : Int32) (x4 : Int32) (x5 : Int32) (S : ri_H) : Prop := K8 x1 x2 x3 x4 (x5 + (1 : Int32)) S
set_option maxRecDepth 10000 in
set_option maxHeartbeats 1000000 in
theorem wt186_b53 {E : ri_E} {K8 : Int32 → Int32 → Int32 → Int32 → Int32 → ri_H → Prop} {Q : Int32 → ri_H → Prop} (hK8 : ∀ (x1 : Int32) (x2 : Int32) (x3 : Int32) (x4 : Int32) (x5 : Int32) (S : ri_H), K8 x1 x2 x3 x4 x5 S → ri_A E 61 (186, 8, [some (.ref 50), some (.int x1), some (.int x2), some (.int x3), some (.int x4), some (.int x5), none], []) S (Qi Q)) (x1 : Int32) (x2 : Int32) (x3 : Int32) (x4 : Int32) (x5 : Int32) (S : ri_H) (h : w186_b53  K8 Q x1 x2 x3 x4 x5 S) : ri_A E 61 (186, 53, [some (.ref 50), some (.int x1), some (.int x2), some (.int x3), some (.int x4), some (.int x5), none], []) S (Qi Q) := by
  unfold w186_b53 at h
  refine A_nx 2 (fr' := (186, 8, [some (.ref 50), some (.int x1), some (.int x2), some (.int x3), some (.int x4), some (.int (x5 + (1 : Int32))), none], [])) (S' := S) rfl ?_
  refine ri_A.less (m := 186) (pc := 8) (L := [some (.ref 50), some (.int x1), some (.int x2), some (.int x3), some (.int x4), some (.int (x5 + (1 : Int32))), none]) (L' := [some (.ref 50), some (.int x1), some (.int x2), some (.int x3), some (.int x4), some (.int (x5 + (1 : Int32))), none]) (st := []) ⟨rfl, ⟨rfl, ⟨rfl, ⟨rfl, ⟨rfl, ⟨rfl, trivial⟩⟩⟩⟩⟩⟩ ?_
  exact hK8 _ _ _ _ _ _ h
def w186_b46 (K8 : Int32 → Int32 → Int32 → Int32 → Int32 → ri_H → Prop) (Q : Int32 → ri_H → Prop) (x1 : Int32) (x2 : Int32) (x5 : Int32) (x6 : Int32) (S : ri_H) : Prop := w186_b53  K8 Q x1 x2 x5 x6 x5 S
set_option maxRecDepth 10000 in
set_option maxHeartbeats 1000000 in
theorem wt186_b46 {E : ri_E} {K8 : Int32 → Int32 → Int32 → Int32 → Int32 → ri_H → Prop} {Q : Int32 → ri_H → Prop} (hK8 : ∀ (x1 : Int32) (x2 : Int32) (x3 : Int32) (x4 : Int32) (x5 : Int32) (S : ri_H), K8 x1 x2 x3 x4 x5 S → ri_A E 61 (186, 8, [some (.ref 50), some (.int x1), some (.int x2), some (.int x3), some (.int x4), some (.int x5), none], []) S (Qi Q)) (x1 : Int32) (x2 : Int32) (x5 : Int32) (x6 : Int32) (S : ri_H) (h : w186_b46  K8 Q x1 x2 x5 x6 S) : ri_A E 61 (186, 46, [some (.ref 50), some (.int x1), some (.int x2), none, none, some (.int x5), some (.int x6)], []) S (Qi Q) := by
  unfold w186_b46 at h
  refine A_nx 4 (fr' := (186, 53, [some (.ref 50), some (.int x1), some (.int x2), some (.int x5), some (.int x6), some (.int x5), some (.int x6)], [])) (S' := S) rfl ?_
  refine ri_A.less (m := 186) (pc := 53) (L := [some (.ref 50), some (.int x1), some (.int x2), some (.int x5), some (.int x6), some (.int x5), some (.int x6)]) (L' := [some (.ref 50), some (.int x1), some (.int x2), some (.int x5), some (.int x6), some (.int x5), none]) (st := []) ⟨rfl, ⟨rfl, ⟨rfl, ⟨rfl, ⟨rfl, ⟨rfl, trivial⟩⟩⟩⟩⟩⟩ ?_
  exact wt186_b53  hK8 _ _ _ _ _ _ h
def w186_l8 (Q : Int32 → ri_H → Prop) : Nat → Int32 → Int32 → Int32 → Int32 → Int32 → ri_H → Prop
  | 0, _, _, _, _, _, _ => False
  | n + 1, x1, x2, x3, x4, x5, S => (((24 : Int32) ≤ x5 → ((¬ x2 = 0 → Q x4 S) ∧ (¬ (¬ x2 = 0) → Q x3 S))) ∧ (¬ (24 : Int32) ≤ x5 → (vp_in x5 24 ∧ (((S.1 55 (x5).toNatClampNeg) ≤ 0 → w186_b53  (fun x1 x2 x3 x4 x5 S => w186_l8   Q n x1 x2 x3 x4 x5 S) Q x1 x2 x3 x4 x5 S) ∧ (¬ (S.1 55 (x5).toNatClampNeg) ≤ 0 → w167 x1 x5 S (fun (r2 : Int32) (S1 : ri_H) => ((x3 = (-1 : Int32) → w186_b46  (fun x1 x2 x3 x4 x5 S => w186_l8   Q n x1 x2 x3 x4 x5 S) Q x1 x2 x5 r2 S1) ∧ (¬ (x3 = (-1 : Int32)) → ((r2 ≤ x4 → w186_b53  (fun x1 x2 x3 x4 x5 S => w186_l8   Q n x1 x2 x3 x4 x5 S) Q x1 x2 x3 x4 x5 S1) ∧ (¬ (r2 ≤ x4) → w186_b46  (fun x1 x2 x3 x4 x5 S => w186_l8   Q n x1 x2 x3 x4 x5 S) Q x1 x2 x5 r2 S1))))))))))
set_option maxRecDepth 10000 in
set_option maxHeartbeats 1000000 in
theorem wt186_l8 {E : ri_E} {Q : Int32 → ri_H → Prop} : ∀ (n : Nat) (x1 : Int32) (x2 : Int32) (x3 : Int32) (x4 : Int32) (x5 : Int32) (S : ri_H), w186_l8   Q n x1 x2 x3 x4 x5 S → ri_A E 61 (186, 8, [some (.ref 50), some (.int x1), some (.int x2), some (.int x3), some (.int x4), some (.int x5), none], []) S (Qi Q) := by
  intro n
  induction n with
  | zero => intro x1 x2 x3 x4 x5 S h; exact h.elim
  | succ n ih =>
    intro x1 x2 x3 x4 x5 S h
    unfold w186_l8 at h
    refine A_br ((24 : Int32) ≤ x5) (r1 := ((186, 59, [some (.ref 50), some (.int x1), some (.int x2), some (.int x3), some (.int x4), some (.int x5), none], []), S)) (r2 := ((186, 15, [some (.ref 50), some (.int x1), some (.int x2), some (.int x3), some (.int x4), some (.int x5), none], []), S)) 3 rfl (fun c => ?_) (fun c => ?_)
    · have h := h.1 c
      refine A_br (¬ x2 = 0) (r1 := ((186, 67, [some (.ref 50), some (.int x1), some (.int x2), some (.int x3), some (.int x4), some (.int x5), none], []), S)) (r2 := ((186, 63, [some (.ref 50), some (.int x1), some (.int x2), some (.int x3), some (.int x4), some (.int x5), none], []), S)) 2 rfl (fun c => ?_) (fun c => ?_)
      · have h := h.1 c
        exact A_ret 2 (m := 186) (v := some (.int x4)) (S' := S) rfl rfl ⟨_, rfl, h⟩
      · have h := h.2 c
        exact A_ret 3 (m := 186) (v := some (.int x3)) (S' := S) rfl rfl ⟨_, rfl, h⟩
    · have h := h.2 c
      refine A_ix x5 24 (r1 := ((186, 22, [some (.ref 50), some (.int x1), some (.int x2), some (.int x3), some (.int x4), some (.int x5), none], [.int (S.1 55 (x5).toNatClampNeg)]), S)) 4 rfl h.1 ?_
      have h := h.2
      refine A_br ((S.1 55 (x5).toNatClampNeg) ≤ 0) (r1 := ((186, 53, [some (.ref 50), some (.int x1), some (.int x2), some (.int x3), some (.int x4), some (.int x5), none], []), S)) (r2 := ((186, 25, [some (.ref 50), some (.int x1), some (.int x2), some (.int x3), some (.int x4), some (.int x5), none], []), S)) 1 rfl (fun c => ?_) (fun c => ?_)
      · have h := h.1 c
        refine ri_A.less (m := 186) (pc := 53) (L := [some (.ref 50), some (.int x1), some (.int x2), some (.int x3), some (.int x4), some (.int x5), none]) (L' := [some (.ref 50), some (.int x1), some (.int x2), some (.int x3), some (.int x4), some (.int x5), none]) (st := []) ⟨rfl, ⟨rfl, ⟨rfl, ⟨rfl, ⟨rfl, ⟨rfl, trivial⟩⟩⟩⟩⟩⟩ ?_
        exact wt186_b53  (fun x1 x2 x3 x4 x5 S hk => ih x1 x2 x3 x4 x5 S hk) _ _ _ _ _ _ h
      · have h := h.2 c
        refine A_call (j := 167) (As := [.ref 50, .int x1, .int x5]) (fr' := (186, 32, [some (.ref 50), some (.int x1), some (.int x2), some (.int x3), some (.int x4), some (.int x5), none], [])) (S' := S) 4 rfl (e := 60) (by omega) (A_imp (wt167 x1 x5 h) (fun v S1 hq => ?_))
        obtain ⟨r2, hv, h⟩ := hq
        subst hv
        refine A_br (x3 = (-1 : Int32)) (r1 := ((186, 46, [some (.ref 50), some (.int x1), some (.int x2), some (.int x3), some (.int x4), some (.int x5), some (.int r2)], []), S1)) (r2 := ((186, 39, [some (.ref 50), some (.int x1), some (.int x2), some (.int x3), some (.int x4), some (.int x5), some (.int r2)], []), S1)) 4 rfl (fun c => ?_) (fun c => ?_)
        · have h := h.1 c
          refine ri_A.less (m := 186) (pc := 46) (L := [some (.ref 50), some (.int x1), some (.int x2), some (.int x3), some (.int x4), some (.int x5), some (.int r2)]) (L' := [some (.ref 50), some (.int x1), some (.int x2), none, none, some (.int x5), some (.int r2)]) (st := []) ⟨rfl, ⟨rfl, ⟨rfl, ⟨rfl, ⟨rfl, trivial⟩⟩⟩⟩⟩ ?_
          exact wt186_b46  (fun x1 x2 x3 x4 x5 S hk => ih x1 x2 x3 x4 x5 S hk) _ _ _ _ _ h
        · have h := h.2 c
          refine A_br (r2 ≤ x4) (r1 := ((186, 53, [some (.ref 50), some (.int x1), some (.int x2), some (.int x3), some (.int x4), some (.int x5), some (.int r2)], []), S1)) (r2 := ((186, 46, [some (.ref 50), some (.int x1), some (.int x2), some (.int x3), some (.int x4), some (.int x5), some (.int r2)], []), S1)) 3 rfl (fun c => ?_) (fun c => ?_)
          · have h := h.1 c
            refine ri_A.less (m := 186) (pc := 53) (L := [some (.ref 50), some (.int x1), some (.int x2), some (.int x3), some (.int x4), some (.int x5), some (.int r2)]) (L' := [some (.ref 50), some (.int x1), some (.int x2), some (.int x3), some (.int x4), some (.int x5), none]) (st := []) ⟨rfl, ⟨rfl, ⟨rfl, ⟨rfl, ⟨rfl, ⟨rfl, trivial⟩⟩⟩⟩⟩⟩ ?_
            exact wt186_b53  (fun x1 x2 x3 x4 x5 S hk => ih x1 x2 x3 x4 x5 S hk) _ _ _ _ _ _ h
          · have h := h.2 c
            refine ri_A.less (m := 186) (pc := 46) (L := [some (.ref 50), some (.int x1), some (.int x2), some (.int x3), some (.int x4), some (.int x5), some (.int r2)]) (L' := [some (.ref 50), some (.int x1), some (.int x2), none, none, some (.int x5), some (.int r2)]) (st := []) ⟨rfl, ⟨rfl, ⟨rfl, ⟨rfl, ⟨rfl, trivial⟩⟩⟩⟩⟩ ?_
            exact wt186_b46  (fun x1 x2 x3 x4 x5 S hk => ih x1 x2 x3 x4 x5 S hk) _ _ _ _ _ h
def w186 (a : Int32) (b : Int32) (S : ri_H) (Q : Int32 → ri_H → Prop) : Prop := ∃ nn, w186_l8   Q nn a b (-1 : Int32) (0 : Int32) (0 : Int32) S
set_option maxRecDepth 10000 in
set_option maxHeartbeats 1000000 in
theorem wt186 {E : ri_E} (a : Int32) (b : Int32) {S : ri_H} {Q : Int32 → ri_H → Prop} (h : w186  a b S Q) : ri_A E 61 (ri_en 186 [.ref 50, .int a, .int b]) S (Qi Q) := by
  unfold w186 at h
  show ri_A E 61 (186, 0, [some (.ref 50), some (.int a), some (.int b), none, none, none, none], []) S (Qi Q)
  refine A_nx 6 (fr' := (186, 8, [some (.ref 50), some (.int a), some (.int b), some (.int (-1 : Int32)), some (.int (0 : Int32)), some (.int (0 : Int32)), none], [])) (S' := S) rfl ?_
  refine ri_A.less (m := 186) (pc := 8) (L := [some (.ref 50), some (.int a), some (.int b), some (.int (-1 : Int32)), some (.int (0 : Int32)), some (.int (0 : Int32)), none]) (L' := [some (.ref 50), some (.int a), some (.int b), some (.int (-1 : Int32)), some (.int (0 : Int32)), some (.int (0 : Int32)), none]) (st := []) ⟨rfl, ⟨rfl, ⟨rfl, ⟨rfl, ⟨rfl, ⟨rfl, trivial⟩⟩⟩⟩⟩⟩ ?_
  obtain ⟨nn, h⟩ := h
  exact wt186_l8   nn _ _ _ _ _ _ h
/-! X5_shelf, depth 0 -/
def w187_b31 (K6 : Int32 → Int32 → Int32 → ri_H → Prop) (Q : Int32 → ri_H → Prop) (x1 : Int32) (x2 : Int32) (x3 : Int32) (S : ri_H) : Prop := K6 x1 x2 (x3 + (1 : Int32)) S
set_option maxRecDepth 10000 in
set_option maxHeartbeats 1000000 in
theorem wt187_b31 {E : ri_E} {K6 : Int32 → Int32 → Int32 → ri_H → Prop} {Q : Int32 → ri_H → Prop} (hK6 : ∀ (x1 : Int32) (x2 : Int32) (x3 : Int32) (S : ri_H), K6 x1 x2 x3 S → ri_A E 0 (187, 6, [some (.ref 50), some (.int x1), some (.int x2), some (.int x3)], []) S (Qi Q)) (x1 : Int32) (x2 : Int32) (x3 : Int32) (S : ri_H) (h : w187_b31  K6 Q x1 x2 x3 S) : ri_A E 0 (187, 31, [some (.ref 50), some (.int x1), some (.int x2), some (.int x3)], []) S (Qi Q) := by
  unfold w187_b31 at h
  refine A_nx 2 (fr' := (187, 6, [some (.ref 50), some (.int x1), some (.int x2), some (.int (x3 + (1 : Int32)))], [])) (S' := S) rfl ?_
  refine ri_A.less (m := 187) (pc := 6) (L := [some (.ref 50), some (.int x1), some (.int x2), some (.int (x3 + (1 : Int32)))]) (L' := [some (.ref 50), some (.int x1), some (.int x2), some (.int (x3 + (1 : Int32)))]) (st := []) ⟨rfl, ⟨rfl, ⟨rfl, ⟨rfl, trivial⟩⟩⟩⟩ ?_
  exact hK6 _ _ _ _ h
def w187_l6 (Q : Int32 → ri_H → Prop) : Nat → Int32 → Int32 → Int32 → ri_H → Prop
  | 0, _, _, _, _ => False
  | n + 1, x1, x2, x3, S => (((24 : Int32) ≤ x3 → Q x1 S) ∧ (¬ (24 : Int32) ≤ x3 → (vp_in x3 24 ∧ (((S.1 55 (x3).toNatClampNeg) ≤ x2 → w187_b31  (fun x1 x2 x3 S => w187_l6   Q n x1 x2 x3 S) Q x1 x2 x3 S) ∧ (¬ (S.1 55 (x3).toNatClampNeg) ≤ x2 → (vp_in x3 24 ∧ w187_b31  (fun x1 x2 x3 S => w187_l6   Q n x1 x2 x3 S) Q x3 (S.1 55 (x3).toNatClampNeg) x3 S))))))
set_option maxRecDepth 10000 in
set_option maxHeartbeats 1000000 in
theorem wt187_l6 {E : ri_E} {Q : Int32 → ri_H → Prop} : ∀ (n : Nat) (x1 : Int32) (x2 : Int32) (x3 : Int32) (S : ri_H), w187_l6   Q n x1 x2 x3 S → ri_A E 0 (187, 6, [some (.ref 50), some (.int x1), some (.int x2), some (.int x3)], []) S (Qi Q) := by
  intro n
  induction n with
  | zero => intro x1 x2 x3 S h; exact h.elim
  | succ n ih =>
    intro x1 x2 x3 S h
    unfold w187_l6 at h
    refine A_br ((24 : Int32) ≤ x3) (r1 := ((187, 37, [some (.ref 50), some (.int x1), some (.int x2), some (.int x3)], []), S)) (r2 := ((187, 12, [some (.ref 50), some (.int x1), some (.int x2), some (.int x3)], []), S)) 3 rfl (fun c => ?_) (fun c => ?_)
    · have h := h.1 c
      exact A_ret 2 (m := 187) (v := some (.int x1)) (S' := S) rfl rfl ⟨_, rfl, h⟩
    · have h := h.2 c
      refine A_ix x3 24 (r1 := ((187, 18, [some (.ref 50), some (.int x1), some (.int x2), some (.int x3)], [.int (S.1 55 (x3).toNatClampNeg)]), S)) 4 rfl h.1 ?_
      have h := h.2
      refine A_br ((S.1 55 (x3).toNatClampNeg) ≤ x2) (r1 := ((187, 31, [some (.ref 50), some (.int x1), some (.int x2), some (.int x3)], []), S)) (r2 := ((187, 22, [some (.ref 50), some (.int x1), some (.int x2), some (.int x3)], []), S)) 2 rfl (fun c => ?_) (fun c => ?_)
      · have h := h.1 c
        refine ri_A.less (m := 187) (pc := 31) (L := [some (.ref 50), some (.int x1), some (.int x2), some (.int x3)]) (L' := [some (.ref 50), some (.int x1), some (.int x2), some (.int x3)]) (st := []) ⟨rfl, ⟨rfl, ⟨rfl, ⟨rfl, trivial⟩⟩⟩⟩ ?_
        exact wt187_b31  (fun x1 x2 x3 S hk => ih x1 x2 x3 S hk) _ _ _ _ h
      · have h := h.2 c
        refine A_ix x3 24 (r1 := ((187, 30, [some (.ref 50), some (.int x3), some (.int x2), some (.int x3)], [.int (S.1 55 (x3).toNatClampNeg)]), S)) 6 rfl h.1 ?_
        have h := h.2
        refine A_nx 1 (fr' := (187, 31, [some (.ref 50), some (.int x3), some (.int (S.1 55 (x3).toNatClampNeg)), some (.int x3)], [])) (S' := S) rfl ?_
        refine ri_A.less (m := 187) (pc := 31) (L := [some (.ref 50), some (.int x3), some (.int (S.1 55 (x3).toNatClampNeg)), some (.int x3)]) (L' := [some (.ref 50), some (.int x3), some (.int (S.1 55 (x3).toNatClampNeg)), some (.int x3)]) (st := []) ⟨rfl, ⟨rfl, ⟨rfl, ⟨rfl, trivial⟩⟩⟩⟩ ?_
        exact wt187_b31  (fun x1 x2 x3 S hk => ih x1 x2 x3 S hk) _ _ _ _ h
def w187  (S : ri_H) (Q : Int32 → ri_H → Prop) : Prop := ∃ nn, w187_l6   Q nn (-1 : Int32) (0 : Int32) (0 : Int32) S
set_option maxRecDepth 10000 in
set_option maxHeartbeats 1000000 in
theorem wt187 {E : ri_E}  {S : ri_H} {Q : Int32 → ri_H → Prop} (h : w187   S Q) : ri_A E 0 (ri_en 187 [.ref 50]) S (Qi Q) := by
  unfold w187 at h
  show ri_A E 0 (187, 0, [some (.ref 50), none, none, none], []) S (Qi Q)
  refine A_nx 6 (fr' := (187, 6, [some (.ref 50), some (.int (-1 : Int32)), some (.int (0 : Int32)), some (.int (0 : Int32))], [])) (S' := S) rfl ?_
  refine ri_A.less (m := 187) (pc := 6) (L := [some (.ref 50), some (.int (-1 : Int32)), some (.int (0 : Int32)), some (.int (0 : Int32))]) (L' := [some (.ref 50), some (.int (-1 : Int32)), some (.int (0 : Int32)), some (.int (0 : Int32))]) (st := []) ⟨rfl, ⟨rfl, ⟨rfl, ⟨rfl, trivial⟩⟩⟩⟩ ?_
  obtain ⟨nn, h⟩ := h
  exact wt187_l6   nn _ _ _ _ h
/-! X5_best, depth 62 -/
def w188 (a : Int32) (b : Int32) (S : ri_H) (Q : Int32 → ri_H → Prop) : Prop := w104 a S (fun (r2 : Int32) (S1 : ri_H) => ((r2 = 0 → Q (-1000 : Int32) S1) ∧ (¬ (r2 = 0) → w102 (b).toInt64 (0 : Int64) (2 : Int64) S1 (fun (r4 : Int32) (S3 : ri_H) => ((¬ r4 = 0 → ((¬ b = (2 : Int32) → w186 a b S3 (fun (r6 : Int32) (S5 : ri_H) => Q r6 S5)) ∧ (¬ (¬ b = (2 : Int32)) → w187  S3 (fun (r8 : Int32) (S7 : ri_H) => Q r8 S7)))) ∧ (¬ (¬ r4 = 0) → Q (-1000 : Int32) S3))))))
set_option maxRecDepth 10000 in
set_option maxHeartbeats 1000000 in
theorem wt188 {E : ri_E} (a : Int32) (b : Int32) {S : ri_H} {Q : Int32 → ri_H → Prop} (h : w188  a b S Q) : ri_A E 62 (ri_en 188 [.ref 50, .int a, .int b]) S (Qi Q) := by
  unfold w188 at h
  show ri_A E 62 (188, 0, [some (.ref 50), some (.int a), some (.int b)], []) S (Qi Q)
  refine A_call (j := 104) (As := [.ref 50, .int a]) (fr' := (188, 5, [some (.ref 50), some (.int a), some (.int b)], [])) (S' := S) 3 rfl (e := 1) (by omega) (A_imp (wt104 a h) (fun v S1 hq => ?_))
  obtain ⟨r2, hv, h⟩ := hq
  subst hv
  refine A_br (r2 = 0) (r1 := ((188, 20, [some (.ref 50), some (.int a), some (.int b)], []), S1)) (r2 := ((188, 8, [some (.ref 50), some (.int a), some (.int b)], []), S1)) 1 rfl (fun c => ?_) (fun c => ?_)
  · have h := h.1 c
    exact A_ret 2 (m := 188) (v := some (.int (-1000 : Int32))) (S' := S1) rfl rfl ⟨_, rfl, h⟩
  · have h := h.2 c
    refine A_call (j := 102) (As := [.long (b).toInt64, .long (0 : Int64), .long (2 : Int64)]) (fr' := (188, 17, [some (.ref 50), some (.int a), some (.int b)], [])) (S' := S1) 5 rfl (e := 0) (by omega) (A_imp (wt102 (b).toInt64 (0 : Int64) (2 : Int64) h) (fun v S3 hq => ?_))
    obtain ⟨r4, hv, h⟩ := hq
    subst hv
    refine A_br (¬ r4 = 0) (r1 := ((188, 24, [some (.ref 50), some (.int a), some (.int b)], []), S3)) (r2 := ((188, 20, [some (.ref 50), some (.int a), some (.int b)], []), S3)) 1 rfl (fun c => ?_) (fun c => ?_)
    · have h := h.1 c
      refine A_br (¬ b = (2 : Int32)) (r1 := ((188, 36, [some (.ref 50), some (.int a), some (.int b)], []), S3)) (r2 := ((188, 29, [some (.ref 50), some (.int a), some (.int b)], []), S3)) 3 rfl (fun c => ?_) (fun c => ?_)
      · have h := h.1 c
        refine A_call (j := 186) (As := [.ref 50, .int a, .int b]) (fr' := (188, 42, [some (.ref 50), some (.int a), some (.int b)], [])) (S' := S3) 4 rfl (e := 61) (by omega) (A_imp (wt186 a b h) (fun v S5 hq => ?_))
        obtain ⟨r6, hv, h⟩ := hq
        subst hv
        exact A_ret 1 (m := 188) (v := some (.int r6)) (S' := S5) rfl rfl ⟨_, rfl, h⟩
      · have h := h.2 c
        refine A_call (j := 187) (As := [.ref 50]) (fr' := (188, 33, [some (.ref 50), some (.int a), some (.int b)], [])) (S' := S3) 2 rfl (e := 0) (by omega) (A_imp (wt187  h) (fun v S7 hq => ?_))
        obtain ⟨r8, hv, h⟩ := hq
        subst hv
        exact A_ret 2 (m := 188) (v := some (.int r8)) (S' := S7) rfl rfl ⟨_, rfl, h⟩
    · have h := h.2 c
      exact A_ret 2 (m := 188) (v := some (.int (-1000 : Int32))) (S' := S3) rfl rfl ⟨_, rfl, h⟩
/-! X5_firstOther, depth 63 -/
def w189_b62 (Q : Int32 → ri_H → Prop) (x3 : Int32) (S : ri_H) : Prop := w175  S (fun (S2 : ri_H) => Q x3 S2)
set_option maxRecDepth 10000 in
set_option maxHeartbeats 1000000 in
theorem wt189_b62 {E : ri_E} {Q : Int32 → ri_H → Prop} (x3 : Int32) (S : ri_H) (h : w189_b62   Q x3 S) : ri_A E 63 (189, 62, [some (.ref 50), none, none, some (.int x3), none], []) S (Qi Q) := by
  unfold w189_b62 at h
  refine A_call (j := 175) (As := [.ref 50]) (fr' := (189, 66, [some (.ref 50), none, none, some (.int x3), none], [])) (S' := S) 2 rfl (e := 0) (by omega) (A_imp (wt175  h) (fun v S2 hq => ?_))
  obtain ⟨hv, h⟩ := hq
  subst hv
  exact A_ret 2 (m := 189) (v := some (.int x3)) (S' := S2) rfl rfl ⟨_, rfl, h⟩
def w189_b55 (K9 : Int32 → Int32 → Int32 → Int32 → ri_H → Prop) (Q : Int32 → ri_H → Prop) (x1 : Int32) (x2 : Int32) (x4 : Int32) (s0 : Int32) (S : ri_H) : Prop := K9 x1 x2 s0 (x4 + (1 : Int32)) S
set_option maxRecDepth 10000 in
set_option maxHeartbeats 1000000 in
theorem wt189_b55 {E : ri_E} {K9 : Int32 → Int32 → Int32 → Int32 → ri_H → Prop} {Q : Int32 → ri_H → Prop} (hK9 : ∀ (x1 : Int32) (x2 : Int32) (x3 : Int32) (x4 : Int32) (S : ri_H), K9 x1 x2 x3 x4 S → ri_A E 63 (189, 9, [some (.ref 50), some (.int x1), some (.int x2), some (.int x3), some (.int x4)], []) S (Qi Q)) (x1 : Int32) (x2 : Int32) (x4 : Int32) (s0 : Int32) (S : ri_H) (h : w189_b55  K9 Q x1 x2 x4 s0 S) : ri_A E 63 (189, 55, [some (.ref 50), some (.int x1), some (.int x2), none, some (.int x4)], [.int s0]) S (Qi Q) := by
  unfold w189_b55 at h
  refine A_nx 3 (fr' := (189, 9, [some (.ref 50), some (.int x1), some (.int x2), some (.int s0), some (.int (x4 + (1 : Int32)))], [])) (S' := S) rfl ?_
  refine ri_A.less (m := 189) (pc := 9) (L := [some (.ref 50), some (.int x1), some (.int x2), some (.int s0), some (.int (x4 + (1 : Int32)))]) (L' := [some (.ref 50), some (.int x1), some (.int x2), some (.int s0), some (.int (x4 + (1 : Int32)))]) (st := []) ⟨rfl, ⟨rfl, ⟨rfl, ⟨rfl, ⟨rfl, trivial⟩⟩⟩⟩⟩ ?_
  exact hK9 _ _ _ _ _ h
def w189_l9 (Q : Int32 → ri_H → Prop) : Nat → Int32 → Int32 → Int32 → Int32 → ri_H → Prop
  | 0, _, _, _, _, _ => False
  | n + 1, x1, x2, x3, x4, S => (vp_in x1 4 ∧ (((S.1 68 (x1).toNatClampNeg) ≤ x4 → w189_b62   Q x3 S) ∧ (¬ (S.1 68 (x1).toNatClampNeg) ≤ x4 → ((¬ x3 = (-1 : Int32) → w189_b62   Q x3 S) ∧ (¬ (¬ x3 = (-1 : Int32)) → w171  S (fun (S3 : ri_H) => w114 x2 S3 (fun (r5 : Int32) (S4 : ri_H) => (vp_in (((40 : Int32) * x1) + x4) 160 ∧ ((¬ r5 = (S4.1 69 ((((40 : Int32) * x1) + x4)).toNatClampNeg) → w189_b55  (fun x1 x2 x3 x4 S => w189_l9   Q n x1 x2 x3 x4 S) Q x1 x2 x4 x4 S4) ∧ (¬ (¬ r5 = (S4.1 69 ((((40 : Int32) * x1) + x4)).toNatClampNeg)) → w189_b55  (fun x1 x2 x3 x4 S => w189_l9   Q n x1 x2 x3 x4 S) Q x1 x2 x4 (-1 : Int32) S4))))))))))
set_option maxRecDepth 10000 in
set_option maxHeartbeats 1000000 in
theorem wt189_l9 {E : ri_E} {Q : Int32 → ri_H → Prop} : ∀ (n : Nat) (x1 : Int32) (x2 : Int32) (x3 : Int32) (x4 : Int32) (S : ri_H), w189_l9   Q n x1 x2 x3 x4 S → ri_A E 63 (189, 9, [some (.ref 50), some (.int x1), some (.int x2), some (.int x3), some (.int x4)], []) S (Qi Q) := by
  intro n
  induction n with
  | zero => intro x1 x2 x3 x4 S h; exact h.elim
  | succ n ih =>
    intro x1 x2 x3 x4 S h
    unfold w189_l9 at h
    refine A_ix x1 4 (r1 := ((189, 17, [some (.ref 50), some (.int x1), some (.int x2), some (.int x3), some (.int x4)], [.int (S.1 68 (x1).toNatClampNeg), .int x4]), S)) 5 rfl h.1 ?_
    have h := h.2
    refine A_br ((S.1 68 (x1).toNatClampNeg) ≤ x4) (r1 := ((189, 62, [some (.ref 50), some (.int x1), some (.int x2), some (.int x3), some (.int x4)], []), S)) (r2 := ((189, 20, [some (.ref 50), some (.int x1), some (.int x2), some (.int x3), some (.int x4)], []), S)) 1 rfl (fun c => ?_) (fun c => ?_)
    · have h := h.1 c
      refine ri_A.less (m := 189) (pc := 62) (L := [some (.ref 50), some (.int x1), some (.int x2), some (.int x3), some (.int x4)]) (L' := [some (.ref 50), none, none, some (.int x3), none]) (st := []) ⟨rfl, ⟨rfl, trivial⟩⟩ ?_
      exact wt189_b62   _ _ h
    · have h := h.2 c
      refine A_br (¬ x3 = (-1 : Int32)) (r1 := ((189, 62, [some (.ref 50), some (.int x1), some (.int x2), some (.int x3), some (.int x4)], []), S)) (r2 := ((189, 25, [some (.ref 50), some (.int x1), some (.int x2), some (.int x3), some (.int x4)], []), S)) 3 rfl (fun c => ?_) (fun c => ?_)
      · have h := h.1 c
        refine ri_A.less (m := 189) (pc := 62) (L := [some (.ref 50), some (.int x1), some (.int x2), some (.int x3), some (.int x4)]) (L' := [some (.ref 50), none, none, some (.int x3), none]) (st := []) ⟨rfl, ⟨rfl, trivial⟩⟩ ?_
        exact wt189_b62   _ _ h
      · have h := h.2 c
        refine A_call (j := 171) (As := [.ref 50]) (fr' := (189, 29, [some (.ref 50), some (.int x1), some (.int x2), some (.int x3), some (.int x4)], [])) (S' := S) 2 rfl (e := 62) (by omega) (A_imp (wt171  h) (fun v S3 hq => ?_))
        obtain ⟨hv, h⟩ := hq
        subst hv
        refine A_call (j := 114) (As := [.ref 50, .int x2]) (fr' := (189, 34, [some (.ref 50), some (.int x1), some (.int x2), some (.int x3), some (.int x4)], [])) (S' := S3) 3 rfl (e := 0) (by omega) (A_imp (wt114 x2 h) (fun v S4 hq => ?_))
        obtain ⟨r5, hv, h⟩ := hq
        subst hv
        refine A_ix (((40 : Int32) * x1) + x4) 160 (r1 := ((189, 46, [some (.ref 50), some (.int x1), some (.int x2), some (.int x3), some (.int x4)], [.int (S4.1 69 ((((40 : Int32) * x1) + x4)).toNatClampNeg), .int r5]), S4)) 8 rfl h.1 ?_
        have h := h.2
        refine A_br (¬ r5 = (S4.1 69 ((((40 : Int32) * x1) + x4)).toNatClampNeg)) (r1 := ((189, 53, [some (.ref 50), some (.int x1), some (.int x2), some (.int x3), some (.int x4)], []), S4)) (r2 := ((189, 49, [some (.ref 50), some (.int x1), some (.int x2), some (.int x3), some (.int x4)], []), S4)) 1 rfl (fun c => ?_) (fun c => ?_)
        · have h := h.1 c
          refine A_nx 1 (fr' := (189, 55, [some (.ref 50), some (.int x1), some (.int x2), some (.int x3), some (.int x4)], [.int x4])) (S' := S4) rfl ?_
          refine ri_A.less (m := 189) (pc := 55) (L := [some (.ref 50), some (.int x1), some (.int x2), some (.int x3), some (.int x4)]) (L' := [some (.ref 50), some (.int x1), some (.int x2), none, some (.int x4)]) (st := [.int x4]) ⟨rfl, ⟨rfl, ⟨rfl, ⟨rfl, trivial⟩⟩⟩⟩ ?_
          exact wt189_b55  (fun x1 x2 x3 x4 S hk => ih x1 x2 x3 x4 S hk) _ _ _ _ _ h
        · have h := h.2 c
          refine A_nx 2 (fr' := (189, 55, [some (.ref 50), some (.int x1), some (.int x2), some (.int x3), some (.int x4)], [.int (-1 : Int32)])) (S' := S4) rfl ?_
          refine ri_A.less (m := 189) (pc := 55) (L := [some (.ref 50), some (.int x1), some (.int x2), some (.int x3), some (.int x4)]) (L' := [some (.ref 50), some (.int x1), some (.int x2), none, some (.int x4)]) (st := [.int (-1 : Int32)]) ⟨rfl, ⟨rfl, ⟨rfl, ⟨rfl, trivial⟩⟩⟩⟩ ?_
          exact wt189_b55  (fun x1 x2 x3 x4 S hk => ih x1 x2 x3 x4 S hk) _ _ _ _ _ h
def w189 (a : Int32) (b : Int32) (S : ri_H) (Q : Int32 → ri_H → Prop) : Prop := w174  S (fun (S1 : ri_H) => ∃ nn, w189_l9   Q nn a b (-1 : Int32) (0 : Int32) S1)
set_option maxRecDepth 10000 in
set_option maxHeartbeats 1000000 in
theorem wt189 {E : ri_E} (a : Int32) (b : Int32) {S : ri_H} {Q : Int32 → ri_H → Prop} (h : w189  a b S Q) : ri_A E 63 (ri_en 189 [.ref 50, .int a, .int b]) S (Qi Q) := by
  unfold w189 at h
  show ri_A E 63 (189, 0, [some (.ref 50), some (.int a), some (.int b), none, none], []) S (Qi Q)
  refine A_call (j := 174) (As := [.ref 50]) (fr' := (189, 4, [some (.ref 50), some (.int a), some (.int b), none, none], [])) (S' := S) 2 rfl (e := 0) (by omega) (A_imp (wt174  h) (fun v S1 hq => ?_))
  obtain ⟨hv, h⟩ := hq
  subst hv
  refine A_nx 4 (fr' := (189, 9, [some (.ref 50), some (.int a), some (.int b), some (.int (-1 : Int32)), some (.int (0 : Int32))], [])) (S' := S1) rfl ?_
  refine ri_A.less (m := 189) (pc := 9) (L := [some (.ref 50), some (.int a), some (.int b), some (.int (-1 : Int32)), some (.int (0 : Int32))]) (L' := [some (.ref 50), some (.int a), some (.int b), some (.int (-1 : Int32)), some (.int (0 : Int32))]) (st := []) ⟨rfl, ⟨rfl, ⟨rfl, ⟨rfl, ⟨rfl, trivial⟩⟩⟩⟩⟩ ?_
  obtain ⟨nn, h⟩ := h
  exact wt189_l9   nn _ _ _ _ _ h
/-! X5_likeSet, depth 64 -/
def w190_b28 (K4 : Int32 → Int32 → Int32 → ri_H → Prop) (Q : Int32 → ri_H → Prop) (x1 : Int32) (x3 : Int32) (s0 : Int32) (s1 : Int32) (S : ri_H) : Prop := K4 x1 (s1 ||| (s0 <<< (x3 &&& 31))) (x3 + (1 : Int32)) S
set_option maxRecDepth 10000 in
set_option maxHeartbeats 1000000 in
theorem wt190_b28 {E : ri_E} {K4 : Int32 → Int32 → Int32 → ri_H → Prop} {Q : Int32 → ri_H → Prop} (hK4 : ∀ (x1 : Int32) (x2 : Int32) (x3 : Int32) (S : ri_H), K4 x1 x2 x3 S → ri_A E 64 (190, 4, [some (.ref 50), some (.int x1), some (.int x2), some (.int x3)], []) S (Qi Q)) (x1 : Int32) (x3 : Int32) (s0 : Int32) (s1 : Int32) (S : ri_H) (h : w190_b28  K4 Q x1 x3 s0 s1 S) : ri_A E 64 (190, 28, [some (.ref 50), some (.int x1), none, some (.int x3)], [.int s0, .int s1]) S (Qi Q) := by
  unfold w190_b28 at h
  refine A_nx 6 (fr' := (190, 4, [some (.ref 50), some (.int x1), some (.int (s1 ||| (s0 <<< (x3 &&& 31)))), some (.int (x3 + (1 : Int32)))], [])) (S' := S) rfl ?_
  refine ri_A.less (m := 190) (pc := 4) (L := [some (.ref 50), some (.int x1), some (.int (s1 ||| (s0 <<< (x3 &&& 31)))), some (.int (x3 + (1 : Int32)))]) (L' := [some (.ref 50), some (.int x1), some (.int (s1 ||| (s0 <<< (x3 &&& 31)))), some (.int (x3 + (1 : Int32)))]) (st := []) ⟨rfl, ⟨rfl, ⟨rfl, ⟨rfl, trivial⟩⟩⟩⟩ ?_
  exact hK4 _ _ _ _ h
def w190_l4 (Q : Int32 → ri_H → Prop) : Nat → Int32 → Int32 → Int32 → ri_H → Prop
  | 0, _, _, _, _ => False
  | n + 1, x1, x2, x3, S => (((S.1 50 11) ≤ x3 → Q x2 S) ∧ (¬ (S.1 50 11) ≤ x3 → w189 x1 x3 S (fun (r2 : Int32) (S1 : ri_H) => ((¬ r2 = (-1 : Int32) → w190_b28  (fun x1 x2 x3 S => w190_l4   Q n x1 x2 x3 S) Q x1 x3 (0 : Int32) x2 S1) ∧ (¬ (¬ r2 = (-1 : Int32)) → w190_b28  (fun x1 x2 x3 S => w190_l4   Q n x1 x2 x3 S) Q x1 x3 (1 : Int32) x2 S1)))))
set_option maxRecDepth 10000 in
set_option maxHeartbeats 1000000 in
theorem wt190_l4 {E : ri_E} {Q : Int32 → ri_H → Prop} : ∀ (n : Nat) (x1 : Int32) (x2 : Int32) (x3 : Int32) (S : ri_H), w190_l4   Q n x1 x2 x3 S → ri_A E 64 (190, 4, [some (.ref 50), some (.int x1), some (.int x2), some (.int x3)], []) S (Qi Q) := by
  intro n
  induction n with
  | zero => intro x1 x2 x3 S h; exact h.elim
  | succ n ih =>
    intro x1 x2 x3 S h
    unfold w190_l4 at h
    refine A_br ((S.1 50 11) ≤ x3) (r1 := ((190, 38, [some (.ref 50), some (.int x1), some (.int x2), some (.int x3)], []), S)) (r2 := ((190, 12, [some (.ref 50), some (.int x1), some (.int x2), some (.int x3)], []), S)) 4 rfl (fun c => ?_) (fun c => ?_)
    · have h := h.1 c
      exact A_ret 2 (m := 190) (v := some (.int x2)) (S' := S) rfl rfl ⟨_, rfl, h⟩
    · have h := h.2 c
      refine A_call (j := 189) (As := [.ref 50, .int x1, .int x3]) (fr' := (190, 19, [some (.ref 50), some (.int x1), some (.int x2), some (.int x3)], [.int x2])) (S' := S) 5 rfl (e := 63) (by omega) (A_imp (wt189 x1 x3 h) (fun v S1 hq => ?_))
      obtain ⟨r2, hv, h⟩ := hq
      subst hv
      refine A_br (¬ r2 = (-1 : Int32)) (r1 := ((190, 27, [some (.ref 50), some (.int x1), some (.int x2), some (.int x3)], [.int x2]), S1)) (r2 := ((190, 23, [some (.ref 50), some (.int x1), some (.int x2), some (.int x3)], [.int x2]), S1)) 2 rfl (fun c => ?_) (fun c => ?_)
      · have h := h.1 c
        refine A_nx 1 (fr' := (190, 28, [some (.ref 50), some (.int x1), some (.int x2), some (.int x3)], [.int (0 : Int32), .int x2])) (S' := S1) rfl ?_
        refine ri_A.less (m := 190) (pc := 28) (L := [some (.ref 50), some (.int x1), some (.int x2), some (.int x3)]) (L' := [some (.ref 50), some (.int x1), none, some (.int x3)]) (st := [.int (0 : Int32), .int x2]) ⟨rfl, ⟨rfl, ⟨rfl, trivial⟩⟩⟩ ?_
        exact wt190_b28  (fun x1 x2 x3 S hk => ih x1 x2 x3 S hk) _ _ _ _ _ h
      · have h := h.2 c
        refine A_nx 2 (fr' := (190, 28, [some (.ref 50), some (.int x1), some (.int x2), some (.int x3)], [.int (1 : Int32), .int x2])) (S' := S1) rfl ?_
        refine ri_A.less (m := 190) (pc := 28) (L := [some (.ref 50), some (.int x1), some (.int x2), some (.int x3)]) (L' := [some (.ref 50), some (.int x1), none, some (.int x3)]) (st := [.int (1 : Int32), .int x2]) ⟨rfl, ⟨rfl, ⟨rfl, trivial⟩⟩⟩ ?_
        exact wt190_b28  (fun x1 x2 x3 S hk => ih x1 x2 x3 S hk) _ _ _ _ _ h
def w190 (a : Int32) (S : ri_H) (Q : Int32 → ri_H → Prop) : Prop := ∃ nn, w190_l4   Q nn a (0 : Int32) (0 : Int32) S
set_option maxRecDepth 10000 in
set_option maxHeartbeats 1000000 in
theorem wt190 {E : ri_E} (a : Int32) {S : ri_H} {Q : Int32 → ri_H → Prop} (h : w190  a S Q) : ri_A E 64 (ri_en 190 [.ref 50, .int a]) S (Qi Q) := by
  unfold w190 at h
  show ri_A E 64 (190, 0, [some (.ref 50), some (.int a), none, none], []) S (Qi Q)
  refine A_nx 4 (fr' := (190, 4, [some (.ref 50), some (.int a), some (.int (0 : Int32)), some (.int (0 : Int32))], [])) (S' := S) rfl ?_
  refine ri_A.less (m := 190) (pc := 4) (L := [some (.ref 50), some (.int a), some (.int (0 : Int32)), some (.int (0 : Int32))]) (L' := [some (.ref 50), some (.int a), some (.int (0 : Int32)), some (.int (0 : Int32))]) (st := []) ⟨rfl, ⟨rfl, ⟨rfl, ⟨rfl, trivial⟩⟩⟩⟩ ?_
  obtain ⟨nn, h⟩ := h
  exact wt190_l4   nn _ _ _ _ h
/-! X5_isSheet, depth 1 -/
def w199 (a : Int32) (S : ri_H) (Q : Int32 → ri_H → Prop) : Prop := w102 (a).toInt64 (0 : Int64) (3 : Int64) S (fun (r2 : Int32) (S1 : ri_H) => ((r2 = 0 ∨ r2 = 1) ∧ Q r2 S1))
set_option maxRecDepth 10000 in
set_option maxHeartbeats 1000000 in
theorem wt199 {E : ri_E} (a : Int32) {S : ri_H} {Q : Int32 → ri_H → Prop} (h : w199  a S Q) : ri_A E 1 (ri_en 199 [.int a]) S (Qi Q) := by
  unfold w199 at h
  show ri_A E 1 (199, 0, [some (.int a)], []) S (Qi Q)
  refine A_call (j := 102) (As := [.long (a).toInt64, .long (0 : Int64), .long (3 : Int64)]) (fr' := (199, 9, [some (.int a)], [])) (S' := S) 5 rfl (e := 0) (by omega) (A_imp (wt102 (a).toInt64 (0 : Int64) (3 : Int64) h) (fun v S1 hq => ?_))
  obtain ⟨r2, hv, h⟩ := hq
  subst hv
  exact A_ret 1 (m := 199) (v := some (.int r2)) (S' := S1) rfl (by rcases h.1 with c | c <;> rw [c] <;> rfl) ⟨_, rfl, h.2⟩
/-! X5_tells, depth 65 -/
def w191_b69 (Q : Int32 → ri_H → Prop) (x1 : Int32) (x2 : Int32) (x3 : Int32) (S : ri_H) : Prop := ((¬ x3 = 0 → w190 x1 S (fun (r8 : Int32) (S7 : ri_H) => Q r8 S7)) ∧ (¬ (¬ x3 = 0) → w189 x1 x2 S (fun (r10 : Int32) (S9 : ri_H) => Q r10 S9)))
set_option maxRecDepth 10000 in
set_option maxHeartbeats 1000000 in
theorem wt191_b69 {E : ri_E} {Q : Int32 → ri_H → Prop} (x1 : Int32) (x2 : Int32) (x3 : Int32) (S : ri_H) (h : w191_b69   Q x1 x2 x3 S) : ri_A E 65 (191, 69, [some (.ref 50), some (.int x1), some (.int x2), some (.int x3), none, none, none, none, none, none, none], []) S (Qi Q) := by
  unfold w191_b69 at h
  refine A_br (¬ x3 = 0) (r1 := ((191, 82, [some (.ref 50), some (.int x1), some (.int x2), some (.int x3), none, none, none, none, none, none, none], []), S)) (r2 := ((191, 73, [some (.ref 50), some (.int x1), some (.int x2), some (.int x3), none, none, none, none, none, none, none], []), S)) 2 rfl (fun c => ?_) (fun c => ?_)
  · have h := h.1 c
    refine A_call (j := 190) (As := [.ref 50, .int x1]) (fr' := (191, 87, [some (.ref 50), some (.int x1), some (.int x2), some (.int x3), none, none, none, none, none, none, none], [])) (S' := S) 3 rfl (e := 64) (by omega) (A_imp (wt190 x1 h) (fun v S7 hq => ?_))
    obtain ⟨r8, hv, h⟩ := hq
    subst hv
    exact A_ret 1 (m := 191) (v := some (.int r8)) (S' := S7) rfl rfl ⟨_, rfl, h⟩
  · have h := h.2 c
    refine A_call (j := 189) (As := [.ref 50, .int x1, .int x2]) (fr' := (191, 79, [some (.ref 50), some (.int x1), some (.int x2), some (.int x3), none, none, none, none, none, none, none], [])) (S' := S) 4 rfl (e := 63) (by omega) (A_imp (wt189 x1 x2 h) (fun v S9 hq => ?_))
    obtain ⟨r10, hv, h⟩ := hq
    subst hv
    exact A_ret 2 (m := 191) (v := some (.int r10)) (S' := S9) rfl rfl ⟨_, rfl, h⟩
def w191_b289 (K220 : Int32 → Int32 → Int32 → Int32 → Int32 → Int32 → Int32 → Int32 → Int32 → ri_H → Prop) (Q : Int32 → ri_H → Prop) (x1 : Int32) (x2 : Int32) (x3 : Int32) (x4 : Int32) (x5 : Int32) (x7 : Int32) (x8 : Int32) (x9 : Int32) (x10 : Int32) (S : ri_H) : Prop := K220 x1 x2 x3 x4 x5 x7 x8 x9 (x10 + (-1 : Int32)) S
set_option maxRecDepth 10000 in
set_option maxHeartbeats 1000000 in
theorem wt191_b289 {E : ri_E} {K220 : Int32 → Int32 → Int32 → Int32 → Int32 → Int32 → Int32 → Int32 → Int32 → ri_H → Prop} {Q : Int32 → ri_H → Prop} (hK220 : ∀ (x1 : Int32) (x2 : Int32) (x3 : Int32) (x4 : Int32) (x5 : Int32) (x7 : Int32) (x8 : Int32) (x9 : Int32) (x10 : Int32) (S : ri_H), K220 x1 x2 x3 x4 x5 x7 x8 x9 x10 S → ri_A E 65 (191, 220, [some (.ref 50), some (.int x1), some (.int x2), some (.int x3), some (.int x4), some (.int x5), none, some (.int x7), some (.int x8), some (.int x9), some (.int x10)], []) S (Qi Q)) (x1 : Int32) (x2 : Int32) (x3 : Int32) (x4 : Int32) (x5 : Int32) (x7 : Int32) (x8 : Int32) (x9 : Int32) (x10 : Int32) (S : ri_H) (h : w191_b289  K220 Q x1 x2 x3 x4 x5 x7 x8 x9 x10 S) : ri_A E 65 (191, 289, [some (.ref 50), some (.int x1), some (.int x2), some (.int x3), some (.int x4), some (.int x5), none, some (.int x7), some (.int x8), some (.int x9), some (.int x10)], []) S (Qi Q) := by
  unfold w191_b289 at h
  refine A_nx 2 (fr' := (191, 220, [some (.ref 50), some (.int x1), some (.int x2), some (.int x3), some (.int x4), some (.int x5), none, some (.int x7), some (.int x8), some (.int x9), some (.int (x10 + (-1 : Int32)))], [])) (S' := S) rfl ?_
  refine ri_A.less (m := 191) (pc := 220) (L := [some (.ref 50), some (.int x1), some (.int x2), some (.int x3), some (.int x4), some (.int x5), none, some (.int x7), some (.int x8), some (.int x9), some (.int (x10 + (-1 : Int32)))]) (L' := [some (.ref 50), some (.int x1), some (.int x2), some (.int x3), some (.int x4), some (.int x5), none, some (.int x7), some (.int x8), some (.int x9), some (.int (x10 + (-1 : Int32)))]) (st := []) ⟨rfl, ⟨rfl, ⟨rfl, ⟨rfl, ⟨rfl, ⟨rfl, ⟨rfl, ⟨rfl, ⟨rfl, ⟨rfl, trivial⟩⟩⟩⟩⟩⟩⟩⟩⟩⟩ ?_
  exact hK220 _ _ _ _ _ _ _ _ _ _ h
def w191_b279 (K220 : Int32 → Int32 → Int32 → Int32 → Int32 → Int32 → Int32 → Int32 → Int32 → ri_H → Prop) (Q : Int32 → ri_H → Prop) (x1 : Int32) (x2 : Int32) (x3 : Int32) (x4 : Int32) (x5 : Int32) (x8 : Int32) (x10 : Int32) (s0 : Int32) (s1 : Int32) (S : ri_H) : Prop := w191_b289  K220 Q x1 x2 x3 x4 x5 (s1 ||| s0) (x8 + (1 : Int32)) x10 x10 S
set_option maxRecDepth 10000 in
set_option maxHeartbeats 1000000 in
theorem wt191_b279 {E : ri_E} {K220 : Int32 → Int32 → Int32 → Int32 → Int32 → Int32 → Int32 → Int32 → Int32 → ri_H → Prop} {Q : Int32 → ri_H → Prop} (hK220 : ∀ (x1 : Int32) (x2 : Int32) (x3 : Int32) (x4 : Int32) (x5 : Int32) (x7 : Int32) (x8 : Int32) (x9 : Int32) (x10 : Int32) (S : ri_H), K220 x1 x2 x3 x4 x5 x7 x8 x9 x10 S → ri_A E 65 (191, 220, [some (.ref 50), some (.int x1), some (.int x2), some (.int x3), some (.int x4), some (.int x5), none, some (.int x7), some (.int x8), some (.int x9), some (.int x10)], []) S (Qi Q)) (x1 : Int32) (x2 : Int32) (x3 : Int32) (x4 : Int32) (x5 : Int32) (x8 : Int32) (x10 : Int32) (s0 : Int32) (s1 : Int32) (S : ri_H) (h : w191_b279  K220 Q x1 x2 x3 x4 x5 x8 x10 s0 s1 S) : ri_A E 65 (191, 279, [some (.ref 50), some (.int x1), some (.int x2), some (.int x3), some (.int x4), some (.int x5), none, none, some (.int x8), none, some (.int x10)], [.int s0, .int s1]) S (Qi Q) := by
  unfold w191_b279 at h
  refine A_nx 5 (fr' := (191, 289, [some (.ref 50), some (.int x1), some (.int x2), some (.int x3), some (.int x4), some (.int x5), none, some (.int (s1 ||| s0)), some (.int (x8 + (1 : Int32))), some (.int x10), some (.int x10)], [])) (S' := S) rfl ?_
  refine ri_A.less (m := 191) (pc := 289) (L := [some (.ref 50), some (.int x1), some (.int x2), some (.int x3), some (.int x4), some (.int x5), none, some (.int (s1 ||| s0)), some (.int (x8 + (1 : Int32))), some (.int x10), some (.int x10)]) (L' := [some (.ref 50), some (.int x1), some (.int x2), some (.int x3), some (.int x4), some (.int x5), none, some (.int (s1 ||| s0)), some (.int (x8 + (1 : Int32))), some (.int x10), some (.int x10)]) (st := []) ⟨rfl, ⟨rfl, ⟨rfl, ⟨rfl, ⟨rfl, ⟨rfl, ⟨rfl, ⟨rfl, ⟨rfl, ⟨rfl, trivial⟩⟩⟩⟩⟩⟩⟩⟩⟩⟩ ?_
  exact wt191_b289  hK220 _ _ _ _ _ _ _ _ _ _ h
def w191_b234 (K220 : Int32 → Int32 → Int32 → Int32 → Int32 → Int32 → Int32 → Int32 → Int32 → ri_H → Prop) (Q : Int32 → ri_H → Prop) (x1 : Int32) (x2 : Int32) (x3 : Int32) (x4 : Int32) (x5 : Int32) (x7 : Int32) (x8 : Int32) (x9 : Int32) (x10 : Int32) (s0 : Int32) (s1 : Int32) (S : ri_H) : Prop := ((s1 < s0 → w110 x4 x2 x5 S (fun (S13 : ri_H) => ((¬ x3 = (4 : Int32) → ((¬ x3 = (5 : Int32) → Q x7 S13) ∧ (¬ (¬ x3 = (5 : Int32)) → Q x9 S13))) ∧ (¬ (¬ x3 = (4 : Int32)) → Q x8 S13)))) ∧ (¬ (s1 < s0) → w110 x4 x2 x10 S (fun (S14 : ri_H) => w189 x1 x2 S14 (fun (r16 : Int32) (S15 : ri_H) => ((¬ r16 = (-1 : Int32) → w191_b289  K220 Q x1 x2 x3 x4 x5 x7 x8 x9 x10 S15) ∧ (¬ (¬ r16 = (-1 : Int32)) → w102 (x10).toInt64 (0 : Int64) (11 : Int64) S15 (fun (r18 : Int32) (S17 : ri_H) => ((r18 = 0 → w191_b279  K220 Q x1 x2 x3 x4 x5 x8 x10 (0 : Int32) x7 S17) ∧ (¬ (r18 = 0) → w191_b279  K220 Q x1 x2 x3 x4 x5 x8 x10 ((1 : Int32) <<< (x10 &&& 31)) x7 S17)))))))))
set_option maxRecDepth 10000 in
set_option maxHeartbeats 1000000 in
theorem wt191_b234 {E : ri_E} {K220 : Int32 → Int32 → Int32 → Int32 → Int32 → Int32 → Int32 → Int32 → Int32 → ri_H → Prop} {Q : Int32 → ri_H → Prop} (hK220 : ∀ (x1 : Int32) (x2 : Int32) (x3 : Int32) (x4 : Int32) (x5 : Int32) (x7 : Int32) (x8 : Int32) (x9 : Int32) (x10 : Int32) (S : ri_H), K220 x1 x2 x3 x4 x5 x7 x8 x9 x10 S → ri_A E 65 (191, 220, [some (.ref 50), some (.int x1), some (.int x2), some (.int x3), some (.int x4), some (.int x5), none, some (.int x7), some (.int x8), some (.int x9), some (.int x10)], []) S (Qi Q)) (x1 : Int32) (x2 : Int32) (x3 : Int32) (x4 : Int32) (x5 : Int32) (x7 : Int32) (x8 : Int32) (x9 : Int32) (x10 : Int32) (s0 : Int32) (s1 : Int32) (S : ri_H) (h : w191_b234  K220 Q x1 x2 x3 x4 x5 x7 x8 x9 x10 s0 s1 S) : ri_A E 65 (191, 234, [some (.ref 50), some (.int x1), some (.int x2), some (.int x3), some (.int x4), some (.int x5), none, some (.int x7), some (.int x8), some (.int x9), some (.int x10)], [.int s0, .int s1]) S (Qi Q) := by
  unfold w191_b234 at h
  refine A_br (s1 < s0) (r1 := ((191, 295, [some (.ref 50), some (.int x1), some (.int x2), some (.int x3), some (.int x4), some (.int x5), none, some (.int x7), some (.int x8), some (.int x9), some (.int x10)], []), S)) (r2 := ((191, 237, [some (.ref 50), some (.int x1), some (.int x2), some (.int x3), some (.int x4), some (.int x5), none, some (.int x7), some (.int x8), some (.int x9), some (.int x10)], []), S)) 1 rfl (fun c => ?_) (fun c => ?_)
  · have h := h.1 c
    refine A_call (j := 110) (As := [.ref 50, .int x4, .int x2, .int x5]) (fr' := (191, 304, [some (.ref 50), some (.int x1), some (.int x2), some (.int x3), some (.int x4), some (.int x5), none, some (.int x7), some (.int x8), some (.int x9), some (.int x10)], [])) (S' := S) 5 rfl (e := 0) (by omega) (A_imp (wt110 x4 x2 x5 h) (fun v S13 hq => ?_))
    obtain ⟨hv, h⟩ := hq
    subst hv
    refine A_br (¬ x3 = (4 : Int32)) (r1 := ((191, 314, [some (.ref 50), some (.int x1), some (.int x2), some (.int x3), some (.int x4), some (.int x5), none, some (.int x7), some (.int x8), some (.int x9), some (.int x10)], []), S13)) (r2 := ((191, 309, [some (.ref 50), some (.int x1), some (.int x2), some (.int x3), some (.int x4), some (.int x5), none, some (.int x7), some (.int x8), some (.int x9), some (.int x10)], []), S13)) 3 rfl (fun c => ?_) (fun c => ?_)
    · have h := h.1 c
      refine A_br (¬ x3 = (5 : Int32)) (r1 := ((191, 324, [some (.ref 50), some (.int x1), some (.int x2), some (.int x3), some (.int x4), some (.int x5), none, some (.int x7), some (.int x8), some (.int x9), some (.int x10)], []), S13)) (r2 := ((191, 319, [some (.ref 50), some (.int x1), some (.int x2), some (.int x3), some (.int x4), some (.int x5), none, some (.int x7), some (.int x8), some (.int x9), some (.int x10)], []), S13)) 3 rfl (fun c => ?_) (fun c => ?_)
      · have h := h.1 c
        exact A_ret 2 (m := 191) (v := some (.int x7)) (S' := S13) rfl rfl ⟨_, rfl, h⟩
      · have h := h.2 c
        exact A_ret 3 (m := 191) (v := some (.int x9)) (S' := S13) rfl rfl ⟨_, rfl, h⟩
    · have h := h.2 c
      exact A_ret 3 (m := 191) (v := some (.int x8)) (S' := S13) rfl rfl ⟨_, rfl, h⟩
  · have h := h.2 c
    refine A_call (j := 110) (As := [.ref 50, .int x4, .int x2, .int x10]) (fr' := (191, 246, [some (.ref 50), some (.int x1), some (.int x2), some (.int x3), some (.int x4), some (.int x5), none, some (.int x7), some (.int x8), some (.int x9), some (.int x10)], [])) (S' := S) 5 rfl (e := 0) (by omega) (A_imp (wt110 x4 x2 x10 h) (fun v S14 hq => ?_))
    obtain ⟨hv, h⟩ := hq
    subst hv
    refine A_call (j := 189) (As := [.ref 50, .int x1, .int x2]) (fr' := (191, 252, [some (.ref 50), some (.int x1), some (.int x2), some (.int x3), some (.int x4), some (.int x5), none, some (.int x7), some (.int x8), some (.int x9), some (.int x10)], [])) (S' := S14) 4 rfl (e := 63) (by omega) (A_imp (wt189 x1 x2 h) (fun v S15 hq => ?_))
    obtain ⟨r16, hv, h⟩ := hq
    subst hv
    refine A_br (¬ r16 = (-1 : Int32)) (r1 := ((191, 289, [some (.ref 50), some (.int x1), some (.int x2), some (.int x3), some (.int x4), some (.int x5), none, some (.int x7), some (.int x8), some (.int x9), some (.int x10)], []), S15)) (r2 := ((191, 256, [some (.ref 50), some (.int x1), some (.int x2), some (.int x3), some (.int x4), some (.int x5), none, some (.int x7), some (.int x8), some (.int x9), some (.int x10)], []), S15)) 2 rfl (fun c => ?_) (fun c => ?_)
    · have h := h.1 c
      refine ri_A.less (m := 191) (pc := 289) (L := [some (.ref 50), some (.int x1), some (.int x2), some (.int x3), some (.int x4), some (.int x5), none, some (.int x7), some (.int x8), some (.int x9), some (.int x10)]) (L' := [some (.ref 50), some (.int x1), some (.int x2), some (.int x3), some (.int x4), some (.int x5), none, some (.int x7), some (.int x8), some (.int x9), some (.int x10)]) (st := []) ⟨rfl, ⟨rfl, ⟨rfl, ⟨rfl, ⟨rfl, ⟨rfl, ⟨rfl, ⟨rfl, ⟨rfl, ⟨rfl, trivial⟩⟩⟩⟩⟩⟩⟩⟩⟩⟩ ?_
      exact wt191_b289  hK220 _ _ _ _ _ _ _ _ _ _ h
    · have h := h.2 c
      refine A_call (j := 102) (As := [.long (x10).toInt64, .long (0 : Int64), .long (11 : Int64)]) (fr' := (191, 268, [some (.ref 50), some (.int x1), some (.int x2), some (.int x3), some (.int x4), some (.int x5), none, some (.int x7), some (.int x8), some (.int x9), some (.int x10)], [.int x7])) (S' := S15) 6 rfl (e := 0) (by omega) (A_imp (wt102 (x10).toInt64 (0 : Int64) (11 : Int64) h) (fun v S17 hq => ?_))
      obtain ⟨r18, hv, h⟩ := hq
      subst hv
      refine A_br (r18 = 0) (r1 := ((191, 278, [some (.ref 50), some (.int x1), some (.int x2), some (.int x3), some (.int x4), some (.int x5), none, some (.int x7), some (.int x8), some (.int x9), some (.int x10)], [.int x7]), S17)) (r2 := ((191, 271, [some (.ref 50), some (.int x1), some (.int x2), some (.int x3), some (.int x4), some (.int x5), none, some (.int x7), some (.int x8), some (.int x9), some (.int x10)], [.int x7]), S17)) 1 rfl (fun c => ?_) (fun c => ?_)
      · have h := h.1 c
        refine A_nx 1 (fr' := (191, 279, [some (.ref 50), some (.int x1), some (.int x2), some (.int x3), some (.int x4), some (.int x5), none, some (.int x7), some (.int x8), some (.int x9), some (.int x10)], [.int (0 : Int32), .int x7])) (S' := S17) rfl ?_
        refine ri_A.less (m := 191) (pc := 279) (L := [some (.ref 50), some (.int x1), some (.int x2), some (.int x3), some (.int x4), some (.int x5), none, some (.int x7), some (.int x8), some (.int x9), some (.int x10)]) (L' := [some (.ref 50), some (.int x1), some (.int x2), some (.int x3), some (.int x4), some (.int x5), none, none, some (.int x8), none, some (.int x10)]) (st := [.int (0 : Int32), .int x7]) ⟨rfl, ⟨rfl, ⟨rfl, ⟨rfl, ⟨rfl, ⟨rfl, ⟨rfl, ⟨rfl, trivial⟩⟩⟩⟩⟩⟩⟩⟩ ?_
        exact wt191_b279  hK220 _ _ _ _ _ _ _ _ _ _ h
      · have h := h.2 c
        refine A_nx 4 (fr' := (191, 279, [some (.ref 50), some (.int x1), some (.int x2), some (.int x3), some (.int x4), some (.int x5), none, some (.int x7), some (.int x8), some (.int x9), some (.int x10)], [.int ((1 : Int32) <<< (x10 &&& 31)), .int x7])) (S' := S17) rfl ?_
        refine ri_A.less (m := 191) (pc := 279) (L := [some (.ref 50), some (.int x1), some (.int x2), some (.int x3), some (.int x4), some (.int x5), none, some (.int x7), some (.int x8), some (.int x9), some (.int x10)]) (L' := [some (.ref 50), some (.int x1), some (.int x2), some (.int x3), some (.int x4), some (.int x5), none, none, some (.int x8), none, some (.int x10)]) (st := [.int ((1 : Int32) <<< (x10 &&& 31)), .int x7]) ⟨rfl, ⟨rfl, ⟨rfl, ⟨rfl, ⟨rfl, ⟨rfl, ⟨rfl, ⟨rfl, trivial⟩⟩⟩⟩⟩⟩⟩⟩ ?_
        exact wt191_b279  hK220 _ _ _ _ _ _ _ _ _ _ h
def w191_l220 (Q : Int32 → ri_H → Prop) : Nat → Int32 → Int32 → Int32 → Int32 → Int32 → Int32 → Int32 → Int32 → Int32 → ri_H → Prop
  | 0, _, _, _, _, _, _, _, _, _, _ => False
  | n + 1, x1, x2, x3, x4, x5, x7, x8, x9, x10, S => ((¬ x4 = (5 : Int32) → w191_b234  (fun x1 x2 x3 x4 x5 x7 x8 x9 x10 S => w191_l220   Q n x1 x2 x3 x4 x5 x7 x8 x9 x10 S) Q x1 x2 x3 x4 x5 x7 x8 x9 x10 (0 : Int32) x10 S) ∧ (¬ (¬ x4 = (5 : Int32)) → w191_b234  (fun x1 x2 x3 x4 x5 x7 x8 x9 x10 S => w191_l220   Q n x1 x2 x3 x4 x5 x7 x8 x9 x10 S) Q x1 x2 x3 x4 x5 x7 x8 x9 x10 (-99 : Int32) x10 S))
set_option maxRecDepth 10000 in
set_option maxHeartbeats 1000000 in
theorem wt191_l220 {E : ri_E} {Q : Int32 → ri_H → Prop} : ∀ (n : Nat) (x1 : Int32) (x2 : Int32) (x3 : Int32) (x4 : Int32) (x5 : Int32) (x7 : Int32) (x8 : Int32) (x9 : Int32) (x10 : Int32) (S : ri_H), w191_l220   Q n x1 x2 x3 x4 x5 x7 x8 x9 x10 S → ri_A E 65 (191, 220, [some (.ref 50), some (.int x1), some (.int x2), some (.int x3), some (.int x4), some (.int x5), none, some (.int x7), some (.int x8), some (.int x9), some (.int x10)], []) S (Qi Q) := by
  intro n
  induction n with
  | zero => intro x1 x2 x3 x4 x5 x7 x8 x9 x10 S h; exact h.elim
  | succ n ih =>
    intro x1 x2 x3 x4 x5 x7 x8 x9 x10 S h
    unfold w191_l220 at h
    refine A_br (¬ x4 = (5 : Int32)) (r1 := ((191, 233, [some (.ref 50), some (.int x1), some (.int x2), some (.int x3), some (.int x4), some (.int x5), none, some (.int x7), some (.int x8), some (.int x9), some (.int x10)], [.int x10]), S)) (r2 := ((191, 228, [some (.ref 50), some (.int x1), some (.int x2), some (.int x3), some (.int x4), some (.int x5), none, some (.int x7), some (.int x8), some (.int x9), some (.int x10)], [.int x10]), S)) 4 rfl (fun c => ?_) (fun c => ?_)
    · have h := h.1 c
      refine A_nx 1 (fr' := (191, 234, [some (.ref 50), some (.int x1), some (.int x2), some (.int x3), some (.int x4), some (.int x5), none, some (.int x7), some (.int x8), some (.int x9), some (.int x10)], [.int (0 : Int32), .int x10])) (S' := S) rfl ?_
      refine ri_A.less (m := 191) (pc := 234) (L := [some (.ref 50), some (.int x1), some (.int x2), some (.int x3), some (.int x4), some (.int x5), none, some (.int x7), some (.int x8), some (.int x9), some (.int x10)]) (L' := [some (.ref 50), some (.int x1), some (.int x2), some (.int x3), some (.int x4), some (.int x5), none, some (.int x7), some (.int x8), some (.int x9), some (.int x10)]) (st := [.int (0 : Int32), .int x10]) ⟨rfl, ⟨rfl, ⟨rfl, ⟨rfl, ⟨rfl, ⟨rfl, ⟨rfl, ⟨rfl, ⟨rfl, ⟨rfl, trivial⟩⟩⟩⟩⟩⟩⟩⟩⟩⟩ ?_
      exact wt191_b234  (fun x1 x2 x3 x4 x5 x7 x8 x9 x10 S hk => ih x1 x2 x3 x4 x5 x7 x8 x9 x10 S hk) _ _ _ _ _ _ _ _ _ _ _ _ h
    · have h := h.2 c
      refine A_nx 2 (fr' := (191, 234, [some (.ref 50), some (.int x1), some (.int x2), some (.int x3), some (.int x4), some (.int x5), none, some (.int x7), some (.int x8), some (.int x9), some (.int x10)], [.int (-99 : Int32), .int x10])) (S' := S) rfl ?_
      refine ri_A.less (m := 191) (pc := 234) (L := [some (.ref 50), some (.int x1), some (.int x2), some (.int x3), some (.int x4), some (.int x5), none, some (.int x7), some (.int x8), some (.int x9), some (.int x10)]) (L' := [some (.ref 50), some (.int x1), some (.int x2), some (.int x3), some (.int x4), some (.int x5), none, some (.int x7), some (.int x8), some (.int x9), some (.int x10)]) (st := [.int (-99 : Int32), .int x10]) ⟨rfl, ⟨rfl, ⟨rfl, ⟨rfl, ⟨rfl, ⟨rfl, ⟨rfl, ⟨rfl, ⟨rfl, ⟨rfl, trivial⟩⟩⟩⟩⟩⟩⟩⟩⟩⟩ ?_
      exact wt191_b234  (fun x1 x2 x3 x4 x5 x7 x8 x9 x10 S hk => ih x1 x2 x3 x4 x5 x7 x8 x9 x10 S hk) _ _ _ _ _ _ _ _ _ _ _ _ h
def w191_b204 (Q : Int32 → ri_H → Prop) (x1 : Int32) (x2 : Int32) (x3 : Int32) (x4 : Int32) (x5 : Int32) (s0 : Int32) (S : ri_H) : Prop := ∃ nn, w191_l220   Q nn x1 x2 x3 x4 x5 (0 : Int32) (0 : Int32) (-100 : Int32) s0 S
set_option maxRecDepth 10000 in
set_option maxHeartbeats 1000000 in
theorem wt191_b204 {E : ri_E} {Q : Int32 → ri_H → Prop} (x1 : Int32) (x2 : Int32) (x3 : Int32) (x4 : Int32) (x5 : Int32) (s0 : Int32) (S : ri_H) (h : w191_b204   Q x1 x2 x3 x4 x5 s0 S) : ri_A E 65 (191, 204, [some (.ref 50), some (.int x1), some (.int x2), some (.int x3), some (.int x4), some (.int x5), none, none, none, none, none], [.int s0]) S (Qi Q) := by
  unfold w191_b204 at h
  refine A_nx 9 (fr' := (191, 220, [some (.ref 50), some (.int x1), some (.int x2), some (.int x3), some (.int x4), some (.int x5), some (.int s0), some (.int (0 : Int32)), some (.int (0 : Int32)), some (.int (-100 : Int32)), some (.int s0)], [])) (S' := S) rfl ?_
  refine ri_A.less (m := 191) (pc := 220) (L := [some (.ref 50), some (.int x1), some (.int x2), some (.int x3), some (.int x4), some (.int x5), some (.int s0), some (.int (0 : Int32)), some (.int (0 : Int32)), some (.int (-100 : Int32)), some (.int s0)]) (L' := [some (.ref 50), some (.int x1), some (.int x2), some (.int x3), some (.int x4), some (.int x5), none, some (.int (0 : Int32)), some (.int (0 : Int32)), some (.int (-100 : Int32)), some (.int s0)]) (st := []) ⟨rfl, ⟨rfl, ⟨rfl, ⟨rfl, ⟨rfl, ⟨rfl, ⟨rfl, ⟨rfl, ⟨rfl, ⟨rfl, trivial⟩⟩⟩⟩⟩⟩⟩⟩⟩⟩ ?_
  obtain ⟨nn, h⟩ := h
  exact wt191_l220   nn _ _ _ _ _ _ _ _ _ _ h
def w191_b151 (Q : Int32 → ri_H → Prop) (x1 : Int32) (x2 : Int32) (x3 : Int32) (x4 : Int32) (s0 : Int32) (S : ri_H) : Prop := ((¬ x4 = (8 : Int32) → ((¬ x4 = (7 : Int32) → ((¬ x4 = (3 : Int32) → ((¬ x4 = (4 : Int32) → w191_b204   Q x1 x2 x3 x4 s0 (99 : Int32) S) ∧ (¬ (¬ x4 = (4 : Int32)) → w191_b204   Q x1 x2 x3 x4 s0 (11 : Int32) S))) ∧ (¬ (¬ x4 = (3 : Int32)) → w191_b204   Q x1 x2 x3 x4 s0 (9 : Int32) S))) ∧ (¬ (¬ x4 = (7 : Int32)) → w191_b204   Q x1 x2 x3 x4 s0 (5 : Int32) S))) ∧ (¬ (¬ x4 = (8 : Int32)) → w191_b204   Q x1 x2 x3 x4 s0 ((S.1 50 3) - (1 : Int32)) S))
set_option maxRecDepth 10000 in
set_option maxHeartbeats 1000000 in
theorem wt191_b151 {E : ri_E} {Q : Int32 → ri_H → Prop} (x1 : Int32) (x2 : Int32) (x3 : Int32) (x4 : Int32) (s0 : Int32) (S : ri_H) (h : w191_b151   Q x1 x2 x3 x4 s0 S) : ri_A E 65 (191, 151, [some (.ref 50), some (.int x1), some (.int x2), some (.int x3), some (.int x4), none, none, none, none, none, none], [.int s0]) S (Qi Q) := by
  unfold w191_b151 at h
  refine A_br (¬ x4 = (8 : Int32)) (r1 := ((191, 169, [some (.ref 50), some (.int x1), some (.int x2), some (.int x3), some (.int x4), some (.int s0), none, none, none, none, none], []), S)) (r2 := ((191, 160, [some (.ref 50), some (.int x1), some (.int x2), some (.int x3), some (.int x4), some (.int s0), none, none, none, none, none], []), S)) 4 rfl (fun c => ?_) (fun c => ?_)
  · have h := h.1 c
    refine A_br (¬ x4 = (7 : Int32)) (r1 := ((191, 180, [some (.ref 50), some (.int x1), some (.int x2), some (.int x3), some (.int x4), some (.int s0), none, none, none, none, none], []), S)) (r2 := ((191, 176, [some (.ref 50), some (.int x1), some (.int x2), some (.int x3), some (.int x4), some (.int s0), none, none, none, none, none], []), S)) 3 rfl (fun c => ?_) (fun c => ?_)
    · have h := h.1 c
      refine A_br (¬ x4 = (3 : Int32)) (r1 := ((191, 191, [some (.ref 50), some (.int x1), some (.int x2), some (.int x3), some (.int x4), some (.int s0), none, none, none, none, none], []), S)) (r2 := ((191, 186, [some (.ref 50), some (.int x1), some (.int x2), some (.int x3), some (.int x4), some (.int s0), none, none, none, none, none], []), S)) 3 rfl (fun c => ?_) (fun c => ?_)
      · have h := h.1 c
        refine A_br (¬ x4 = (4 : Int32)) (r1 := ((191, 202, [some (.ref 50), some (.int x1), some (.int x2), some (.int x3), some (.int x4), some (.int s0), none, none, none, none, none], []), S)) (r2 := ((191, 197, [some (.ref 50), some (.int x1), some (.int x2), some (.int x3), some (.int x4), some (.int s0), none, none, none, none, none], []), S)) 3 rfl (fun c => ?_) (fun c => ?_)
        · have h := h.1 c
          refine A_nx 1 (fr' := (191, 204, [some (.ref 50), some (.int x1), some (.int x2), some (.int x3), some (.int x4), some (.int s0), none, none, none, none, none], [.int (99 : Int32)])) (S' := S) rfl ?_
          refine ri_A.less (m := 191) (pc := 204) (L := [some (.ref 50), some (.int x1), some (.int x2), some (.int x3), some (.int x4), some (.int s0), none, none, none, none, none]) (L' := [some (.ref 50), some (.int x1), some (.int x2), some (.int x3), some (.int x4), some (.int s0), none, none, none, none, none]) (st := [.int (99 : Int32)]) ⟨rfl, ⟨rfl, ⟨rfl, ⟨rfl, ⟨rfl, ⟨rfl, trivial⟩⟩⟩⟩⟩⟩ ?_
          exact wt191_b204   _ _ _ _ _ _ _ h
        · have h := h.2 c
          refine A_nx 2 (fr' := (191, 204, [some (.ref 50), some (.int x1), some (.int x2), some (.int x3), some (.int x4), some (.int s0), none, none, none, none, none], [.int (11 : Int32)])) (S' := S) rfl ?_
          refine ri_A.less (m := 191) (pc := 204) (L := [some (.ref 50), some (.int x1), some (.int x2), some (.int x3), some (.int x4), some (.int s0), none, none, none, none, none]) (L' := [some (.ref 50), some (.int x1), some (.int x2), some (.int x3), some (.int x4), some (.int s0), none, none, none, none, none]) (st := [.int (11 : Int32)]) ⟨rfl, ⟨rfl, ⟨rfl, ⟨rfl, ⟨rfl, ⟨rfl, trivial⟩⟩⟩⟩⟩⟩ ?_
          exact wt191_b204   _ _ _ _ _ _ _ h
      · have h := h.2 c
        refine A_nx 2 (fr' := (191, 204, [some (.ref 50), some (.int x1), some (.int x2), some (.int x3), some (.int x4), some (.int s0), none, none, none, none, none], [.int (9 : Int32)])) (S' := S) rfl ?_
        refine ri_A.less (m := 191) (pc := 204) (L := [some (.ref 50), some (.int x1), some (.int x2), some (.int x3), some (.int x4), some (.int s0), none, none, none, none, none]) (L' := [some (.ref 50), some (.int x1), some (.int x2), some (.int x3), some (.int x4), some (.int s0), none, none, none, none, none]) (st := [.int (9 : Int32)]) ⟨rfl, ⟨rfl, ⟨rfl, ⟨rfl, ⟨rfl, ⟨rfl, trivial⟩⟩⟩⟩⟩⟩ ?_
        exact wt191_b204   _ _ _ _ _ _ _ h
    · have h := h.2 c
      refine A_nx 2 (fr' := (191, 204, [some (.ref 50), some (.int x1), some (.int x2), some (.int x3), some (.int x4), some (.int s0), none, none, none, none, none], [.int (5 : Int32)])) (S' := S) rfl ?_
      refine ri_A.less (m := 191) (pc := 204) (L := [some (.ref 50), some (.int x1), some (.int x2), some (.int x3), some (.int x4), some (.int s0), none, none, none, none, none]) (L' := [some (.ref 50), some (.int x1), some (.int x2), some (.int x3), some (.int x4), some (.int s0), none, none, none, none, none]) (st := [.int (5 : Int32)]) ⟨rfl, ⟨rfl, ⟨rfl, ⟨rfl, ⟨rfl, ⟨rfl, trivial⟩⟩⟩⟩⟩⟩ ?_
      exact wt191_b204   _ _ _ _ _ _ _ h
  · have h := h.2 c
    refine A_nx 5 (fr' := (191, 204, [some (.ref 50), some (.int x1), some (.int x2), some (.int x3), some (.int x4), some (.int s0), none, none, none, none, none], [.int ((S.1 50 3) - (1 : Int32))])) (S' := S) rfl ?_
    refine ri_A.less (m := 191) (pc := 204) (L := [some (.ref 50), some (.int x1), some (.int x2), some (.int x3), some (.int x4), some (.int s0), none, none, none, none, none]) (L' := [some (.ref 50), some (.int x1), some (.int x2), some (.int x3), some (.int x4), some (.int s0), none, none, none, none, none]) (st := [.int ((S.1 50 3) - (1 : Int32))]) ⟨rfl, ⟨rfl, ⟨rfl, ⟨rfl, ⟨rfl, ⟨rfl, trivial⟩⟩⟩⟩⟩⟩ ?_
    exact wt191_b204   _ _ _ _ _ _ _ h
def w191_b128 (Q : Int32 → ri_H → Prop) (x1 : Int32) (x2 : Int32) (x3 : Int32) (s0 : Int32) (S : ri_H) : Prop := ((¬ s0 = (8 : Int32) → w112 x2 s0 S (fun (r12 : Int32) (S11 : ri_H) => w191_b151   Q x1 x2 x3 s0 r12 S11)) ∧ (¬ (¬ s0 = (8 : Int32)) → w191_b151   Q x1 x2 x3 s0 (S.1 50 4) S))
set_option maxRecDepth 10000 in
set_option maxHeartbeats 1000000 in
theorem wt191_b128 {E : ri_E} {Q : Int32 → ri_H → Prop} (x1 : Int32) (x2 : Int32) (x3 : Int32) (s0 : Int32) (S : ri_H) (h : w191_b128   Q x1 x2 x3 s0 S) : ri_A E 65 (191, 128, [some (.ref 50), some (.int x1), some (.int x2), some (.int x3), none, none, none, none, none, none, none], [.int s0]) S (Qi Q) := by
  unfold w191_b128 at h
  refine A_br (¬ s0 = (8 : Int32)) (r1 := ((191, 144, [some (.ref 50), some (.int x1), some (.int x2), some (.int x3), some (.int s0), none, none, none, none, none, none], []), S)) (r2 := ((191, 137, [some (.ref 50), some (.int x1), some (.int x2), some (.int x3), some (.int s0), none, none, none, none, none, none], []), S)) 4 rfl (fun c => ?_) (fun c => ?_)
  · have h := h.1 c
    refine A_call (j := 112) (As := [.ref 50, .int x2, .int s0]) (fr' := (191, 151, [some (.ref 50), some (.int x1), some (.int x2), some (.int x3), some (.int s0), none, none, none, none, none, none], [])) (S' := S) 4 rfl (e := 61) (by omega) (A_imp (wt112 x2 s0 h) (fun v S11 hq => ?_))
    obtain ⟨r12, hv, h⟩ := hq
    subst hv
    refine ri_A.less (m := 191) (pc := 151) (L := [some (.ref 50), some (.int x1), some (.int x2), some (.int x3), some (.int s0), none, none, none, none, none, none]) (L' := [some (.ref 50), some (.int x1), some (.int x2), some (.int x3), some (.int s0), none, none, none, none, none, none]) (st := [.int r12]) ⟨rfl, ⟨rfl, ⟨rfl, ⟨rfl, ⟨rfl, trivial⟩⟩⟩⟩⟩ ?_
    exact wt191_b151   _ _ _ _ _ _ h
  · have h := h.2 c
    refine A_nx 3 (fr' := (191, 151, [some (.ref 50), some (.int x1), some (.int x2), some (.int x3), some (.int s0), none, none, none, none, none, none], [.int (S.1 50 4)])) (S' := S) rfl ?_
    refine ri_A.less (m := 191) (pc := 151) (L := [some (.ref 50), some (.int x1), some (.int x2), some (.int x3), some (.int s0), none, none, none, none, none, none]) (L' := [some (.ref 50), some (.int x1), some (.int x2), some (.int x3), some (.int s0), none, none, none, none, none, none]) (st := [.int (S.1 50 4)]) ⟨rfl, ⟨rfl, ⟨rfl, ⟨rfl, ⟨rfl, trivial⟩⟩⟩⟩⟩ ?_
    exact wt191_b151   _ _ _ _ _ _ h
def w191 (a : Int32) (b : Int32) (g : Int32) (S : ri_H) (Q : Int32 → ri_H → Prop) : Prop := w199 a S (fun (r2 : Int32) (S1 : ri_H) => ((r2 = 0 → Q (-1002 : Int32) S1) ∧ (¬ (r2 = 0) → w104 b S1 (fun (r4 : Int32) (S3 : ri_H) => ((r4 = 0 → Q (-1002 : Int32) S3) ∧ (¬ (r4 = 0) → w102 (g).toInt64 (0 : Int64) (7 : Int64) S3 (fun (r6 : Int32) (S5 : ri_H) => ((¬ r6 = 0 → (vp_in a 4 ∧ ((¬ (S5.1 66 (a).toNatClampNeg) = 0 → (vp_in a 4 ∧ (((S5.1 68 (a).toNatClampNeg) ≤ (30 : Int32) → ((g = 0 → w191_b69   Q a b g S5) ∧ (¬ (g = 0) → ((¬ g = (7 : Int32) → ((¬ g = (1 : Int32) → ((¬ g = (2 : Int32) → ((¬ g = (3 : Int32) → ((¬ g = (6 : Int32) → w191_b128   Q a b g (5 : Int32) S5) ∧ (¬ (¬ g = (6 : Int32)) → w191_b128   Q a b g (8 : Int32) S5))) ∧ (¬ (¬ g = (3 : Int32)) → w191_b128   Q a b g (4 : Int32) S5))) ∧ (¬ (¬ g = (2 : Int32)) → w191_b128   Q a b g (3 : Int32) S5))) ∧ (¬ (¬ g = (1 : Int32)) → w191_b128   Q a b g (7 : Int32) S5))) ∧ (¬ (¬ g = (7 : Int32)) → w191_b69   Q a b g S5))))) ∧ (¬ (S5.1 68 (a).toNatClampNeg) ≤ (30 : Int32) → Q (-1003 : Int32) S5)))) ∧ (¬ (¬ (S5.1 66 (a).toNatClampNeg) = 0) → Q (-1011 : Int32) S5)))) ∧ (¬ (¬ r6 = 0) → Q (-1002 : Int32) S5)))))))))
set_option maxRecDepth 10000 in
set_option maxHeartbeats 1000000 in
theorem wt191 {E : ri_E} (a : Int32) (b : Int32) (g : Int32) {S : ri_H} {Q : Int32 → ri_H → Prop} (h : w191  a b g S Q) : ri_A E 65 (ri_en 191 [.ref 50, .int a, .int b, .int g]) S (Qi Q) := by
  unfold w191 at h
  show ri_A E 65 (191, 0, [some (.ref 50), some (.int a), some (.int b), some (.int g), none, none, none, none, none, none, none], []) S (Qi Q)
  refine A_call (j := 199) (As := [.int a]) (fr' := (191, 4, [some (.ref 50), some (.int a), some (.int b), some (.int g), none, none, none, none, none, none, none], [])) (S' := S) 2 rfl (e := 1) (by omega) (A_imp (wt199 a h) (fun v S1 hq => ?_))
  obtain ⟨r2, hv, h⟩ := hq
  subst hv
  refine A_br (r2 = 0) (r1 := ((191, 27, [some (.ref 50), some (.int a), some (.int b), some (.int g), none, none, none, none, none, none, none], []), S1)) (r2 := ((191, 7, [some (.ref 50), some (.int a), some (.int b), some (.int g), none, none, none, none, none, none, none], []), S1)) 1 rfl (fun c => ?_) (fun c => ?_)
  · have h := h.1 c
    exact A_ret 2 (m := 191) (v := some (.int (-1002 : Int32))) (S' := S1) rfl rfl ⟨_, rfl, h⟩
  · have h := h.2 c
    refine A_call (j := 104) (As := [.ref 50, .int b]) (fr' := (191, 12, [some (.ref 50), some (.int a), some (.int b), some (.int g), none, none, none, none, none, none, none], [])) (S' := S1) 3 rfl (e := 1) (by omega) (A_imp (wt104 b h) (fun v S3 hq => ?_))
    obtain ⟨r4, hv, h⟩ := hq
    subst hv
    refine A_br (r4 = 0) (r1 := ((191, 27, [some (.ref 50), some (.int a), some (.int b), some (.int g), none, none, none, none, none, none, none], []), S3)) (r2 := ((191, 15, [some (.ref 50), some (.int a), some (.int b), some (.int g), none, none, none, none, none, none, none], []), S3)) 1 rfl (fun c => ?_) (fun c => ?_)
    · have h := h.1 c
      exact A_ret 2 (m := 191) (v := some (.int (-1002 : Int32))) (S' := S3) rfl rfl ⟨_, rfl, h⟩
    · have h := h.2 c
      refine A_call (j := 102) (As := [.long (g).toInt64, .long (0 : Int64), .long (7 : Int64)]) (fr' := (191, 24, [some (.ref 50), some (.int a), some (.int b), some (.int g), none, none, none, none, none, none, none], [])) (S' := S3) 5 rfl (e := 0) (by omega) (A_imp (wt102 (g).toInt64 (0 : Int64) (7 : Int64) h) (fun v S5 hq => ?_))
      obtain ⟨r6, hv, h⟩ := hq
      subst hv
      refine A_br (¬ r6 = 0) (r1 := ((191, 31, [some (.ref 50), some (.int a), some (.int b), some (.int g), none, none, none, none, none, none, none], []), S5)) (r2 := ((191, 27, [some (.ref 50), some (.int a), some (.int b), some (.int g), none, none, none, none, none, none, none], []), S5)) 1 rfl (fun c => ?_) (fun c => ?_)
      · have h := h.1 c
        refine A_ix a 4 (r1 := ((191, 37, [some (.ref 50), some (.int a), some (.int b), some (.int g), none, none, none, none, none, none, none], [.int (S5.1 66 (a).toNatClampNeg)]), S5)) 4 rfl h.1 ?_
        have h := h.2
        refine A_br (¬ (S5.1 66 (a).toNatClampNeg) = 0) (r1 := ((191, 44, [some (.ref 50), some (.int a), some (.int b), some (.int g), none, none, none, none, none, none, none], []), S5)) (r2 := ((191, 40, [some (.ref 50), some (.int a), some (.int b), some (.int g), none, none, none, none, none, none, none], []), S5)) 1 rfl (fun c => ?_) (fun c => ?_)
        · have h := h.1 c
          refine A_ix a 4 (r1 := ((191, 50, [some (.ref 50), some (.int a), some (.int b), some (.int g), none, none, none, none, none, none, none], [.int (S5.1 68 (a).toNatClampNeg)]), S5)) 4 rfl h.1 ?_
          have h := h.2
          refine A_br ((S5.1 68 (a).toNatClampNeg) ≤ (30 : Int32)) (r1 := ((191, 59, [some (.ref 50), some (.int a), some (.int b), some (.int g), none, none, none, none, none, none, none], []), S5)) (r2 := ((191, 55, [some (.ref 50), some (.int a), some (.int b), some (.int g), none, none, none, none, none, none, none], []), S5)) 2 rfl (fun c => ?_) (fun c => ?_)
          · have h := h.1 c
            refine A_br (g = 0) (r1 := ((191, 69, [some (.ref 50), some (.int a), some (.int b), some (.int g), none, none, none, none, none, none, none], []), S5)) (r2 := ((191, 63, [some (.ref 50), some (.int a), some (.int b), some (.int g), none, none, none, none, none, none, none], []), S5)) 2 rfl (fun c => ?_) (fun c => ?_)
            · have h := h.1 c
              refine ri_A.less (m := 191) (pc := 69) (L := [some (.ref 50), some (.int a), some (.int b), some (.int g), none, none, none, none, none, none, none]) (L' := [some (.ref 50), some (.int a), some (.int b), some (.int g), none, none, none, none, none, none, none]) (st := []) ⟨rfl, ⟨rfl, ⟨rfl, ⟨rfl, trivial⟩⟩⟩⟩ ?_
              exact wt191_b69   _ _ _ _ h
            · have h := h.2 c
              refine A_br (¬ g = (7 : Int32)) (r1 := ((191, 88, [some (.ref 50), some (.int a), some (.int b), some (.int g), none, none, none, none, none, none, none], []), S5)) (r2 := ((191, 69, [some (.ref 50), some (.int a), some (.int b), some (.int g), none, none, none, none, none, none, none], []), S5)) 3 rfl (fun c => ?_) (fun c => ?_)
              · have h := h.1 c
                refine A_br (¬ g = (1 : Int32)) (r1 := ((191, 98, [some (.ref 50), some (.int a), some (.int b), some (.int g), none, none, none, none, none, none, none], []), S5)) (r2 := ((191, 93, [some (.ref 50), some (.int a), some (.int b), some (.int g), none, none, none, none, none, none, none], []), S5)) 3 rfl (fun c => ?_) (fun c => ?_)
                · have h := h.1 c
                  refine A_br (¬ g = (2 : Int32)) (r1 := ((191, 107, [some (.ref 50), some (.int a), some (.int b), some (.int g), none, none, none, none, none, none, none], []), S5)) (r2 := ((191, 103, [some (.ref 50), some (.int a), some (.int b), some (.int g), none, none, none, none, none, none, none], []), S5)) 3 rfl (fun c => ?_) (fun c => ?_)
                  · have h := h.1 c
                    refine A_br (¬ g = (3 : Int32)) (r1 := ((191, 116, [some (.ref 50), some (.int a), some (.int b), some (.int g), none, none, none, none, none, none, none], []), S5)) (r2 := ((191, 112, [some (.ref 50), some (.int a), some (.int b), some (.int g), none, none, none, none, none, none, none], []), S5)) 3 rfl (fun c => ?_) (fun c => ?_)
                    · have h := h.1 c
                      refine A_br (¬ g = (6 : Int32)) (r1 := ((191, 127, [some (.ref 50), some (.int a), some (.int b), some (.int g), none, none, none, none, none, none, none], []), S5)) (r2 := ((191, 122, [some (.ref 50), some (.int a), some (.int b), some (.int g), none, none, none, none, none, none, none], []), S5)) 3 rfl (fun c => ?_) (fun c => ?_)
                      · have h := h.1 c
                        refine A_nx 1 (fr' := (191, 128, [some (.ref 50), some (.int a), some (.int b), some (.int g), none, none, none, none, none, none, none], [.int (5 : Int32)])) (S' := S5) rfl ?_
                        refine ri_A.less (m := 191) (pc := 128) (L := [some (.ref 50), some (.int a), some (.int b), some (.int g), none, none, none, none, none, none, none]) (L' := [some (.ref 50), some (.int a), some (.int b), some (.int g), none, none, none, none, none, none, none]) (st := [.int (5 : Int32)]) ⟨rfl, ⟨rfl, ⟨rfl, ⟨rfl, trivial⟩⟩⟩⟩ ?_
                        exact wt191_b128   _ _ _ _ _ h
                      · have h := h.2 c
                        refine A_nx 2 (fr' := (191, 128, [some (.ref 50), some (.int a), some (.int b), some (.int g), none, none, none, none, none, none, none], [.int (8 : Int32)])) (S' := S5) rfl ?_
                        refine ri_A.less (m := 191) (pc := 128) (L := [some (.ref 50), some (.int a), some (.int b), some (.int g), none, none, none, none, none, none, none]) (L' := [some (.ref 50), some (.int a), some (.int b), some (.int g), none, none, none, none, none, none, none]) (st := [.int (8 : Int32)]) ⟨rfl, ⟨rfl, ⟨rfl, ⟨rfl, trivial⟩⟩⟩⟩ ?_
                        exact wt191_b128   _ _ _ _ _ h
                    · have h := h.2 c
                      refine A_nx 2 (fr' := (191, 128, [some (.ref 50), some (.int a), some (.int b), some (.int g), none, none, none, none, none, none, none], [.int (4 : Int32)])) (S' := S5) rfl ?_
                      refine ri_A.less (m := 191) (pc := 128) (L := [some (.ref 50), some (.int a), some (.int b), some (.int g), none, none, none, none, none, none, none]) (L' := [some (.ref 50), some (.int a), some (.int b), some (.int g), none, none, none, none, none, none, none]) (st := [.int (4 : Int32)]) ⟨rfl, ⟨rfl, ⟨rfl, ⟨rfl, trivial⟩⟩⟩⟩ ?_
                      exact wt191_b128   _ _ _ _ _ h
                  · have h := h.2 c
                    refine A_nx 2 (fr' := (191, 128, [some (.ref 50), some (.int a), some (.int b), some (.int g), none, none, none, none, none, none, none], [.int (3 : Int32)])) (S' := S5) rfl ?_
                    refine ri_A.less (m := 191) (pc := 128) (L := [some (.ref 50), some (.int a), some (.int b), some (.int g), none, none, none, none, none, none, none]) (L' := [some (.ref 50), some (.int a), some (.int b), some (.int g), none, none, none, none, none, none, none]) (st := [.int (3 : Int32)]) ⟨rfl, ⟨rfl, ⟨rfl, ⟨rfl, trivial⟩⟩⟩⟩ ?_
                    exact wt191_b128   _ _ _ _ _ h
                · have h := h.2 c
                  refine A_nx 2 (fr' := (191, 128, [some (.ref 50), some (.int a), some (.int b), some (.int g), none, none, none, none, none, none, none], [.int (7 : Int32)])) (S' := S5) rfl ?_
                  refine ri_A.less (m := 191) (pc := 128) (L := [some (.ref 50), some (.int a), some (.int b), some (.int g), none, none, none, none, none, none, none]) (L' := [some (.ref 50), some (.int a), some (.int b), some (.int g), none, none, none, none, none, none, none]) (st := [.int (7 : Int32)]) ⟨rfl, ⟨rfl, ⟨rfl, ⟨rfl, trivial⟩⟩⟩⟩ ?_
                  exact wt191_b128   _ _ _ _ _ h
              · have h := h.2 c
                refine ri_A.less (m := 191) (pc := 69) (L := [some (.ref 50), some (.int a), some (.int b), some (.int g), none, none, none, none, none, none, none]) (L' := [some (.ref 50), some (.int a), some (.int b), some (.int g), none, none, none, none, none, none, none]) (st := []) ⟨rfl, ⟨rfl, ⟨rfl, ⟨rfl, trivial⟩⟩⟩⟩ ?_
                exact wt191_b69   _ _ _ _ h
          · have h := h.2 c
            exact A_ret 2 (m := 191) (v := some (.int (-1003 : Int32))) (S' := S5) rfl rfl ⟨_, rfl, h⟩
        · have h := h.2 c
          exact A_ret 2 (m := 191) (v := some (.int (-1011 : Int32))) (S' := S5) rfl rfl ⟨_, rfl, h⟩
      · have h := h.2 c
        exact A_ret 2 (m := 191) (v := some (.int (-1002 : Int32))) (S' := S5) rfl rfl ⟨_, rfl, h⟩
/-! X5_sheet, depth 2 -/
def w200_l77 (Q : Int32 → ri_H → Prop) : Nat → Int32 → Int32 → Int32 → Int32 → ri_H → Prop
  | 0, _, _, _, _, _ => False
  | n + 1, x1, x2, x3, x4, S => ((x3 ≤ x4 → Q (1 : Int32) S) ∧ (¬ (x3 ≤ x4) → ((x2 < 0 → Q (1 : Int32) S) ∧ (¬ (x2 < 0) → (vp_in (((40 : Int32) * x1) + x4) 160 ∧ w200_l77   Q n x1 x2 x3 (x4 + (1 : Int32)) (ri_wi S 69 ((((40 : Int32) * x1) + x4)).toNatClampNeg (0 : Int32)))))))
set_option maxRecDepth 10000 in
set_option maxHeartbeats 1000000 in
theorem wt200_l77 {E : ri_E} {Q : Int32 → ri_H → Prop} : ∀ (n : Nat) (x1 : Int32) (x2 : Int32) (x3 : Int32) (x4 : Int32) (S : ri_H), w200_l77   Q n x1 x2 x3 x4 S → ri_A E 2 (200, 77, [some (.ref 50), some (.int x1), some (.int x2), some (.int x3), some (.int x4)], []) S (Qi Q) := by
  intro n
  induction n with
  | zero => intro x1 x2 x3 x4 S h; exact h.elim
  | succ n ih =>
    intro x1 x2 x3 x4 S h
    unfold w200_l77 at h
    refine A_br (x3 ≤ x4) (r1 := ((200, 106, [some (.ref 50), some (.int x1), some (.int x2), some (.int x3), some (.int x4)], []), S)) (r2 := ((200, 83, [some (.ref 50), some (.int x1), some (.int x2), some (.int x3), some (.int x4)], []), S)) 3 rfl (fun c => ?_) (fun c => ?_)
    · have h := h.1 c
      exact A_ret 2 (m := 200) (v := some (.int (1 : Int32))) (S' := S) rfl rfl ⟨_, rfl, h⟩
    · have h := h.2 c
      refine A_br (x2 < 0) (r1 := ((200, 106, [some (.ref 50), some (.int x1), some (.int x2), some (.int x3), some (.int x4)], []), S)) (r2 := ((200, 87, [some (.ref 50), some (.int x1), some (.int x2), some (.int x3), some (.int x4)], []), S)) 2 rfl (fun c => ?_) (fun c => ?_)
      · have h := h.1 c
        exact A_ret 2 (m := 200) (v := some (.int (1 : Int32))) (S' := S) rfl rfl ⟨_, rfl, h⟩
      · have h := h.2 c
        refine A_ix (((40 : Int32) * x1) + x4) 160 (r1 := ((200, 100, [some (.ref 50), some (.int x1), some (.int x2), some (.int x3), some (.int x4)], []), (ri_wi S 69 ((((40 : Int32) * x1) + x4)).toNatClampNeg (0 : Int32)))) 9 rfl h.1 ?_
        have h := h.2
        refine A_nx 2 (fr' := (200, 77, [some (.ref 50), some (.int x1), some (.int x2), some (.int x3), some (.int (x4 + (1 : Int32)))], [])) (S' := (ri_wi S 69 ((((40 : Int32) * x1) + x4)).toNatClampNeg (0 : Int32))) rfl ?_
        refine ri_A.less (m := 200) (pc := 77) (L := [some (.ref 50), some (.int x1), some (.int x2), some (.int x3), some (.int (x4 + (1 : Int32)))]) (L' := [some (.ref 50), some (.int x1), some (.int x2), some (.int x3), some (.int (x4 + (1 : Int32)))]) (st := []) ⟨rfl, ⟨rfl, ⟨rfl, ⟨rfl, ⟨rfl, trivial⟩⟩⟩⟩⟩ ?_
        exact ih _ _ _ _ _ h
def w200_b59 (Q : Int32 → ri_H → Prop) (x1 : Int32) (x2 : Int32) (x3 : Int32) (s0 : Int32) (s1 : Int32) (S : ri_H) : Prop := (vp_in s1 4 ∧ (vp_in x1 4 ∧ (vp_in x1 4 ∧ ∃ nn, w200_l77   Q nn x1 x2 x3 (0 : Int32) (ri_wi (ri_wi (ri_wi S 66 (s1).toNatClampNeg (vp_nar .boolean s0)) 67 (x1).toNatClampNeg x2) 68 (x1).toNatClampNeg x3))))
set_option maxRecDepth 10000 in
set_option maxHeartbeats 1000000 in
theorem wt200_b59 {E : ri_E} {Q : Int32 → ri_H → Prop} (x1 : Int32) (x2 : Int32) (x3 : Int32) (s0 : Int32) (s1 : Int32) (S : ri_H) (h : w200_b59   Q x1 x2 x3 s0 s1 S) : ri_A E 2 (200, 59, [some (.ref 50), some (.int x1), some (.int x2), some (.int x3), none], [.int s0, .int s1, .ref 66]) S (Qi Q) := by
  unfold w200_b59 at h
  refine A_ix s1 4 (r1 := ((200, 60, [some (.ref 50), some (.int x1), some (.int x2), some (.int x3), none], []), (ri_wi S 66 (s1).toNatClampNeg (vp_nar .boolean s0)))) 1 rfl h.1 ?_
  have h := h.2
  refine A_ix x1 4 (r1 := ((200, 67, [some (.ref 50), some (.int x1), some (.int x2), some (.int x3), none], []), (ri_wi (ri_wi S 66 (s1).toNatClampNeg (vp_nar .boolean s0)) 67 (x1).toNatClampNeg x2))) 5 rfl h.1 ?_
  have h := h.2
  refine A_ix x1 4 (r1 := ((200, 74, [some (.ref 50), some (.int x1), some (.int x2), some (.int x3), none], []), (ri_wi (ri_wi (ri_wi S 66 (s1).toNatClampNeg (vp_nar .boolean s0)) 67 (x1).toNatClampNeg x2) 68 (x1).toNatClampNeg x3))) 5 rfl h.1 ?_
  have h := h.2
  refine A_nx 2 (fr' := (200, 77, [some (.ref 50), some (.int x1), some (.int x2), some (.int x3), some (.int (0 : Int32))], [])) (S' := (ri_wi (ri_wi (ri_wi S 66 (s1).toNatClampNeg (vp_nar .boolean s0)) 67 (x1).toNatClampNeg x2) 68 (x1).toNatClampNeg x3)) rfl ?_
  refine ri_A.less (m := 200) (pc := 77) (L := [some (.ref 50), some (.int x1), some (.int x2), some (.int x3), some (.int (0 : Int32))]) (L' := [some (.ref 50), some (.int x1), some (.int x2), some (.int x3), some (.int (0 : Int32))]) (st := []) ⟨rfl, ⟨rfl, ⟨rfl, ⟨rfl, ⟨rfl, trivial⟩⟩⟩⟩⟩ ?_
  obtain ⟨nn, h⟩ := h
  exact wt200_l77   nn _ _ _ _ _ h
def w200_b45 (Q : Int32 → ri_H → Prop) (x1 : Int32) (x2 : Int32) (x3 : Int32) (S : ri_H) : Prop := ((x2 < 0 → w200_b59   Q x1 x2 x3 (0 : Int32) x1 S) ∧ (¬ (x2 < 0) → w200_b59   Q x1 x2 x3 (1 : Int32) x1 S))
set_option maxRecDepth 10000 in
set_option maxHeartbeats 1000000 in
theorem wt200_b45 {E : ri_E} {Q : Int32 → ri_H → Prop} (x1 : Int32) (x2 : Int32) (x3 : Int32) (S : ri_H) (h : w200_b45   Q x1 x2 x3 S) : ri_A E 2 (200, 45, [some (.ref 50), some (.int x1), some (.int x2), some (.int x3), none], []) S (Qi Q) := by
  unfold w200_b45 at h
  refine A_br (x2 < 0) (r1 := ((200, 58, [some (.ref 50), some (.int x1), some (.int x2), some (.int x3), none], [.int x1, .ref 66]), S)) (r2 := ((200, 54, [some (.ref 50), some (.int x1), some (.int x2), some (.int x3), none], [.int x1, .ref 66]), S)) 5 rfl (fun c => ?_) (fun c => ?_)
  · have h := h.1 c
    refine A_nx 1 (fr' := (200, 59, [some (.ref 50), some (.int x1), some (.int x2), some (.int x3), none], [.int (0 : Int32), .int x1, .ref 66])) (S' := S) rfl ?_
    refine ri_A.less (m := 200) (pc := 59) (L := [some (.ref 50), some (.int x1), some (.int x2), some (.int x3), none]) (L' := [some (.ref 50), some (.int x1), some (.int x2), some (.int x3), none]) (st := [.int (0 : Int32), .int x1, .ref 66]) ⟨rfl, ⟨rfl, ⟨rfl, ⟨rfl, trivial⟩⟩⟩⟩ ?_
    exact wt200_b59   _ _ _ _ _ _ h
  · have h := h.2 c
    refine A_nx 2 (fr' := (200, 59, [some (.ref 50), some (.int x1), some (.int x2), some (.int x3), none], [.int (1 : Int32), .int x1, .ref 66])) (S' := S) rfl ?_
    refine ri_A.less (m := 200) (pc := 59) (L := [some (.ref 50), some (.int x1), some (.int x2), some (.int x3), none]) (L' := [some (.ref 50), some (.int x1), some (.int x2), some (.int x3), none]) (st := [.int (1 : Int32), .int x1, .ref 66]) ⟨rfl, ⟨rfl, ⟨rfl, ⟨rfl, trivial⟩⟩⟩⟩ ?_
    exact wt200_b59   _ _ _ _ _ _ h
def w200_b34 (Q : Int32 → ri_H → Prop) (x1 : Int32) (x2 : Int32) (x3 : Int32) (S : ri_H) : Prop := ((x2 < 0 → w200_b45   Q x1 x2 x3 S) ∧ (¬ (x2 < 0) → ((0 ≤ x3 → w200_b45   Q x1 x2 x3 S) ∧ (¬ (0 ≤ x3) → Q (-14 : Int32) S))))
set_option maxRecDepth 10000 in
set_option maxHeartbeats 1000000 in
theorem wt200_b34 {E : ri_E} {Q : Int32 → ri_H → Prop} (x1 : Int32) (x2 : Int32) (x3 : Int32) (S : ri_H) (h : w200_b34   Q x1 x2 x3 S) : ri_A E 2 (200, 34, [some (.ref 50), some (.int x1), some (.int x2), some (.int x3), none], []) S (Qi Q) := by
  unfold w200_b34 at h
  refine A_br (x2 < 0) (r1 := ((200, 45, [some (.ref 50), some (.int x1), some (.int x2), some (.int x3), none], []), S)) (r2 := ((200, 38, [some (.ref 50), some (.int x1), some (.int x2), some (.int x3), none], []), S)) 2 rfl (fun c => ?_) (fun c => ?_)
  · have h := h.1 c
    refine ri_A.less (m := 200) (pc := 45) (L := [some (.ref 50), some (.int x1), some (.int x2), some (.int x3), none]) (L' := [some (.ref 50), some (.int x1), some (.int x2), some (.int x3), none]) (st := []) ⟨rfl, ⟨rfl, ⟨rfl, ⟨rfl, trivial⟩⟩⟩⟩ ?_
    exact wt200_b45   _ _ _ _ h
  · have h := h.2 c
    refine A_br (0 ≤ x3) (r1 := ((200, 45, [some (.ref 50), some (.int x1), some (.int x2), some (.int x3), none], []), S)) (r2 := ((200, 42, [some (.ref 50), some (.int x1), some (.int x2), some (.int x3), none], []), S)) 2 rfl (fun c => ?_) (fun c => ?_)
    · have h := h.1 c
      refine ri_A.less (m := 200) (pc := 45) (L := [some (.ref 50), some (.int x1), some (.int x2), some (.int x3), none]) (L' := [some (.ref 50), some (.int x1), some (.int x2), some (.int x3), none]) (st := []) ⟨rfl, ⟨rfl, ⟨rfl, ⟨rfl, trivial⟩⟩⟩⟩ ?_
      exact wt200_b45   _ _ _ _ h
    · have h := h.2 c
      exact A_ret 2 (m := 200) (v := some (.int (-14 : Int32))) (S' := S) rfl rfl ⟨_, rfl, h⟩
def w200 (a : Int32) (b : Int32) (g : Int32) (S : ri_H) (Q : Int32 → ri_H → Prop) : Prop := w199 a S (fun (r2 : Int32) (S1 : ri_H) => ((r2 = 0 → Q (-2 : Int32) S1) ∧ (¬ (r2 = 0) → w102 (b).toInt64 (-1 : Int64) (2 : Int64) S1 (fun (r4 : Int32) (S3 : ri_H) => ((r4 = 0 → Q (-2 : Int32) S3) ∧ (¬ (r4 = 0) → ((b < 0 → w200_b34   Q a b g S3) ∧ (¬ (b < 0) → ((g ≤ (40 : Int32) → w200_b34   Q a b g S3) ∧ (¬ (g ≤ (40 : Int32)) → Q (-2 : Int32) S3))))))))))
set_option maxRecDepth 10000 in
set_option maxHeartbeats 1000000 in
theorem wt200 {E : ri_E} (a : Int32) (b : Int32) (g : Int32) {S : ri_H} {Q : Int32 → ri_H → Prop} (h : w200  a b g S Q) : ri_A E 2 (ri_en 200 [.ref 50, .int a, .int b, .int g]) S (Qi Q) := by
  unfold w200 at h
  show ri_A E 2 (200, 0, [some (.ref 50), some (.int a), some (.int b), some (.int g), none], []) S (Qi Q)
  refine A_call (j := 199) (As := [.int a]) (fr' := (200, 4, [some (.ref 50), some (.int a), some (.int b), some (.int g), none], [])) (S' := S) 2 rfl (e := 1) (by omega) (A_imp (wt199 a h) (fun v S1 hq => ?_))
  obtain ⟨r2, hv, h⟩ := hq
  subst hv
  refine A_br (r2 = 0) (r1 := ((200, 31, [some (.ref 50), some (.int a), some (.int b), some (.int g), none], []), S1)) (r2 := ((200, 7, [some (.ref 50), some (.int a), some (.int b), some (.int g), none], []), S1)) 1 rfl (fun c => ?_) (fun c => ?_)
  · have h := h.1 c
    exact A_ret 2 (m := 200) (v := some (.int (-2 : Int32))) (S' := S1) rfl rfl ⟨_, rfl, h⟩
  · have h := h.2 c
    refine A_call (j := 102) (As := [.long (b).toInt64, .long (-1 : Int64), .long (2 : Int64)]) (fr' := (200, 18, [some (.ref 50), some (.int a), some (.int b), some (.int g), none], [])) (S' := S1) 5 rfl (e := 0) (by omega) (A_imp (wt102 (b).toInt64 (-1 : Int64) (2 : Int64) h) (fun v S3 hq => ?_))
    obtain ⟨r4, hv, h⟩ := hq
    subst hv
    refine A_br (r4 = 0) (r1 := ((200, 31, [some (.ref 50), some (.int a), some (.int b), some (.int g), none], []), S3)) (r2 := ((200, 21, [some (.ref 50), some (.int a), some (.int b), some (.int g), none], []), S3)) 1 rfl (fun c => ?_) (fun c => ?_)
    · have h := h.1 c
      exact A_ret 2 (m := 200) (v := some (.int (-2 : Int32))) (S' := S3) rfl rfl ⟨_, rfl, h⟩
    · have h := h.2 c
      refine A_br (b < 0) (r1 := ((200, 34, [some (.ref 50), some (.int a), some (.int b), some (.int g), none], []), S3)) (r2 := ((200, 25, [some (.ref 50), some (.int a), some (.int b), some (.int g), none], []), S3)) 2 rfl (fun c => ?_) (fun c => ?_)
      · have h := h.1 c
        refine ri_A.less (m := 200) (pc := 34) (L := [some (.ref 50), some (.int a), some (.int b), some (.int g), none]) (L' := [some (.ref 50), some (.int a), some (.int b), some (.int g), none]) (st := []) ⟨rfl, ⟨rfl, ⟨rfl, ⟨rfl, trivial⟩⟩⟩⟩ ?_
        exact wt200_b34   _ _ _ _ h
      · have h := h.2 c
        refine A_br (g ≤ (40 : Int32)) (r1 := ((200, 34, [some (.ref 50), some (.int a), some (.int b), some (.int g), none], []), S3)) (r2 := ((200, 31, [some (.ref 50), some (.int a), some (.int b), some (.int g), none], []), S3)) 3 rfl (fun c => ?_) (fun c => ?_)
        · have h := h.1 c
          refine ri_A.less (m := 200) (pc := 34) (L := [some (.ref 50), some (.int a), some (.int b), some (.int g), none]) (L' := [some (.ref 50), some (.int a), some (.int b), some (.int g), none]) (st := []) ⟨rfl, ⟨rfl, ⟨rfl, ⟨rfl, trivial⟩⟩⟩⟩ ?_
          exact wt200_b34   _ _ _ _ h
        · have h := h.2 c
          exact A_ret 2 (m := 200) (v := some (.int (-2 : Int32))) (S' := S3) rfl rfl ⟨_, rfl, h⟩
/-! X5_film, depth 63 -/
def w192_l45 (Q : Int32 → ri_H → Prop) : Nat → Int32 → Int32 → Int32 → Int32 → ri_H → Prop
  | 0, _, _, _, _, _ => False
  | n + 1, x1, x2, x3, x4, S => ((x3 ≤ x4 → w175  S (fun (S10 : ri_H) => Q x3 S10)) ∧ (¬ (x3 ≤ x4) → w171  S (fun (S11 : ri_H) => w114 x2 S11 (fun (r13 : Int32) (S12 : ri_H) => (vp_in (((40 : Int32) * x1) + x4) 160 ∧ w192_l45   Q n x1 x2 x3 (x4 + (1 : Int32)) (ri_wi S12 69 ((((40 : Int32) * x1) + x4)).toNatClampNeg r13))))))
set_option maxRecDepth 10000 in
set_option maxHeartbeats 1000000 in
theorem wt192_l45 {E : ri_E} {Q : Int32 → ri_H → Prop} : ∀ (n : Nat) (x1 : Int32) (x2 : Int32) (x3 : Int32) (x4 : Int32) (S : ri_H), w192_l45   Q n x1 x2 x3 x4 S → ri_A E 63 (192, 45, [some (.ref 50), some (.int x1), some (.int x2), some (.int x3), some (.int x4)], []) S (Qi Q) := by
  intro n
  induction n with
  | zero => intro x1 x2 x3 x4 S h; exact h.elim
  | succ n ih =>
    intro x1 x2 x3 x4 S h
    unfold w192_l45 at h
    refine A_br (x3 ≤ x4) (r1 := ((192, 78, [some (.ref 50), some (.int x1), some (.int x2), some (.int x3), some (.int x4)], []), S)) (r2 := ((192, 51, [some (.ref 50), some (.int x1), some (.int x2), some (.int x3), some (.int x4)], []), S)) 3 rfl (fun c => ?_) (fun c => ?_)
    · have h := h.1 c
      refine A_call (j := 175) (As := [.ref 50]) (fr' := (192, 82, [some (.ref 50), some (.int x1), some (.int x2), some (.int x3), some (.int x4)], [])) (S' := S) 2 rfl (e := 0) (by omega) (A_imp (wt175  h) (fun v S10 hq => ?_))
      obtain ⟨hv, h⟩ := hq
      subst hv
      exact A_ret 2 (m := 192) (v := some (.int x3)) (S' := S10) rfl rfl ⟨_, rfl, h⟩
    · have h := h.2 c
      refine A_call (j := 171) (As := [.ref 50]) (fr' := (192, 55, [some (.ref 50), some (.int x1), some (.int x2), some (.int x3), some (.int x4)], [])) (S' := S) 2 rfl (e := 62) (by omega) (A_imp (wt171  h) (fun v S11 hq => ?_))
      obtain ⟨hv, h⟩ := hq
      subst hv
      refine A_call (j := 114) (As := [.ref 50, .int x2]) (fr' := (192, 71, [some (.ref 50), some (.int x1), some (.int x2), some (.int x3), some (.int x4)], [.int (((40 : Int32) * x1) + x4), .ref 69])) (S' := S11) 10 rfl (e := 0) (by omega) (A_imp (wt114 x2 h) (fun v S12 hq => ?_))
      obtain ⟨r13, hv, h⟩ := hq
      subst hv
      refine A_ix (((40 : Int32) * x1) + x4) 160 (r1 := ((192, 72, [some (.ref 50), some (.int x1), some (.int x2), some (.int x3), some (.int x4)], []), (ri_wi S12 69 ((((40 : Int32) * x1) + x4)).toNatClampNeg r13))) 1 rfl h.1 ?_
      have h := h.2
      refine A_nx 2 (fr' := (192, 45, [some (.ref 50), some (.int x1), some (.int x2), some (.int x3), some (.int (x4 + (1 : Int32)))], [])) (S' := (ri_wi S12 69 ((((40 : Int32) * x1) + x4)).toNatClampNeg r13)) rfl ?_
      refine ri_A.less (m := 192) (pc := 45) (L := [some (.ref 50), some (.int x1), some (.int x2), some (.int x3), some (.int (x4 + (1 : Int32)))]) (L' := [some (.ref 50), some (.int x1), some (.int x2), some (.int x3), some (.int (x4 + (1 : Int32)))]) (st := []) ⟨rfl, ⟨rfl, ⟨rfl, ⟨rfl, ⟨rfl, trivial⟩⟩⟩⟩⟩ ?_
      exact ih _ _ _ _ _ h
def w192 (a : Int32) (b : Int32) (g : Int32) (S : ri_H) (Q : Int32 → ri_H → Prop) : Prop := w199 a S (fun (r2 : Int32) (S1 : ri_H) => ((r2 = 0 → Q (-2 : Int32) S1) ∧ (¬ (r2 = 0) → w104 b S1 (fun (r4 : Int32) (S3 : ri_H) => ((r4 = 0 → Q (-2 : Int32) S3) ∧ (¬ (r4 = 0) → w102 (g).toInt64 (0 : Int64) (30 : Int64) S3 (fun (r6 : Int32) (S5 : ri_H) => ((¬ r6 = 0 → w200 a (0 : Int32) g S5 (fun (r8 : Int32) (S7 : ri_H) => w174  S7 (fun (S9 : ri_H) => ∃ nn, w192_l45   Q nn a b g (0 : Int32) S9))) ∧ (¬ (¬ r6 = 0) → Q (-2 : Int32) S5)))))))))
set_option maxRecDepth 10000 in
set_option maxHeartbeats 1000000 in
theorem wt192 {E : ri_E} (a : Int32) (b : Int32) (g : Int32) {S : ri_H} {Q : Int32 → ri_H → Prop} (h : w192  a b g S Q) : ri_A E 63 (ri_en 192 [.ref 50, .int a, .int b, .int g]) S (Qi Q) := by
  unfold w192 at h
  show ri_A E 63 (192, 0, [some (.ref 50), some (.int a), some (.int b), some (.int g), none], []) S (Qi Q)
  refine A_call (j := 199) (As := [.int a]) (fr' := (192, 4, [some (.ref 50), some (.int a), some (.int b), some (.int g), none], [])) (S' := S) 2 rfl (e := 1) (by omega) (A_imp (wt199 a h) (fun v S1 hq => ?_))
  obtain ⟨r2, hv, h⟩ := hq
  subst hv
  refine A_br (r2 = 0) (r1 := ((192, 27, [some (.ref 50), some (.int a), some (.int b), some (.int g), none], []), S1)) (r2 := ((192, 7, [some (.ref 50), some (.int a), some (.int b), some (.int g), none], []), S1)) 1 rfl (fun c => ?_) (fun c => ?_)
  · have h := h.1 c
    exact A_ret 2 (m := 192) (v := some (.int (-2 : Int32))) (S' := S1) rfl rfl ⟨_, rfl, h⟩
  · have h := h.2 c
    refine A_call (j := 104) (As := [.ref 50, .int b]) (fr' := (192, 12, [some (.ref 50), some (.int a), some (.int b), some (.int g), none], [])) (S' := S1) 3 rfl (e := 1) (by omega) (A_imp (wt104 b h) (fun v S3 hq => ?_))
    obtain ⟨r4, hv, h⟩ := hq
    subst hv
    refine A_br (r4 = 0) (r1 := ((192, 27, [some (.ref 50), some (.int a), some (.int b), some (.int g), none], []), S3)) (r2 := ((192, 15, [some (.ref 50), some (.int a), some (.int b), some (.int g), none], []), S3)) 1 rfl (fun c => ?_) (fun c => ?_)
    · have h := h.1 c
      exact A_ret 2 (m := 192) (v := some (.int (-2 : Int32))) (S' := S3) rfl rfl ⟨_, rfl, h⟩
    · have h := h.2 c
      refine A_call (j := 102) (As := [.long (g).toInt64, .long (0 : Int64), .long (30 : Int64)]) (fr' := (192, 24, [some (.ref 50), some (.int a), some (.int b), some (.int g), none], [])) (S' := S3) 5 rfl (e := 0) (by omega) (A_imp (wt102 (g).toInt64 (0 : Int64) (30 : Int64) h) (fun v S5 hq => ?_))
      obtain ⟨r6, hv, h⟩ := hq
      subst hv
      refine A_br (¬ r6 = 0) (r1 := ((192, 30, [some (.ref 50), some (.int a), some (.int b), some (.int g), none], []), S5)) (r2 := ((192, 27, [some (.ref 50), some (.int a), some (.int b), some (.int g), none], []), S5)) 1 rfl (fun c => ?_) (fun c => ?_)
      · have h := h.1 c
        refine A_call (j := 200) (As := [.ref 50, .int a, .int (0 : Int32), .int g]) (fr' := (192, 37, [some (.ref 50), some (.int a), some (.int b), some (.int g), none], [])) (S' := S5) 5 rfl (e := 2) (by omega) (A_imp (wt200 a (0 : Int32) g h) (fun v S7 hq => ?_))
        obtain ⟨r8, hv, h⟩ := hq
        subst hv
        refine A_call (j := 174) (As := [.ref 50]) (fr' := (192, 42, [some (.ref 50), some (.int a), some (.int b), some (.int g), none], [])) (S' := S7) 3 rfl (e := 0) (by omega) (A_imp (wt174  h) (fun v S9 hq => ?_))
        obtain ⟨hv, h⟩ := hq
        subst hv
        refine A_nx 2 (fr' := (192, 45, [some (.ref 50), some (.int a), some (.int b), some (.int g), some (.int (0 : Int32))], [])) (S' := S9) rfl ?_
        refine ri_A.less (m := 192) (pc := 45) (L := [some (.ref 50), some (.int a), some (.int b), some (.int g), some (.int (0 : Int32))]) (L' := [some (.ref 50), some (.int a), some (.int b), some (.int g), some (.int (0 : Int32))]) (st := []) ⟨rfl, ⟨rfl, ⟨rfl, ⟨rfl, ⟨rfl, trivial⟩⟩⟩⟩⟩ ?_
        obtain ⟨nn, h⟩ := h
        exact wt192_l45   nn _ _ _ _ _ h
      · have h := h.2 c
        exact A_ret 2 (m := 192) (v := some (.int (-2 : Int32))) (S' := S5) rfl rfl ⟨_, rfl, h⟩
/-! X5_atDrawn, depth 1 -/
def w193_l13 (Q : Int32 → ri_H → Prop) : Nat → Int32 → Int32 → Int32 → Int32 → ri_H → Prop
  | 0, _, _, _, _, _ => False
  | n + 1, x3, x4, x5, x6, S => ((x3 ≤ x6 → Q x5 S) ∧ (¬ (x3 ≤ x6) → (vp_in (((2 : Int32) * x5) + (((((x4 * (1103515245 : Int32)) + (12345 : Int32))).toUInt32 >>> (((9 : Int32)).toUInt32 &&& Int32.toUInt32 31)).toInt32 - ((((x4 * (1103515245 : Int32)) + (12345 : Int32))).toUInt32 >>> (((9 : Int32)).toUInt32 &&& Int32.toUInt32 31)).toInt32 / (2 : Int32) * (2 : Int32))) 24 ∧ ∀ e3 : Int32, e3 = (S.1 54 ((((2 : Int32) * x5) + (((((x4 * (1103515245 : Int32)) + (12345 : Int32))).toUInt32 >>> (((9 : Int32)).toUInt32 &&& Int32.toUInt32 31)).toInt32 - ((((x4 * (1103515245 : Int32)) + (12345 : Int32))).toUInt32 >>> (((9 : Int32)).toUInt32 &&& Int32.toUInt32 31)).toInt32 / (2 : Int32) * (2 : Int32)))).toNatClampNeg) → w193_l13   Q n x3 ((x4 * (1103515245 : Int32)) + (12345 : Int32)) e3 (x6 + (1 : Int32)) S)))
set_option maxRecDepth 10000 in
set_option maxHeartbeats 1000000 in
theorem wt193_l13 {E : ri_E} {Q : Int32 → ri_H → Prop} : ∀ (n : Nat) (x3 : Int32) (x4 : Int32) (x5 : Int32) (x6 : Int32) (S : ri_H), w193_l13   Q n x3 x4 x5 x6 S → ri_A E 1 (193, 13, [some (.ref 50), none, none, some (.int x3), some (.int x4), some (.int x5), some (.int x6)], []) S (Qi Q) := by
  intro n
  induction n with
  | zero => intro x3 x4 x5 x6 S h; exact h.elim
  | succ n ih =>
    intro x3 x4 x5 x6 S h
    unfold w193_l13 at h
    refine A_br (x3 ≤ x6) (r1 := ((193, 56, [some (.ref 50), none, none, some (.int x3), some (.int x4), some (.int x5), some (.int x6)], []), S)) (r2 := ((193, 19, [some (.ref 50), none, none, some (.int x3), some (.int x4), some (.int x5), some (.int x6)], []), S)) 3 rfl (fun c => ?_) (fun c => ?_)
    · have h := h.1 c
      exact A_ret 2 (m := 193) (v := some (.int x5)) (S' := S) rfl rfl ⟨_, rfl, h⟩
    · have h := h.2 c
      refine A_gd (¬ (2 : Int32) = 0) (r1 := ((193, 46, [some (.ref 50), none, none, some (.int x3), some (.int ((x4 * (1103515245 : Int32)) + (12345 : Int32))), some (.int x5), some (.int x6)], [.int (((((x4 * (1103515245 : Int32)) + (12345 : Int32))).toUInt32 >>> (((9 : Int32)).toUInt32 &&& Int32.toUInt32 31)).toInt32 - ((((x4 * (1103515245 : Int32)) + (12345 : Int32))).toUInt32 >>> (((9 : Int32)).toUInt32 &&& Int32.toUInt32 31)).toInt32 / (2 : Int32) * (2 : Int32)), .int ((2 : Int32) * x5), .ref 54]), S)) 16 rfl (by decide) ?_
      refine A_ix (((2 : Int32) * x5) + (((((x4 * (1103515245 : Int32)) + (12345 : Int32))).toUInt32 >>> (((9 : Int32)).toUInt32 &&& Int32.toUInt32 31)).toInt32 - ((((x4 * (1103515245 : Int32)) + (12345 : Int32))).toUInt32 >>> (((9 : Int32)).toUInt32 &&& Int32.toUInt32 31)).toInt32 / (2 : Int32) * (2 : Int32))) 24 (r1 := ((193, 48, [some (.ref 50), none, none, some (.int x3), some (.int ((x4 * (1103515245 : Int32)) + (12345 : Int32))), some (.int x5), some (.int x6)], [.int (S.1 54 ((((2 : Int32) * x5) + (((((x4 * (1103515245 : Int32)) + (12345 : Int32))).toUInt32 >>> (((9 : Int32)).toUInt32 &&& Int32.toUInt32 31)).toInt32 - ((((x4 * (1103515245 : Int32)) + (12345 : Int32))).toUInt32 >>> (((9 : Int32)).toUInt32 &&& Int32.toUInt32 31)).toInt32 / (2 : Int32) * (2 : Int32)))).toNatClampNeg)]), S)) 2 rfl h.1 ?_
      have h := h.2
      have h := h _ rfl
      refine A_nx 3 (fr' := (193, 13, [some (.ref 50), none, none, some (.int x3), some (.int ((x4 * (1103515245 : Int32)) + (12345 : Int32))), some (.int (S.1 54 ((((2 : Int32) * x5) + (((((x4 * (1103515245 : Int32)) + (12345 : Int32))).toUInt32 >>> (((9 : Int32)).toUInt32 &&& Int32.toUInt32 31)).toInt32 - ((((x4 * (1103515245 : Int32)) + (12345 : Int32))).toUInt32 >>> (((9 : Int32)).toUInt32 &&& Int32.toUInt32 31)).toInt32 / (2 : Int32) * (2 : Int32)))).toNatClampNeg)), some (.int (x6 + (1 : Int32)))], [])) (S' := S) rfl ?_
      refine ri_A.less (m := 193) (pc := 13) (L := [some (.ref 50), none, none, some (.int x3), some (.int ((x4 * (1103515245 : Int32)) + (12345 : Int32))), some (.int (S.1 54 ((((2 : Int32) * x5) + (((((x4 * (1103515245 : Int32)) + (12345 : Int32))).toUInt32 >>> (((9 : Int32)).toUInt32 &&& Int32.toUInt32 31)).toInt32 - ((((x4 * (1103515245 : Int32)) + (12345 : Int32))).toUInt32 >>> (((9 : Int32)).toUInt32 &&& Int32.toUInt32 31)).toInt32 / (2 : Int32) * (2 : Int32)))).toNatClampNeg)), some (.int (x6 + (1 : Int32)))]) (L' := [some (.ref 50), none, none, some (.int x3), some (.int ((x4 * (1103515245 : Int32)) + (12345 : Int32))), some (.int (S.1 54 ((((2 : Int32) * x5) + (((((x4 * (1103515245 : Int32)) + (12345 : Int32))).toUInt32 >>> (((9 : Int32)).toUInt32 &&& Int32.toUInt32 31)).toInt32 - ((((x4 * (1103515245 : Int32)) + (12345 : Int32))).toUInt32 >>> (((9 : Int32)).toUInt32 &&& Int32.toUInt32 31)).toInt32 / (2 : Int32) * (2 : Int32)))).toNatClampNeg)), some (.int (x6 + (1 : Int32)))]) (st := []) ⟨rfl, ⟨rfl, ⟨rfl, ⟨rfl, ⟨rfl, trivial⟩⟩⟩⟩⟩ ?_
      exact ih _ _ _ _ _ h
def w193 (a : Int32) (b : Int32) (g : Int32) (S : ri_H) (Q : Int32 → ri_H → Prop) : Prop := w114 b S (fun (r2 : Int32) (S1 : ri_H) => ∃ nn, w193_l13   Q nn g a r2 (0 : Int32) S1)
set_option maxRecDepth 10000 in
set_option maxHeartbeats 1000000 in
theorem wt193 {E : ri_E} (a : Int32) (b : Int32) (g : Int32) {S : ri_H} {Q : Int32 → ri_H → Prop} (h : w193  a b g S Q) : ri_A E 1 (ri_en 193 [.ref 50, .int a, .int b, .int g]) S (Qi Q) := by
  unfold w193 at h
  show ri_A E 1 (193, 0, [some (.ref 50), some (.int a), some (.int b), some (.int g), none, none, none], []) S (Qi Q)
  refine A_call (j := 114) (As := [.ref 50, .int b]) (fr' := (193, 8, [some (.ref 50), some (.int a), some (.int b), some (.int g), some (.int a), none, none], [])) (S' := S) 5 rfl (e := 0) (by omega) (A_imp (wt114 b h) (fun v S1 hq => ?_))
  obtain ⟨r2, hv, h⟩ := hq
  subst hv
  refine A_nx 3 (fr' := (193, 13, [some (.ref 50), some (.int a), some (.int b), some (.int g), some (.int a), some (.int r2), some (.int (0 : Int32))], [])) (S' := S1) rfl ?_
  refine ri_A.less (m := 193) (pc := 13) (L := [some (.ref 50), some (.int a), some (.int b), some (.int g), some (.int a), some (.int r2), some (.int (0 : Int32))]) (L' := [some (.ref 50), none, none, some (.int g), some (.int a), some (.int r2), some (.int (0 : Int32))]) (st := []) ⟨rfl, ⟨rfl, ⟨rfl, ⟨rfl, ⟨rfl, trivial⟩⟩⟩⟩⟩ ?_
  obtain ⟨nn, h⟩ := h
  exact wt193_l13   nn _ _ _ _ _ h
/-! X5_drawn, depth 2 -/
def w194 (a : Int32) (b : Int32) (g : Int32) (S : ri_H) (Q : Int32 → ri_H → Prop) : Prop := w104 b S (fun (r2 : Int32) (S1 : ri_H) => ((r2 = 0 → Q (-2 : Int32) S1) ∧ (¬ (r2 = 0) → w102 (g).toInt64 (0 : Int64) (40 : Int64) S1 (fun (r4 : Int32) (S3 : ri_H) => ((r4 = 0 → Q (-2 : Int32) S3) ∧ (¬ (r4 = 0) → w193 a b g S3 (fun (r6 : Int32) (S5 : ri_H) => Q r6 S5)))))))
set_option maxRecDepth 10000 in
set_option maxHeartbeats 1000000 in
theorem wt194 {E : ri_E} (a : Int32) (b : Int32) (g : Int32) {S : ri_H} {Q : Int32 → ri_H → Prop} (h : w194  a b g S Q) : ri_A E 2 (ri_en 194 [.ref 50, .int a, .int b, .int g]) S (Qi Q) := by
  unfold w194 at h
  show ri_A E 2 (194, 0, [some (.ref 50), some (.int a), some (.int b), some (.int g)], []) S (Qi Q)
  refine A_call (j := 104) (As := [.ref 50, .int b]) (fr' := (194, 5, [some (.ref 50), some (.int a), some (.int b), some (.int g)], [])) (S' := S) 3 rfl (e := 1) (by omega) (A_imp (wt104 b h) (fun v S1 hq => ?_))
  obtain ⟨r2, hv, h⟩ := hq
  subst hv
  refine A_br (r2 = 0) (r1 := ((194, 30, [some (.ref 50), some (.int a), some (.int b), some (.int g)], []), S1)) (r2 := ((194, 8, [some (.ref 50), some (.int a), some (.int b), some (.int g)], []), S1)) 1 rfl (fun c => ?_) (fun c => ?_)
  · have h := h.1 c
    exact A_ret 2 (m := 194) (v := some (.int (-2 : Int32))) (S' := S1) rfl rfl ⟨_, rfl, h⟩
  · have h := h.2 c
    refine A_call (j := 102) (As := [.long (g).toInt64, .long (0 : Int64), .long (40 : Int64)]) (fr' := (194, 17, [some (.ref 50), some (.int a), some (.int b), some (.int g)], [])) (S' := S1) 5 rfl (e := 0) (by omega) (A_imp (wt102 (g).toInt64 (0 : Int64) (40 : Int64) h) (fun v S3 hq => ?_))
    obtain ⟨r4, hv, h⟩ := hq
    subst hv
    refine A_br (r4 = 0) (r1 := ((194, 30, [some (.ref 50), some (.int a), some (.int b), some (.int g)], []), S3)) (r2 := ((194, 20, [some (.ref 50), some (.int a), some (.int b), some (.int g)], []), S3)) 1 rfl (fun c => ?_) (fun c => ?_)
    · have h := h.1 c
      exact A_ret 2 (m := 194) (v := some (.int (-2 : Int32))) (S' := S3) rfl rfl ⟨_, rfl, h⟩
    · have h := h.2 c
      refine A_call (j := 193) (As := [.ref 50, .int a, .int b, .int g]) (fr' := (194, 27, [some (.ref 50), some (.int a), some (.int b), some (.int g)], [])) (S' := S3) 5 rfl (e := 1) (by omega) (A_imp (wt193 a b g h) (fun v S5 hq => ?_))
      obtain ⟨r6, hv, h⟩ := hq
      subst hv
      exact A_ret 2 (m := 194) (v := some (.int r6)) (S' := S5) rfl rfl ⟨_, rfl, h⟩
/-! X5_chance, depth 2 -/
def w195_b39 (Q : Int64 → ri_H → Prop)  (S : ri_H) : Prop := Q (-4611686018427387904 : Int64) S
set_option maxRecDepth 10000 in
set_option maxHeartbeats 1000000 in
theorem wt195_b39 {E : ri_E} {Q : Int64 → ri_H → Prop}  (S : ri_H) (h : w195_b39   Q  S) : ri_A E 2 (195, 39, [none, none, none, none, none, none, none, none, none], []) S (Ql Q) := by
  unfold w195_b39 at h
  exact A_ret 2 (m := 195) (v := some (.long (-4611686018427387904 : Int64))) (S' := S) rfl rfl ⟨_, rfl, h⟩
def w195_b78 (K49 : Int32 → Int32 → Int32 → Int32 → Int32 → Int64 → Int32 → ri_H → Prop) (Q : Int64 → ri_H → Prop) (x1 : Int32) (x2 : Int32) (x3 : Int32) (x4 : Int32) (x5 : Int32) (x8 : Int32) (t0 : Int64) (t1 : Int64) (S : ri_H) : Prop := K49 x1 x2 x3 x4 x5 (t1 + t0) (x8 + (1 : Int32)) S
set_option maxRecDepth 10000 in
set_option maxHeartbeats 1000000 in
theorem wt195_b78 {E : ri_E} {K49 : Int32 → Int32 → Int32 → Int32 → Int32 → Int64 → Int32 → ri_H → Prop} {Q : Int64 → ri_H → Prop} (hK49 : ∀ (x1 : Int32) (x2 : Int32) (x3 : Int32) (x4 : Int32) (x5 : Int32) (y6 : Int64) (x8 : Int32) (S : ri_H), K49 x1 x2 x3 x4 x5 y6 x8 S → ri_A E 2 (195, 49, [some (.ref 50), some (.int x1), some (.int x2), some (.int x3), some (.int x4), some (.int x5), some (.long y6), none, some (.int x8)], []) S (Ql Q)) (x1 : Int32) (x2 : Int32) (x3 : Int32) (x4 : Int32) (x5 : Int32) (x8 : Int32) (t0 : Int64) (t1 : Int64) (S : ri_H) (h : w195_b78  K49 Q x1 x2 x3 x4 x5 x8 t0 t1 S) : ri_A E 2 (195, 78, [some (.ref 50), some (.int x1), some (.int x2), some (.int x3), some (.int x4), some (.int x5), none, none, some (.int x8)], [.long t0, .long t1]) S (Ql Q) := by
  unfold w195_b78 at h
  refine A_nx 4 (fr' := (195, 49, [some (.ref 50), some (.int x1), some (.int x2), some (.int x3), some (.int x4), some (.int x5), some (.long (t1 + t0)), none, some (.int (x8 + (1 : Int32)))], [])) (S' := S) rfl ?_
  refine ri_A.less (m := 195) (pc := 49) (L := [some (.ref 50), some (.int x1), some (.int x2), some (.int x3), some (.int x4), some (.int x5), some (.long (t1 + t0)), none, some (.int (x8 + (1 : Int32)))]) (L' := [some (.ref 50), some (.int x1), some (.int x2), some (.int x3), some (.int x4), some (.int x5), some (.long (t1 + t0)), none, some (.int (x8 + (1 : Int32)))]) (st := []) ⟨rfl, ⟨rfl, ⟨rfl, ⟨rfl, ⟨rfl, ⟨rfl, ⟨rfl, ⟨rfl, trivial⟩⟩⟩⟩⟩⟩⟩⟩ ?_
  exact hK49 _ _ _ _ _ _ _ _ h
def w195_l49 (Q : Int64 → ri_H → Prop) : Nat → Int32 → Int32 → Int32 → Int32 → Int32 → Int64 → Int32 → ri_H → Prop
  | 0, _, _, _, _, _, _, _, _ => False
  | n + 1, x1, x2, x3, x4, x5, y6, x8, S => ((x2 ≤ x8 → w180 y6 (x2).toInt64 x5 S (fun (r10 : Int64) (S9 : ri_H) => Q r10 S9)) ∧ (¬ (x2 ≤ x8) → w193 (x1 + x8) x3 (8 : Int32) S (fun (r12 : Int32) (S11 : ri_H) => ((¬ r12 = x4 → w195_b78  (fun x1 x2 x3 x4 x5 y6 x8 S => w195_l49   Q n x1 x2 x3 x4 x5 y6 x8 S) Q x1 x2 x3 x4 x5 x8 (0 : Int64) y6 S11) ∧ (¬ (¬ r12 = x4) → w195_b78  (fun x1 x2 x3 x4 x5 y6 x8 S => w195_l49   Q n x1 x2 x3 x4 x5 y6 x8 S) Q x1 x2 x3 x4 x5 x8 (1 : Int64) y6 S11)))))
set_option maxRecDepth 10000 in
set_option maxHeartbeats 1000000 in
theorem wt195_l49 {E : ri_E} {Q : Int64 → ri_H → Prop} : ∀ (n : Nat) (x1 : Int32) (x2 : Int32) (x3 : Int32) (x4 : Int32) (x5 : Int32) (y6 : Int64) (x8 : Int32) (S : ri_H), w195_l49   Q n x1 x2 x3 x4 x5 y6 x8 S → ri_A E 2 (195, 49, [some (.ref 50), some (.int x1), some (.int x2), some (.int x3), some (.int x4), some (.int x5), some (.long y6), none, some (.int x8)], []) S (Ql Q) := by
  intro n
  induction n with
  | zero => intro x1 x2 x3 x4 x5 y6 x8 S h; exact h.elim
  | succ n ih =>
    intro x1 x2 x3 x4 x5 y6 x8 S h
    unfold w195_l49 at h
    refine A_br (x2 ≤ x8) (r1 := ((195, 87, [some (.ref 50), some (.int x1), some (.int x2), some (.int x3), some (.int x4), some (.int x5), some (.long y6), none, some (.int x8)], []), S)) (r2 := ((195, 55, [some (.ref 50), some (.int x1), some (.int x2), some (.int x3), some (.int x4), some (.int x5), some (.long y6), none, some (.int x8)], []), S)) 3 rfl (fun c => ?_) (fun c => ?_)
    · have h := h.1 c
      refine A_call (j := 180) (As := [.long y6, .long (x2).toInt64, .int x5]) (fr' := (195, 96, [some (.ref 50), some (.int x1), some (.int x2), some (.int x3), some (.int x4), some (.int x5), some (.long y6), none, some (.int x8)], [])) (S' := S) 5 rfl (e := 0) (by omega) (A_imp (wt180 y6 (x2).toInt64 x5 h) (fun v S9 hq => ?_))
      obtain ⟨r10, hv, h⟩ := hq
      subst hv
      exact A_ret 1 (m := 195) (v := some (.long r10)) (S' := S9) rfl rfl ⟨_, rfl, h⟩
    · have h := h.2 c
      refine A_call (j := 193) (As := [.ref 50, .int (x1 + x8), .int x3, .int (8 : Int32)]) (fr' := (195, 68, [some (.ref 50), some (.int x1), some (.int x2), some (.int x3), some (.int x4), some (.int x5), some (.long y6), none, some (.int x8)], [.long y6])) (S' := S) 8 rfl (e := 1) (by omega) (A_imp (wt193 (x1 + x8) x3 (8 : Int32) h) (fun v S11 hq => ?_))
      obtain ⟨r12, hv, h⟩ := hq
      subst hv
      refine A_br (¬ r12 = x4) (r1 := ((195, 77, [some (.ref 50), some (.int x1), some (.int x2), some (.int x3), some (.int x4), some (.int x5), some (.long y6), none, some (.int x8)], [.long y6]), S11)) (r2 := ((195, 73, [some (.ref 50), some (.int x1), some (.int x2), some (.int x3), some (.int x4), some (.int x5), some (.long y6), none, some (.int x8)], [.long y6]), S11)) 2 rfl (fun c => ?_) (fun c => ?_)
      · have h := h.1 c
        refine A_nx 1 (fr' := (195, 78, [some (.ref 50), some (.int x1), some (.int x2), some (.int x3), some (.int x4), some (.int x5), some (.long y6), none, some (.int x8)], [.long (0 : Int64), .long y6])) (S' := S11) rfl ?_
        refine ri_A.less (m := 195) (pc := 78) (L := [some (.ref 50), some (.int x1), some (.int x2), some (.int x3), some (.int x4), some (.int x5), some (.long y6), none, some (.int x8)]) (L' := [some (.ref 50), some (.int x1), some (.int x2), some (.int x3), some (.int x4), some (.int x5), none, none, some (.int x8)]) (st := [.long (0 : Int64), .long y6]) ⟨rfl, ⟨rfl, ⟨rfl, ⟨rfl, ⟨rfl, ⟨rfl, ⟨rfl, trivial⟩⟩⟩⟩⟩⟩⟩ ?_
        exact wt195_b78  (fun x1 x2 x3 x4 x5 y6 x8 S hk => ih x1 x2 x3 x4 x5 y6 x8 S hk) _ _ _ _ _ _ _ _ _ h
      · have h := h.2 c
        refine A_nx 2 (fr' := (195, 78, [some (.ref 50), some (.int x1), some (.int x2), some (.int x3), some (.int x4), some (.int x5), some (.long y6), none, some (.int x8)], [.long (1 : Int64), .long y6])) (S' := S11) rfl ?_
        refine ri_A.less (m := 195) (pc := 78) (L := [some (.ref 50), some (.int x1), some (.int x2), some (.int x3), some (.int x4), some (.int x5), some (.long y6), none, some (.int x8)]) (L' := [some (.ref 50), some (.int x1), some (.int x2), some (.int x3), some (.int x4), some (.int x5), none, none, some (.int x8)]) (st := [.long (1 : Int64), .long y6]) ⟨rfl, ⟨rfl, ⟨rfl, ⟨rfl, ⟨rfl, ⟨rfl, ⟨rfl, trivial⟩⟩⟩⟩⟩⟩⟩ ?_
        exact wt195_b78  (fun x1 x2 x3 x4 x5 y6 x8 S hk => ih x1 x2 x3 x4 x5 y6 x8 S hk) _ _ _ _ _ _ _ _ _ h
def w195 (a : Int32) (b : Int32) (g : Int32) (d : Int32) (q : Int32) (S : ri_H) (Q : Int64 → ri_H → Prop) : Prop := w102 (b).toInt64 (1 : Int64) (40 : Int64) S (fun (r2 : Int32) (S1 : ri_H) => ((r2 = 0 → w195_b39   Q  S1) ∧ (¬ (r2 = 0) → w104 g S1 (fun (r4 : Int32) (S3 : ri_H) => ((r4 = 0 → w195_b39   Q  S3) ∧ (¬ (r4 = 0) → w105 d S3 (fun (r6 : Int32) (S5 : ri_H) => ((r6 = 0 → w195_b39   Q  S5) ∧ (¬ (r6 = 0) → w102 (q).toInt64 (0 : Int64) (1 : Int64) S5 (fun (r8 : Int32) (S7 : ri_H) => ((¬ r8 = 0 → ∃ nn, w195_l49   Q nn a b g d q (0 : Int64) (0 : Int32) S7) ∧ (¬ (¬ r8 = 0) → w195_b39   Q  S7))))))))))))
set_option maxRecDepth 10000 in
set_option maxHeartbeats 1000000 in
theorem wt195 {E : ri_E} (a : Int32) (b : Int32) (g : Int32) (d : Int32) (q : Int32) {S : ri_H} {Q : Int64 → ri_H → Prop} (h : w195  a b g d q S Q) : ri_A E 2 (ri_en 195 [.ref 50, .int a, .int b, .int g, .int d, .int q]) S (Ql Q) := by
  unfold w195 at h
  show ri_A E 2 (195, 0, [some (.ref 50), some (.int a), some (.int b), some (.int g), some (.int d), some (.int q), none, none, none], []) S (Ql Q)
  refine A_call (j := 102) (As := [.long (b).toInt64, .long (1 : Int64), .long (40 : Int64)]) (fr' := (195, 9, [some (.ref 50), some (.int a), some (.int b), some (.int g), some (.int d), some (.int q), none, none, none], [])) (S' := S) 5 rfl (e := 0) (by omega) (A_imp (wt102 (b).toInt64 (1 : Int64) (40 : Int64) h) (fun v S1 hq => ?_))
  obtain ⟨r2, hv, h⟩ := hq
  subst hv
  refine A_br (r2 = 0) (r1 := ((195, 39, [some (.ref 50), some (.int a), some (.int b), some (.int g), some (.int d), some (.int q), none, none, none], []), S1)) (r2 := ((195, 12, [some (.ref 50), some (.int a), some (.int b), some (.int g), some (.int d), some (.int q), none, none, none], []), S1)) 1 rfl (fun c => ?_) (fun c => ?_)
  · have h := h.1 c
    refine ri_A.less (m := 195) (pc := 39) (L := [some (.ref 50), some (.int a), some (.int b), some (.int g), some (.int d), some (.int q), none, none, none]) (L' := [none, none, none, none, none, none, none, none, none]) (st := []) trivial ?_
    exact wt195_b39   _ h
  · have h := h.2 c
    refine A_call (j := 104) (As := [.ref 50, .int g]) (fr' := (195, 17, [some (.ref 50), some (.int a), some (.int b), some (.int g), some (.int d), some (.int q), none, none, none], [])) (S' := S1) 3 rfl (e := 1) (by omega) (A_imp (wt104 g h) (fun v S3 hq => ?_))
    obtain ⟨r4, hv, h⟩ := hq
    subst hv
    refine A_br (r4 = 0) (r1 := ((195, 39, [some (.ref 50), some (.int a), some (.int b), some (.int g), some (.int d), some (.int q), none, none, none], []), S3)) (r2 := ((195, 20, [some (.ref 50), some (.int a), some (.int b), some (.int g), some (.int d), some (.int q), none, none, none], []), S3)) 1 rfl (fun c => ?_) (fun c => ?_)
    · have h := h.1 c
      refine ri_A.less (m := 195) (pc := 39) (L := [some (.ref 50), some (.int a), some (.int b), some (.int g), some (.int d), some (.int q), none, none, none]) (L' := [none, none, none, none, none, none, none, none, none]) (st := []) trivial ?_
      exact wt195_b39   _ h
    · have h := h.2 c
      refine A_call (j := 105) (As := [.int d]) (fr' := (195, 25, [some (.ref 50), some (.int a), some (.int b), some (.int g), some (.int d), some (.int q), none, none, none], [])) (S' := S3) 2 rfl (e := 1) (by omega) (A_imp (wt105 d h) (fun v S5 hq => ?_))
      obtain ⟨r6, hv, h⟩ := hq
      subst hv
      refine A_br (r6 = 0) (r1 := ((195, 39, [some (.ref 50), some (.int a), some (.int b), some (.int g), some (.int d), some (.int q), none, none, none], []), S5)) (r2 := ((195, 28, [some (.ref 50), some (.int a), some (.int b), some (.int g), some (.int d), some (.int q), none, none, none], []), S5)) 1 rfl (fun c => ?_) (fun c => ?_)
      · have h := h.1 c
        refine ri_A.less (m := 195) (pc := 39) (L := [some (.ref 50), some (.int a), some (.int b), some (.int g), some (.int d), some (.int q), none, none, none]) (L' := [none, none, none, none, none, none, none, none, none]) (st := []) trivial ?_
        exact wt195_b39   _ h
      · have h := h.2 c
        refine A_call (j := 102) (As := [.long (q).toInt64, .long (0 : Int64), .long (1 : Int64)]) (fr' := (195, 36, [some (.ref 50), some (.int a), some (.int b), some (.int g), some (.int d), some (.int q), none, none, none], [])) (S' := S5) 5 rfl (e := 0) (by omega) (A_imp (wt102 (q).toInt64 (0 : Int64) (1 : Int64) h) (fun v S7 hq => ?_))
        obtain ⟨r8, hv, h⟩ := hq
        subst hv
        refine A_br (¬ r8 = 0) (r1 := ((195, 43, [some (.ref 50), some (.int a), some (.int b), some (.int g), some (.int d), some (.int q), none, none, none], []), S7)) (r2 := ((195, 39, [some (.ref 50), some (.int a), some (.int b), some (.int g), some (.int d), some (.int q), none, none, none], []), S7)) 1 rfl (fun c => ?_) (fun c => ?_)
        · have h := h.1 c
          refine A_nx 4 (fr' := (195, 49, [some (.ref 50), some (.int a), some (.int b), some (.int g), some (.int d), some (.int q), some (.long (0 : Int64)), none, some (.int (0 : Int32))], [])) (S' := S7) rfl ?_
          refine ri_A.less (m := 195) (pc := 49) (L := [some (.ref 50), some (.int a), some (.int b), some (.int g), some (.int d), some (.int q), some (.long (0 : Int64)), none, some (.int (0 : Int32))]) (L' := [some (.ref 50), some (.int a), some (.int b), some (.int g), some (.int d), some (.int q), some (.long (0 : Int64)), none, some (.int (0 : Int32))]) (st := []) ⟨rfl, ⟨rfl, ⟨rfl, ⟨rfl, ⟨rfl, ⟨rfl, ⟨rfl, ⟨rfl, trivial⟩⟩⟩⟩⟩⟩⟩⟩ ?_
          obtain ⟨nn, h⟩ := h
          exact wt195_l49   nn _ _ _ _ _ _ _ _ h
        · have h := h.2 c
          refine ri_A.less (m := 195) (pc := 39) (L := [some (.ref 50), some (.int a), some (.int b), some (.int g), some (.int d), some (.int q), none, none, none]) (L' := [none, none, none, none, none, none, none, none, none]) (st := []) trivial ?_
          exact wt195_b39   _ h
/-! X5_image, depth 0 -/
def w196_l40 (Q : Int32 → ri_H → Prop) : Nat → Int32 → ri_H → Prop
  | 0, _, _ => False
  | n + 1, x1, S => (((25 : Int32) ≤ x1 → Q (S.1 50 11) (ri_wi (ri_wi (ri_wi S 50 36 (S.1 50 11)) 50 37 (S.1 50 7)) 50 38 (S.1 50 4))) ∧ (¬ (25 : Int32) ≤ x1 → (vp_in x1 25 ∧ (vp_in x1 25 ∧ w196_l40   Q n (x1 + (1 : Int32)) (ri_wi S 65 (x1).toNatClampNeg (S.1 56 (x1).toNatClampNeg))))))
set_option maxRecDepth 10000 in
set_option maxHeartbeats 1000000 in
theorem wt196_l40 {E : ri_E} {Q : Int32 → ri_H → Prop} : ∀ (n : Nat) (x1 : Int32) (S : ri_H), w196_l40   Q n x1 S → ri_A E 0 (196, 40, [some (.ref 50), some (.int x1)], []) S (Qi Q) := by
  intro n
  induction n with
  | zero => intro x1 S h; exact h.elim
  | succ n ih =>
    intro x1 S h
    unfold w196_l40 at h
    refine A_br ((25 : Int32) ≤ x1) (r1 := ((196, 64, [some (.ref 50), some (.int x1)], []), S)) (r2 := ((196, 46, [some (.ref 50), some (.int x1)], []), S)) 3 rfl (fun c => ?_) (fun c => ?_)
    · have h := h.1 c
      exact A_ret 15 (m := 196) (v := some (.int (S.1 50 11))) (S' := (ri_wi (ri_wi (ri_wi S 50 36 (S.1 50 11)) 50 37 (S.1 50 7)) 50 38 (S.1 50 4))) rfl rfl ⟨_, rfl, h⟩
    · have h := h.2 c
      refine A_ix x1 25 (r1 := ((196, 57, [some (.ref 50), some (.int x1)], [.int (S.1 56 (x1).toNatClampNeg), .int x1, .ref 65]), S)) 7 rfl h.1 ?_
      have h := h.2
      refine A_ix x1 25 (r1 := ((196, 58, [some (.ref 50), some (.int x1)], []), (ri_wi S 65 (x1).toNatClampNeg (S.1 56 (x1).toNatClampNeg)))) 1 rfl h.1 ?_
      have h := h.2
      refine A_nx 2 (fr' := (196, 40, [some (.ref 50), some (.int (x1 + (1 : Int32)))], [])) (S' := (ri_wi S 65 (x1).toNatClampNeg (S.1 56 (x1).toNatClampNeg))) rfl ?_
      refine ri_A.less (m := 196) (pc := 40) (L := [some (.ref 50), some (.int (x1 + (1 : Int32)))]) (L' := [some (.ref 50), some (.int (x1 + (1 : Int32)))]) (st := []) ⟨rfl, ⟨rfl, trivial⟩⟩ ?_
      exact ih _ _ h
def w196_l2 (Q : Int32 → ri_H → Prop) : Nat → Int32 → ri_H → Prop
  | 0, _, _ => False
  | n + 1, x1, S => (((24 : Int32) ≤ x1 → ∃ nn, w196_l40   Q nn (0 : Int32) S) ∧ (¬ (24 : Int32) ≤ x1 → (vp_in x1 24 ∧ (vp_in x1 24 ∧ (vp_in x1 24 ∧ (vp_in x1 24 ∧ w196_l2   Q n (x1 + (1 : Int32)) (ri_wi (ri_wi S 63 (x1).toNatClampNeg (S.1 54 (x1).toNatClampNeg)) 64 (x1).toNatClampNeg (S.1 55 (x1).toNatClampNeg))))))))
set_option maxRecDepth 10000 in
set_option maxHeartbeats 1000000 in
theorem wt196_l2 {E : ri_E} {Q : Int32 → ri_H → Prop} : ∀ (n : Nat) (x1 : Int32) (S : ri_H), w196_l2   Q n x1 S → ri_A E 0 (196, 2, [some (.ref 50), some (.int x1)], []) S (Qi Q) := by
  intro n
  induction n with
  | zero => intro x1 S h; exact h.elim
  | succ n ih =>
    intro x1 S h
    unfold w196_l2 at h
    refine A_br ((24 : Int32) ≤ x1) (r1 := ((196, 38, [some (.ref 50), some (.int x1)], []), S)) (r2 := ((196, 8, [some (.ref 50), some (.int x1)], []), S)) 3 rfl (fun c => ?_) (fun c => ?_)
    · have h := h.1 c
      refine A_nx 2 (fr' := (196, 40, [some (.ref 50), some (.int (0 : Int32))], [])) (S' := S) rfl ?_
      refine ri_A.less (m := 196) (pc := 40) (L := [some (.ref 50), some (.int (0 : Int32))]) (L' := [some (.ref 50), some (.int (0 : Int32))]) (st := []) ⟨rfl, ⟨rfl, trivial⟩⟩ ?_
      obtain ⟨nn, h⟩ := h
      exact wt196_l40   nn _ _ h
    · have h := h.2 c
      refine A_ix x1 24 (r1 := ((196, 19, [some (.ref 50), some (.int x1)], [.int (S.1 54 (x1).toNatClampNeg), .int x1, .ref 63]), S)) 7 rfl h.1 ?_
      have h := h.2
      refine A_ix x1 24 (r1 := ((196, 20, [some (.ref 50), some (.int x1)], []), (ri_wi S 63 (x1).toNatClampNeg (S.1 54 (x1).toNatClampNeg)))) 1 rfl h.1 ?_
      have h := h.2
      refine A_ix x1 24 (r1 := ((196, 31, [some (.ref 50), some (.int x1)], [.int (S.1 55 (x1).toNatClampNeg), .int x1, .ref 64]), (ri_wi S 63 (x1).toNatClampNeg (S.1 54 (x1).toNatClampNeg)))) 7 rfl h.1 ?_
      have h := h.2
      refine A_ix x1 24 (r1 := ((196, 32, [some (.ref 50), some (.int x1)], []), (ri_wi (ri_wi S 63 (x1).toNatClampNeg (S.1 54 (x1).toNatClampNeg)) 64 (x1).toNatClampNeg (S.1 55 (x1).toNatClampNeg)))) 1 rfl h.1 ?_
      have h := h.2
      refine A_nx 2 (fr' := (196, 2, [some (.ref 50), some (.int (x1 + (1 : Int32)))], [])) (S' := (ri_wi (ri_wi S 63 (x1).toNatClampNeg (S.1 54 (x1).toNatClampNeg)) 64 (x1).toNatClampNeg (S.1 55 (x1).toNatClampNeg))) rfl ?_
      refine ri_A.less (m := 196) (pc := 2) (L := [some (.ref 50), some (.int (x1 + (1 : Int32)))]) (L' := [some (.ref 50), some (.int (x1 + (1 : Int32)))]) (st := []) ⟨rfl, ⟨rfl, trivial⟩⟩ ?_
      exact ih _ _ h
def w196  (S : ri_H) (Q : Int32 → ri_H → Prop) : Prop := ∃ nn, w196_l2   Q nn (0 : Int32) S
set_option maxRecDepth 10000 in
set_option maxHeartbeats 1000000 in
theorem wt196 {E : ri_E}  {S : ri_H} {Q : Int32 → ri_H → Prop} (h : w196   S Q) : ri_A E 0 (ri_en 196 [.ref 50]) S (Qi Q) := by
  unfold w196 at h
  show ri_A E 0 (196, 0, [some (.ref 50), none], []) S (Qi Q)
  refine A_nx 2 (fr' := (196, 2, [some (.ref 50), some (.int (0 : Int32))], [])) (S' := S) rfl ?_
  refine ri_A.less (m := 196) (pc := 2) (L := [some (.ref 50), some (.int (0 : Int32))]) (L' := [some (.ref 50), some (.int (0 : Int32))]) (st := []) ⟨rfl, ⟨rfl, trivial⟩⟩ ?_
  obtain ⟨nn, h⟩ := h
  exact wt196_l2   nn _ _ h
/-! X5_back, depth 0 -/
def w197_l51 (Q : Int32 → ri_H → Prop) : Nat → Int32 → ri_H → Prop
  | 0, _, _ => False
  | n + 1, x1, S => (((25 : Int32) ≤ x1 → Q (S.1 50 36) (ri_wi (ri_wi (ri_wi S 50 11 (S.1 50 36)) 50 7 (S.1 50 37)) 50 4 (S.1 50 38))) ∧ (¬ (25 : Int32) ≤ x1 → (vp_in x1 25 ∧ (vp_in x1 25 ∧ w197_l51   Q n (x1 + (1 : Int32)) (ri_wi S 56 (x1).toNatClampNeg (S.1 65 (x1).toNatClampNeg))))))
set_option maxRecDepth 10000 in
set_option maxHeartbeats 1000000 in
theorem wt197_l51 {E : ri_E} {Q : Int32 → ri_H → Prop} : ∀ (n : Nat) (x1 : Int32) (S : ri_H), w197_l51   Q n x1 S → ri_A E 0 (197, 51, [some (.ref 50), some (.int x1)], []) S (Qi Q) := by
  intro n
  induction n with
  | zero => intro x1 S h; exact h.elim
  | succ n ih =>
    intro x1 S h
    unfold w197_l51 at h
    refine A_br ((25 : Int32) ≤ x1) (r1 := ((197, 75, [some (.ref 50), some (.int x1)], []), S)) (r2 := ((197, 57, [some (.ref 50), some (.int x1)], []), S)) 3 rfl (fun c => ?_) (fun c => ?_)
    · have h := h.1 c
      exact A_ret 15 (m := 197) (v := some (.int (S.1 50 36))) (S' := (ri_wi (ri_wi (ri_wi S 50 11 (S.1 50 36)) 50 7 (S.1 50 37)) 50 4 (S.1 50 38))) rfl rfl ⟨_, rfl, h⟩
    · have h := h.2 c
      refine A_ix x1 25 (r1 := ((197, 68, [some (.ref 50), some (.int x1)], [.int (S.1 65 (x1).toNatClampNeg), .int x1, .ref 56]), S)) 7 rfl h.1 ?_
      have h := h.2
      refine A_ix x1 25 (r1 := ((197, 69, [some (.ref 50), some (.int x1)], []), (ri_wi S 56 (x1).toNatClampNeg (S.1 65 (x1).toNatClampNeg)))) 1 rfl h.1 ?_
      have h := h.2
      refine A_nx 2 (fr' := (197, 51, [some (.ref 50), some (.int (x1 + (1 : Int32)))], [])) (S' := (ri_wi S 56 (x1).toNatClampNeg (S.1 65 (x1).toNatClampNeg))) rfl ?_
      refine ri_A.less (m := 197) (pc := 51) (L := [some (.ref 50), some (.int (x1 + (1 : Int32)))]) (L' := [some (.ref 50), some (.int (x1 + (1 : Int32)))]) (st := []) ⟨rfl, ⟨rfl, trivial⟩⟩ ?_
      exact ih _ _ h
def w197_l13 (Q : Int32 → ri_H → Prop) : Nat → Int32 → ri_H → Prop
  | 0, _, _ => False
  | n + 1, x1, S => (((24 : Int32) ≤ x1 → ∃ nn, w197_l51   Q nn (0 : Int32) S) ∧ (¬ (24 : Int32) ≤ x1 → (vp_in x1 24 ∧ (vp_in x1 24 ∧ (vp_in x1 24 ∧ (vp_in x1 24 ∧ w197_l13   Q n (x1 + (1 : Int32)) (ri_wi (ri_wi S 54 (x1).toNatClampNeg (S.1 63 (x1).toNatClampNeg)) 55 (x1).toNatClampNeg (S.1 64 (x1).toNatClampNeg))))))))
set_option maxRecDepth 10000 in
set_option maxHeartbeats 1000000 in
theorem wt197_l13 {E : ri_E} {Q : Int32 → ri_H → Prop} : ∀ (n : Nat) (x1 : Int32) (S : ri_H), w197_l13   Q n x1 S → ri_A E 0 (197, 13, [some (.ref 50), some (.int x1)], []) S (Qi Q) := by
  intro n
  induction n with
  | zero => intro x1 S h; exact h.elim
  | succ n ih =>
    intro x1 S h
    unfold w197_l13 at h
    refine A_br ((24 : Int32) ≤ x1) (r1 := ((197, 49, [some (.ref 50), some (.int x1)], []), S)) (r2 := ((197, 19, [some (.ref 50), some (.int x1)], []), S)) 3 rfl (fun c => ?_) (fun c => ?_)
    · have h := h.1 c
      refine A_nx 2 (fr' := (197, 51, [some (.ref 50), some (.int (0 : Int32))], [])) (S' := S) rfl ?_
      refine ri_A.less (m := 197) (pc := 51) (L := [some (.ref 50), some (.int (0 : Int32))]) (L' := [some (.ref 50), some (.int (0 : Int32))]) (st := []) ⟨rfl, ⟨rfl, trivial⟩⟩ ?_
      obtain ⟨nn, h⟩ := h
      exact wt197_l51   nn _ _ h
    · have h := h.2 c
      refine A_ix x1 24 (r1 := ((197, 30, [some (.ref 50), some (.int x1)], [.int (S.1 63 (x1).toNatClampNeg), .int x1, .ref 54]), S)) 7 rfl h.1 ?_
      have h := h.2
      refine A_ix x1 24 (r1 := ((197, 31, [some (.ref 50), some (.int x1)], []), (ri_wi S 54 (x1).toNatClampNeg (S.1 63 (x1).toNatClampNeg)))) 1 rfl h.1 ?_
      have h := h.2
      refine A_ix x1 24 (r1 := ((197, 42, [some (.ref 50), some (.int x1)], [.int (S.1 64 (x1).toNatClampNeg), .int x1, .ref 55]), (ri_wi S 54 (x1).toNatClampNeg (S.1 63 (x1).toNatClampNeg)))) 7 rfl h.1 ?_
      have h := h.2
      refine A_ix x1 24 (r1 := ((197, 43, [some (.ref 50), some (.int x1)], []), (ri_wi (ri_wi S 54 (x1).toNatClampNeg (S.1 63 (x1).toNatClampNeg)) 55 (x1).toNatClampNeg (S.1 64 (x1).toNatClampNeg)))) 1 rfl h.1 ?_
      have h := h.2
      refine A_nx 2 (fr' := (197, 13, [some (.ref 50), some (.int (x1 + (1 : Int32)))], [])) (S' := (ri_wi (ri_wi S 54 (x1).toNatClampNeg (S.1 63 (x1).toNatClampNeg)) 55 (x1).toNatClampNeg (S.1 64 (x1).toNatClampNeg))) rfl ?_
      refine ri_A.less (m := 197) (pc := 13) (L := [some (.ref 50), some (.int (x1 + (1 : Int32)))]) (L' := [some (.ref 50), some (.int (x1 + (1 : Int32)))]) (st := []) ⟨rfl, ⟨rfl, trivial⟩⟩ ?_
      exact ih _ _ h
def w197  (S : ri_H) (Q : Int32 → ri_H → Prop) : Prop := ((¬ (S.1 50 36) = (-1 : Int32) → ∃ nn, w197_l13   Q nn (0 : Int32) S) ∧ (¬ (¬ (S.1 50 36) = (-1 : Int32)) → Q (-3 : Int32) S))
set_option maxRecDepth 10000 in
set_option maxHeartbeats 1000000 in
theorem wt197 {E : ri_E}  {S : ri_H} {Q : Int32 → ri_H → Prop} (h : w197   S Q) : ri_A E 0 (ri_en 197 [.ref 50]) S (Qi Q) := by
  unfold w197 at h
  show ri_A E 0 (197, 0, [some (.ref 50), none], []) S (Qi Q)
  refine A_br (¬ (S.1 50 36) = (-1 : Int32)) (r1 := ((197, 11, [some (.ref 50), none], []), S)) (r2 := ((197, 8, [some (.ref 50), none], []), S)) 4 rfl (fun c => ?_) (fun c => ?_)
  · have h := h.1 c
    refine A_nx 2 (fr' := (197, 13, [some (.ref 50), some (.int (0 : Int32))], [])) (S' := S) rfl ?_
    refine ri_A.less (m := 197) (pc := 13) (L := [some (.ref 50), some (.int (0 : Int32))]) (L' := [some (.ref 50), some (.int (0 : Int32))]) (st := []) ⟨rfl, ⟨rfl, trivial⟩⟩ ?_
    obtain ⟨nn, h⟩ := h
    exact wt197_l13   nn _ _ h
  · have h := h.2 c
    exact A_ret 2 (m := 197) (v := some (.int (-3 : Int32))) (S' := S) rfl rfl ⟨_, rfl, h⟩
/-! X5_count, depth 1 -/
def w198 (a : Int32) (S : ri_H) (Q : Int32 → ri_H → Prop) : Prop := w102 (a).toInt64 (0 : Int64) (5 : Int64) S (fun (r2 : Int32) (S1 : ri_H) => ((¬ r2 = 0 → ((¬ a = 0 → ((¬ a = (1 : Int32) → ((¬ a = (2 : Int32) → ((¬ a = (3 : Int32) → ((¬ a = (4 : Int32) → Q (S1.1 50 4) S1) ∧ (¬ (¬ a = (4 : Int32)) → Q (S1.1 50 6) S1))) ∧ (¬ (¬ a = (3 : Int32)) → Q (S1.1 50 3) S1))) ∧ (¬ (¬ a = (2 : Int32)) → Q (S1.1 50 7) S1))) ∧ (¬ (¬ a = (1 : Int32)) → w169  S1 (fun (r4 : Int32) (S3 : ri_H) => Q r4 S3)))) ∧ (¬ (¬ a = 0) → Q (S1.1 50 11) S1))) ∧ (¬ (¬ r2 = 0) → Q (-2 : Int32) S1)))
set_option maxRecDepth 10000 in
set_option maxHeartbeats 1000000 in
theorem wt198 {E : ri_E} (a : Int32) {S : ri_H} {Q : Int32 → ri_H → Prop} (h : w198  a S Q) : ri_A E 1 (ri_en 198 [.ref 50, .int a]) S (Qi Q) := by
  unfold w198 at h
  show ri_A E 1 (198, 0, [some (.ref 50), some (.int a)], []) S (Qi Q)
  refine A_call (j := 102) (As := [.long (a).toInt64, .long (0 : Int64), .long (5 : Int64)]) (fr' := (198, 9, [some (.ref 50), some (.int a)], [])) (S' := S) 5 rfl (e := 0) (by omega) (A_imp (wt102 (a).toInt64 (0 : Int64) (5 : Int64) h) (fun v S1 hq => ?_))
  obtain ⟨r2, hv, h⟩ := hq
  subst hv
  refine A_br (¬ r2 = 0) (r1 := ((198, 15, [some (.ref 50), some (.int a)], []), S1)) (r2 := ((198, 12, [some (.ref 50), some (.int a)], []), S1)) 1 rfl (fun c => ?_) (fun c => ?_)
  · have h := h.1 c
    refine A_br (¬ a = 0) (r1 := ((198, 26, [some (.ref 50), some (.int a)], []), S1)) (r2 := ((198, 19, [some (.ref 50), some (.int a)], []), S1)) 2 rfl (fun c => ?_) (fun c => ?_)
    · have h := h.1 c
      refine A_br (¬ a = (1 : Int32)) (r1 := ((198, 38, [some (.ref 50), some (.int a)], []), S1)) (r2 := ((198, 31, [some (.ref 50), some (.int a)], []), S1)) 3 rfl (fun c => ?_) (fun c => ?_)
      · have h := h.1 c
        refine A_br (¬ a = (2 : Int32)) (r1 := ((198, 50, [some (.ref 50), some (.int a)], []), S1)) (r2 := ((198, 43, [some (.ref 50), some (.int a)], []), S1)) 3 rfl (fun c => ?_) (fun c => ?_)
        · have h := h.1 c
          refine A_br (¬ a = (3 : Int32)) (r1 := ((198, 62, [some (.ref 50), some (.int a)], []), S1)) (r2 := ((198, 55, [some (.ref 50), some (.int a)], []), S1)) 3 rfl (fun c => ?_) (fun c => ?_)
          · have h := h.1 c
            refine A_br (¬ a = (4 : Int32)) (r1 := ((198, 74, [some (.ref 50), some (.int a)], []), S1)) (r2 := ((198, 67, [some (.ref 50), some (.int a)], []), S1)) 3 rfl (fun c => ?_) (fun c => ?_)
            · have h := h.1 c
              exact A_ret 3 (m := 198) (v := some (.int (S1.1 50 4))) (S' := S1) rfl rfl ⟨_, rfl, h⟩
            · have h := h.2 c
              exact A_ret 4 (m := 198) (v := some (.int (S1.1 50 6))) (S' := S1) rfl rfl ⟨_, rfl, h⟩
          · have h := h.2 c
            exact A_ret 4 (m := 198) (v := some (.int (S1.1 50 3))) (S' := S1) rfl rfl ⟨_, rfl, h⟩
        · have h := h.2 c
          exact A_ret 4 (m := 198) (v := some (.int (S1.1 50 7))) (S' := S1) rfl rfl ⟨_, rfl, h⟩
      · have h := h.2 c
        refine A_call (j := 169) (As := [.ref 50]) (fr' := (198, 35, [some (.ref 50), some (.int a)], [])) (S' := S1) 2 rfl (e := 0) (by omega) (A_imp (wt169  h) (fun v S3 hq => ?_))
        obtain ⟨r4, hv, h⟩ := hq
        subst hv
        exact A_ret 2 (m := 198) (v := some (.int r4)) (S' := S3) rfl rfl ⟨_, rfl, h⟩
    · have h := h.2 c
      exact A_ret 4 (m := 198) (v := some (.int (S1.1 50 11))) (S' := S1) rfl rfl ⟨_, rfl, h⟩
  · have h := h.2 c
    exact A_ret 2 (m := 198) (v := some (.int (-2 : Int32))) (S' := S1) rfl rfl ⟨_, rfl, h⟩
/-! X5_cell, depth 2 -/
def w201_b83 (Q : Int32 → ri_H → Prop) (s0 : Int32) (s1 : Int32) (S : ri_H) : Prop := (vp_in s1 160 ∧ Q (1 : Int32) (ri_wi S 69 (s1).toNatClampNeg s0))
set_option maxRecDepth 10000 in
set_option maxHeartbeats 1000000 in
theorem wt201_b83 {E : ri_E} {Q : Int32 → ri_H → Prop} (s0 : Int32) (s1 : Int32) (S : ri_H) (h : w201_b83   Q s0 s1 S) : ri_A E 2 (201, 83, [none, none, none, none], [.int s0, .int s1, .ref 69]) S (Qi Q) := by
  unfold w201_b83 at h
  refine A_ix s1 160 (r1 := ((201, 84, [none, none, none, none], []), (ri_wi S 69 (s1).toNatClampNeg s0))) 1 rfl h.1 ?_
  have h := h.2
  exact A_ret 2 (m := 201) (v := some (.int (1 : Int32))) (S' := (ri_wi S 69 (s1).toNatClampNeg s0)) rfl rfl ⟨_, rfl, h⟩
def w201 (a : Int32) (b : Int32) (g : Int32) (S : ri_H) (Q : Int32 → ri_H → Prop) : Prop := w199 a S (fun (r2 : Int32) (S1 : ri_H) => ((¬ r2 = 0 → (vp_in a 4 ∧ ((¬ (S1.1 66 (a).toNatClampNeg) = 0 → (vp_in a 4 ∧ w102 (b).toInt64 (0 : Int64) (((S1.1 68 (a).toNatClampNeg) - (1 : Int32))).toInt64 S1 (fun (r4 : Int32) (S3 : ri_H) => ((¬ r4 = 0 → (vp_in a 4 ∧ ((¬ (S3.1 67 (a).toNatClampNeg) = 0 → (vp_in a 4 ∧ ((¬ (S3.1 67 (a).toNatClampNeg) = (1 : Int32) → w201_b83   Q g (((40 : Int32) * a) + b) S3) ∧ (¬ (¬ (S3.1 67 (a).toNatClampNeg) = (1 : Int32)) → w201_b83   Q (g).toInt16.toInt32 (((40 : Int32) * a) + b) S3)))) ∧ (¬ (¬ (S3.1 67 (a).toNatClampNeg) = 0) → w201_b83   Q (g).toInt8.toInt32 (((40 : Int32) * a) + b) S3)))) ∧ (¬ (¬ r4 = 0) → Q (-12 : Int32) S3))))) ∧ (¬ (¬ (S1.1 66 (a).toNatClampNeg) = 0) → Q (-11 : Int32) S1)))) ∧ (¬ (¬ r2 = 0) → Q (-2 : Int32) S1)))
set_option maxRecDepth 10000 in
set_option maxHeartbeats 1000000 in
theorem wt201 {E : ri_E} (a : Int32) (b : Int32) (g : Int32) {S : ri_H} {Q : Int32 → ri_H → Prop} (h : w201  a b g S Q) : ri_A E 2 (ri_en 201 [.ref 50, .int a, .int b, .int g]) S (Qi Q) := by
  unfold w201 at h
  show ri_A E 2 (201, 0, [some (.ref 50), some (.int a), some (.int b), some (.int g)], []) S (Qi Q)
  refine A_call (j := 199) (As := [.int a]) (fr' := (201, 4, [some (.ref 50), some (.int a), some (.int b), some (.int g)], [])) (S' := S) 2 rfl (e := 1) (by omega) (A_imp (wt199 a h) (fun v S1 hq => ?_))
  obtain ⟨r2, hv, h⟩ := hq
  subst hv
  refine A_br (¬ r2 = 0) (r1 := ((201, 10, [some (.ref 50), some (.int a), some (.int b), some (.int g)], []), S1)) (r2 := ((201, 7, [some (.ref 50), some (.int a), some (.int b), some (.int g)], []), S1)) 1 rfl (fun c => ?_) (fun c => ?_)
  · have h := h.1 c
    refine A_ix a 4 (r1 := ((201, 16, [some (.ref 50), some (.int a), some (.int b), some (.int g)], [.int (S1.1 66 (a).toNatClampNeg)]), S1)) 4 rfl h.1 ?_
    have h := h.2
    refine A_br (¬ (S1.1 66 (a).toNatClampNeg) = 0) (r1 := ((201, 22, [some (.ref 50), some (.int a), some (.int b), some (.int g)], []), S1)) (r2 := ((201, 19, [some (.ref 50), some (.int a), some (.int b), some (.int g)], []), S1)) 1 rfl (fun c => ?_) (fun c => ?_)
    · have h := h.1 c
      refine A_ix a 4 (r1 := ((201, 31, [some (.ref 50), some (.int a), some (.int b), some (.int g)], [.int (S1.1 68 (a).toNatClampNeg), .long (0 : Int64), .long (b).toInt64]), S1)) 7 rfl h.1 ?_
      have h := h.2
      refine A_call (j := 102) (As := [.long (b).toInt64, .long (0 : Int64), .long (((S1.1 68 (a).toNatClampNeg) - (1 : Int32))).toInt64]) (fr' := (201, 37, [some (.ref 50), some (.int a), some (.int b), some (.int g)], [])) (S' := S1) 4 rfl (e := 0) (by omega) (A_imp (wt102 (b).toInt64 (0 : Int64) (((S1.1 68 (a).toNatClampNeg) - (1 : Int32))).toInt64 h) (fun v S3 hq => ?_))
      obtain ⟨r4, hv, h⟩ := hq
      subst hv
      refine A_br (¬ r4 = 0) (r1 := ((201, 43, [some (.ref 50), some (.int a), some (.int b), some (.int g)], []), S3)) (r2 := ((201, 40, [some (.ref 50), some (.int a), some (.int b), some (.int g)], []), S3)) 1 rfl (fun c => ?_) (fun c => ?_)
      · have h := h.1 c
        refine A_ix a 4 (r1 := ((201, 59, [some (.ref 50), some (.int a), some (.int b), some (.int g)], [.int (S3.1 67 (a).toNatClampNeg), .int (((40 : Int32) * a) + b), .ref 69]), S3)) 11 rfl h.1 ?_
        have h := h.2
        refine A_br (¬ (S3.1 67 (a).toNatClampNeg) = 0) (r1 := ((201, 67, [some (.ref 50), some (.int a), some (.int b), some (.int g)], [.int (((40 : Int32) * a) + b), .ref 69]), S3)) (r2 := ((201, 62, [some (.ref 50), some (.int a), some (.int b), some (.int g)], [.int (((40 : Int32) * a) + b), .ref 69]), S3)) 1 rfl (fun c => ?_) (fun c => ?_)
        · have h := h.1 c
          refine A_ix a 4 (r1 := ((201, 73, [some (.ref 50), some (.int a), some (.int b), some (.int g)], [.int (S3.1 67 (a).toNatClampNeg), .int (((40 : Int32) * a) + b), .ref 69]), S3)) 4 rfl h.1 ?_
          have h := h.2
          refine A_br (¬ (S3.1 67 (a).toNatClampNeg) = (1 : Int32)) (r1 := ((201, 82, [some (.ref 50), some (.int a), some (.int b), some (.int g)], [.int (((40 : Int32) * a) + b), .ref 69]), S3)) (r2 := ((201, 77, [some (.ref 50), some (.int a), some (.int b), some (.int g)], [.int (((40 : Int32) * a) + b), .ref 69]), S3)) 2 rfl (fun c => ?_) (fun c => ?_)
          · have h := h.1 c
            refine A_nx 1 (fr' := (201, 83, [some (.ref 50), some (.int a), some (.int b), some (.int g)], [.int g, .int (((40 : Int32) * a) + b), .ref 69])) (S' := S3) rfl ?_
            refine ri_A.less (m := 201) (pc := 83) (L := [some (.ref 50), some (.int a), some (.int b), some (.int g)]) (L' := [none, none, none, none]) (st := [.int g, .int (((40 : Int32) * a) + b), .ref 69]) trivial ?_
            exact wt201_b83   _ _ _ h
          · have h := h.2 c
            refine A_nx 3 (fr' := (201, 83, [some (.ref 50), some (.int a), some (.int b), some (.int g)], [.int (g).toInt16.toInt32, .int (((40 : Int32) * a) + b), .ref 69])) (S' := S3) rfl ?_
            refine ri_A.less (m := 201) (pc := 83) (L := [some (.ref 50), some (.int a), some (.int b), some (.int g)]) (L' := [none, none, none, none]) (st := [.int (g).toInt16.toInt32, .int (((40 : Int32) * a) + b), .ref 69]) trivial ?_
            exact wt201_b83   _ _ _ h
        · have h := h.2 c
          refine A_nx 3 (fr' := (201, 83, [some (.ref 50), some (.int a), some (.int b), some (.int g)], [.int (g).toInt8.toInt32, .int (((40 : Int32) * a) + b), .ref 69])) (S' := S3) rfl ?_
          refine ri_A.less (m := 201) (pc := 83) (L := [some (.ref 50), some (.int a), some (.int b), some (.int g)]) (L' := [none, none, none, none]) (st := [.int (g).toInt8.toInt32, .int (((40 : Int32) * a) + b), .ref 69]) trivial ?_
          exact wt201_b83   _ _ _ h
      · have h := h.2 c
        exact A_ret 2 (m := 201) (v := some (.int (-12 : Int32))) (S' := S3) rfl rfl ⟨_, rfl, h⟩
    · have h := h.2 c
      exact A_ret 2 (m := 201) (v := some (.int (-11 : Int32))) (S' := S1) rfl rfl ⟨_, rfl, h⟩
  · have h := h.2 c
    exact A_ret 2 (m := 201) (v := some (.int (-2 : Int32))) (S' := S1) rfl rfl ⟨_, rfl, h⟩
/-! X5_copy, depth 2 -/
def w202_b145 (K121 : Int32 → Int32 → Int32 → Int32 → Int32 → Int32 → Int32 → ri_H → Prop) (Q : Int32 → ri_H → Prop) (x1 : Int32) (x2 : Int32) (x3 : Int32) (x4 : Int32) (x5 : Int32) (x6 : Int32) (x7 : Int32) (s0 : Int32) (S : ri_H) : Prop := (vp_in ((((40 : Int32) * x1) + x2) + s0) 160 ∧ (vp_in ((((40 : Int32) * x3) + x4) + s0) 160 ∧ K121 x1 x2 x3 x4 x5 x6 (x7 + (1 : Int32)) (ri_wi S 69 (((((40 : Int32) * x3) + x4) + s0)).toNatClampNeg (S.1 69 (((((40 : Int32) * x1) + x2) + s0)).toNatClampNeg))))
set_option maxRecDepth 10000 in
set_option maxHeartbeats 1000000 in
theorem wt202_b145 {E : ri_E} {K121 : Int32 → Int32 → Int32 → Int32 → Int32 → Int32 → Int32 → ri_H → Prop} {Q : Int32 → ri_H → Prop} (hK121 : ∀ (x1 : Int32) (x2 : Int32) (x3 : Int32) (x4 : Int32) (x5 : Int32) (x6 : Int32) (x7 : Int32) (S : ri_H), K121 x1 x2 x3 x4 x5 x6 x7 S → ri_A E 2 (202, 121, [some (.ref 50), some (.int x1), some (.int x2), some (.int x3), some (.int x4), some (.int x5), some (.int x6), some (.int x7), none], []) S (Qi Q)) (x1 : Int32) (x2 : Int32) (x3 : Int32) (x4 : Int32) (x5 : Int32) (x6 : Int32) (x7 : Int32) (s0 : Int32) (S : ri_H) (h : w202_b145  K121 Q x1 x2 x3 x4 x5 x6 x7 s0 S) : ri_A E 2 (202, 145, [some (.ref 50), some (.int x1), some (.int x2), some (.int x3), some (.int x4), some (.int x5), some (.int x6), some (.int x7), none], [.int s0]) S (Qi Q) := by
  unfold w202_b145 at h
  refine A_ix ((((40 : Int32) * x1) + x2) + s0) 160 (r1 := ((202, 175, [some (.ref 50), some (.int x1), some (.int x2), some (.int x3), some (.int x4), some (.int x5), some (.int x6), some (.int x7), some (.int s0)], [.int (S.1 69 (((((40 : Int32) * x1) + x2) + s0)).toNatClampNeg), .int ((((40 : Int32) * x3) + x4) + s0), .ref 69]), S)) 20 rfl h.1 ?_
  have h := h.2
  refine A_ix ((((40 : Int32) * x3) + x4) + s0) 160 (r1 := ((202, 176, [some (.ref 50), some (.int x1), some (.int x2), some (.int x3), some (.int x4), some (.int x5), some (.int x6), some (.int x7), some (.int s0)], []), (ri_wi S 69 (((((40 : Int32) * x3) + x4) + s0)).toNatClampNeg (S.1 69 (((((40 : Int32) * x1) + x2) + s0)).toNatClampNeg)))) 1 rfl h.1 ?_
  have h := h.2
  refine A_nx 2 (fr' := (202, 121, [some (.ref 50), some (.int x1), some (.int x2), some (.int x3), some (.int x4), some (.int x5), some (.int x6), some (.int (x7 + (1 : Int32))), some (.int s0)], [])) (S' := (ri_wi S 69 (((((40 : Int32) * x3) + x4) + s0)).toNatClampNeg (S.1 69 (((((40 : Int32) * x1) + x2) + s0)).toNatClampNeg))) rfl ?_
  refine ri_A.less (m := 202) (pc := 121) (L := [some (.ref 50), some (.int x1), some (.int x2), some (.int x3), some (.int x4), some (.int x5), some (.int x6), some (.int (x7 + (1 : Int32))), some (.int s0)]) (L' := [some (.ref 50), some (.int x1), some (.int x2), some (.int x3), some (.int x4), some (.int x5), some (.int x6), some (.int (x7 + (1 : Int32))), none]) (st := []) ⟨rfl, ⟨rfl, ⟨rfl, ⟨rfl, ⟨rfl, ⟨rfl, ⟨rfl, ⟨rfl, trivial⟩⟩⟩⟩⟩⟩⟩⟩ ?_
  exact hK121 _ _ _ _ _ _ _ _ h
def w202_l121 (Q : Int32 → ri_H → Prop) : Nat → Int32 → Int32 → Int32 → Int32 → Int32 → Int32 → Int32 → ri_H → Prop
  | 0, _, _, _, _, _, _, _, _ => False
  | n + 1, x1, x2, x3, x4, x5, x6, x7, S => ((x5 ≤ x7 → Q x5 S) ∧ (¬ (x5 ≤ x7) → ((x6 = 0 → w202_b145  (fun x1 x2 x3 x4 x5 x6 x7 S => w202_l121   Q n x1 x2 x3 x4 x5 x6 x7 S) Q x1 x2 x3 x4 x5 x6 x7 x7 S) ∧ (¬ (x6 = 0) → w202_b145  (fun x1 x2 x3 x4 x5 x6 x7 S => w202_l121   Q n x1 x2 x3 x4 x5 x6 x7 S) Q x1 x2 x3 x4 x5 x6 x7 ((x5 - (1 : Int32)) - x7) S))))
set_option maxRecDepth 10000 in
set_option maxHeartbeats 1000000 in
theorem wt202_l121 {E : ri_E} {Q : Int32 → ri_H → Prop} : ∀ (n : Nat) (x1 : Int32) (x2 : Int32) (x3 : Int32) (x4 : Int32) (x5 : Int32) (x6 : Int32) (x7 : Int32) (S : ri_H), w202_l121   Q n x1 x2 x3 x4 x5 x6 x7 S → ri_A E 2 (202, 121, [some (.ref 50), some (.int x1), some (.int x2), some (.int x3), some (.int x4), some (.int x5), some (.int x6), some (.int x7), none], []) S (Qi Q) := by
  intro n
  induction n with
  | zero => intro x1 x2 x3 x4 x5 x6 x7 S h; exact h.elim
  | succ n ih =>
    intro x1 x2 x3 x4 x5 x6 x7 S h
    unfold w202_l121 at h
    refine A_br (x5 ≤ x7) (r1 := ((202, 182, [some (.ref 50), some (.int x1), some (.int x2), some (.int x3), some (.int x4), some (.int x5), some (.int x6), some (.int x7), none], []), S)) (r2 := ((202, 128, [some (.ref 50), some (.int x1), some (.int x2), some (.int x3), some (.int x4), some (.int x5), some (.int x6), some (.int x7), none], []), S)) 3 rfl (fun c => ?_) (fun c => ?_)
    · have h := h.1 c
      exact A_ret 2 (m := 202) (v := some (.int x5)) (S' := S) rfl rfl ⟨_, rfl, h⟩
    · have h := h.2 c
      refine A_br (x6 = 0) (r1 := ((202, 143, [some (.ref 50), some (.int x1), some (.int x2), some (.int x3), some (.int x4), some (.int x5), some (.int x6), some (.int x7), none], []), S)) (r2 := ((202, 133, [some (.ref 50), some (.int x1), some (.int x2), some (.int x3), some (.int x4), some (.int x5), some (.int x6), some (.int x7), none], []), S)) 2 rfl (fun c => ?_) (fun c => ?_)
      · have h := h.1 c
        refine A_nx 1 (fr' := (202, 145, [some (.ref 50), some (.int x1), some (.int x2), some (.int x3), some (.int x4), some (.int x5), some (.int x6), some (.int x7), none], [.int x7])) (S' := S) rfl ?_
        refine ri_A.less (m := 202) (pc := 145) (L := [some (.ref 50), some (.int x1), some (.int x2), some (.int x3), some (.int x4), some (.int x5), some (.int x6), some (.int x7), none]) (L' := [some (.ref 50), some (.int x1), some (.int x2), some (.int x3), some (.int x4), some (.int x5), some (.int x6), some (.int x7), none]) (st := [.int x7]) ⟨rfl, ⟨rfl, ⟨rfl, ⟨rfl, ⟨rfl, ⟨rfl, ⟨rfl, ⟨rfl, trivial⟩⟩⟩⟩⟩⟩⟩⟩ ?_
        exact wt202_b145  (fun x1 x2 x3 x4 x5 x6 x7 S hk => ih x1 x2 x3 x4 x5 x6 x7 S hk) _ _ _ _ _ _ _ _ _ h
      · have h := h.2 c
        refine A_nx 6 (fr' := (202, 145, [some (.ref 50), some (.int x1), some (.int x2), some (.int x3), some (.int x4), some (.int x5), some (.int x6), some (.int x7), none], [.int ((x5 - (1 : Int32)) - x7)])) (S' := S) rfl ?_
        refine ri_A.less (m := 202) (pc := 145) (L := [some (.ref 50), some (.int x1), some (.int x2), some (.int x3), some (.int x4), some (.int x5), some (.int x6), some (.int x7), none]) (L' := [some (.ref 50), some (.int x1), some (.int x2), some (.int x3), some (.int x4), some (.int x5), some (.int x6), some (.int x7), none]) (st := [.int ((x5 - (1 : Int32)) - x7)]) ⟨rfl, ⟨rfl, ⟨rfl, ⟨rfl, ⟨rfl, ⟨rfl, ⟨rfl, ⟨rfl, trivial⟩⟩⟩⟩⟩⟩⟩⟩ ?_
        exact wt202_b145  (fun x1 x2 x3 x4 x5 x6 x7 S hk => ih x1 x2 x3 x4 x5 x6 x7 S hk) _ _ _ _ _ _ _ _ _ h
def w202_b116 (Q : Int32 → ri_H → Prop) (x1 : Int32) (x2 : Int32) (x3 : Int32) (x4 : Int32) (x5 : Int32) (s0 : Int32) (S : ri_H) : Prop := ∃ nn, w202_l121   Q nn x1 x2 x3 x4 x5 s0 (0 : Int32) S
set_option maxRecDepth 10000 in
set_option maxHeartbeats 1000000 in
theorem wt202_b116 {E : ri_E} {Q : Int32 → ri_H → Prop} (x1 : Int32) (x2 : Int32) (x3 : Int32) (x4 : Int32) (x5 : Int32) (s0 : Int32) (S : ri_H) (h : w202_b116   Q x1 x2 x3 x4 x5 s0 S) : ri_A E 2 (202, 116, [some (.ref 50), some (.int x1), some (.int x2), some (.int x3), some (.int x4), some (.int x5), none, none, none], [.int s0]) S (Qi Q) := by
  unfold w202_b116 at h
  refine A_nx 3 (fr' := (202, 121, [some (.ref 50), some (.int x1), some (.int x2), some (.int x3), some (.int x4), some (.int x5), some (.int s0), some (.int (0 : Int32)), none], [])) (S' := S) rfl ?_
  refine ri_A.less (m := 202) (pc := 121) (L := [some (.ref 50), some (.int x1), some (.int x2), some (.int x3), some (.int x4), some (.int x5), some (.int s0), some (.int (0 : Int32)), none]) (L' := [some (.ref 50), some (.int x1), some (.int x2), some (.int x3), some (.int x4), some (.int x5), some (.int s0), some (.int (0 : Int32)), none]) (st := []) ⟨rfl, ⟨rfl, ⟨rfl, ⟨rfl, ⟨rfl, ⟨rfl, ⟨rfl, ⟨rfl, trivial⟩⟩⟩⟩⟩⟩⟩⟩ ?_
  obtain ⟨nn, h⟩ := h
  exact wt202_l121   nn _ _ _ _ _ _ _ _ h
def w202_b115 (Q : Int32 → ri_H → Prop) (x1 : Int32) (x2 : Int32) (x3 : Int32) (x4 : Int32) (x5 : Int32) (S : ri_H) : Prop := w202_b116   Q x1 x2 x3 x4 x5 (0 : Int32) S
set_option maxRecDepth 10000 in
set_option maxHeartbeats 1000000 in
theorem wt202_b115 {E : ri_E} {Q : Int32 → ri_H → Prop} (x1 : Int32) (x2 : Int32) (x3 : Int32) (x4 : Int32) (x5 : Int32) (S : ri_H) (h : w202_b115   Q x1 x2 x3 x4 x5 S) : ri_A E 2 (202, 115, [some (.ref 50), some (.int x1), some (.int x2), some (.int x3), some (.int x4), some (.int x5), none, none, none], []) S (Qi Q) := by
  unfold w202_b115 at h
  refine A_nx 1 (fr' := (202, 116, [some (.ref 50), some (.int x1), some (.int x2), some (.int x3), some (.int x4), some (.int x5), none, none, none], [.int (0 : Int32)])) (S' := S) rfl ?_
  refine ri_A.less (m := 202) (pc := 116) (L := [some (.ref 50), some (.int x1), some (.int x2), some (.int x3), some (.int x4), some (.int x5), none, none, none]) (L' := [some (.ref 50), some (.int x1), some (.int x2), some (.int x3), some (.int x4), some (.int x5), none, none, none]) (st := [.int (0 : Int32)]) ⟨rfl, ⟨rfl, ⟨rfl, ⟨rfl, ⟨rfl, ⟨rfl, trivial⟩⟩⟩⟩⟩⟩ ?_
  exact wt202_b116   _ _ _ _ _ _ _ h
def w202 (a : Int32) (b : Int32) (g : Int32) (d : Int32) (q : Int32) (S : ri_H) (Q : Int32 → ri_H → Prop) : Prop := w199 a S (fun (r2 : Int32) (S1 : ri_H) => ((r2 = 0 → Q (-2 : Int32) S1) ∧ (¬ (r2 = 0) → w199 g S1 (fun (r4 : Int32) (S3 : ri_H) => ((¬ r4 = 0 → (vp_in a 4 ∧ (((S3.1 66 (a).toNatClampNeg) = 0 → Q (-11 : Int32) S3) ∧ (¬ (S3.1 66 (a).toNatClampNeg) = 0 → (vp_in g 4 ∧ ((¬ (S3.1 66 (g).toNatClampNeg) = 0 → (vp_in a 4 ∧ (vp_in g 4 ∧ (((S3.1 67 (a).toNatClampNeg) = (S3.1 67 (g).toNatClampNeg) → ((q < 0 → Q (-12 : Int32) S3) ∧ (¬ (q < 0) → ((b < 0 → Q (-12 : Int32) S3) ∧ (¬ (b < 0) → ((d < 0 → Q (-12 : Int32) S3) ∧ (¬ (d < 0) → (vp_in a 4 ∧ ((((S3.1 68 (a).toNatClampNeg) - q) < b → Q (-12 : Int32) S3) ∧ (¬ ((S3.1 68 (a).toNatClampNeg) - q) < b → (vp_in g 4 ∧ ((d ≤ ((S3.1 68 (g).toNatClampNeg) - q) → ((¬ a = g → w202_b115   Q a b g d q S3) ∧ (¬ (¬ a = g) → ((d ≤ b → w202_b115   Q a b g d q S3) ∧ (¬ (d ≤ b) → w202_b116   Q a b g d q (1 : Int32) S3))))) ∧ (¬ (d ≤ ((S3.1 68 (g).toNatClampNeg) - q)) → Q (-12 : Int32) S3))))))))))))) ∧ (¬ (S3.1 67 (a).toNatClampNeg) = (S3.1 67 (g).toNatClampNeg) → Q (-13 : Int32) S3))))) ∧ (¬ (¬ (S3.1 66 (g).toNatClampNeg) = 0) → Q (-11 : Int32) S3))))))) ∧ (¬ (¬ r4 = 0) → Q (-2 : Int32) S3))))))
set_option maxRecDepth 10000 in
set_option maxHeartbeats 1000000 in
theorem wt202 {E : ri_E} (a : Int32) (b : Int32) (g : Int32) (d : Int32) (q : Int32) {S : ri_H} {Q : Int32 → ri_H → Prop} (h : w202  a b g d q S Q) : ri_A E 2 (ri_en 202 [.ref 50, .int a, .int b, .int g, .int d, .int q]) S (Qi Q) := by
  unfold w202 at h
  show ri_A E 2 (202, 0, [some (.ref 50), some (.int a), some (.int b), some (.int g), some (.int d), some (.int q), none, none, none], []) S (Qi Q)
  refine A_call (j := 199) (As := [.int a]) (fr' := (202, 4, [some (.ref 50), some (.int a), some (.int b), some (.int g), some (.int d), some (.int q), none, none, none], [])) (S' := S) 2 rfl (e := 1) (by omega) (A_imp (wt199 a h) (fun v S1 hq => ?_))
  obtain ⟨r2, hv, h⟩ := hq
  subst hv
  refine A_br (r2 = 0) (r1 := ((202, 14, [some (.ref 50), some (.int a), some (.int b), some (.int g), some (.int d), some (.int q), none, none, none], []), S1)) (r2 := ((202, 7, [some (.ref 50), some (.int a), some (.int b), some (.int g), some (.int d), some (.int q), none, none, none], []), S1)) 1 rfl (fun c => ?_) (fun c => ?_)
  · have h := h.1 c
    exact A_ret 2 (m := 202) (v := some (.int (-2 : Int32))) (S' := S1) rfl rfl ⟨_, rfl, h⟩
  · have h := h.2 c
    refine A_call (j := 199) (As := [.int g]) (fr' := (202, 11, [some (.ref 50), some (.int a), some (.int b), some (.int g), some (.int d), some (.int q), none, none, none], [])) (S' := S1) 2 rfl (e := 1) (by omega) (A_imp (wt199 g h) (fun v S3 hq => ?_))
    obtain ⟨r4, hv, h⟩ := hq
    subst hv
    refine A_br (¬ r4 = 0) (r1 := ((202, 17, [some (.ref 50), some (.int a), some (.int b), some (.int g), some (.int d), some (.int q), none, none, none], []), S3)) (r2 := ((202, 14, [some (.ref 50), some (.int a), some (.int b), some (.int g), some (.int d), some (.int q), none, none, none], []), S3)) 1 rfl (fun c => ?_) (fun c => ?_)
    · have h := h.1 c
      refine A_ix a 4 (r1 := ((202, 23, [some (.ref 50), some (.int a), some (.int b), some (.int g), some (.int d), some (.int q), none, none, none], [.int (S3.1 66 (a).toNatClampNeg)]), S3)) 4 rfl h.1 ?_
      have h := h.2
      refine A_br ((S3.1 66 (a).toNatClampNeg) = 0) (r1 := ((202, 35, [some (.ref 50), some (.int a), some (.int b), some (.int g), some (.int d), some (.int q), none, none, none], []), S3)) (r2 := ((202, 26, [some (.ref 50), some (.int a), some (.int b), some (.int g), some (.int d), some (.int q), none, none, none], []), S3)) 1 rfl (fun c => ?_) (fun c => ?_)
      · have h := h.1 c
        exact A_ret 2 (m := 202) (v := some (.int (-11 : Int32))) (S' := S3) rfl rfl ⟨_, rfl, h⟩
      · have h := h.2 c
        refine A_ix g 4 (r1 := ((202, 32, [some (.ref 50), some (.int a), some (.int b), some (.int g), some (.int d), some (.int q), none, none, none], [.int (S3.1 66 (g).toNatClampNeg)]), S3)) 4 rfl h.1 ?_
        have h := h.2
        refine A_br (¬ (S3.1 66 (g).toNatClampNeg) = 0) (r1 := ((202, 38, [some (.ref 50), some (.int a), some (.int b), some (.int g), some (.int d), some (.int q), none, none, none], []), S3)) (r2 := ((202, 35, [some (.ref 50), some (.int a), some (.int b), some (.int g), some (.int d), some (.int q), none, none, none], []), S3)) 1 rfl (fun c => ?_) (fun c => ?_)
        · have h := h.1 c
          refine A_ix a 4 (r1 := ((202, 44, [some (.ref 50), some (.int a), some (.int b), some (.int g), some (.int d), some (.int q), none, none, none], [.int (S3.1 67 (a).toNatClampNeg)]), S3)) 4 rfl h.1 ?_
          have h := h.2
          refine A_ix g 4 (r1 := ((202, 50, [some (.ref 50), some (.int a), some (.int b), some (.int g), some (.int d), some (.int q), none, none, none], [.int (S3.1 67 (g).toNatClampNeg), .int (S3.1 67 (a).toNatClampNeg)]), S3)) 4 rfl h.1 ?_
          have h := h.2
          refine A_br ((S3.1 67 (a).toNatClampNeg) = (S3.1 67 (g).toNatClampNeg)) (r1 := ((202, 56, [some (.ref 50), some (.int a), some (.int b), some (.int g), some (.int d), some (.int q), none, none, none], []), S3)) (r2 := ((202, 53, [some (.ref 50), some (.int a), some (.int b), some (.int g), some (.int d), some (.int q), none, none, none], []), S3)) 1 rfl (fun c => ?_) (fun c => ?_)
          · have h := h.1 c
            refine A_br (q < 0) (r1 := ((202, 97, [some (.ref 50), some (.int a), some (.int b), some (.int g), some (.int d), some (.int q), none, none, none], []), S3)) (r2 := ((202, 61, [some (.ref 50), some (.int a), some (.int b), some (.int g), some (.int d), some (.int q), none, none, none], []), S3)) 2 rfl (fun c => ?_) (fun c => ?_)
            · have h := h.1 c
              exact A_ret 2 (m := 202) (v := some (.int (-12 : Int32))) (S' := S3) rfl rfl ⟨_, rfl, h⟩
            · have h := h.2 c
              refine A_br (b < 0) (r1 := ((202, 97, [some (.ref 50), some (.int a), some (.int b), some (.int g), some (.int d), some (.int q), none, none, none], []), S3)) (r2 := ((202, 65, [some (.ref 50), some (.int a), some (.int b), some (.int g), some (.int d), some (.int q), none, none, none], []), S3)) 2 rfl (fun c => ?_) (fun c => ?_)
              · have h := h.1 c
                exact A_ret 2 (m := 202) (v := some (.int (-12 : Int32))) (S' := S3) rfl rfl ⟨_, rfl, h⟩
              · have h := h.2 c
                refine A_br (d < 0) (r1 := ((202, 97, [some (.ref 50), some (.int a), some (.int b), some (.int g), some (.int d), some (.int q), none, none, none], []), S3)) (r2 := ((202, 70, [some (.ref 50), some (.int a), some (.int b), some (.int g), some (.int d), some (.int q), none, none, none], []), S3)) 2 rfl (fun c => ?_) (fun c => ?_)
                · have h := h.1 c
                  exact A_ret 2 (m := 202) (v := some (.int (-12 : Int32))) (S' := S3) rfl rfl ⟨_, rfl, h⟩
                · have h := h.2 c
                  refine A_ix a 4 (r1 := ((202, 77, [some (.ref 50), some (.int a), some (.int b), some (.int g), some (.int d), some (.int q), none, none, none], [.int (S3.1 68 (a).toNatClampNeg), .int b]), S3)) 5 rfl h.1 ?_
                  have h := h.2
                  refine A_br (((S3.1 68 (a).toNatClampNeg) - q) < b) (r1 := ((202, 97, [some (.ref 50), some (.int a), some (.int b), some (.int g), some (.int d), some (.int q), none, none, none], []), S3)) (r2 := ((202, 83, [some (.ref 50), some (.int a), some (.int b), some (.int g), some (.int d), some (.int q), none, none, none], []), S3)) 3 rfl (fun c => ?_) (fun c => ?_)
                  · have h := h.1 c
                    exact A_ret 2 (m := 202) (v := some (.int (-12 : Int32))) (S' := S3) rfl rfl ⟨_, rfl, h⟩
                  · have h := h.2 c
                    refine A_ix g 4 (r1 := ((202, 91, [some (.ref 50), some (.int a), some (.int b), some (.int g), some (.int d), some (.int q), none, none, none], [.int (S3.1 68 (g).toNatClampNeg), .int d]), S3)) 5 rfl h.1 ?_
                    have h := h.2
                    refine A_br (d ≤ ((S3.1 68 (g).toNatClampNeg) - q)) (r1 := ((202, 100, [some (.ref 50), some (.int a), some (.int b), some (.int g), some (.int d), some (.int q), none, none, none], []), S3)) (r2 := ((202, 97, [some (.ref 50), some (.int a), some (.int b), some (.int g), some (.int d), some (.int q), none, none, none], []), S3)) 3 rfl (fun c => ?_) (fun c => ?_)
                    · have h := h.1 c
                      refine A_br (¬ a = g) (r1 := ((202, 115, [some (.ref 50), some (.int a), some (.int b), some (.int g), some (.int d), some (.int q), none, none, none], []), S3)) (r2 := ((202, 105, [some (.ref 50), some (.int a), some (.int b), some (.int g), some (.int d), some (.int q), none, none, none], []), S3)) 3 rfl (fun c => ?_) (fun c => ?_)
                      · have h := h.1 c
                        refine ri_A.less (m := 202) (pc := 115) (L := [some (.ref 50), some (.int a), some (.int b), some (.int g), some (.int d), some (.int q), none, none, none]) (L' := [some (.ref 50), some (.int a), some (.int b), some (.int g), some (.int d), some (.int q), none, none, none]) (st := []) ⟨rfl, ⟨rfl, ⟨rfl, ⟨rfl, ⟨rfl, ⟨rfl, trivial⟩⟩⟩⟩⟩⟩ ?_
                        exact wt202_b115   _ _ _ _ _ _ h
                      · have h := h.2 c
                        refine A_br (d ≤ b) (r1 := ((202, 115, [some (.ref 50), some (.int a), some (.int b), some (.int g), some (.int d), some (.int q), none, none, none], []), S3)) (r2 := ((202, 111, [some (.ref 50), some (.int a), some (.int b), some (.int g), some (.int d), some (.int q), none, none, none], []), S3)) 3 rfl (fun c => ?_) (fun c => ?_)
                        · have h := h.1 c
                          refine ri_A.less (m := 202) (pc := 115) (L := [some (.ref 50), some (.int a), some (.int b), some (.int g), some (.int d), some (.int q), none, none, none]) (L' := [some (.ref 50), some (.int a), some (.int b), some (.int g), some (.int d), some (.int q), none, none, none]) (st := []) ⟨rfl, ⟨rfl, ⟨rfl, ⟨rfl, ⟨rfl, ⟨rfl, trivial⟩⟩⟩⟩⟩⟩ ?_
                          exact wt202_b115   _ _ _ _ _ _ h
                        · have h := h.2 c
                          refine A_nx 2 (fr' := (202, 116, [some (.ref 50), some (.int a), some (.int b), some (.int g), some (.int d), some (.int q), none, none, none], [.int (1 : Int32)])) (S' := S3) rfl ?_
                          refine ri_A.less (m := 202) (pc := 116) (L := [some (.ref 50), some (.int a), some (.int b), some (.int g), some (.int d), some (.int q), none, none, none]) (L' := [some (.ref 50), some (.int a), some (.int b), some (.int g), some (.int d), some (.int q), none, none, none]) (st := [.int (1 : Int32)]) ⟨rfl, ⟨rfl, ⟨rfl, ⟨rfl, ⟨rfl, ⟨rfl, trivial⟩⟩⟩⟩⟩⟩ ?_
                          exact wt202_b116   _ _ _ _ _ _ _ h
                    · have h := h.2 c
                      exact A_ret 2 (m := 202) (v := some (.int (-12 : Int32))) (S' := S3) rfl rfl ⟨_, rfl, h⟩
          · have h := h.2 c
            exact A_ret 2 (m := 202) (v := some (.int (-13 : Int32))) (S' := S3) rfl rfl ⟨_, rfl, h⟩
        · have h := h.2 c
          exact A_ret 2 (m := 202) (v := some (.int (-11 : Int32))) (S' := S3) rfl rfl ⟨_, rfl, h⟩
    · have h := h.2 c
      exact A_ret 2 (m := 202) (v := some (.int (-2 : Int32))) (S' := S3) rfl rfl ⟨_, rfl, h⟩
/-! X5_lives, depth 3 -/
def w203_b158 (K75 : Int32 → Int32 → Int32 → Int32 → Int32 → ri_H → Prop) (Q : Int32 → ri_H → Prop) (x1 : Int32) (x3 : Int32) (x4 : Int32) (x6 : Int32) (s0 : Int32) (s1 : Int32) (S : ri_H) : Prop := K75 x1 x3 x4 (s1 + s0) (x6 + (1 : Int32)) S
set_option maxRecDepth 10000 in
set_option maxHeartbeats 1000000 in
theorem wt203_b158 {E : ri_E} {K75 : Int32 → Int32 → Int32 → Int32 → Int32 → ri_H → Prop} {Q : Int32 → ri_H → Prop} (hK75 : ∀ (x1 : Int32) (x3 : Int32) (x4 : Int32) (x5 : Int32) (x6 : Int32) (S : ri_H), K75 x1 x3 x4 x5 x6 S → ri_A E 3 (203, 75, [some (.ref 50), some (.int x1), none, some (.int x3), some (.int x4), some (.int x5), some (.int x6), none], []) S (Qi Q)) (x1 : Int32) (x3 : Int32) (x4 : Int32) (x6 : Int32) (s0 : Int32) (s1 : Int32) (S : ri_H) (h : w203_b158  K75 Q x1 x3 x4 x6 s0 s1 S) : ri_A E 3 (203, 158, [some (.ref 50), some (.int x1), none, some (.int x3), some (.int x4), none, some (.int x6), none], [.int s0, .int s1]) S (Qi Q) := by
  unfold w203_b158 at h
  refine A_nx 4 (fr' := (203, 75, [some (.ref 50), some (.int x1), none, some (.int x3), some (.int x4), some (.int (s1 + s0)), some (.int (x6 + (1 : Int32))), none], [])) (S' := S) rfl ?_
  refine ri_A.less (m := 203) (pc := 75) (L := [some (.ref 50), some (.int x1), none, some (.int x3), some (.int x4), some (.int (s1 + s0)), some (.int (x6 + (1 : Int32))), none]) (L' := [some (.ref 50), some (.int x1), none, some (.int x3), some (.int x4), some (.int (s1 + s0)), some (.int (x6 + (1 : Int32))), none]) (st := []) ⟨rfl, ⟨rfl, ⟨rfl, ⟨rfl, ⟨rfl, ⟨rfl, trivial⟩⟩⟩⟩⟩⟩ ?_
  exact hK75 _ _ _ _ _ _ h
def w203_l75 (Q : Int32 → ri_H → Prop) : Nat → Int32 → Int32 → Int32 → Int32 → Int32 → ri_H → Prop
  | 0, _, _, _, _, _, _ => False
  | n + 1, x1, x3, x4, x5, x6, S => ((x4 ≤ x6 → Q x5 S) ∧ (¬ (x4 ≤ x6) → ((x3 < 0 → Q (-12 : Int32) S) ∧ (¬ (x3 < 0) → (vp_in x1 4 ∧ ((x3 ≤ (((S.1 68 (x1).toNatClampNeg) - ((3 : Int32) * x6)) - (3 : Int32)) → (vp_in ((((40 : Int32) * x1) + x3) + ((3 : Int32) * x6)) 160 ∧ (vp_in (((((40 : Int32) * x1) + x3) + ((3 : Int32) * x6)) + (1 : Int32)) 160 ∧ (vp_in (((((40 : Int32) * x1) + x3) + ((3 : Int32) * x6)) + (2 : Int32)) 160 ∧ w111 (S.1 69 (((((40 : Int32) * x1) + x3) + ((3 : Int32) * x6))).toNatClampNeg) (S.1 69 ((((((40 : Int32) * x1) + x3) + ((3 : Int32) * x6)) + (1 : Int32))).toNatClampNeg) (S.1 69 ((((((40 : Int32) * x1) + x3) + ((3 : Int32) * x6)) + (2 : Int32))).toNatClampNeg) S (fun (r8 : Int32) (S7 : ri_H) => ((r8 < 0 → w203_b158  (fun x1 x3 x4 x5 x6 S => w203_l75   Q n x1 x3 x4 x5 x6 S) Q x1 x3 x4 x6 (0 : Int32) x5 S7) ∧ (¬ (r8 < 0) → w203_b158  (fun x1 x3 x4 x5 x6 S => w203_l75   Q n x1 x3 x4 x5 x6 S) Q x1 x3 x4 x6 (1 : Int32) x5 S7))))))) ∧ (¬ (x3 ≤ (((S.1 68 (x1).toNatClampNeg) - ((3 : Int32) * x6)) - (3 : Int32))) → Q (-12 : Int32) S)))))))
set_option maxRecDepth 10000 in
set_option maxHeartbeats 1000000 in
theorem wt203_l75 {E : ri_E} {Q : Int32 → ri_H → Prop} : ∀ (n : Nat) (x1 : Int32) (x3 : Int32) (x4 : Int32) (x5 : Int32) (x6 : Int32) (S : ri_H), w203_l75   Q n x1 x3 x4 x5 x6 S → ri_A E 3 (203, 75, [some (.ref 50), some (.int x1), none, some (.int x3), some (.int x4), some (.int x5), some (.int x6), none], []) S (Qi Q) := by
  intro n
  induction n with
  | zero => intro x1 x3 x4 x5 x6 S h; exact h.elim
  | succ n ih =>
    intro x1 x3 x4 x5 x6 S h
    unfold w203_l75 at h
    refine A_br (x4 ≤ x6) (r1 := ((203, 167, [some (.ref 50), some (.int x1), none, some (.int x3), some (.int x4), some (.int x5), some (.int x6), none], []), S)) (r2 := ((203, 82, [some (.ref 50), some (.int x1), none, some (.int x3), some (.int x4), some (.int x5), some (.int x6), none], []), S)) 3 rfl (fun c => ?_) (fun c => ?_)
    · have h := h.1 c
      exact A_ret 2 (m := 203) (v := some (.int x5)) (S' := S) rfl rfl ⟨_, rfl, h⟩
    · have h := h.2 c
      refine A_br (x3 < 0) (r1 := ((203, 103, [some (.ref 50), some (.int x1), none, some (.int x3), some (.int x4), some (.int x5), some (.int x6), none], []), S)) (r2 := ((203, 86, [some (.ref 50), some (.int x1), none, some (.int x3), some (.int x4), some (.int x5), some (.int x6), none], []), S)) 2 rfl (fun c => ?_) (fun c => ?_)
      · have h := h.1 c
        exact A_ret 2 (m := 203) (v := some (.int (-12 : Int32))) (S' := S) rfl rfl ⟨_, rfl, h⟩
      · have h := h.2 c
        refine A_ix x1 4 (r1 := ((203, 93, [some (.ref 50), some (.int x1), none, some (.int x3), some (.int x4), some (.int x5), some (.int x6), none], [.int (S.1 68 (x1).toNatClampNeg), .int x3]), S)) 5 rfl h.1 ?_
        have h := h.2
        refine A_br (x3 ≤ (((S.1 68 (x1).toNatClampNeg) - ((3 : Int32) * x6)) - (3 : Int32))) (r1 := ((203, 106, [some (.ref 50), some (.int x1), none, some (.int x3), some (.int x4), some (.int x5), some (.int x6), none], []), S)) (r2 := ((203, 103, [some (.ref 50), some (.int x1), none, some (.int x3), some (.int x4), some (.int x5), some (.int x6), none], []), S)) 7 rfl (fun c => ?_) (fun c => ?_)
        · have h := h.1 c
          refine A_ix ((((40 : Int32) * x1) + x3) + ((3 : Int32) * x6)) 160 (r1 := ((203, 129, [some (.ref 50), some (.int x1), none, some (.int x3), some (.int x4), some (.int x5), some (.int x6), some (.int ((((40 : Int32) * x1) + x3) + ((3 : Int32) * x6)))], [.int (S.1 69 (((((40 : Int32) * x1) + x3) + ((3 : Int32) * x6))).toNatClampNeg), .ref 50, .int x5]), S)) 16 rfl h.1 ?_
          have h := h.2
          refine A_ix (((((40 : Int32) * x1) + x3) + ((3 : Int32) * x6)) + (1 : Int32)) 160 (r1 := ((203, 138, [some (.ref 50), some (.int x1), none, some (.int x3), some (.int x4), some (.int x5), some (.int x6), some (.int ((((40 : Int32) * x1) + x3) + ((3 : Int32) * x6)))], [.int (S.1 69 ((((((40 : Int32) * x1) + x3) + ((3 : Int32) * x6)) + (1 : Int32))).toNatClampNeg), .int (S.1 69 (((((40 : Int32) * x1) + x3) + ((3 : Int32) * x6))).toNatClampNeg), .ref 50, .int x5]), S)) 6 rfl h.1 ?_
          have h := h.2
          refine A_ix (((((40 : Int32) * x1) + x3) + ((3 : Int32) * x6)) + (2 : Int32)) 160 (r1 := ((203, 147, [some (.ref 50), some (.int x1), none, some (.int x3), some (.int x4), some (.int x5), some (.int x6), some (.int ((((40 : Int32) * x1) + x3) + ((3 : Int32) * x6)))], [.int (S.1 69 ((((((40 : Int32) * x1) + x3) + ((3 : Int32) * x6)) + (2 : Int32))).toNatClampNeg), .int (S.1 69 ((((((40 : Int32) * x1) + x3) + ((3 : Int32) * x6)) + (1 : Int32))).toNatClampNeg), .int (S.1 69 (((((40 : Int32) * x1) + x3) + ((3 : Int32) * x6))).toNatClampNeg), .ref 50, .int x5]), S)) 6 rfl h.1 ?_
          have h := h.2
          refine A_call (j := 111) (As := [.ref 50, .int (S.1 69 (((((40 : Int32) * x1) + x3) + ((3 : Int32) * x6))).toNatClampNeg), .int (S.1 69 ((((((40 : Int32) * x1) + x3) + ((3 : Int32) * x6)) + (1 : Int32))).toNatClampNeg), .int (S.1 69 ((((((40 : Int32) * x1) + x3) + ((3 : Int32) * x6)) + (2 : Int32))).toNatClampNeg)]) (fr' := (203, 150, [some (.ref 50), some (.int x1), none, some (.int x3), some (.int x4), some (.int x5), some (.int x6), some (.int ((((40 : Int32) * x1) + x3) + ((3 : Int32) * x6)))], [.int x5])) (S' := S) 1 rfl (e := 2) (by omega) (A_imp (wt111 (S.1 69 (((((40 : Int32) * x1) + x3) + ((3 : Int32) * x6))).toNatClampNeg) (S.1 69 ((((((40 : Int32) * x1) + x3) + ((3 : Int32) * x6)) + (1 : Int32))).toNatClampNeg) (S.1 69 ((((((40 : Int32) * x1) + x3) + ((3 : Int32) * x6)) + (2 : Int32))).toNatClampNeg) h) (fun v S7 hq => ?_))
          obtain ⟨r8, hv, h⟩ := hq
          subst hv
          refine A_br (r8 < 0) (r1 := ((203, 157, [some (.ref 50), some (.int x1), none, some (.int x3), some (.int x4), some (.int x5), some (.int x6), some (.int ((((40 : Int32) * x1) + x3) + ((3 : Int32) * x6)))], [.int x5]), S7)) (r2 := ((203, 153, [some (.ref 50), some (.int x1), none, some (.int x3), some (.int x4), some (.int x5), some (.int x6), some (.int ((((40 : Int32) * x1) + x3) + ((3 : Int32) * x6)))], [.int x5]), S7)) 1 rfl (fun c => ?_) (fun c => ?_)
          · have h := h.1 c
            refine A_nx 1 (fr' := (203, 158, [some (.ref 50), some (.int x1), none, some (.int x3), some (.int x4), some (.int x5), some (.int x6), some (.int ((((40 : Int32) * x1) + x3) + ((3 : Int32) * x6)))], [.int (0 : Int32), .int x5])) (S' := S7) rfl ?_
            refine ri_A.less (m := 203) (pc := 158) (L := [some (.ref 50), some (.int x1), none, some (.int x3), some (.int x4), some (.int x5), some (.int x6), some (.int ((((40 : Int32) * x1) + x3) + ((3 : Int32) * x6)))]) (L' := [some (.ref 50), some (.int x1), none, some (.int x3), some (.int x4), none, some (.int x6), none]) (st := [.int (0 : Int32), .int x5]) ⟨rfl, ⟨rfl, ⟨rfl, ⟨rfl, ⟨rfl, trivial⟩⟩⟩⟩⟩ ?_
            exact wt203_b158  (fun x1 x3 x4 x5 x6 S hk => ih x1 x3 x4 x5 x6 S hk) _ _ _ _ _ _ _ h
          · have h := h.2 c
            refine A_nx 2 (fr' := (203, 158, [some (.ref 50), some (.int x1), none, some (.int x3), some (.int x4), some (.int x5), some (.int x6), some (.int ((((40 : Int32) * x1) + x3) + ((3 : Int32) * x6)))], [.int (1 : Int32), .int x5])) (S' := S7) rfl ?_
            refine ri_A.less (m := 203) (pc := 158) (L := [some (.ref 50), some (.int x1), none, some (.int x3), some (.int x4), some (.int x5), some (.int x6), some (.int ((((40 : Int32) * x1) + x3) + ((3 : Int32) * x6)))]) (L' := [some (.ref 50), some (.int x1), none, some (.int x3), some (.int x4), none, some (.int x6), none]) (st := [.int (1 : Int32), .int x5]) ⟨rfl, ⟨rfl, ⟨rfl, ⟨rfl, ⟨rfl, trivial⟩⟩⟩⟩⟩ ?_
            exact wt203_b158  (fun x1 x3 x4 x5 x6 S hk => ih x1 x3 x4 x5 x6 S hk) _ _ _ _ _ _ _ h
        · have h := h.2 c
          exact A_ret 2 (m := 203) (v := some (.int (-12 : Int32))) (S' := S) rfl rfl ⟨_, rfl, h⟩
def w203_b57 (Q : Int32 → ri_H → Prop) (x1 : Int32) (x3 : Int32) (x4 : Int32) (S : ri_H) : Prop := (vp_in x1 4 ∧ ((¬ (S.1 66 (x1).toNatClampNeg) = 0 → ∃ nn, w203_l75   Q nn x1 x3 x4 (0 : Int32) (0 : Int32) S) ∧ (¬ (¬ (S.1 66 (x1).toNatClampNeg) = 0) → Q (-11 : Int32) S)))
set_option maxRecDepth 10000 in
set_option maxHeartbeats 1000000 in
theorem wt203_b57 {E : ri_E} {Q : Int32 → ri_H → Prop} (x1 : Int32) (x3 : Int32) (x4 : Int32) (S : ri_H) (h : w203_b57   Q x1 x3 x4 S) : ri_A E 3 (203, 57, [some (.ref 50), some (.int x1), none, some (.int x3), some (.int x4), none, none, none], []) S (Qi Q) := by
  unfold w203_b57 at h
  refine A_ix x1 4 (r1 := ((203, 63, [some (.ref 50), some (.int x1), none, some (.int x3), some (.int x4), none, none, none], [.int (S.1 66 (x1).toNatClampNeg)]), S)) 4 rfl h.1 ?_
  have h := h.2
  refine A_br (¬ (S.1 66 (x1).toNatClampNeg) = 0) (r1 := ((203, 69, [some (.ref 50), some (.int x1), none, some (.int x3), some (.int x4), none, none, none], []), S)) (r2 := ((203, 66, [some (.ref 50), some (.int x1), none, some (.int x3), some (.int x4), none, none, none], []), S)) 1 rfl (fun c => ?_) (fun c => ?_)
  · have h := h.1 c
    refine A_nx 4 (fr' := (203, 75, [some (.ref 50), some (.int x1), none, some (.int x3), some (.int x4), some (.int (0 : Int32)), some (.int (0 : Int32)), none], [])) (S' := S) rfl ?_
    refine ri_A.less (m := 203) (pc := 75) (L := [some (.ref 50), some (.int x1), none, some (.int x3), some (.int x4), some (.int (0 : Int32)), some (.int (0 : Int32)), none]) (L' := [some (.ref 50), some (.int x1), none, some (.int x3), some (.int x4), some (.int (0 : Int32)), some (.int (0 : Int32)), none]) (st := []) ⟨rfl, ⟨rfl, ⟨rfl, ⟨rfl, ⟨rfl, ⟨rfl, trivial⟩⟩⟩⟩⟩⟩ ?_
    obtain ⟨nn, h⟩ := h
    exact wt203_l75   nn _ _ _ _ _ _ h
  · have h := h.2 c
    exact A_ret 2 (m := 203) (v := some (.int (-11 : Int32))) (S' := S) rfl rfl ⟨_, rfl, h⟩
def w203 (a : Int32) (b : Int32) (g : Int32) (d : Int32) (S : ri_H) (Q : Int32 → ri_H → Prop) : Prop := w199 a S (fun (r2 : Int32) (S1 : ri_H) => ((r2 = 0 → Q (-2 : Int32) S1) ∧ (¬ (r2 = 0) → w102 (b).toInt64 (0 : Int64) (2 : Int64) S1 (fun (r4 : Int32) (S3 : ri_H) => ((r4 = 0 → Q (-2 : Int32) S3) ∧ (¬ (r4 = 0) → w102 (d).toInt64 (0 : Int64) (5 : Int64) S3 (fun (r6 : Int32) (S5 : ri_H) => ((¬ r6 = 0 → (vp_in a 4 ∧ (((S5.1 66 (a).toNatClampNeg) = 0 → w203_b57   Q a g d S5) ∧ (¬ (S5.1 66 (a).toNatClampNeg) = 0 → (vp_in a 4 ∧ (((S5.1 67 (a).toNatClampNeg) = b → w203_b57   Q a g d S5) ∧ (¬ (S5.1 67 (a).toNatClampNeg) = b → Q (-13 : Int32) S5))))))) ∧ (¬ (¬ r6 = 0) → Q (-2 : Int32) S5)))))))))
set_option maxRecDepth 10000 in
set_option maxHeartbeats 1000000 in
theorem wt203 {E : ri_E} (a : Int32) (b : Int32) (g : Int32) (d : Int32) {S : ri_H} {Q : Int32 → ri_H → Prop} (h : w203  a b g d S Q) : ri_A E 3 (ri_en 203 [.ref 50, .int a, .int b, .int g, .int d]) S (Qi Q) := by
  unfold w203 at h
  show ri_A E 3 (203, 0, [some (.ref 50), some (.int a), some (.int b), some (.int g), some (.int d), none, none, none], []) S (Qi Q)
  refine A_call (j := 199) (As := [.int a]) (fr' := (203, 4, [some (.ref 50), some (.int a), some (.int b), some (.int g), some (.int d), none, none, none], [])) (S' := S) 2 rfl (e := 1) (by omega) (A_imp (wt199 a h) (fun v S1 hq => ?_))
  obtain ⟨r2, hv, h⟩ := hq
  subst hv
  refine A_br (r2 = 0) (r1 := ((203, 32, [some (.ref 50), some (.int a), some (.int b), some (.int g), some (.int d), none, none, none], []), S1)) (r2 := ((203, 7, [some (.ref 50), some (.int a), some (.int b), some (.int g), some (.int d), none, none, none], []), S1)) 1 rfl (fun c => ?_) (fun c => ?_)
  · have h := h.1 c
    exact A_ret 2 (m := 203) (v := some (.int (-2 : Int32))) (S' := S1) rfl rfl ⟨_, rfl, h⟩
  · have h := h.2 c
    refine A_call (j := 102) (As := [.long (b).toInt64, .long (0 : Int64), .long (2 : Int64)]) (fr' := (203, 16, [some (.ref 50), some (.int a), some (.int b), some (.int g), some (.int d), none, none, none], [])) (S' := S1) 5 rfl (e := 0) (by omega) (A_imp (wt102 (b).toInt64 (0 : Int64) (2 : Int64) h) (fun v S3 hq => ?_))
    obtain ⟨r4, hv, h⟩ := hq
    subst hv
    refine A_br (r4 = 0) (r1 := ((203, 32, [some (.ref 50), some (.int a), some (.int b), some (.int g), some (.int d), none, none, none], []), S3)) (r2 := ((203, 19, [some (.ref 50), some (.int a), some (.int b), some (.int g), some (.int d), none, none, none], []), S3)) 1 rfl (fun c => ?_) (fun c => ?_)
    · have h := h.1 c
      exact A_ret 2 (m := 203) (v := some (.int (-2 : Int32))) (S' := S3) rfl rfl ⟨_, rfl, h⟩
    · have h := h.2 c
      refine A_call (j := 102) (As := [.long (d).toInt64, .long (0 : Int64), .long (5 : Int64)]) (fr' := (203, 29, [some (.ref 50), some (.int a), some (.int b), some (.int g), some (.int d), none, none, none], [])) (S' := S3) 5 rfl (e := 0) (by omega) (A_imp (wt102 (d).toInt64 (0 : Int64) (5 : Int64) h) (fun v S5 hq => ?_))
      obtain ⟨r6, hv, h⟩ := hq
      subst hv
      refine A_br (¬ r6 = 0) (r1 := ((203, 35, [some (.ref 50), some (.int a), some (.int b), some (.int g), some (.int d), none, none, none], []), S5)) (r2 := ((203, 32, [some (.ref 50), some (.int a), some (.int b), some (.int g), some (.int d), none, none, none], []), S5)) 1 rfl (fun c => ?_) (fun c => ?_)
      · have h := h.1 c
        refine A_ix a 4 (r1 := ((203, 41, [some (.ref 50), some (.int a), some (.int b), some (.int g), some (.int d), none, none, none], [.int (S5.1 66 (a).toNatClampNeg)]), S5)) 4 rfl h.1 ?_
        have h := h.2
        refine A_br ((S5.1 66 (a).toNatClampNeg) = 0) (r1 := ((203, 57, [some (.ref 50), some (.int a), some (.int b), some (.int g), some (.int d), none, none, none], []), S5)) (r2 := ((203, 44, [some (.ref 50), some (.int a), some (.int b), some (.int g), some (.int d), none, none, none], []), S5)) 1 rfl (fun c => ?_) (fun c => ?_)
        · have h := h.1 c
          refine ri_A.less (m := 203) (pc := 57) (L := [some (.ref 50), some (.int a), some (.int b), some (.int g), some (.int d), none, none, none]) (L' := [some (.ref 50), some (.int a), none, some (.int g), some (.int d), none, none, none]) (st := []) ⟨rfl, ⟨rfl, ⟨rfl, ⟨rfl, trivial⟩⟩⟩⟩ ?_
          exact wt203_b57   _ _ _ _ h
        · have h := h.2 c
          refine A_ix a 4 (r1 := ((203, 50, [some (.ref 50), some (.int a), some (.int b), some (.int g), some (.int d), none, none, none], [.int (S5.1 67 (a).toNatClampNeg)]), S5)) 4 rfl h.1 ?_
          have h := h.2
          refine A_br ((S5.1 67 (a).toNatClampNeg) = b) (r1 := ((203, 57, [some (.ref 50), some (.int a), some (.int b), some (.int g), some (.int d), none, none, none], []), S5)) (r2 := ((203, 54, [some (.ref 50), some (.int a), some (.int b), some (.int g), some (.int d), none, none, none], []), S5)) 2 rfl (fun c => ?_) (fun c => ?_)
          · have h := h.1 c
            refine ri_A.less (m := 203) (pc := 57) (L := [some (.ref 50), some (.int a), some (.int b), some (.int g), some (.int d), none, none, none]) (L' := [some (.ref 50), some (.int a), none, some (.int g), some (.int d), none, none, none]) (st := []) ⟨rfl, ⟨rfl, ⟨rfl, ⟨rfl, trivial⟩⟩⟩⟩ ?_
            exact wt203_b57   _ _ _ _ h
          · have h := h.2 c
            exact A_ret 2 (m := 203) (v := some (.int (-13 : Int32))) (S' := S5) rfl rfl ⟨_, rfl, h⟩
      · have h := h.2 c
        exact A_ret 2 (m := 203) (v := some (.int (-2 : Int32))) (S' := S5) rfl rfl ⟨_, rfl, h⟩
/-! X5_over, depth 0 -/
def w204 (a : Int32) (S : ri_H) (Q : Int32 → ri_H → Prop) : Prop := ((¬ a = 0 → ((¬ a = (3 : Int32) → ((¬ a = (4 : Int32) → Q (0 : Int32) S) ∧ (¬ (¬ a = (4 : Int32)) → Q (2 : Int32) S))) ∧ (¬ (¬ a = (3 : Int32)) → Q (1 : Int32) S))) ∧ (¬ (¬ a = 0) → Q (-1 : Int32) S))
set_option maxRecDepth 10000 in
set_option maxHeartbeats 1000000 in
theorem wt204 {E : ri_E} (a : Int32) {S : ri_H} {Q : Int32 → ri_H → Prop} (h : w204  a S Q) : ri_A E 0 (ri_en 204 [.int a]) S (Qi Q) := by
  unfold w204 at h
  show ri_A E 0 (204, 0, [some (.int a)], []) S (Qi Q)
  refine A_br (¬ a = 0) (r1 := ((204, 8, [some (.int a)], []), S)) (r2 := ((204, 4, [some (.int a)], []), S)) 2 rfl (fun c => ?_) (fun c => ?_)
  · have h := h.1 c
    refine A_br (¬ a = (3 : Int32)) (r1 := ((204, 17, [some (.int a)], []), S)) (r2 := ((204, 13, [some (.int a)], []), S)) 3 rfl (fun c => ?_) (fun c => ?_)
    · have h := h.1 c
      refine A_br (¬ a = (4 : Int32)) (r1 := ((204, 26, [some (.int a)], []), S)) (r2 := ((204, 22, [some (.int a)], []), S)) 3 rfl (fun c => ?_) (fun c => ?_)
      · have h := h.1 c
        exact A_ret 2 (m := 204) (v := some (.int (0 : Int32))) (S' := S) rfl rfl ⟨_, rfl, h⟩
      · have h := h.2 c
        exact A_ret 3 (m := 204) (v := some (.int (2 : Int32))) (S' := S) rfl rfl ⟨_, rfl, h⟩
    · have h := h.2 c
      exact A_ret 3 (m := 204) (v := some (.int (1 : Int32))) (S' := S) rfl rfl ⟨_, rfl, h⟩
  · have h := h.2 c
    exact A_ret 3 (m := 204) (v := some (.int (-1 : Int32))) (S' := S) rfl rfl ⟨_, rfl, h⟩
/-! X5_taken, depth 2 -/
def w205_b55 (Q : Int32 → ri_H → Prop) (x1 : Int32) (x2 : Int32) (x3 : Int32) (S : ri_H) : Prop := ((¬ x3 = x2 → Q (-13 : Int32) S) ∧ (¬ (¬ x3 = x2) → (vp_in ((5 : Int32) * x1) 25 ∧ Q (S.1 56 (((5 : Int32) * x1)).toNatClampNeg) S)))
set_option maxRecDepth 10000 in
set_option maxHeartbeats 1000000 in
theorem wt205_b55 {E : ri_E} {Q : Int32 → ri_H → Prop} (x1 : Int32) (x2 : Int32) (x3 : Int32) (S : ri_H) (h : w205_b55   Q x1 x2 x3 S) : ri_A E 2 (205, 55, [some (.ref 50), some (.int x1), some (.int x2), some (.int x3)], []) S (Qi Q) := by
  unfold w205_b55 at h
  refine A_br (¬ x3 = x2) (r1 := ((205, 71, [some (.ref 50), some (.int x1), some (.int x2), some (.int x3)], []), S)) (r2 := ((205, 60, [some (.ref 50), some (.int x1), some (.int x2), some (.int x3)], []), S)) 3 rfl (fun c => ?_) (fun c => ?_)
  · have h := h.1 c
    exact A_ret 2 (m := 205) (v := some (.int (-13 : Int32))) (S' := S) rfl rfl ⟨_, rfl, h⟩
  · have h := h.2 c
    refine A_ix ((5 : Int32) * x1) 25 (r1 := ((205, 68, [some (.ref 50), some (.int x1), some (.int x2), some (.int x3)], [.int (S.1 56 (((5 : Int32) * x1)).toNatClampNeg)]), S)) 6 rfl h.1 ?_
    have h := h.2
    exact A_ret 2 (m := 205) (v := some (.int (S.1 56 (((5 : Int32) * x1)).toNatClampNeg))) (S' := S) rfl rfl ⟨_, rfl, h⟩
def w205_l37 (Q : Int32 → ri_H → Prop) : Nat → Int32 → Int32 → Int32 → ri_H → Prop
  | 0, _, _, _, _ => False
  | n + 1, x1, x2, x3, S => ((x3 = (-1 : Int32) → w205_b55   Q x1 x2 x3 S) ∧ (¬ (x3 = (-1 : Int32)) → ((x3 = x2 → w205_b55   Q x1 x2 x3 S) ∧ (¬ (x3 = x2) → w204 x3 S (fun (r6 : Int32) (S5 : ri_H) => w205_l37   Q n x1 x2 r6 S5)))))
set_option maxRecDepth 10000 in
set_option maxHeartbeats 1000000 in
theorem wt205_l37 {E : ri_E} {Q : Int32 → ri_H → Prop} : ∀ (n : Nat) (x1 : Int32) (x2 : Int32) (x3 : Int32) (S : ri_H), w205_l37   Q n x1 x2 x3 S → ri_A E 2 (205, 37, [some (.ref 50), some (.int x1), some (.int x2), some (.int x3)], []) S (Qi Q) := by
  intro n
  induction n with
  | zero => intro x1 x2 x3 S h; exact h.elim
  | succ n ih =>
    intro x1 x2 x3 S h
    unfold w205_l37 at h
    refine A_br (x3 = (-1 : Int32)) (r1 := ((205, 55, [some (.ref 50), some (.int x1), some (.int x2), some (.int x3)], []), S)) (r2 := ((205, 42, [some (.ref 50), some (.int x1), some (.int x2), some (.int x3)], []), S)) 3 rfl (fun c => ?_) (fun c => ?_)
    · have h := h.1 c
      refine ri_A.less (m := 205) (pc := 55) (L := [some (.ref 50), some (.int x1), some (.int x2), some (.int x3)]) (L' := [some (.ref 50), some (.int x1), some (.int x2), some (.int x3)]) (st := []) ⟨rfl, ⟨rfl, ⟨rfl, ⟨rfl, trivial⟩⟩⟩⟩ ?_
      exact wt205_b55   _ _ _ _ h
    · have h := h.2 c
      refine A_br (x3 = x2) (r1 := ((205, 55, [some (.ref 50), some (.int x1), some (.int x2), some (.int x3)], []), S)) (r2 := ((205, 47, [some (.ref 50), some (.int x1), some (.int x2), some (.int x3)], []), S)) 3 rfl (fun c => ?_) (fun c => ?_)
      · have h := h.1 c
        refine ri_A.less (m := 205) (pc := 55) (L := [some (.ref 50), some (.int x1), some (.int x2), some (.int x3)]) (L' := [some (.ref 50), some (.int x1), some (.int x2), some (.int x3)]) (st := []) ⟨rfl, ⟨rfl, ⟨rfl, ⟨rfl, trivial⟩⟩⟩⟩ ?_
        exact wt205_b55   _ _ _ _ h
      · have h := h.2 c
        refine A_call (j := 204) (As := [.int x3]) (fr' := (205, 51, [some (.ref 50), some (.int x1), some (.int x2), some (.int x3)], [])) (S' := S) 2 rfl (e := 0) (by omega) (A_imp (wt204 x3 h) (fun v S5 hq => ?_))
        obtain ⟨r6, hv, h⟩ := hq
        subst hv
        refine A_nx 2 (fr' := (205, 37, [some (.ref 50), some (.int x1), some (.int x2), some (.int r6)], [])) (S' := S5) rfl ?_
        refine ri_A.less (m := 205) (pc := 37) (L := [some (.ref 50), some (.int x1), some (.int x2), some (.int r6)]) (L' := [some (.ref 50), some (.int x1), some (.int x2), some (.int r6)]) (st := []) ⟨rfl, ⟨rfl, ⟨rfl, ⟨rfl, trivial⟩⟩⟩⟩ ?_
        exact ih _ _ _ _ h
def w205 (a : Int32) (b : Int32) (S : ri_H) (Q : Int32 → ri_H → Prop) : Prop := w102 (b).toInt64 (0 : Int64) (5 : Int64) S (fun (r2 : Int32) (S1 : ri_H) => ((¬ r2 = 0 → w104 a S1 (fun (r4 : Int32) (S3 : ri_H) => ((¬ r4 = 0 → (vp_in (((5 : Int32) * a) + (4 : Int32)) 25 ∧ ∃ nn, w205_l37   Q nn a b (S3.1 56 ((((5 : Int32) * a) + (4 : Int32))).toNatClampNeg) S3)) ∧ (¬ (¬ r4 = 0) → Q (-11 : Int32) S3)))) ∧ (¬ (¬ r2 = 0) → Q (-2 : Int32) S1)))
set_option maxRecDepth 10000 in
set_option maxHeartbeats 1000000 in
theorem wt205 {E : ri_E} (a : Int32) (b : Int32) {S : ri_H} {Q : Int32 → ri_H → Prop} (h : w205  a b S Q) : ri_A E 2 (ri_en 205 [.ref 50, .int a, .int b]) S (Qi Q) := by
  unfold w205 at h
  show ri_A E 2 (205, 0, [some (.ref 50), some (.int a), some (.int b), none], []) S (Qi Q)
  refine A_call (j := 102) (As := [.long (b).toInt64, .long (0 : Int64), .long (5 : Int64)]) (fr' := (205, 9, [some (.ref 50), some (.int a), some (.int b), none], [])) (S' := S) 5 rfl (e := 0) (by omega) (A_imp (wt102 (b).toInt64 (0 : Int64) (5 : Int64) h) (fun v S1 hq => ?_))
  obtain ⟨r2, hv, h⟩ := hq
  subst hv
  refine A_br (¬ r2 = 0) (r1 := ((205, 15, [some (.ref 50), some (.int a), some (.int b), none], []), S1)) (r2 := ((205, 12, [some (.ref 50), some (.int a), some (.int b), none], []), S1)) 1 rfl (fun c => ?_) (fun c => ?_)
  · have h := h.1 c
    refine A_call (j := 104) (As := [.ref 50, .int a]) (fr' := (205, 20, [some (.ref 50), some (.int a), some (.int b), none], [])) (S' := S1) 3 rfl (e := 1) (by omega) (A_imp (wt104 a h) (fun v S3 hq => ?_))
    obtain ⟨r4, hv, h⟩ := hq
    subst hv
    refine A_br (¬ r4 = 0) (r1 := ((205, 26, [some (.ref 50), some (.int a), some (.int b), none], []), S3)) (r2 := ((205, 23, [some (.ref 50), some (.int a), some (.int b), none], []), S3)) 1 rfl (fun c => ?_) (fun c => ?_)
    · have h := h.1 c
      refine A_ix (((5 : Int32) * a) + (4 : Int32)) 25 (r1 := ((205, 36, [some (.ref 50), some (.int a), some (.int b), none], [.int (S3.1 56 ((((5 : Int32) * a) + (4 : Int32))).toNatClampNeg)]), S3)) 8 rfl h.1 ?_
      have h := h.2
      refine A_nx 1 (fr' := (205, 37, [some (.ref 50), some (.int a), some (.int b), some (.int (S3.1 56 ((((5 : Int32) * a) + (4 : Int32))).toNatClampNeg))], [])) (S' := S3) rfl ?_
      refine ri_A.less (m := 205) (pc := 37) (L := [some (.ref 50), some (.int a), some (.int b), some (.int (S3.1 56 ((((5 : Int32) * a) + (4 : Int32))).toNatClampNeg))]) (L' := [some (.ref 50), some (.int a), some (.int b), some (.int (S3.1 56 ((((5 : Int32) * a) + (4 : Int32))).toNatClampNeg))]) (st := []) ⟨rfl, ⟨rfl, ⟨rfl, ⟨rfl, trivial⟩⟩⟩⟩ ?_
      obtain ⟨nn, h⟩ := h
      exact wt205_l37   nn _ _ _ _ h
    · have h := h.2 c
      exact A_ret 2 (m := 205) (v := some (.int (-11 : Int32))) (S' := S3) rfl rfl ⟨_, rfl, h⟩
  · have h := h.2 c
    exact A_ret 2 (m := 205) (v := some (.int (-2 : Int32))) (S' := S1) rfl rfl ⟨_, rfl, h⟩
