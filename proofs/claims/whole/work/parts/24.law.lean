/-! the law, from its loop on -/
def w213_b1224 (E : ri_E) (K18 : Int32 → ri_H → Prop) (Q : Int32 → ri_H → Prop) (x3 : Int32) (S : ri_H) : Prop := K18 (x3 + (6 : Int32)) S
set_option maxRecDepth 10000 in
set_option maxHeartbeats 1000000 in
theorem wt213_b1224 (E : ri_E) {K18 : Int32 → ri_H → Prop} {Q : Int32 → ri_H → Prop} (hK18 : ∀ (x3 : Int32) (S : ri_H), K18 x3 S → ri_A E 66 (213, 18, [some (.ref 3000), some (.ref 0), some (.ref 50), some (.int x3)], []) S (Qi Q)) (x3 : Int32) (S : ri_H) (h : w213_b1224 E K18 Q x3 S) : ri_A E 66 (213, 1224, [some (.ref 3000), some (.ref 0), some (.ref 50), some (.int x3)], []) S (Qi Q) := by
  unfold w213_b1224 at h
  refine A_nx 2 (fr' := (213, 18, [some (.ref 3000), some (.ref 0), some (.ref 50), some (.int (x3 + (6 : Int32)))], [])) (S' := S) rfl ?_
  refine ri_A.less (m := 213) (pc := 18) (L := [some (.ref 3000), some (.ref 0), some (.ref 50), some (.int (x3 + (6 : Int32)))]) (L' := [some (.ref 3000), some (.ref 0), some (.ref 50), some (.int (x3 + (6 : Int32)))]) (st := []) ⟨rfl, ⟨rfl, ⟨rfl, ⟨rfl, trivial⟩⟩⟩⟩ ?_
  exact hK18 _ _ h
def w213_l18 (E : ri_E) (Q : Int32 → ri_H → Prop) : Nat → Int32 → ri_H → Prop
  | 0, _, _ => False
  | n + 1, x3, S => ((((Int32.ofNat E.1) - (6 : Int32)) < x3 → Q (1 : Int32) S) ∧ (¬ ((Int32.ofNat E.1) - (6 : Int32)) < x3 → (vp_in x3 E.1 ∧ (((((E.2 (x3).toNatClampNeg) &&& (31 : Int32)) < (0 : Int32) ∨ (28 : Int32) < ((E.2 (x3).toNatClampNeg) &&& (31 : Int32))) → w213_b1224 E (fun x3 S => w213_l18 E  Q n x3 S) Q x3 S) ∧ (((E.2 (x3).toNatClampNeg) &&& (31 : Int32)) = (0 : Int32) → (vp_in (x3 + (1 : Int32)) E.1 ∧ (vp_in (x3 + (2 : Int32)) E.1 ∧ (vp_in (x3 + (3 : Int32)) E.1 ∧ w47 (E.2 ((x3 + (1 : Int32))).toNatClampNeg) (E.2 ((x3 + (2 : Int32))).toNatClampNeg) (E.2 ((x3 + (3 : Int32))).toNatClampNeg) S (fun (r2 : Int32) (S1 : ri_H) => (vp_in (x3 + (1 : Int32)) E.1 ∧ (vp_in (x3 + (2 : Int32)) E.1 ∧ (vp_in (x3 + (3 : Int32)) E.1 ∧ w109 (E.2 ((x3 + (1 : Int32))).toNatClampNeg) (E.2 ((x3 + (2 : Int32))).toNatClampNeg) (E.2 ((x3 + (3 : Int32))).toNatClampNeg) S1 (fun (r4 : Int32) (S3 : ri_H) => ((r2 = r4 → w213_b1224 E (fun x3 S => w213_l18 E  Q n x3 S) Q x3 S3) ∧ (¬ (r2 = r4) → Q (0 : Int32) S3))))))))))) ∧ (((E.2 (x3).toNatClampNeg) &&& (31 : Int32)) = (1 : Int32) → (vp_in (x3 + (1 : Int32)) E.1 ∧ (vp_in (x3 + (2 : Int32)) E.1 ∧ (vp_in (x3 + (3 : Int32)) E.1 ∧ w48 (E.2 ((x3 + (1 : Int32))).toNatClampNeg) (E.2 ((x3 + (2 : Int32))).toNatClampNeg) (E.2 ((x3 + (3 : Int32))).toNatClampNeg) S (fun (r6 : Int32) (S5 : ri_H) => (vp_in (x3 + (1 : Int32)) E.1 ∧ (vp_in (x3 + (2 : Int32)) E.1 ∧ (vp_in (x3 + (3 : Int32)) E.1 ∧ w111 (E.2 ((x3 + (1 : Int32))).toNatClampNeg) (E.2 ((x3 + (2 : Int32))).toNatClampNeg) (E.2 ((x3 + (3 : Int32))).toNatClampNeg) S5 (fun (r8 : Int32) (S7 : ri_H) => ((r6 = r8 → w213_b1224 E (fun x3 S => w213_l18 E  Q n x3 S) Q x3 S7) ∧ (¬ (r6 = r8) → Q (0 : Int32) S7))))))))))) ∧ (((E.2 (x3).toNatClampNeg) &&& (31 : Int32)) = (2 : Int32) → (vp_in (x3 + (1 : Int32)) E.1 ∧ (vp_in (x3 + (2 : Int32)) E.1 ∧ w49 (E.2 ((x3 + (1 : Int32))).toNatClampNeg) (E.2 ((x3 + (2 : Int32))).toNatClampNeg) S (fun (r10 : Int32) (S9 : ri_H) => (vp_in (x3 + (1 : Int32)) E.1 ∧ (vp_in (x3 + (2 : Int32)) E.1 ∧ w112 (E.2 ((x3 + (1 : Int32))).toNatClampNeg) (E.2 ((x3 + (2 : Int32))).toNatClampNeg) S9 (fun (r12 : Int32) (S11 : ri_H) => ((r10 = r12 → w213_b1224 E (fun x3 S => w213_l18 E  Q n x3 S) Q x3 S11) ∧ (¬ (r10 = r12) → Q (0 : Int32) S11))))))))) ∧ (((E.2 (x3).toNatClampNeg) &&& (31 : Int32)) = (3 : Int32) → (vp_in (x3 + (1 : Int32)) E.1 ∧ (vp_in (x3 + (2 : Int32)) E.1 ∧ w50 (E.2 ((x3 + (1 : Int32))).toNatClampNeg) (E.2 ((x3 + (2 : Int32))).toNatClampNeg) S (fun (r14 : Int32) (S13 : ri_H) => (vp_in (x3 + (1 : Int32)) E.1 ∧ (vp_in (x3 + (2 : Int32)) E.1 ∧ w168 (E.2 ((x3 + (1 : Int32))).toNatClampNeg) (E.2 ((x3 + (2 : Int32))).toNatClampNeg) S13 (fun (r16 : Int32) (S15 : ri_H) => ((r14 = r16 → w213_b1224 E (fun x3 S => w213_l18 E  Q n x3 S) Q x3 S15) ∧ (¬ (r14 = r16) → Q (0 : Int32) S15))))))))) ∧ (((E.2 (x3).toNatClampNeg) &&& (31 : Int32)) = (4 : Int32) → (vp_in (x3 + (1 : Int32)) E.1 ∧ w51 (E.2 ((x3 + (1 : Int32))).toNatClampNeg) S (fun (r18 : Int32) (S17 : ri_H) => (vp_in (x3 + (1 : Int32)) E.1 ∧ w115 (E.2 ((x3 + (1 : Int32))).toNatClampNeg) S17 (fun (r20 : Int32) (S19 : ri_H) => ((r18 = r20 → w213_b1224 E (fun x3 S => w213_l18 E  Q n x3 S) Q x3 S19) ∧ (¬ (r18 = r20) → Q (0 : Int32) S19))))))) ∧ (((E.2 (x3).toNatClampNeg) &&& (31 : Int32)) = (5 : Int32) → w52  S (fun (r22 : Int32) (S21 : ri_H) => w162  S21 (fun (r24 : Int32) (S23 : ri_H) => ((r22 = r24 → w213_b1224 E (fun x3 S => w213_l18 E  Q n x3 S) Q x3 S23) ∧ (¬ (r22 = r24) → Q (0 : Int32) S23))))) ∧ (((E.2 (x3).toNatClampNeg) &&& (31 : Int32)) = (6 : Int32) → (vp_in (x3 + (1 : Int32)) E.1 ∧ w53 (E.2 ((x3 + (1 : Int32))).toNatClampNeg) S (fun (r26 : Int32) (S25 : ri_H) => (vp_in (x3 + (1 : Int32)) E.1 ∧ w163 (E.2 ((x3 + (1 : Int32))).toNatClampNeg) S25 (fun (r28 : Int32) (S27 : ri_H) => ((r26 = r28 → w213_b1224 E (fun x3 S => w213_l18 E  Q n x3 S) Q x3 S27) ∧ (¬ (r26 = r28) → Q (0 : Int32) S27))))))) ∧ (((E.2 (x3).toNatClampNeg) &&& (31 : Int32)) = (7 : Int32) → w54  S (fun (r30 : Int32) (S29 : ri_H) => w172  S29 (fun (r32 : Int32) (S31 : ri_H) => ((r30 = r32 → w213_b1224 E (fun x3 S => w213_l18 E  Q n x3 S) Q x3 S31) ∧ (¬ (r30 = r32) → Q (0 : Int32) S31))))) ∧ (((E.2 (x3).toNatClampNeg) &&& (31 : Int32)) = (8 : Int32) → (vp_in (x3 + (1 : Int32)) E.1 ∧ (vp_in (x3 + (2 : Int32)) E.1 ∧ w55 (E.2 ((x3 + (1 : Int32))).toNatClampNeg) (E.2 ((x3 + (2 : Int32))).toNatClampNeg) S (fun (r34 : Int32) (S33 : ri_H) => (vp_in (x3 + (1 : Int32)) E.1 ∧ (vp_in (x3 + (2 : Int32)) E.1 ∧ w173 (E.2 ((x3 + (1 : Int32))).toNatClampNeg) (E.2 ((x3 + (2 : Int32))).toNatClampNeg) S33 (fun (r36 : Int32) (S35 : ri_H) => ((r34 = r36 → w213_b1224 E (fun x3 S => w213_l18 E  Q n x3 S) Q x3 S35) ∧ (¬ (r34 = r36) → Q (0 : Int32) S35))))))))) ∧ (((E.2 (x3).toNatClampNeg) &&& (31 : Int32)) = (9 : Int32) → (vp_in (x3 + (1 : Int32)) E.1 ∧ (vp_in (x3 + (2 : Int32)) E.1 ∧ (vp_in (x3 + (3 : Int32)) E.1 ∧ w56 (E.2 ((x3 + (1 : Int32))).toNatClampNeg) (E.2 ((x3 + (2 : Int32))).toNatClampNeg) (E.2 ((x3 + (3 : Int32))).toNatClampNeg) S (fun (r38 : Int32) (S37 : ri_H) => (vp_in (x3 + (1 : Int32)) E.1 ∧ (vp_in (x3 + (2 : Int32)) E.1 ∧ (vp_in (x3 + (3 : Int32)) E.1 ∧ w176 (E.2 ((x3 + (1 : Int32))).toNatClampNeg) (E.2 ((x3 + (2 : Int32))).toNatClampNeg) (E.2 ((x3 + (3 : Int32))).toNatClampNeg) S37 (fun (r40 : Int32) (S39 : ri_H) => ((r38 = r40 → w213_b1224 E (fun x3 S => w213_l18 E  Q n x3 S) Q x3 S39) ∧ (¬ (r38 = r40) → Q (0 : Int32) S39))))))))))) ∧ (((E.2 (x3).toNatClampNeg) &&& (31 : Int32)) = (10 : Int32) → (vp_in (x3 + (1 : Int32)) E.1 ∧ (vp_in (x3 + (2 : Int32)) E.1 ∧ (vp_in (x3 + (3 : Int32)) E.1 ∧ w57 (E.2 ((x3 + (1 : Int32))).toNatClampNeg) (E.2 ((x3 + (2 : Int32))).toNatClampNeg) (E.2 ((x3 + (3 : Int32))).toNatClampNeg) S (fun (r42 : Int32) (S41 : ri_H) => (vp_in (x3 + (1 : Int32)) E.1 ∧ (vp_in (x3 + (2 : Int32)) E.1 ∧ (vp_in (x3 + (3 : Int32)) E.1 ∧ w177 (E.2 ((x3 + (1 : Int32))).toNatClampNeg) (E.2 ((x3 + (2 : Int32))).toNatClampNeg) (E.2 ((x3 + (3 : Int32))).toNatClampNeg) S41 (fun (r44 : Int32) (S43 : ri_H) => ((r42 = r44 → w213_b1224 E (fun x3 S => w213_l18 E  Q n x3 S) Q x3 S43) ∧ (¬ (r42 = r44) → Q (0 : Int32) S43))))))))))) ∧ (((E.2 (x3).toNatClampNeg) &&& (31 : Int32)) = (11 : Int32) → (vp_in (x3 + (1 : Int32)) E.1 ∧ (vp_in (x3 + (2 : Int32)) E.1 ∧ (vp_in (x3 + (3 : Int32)) E.1 ∧ w58 (E.2 ((x3 + (1 : Int32))).toNatClampNeg) (E.2 ((x3 + (2 : Int32))).toNatClampNeg) (E.2 ((x3 + (3 : Int32))).toNatClampNeg) S (fun (r46 : Int64) (S45 : ri_H) => (vp_in (x3 + (1 : Int32)) E.1 ∧ (vp_in (x3 + (2 : Int32)) E.1 ∧ (vp_in (x3 + (3 : Int32)) E.1 ∧ w179 (E.2 ((x3 + (1 : Int32))).toNatClampNeg) (E.2 ((x3 + (2 : Int32))).toNatClampNeg) (E.2 ((x3 + (3 : Int32))).toNatClampNeg) S45 (fun (r48 : Int64) (S47 : ri_H) => (((lg_cmp r46 r48) = 0 → w213_b1224 E (fun x3 S => w213_l18 E  Q n x3 S) Q x3 S47) ∧ (¬ (lg_cmp r46 r48) = 0 → Q (0 : Int32) S47))))))))))) ∧ (((E.2 (x3).toNatClampNeg) &&& (31 : Int32)) = (12 : Int32) → (vp_in (x3 + (1 : Int32)) E.1 ∧ (vp_in (x3 + (2 : Int32)) E.1 ∧ (vp_in (x3 + (3 : Int32)) E.1 ∧ (vp_in (x3 + (4 : Int32)) E.1 ∧ w59 (E.2 ((x3 + (1 : Int32))).toNatClampNeg) (E.2 ((x3 + (2 : Int32))).toNatClampNeg) (E.2 ((x3 + (3 : Int32))).toNatClampNeg) (E.2 ((x3 + (4 : Int32))).toNatClampNeg) S (fun (r50 : Int64) (S49 : ri_H) => (vp_in (x3 + (1 : Int32)) E.1 ∧ (vp_in (x3 + (2 : Int32)) E.1 ∧ (vp_in (x3 + (3 : Int32)) E.1 ∧ (vp_in (x3 + (4 : Int32)) E.1 ∧ w181 (E.2 ((x3 + (1 : Int32))).toNatClampNeg) (E.2 ((x3 + (2 : Int32))).toNatClampNeg) (E.2 ((x3 + (3 : Int32))).toNatClampNeg) (E.2 ((x3 + (4 : Int32))).toNatClampNeg) S49 (fun (r52 : Int64) (S51 : ri_H) => (((lg_cmp r50 r52) = 0 → w213_b1224 E (fun x3 S => w213_l18 E  Q n x3 S) Q x3 S51) ∧ (¬ (lg_cmp r50 r52) = 0 → Q (0 : Int32) S51))))))))))))) ∧ (((E.2 (x3).toNatClampNeg) &&& (31 : Int32)) = (13 : Int32) → (vp_in (x3 + (1 : Int32)) E.1 ∧ (vp_in (x3 + (2 : Int32)) E.1 ∧ (vp_in (x3 + (3 : Int32)) E.1 ∧ w60 (E.2 ((x3 + (1 : Int32))).toNatClampNeg) (E.2 ((x3 + (2 : Int32))).toNatClampNeg) (E.2 ((x3 + (3 : Int32))).toNatClampNeg) S (fun (r54 : Int32) (S53 : ri_H) => (vp_in (x3 + (1 : Int32)) E.1 ∧ (vp_in (x3 + (2 : Int32)) E.1 ∧ (vp_in (x3 + (3 : Int32)) E.1 ∧ w182 (E.2 ((x3 + (1 : Int32))).toNatClampNeg) (E.2 ((x3 + (2 : Int32))).toNatClampNeg) (E.2 ((x3 + (3 : Int32))).toNatClampNeg) S53 (fun (r56 : Int32) (S55 : ri_H) => ((r54 = r56 → w213_b1224 E (fun x3 S => w213_l18 E  Q n x3 S) Q x3 S55) ∧ (¬ (r54 = r56) → Q (0 : Int32) S55))))))))))) ∧ (((E.2 (x3).toNatClampNeg) &&& (31 : Int32)) = (14 : Int32) → (vp_in (x3 + (1 : Int32)) E.1 ∧ (vp_in (x3 + (2 : Int32)) E.1 ∧ w61 (E.2 ((x3 + (1 : Int32))).toNatClampNeg) (E.2 ((x3 + (2 : Int32))).toNatClampNeg) S (fun (r58 : Int32) (S57 : ri_H) => (vp_in (x3 + (1 : Int32)) E.1 ∧ (vp_in (x3 + (2 : Int32)) E.1 ∧ w183 (E.2 ((x3 + (1 : Int32))).toNatClampNeg) (E.2 ((x3 + (2 : Int32))).toNatClampNeg) S57 (fun (r60 : Int32) (S59 : ri_H) => ((r58 = r60 → w213_b1224 E (fun x3 S => w213_l18 E  Q n x3 S) Q x3 S59) ∧ (¬ (r58 = r60) → Q (0 : Int32) S59))))))))) ∧ (((E.2 (x3).toNatClampNeg) &&& (31 : Int32)) = (15 : Int32) → (vp_in (x3 + (1 : Int32)) E.1 ∧ (vp_in (x3 + (2 : Int32)) E.1 ∧ w62 (E.2 ((x3 + (1 : Int32))).toNatClampNeg) (E.2 ((x3 + (2 : Int32))).toNatClampNeg) S (fun (r62 : Int32) (S61 : ri_H) => (vp_in (x3 + (1 : Int32)) E.1 ∧ (vp_in (x3 + (2 : Int32)) E.1 ∧ w185 (E.2 ((x3 + (1 : Int32))).toNatClampNeg) (E.2 ((x3 + (2 : Int32))).toNatClampNeg) S61 (fun (r64 : Int32) (S63 : ri_H) => ((r62 = r64 → w213_b1224 E (fun x3 S => w213_l18 E  Q n x3 S) Q x3 S63) ∧ (¬ (r62 = r64) → Q (0 : Int32) S63))))))))) ∧ (((E.2 (x3).toNatClampNeg) &&& (31 : Int32)) = (16 : Int32) → (vp_in (x3 + (1 : Int32)) E.1 ∧ (vp_in (x3 + (2 : Int32)) E.1 ∧ w63 (E.2 ((x3 + (1 : Int32))).toNatClampNeg) (E.2 ((x3 + (2 : Int32))).toNatClampNeg) S (fun (r66 : Int32) (S65 : ri_H) => (vp_in (x3 + (1 : Int32)) E.1 ∧ (vp_in (x3 + (2 : Int32)) E.1 ∧ w188 (E.2 ((x3 + (1 : Int32))).toNatClampNeg) (E.2 ((x3 + (2 : Int32))).toNatClampNeg) S65 (fun (r68 : Int32) (S67 : ri_H) => ((r66 = r68 → w213_b1224 E (fun x3 S => w213_l18 E  Q n x3 S) Q x3 S67) ∧ (¬ (r66 = r68) → Q (0 : Int32) S67))))))))) ∧ (((E.2 (x3).toNatClampNeg) &&& (31 : Int32)) = (17 : Int32) → (vp_in (x3 + (1 : Int32)) E.1 ∧ (vp_in (x3 + (2 : Int32)) E.1 ∧ (vp_in (x3 + (3 : Int32)) E.1 ∧ w64 (E.2 ((x3 + (1 : Int32))).toNatClampNeg) (E.2 ((x3 + (2 : Int32))).toNatClampNeg) (E.2 ((x3 + (3 : Int32))).toNatClampNeg) S (fun (r70 : Int32) (S69 : ri_H) => (vp_in (x3 + (1 : Int32)) E.1 ∧ (vp_in (x3 + (2 : Int32)) E.1 ∧ (vp_in (x3 + (3 : Int32)) E.1 ∧ w191 (E.2 ((x3 + (1 : Int32))).toNatClampNeg) (E.2 ((x3 + (2 : Int32))).toNatClampNeg) (E.2 ((x3 + (3 : Int32))).toNatClampNeg) S69 (fun (r72 : Int32) (S71 : ri_H) => ((r70 = r72 → w213_b1224 E (fun x3 S => w213_l18 E  Q n x3 S) Q x3 S71) ∧ (¬ (r70 = r72) → Q (0 : Int32) S71))))))))))) ∧ (((E.2 (x3).toNatClampNeg) &&& (31 : Int32)) = (18 : Int32) → (vp_in (x3 + (1 : Int32)) E.1 ∧ (vp_in (x3 + (2 : Int32)) E.1 ∧ (vp_in (x3 + (3 : Int32)) E.1 ∧ w65 (E.2 ((x3 + (1 : Int32))).toNatClampNeg) (E.2 ((x3 + (2 : Int32))).toNatClampNeg) (E.2 ((x3 + (3 : Int32))).toNatClampNeg) S (fun (r74 : Int32) (S73 : ri_H) => (vp_in (x3 + (1 : Int32)) E.1 ∧ (vp_in (x3 + (2 : Int32)) E.1 ∧ (vp_in (x3 + (3 : Int32)) E.1 ∧ w192 (E.2 ((x3 + (1 : Int32))).toNatClampNeg) (E.2 ((x3 + (2 : Int32))).toNatClampNeg) (E.2 ((x3 + (3 : Int32))).toNatClampNeg) S73 (fun (r76 : Int32) (S75 : ri_H) => ((r74 = r76 → w213_b1224 E (fun x3 S => w213_l18 E  Q n x3 S) Q x3 S75) ∧ (¬ (r74 = r76) → Q (0 : Int32) S75))))))))))) ∧ (((E.2 (x3).toNatClampNeg) &&& (31 : Int32)) = (19 : Int32) → (vp_in (x3 + (1 : Int32)) E.1 ∧ (vp_in (x3 + (2 : Int32)) E.1 ∧ (vp_in (x3 + (3 : Int32)) E.1 ∧ w66 (E.2 ((x3 + (1 : Int32))).toNatClampNeg) (E.2 ((x3 + (2 : Int32))).toNatClampNeg) (E.2 ((x3 + (3 : Int32))).toNatClampNeg) S (fun (r78 : Int32) (S77 : ri_H) => (vp_in (x3 + (1 : Int32)) E.1 ∧ (vp_in (x3 + (2 : Int32)) E.1 ∧ (vp_in (x3 + (3 : Int32)) E.1 ∧ w194 (E.2 ((x3 + (1 : Int32))).toNatClampNeg) (E.2 ((x3 + (2 : Int32))).toNatClampNeg) (E.2 ((x3 + (3 : Int32))).toNatClampNeg) S77 (fun (r80 : Int32) (S79 : ri_H) => ((r78 = r80 → w213_b1224 E (fun x3 S => w213_l18 E  Q n x3 S) Q x3 S79) ∧ (¬ (r78 = r80) → Q (0 : Int32) S79))))))))))) ∧ (((E.2 (x3).toNatClampNeg) &&& (31 : Int32)) = (20 : Int32) → (vp_in (x3 + (1 : Int32)) E.1 ∧ (vp_in (x3 + (2 : Int32)) E.1 ∧ (vp_in (x3 + (3 : Int32)) E.1 ∧ (vp_in (x3 + (4 : Int32)) E.1 ∧ (vp_in (x3 + (5 : Int32)) E.1 ∧ w67 (E.2 ((x3 + (1 : Int32))).toNatClampNeg) (E.2 ((x3 + (2 : Int32))).toNatClampNeg) (E.2 ((x3 + (3 : Int32))).toNatClampNeg) (E.2 ((x3 + (4 : Int32))).toNatClampNeg) (E.2 ((x3 + (5 : Int32))).toNatClampNeg) S (fun (r82 : Int64) (S81 : ri_H) => (vp_in (x3 + (1 : Int32)) E.1 ∧ (vp_in (x3 + (2 : Int32)) E.1 ∧ (vp_in (x3 + (3 : Int32)) E.1 ∧ (vp_in (x3 + (4 : Int32)) E.1 ∧ (vp_in (x3 + (5 : Int32)) E.1 ∧ w195 (E.2 ((x3 + (1 : Int32))).toNatClampNeg) (E.2 ((x3 + (2 : Int32))).toNatClampNeg) (E.2 ((x3 + (3 : Int32))).toNatClampNeg) (E.2 ((x3 + (4 : Int32))).toNatClampNeg) (E.2 ((x3 + (5 : Int32))).toNatClampNeg) S81 (fun (r84 : Int64) (S83 : ri_H) => (((lg_cmp r82 r84) = 0 → w213_b1224 E (fun x3 S => w213_l18 E  Q n x3 S) Q x3 S83) ∧ (¬ (lg_cmp r82 r84) = 0 → Q (0 : Int32) S83))))))))))))))) ∧ (((E.2 (x3).toNatClampNeg) &&& (31 : Int32)) = (21 : Int32) → w68  S (fun (r86 : Int32) (S85 : ri_H) => w196  S85 (fun (r88 : Int32) (S87 : ri_H) => ((r86 = r88 → w213_b1224 E (fun x3 S => w213_l18 E  Q n x3 S) Q x3 S87) ∧ (¬ (r86 = r88) → Q (0 : Int32) S87))))) ∧ (((E.2 (x3).toNatClampNeg) &&& (31 : Int32)) = (22 : Int32) → w69  S (fun (r90 : Int32) (S89 : ri_H) => w197  S89 (fun (r92 : Int32) (S91 : ri_H) => ((r90 = r92 → w213_b1224 E (fun x3 S => w213_l18 E  Q n x3 S) Q x3 S91) ∧ (¬ (r90 = r92) → Q (0 : Int32) S91))))) ∧ (((E.2 (x3).toNatClampNeg) &&& (31 : Int32)) = (23 : Int32) → (vp_in (x3 + (1 : Int32)) E.1 ∧ w70 (E.2 ((x3 + (1 : Int32))).toNatClampNeg) S (fun (r94 : Int32) (S93 : ri_H) => (vp_in (x3 + (1 : Int32)) E.1 ∧ w198 (E.2 ((x3 + (1 : Int32))).toNatClampNeg) S93 (fun (r96 : Int32) (S95 : ri_H) => ((r94 = r96 → w213_b1224 E (fun x3 S => w213_l18 E  Q n x3 S) Q x3 S95) ∧ (¬ (r94 = r96) → Q (0 : Int32) S95))))))) ∧ (((E.2 (x3).toNatClampNeg) &&& (31 : Int32)) = (24 : Int32) → (vp_in (x3 + (1 : Int32)) E.1 ∧ (vp_in (x3 + (2 : Int32)) E.1 ∧ (vp_in (x3 + (3 : Int32)) E.1 ∧ w71 (E.2 ((x3 + (1 : Int32))).toNatClampNeg) (E.2 ((x3 + (2 : Int32))).toNatClampNeg) (E.2 ((x3 + (3 : Int32))).toNatClampNeg) S (fun (r98 : Int32) (S97 : ri_H) => (vp_in (x3 + (1 : Int32)) E.1 ∧ (vp_in (x3 + (2 : Int32)) E.1 ∧ (vp_in (x3 + (3 : Int32)) E.1 ∧ w200 (E.2 ((x3 + (1 : Int32))).toNatClampNeg) (E.2 ((x3 + (2 : Int32))).toNatClampNeg) (E.2 ((x3 + (3 : Int32))).toNatClampNeg) S97 (fun (r100 : Int32) (S99 : ri_H) => ((r98 = r100 → w213_b1224 E (fun x3 S => w213_l18 E  Q n x3 S) Q x3 S99) ∧ (¬ (r98 = r100) → Q (0 : Int32) S99))))))))))) ∧ (((E.2 (x3).toNatClampNeg) &&& (31 : Int32)) = (25 : Int32) → (vp_in (x3 + (1 : Int32)) E.1 ∧ (vp_in (x3 + (2 : Int32)) E.1 ∧ (vp_in (x3 + (3 : Int32)) E.1 ∧ w72 (E.2 ((x3 + (1 : Int32))).toNatClampNeg) (E.2 ((x3 + (2 : Int32))).toNatClampNeg) (E.2 ((x3 + (3 : Int32))).toNatClampNeg) S (fun (r102 : Int32) (S101 : ri_H) => (vp_in (x3 + (1 : Int32)) E.1 ∧ (vp_in (x3 + (2 : Int32)) E.1 ∧ (vp_in (x3 + (3 : Int32)) E.1 ∧ w201 (E.2 ((x3 + (1 : Int32))).toNatClampNeg) (E.2 ((x3 + (2 : Int32))).toNatClampNeg) (E.2 ((x3 + (3 : Int32))).toNatClampNeg) S101 (fun (r104 : Int32) (S103 : ri_H) => ((r102 = r104 → w213_b1224 E (fun x3 S => w213_l18 E  Q n x3 S) Q x3 S103) ∧ (¬ (r102 = r104) → Q (0 : Int32) S103))))))))))) ∧ (((E.2 (x3).toNatClampNeg) &&& (31 : Int32)) = (26 : Int32) → (vp_in (x3 + (1 : Int32)) E.1 ∧ (vp_in (x3 + (2 : Int32)) E.1 ∧ (vp_in (x3 + (3 : Int32)) E.1 ∧ (vp_in (x3 + (4 : Int32)) E.1 ∧ (vp_in (x3 + (5 : Int32)) E.1 ∧ w73 (E.2 ((x3 + (1 : Int32))).toNatClampNeg) (E.2 ((x3 + (2 : Int32))).toNatClampNeg) (E.2 ((x3 + (3 : Int32))).toNatClampNeg) (E.2 ((x3 + (4 : Int32))).toNatClampNeg) (E.2 ((x3 + (5 : Int32))).toNatClampNeg) S (fun (r106 : Int32) (S105 : ri_H) => (vp_in (x3 + (1 : Int32)) E.1 ∧ (vp_in (x3 + (2 : Int32)) E.1 ∧ (vp_in (x3 + (3 : Int32)) E.1 ∧ (vp_in (x3 + (4 : Int32)) E.1 ∧ (vp_in (x3 + (5 : Int32)) E.1 ∧ w202 (E.2 ((x3 + (1 : Int32))).toNatClampNeg) (E.2 ((x3 + (2 : Int32))).toNatClampNeg) (E.2 ((x3 + (3 : Int32))).toNatClampNeg) (E.2 ((x3 + (4 : Int32))).toNatClampNeg) (E.2 ((x3 + (5 : Int32))).toNatClampNeg) S105 (fun (r108 : Int32) (S107 : ri_H) => ((r106 = r108 → w213_b1224 E (fun x3 S => w213_l18 E  Q n x3 S) Q x3 S107) ∧ (¬ (r106 = r108) → Q (0 : Int32) S107))))))))))))))) ∧ (((E.2 (x3).toNatClampNeg) &&& (31 : Int32)) = (27 : Int32) → (vp_in (x3 + (1 : Int32)) E.1 ∧ (vp_in (x3 + (2 : Int32)) E.1 ∧ (vp_in (x3 + (3 : Int32)) E.1 ∧ (vp_in (x3 + (4 : Int32)) E.1 ∧ w74 (E.2 ((x3 + (1 : Int32))).toNatClampNeg) (E.2 ((x3 + (2 : Int32))).toNatClampNeg) (E.2 ((x3 + (3 : Int32))).toNatClampNeg) (E.2 ((x3 + (4 : Int32))).toNatClampNeg) S (fun (r110 : Int32) (S109 : ri_H) => (vp_in (x3 + (1 : Int32)) E.1 ∧ (vp_in (x3 + (2 : Int32)) E.1 ∧ (vp_in (x3 + (3 : Int32)) E.1 ∧ (vp_in (x3 + (4 : Int32)) E.1 ∧ w203 (E.2 ((x3 + (1 : Int32))).toNatClampNeg) (E.2 ((x3 + (2 : Int32))).toNatClampNeg) (E.2 ((x3 + (3 : Int32))).toNatClampNeg) (E.2 ((x3 + (4 : Int32))).toNatClampNeg) S109 (fun (r112 : Int32) (S111 : ri_H) => ((r110 = r112 → w213_b1224 E (fun x3 S => w213_l18 E  Q n x3 S) Q x3 S111) ∧ (¬ (r110 = r112) → Q (0 : Int32) S111))))))))))))) ∧ (((E.2 (x3).toNatClampNeg) &&& (31 : Int32)) = (28 : Int32) → (vp_in (x3 + (1 : Int32)) E.1 ∧ (vp_in (x3 + (2 : Int32)) E.1 ∧ w75 (E.2 ((x3 + (1 : Int32))).toNatClampNeg) (E.2 ((x3 + (2 : Int32))).toNatClampNeg) S (fun (r114 : Int32) (S113 : ri_H) => (vp_in (x3 + (1 : Int32)) E.1 ∧ (vp_in (x3 + (2 : Int32)) E.1 ∧ w205 (E.2 ((x3 + (1 : Int32))).toNatClampNeg) (E.2 ((x3 + (2 : Int32))).toNatClampNeg) S113 (fun (r116 : Int32) (S115 : ri_H) => ((r114 = r116 → w213_b1224 E (fun x3 S => w213_l18 E  Q n x3 S) Q x3 S115) ∧ (¬ (r114 = r116) → Q (0 : Int32) S115)))))))))))))
set_option maxRecDepth 10000 in
set_option maxHeartbeats 1000000 in
theorem wt213_l18 (E : ri_E) {Q : Int32 → ri_H → Prop} : ∀ (n : Nat) (x3 : Int32) (S : ri_H), w213_l18 E  Q n x3 S → ri_A E 66 (213, 18, [some (.ref 3000), some (.ref 0), some (.ref 50), some (.int x3)], []) S (Qi Q) := by
  intro n
  induction n with
  | zero => intro x3 S h; exact h.elim
  | succ n ih =>
    intro x3 S h
    unfold w213_l18 at h
    refine A_br (((Int32.ofNat E.1) - (6 : Int32)) < x3) (r1 := ((213, 1230, [some (.ref 3000), some (.ref 0), some (.ref 50), some (.int x3)], []), S)) (r2 := ((213, 27, [some (.ref 3000), some (.ref 0), some (.ref 50), some (.int x3)], []), S)) 6 rfl (fun c => ?_) (fun c => ?_)
    · have h := h.1 c
      exact A_ret 2 (m := 213) (v := some (.int (1 : Int32))) (S' := S) rfl rfl ⟨_, rfl, h⟩
    · have h := h.2 c
      refine A_ix x3 E.1 (r1 := ((213, 30, [some (.ref 3000), some (.ref 0), some (.ref 50), some (.int x3)], [.int (E.2 (x3).toNatClampNeg)]), S)) 3 rfl h.1 ?_
      have h := h.2
      refine A_nx 3 (fr' := (213, ri_tgt 33 (1191) (0) (28) [131, 174, 217, 250, 283, 306, 319, 342, 355, 388, 431, 474, 518, 572, 615, 648, 681, 714, 757, 800, 843, 907, 920, 933, 956, 999, 1042, 1105, 1158] ((E.2 (x3).toNatClampNeg) &&& (31 : Int32)), [some (.ref 3000), some (.ref 0), some (.ref 50), some (.int x3)], [])) (S' := S) rfl ?_
      rcases ri_swc ((E.2 (x3).toNatClampNeg) &&& (31 : Int32)) (0) 29 (by decide) (by decide) with c | ⟨i, hi, c⟩
      · have c : ((E.2 (x3).toNatClampNeg) &&& (31 : Int32)) < Int32.ofInt (0) ∨ Int32.ofInt (28) < ((E.2 (x3).toNatClampNeg) &&& (31 : Int32)) := c
        have h := h.1 c
        rw [ri_tgt_out ((E.2 (x3).toNatClampNeg) &&& (31 : Int32)) c (by decide) (by decide)]
        refine ri_A.less (m := 213) (pc := 1224) (L := [some (.ref 3000), some (.ref 0), some (.ref 50), some (.int x3)]) (L' := [some (.ref 3000), some (.ref 0), some (.ref 50), some (.int x3)]) (st := []) ⟨rfl, ⟨rfl, ⟨rfl, ⟨rfl, trivial⟩⟩⟩⟩ ?_
        exact wt213_b1224 E (fun x3 S hk => ih x3 S hk) _ _ h
      · have h := h.2
        match i, hi, c with
        | 0, hi, c =>
          have c : ((E.2 (x3).toNatClampNeg) &&& (31 : Int32)) = (0 : Int32) := c
          have h := h.1 c
          rw [show ri_tgt 33 (1191) (0) (28) [131, 174, 217, 250, 283, 306, 319, 342, 355, 388, 431, 474, 518, 572, 615, 648, 681, 714, 757, 800, 843, 907, 920, 933, 956, 999, 1042, 1105, 1158] ((E.2 (x3).toNatClampNeg) &&& (31 : Int32)) = 164 by rw [c]; decide]
          refine A_ix (x3 + (1 : Int32)) E.1 (r1 := ((213, 170, [some (.ref 3000), some (.ref 0), some (.ref 50), some (.int x3)], [.int (E.2 ((x3 + (1 : Int32))).toNatClampNeg), .ref 0]), S)) 6 rfl h.1 ?_
          have h := h.2
          refine A_ix (x3 + (2 : Int32)) E.1 (r1 := ((213, 175, [some (.ref 3000), some (.ref 0), some (.ref 50), some (.int x3)], [.int (E.2 ((x3 + (2 : Int32))).toNatClampNeg), .int (E.2 ((x3 + (1 : Int32))).toNatClampNeg), .ref 0]), S)) 5 rfl h.1 ?_
          have h := h.2
          refine A_ix (x3 + (3 : Int32)) E.1 (r1 := ((213, 180, [some (.ref 3000), some (.ref 0), some (.ref 50), some (.int x3)], [.int (E.2 ((x3 + (3 : Int32))).toNatClampNeg), .int (E.2 ((x3 + (2 : Int32))).toNatClampNeg), .int (E.2 ((x3 + (1 : Int32))).toNatClampNeg), .ref 0]), S)) 5 rfl h.1 ?_
          have h := h.2
          refine A_call (j := 47) (As := [.ref 0, .int (E.2 ((x3 + (1 : Int32))).toNatClampNeg), .int (E.2 ((x3 + (2 : Int32))).toNatClampNeg), .int (E.2 ((x3 + (3 : Int32))).toNatClampNeg)]) (fr' := (213, 183, [some (.ref 3000), some (.ref 0), some (.ref 50), some (.int x3)], [])) (S' := S) 1 rfl (e := 2) (by omega) (A_imp (wt47 (E.2 ((x3 + (1 : Int32))).toNatClampNeg) (E.2 ((x3 + (2 : Int32))).toNatClampNeg) (E.2 ((x3 + (3 : Int32))).toNatClampNeg) h) (fun v S1 hq => ?_))
          obtain ⟨r2, hv, h⟩ := hq
          subst hv
          refine A_ix (x3 + (1 : Int32)) E.1 (r1 := ((213, 189, [some (.ref 3000), some (.ref 0), some (.ref 50), some (.int x3)], [.int (E.2 ((x3 + (1 : Int32))).toNatClampNeg), .ref 50, .int r2]), S1)) 6 rfl h.1 ?_
          have h := h.2
          refine A_ix (x3 + (2 : Int32)) E.1 (r1 := ((213, 194, [some (.ref 3000), some (.ref 0), some (.ref 50), some (.int x3)], [.int (E.2 ((x3 + (2 : Int32))).toNatClampNeg), .int (E.2 ((x3 + (1 : Int32))).toNatClampNeg), .ref 50, .int r2]), S1)) 5 rfl h.1 ?_
          have h := h.2
          refine A_ix (x3 + (3 : Int32)) E.1 (r1 := ((213, 199, [some (.ref 3000), some (.ref 0), some (.ref 50), some (.int x3)], [.int (E.2 ((x3 + (3 : Int32))).toNatClampNeg), .int (E.2 ((x3 + (2 : Int32))).toNatClampNeg), .int (E.2 ((x3 + (1 : Int32))).toNatClampNeg), .ref 50, .int r2]), S1)) 5 rfl h.1 ?_
          have h := h.2
          refine A_call (j := 109) (As := [.ref 50, .int (E.2 ((x3 + (1 : Int32))).toNatClampNeg), .int (E.2 ((x3 + (2 : Int32))).toNatClampNeg), .int (E.2 ((x3 + (3 : Int32))).toNatClampNeg)]) (fr' := (213, 202, [some (.ref 3000), some (.ref 0), some (.ref 50), some (.int x3)], [.int r2])) (S' := S1) 1 rfl (e := 62) (by omega) (A_imp (wt109 (E.2 ((x3 + (1 : Int32))).toNatClampNeg) (E.2 ((x3 + (2 : Int32))).toNatClampNeg) (E.2 ((x3 + (3 : Int32))).toNatClampNeg) h) (fun v S3 hq => ?_))
          obtain ⟨r4, hv, h⟩ := hq
          subst hv
          refine A_br (r2 = r4) (r1 := ((213, 1224, [some (.ref 3000), some (.ref 0), some (.ref 50), some (.int x3)], []), S3)) (r2 := ((213, 205, [some (.ref 3000), some (.ref 0), some (.ref 50), some (.int x3)], []), S3)) 1 rfl (fun c => ?_) (fun c => ?_)
          · have h := h.1 c
            refine ri_A.less (m := 213) (pc := 1224) (L := [some (.ref 3000), some (.ref 0), some (.ref 50), some (.int x3)]) (L' := [some (.ref 3000), some (.ref 0), some (.ref 50), some (.int x3)]) (st := []) ⟨rfl, ⟨rfl, ⟨rfl, ⟨rfl, trivial⟩⟩⟩⟩ ?_
            exact wt213_b1224 E (fun x3 S hk => ih x3 S hk) _ _ h
          · have h := h.2 c
            exact A_ret 2 (m := 213) (v := some (.int (0 : Int32))) (S' := S3) rfl rfl ⟨_, rfl, h⟩
        | 1, hi, c =>
          have c : ((E.2 (x3).toNatClampNeg) &&& (31 : Int32)) = (1 : Int32) := c
          have h := h.2.1 c
          rw [show ri_tgt 33 (1191) (0) (28) [131, 174, 217, 250, 283, 306, 319, 342, 355, 388, 431, 474, 518, 572, 615, 648, 681, 714, 757, 800, 843, 907, 920, 933, 956, 999, 1042, 1105, 1158] ((E.2 (x3).toNatClampNeg) &&& (31 : Int32)) = 207 by rw [c]; decide]
          refine A_ix (x3 + (1 : Int32)) E.1 (r1 := ((213, 213, [some (.ref 3000), some (.ref 0), some (.ref 50), some (.int x3)], [.int (E.2 ((x3 + (1 : Int32))).toNatClampNeg), .ref 0]), S)) 6 rfl h.1 ?_
          have h := h.2
          refine A_ix (x3 + (2 : Int32)) E.1 (r1 := ((213, 218, [some (.ref 3000), some (.ref 0), some (.ref 50), some (.int x3)], [.int (E.2 ((x3 + (2 : Int32))).toNatClampNeg), .int (E.2 ((x3 + (1 : Int32))).toNatClampNeg), .ref 0]), S)) 5 rfl h.1 ?_
          have h := h.2
          refine A_ix (x3 + (3 : Int32)) E.1 (r1 := ((213, 223, [some (.ref 3000), some (.ref 0), some (.ref 50), some (.int x3)], [.int (E.2 ((x3 + (3 : Int32))).toNatClampNeg), .int (E.2 ((x3 + (2 : Int32))).toNatClampNeg), .int (E.2 ((x3 + (1 : Int32))).toNatClampNeg), .ref 0]), S)) 5 rfl h.1 ?_
          have h := h.2
          refine A_call (j := 48) (As := [.ref 0, .int (E.2 ((x3 + (1 : Int32))).toNatClampNeg), .int (E.2 ((x3 + (2 : Int32))).toNatClampNeg), .int (E.2 ((x3 + (3 : Int32))).toNatClampNeg)]) (fr' := (213, 226, [some (.ref 3000), some (.ref 0), some (.ref 50), some (.int x3)], [])) (S' := S) 1 rfl (e := 2) (by omega) (A_imp (wt48 (E.2 ((x3 + (1 : Int32))).toNatClampNeg) (E.2 ((x3 + (2 : Int32))).toNatClampNeg) (E.2 ((x3 + (3 : Int32))).toNatClampNeg) h) (fun v S5 hq => ?_))
          obtain ⟨r6, hv, h⟩ := hq
          subst hv
          refine A_ix (x3 + (1 : Int32)) E.1 (r1 := ((213, 232, [some (.ref 3000), some (.ref 0), some (.ref 50), some (.int x3)], [.int (E.2 ((x3 + (1 : Int32))).toNatClampNeg), .ref 50, .int r6]), S5)) 6 rfl h.1 ?_
          have h := h.2
          refine A_ix (x3 + (2 : Int32)) E.1 (r1 := ((213, 237, [some (.ref 3000), some (.ref 0), some (.ref 50), some (.int x3)], [.int (E.2 ((x3 + (2 : Int32))).toNatClampNeg), .int (E.2 ((x3 + (1 : Int32))).toNatClampNeg), .ref 50, .int r6]), S5)) 5 rfl h.1 ?_
          have h := h.2
          refine A_ix (x3 + (3 : Int32)) E.1 (r1 := ((213, 242, [some (.ref 3000), some (.ref 0), some (.ref 50), some (.int x3)], [.int (E.2 ((x3 + (3 : Int32))).toNatClampNeg), .int (E.2 ((x3 + (2 : Int32))).toNatClampNeg), .int (E.2 ((x3 + (1 : Int32))).toNatClampNeg), .ref 50, .int r6]), S5)) 5 rfl h.1 ?_
          have h := h.2
          refine A_call (j := 111) (As := [.ref 50, .int (E.2 ((x3 + (1 : Int32))).toNatClampNeg), .int (E.2 ((x3 + (2 : Int32))).toNatClampNeg), .int (E.2 ((x3 + (3 : Int32))).toNatClampNeg)]) (fr' := (213, 245, [some (.ref 3000), some (.ref 0), some (.ref 50), some (.int x3)], [.int r6])) (S' := S5) 1 rfl (e := 2) (by omega) (A_imp (wt111 (E.2 ((x3 + (1 : Int32))).toNatClampNeg) (E.2 ((x3 + (2 : Int32))).toNatClampNeg) (E.2 ((x3 + (3 : Int32))).toNatClampNeg) h) (fun v S7 hq => ?_))
          obtain ⟨r8, hv, h⟩ := hq
          subst hv
          refine A_br (r6 = r8) (r1 := ((213, 1224, [some (.ref 3000), some (.ref 0), some (.ref 50), some (.int x3)], []), S7)) (r2 := ((213, 248, [some (.ref 3000), some (.ref 0), some (.ref 50), some (.int x3)], []), S7)) 1 rfl (fun c => ?_) (fun c => ?_)
          · have h := h.1 c
            refine ri_A.less (m := 213) (pc := 1224) (L := [some (.ref 3000), some (.ref 0), some (.ref 50), some (.int x3)]) (L' := [some (.ref 3000), some (.ref 0), some (.ref 50), some (.int x3)]) (st := []) ⟨rfl, ⟨rfl, ⟨rfl, ⟨rfl, trivial⟩⟩⟩⟩ ?_
            exact wt213_b1224 E (fun x3 S hk => ih x3 S hk) _ _ h
          · have h := h.2 c
            exact A_ret 2 (m := 213) (v := some (.int (0 : Int32))) (S' := S7) rfl rfl ⟨_, rfl, h⟩
        | 2, hi, c =>
          have c : ((E.2 (x3).toNatClampNeg) &&& (31 : Int32)) = (2 : Int32) := c
          have h := h.2.2.1 c
          rw [show ri_tgt 33 (1191) (0) (28) [131, 174, 217, 250, 283, 306, 319, 342, 355, 388, 431, 474, 518, 572, 615, 648, 681, 714, 757, 800, 843, 907, 920, 933, 956, 999, 1042, 1105, 1158] ((E.2 (x3).toNatClampNeg) &&& (31 : Int32)) = 250 by rw [c]; decide]
          refine A_ix (x3 + (1 : Int32)) E.1 (r1 := ((213, 256, [some (.ref 3000), some (.ref 0), some (.ref 50), some (.int x3)], [.int (E.2 ((x3 + (1 : Int32))).toNatClampNeg), .ref 0]), S)) 6 rfl h.1 ?_
          have h := h.2
          refine A_ix (x3 + (2 : Int32)) E.1 (r1 := ((213, 261, [some (.ref 3000), some (.ref 0), some (.ref 50), some (.int x3)], [.int (E.2 ((x3 + (2 : Int32))).toNatClampNeg), .int (E.2 ((x3 + (1 : Int32))).toNatClampNeg), .ref 0]), S)) 5 rfl h.1 ?_
          have h := h.2
          refine A_call (j := 49) (As := [.ref 0, .int (E.2 ((x3 + (1 : Int32))).toNatClampNeg), .int (E.2 ((x3 + (2 : Int32))).toNatClampNeg)]) (fr' := (213, 264, [some (.ref 3000), some (.ref 0), some (.ref 50), some (.int x3)], [])) (S' := S) 1 rfl (e := 3) (by omega) (A_imp (wt49 (E.2 ((x3 + (1 : Int32))).toNatClampNeg) (E.2 ((x3 + (2 : Int32))).toNatClampNeg) h) (fun v S9 hq => ?_))
          obtain ⟨r10, hv, h⟩ := hq
          subst hv
          refine A_ix (x3 + (1 : Int32)) E.1 (r1 := ((213, 270, [some (.ref 3000), some (.ref 0), some (.ref 50), some (.int x3)], [.int (E.2 ((x3 + (1 : Int32))).toNatClampNeg), .ref 50, .int r10]), S9)) 6 rfl h.1 ?_
          have h := h.2
          refine A_ix (x3 + (2 : Int32)) E.1 (r1 := ((213, 275, [some (.ref 3000), some (.ref 0), some (.ref 50), some (.int x3)], [.int (E.2 ((x3 + (2 : Int32))).toNatClampNeg), .int (E.2 ((x3 + (1 : Int32))).toNatClampNeg), .ref 50, .int r10]), S9)) 5 rfl h.1 ?_
          have h := h.2
          refine A_call (j := 112) (As := [.ref 50, .int (E.2 ((x3 + (1 : Int32))).toNatClampNeg), .int (E.2 ((x3 + (2 : Int32))).toNatClampNeg)]) (fr' := (213, 278, [some (.ref 3000), some (.ref 0), some (.ref 50), some (.int x3)], [.int r10])) (S' := S9) 1 rfl (e := 61) (by omega) (A_imp (wt112 (E.2 ((x3 + (1 : Int32))).toNatClampNeg) (E.2 ((x3 + (2 : Int32))).toNatClampNeg) h) (fun v S11 hq => ?_))
          obtain ⟨r12, hv, h⟩ := hq
          subst hv
          refine A_br (r10 = r12) (r1 := ((213, 1224, [some (.ref 3000), some (.ref 0), some (.ref 50), some (.int x3)], []), S11)) (r2 := ((213, 281, [some (.ref 3000), some (.ref 0), some (.ref 50), some (.int x3)], []), S11)) 1 rfl (fun c => ?_) (fun c => ?_)
          · have h := h.1 c
            refine ri_A.less (m := 213) (pc := 1224) (L := [some (.ref 3000), some (.ref 0), some (.ref 50), some (.int x3)]) (L' := [some (.ref 3000), some (.ref 0), some (.ref 50), some (.int x3)]) (st := []) ⟨rfl, ⟨rfl, ⟨rfl, ⟨rfl, trivial⟩⟩⟩⟩ ?_
            exact wt213_b1224 E (fun x3 S hk => ih x3 S hk) _ _ h
          · have h := h.2 c
            exact A_ret 2 (m := 213) (v := some (.int (0 : Int32))) (S' := S11) rfl rfl ⟨_, rfl, h⟩
        | 3, hi, c =>
          have c : ((E.2 (x3).toNatClampNeg) &&& (31 : Int32)) = (3 : Int32) := c
          have h := h.2.2.2.1 c
          rw [show ri_tgt 33 (1191) (0) (28) [131, 174, 217, 250, 283, 306, 319, 342, 355, 388, 431, 474, 518, 572, 615, 648, 681, 714, 757, 800, 843, 907, 920, 933, 956, 999, 1042, 1105, 1158] ((E.2 (x3).toNatClampNeg) &&& (31 : Int32)) = 283 by rw [c]; decide]
          refine A_ix (x3 + (1 : Int32)) E.1 (r1 := ((213, 289, [some (.ref 3000), some (.ref 0), some (.ref 50), some (.int x3)], [.int (E.2 ((x3 + (1 : Int32))).toNatClampNeg), .ref 0]), S)) 6 rfl h.1 ?_
          have h := h.2
          refine A_ix (x3 + (2 : Int32)) E.1 (r1 := ((213, 294, [some (.ref 3000), some (.ref 0), some (.ref 50), some (.int x3)], [.int (E.2 ((x3 + (2 : Int32))).toNatClampNeg), .int (E.2 ((x3 + (1 : Int32))).toNatClampNeg), .ref 0]), S)) 5 rfl h.1 ?_
          have h := h.2
          refine A_call (j := 50) (As := [.ref 0, .int (E.2 ((x3 + (1 : Int32))).toNatClampNeg), .int (E.2 ((x3 + (2 : Int32))).toNatClampNeg)]) (fr' := (213, 297, [some (.ref 3000), some (.ref 0), some (.ref 50), some (.int x3)], [])) (S' := S) 1 rfl (e := 3) (by omega) (A_imp (wt50 (E.2 ((x3 + (1 : Int32))).toNatClampNeg) (E.2 ((x3 + (2 : Int32))).toNatClampNeg) h) (fun v S13 hq => ?_))
          obtain ⟨r14, hv, h⟩ := hq
          subst hv
          refine A_ix (x3 + (1 : Int32)) E.1 (r1 := ((213, 303, [some (.ref 3000), some (.ref 0), some (.ref 50), some (.int x3)], [.int (E.2 ((x3 + (1 : Int32))).toNatClampNeg), .ref 50, .int r14]), S13)) 6 rfl h.1 ?_
          have h := h.2
          refine A_ix (x3 + (2 : Int32)) E.1 (r1 := ((213, 308, [some (.ref 3000), some (.ref 0), some (.ref 50), some (.int x3)], [.int (E.2 ((x3 + (2 : Int32))).toNatClampNeg), .int (E.2 ((x3 + (1 : Int32))).toNatClampNeg), .ref 50, .int r14]), S13)) 5 rfl h.1 ?_
          have h := h.2
          refine A_call (j := 168) (As := [.ref 50, .int (E.2 ((x3 + (1 : Int32))).toNatClampNeg), .int (E.2 ((x3 + (2 : Int32))).toNatClampNeg)]) (fr' := (213, 311, [some (.ref 3000), some (.ref 0), some (.ref 50), some (.int x3)], [.int r14])) (S' := S13) 1 rfl (e := 61) (by omega) (A_imp (wt168 (E.2 ((x3 + (1 : Int32))).toNatClampNeg) (E.2 ((x3 + (2 : Int32))).toNatClampNeg) h) (fun v S15 hq => ?_))
          obtain ⟨r16, hv, h⟩ := hq
          subst hv
          refine A_br (r14 = r16) (r1 := ((213, 1224, [some (.ref 3000), some (.ref 0), some (.ref 50), some (.int x3)], []), S15)) (r2 := ((213, 314, [some (.ref 3000), some (.ref 0), some (.ref 50), some (.int x3)], []), S15)) 1 rfl (fun c => ?_) (fun c => ?_)
          · have h := h.1 c
            refine ri_A.less (m := 213) (pc := 1224) (L := [some (.ref 3000), some (.ref 0), some (.ref 50), some (.int x3)]) (L' := [some (.ref 3000), some (.ref 0), some (.ref 50), some (.int x3)]) (st := []) ⟨rfl, ⟨rfl, ⟨rfl, ⟨rfl, trivial⟩⟩⟩⟩ ?_
            exact wt213_b1224 E (fun x3 S hk => ih x3 S hk) _ _ h
          · have h := h.2 c
            exact A_ret 2 (m := 213) (v := some (.int (0 : Int32))) (S' := S15) rfl rfl ⟨_, rfl, h⟩
        | 4, hi, c =>
          have c : ((E.2 (x3).toNatClampNeg) &&& (31 : Int32)) = (4 : Int32) := c
          have h := h.2.2.2.2.1 c
          rw [show ri_tgt 33 (1191) (0) (28) [131, 174, 217, 250, 283, 306, 319, 342, 355, 388, 431, 474, 518, 572, 615, 648, 681, 714, 757, 800, 843, 907, 920, 933, 956, 999, 1042, 1105, 1158] ((E.2 (x3).toNatClampNeg) &&& (31 : Int32)) = 316 by rw [c]; decide]
          refine A_ix (x3 + (1 : Int32)) E.1 (r1 := ((213, 322, [some (.ref 3000), some (.ref 0), some (.ref 50), some (.int x3)], [.int (E.2 ((x3 + (1 : Int32))).toNatClampNeg), .ref 0]), S)) 6 rfl h.1 ?_
          have h := h.2
          refine A_call (j := 51) (As := [.ref 0, .int (E.2 ((x3 + (1 : Int32))).toNatClampNeg)]) (fr' := (213, 325, [some (.ref 3000), some (.ref 0), some (.ref 50), some (.int x3)], [])) (S' := S) 1 rfl (e := 2) (by omega) (A_imp (wt51 (E.2 ((x3 + (1 : Int32))).toNatClampNeg) h) (fun v S17 hq => ?_))
          obtain ⟨r18, hv, h⟩ := hq
          subst hv
          refine A_ix (x3 + (1 : Int32)) E.1 (r1 := ((213, 331, [some (.ref 3000), some (.ref 0), some (.ref 50), some (.int x3)], [.int (E.2 ((x3 + (1 : Int32))).toNatClampNeg), .ref 50, .int r18]), S17)) 6 rfl h.1 ?_
          have h := h.2
          refine A_call (j := 115) (As := [.ref 50, .int (E.2 ((x3 + (1 : Int32))).toNatClampNeg)]) (fr' := (213, 334, [some (.ref 3000), some (.ref 0), some (.ref 50), some (.int x3)], [.int r18])) (S' := S17) 1 rfl (e := 1) (by omega) (A_imp (wt115 (E.2 ((x3 + (1 : Int32))).toNatClampNeg) h) (fun v S19 hq => ?_))
          obtain ⟨r20, hv, h⟩ := hq
          subst hv
          refine A_br (r18 = r20) (r1 := ((213, 1224, [some (.ref 3000), some (.ref 0), some (.ref 50), some (.int x3)], []), S19)) (r2 := ((213, 337, [some (.ref 3000), some (.ref 0), some (.ref 50), some (.int x3)], []), S19)) 1 rfl (fun c => ?_) (fun c => ?_)
          · have h := h.1 c
            refine ri_A.less (m := 213) (pc := 1224) (L := [some (.ref 3000), some (.ref 0), some (.ref 50), some (.int x3)]) (L' := [some (.ref 3000), some (.ref 0), some (.ref 50), some (.int x3)]) (st := []) ⟨rfl, ⟨rfl, ⟨rfl, ⟨rfl, trivial⟩⟩⟩⟩ ?_
            exact wt213_b1224 E (fun x3 S hk => ih x3 S hk) _ _ h
          · have h := h.2 c
            exact A_ret 2 (m := 213) (v := some (.int (0 : Int32))) (S' := S19) rfl rfl ⟨_, rfl, h⟩
        | 5, hi, c =>
          have c : ((E.2 (x3).toNatClampNeg) &&& (31 : Int32)) = (5 : Int32) := c
          have h := h.2.2.2.2.2.1 c
          rw [show ri_tgt 33 (1191) (0) (28) [131, 174, 217, 250, 283, 306, 319, 342, 355, 388, 431, 474, 518, 572, 615, 648, 681, 714, 757, 800, 843, 907, 920, 933, 956, 999, 1042, 1105, 1158] ((E.2 (x3).toNatClampNeg) &&& (31 : Int32)) = 339 by rw [c]; decide]
          refine A_call (j := 52) (As := [.ref 0]) (fr' := (213, 343, [some (.ref 3000), some (.ref 0), some (.ref 50), some (.int x3)], [])) (S' := S) 2 rfl (e := 64) (by omega) (A_imp (wt52  h) (fun v S21 hq => ?_))
          obtain ⟨r22, hv, h⟩ := hq
          subst hv
          refine A_call (j := 162) (As := [.ref 50]) (fr' := (213, 347, [some (.ref 3000), some (.ref 0), some (.ref 50), some (.int x3)], [.int r22])) (S' := S21) 2 rfl (e := 59) (by omega) (A_imp (wt162  h) (fun v S23 hq => ?_))
          obtain ⟨r24, hv, h⟩ := hq
          subst hv
          refine A_br (r22 = r24) (r1 := ((213, 1224, [some (.ref 3000), some (.ref 0), some (.ref 50), some (.int x3)], []), S23)) (r2 := ((213, 350, [some (.ref 3000), some (.ref 0), some (.ref 50), some (.int x3)], []), S23)) 1 rfl (fun c => ?_) (fun c => ?_)
          · have h := h.1 c
            refine ri_A.less (m := 213) (pc := 1224) (L := [some (.ref 3000), some (.ref 0), some (.ref 50), some (.int x3)]) (L' := [some (.ref 3000), some (.ref 0), some (.ref 50), some (.int x3)]) (st := []) ⟨rfl, ⟨rfl, ⟨rfl, ⟨rfl, trivial⟩⟩⟩⟩ ?_
            exact wt213_b1224 E (fun x3 S hk => ih x3 S hk) _ _ h
          · have h := h.2 c
            exact A_ret 2 (m := 213) (v := some (.int (0 : Int32))) (S' := S23) rfl rfl ⟨_, rfl, h⟩
        | 6, hi, c =>
          have c : ((E.2 (x3).toNatClampNeg) &&& (31 : Int32)) = (6 : Int32) := c
          have h := h.2.2.2.2.2.2.1 c
          rw [show ri_tgt 33 (1191) (0) (28) [131, 174, 217, 250, 283, 306, 319, 342, 355, 388, 431, 474, 518, 572, 615, 648, 681, 714, 757, 800, 843, 907, 920, 933, 956, 999, 1042, 1105, 1158] ((E.2 (x3).toNatClampNeg) &&& (31 : Int32)) = 352 by rw [c]; decide]
          refine A_ix (x3 + (1 : Int32)) E.1 (r1 := ((213, 358, [some (.ref 3000), some (.ref 0), some (.ref 50), some (.int x3)], [.int (E.2 ((x3 + (1 : Int32))).toNatClampNeg), .ref 0]), S)) 6 rfl h.1 ?_
          have h := h.2
          refine A_call (j := 53) (As := [.ref 0, .int (E.2 ((x3 + (1 : Int32))).toNatClampNeg)]) (fr' := (213, 361, [some (.ref 3000), some (.ref 0), some (.ref 50), some (.int x3)], [])) (S' := S) 1 rfl (e := 1) (by omega) (A_imp (wt53 (E.2 ((x3 + (1 : Int32))).toNatClampNeg) h) (fun v S25 hq => ?_))
          obtain ⟨r26, hv, h⟩ := hq
          subst hv
          refine A_ix (x3 + (1 : Int32)) E.1 (r1 := ((213, 367, [some (.ref 3000), some (.ref 0), some (.ref 50), some (.int x3)], [.int (E.2 ((x3 + (1 : Int32))).toNatClampNeg), .ref 50, .int r26]), S25)) 6 rfl h.1 ?_
          have h := h.2
          refine A_call (j := 163) (As := [.ref 50, .int (E.2 ((x3 + (1 : Int32))).toNatClampNeg)]) (fr' := (213, 370, [some (.ref 3000), some (.ref 0), some (.ref 50), some (.int x3)], [.int r26])) (S' := S25) 1 rfl (e := 1) (by omega) (A_imp (wt163 (E.2 ((x3 + (1 : Int32))).toNatClampNeg) h) (fun v S27 hq => ?_))
          obtain ⟨r28, hv, h⟩ := hq
          subst hv
          refine A_br (r26 = r28) (r1 := ((213, 1224, [some (.ref 3000), some (.ref 0), some (.ref 50), some (.int x3)], []), S27)) (r2 := ((213, 373, [some (.ref 3000), some (.ref 0), some (.ref 50), some (.int x3)], []), S27)) 1 rfl (fun c => ?_) (fun c => ?_)
          · have h := h.1 c
            refine ri_A.less (m := 213) (pc := 1224) (L := [some (.ref 3000), some (.ref 0), some (.ref 50), some (.int x3)]) (L' := [some (.ref 3000), some (.ref 0), some (.ref 50), some (.int x3)]) (st := []) ⟨rfl, ⟨rfl, ⟨rfl, ⟨rfl, trivial⟩⟩⟩⟩ ?_
            exact wt213_b1224 E (fun x3 S hk => ih x3 S hk) _ _ h
          · have h := h.2 c
            exact A_ret 2 (m := 213) (v := some (.int (0 : Int32))) (S' := S27) rfl rfl ⟨_, rfl, h⟩
        | 7, hi, c =>
          have c : ((E.2 (x3).toNatClampNeg) &&& (31 : Int32)) = (7 : Int32) := c
          have h := h.2.2.2.2.2.2.2.1 c
          rw [show ri_tgt 33 (1191) (0) (28) [131, 174, 217, 250, 283, 306, 319, 342, 355, 388, 431, 474, 518, 572, 615, 648, 681, 714, 757, 800, 843, 907, 920, 933, 956, 999, 1042, 1105, 1158] ((E.2 (x3).toNatClampNeg) &&& (31 : Int32)) = 375 by rw [c]; decide]
          refine A_call (j := 54) (As := [.ref 0]) (fr' := (213, 379, [some (.ref 3000), some (.ref 0), some (.ref 50), some (.int x3)], [])) (S' := S) 2 rfl (e := 4) (by omega) (A_imp (wt54  h) (fun v S29 hq => ?_))
          obtain ⟨r30, hv, h⟩ := hq
          subst hv
          refine A_call (j := 172) (As := [.ref 50]) (fr' := (213, 383, [some (.ref 3000), some (.ref 0), some (.ref 50), some (.int x3)], [.int r30])) (S' := S29) 2 rfl (e := 63) (by omega) (A_imp (wt172  h) (fun v S31 hq => ?_))
          obtain ⟨r32, hv, h⟩ := hq
          subst hv
          refine A_br (r30 = r32) (r1 := ((213, 1224, [some (.ref 3000), some (.ref 0), some (.ref 50), some (.int x3)], []), S31)) (r2 := ((213, 386, [some (.ref 3000), some (.ref 0), some (.ref 50), some (.int x3)], []), S31)) 1 rfl (fun c => ?_) (fun c => ?_)
          · have h := h.1 c
            refine ri_A.less (m := 213) (pc := 1224) (L := [some (.ref 3000), some (.ref 0), some (.ref 50), some (.int x3)]) (L' := [some (.ref 3000), some (.ref 0), some (.ref 50), some (.int x3)]) (st := []) ⟨rfl, ⟨rfl, ⟨rfl, ⟨rfl, trivial⟩⟩⟩⟩ ?_
            exact wt213_b1224 E (fun x3 S hk => ih x3 S hk) _ _ h
          · have h := h.2 c
            exact A_ret 2 (m := 213) (v := some (.int (0 : Int32))) (S' := S31) rfl rfl ⟨_, rfl, h⟩
        | 8, hi, c =>
          have c : ((E.2 (x3).toNatClampNeg) &&& (31 : Int32)) = (8 : Int32) := c
          have h := h.2.2.2.2.2.2.2.2.1 c
          rw [show ri_tgt 33 (1191) (0) (28) [131, 174, 217, 250, 283, 306, 319, 342, 355, 388, 431, 474, 518, 572, 615, 648, 681, 714, 757, 800, 843, 907, 920, 933, 956, 999, 1042, 1105, 1158] ((E.2 (x3).toNatClampNeg) &&& (31 : Int32)) = 388 by rw [c]; decide]
          refine A_ix (x3 + (1 : Int32)) E.1 (r1 := ((213, 394, [some (.ref 3000), some (.ref 0), some (.ref 50), some (.int x3)], [.int (E.2 ((x3 + (1 : Int32))).toNatClampNeg), .ref 0]), S)) 6 rfl h.1 ?_
          have h := h.2
          refine A_ix (x3 + (2 : Int32)) E.1 (r1 := ((213, 399, [some (.ref 3000), some (.ref 0), some (.ref 50), some (.int x3)], [.int (E.2 ((x3 + (2 : Int32))).toNatClampNeg), .int (E.2 ((x3 + (1 : Int32))).toNatClampNeg), .ref 0]), S)) 5 rfl h.1 ?_
          have h := h.2
          refine A_call (j := 55) (As := [.ref 0, .int (E.2 ((x3 + (1 : Int32))).toNatClampNeg), .int (E.2 ((x3 + (2 : Int32))).toNatClampNeg)]) (fr' := (213, 402, [some (.ref 3000), some (.ref 0), some (.ref 50), some (.int x3)], [])) (S' := S) 1 rfl (e := 4) (by omega) (A_imp (wt55 (E.2 ((x3 + (1 : Int32))).toNatClampNeg) (E.2 ((x3 + (2 : Int32))).toNatClampNeg) h) (fun v S33 hq => ?_))
          obtain ⟨r34, hv, h⟩ := hq
          subst hv
          refine A_ix (x3 + (1 : Int32)) E.1 (r1 := ((213, 408, [some (.ref 3000), some (.ref 0), some (.ref 50), some (.int x3)], [.int (E.2 ((x3 + (1 : Int32))).toNatClampNeg), .ref 50, .int r34]), S33)) 6 rfl h.1 ?_
          have h := h.2
          refine A_ix (x3 + (2 : Int32)) E.1 (r1 := ((213, 413, [some (.ref 3000), some (.ref 0), some (.ref 50), some (.int x3)], [.int (E.2 ((x3 + (2 : Int32))).toNatClampNeg), .int (E.2 ((x3 + (1 : Int32))).toNatClampNeg), .ref 50, .int r34]), S33)) 5 rfl h.1 ?_
          have h := h.2
          refine A_call (j := 173) (As := [.ref 50, .int (E.2 ((x3 + (1 : Int32))).toNatClampNeg), .int (E.2 ((x3 + (2 : Int32))).toNatClampNeg)]) (fr' := (213, 416, [some (.ref 3000), some (.ref 0), some (.ref 50), some (.int x3)], [.int r34])) (S' := S33) 1 rfl (e := 61) (by omega) (A_imp (wt173 (E.2 ((x3 + (1 : Int32))).toNatClampNeg) (E.2 ((x3 + (2 : Int32))).toNatClampNeg) h) (fun v S35 hq => ?_))
          obtain ⟨r36, hv, h⟩ := hq
          subst hv
          refine A_br (r34 = r36) (r1 := ((213, 1224, [some (.ref 3000), some (.ref 0), some (.ref 50), some (.int x3)], []), S35)) (r2 := ((213, 419, [some (.ref 3000), some (.ref 0), some (.ref 50), some (.int x3)], []), S35)) 1 rfl (fun c => ?_) (fun c => ?_)
          · have h := h.1 c
            refine ri_A.less (m := 213) (pc := 1224) (L := [some (.ref 3000), some (.ref 0), some (.ref 50), some (.int x3)]) (L' := [some (.ref 3000), some (.ref 0), some (.ref 50), some (.int x3)]) (st := []) ⟨rfl, ⟨rfl, ⟨rfl, ⟨rfl, trivial⟩⟩⟩⟩ ?_
            exact wt213_b1224 E (fun x3 S hk => ih x3 S hk) _ _ h
          · have h := h.2 c
            exact A_ret 2 (m := 213) (v := some (.int (0 : Int32))) (S' := S35) rfl rfl ⟨_, rfl, h⟩
        | 9, hi, c =>
          have c : ((E.2 (x3).toNatClampNeg) &&& (31 : Int32)) = (9 : Int32) := c
          have h := h.2.2.2.2.2.2.2.2.2.1 c
          rw [show ri_tgt 33 (1191) (0) (28) [131, 174, 217, 250, 283, 306, 319, 342, 355, 388, 431, 474, 518, 572, 615, 648, 681, 714, 757, 800, 843, 907, 920, 933, 956, 999, 1042, 1105, 1158] ((E.2 (x3).toNatClampNeg) &&& (31 : Int32)) = 421 by rw [c]; decide]
          refine A_ix (x3 + (1 : Int32)) E.1 (r1 := ((213, 427, [some (.ref 3000), some (.ref 0), some (.ref 50), some (.int x3)], [.int (E.2 ((x3 + (1 : Int32))).toNatClampNeg), .ref 0]), S)) 6 rfl h.1 ?_
          have h := h.2
          refine A_ix (x3 + (2 : Int32)) E.1 (r1 := ((213, 432, [some (.ref 3000), some (.ref 0), some (.ref 50), some (.int x3)], [.int (E.2 ((x3 + (2 : Int32))).toNatClampNeg), .int (E.2 ((x3 + (1 : Int32))).toNatClampNeg), .ref 0]), S)) 5 rfl h.1 ?_
          have h := h.2
          refine A_ix (x3 + (3 : Int32)) E.1 (r1 := ((213, 437, [some (.ref 3000), some (.ref 0), some (.ref 50), some (.int x3)], [.int (E.2 ((x3 + (3 : Int32))).toNatClampNeg), .int (E.2 ((x3 + (2 : Int32))).toNatClampNeg), .int (E.2 ((x3 + (1 : Int32))).toNatClampNeg), .ref 0]), S)) 5 rfl h.1 ?_
          have h := h.2
          refine A_call (j := 56) (As := [.ref 0, .int (E.2 ((x3 + (1 : Int32))).toNatClampNeg), .int (E.2 ((x3 + (2 : Int32))).toNatClampNeg), .int (E.2 ((x3 + (3 : Int32))).toNatClampNeg)]) (fr' := (213, 440, [some (.ref 3000), some (.ref 0), some (.ref 50), some (.int x3)], [])) (S' := S) 1 rfl (e := 4) (by omega) (A_imp (wt56 (E.2 ((x3 + (1 : Int32))).toNatClampNeg) (E.2 ((x3 + (2 : Int32))).toNatClampNeg) (E.2 ((x3 + (3 : Int32))).toNatClampNeg) h) (fun v S37 hq => ?_))
          obtain ⟨r38, hv, h⟩ := hq
          subst hv
          refine A_ix (x3 + (1 : Int32)) E.1 (r1 := ((213, 446, [some (.ref 3000), some (.ref 0), some (.ref 50), some (.int x3)], [.int (E.2 ((x3 + (1 : Int32))).toNatClampNeg), .ref 50, .int r38]), S37)) 6 rfl h.1 ?_
          have h := h.2
          refine A_ix (x3 + (2 : Int32)) E.1 (r1 := ((213, 451, [some (.ref 3000), some (.ref 0), some (.ref 50), some (.int x3)], [.int (E.2 ((x3 + (2 : Int32))).toNatClampNeg), .int (E.2 ((x3 + (1 : Int32))).toNatClampNeg), .ref 50, .int r38]), S37)) 5 rfl h.1 ?_
          have h := h.2
          refine A_ix (x3 + (3 : Int32)) E.1 (r1 := ((213, 456, [some (.ref 3000), some (.ref 0), some (.ref 50), some (.int x3)], [.int (E.2 ((x3 + (3 : Int32))).toNatClampNeg), .int (E.2 ((x3 + (2 : Int32))).toNatClampNeg), .int (E.2 ((x3 + (1 : Int32))).toNatClampNeg), .ref 50, .int r38]), S37)) 5 rfl h.1 ?_
          have h := h.2
          refine A_call (j := 176) (As := [.ref 50, .int (E.2 ((x3 + (1 : Int32))).toNatClampNeg), .int (E.2 ((x3 + (2 : Int32))).toNatClampNeg), .int (E.2 ((x3 + (3 : Int32))).toNatClampNeg)]) (fr' := (213, 459, [some (.ref 3000), some (.ref 0), some (.ref 50), some (.int x3)], [.int r38])) (S' := S37) 1 rfl (e := 63) (by omega) (A_imp (wt176 (E.2 ((x3 + (1 : Int32))).toNatClampNeg) (E.2 ((x3 + (2 : Int32))).toNatClampNeg) (E.2 ((x3 + (3 : Int32))).toNatClampNeg) h) (fun v S39 hq => ?_))
          obtain ⟨r40, hv, h⟩ := hq
          subst hv
          refine A_br (r38 = r40) (r1 := ((213, 1224, [some (.ref 3000), some (.ref 0), some (.ref 50), some (.int x3)], []), S39)) (r2 := ((213, 462, [some (.ref 3000), some (.ref 0), some (.ref 50), some (.int x3)], []), S39)) 1 rfl (fun c => ?_) (fun c => ?_)
          · have h := h.1 c
            refine ri_A.less (m := 213) (pc := 1224) (L := [some (.ref 3000), some (.ref 0), some (.ref 50), some (.int x3)]) (L' := [some (.ref 3000), some (.ref 0), some (.ref 50), some (.int x3)]) (st := []) ⟨rfl, ⟨rfl, ⟨rfl, ⟨rfl, trivial⟩⟩⟩⟩ ?_
            exact wt213_b1224 E (fun x3 S hk => ih x3 S hk) _ _ h
          · have h := h.2 c
            exact A_ret 2 (m := 213) (v := some (.int (0 : Int32))) (S' := S39) rfl rfl ⟨_, rfl, h⟩
        | 10, hi, c =>
          have c : ((E.2 (x3).toNatClampNeg) &&& (31 : Int32)) = (10 : Int32) := c
          have h := h.2.2.2.2.2.2.2.2.2.2.1 c
          rw [show ri_tgt 33 (1191) (0) (28) [131, 174, 217, 250, 283, 306, 319, 342, 355, 388, 431, 474, 518, 572, 615, 648, 681, 714, 757, 800, 843, 907, 920, 933, 956, 999, 1042, 1105, 1158] ((E.2 (x3).toNatClampNeg) &&& (31 : Int32)) = 464 by rw [c]; decide]
          refine A_ix (x3 + (1 : Int32)) E.1 (r1 := ((213, 470, [some (.ref 3000), some (.ref 0), some (.ref 50), some (.int x3)], [.int (E.2 ((x3 + (1 : Int32))).toNatClampNeg), .ref 0]), S)) 6 rfl h.1 ?_
          have h := h.2
          refine A_ix (x3 + (2 : Int32)) E.1 (r1 := ((213, 475, [some (.ref 3000), some (.ref 0), some (.ref 50), some (.int x3)], [.int (E.2 ((x3 + (2 : Int32))).toNatClampNeg), .int (E.2 ((x3 + (1 : Int32))).toNatClampNeg), .ref 0]), S)) 5 rfl h.1 ?_
          have h := h.2
          refine A_ix (x3 + (3 : Int32)) E.1 (r1 := ((213, 480, [some (.ref 3000), some (.ref 0), some (.ref 50), some (.int x3)], [.int (E.2 ((x3 + (3 : Int32))).toNatClampNeg), .int (E.2 ((x3 + (2 : Int32))).toNatClampNeg), .int (E.2 ((x3 + (1 : Int32))).toNatClampNeg), .ref 0]), S)) 5 rfl h.1 ?_
          have h := h.2
          refine A_call (j := 57) (As := [.ref 0, .int (E.2 ((x3 + (1 : Int32))).toNatClampNeg), .int (E.2 ((x3 + (2 : Int32))).toNatClampNeg), .int (E.2 ((x3 + (3 : Int32))).toNatClampNeg)]) (fr' := (213, 483, [some (.ref 3000), some (.ref 0), some (.ref 50), some (.int x3)], [])) (S' := S) 1 rfl (e := 4) (by omega) (A_imp (wt57 (E.2 ((x3 + (1 : Int32))).toNatClampNeg) (E.2 ((x3 + (2 : Int32))).toNatClampNeg) (E.2 ((x3 + (3 : Int32))).toNatClampNeg) h) (fun v S41 hq => ?_))
          obtain ⟨r42, hv, h⟩ := hq
          subst hv
          refine A_ix (x3 + (1 : Int32)) E.1 (r1 := ((213, 489, [some (.ref 3000), some (.ref 0), some (.ref 50), some (.int x3)], [.int (E.2 ((x3 + (1 : Int32))).toNatClampNeg), .ref 50, .int r42]), S41)) 6 rfl h.1 ?_
          have h := h.2
          refine A_ix (x3 + (2 : Int32)) E.1 (r1 := ((213, 494, [some (.ref 3000), some (.ref 0), some (.ref 50), some (.int x3)], [.int (E.2 ((x3 + (2 : Int32))).toNatClampNeg), .int (E.2 ((x3 + (1 : Int32))).toNatClampNeg), .ref 50, .int r42]), S41)) 5 rfl h.1 ?_
          have h := h.2
          refine A_ix (x3 + (3 : Int32)) E.1 (r1 := ((213, 499, [some (.ref 3000), some (.ref 0), some (.ref 50), some (.int x3)], [.int (E.2 ((x3 + (3 : Int32))).toNatClampNeg), .int (E.2 ((x3 + (2 : Int32))).toNatClampNeg), .int (E.2 ((x3 + (1 : Int32))).toNatClampNeg), .ref 50, .int r42]), S41)) 5 rfl h.1 ?_
          have h := h.2
          refine A_call (j := 177) (As := [.ref 50, .int (E.2 ((x3 + (1 : Int32))).toNatClampNeg), .int (E.2 ((x3 + (2 : Int32))).toNatClampNeg), .int (E.2 ((x3 + (3 : Int32))).toNatClampNeg)]) (fr' := (213, 502, [some (.ref 3000), some (.ref 0), some (.ref 50), some (.int x3)], [.int r42])) (S' := S41) 1 rfl (e := 62) (by omega) (A_imp (wt177 (E.2 ((x3 + (1 : Int32))).toNatClampNeg) (E.2 ((x3 + (2 : Int32))).toNatClampNeg) (E.2 ((x3 + (3 : Int32))).toNatClampNeg) h) (fun v S43 hq => ?_))
          obtain ⟨r44, hv, h⟩ := hq
          subst hv
          refine A_br (r42 = r44) (r1 := ((213, 1224, [some (.ref 3000), some (.ref 0), some (.ref 50), some (.int x3)], []), S43)) (r2 := ((213, 505, [some (.ref 3000), some (.ref 0), some (.ref 50), some (.int x3)], []), S43)) 1 rfl (fun c => ?_) (fun c => ?_)
          · have h := h.1 c
            refine ri_A.less (m := 213) (pc := 1224) (L := [some (.ref 3000), some (.ref 0), some (.ref 50), some (.int x3)]) (L' := [some (.ref 3000), some (.ref 0), some (.ref 50), some (.int x3)]) (st := []) ⟨rfl, ⟨rfl, ⟨rfl, ⟨rfl, trivial⟩⟩⟩⟩ ?_
            exact wt213_b1224 E (fun x3 S hk => ih x3 S hk) _ _ h
          · have h := h.2 c
            exact A_ret 2 (m := 213) (v := some (.int (0 : Int32))) (S' := S43) rfl rfl ⟨_, rfl, h⟩
        | 11, hi, c =>
          have c : ((E.2 (x3).toNatClampNeg) &&& (31 : Int32)) = (11 : Int32) := c
          have h := h.2.2.2.2.2.2.2.2.2.2.2.1 c
          rw [show ri_tgt 33 (1191) (0) (28) [131, 174, 217, 250, 283, 306, 319, 342, 355, 388, 431, 474, 518, 572, 615, 648, 681, 714, 757, 800, 843, 907, 920, 933, 956, 999, 1042, 1105, 1158] ((E.2 (x3).toNatClampNeg) &&& (31 : Int32)) = 507 by rw [c]; decide]
          refine A_ix (x3 + (1 : Int32)) E.1 (r1 := ((213, 513, [some (.ref 3000), some (.ref 0), some (.ref 50), some (.int x3)], [.int (E.2 ((x3 + (1 : Int32))).toNatClampNeg), .ref 0]), S)) 6 rfl h.1 ?_
          have h := h.2
          refine A_ix (x3 + (2 : Int32)) E.1 (r1 := ((213, 518, [some (.ref 3000), some (.ref 0), some (.ref 50), some (.int x3)], [.int (E.2 ((x3 + (2 : Int32))).toNatClampNeg), .int (E.2 ((x3 + (1 : Int32))).toNatClampNeg), .ref 0]), S)) 5 rfl h.1 ?_
          have h := h.2
          refine A_ix (x3 + (3 : Int32)) E.1 (r1 := ((213, 523, [some (.ref 3000), some (.ref 0), some (.ref 50), some (.int x3)], [.int (E.2 ((x3 + (3 : Int32))).toNatClampNeg), .int (E.2 ((x3 + (2 : Int32))).toNatClampNeg), .int (E.2 ((x3 + (1 : Int32))).toNatClampNeg), .ref 0]), S)) 5 rfl h.1 ?_
          have h := h.2
          refine A_call (j := 58) (As := [.ref 0, .int (E.2 ((x3 + (1 : Int32))).toNatClampNeg), .int (E.2 ((x3 + (2 : Int32))).toNatClampNeg), .int (E.2 ((x3 + (3 : Int32))).toNatClampNeg)]) (fr' := (213, 526, [some (.ref 3000), some (.ref 0), some (.ref 50), some (.int x3)], [])) (S' := S) 1 rfl (e := 3) (by omega) (A_imp (wt58 (E.2 ((x3 + (1 : Int32))).toNatClampNeg) (E.2 ((x3 + (2 : Int32))).toNatClampNeg) (E.2 ((x3 + (3 : Int32))).toNatClampNeg) h) (fun v S45 hq => ?_))
          obtain ⟨r46, hv, h⟩ := hq
          subst hv
          refine A_ix (x3 + (1 : Int32)) E.1 (r1 := ((213, 532, [some (.ref 3000), some (.ref 0), some (.ref 50), some (.int x3)], [.int (E.2 ((x3 + (1 : Int32))).toNatClampNeg), .ref 50, .long r46]), S45)) 6 rfl h.1 ?_
          have h := h.2
          refine A_ix (x3 + (2 : Int32)) E.1 (r1 := ((213, 537, [some (.ref 3000), some (.ref 0), some (.ref 50), some (.int x3)], [.int (E.2 ((x3 + (2 : Int32))).toNatClampNeg), .int (E.2 ((x3 + (1 : Int32))).toNatClampNeg), .ref 50, .long r46]), S45)) 5 rfl h.1 ?_
          have h := h.2
          refine A_ix (x3 + (3 : Int32)) E.1 (r1 := ((213, 542, [some (.ref 3000), some (.ref 0), some (.ref 50), some (.int x3)], [.int (E.2 ((x3 + (3 : Int32))).toNatClampNeg), .int (E.2 ((x3 + (2 : Int32))).toNatClampNeg), .int (E.2 ((x3 + (1 : Int32))).toNatClampNeg), .ref 50, .long r46]), S45)) 5 rfl h.1 ?_
          have h := h.2
          refine A_call (j := 179) (As := [.ref 50, .int (E.2 ((x3 + (1 : Int32))).toNatClampNeg), .int (E.2 ((x3 + (2 : Int32))).toNatClampNeg), .int (E.2 ((x3 + (3 : Int32))).toNatClampNeg)]) (fr' := (213, 545, [some (.ref 3000), some (.ref 0), some (.ref 50), some (.int x3)], [.long r46])) (S' := S45) 1 rfl (e := 2) (by omega) (A_imp (wt179 (E.2 ((x3 + (1 : Int32))).toNatClampNeg) (E.2 ((x3 + (2 : Int32))).toNatClampNeg) (E.2 ((x3 + (3 : Int32))).toNatClampNeg) h) (fun v S47 hq => ?_))
          obtain ⟨r48, hv, h⟩ := hq
          subst hv
          refine A_br ((lg_cmp r46 r48) = 0) (r1 := ((213, 1224, [some (.ref 3000), some (.ref 0), some (.ref 50), some (.int x3)], []), S47)) (r2 := ((213, 549, [some (.ref 3000), some (.ref 0), some (.ref 50), some (.int x3)], []), S47)) 2 rfl (fun c => ?_) (fun c => ?_)
          · have h := h.1 c
            refine ri_A.less (m := 213) (pc := 1224) (L := [some (.ref 3000), some (.ref 0), some (.ref 50), some (.int x3)]) (L' := [some (.ref 3000), some (.ref 0), some (.ref 50), some (.int x3)]) (st := []) ⟨rfl, ⟨rfl, ⟨rfl, ⟨rfl, trivial⟩⟩⟩⟩ ?_
            exact wt213_b1224 E (fun x3 S hk => ih x3 S hk) _ _ h
          · have h := h.2 c
            exact A_ret 2 (m := 213) (v := some (.int (0 : Int32))) (S' := S47) rfl rfl ⟨_, rfl, h⟩
        | 12, hi, c =>
          have c : ((E.2 (x3).toNatClampNeg) &&& (31 : Int32)) = (12 : Int32) := c
          have h := h.2.2.2.2.2.2.2.2.2.2.2.2.1 c
          rw [show ri_tgt 33 (1191) (0) (28) [131, 174, 217, 250, 283, 306, 319, 342, 355, 388, 431, 474, 518, 572, 615, 648, 681, 714, 757, 800, 843, 907, 920, 933, 956, 999, 1042, 1105, 1158] ((E.2 (x3).toNatClampNeg) &&& (31 : Int32)) = 551 by rw [c]; decide]
          refine A_ix (x3 + (1 : Int32)) E.1 (r1 := ((213, 557, [some (.ref 3000), some (.ref 0), some (.ref 50), some (.int x3)], [.int (E.2 ((x3 + (1 : Int32))).toNatClampNeg), .ref 0]), S)) 6 rfl h.1 ?_
          have h := h.2
          refine A_ix (x3 + (2 : Int32)) E.1 (r1 := ((213, 562, [some (.ref 3000), some (.ref 0), some (.ref 50), some (.int x3)], [.int (E.2 ((x3 + (2 : Int32))).toNatClampNeg), .int (E.2 ((x3 + (1 : Int32))).toNatClampNeg), .ref 0]), S)) 5 rfl h.1 ?_
          have h := h.2
          refine A_ix (x3 + (3 : Int32)) E.1 (r1 := ((213, 567, [some (.ref 3000), some (.ref 0), some (.ref 50), some (.int x3)], [.int (E.2 ((x3 + (3 : Int32))).toNatClampNeg), .int (E.2 ((x3 + (2 : Int32))).toNatClampNeg), .int (E.2 ((x3 + (1 : Int32))).toNatClampNeg), .ref 0]), S)) 5 rfl h.1 ?_
          have h := h.2
          refine A_ix (x3 + (4 : Int32)) E.1 (r1 := ((213, 572, [some (.ref 3000), some (.ref 0), some (.ref 50), some (.int x3)], [.int (E.2 ((x3 + (4 : Int32))).toNatClampNeg), .int (E.2 ((x3 + (3 : Int32))).toNatClampNeg), .int (E.2 ((x3 + (2 : Int32))).toNatClampNeg), .int (E.2 ((x3 + (1 : Int32))).toNatClampNeg), .ref 0]), S)) 5 rfl h.1 ?_
          have h := h.2
          refine A_call (j := 59) (As := [.ref 0, .int (E.2 ((x3 + (1 : Int32))).toNatClampNeg), .int (E.2 ((x3 + (2 : Int32))).toNatClampNeg), .int (E.2 ((x3 + (3 : Int32))).toNatClampNeg), .int (E.2 ((x3 + (4 : Int32))).toNatClampNeg)]) (fr' := (213, 575, [some (.ref 3000), some (.ref 0), some (.ref 50), some (.int x3)], [])) (S' := S) 1 rfl (e := 3) (by omega) (A_imp (wt59 (E.2 ((x3 + (1 : Int32))).toNatClampNeg) (E.2 ((x3 + (2 : Int32))).toNatClampNeg) (E.2 ((x3 + (3 : Int32))).toNatClampNeg) (E.2 ((x3 + (4 : Int32))).toNatClampNeg) h) (fun v S49 hq => ?_))
          obtain ⟨r50, hv, h⟩ := hq
          subst hv
          refine A_ix (x3 + (1 : Int32)) E.1 (r1 := ((213, 581, [some (.ref 3000), some (.ref 0), some (.ref 50), some (.int x3)], [.int (E.2 ((x3 + (1 : Int32))).toNatClampNeg), .ref 50, .long r50]), S49)) 6 rfl h.1 ?_
          have h := h.2
          refine A_ix (x3 + (2 : Int32)) E.1 (r1 := ((213, 586, [some (.ref 3000), some (.ref 0), some (.ref 50), some (.int x3)], [.int (E.2 ((x3 + (2 : Int32))).toNatClampNeg), .int (E.2 ((x3 + (1 : Int32))).toNatClampNeg), .ref 50, .long r50]), S49)) 5 rfl h.1 ?_
          have h := h.2
          refine A_ix (x3 + (3 : Int32)) E.1 (r1 := ((213, 591, [some (.ref 3000), some (.ref 0), some (.ref 50), some (.int x3)], [.int (E.2 ((x3 + (3 : Int32))).toNatClampNeg), .int (E.2 ((x3 + (2 : Int32))).toNatClampNeg), .int (E.2 ((x3 + (1 : Int32))).toNatClampNeg), .ref 50, .long r50]), S49)) 5 rfl h.1 ?_
          have h := h.2
          refine A_ix (x3 + (4 : Int32)) E.1 (r1 := ((213, 596, [some (.ref 3000), some (.ref 0), some (.ref 50), some (.int x3)], [.int (E.2 ((x3 + (4 : Int32))).toNatClampNeg), .int (E.2 ((x3 + (3 : Int32))).toNatClampNeg), .int (E.2 ((x3 + (2 : Int32))).toNatClampNeg), .int (E.2 ((x3 + (1 : Int32))).toNatClampNeg), .ref 50, .long r50]), S49)) 5 rfl h.1 ?_
          have h := h.2
          refine A_call (j := 181) (As := [.ref 50, .int (E.2 ((x3 + (1 : Int32))).toNatClampNeg), .int (E.2 ((x3 + (2 : Int32))).toNatClampNeg), .int (E.2 ((x3 + (3 : Int32))).toNatClampNeg), .int (E.2 ((x3 + (4 : Int32))).toNatClampNeg)]) (fr' := (213, 599, [some (.ref 3000), some (.ref 0), some (.ref 50), some (.int x3)], [.long r50])) (S' := S49) 1 rfl (e := 2) (by omega) (A_imp (wt181 (E.2 ((x3 + (1 : Int32))).toNatClampNeg) (E.2 ((x3 + (2 : Int32))).toNatClampNeg) (E.2 ((x3 + (3 : Int32))).toNatClampNeg) (E.2 ((x3 + (4 : Int32))).toNatClampNeg) h) (fun v S51 hq => ?_))
          obtain ⟨r52, hv, h⟩ := hq
          subst hv
          refine A_br ((lg_cmp r50 r52) = 0) (r1 := ((213, 1224, [some (.ref 3000), some (.ref 0), some (.ref 50), some (.int x3)], []), S51)) (r2 := ((213, 603, [some (.ref 3000), some (.ref 0), some (.ref 50), some (.int x3)], []), S51)) 2 rfl (fun c => ?_) (fun c => ?_)
          · have h := h.1 c
            refine ri_A.less (m := 213) (pc := 1224) (L := [some (.ref 3000), some (.ref 0), some (.ref 50), some (.int x3)]) (L' := [some (.ref 3000), some (.ref 0), some (.ref 50), some (.int x3)]) (st := []) ⟨rfl, ⟨rfl, ⟨rfl, ⟨rfl, trivial⟩⟩⟩⟩ ?_
            exact wt213_b1224 E (fun x3 S hk => ih x3 S hk) _ _ h
          · have h := h.2 c
            exact A_ret 2 (m := 213) (v := some (.int (0 : Int32))) (S' := S51) rfl rfl ⟨_, rfl, h⟩
        | 13, hi, c =>
          have c : ((E.2 (x3).toNatClampNeg) &&& (31 : Int32)) = (13 : Int32) := c
          have h := h.2.2.2.2.2.2.2.2.2.2.2.2.2.1 c
          rw [show ri_tgt 33 (1191) (0) (28) [131, 174, 217, 250, 283, 306, 319, 342, 355, 388, 431, 474, 518, 572, 615, 648, 681, 714, 757, 800, 843, 907, 920, 933, 956, 999, 1042, 1105, 1158] ((E.2 (x3).toNatClampNeg) &&& (31 : Int32)) = 605 by rw [c]; decide]
          refine A_ix (x3 + (1 : Int32)) E.1 (r1 := ((213, 611, [some (.ref 3000), some (.ref 0), some (.ref 50), some (.int x3)], [.int (E.2 ((x3 + (1 : Int32))).toNatClampNeg), .ref 0]), S)) 6 rfl h.1 ?_
          have h := h.2
          refine A_ix (x3 + (2 : Int32)) E.1 (r1 := ((213, 616, [some (.ref 3000), some (.ref 0), some (.ref 50), some (.int x3)], [.int (E.2 ((x3 + (2 : Int32))).toNatClampNeg), .int (E.2 ((x3 + (1 : Int32))).toNatClampNeg), .ref 0]), S)) 5 rfl h.1 ?_
          have h := h.2
          refine A_ix (x3 + (3 : Int32)) E.1 (r1 := ((213, 621, [some (.ref 3000), some (.ref 0), some (.ref 50), some (.int x3)], [.int (E.2 ((x3 + (3 : Int32))).toNatClampNeg), .int (E.2 ((x3 + (2 : Int32))).toNatClampNeg), .int (E.2 ((x3 + (1 : Int32))).toNatClampNeg), .ref 0]), S)) 5 rfl h.1 ?_
          have h := h.2
          refine A_call (j := 60) (As := [.ref 0, .int (E.2 ((x3 + (1 : Int32))).toNatClampNeg), .int (E.2 ((x3 + (2 : Int32))).toNatClampNeg), .int (E.2 ((x3 + (3 : Int32))).toNatClampNeg)]) (fr' := (213, 624, [some (.ref 3000), some (.ref 0), some (.ref 50), some (.int x3)], [])) (S' := S) 1 rfl (e := 4) (by omega) (A_imp (wt60 (E.2 ((x3 + (1 : Int32))).toNatClampNeg) (E.2 ((x3 + (2 : Int32))).toNatClampNeg) (E.2 ((x3 + (3 : Int32))).toNatClampNeg) h) (fun v S53 hq => ?_))
          obtain ⟨r54, hv, h⟩ := hq
          subst hv
          refine A_ix (x3 + (1 : Int32)) E.1 (r1 := ((213, 630, [some (.ref 3000), some (.ref 0), some (.ref 50), some (.int x3)], [.int (E.2 ((x3 + (1 : Int32))).toNatClampNeg), .ref 50, .int r54]), S53)) 6 rfl h.1 ?_
          have h := h.2
          refine A_ix (x3 + (2 : Int32)) E.1 (r1 := ((213, 635, [some (.ref 3000), some (.ref 0), some (.ref 50), some (.int x3)], [.int (E.2 ((x3 + (2 : Int32))).toNatClampNeg), .int (E.2 ((x3 + (1 : Int32))).toNatClampNeg), .ref 50, .int r54]), S53)) 5 rfl h.1 ?_
          have h := h.2
          refine A_ix (x3 + (3 : Int32)) E.1 (r1 := ((213, 640, [some (.ref 3000), some (.ref 0), some (.ref 50), some (.int x3)], [.int (E.2 ((x3 + (3 : Int32))).toNatClampNeg), .int (E.2 ((x3 + (2 : Int32))).toNatClampNeg), .int (E.2 ((x3 + (1 : Int32))).toNatClampNeg), .ref 50, .int r54]), S53)) 5 rfl h.1 ?_
          have h := h.2
          refine A_call (j := 182) (As := [.ref 50, .int (E.2 ((x3 + (1 : Int32))).toNatClampNeg), .int (E.2 ((x3 + (2 : Int32))).toNatClampNeg), .int (E.2 ((x3 + (3 : Int32))).toNatClampNeg)]) (fr' := (213, 643, [some (.ref 3000), some (.ref 0), some (.ref 50), some (.int x3)], [.int r54])) (S' := S53) 1 rfl (e := 61) (by omega) (A_imp (wt182 (E.2 ((x3 + (1 : Int32))).toNatClampNeg) (E.2 ((x3 + (2 : Int32))).toNatClampNeg) (E.2 ((x3 + (3 : Int32))).toNatClampNeg) h) (fun v S55 hq => ?_))
          obtain ⟨r56, hv, h⟩ := hq
          subst hv
          refine A_br (r54 = r56) (r1 := ((213, 1224, [some (.ref 3000), some (.ref 0), some (.ref 50), some (.int x3)], []), S55)) (r2 := ((213, 646, [some (.ref 3000), some (.ref 0), some (.ref 50), some (.int x3)], []), S55)) 1 rfl (fun c => ?_) (fun c => ?_)
          · have h := h.1 c
            refine ri_A.less (m := 213) (pc := 1224) (L := [some (.ref 3000), some (.ref 0), some (.ref 50), some (.int x3)]) (L' := [some (.ref 3000), some (.ref 0), some (.ref 50), some (.int x3)]) (st := []) ⟨rfl, ⟨rfl, ⟨rfl, ⟨rfl, trivial⟩⟩⟩⟩ ?_
            exact wt213_b1224 E (fun x3 S hk => ih x3 S hk) _ _ h
          · have h := h.2 c
            exact A_ret 2 (m := 213) (v := some (.int (0 : Int32))) (S' := S55) rfl rfl ⟨_, rfl, h⟩
        | 14, hi, c =>
          have c : ((E.2 (x3).toNatClampNeg) &&& (31 : Int32)) = (14 : Int32) := c
          have h := h.2.2.2.2.2.2.2.2.2.2.2.2.2.2.1 c
          rw [show ri_tgt 33 (1191) (0) (28) [131, 174, 217, 250, 283, 306, 319, 342, 355, 388, 431, 474, 518, 572, 615, 648, 681, 714, 757, 800, 843, 907, 920, 933, 956, 999, 1042, 1105, 1158] ((E.2 (x3).toNatClampNeg) &&& (31 : Int32)) = 648 by rw [c]; decide]
          refine A_ix (x3 + (1 : Int32)) E.1 (r1 := ((213, 654, [some (.ref 3000), some (.ref 0), some (.ref 50), some (.int x3)], [.int (E.2 ((x3 + (1 : Int32))).toNatClampNeg), .ref 0]), S)) 6 rfl h.1 ?_
          have h := h.2
          refine A_ix (x3 + (2 : Int32)) E.1 (r1 := ((213, 659, [some (.ref 3000), some (.ref 0), some (.ref 50), some (.int x3)], [.int (E.2 ((x3 + (2 : Int32))).toNatClampNeg), .int (E.2 ((x3 + (1 : Int32))).toNatClampNeg), .ref 0]), S)) 5 rfl h.1 ?_
          have h := h.2
          refine A_call (j := 61) (As := [.ref 0, .int (E.2 ((x3 + (1 : Int32))).toNatClampNeg), .int (E.2 ((x3 + (2 : Int32))).toNatClampNeg)]) (fr' := (213, 662, [some (.ref 3000), some (.ref 0), some (.ref 50), some (.int x3)], [])) (S' := S) 1 rfl (e := 4) (by omega) (A_imp (wt61 (E.2 ((x3 + (1 : Int32))).toNatClampNeg) (E.2 ((x3 + (2 : Int32))).toNatClampNeg) h) (fun v S57 hq => ?_))
          obtain ⟨r58, hv, h⟩ := hq
          subst hv
          refine A_ix (x3 + (1 : Int32)) E.1 (r1 := ((213, 668, [some (.ref 3000), some (.ref 0), some (.ref 50), some (.int x3)], [.int (E.2 ((x3 + (1 : Int32))).toNatClampNeg), .ref 50, .int r58]), S57)) 6 rfl h.1 ?_
          have h := h.2
          refine A_ix (x3 + (2 : Int32)) E.1 (r1 := ((213, 673, [some (.ref 3000), some (.ref 0), some (.ref 50), some (.int x3)], [.int (E.2 ((x3 + (2 : Int32))).toNatClampNeg), .int (E.2 ((x3 + (1 : Int32))).toNatClampNeg), .ref 50, .int r58]), S57)) 5 rfl h.1 ?_
          have h := h.2
          refine A_call (j := 183) (As := [.ref 50, .int (E.2 ((x3 + (1 : Int32))).toNatClampNeg), .int (E.2 ((x3 + (2 : Int32))).toNatClampNeg)]) (fr' := (213, 676, [some (.ref 3000), some (.ref 0), some (.ref 50), some (.int x3)], [.int r58])) (S' := S57) 1 rfl (e := 63) (by omega) (A_imp (wt183 (E.2 ((x3 + (1 : Int32))).toNatClampNeg) (E.2 ((x3 + (2 : Int32))).toNatClampNeg) h) (fun v S59 hq => ?_))
          obtain ⟨r60, hv, h⟩ := hq
          subst hv
          refine A_br (r58 = r60) (r1 := ((213, 1224, [some (.ref 3000), some (.ref 0), some (.ref 50), some (.int x3)], []), S59)) (r2 := ((213, 679, [some (.ref 3000), some (.ref 0), some (.ref 50), some (.int x3)], []), S59)) 1 rfl (fun c => ?_) (fun c => ?_)
          · have h := h.1 c
            refine ri_A.less (m := 213) (pc := 1224) (L := [some (.ref 3000), some (.ref 0), some (.ref 50), some (.int x3)]) (L' := [some (.ref 3000), some (.ref 0), some (.ref 50), some (.int x3)]) (st := []) ⟨rfl, ⟨rfl, ⟨rfl, ⟨rfl, trivial⟩⟩⟩⟩ ?_
            exact wt213_b1224 E (fun x3 S hk => ih x3 S hk) _ _ h
          · have h := h.2 c
            exact A_ret 2 (m := 213) (v := some (.int (0 : Int32))) (S' := S59) rfl rfl ⟨_, rfl, h⟩
        | 15, hi, c =>
          have c : ((E.2 (x3).toNatClampNeg) &&& (31 : Int32)) = (15 : Int32) := c
          have h := h.2.2.2.2.2.2.2.2.2.2.2.2.2.2.2.1 c
          rw [show ri_tgt 33 (1191) (0) (28) [131, 174, 217, 250, 283, 306, 319, 342, 355, 388, 431, 474, 518, 572, 615, 648, 681, 714, 757, 800, 843, 907, 920, 933, 956, 999, 1042, 1105, 1158] ((E.2 (x3).toNatClampNeg) &&& (31 : Int32)) = 681 by rw [c]; decide]
          refine A_ix (x3 + (1 : Int32)) E.1 (r1 := ((213, 687, [some (.ref 3000), some (.ref 0), some (.ref 50), some (.int x3)], [.int (E.2 ((x3 + (1 : Int32))).toNatClampNeg), .ref 0]), S)) 6 rfl h.1 ?_
          have h := h.2
          refine A_ix (x3 + (2 : Int32)) E.1 (r1 := ((213, 692, [some (.ref 3000), some (.ref 0), some (.ref 50), some (.int x3)], [.int (E.2 ((x3 + (2 : Int32))).toNatClampNeg), .int (E.2 ((x3 + (1 : Int32))).toNatClampNeg), .ref 0]), S)) 5 rfl h.1 ?_
          have h := h.2
          refine A_call (j := 62) (As := [.ref 0, .int (E.2 ((x3 + (1 : Int32))).toNatClampNeg), .int (E.2 ((x3 + (2 : Int32))).toNatClampNeg)]) (fr' := (213, 695, [some (.ref 3000), some (.ref 0), some (.ref 50), some (.int x3)], [])) (S' := S) 1 rfl (e := 5) (by omega) (A_imp (wt62 (E.2 ((x3 + (1 : Int32))).toNatClampNeg) (E.2 ((x3 + (2 : Int32))).toNatClampNeg) h) (fun v S61 hq => ?_))
          obtain ⟨r62, hv, h⟩ := hq
          subst hv
          refine A_ix (x3 + (1 : Int32)) E.1 (r1 := ((213, 701, [some (.ref 3000), some (.ref 0), some (.ref 50), some (.int x3)], [.int (E.2 ((x3 + (1 : Int32))).toNatClampNeg), .ref 50, .int r62]), S61)) 6 rfl h.1 ?_
          have h := h.2
          refine A_ix (x3 + (2 : Int32)) E.1 (r1 := ((213, 706, [some (.ref 3000), some (.ref 0), some (.ref 50), some (.int x3)], [.int (E.2 ((x3 + (2 : Int32))).toNatClampNeg), .int (E.2 ((x3 + (1 : Int32))).toNatClampNeg), .ref 50, .int r62]), S61)) 5 rfl h.1 ?_
          have h := h.2
          refine A_call (j := 185) (As := [.ref 50, .int (E.2 ((x3 + (1 : Int32))).toNatClampNeg), .int (E.2 ((x3 + (2 : Int32))).toNatClampNeg)]) (fr' := (213, 709, [some (.ref 3000), some (.ref 0), some (.ref 50), some (.int x3)], [.int r62])) (S' := S61) 1 rfl (e := 64) (by omega) (A_imp (wt185 (E.2 ((x3 + (1 : Int32))).toNatClampNeg) (E.2 ((x3 + (2 : Int32))).toNatClampNeg) h) (fun v S63 hq => ?_))
          obtain ⟨r64, hv, h⟩ := hq
          subst hv
          refine A_br (r62 = r64) (r1 := ((213, 1224, [some (.ref 3000), some (.ref 0), some (.ref 50), some (.int x3)], []), S63)) (r2 := ((213, 712, [some (.ref 3000), some (.ref 0), some (.ref 50), some (.int x3)], []), S63)) 1 rfl (fun c => ?_) (fun c => ?_)
          · have h := h.1 c
            refine ri_A.less (m := 213) (pc := 1224) (L := [some (.ref 3000), some (.ref 0), some (.ref 50), some (.int x3)]) (L' := [some (.ref 3000), some (.ref 0), some (.ref 50), some (.int x3)]) (st := []) ⟨rfl, ⟨rfl, ⟨rfl, ⟨rfl, trivial⟩⟩⟩⟩ ?_
            exact wt213_b1224 E (fun x3 S hk => ih x3 S hk) _ _ h
          · have h := h.2 c
            exact A_ret 2 (m := 213) (v := some (.int (0 : Int32))) (S' := S63) rfl rfl ⟨_, rfl, h⟩
        | 16, hi, c =>
          have c : ((E.2 (x3).toNatClampNeg) &&& (31 : Int32)) = (16 : Int32) := c
          have h := h.2.2.2.2.2.2.2.2.2.2.2.2.2.2.2.2.1 c
          rw [show ri_tgt 33 (1191) (0) (28) [131, 174, 217, 250, 283, 306, 319, 342, 355, 388, 431, 474, 518, 572, 615, 648, 681, 714, 757, 800, 843, 907, 920, 933, 956, 999, 1042, 1105, 1158] ((E.2 (x3).toNatClampNeg) &&& (31 : Int32)) = 714 by rw [c]; decide]
          refine A_ix (x3 + (1 : Int32)) E.1 (r1 := ((213, 720, [some (.ref 3000), some (.ref 0), some (.ref 50), some (.int x3)], [.int (E.2 ((x3 + (1 : Int32))).toNatClampNeg), .ref 0]), S)) 6 rfl h.1 ?_
          have h := h.2
          refine A_ix (x3 + (2 : Int32)) E.1 (r1 := ((213, 725, [some (.ref 3000), some (.ref 0), some (.ref 50), some (.int x3)], [.int (E.2 ((x3 + (2 : Int32))).toNatClampNeg), .int (E.2 ((x3 + (1 : Int32))).toNatClampNeg), .ref 0]), S)) 5 rfl h.1 ?_
          have h := h.2
          refine A_call (j := 63) (As := [.ref 0, .int (E.2 ((x3 + (1 : Int32))).toNatClampNeg), .int (E.2 ((x3 + (2 : Int32))).toNatClampNeg)]) (fr' := (213, 728, [some (.ref 3000), some (.ref 0), some (.ref 50), some (.int x3)], [])) (S' := S) 1 rfl (e := 4) (by omega) (A_imp (wt63 (E.2 ((x3 + (1 : Int32))).toNatClampNeg) (E.2 ((x3 + (2 : Int32))).toNatClampNeg) h) (fun v S65 hq => ?_))
          obtain ⟨r66, hv, h⟩ := hq
          subst hv
          refine A_ix (x3 + (1 : Int32)) E.1 (r1 := ((213, 734, [some (.ref 3000), some (.ref 0), some (.ref 50), some (.int x3)], [.int (E.2 ((x3 + (1 : Int32))).toNatClampNeg), .ref 50, .int r66]), S65)) 6 rfl h.1 ?_
          have h := h.2
          refine A_ix (x3 + (2 : Int32)) E.1 (r1 := ((213, 739, [some (.ref 3000), some (.ref 0), some (.ref 50), some (.int x3)], [.int (E.2 ((x3 + (2 : Int32))).toNatClampNeg), .int (E.2 ((x3 + (1 : Int32))).toNatClampNeg), .ref 50, .int r66]), S65)) 5 rfl h.1 ?_
          have h := h.2
          refine A_call (j := 188) (As := [.ref 50, .int (E.2 ((x3 + (1 : Int32))).toNatClampNeg), .int (E.2 ((x3 + (2 : Int32))).toNatClampNeg)]) (fr' := (213, 742, [some (.ref 3000), some (.ref 0), some (.ref 50), some (.int x3)], [.int r66])) (S' := S65) 1 rfl (e := 62) (by omega) (A_imp (wt188 (E.2 ((x3 + (1 : Int32))).toNatClampNeg) (E.2 ((x3 + (2 : Int32))).toNatClampNeg) h) (fun v S67 hq => ?_))
          obtain ⟨r68, hv, h⟩ := hq
          subst hv
          refine A_br (r66 = r68) (r1 := ((213, 1224, [some (.ref 3000), some (.ref 0), some (.ref 50), some (.int x3)], []), S67)) (r2 := ((213, 745, [some (.ref 3000), some (.ref 0), some (.ref 50), some (.int x3)], []), S67)) 1 rfl (fun c => ?_) (fun c => ?_)
          · have h := h.1 c
            refine ri_A.less (m := 213) (pc := 1224) (L := [some (.ref 3000), some (.ref 0), some (.ref 50), some (.int x3)]) (L' := [some (.ref 3000), some (.ref 0), some (.ref 50), some (.int x3)]) (st := []) ⟨rfl, ⟨rfl, ⟨rfl, ⟨rfl, trivial⟩⟩⟩⟩ ?_
            exact wt213_b1224 E (fun x3 S hk => ih x3 S hk) _ _ h
          · have h := h.2 c
            exact A_ret 2 (m := 213) (v := some (.int (0 : Int32))) (S' := S67) rfl rfl ⟨_, rfl, h⟩
        | 17, hi, c =>
          have c : ((E.2 (x3).toNatClampNeg) &&& (31 : Int32)) = (17 : Int32) := c
          have h := h.2.2.2.2.2.2.2.2.2.2.2.2.2.2.2.2.2.1 c
          rw [show ri_tgt 33 (1191) (0) (28) [131, 174, 217, 250, 283, 306, 319, 342, 355, 388, 431, 474, 518, 572, 615, 648, 681, 714, 757, 800, 843, 907, 920, 933, 956, 999, 1042, 1105, 1158] ((E.2 (x3).toNatClampNeg) &&& (31 : Int32)) = 747 by rw [c]; decide]
          refine A_ix (x3 + (1 : Int32)) E.1 (r1 := ((213, 753, [some (.ref 3000), some (.ref 0), some (.ref 50), some (.int x3)], [.int (E.2 ((x3 + (1 : Int32))).toNatClampNeg), .ref 0]), S)) 6 rfl h.1 ?_
          have h := h.2
          refine A_ix (x3 + (2 : Int32)) E.1 (r1 := ((213, 758, [some (.ref 3000), some (.ref 0), some (.ref 50), some (.int x3)], [.int (E.2 ((x3 + (2 : Int32))).toNatClampNeg), .int (E.2 ((x3 + (1 : Int32))).toNatClampNeg), .ref 0]), S)) 5 rfl h.1 ?_
          have h := h.2
          refine A_ix (x3 + (3 : Int32)) E.1 (r1 := ((213, 763, [some (.ref 3000), some (.ref 0), some (.ref 50), some (.int x3)], [.int (E.2 ((x3 + (3 : Int32))).toNatClampNeg), .int (E.2 ((x3 + (2 : Int32))).toNatClampNeg), .int (E.2 ((x3 + (1 : Int32))).toNatClampNeg), .ref 0]), S)) 5 rfl h.1 ?_
          have h := h.2
          refine A_call (j := 64) (As := [.ref 0, .int (E.2 ((x3 + (1 : Int32))).toNatClampNeg), .int (E.2 ((x3 + (2 : Int32))).toNatClampNeg), .int (E.2 ((x3 + (3 : Int32))).toNatClampNeg)]) (fr' := (213, 766, [some (.ref 3000), some (.ref 0), some (.ref 50), some (.int x3)], [])) (S' := S) 1 rfl (e := 6) (by omega) (A_imp (wt64 (E.2 ((x3 + (1 : Int32))).toNatClampNeg) (E.2 ((x3 + (2 : Int32))).toNatClampNeg) (E.2 ((x3 + (3 : Int32))).toNatClampNeg) h) (fun v S69 hq => ?_))
          obtain ⟨r70, hv, h⟩ := hq
          subst hv
          refine A_ix (x3 + (1 : Int32)) E.1 (r1 := ((213, 772, [some (.ref 3000), some (.ref 0), some (.ref 50), some (.int x3)], [.int (E.2 ((x3 + (1 : Int32))).toNatClampNeg), .ref 50, .int r70]), S69)) 6 rfl h.1 ?_
          have h := h.2
          refine A_ix (x3 + (2 : Int32)) E.1 (r1 := ((213, 777, [some (.ref 3000), some (.ref 0), some (.ref 50), some (.int x3)], [.int (E.2 ((x3 + (2 : Int32))).toNatClampNeg), .int (E.2 ((x3 + (1 : Int32))).toNatClampNeg), .ref 50, .int r70]), S69)) 5 rfl h.1 ?_
          have h := h.2
          refine A_ix (x3 + (3 : Int32)) E.1 (r1 := ((213, 782, [some (.ref 3000), some (.ref 0), some (.ref 50), some (.int x3)], [.int (E.2 ((x3 + (3 : Int32))).toNatClampNeg), .int (E.2 ((x3 + (2 : Int32))).toNatClampNeg), .int (E.2 ((x3 + (1 : Int32))).toNatClampNeg), .ref 50, .int r70]), S69)) 5 rfl h.1 ?_
          have h := h.2
          refine A_call (j := 191) (As := [.ref 50, .int (E.2 ((x3 + (1 : Int32))).toNatClampNeg), .int (E.2 ((x3 + (2 : Int32))).toNatClampNeg), .int (E.2 ((x3 + (3 : Int32))).toNatClampNeg)]) (fr' := (213, 785, [some (.ref 3000), some (.ref 0), some (.ref 50), some (.int x3)], [.int r70])) (S' := S69) 1 rfl (e := 65) (by omega) (A_imp (wt191 (E.2 ((x3 + (1 : Int32))).toNatClampNeg) (E.2 ((x3 + (2 : Int32))).toNatClampNeg) (E.2 ((x3 + (3 : Int32))).toNatClampNeg) h) (fun v S71 hq => ?_))
          obtain ⟨r72, hv, h⟩ := hq
          subst hv
          refine A_br (r70 = r72) (r1 := ((213, 1224, [some (.ref 3000), some (.ref 0), some (.ref 50), some (.int x3)], []), S71)) (r2 := ((213, 788, [some (.ref 3000), some (.ref 0), some (.ref 50), some (.int x3)], []), S71)) 1 rfl (fun c => ?_) (fun c => ?_)
          · have h := h.1 c
            refine ri_A.less (m := 213) (pc := 1224) (L := [some (.ref 3000), some (.ref 0), some (.ref 50), some (.int x3)]) (L' := [some (.ref 3000), some (.ref 0), some (.ref 50), some (.int x3)]) (st := []) ⟨rfl, ⟨rfl, ⟨rfl, ⟨rfl, trivial⟩⟩⟩⟩ ?_
            exact wt213_b1224 E (fun x3 S hk => ih x3 S hk) _ _ h
          · have h := h.2 c
            exact A_ret 2 (m := 213) (v := some (.int (0 : Int32))) (S' := S71) rfl rfl ⟨_, rfl, h⟩
        | 18, hi, c =>
          have c : ((E.2 (x3).toNatClampNeg) &&& (31 : Int32)) = (18 : Int32) := c
          have h := h.2.2.2.2.2.2.2.2.2.2.2.2.2.2.2.2.2.2.1 c
          rw [show ri_tgt 33 (1191) (0) (28) [131, 174, 217, 250, 283, 306, 319, 342, 355, 388, 431, 474, 518, 572, 615, 648, 681, 714, 757, 800, 843, 907, 920, 933, 956, 999, 1042, 1105, 1158] ((E.2 (x3).toNatClampNeg) &&& (31 : Int32)) = 790 by rw [c]; decide]
          refine A_ix (x3 + (1 : Int32)) E.1 (r1 := ((213, 796, [some (.ref 3000), some (.ref 0), some (.ref 50), some (.int x3)], [.int (E.2 ((x3 + (1 : Int32))).toNatClampNeg), .ref 0]), S)) 6 rfl h.1 ?_
          have h := h.2
          refine A_ix (x3 + (2 : Int32)) E.1 (r1 := ((213, 801, [some (.ref 3000), some (.ref 0), some (.ref 50), some (.int x3)], [.int (E.2 ((x3 + (2 : Int32))).toNatClampNeg), .int (E.2 ((x3 + (1 : Int32))).toNatClampNeg), .ref 0]), S)) 5 rfl h.1 ?_
          have h := h.2
          refine A_ix (x3 + (3 : Int32)) E.1 (r1 := ((213, 806, [some (.ref 3000), some (.ref 0), some (.ref 50), some (.int x3)], [.int (E.2 ((x3 + (3 : Int32))).toNatClampNeg), .int (E.2 ((x3 + (2 : Int32))).toNatClampNeg), .int (E.2 ((x3 + (1 : Int32))).toNatClampNeg), .ref 0]), S)) 5 rfl h.1 ?_
          have h := h.2
          refine A_call (j := 65) (As := [.ref 0, .int (E.2 ((x3 + (1 : Int32))).toNatClampNeg), .int (E.2 ((x3 + (2 : Int32))).toNatClampNeg), .int (E.2 ((x3 + (3 : Int32))).toNatClampNeg)]) (fr' := (213, 809, [some (.ref 3000), some (.ref 0), some (.ref 50), some (.int x3)], [])) (S' := S) 1 rfl (e := 4) (by omega) (A_imp (wt65 (E.2 ((x3 + (1 : Int32))).toNatClampNeg) (E.2 ((x3 + (2 : Int32))).toNatClampNeg) (E.2 ((x3 + (3 : Int32))).toNatClampNeg) h) (fun v S73 hq => ?_))
          obtain ⟨r74, hv, h⟩ := hq
          subst hv
          refine A_ix (x3 + (1 : Int32)) E.1 (r1 := ((213, 815, [some (.ref 3000), some (.ref 0), some (.ref 50), some (.int x3)], [.int (E.2 ((x3 + (1 : Int32))).toNatClampNeg), .ref 50, .int r74]), S73)) 6 rfl h.1 ?_
          have h := h.2
          refine A_ix (x3 + (2 : Int32)) E.1 (r1 := ((213, 820, [some (.ref 3000), some (.ref 0), some (.ref 50), some (.int x3)], [.int (E.2 ((x3 + (2 : Int32))).toNatClampNeg), .int (E.2 ((x3 + (1 : Int32))).toNatClampNeg), .ref 50, .int r74]), S73)) 5 rfl h.1 ?_
          have h := h.2
          refine A_ix (x3 + (3 : Int32)) E.1 (r1 := ((213, 825, [some (.ref 3000), some (.ref 0), some (.ref 50), some (.int x3)], [.int (E.2 ((x3 + (3 : Int32))).toNatClampNeg), .int (E.2 ((x3 + (2 : Int32))).toNatClampNeg), .int (E.2 ((x3 + (1 : Int32))).toNatClampNeg), .ref 50, .int r74]), S73)) 5 rfl h.1 ?_
          have h := h.2
          refine A_call (j := 192) (As := [.ref 50, .int (E.2 ((x3 + (1 : Int32))).toNatClampNeg), .int (E.2 ((x3 + (2 : Int32))).toNatClampNeg), .int (E.2 ((x3 + (3 : Int32))).toNatClampNeg)]) (fr' := (213, 828, [some (.ref 3000), some (.ref 0), some (.ref 50), some (.int x3)], [.int r74])) (S' := S73) 1 rfl (e := 63) (by omega) (A_imp (wt192 (E.2 ((x3 + (1 : Int32))).toNatClampNeg) (E.2 ((x3 + (2 : Int32))).toNatClampNeg) (E.2 ((x3 + (3 : Int32))).toNatClampNeg) h) (fun v S75 hq => ?_))
          obtain ⟨r76, hv, h⟩ := hq
          subst hv
          refine A_br (r74 = r76) (r1 := ((213, 1224, [some (.ref 3000), some (.ref 0), some (.ref 50), some (.int x3)], []), S75)) (r2 := ((213, 831, [some (.ref 3000), some (.ref 0), some (.ref 50), some (.int x3)], []), S75)) 1 rfl (fun c => ?_) (fun c => ?_)
          · have h := h.1 c
            refine ri_A.less (m := 213) (pc := 1224) (L := [some (.ref 3000), some (.ref 0), some (.ref 50), some (.int x3)]) (L' := [some (.ref 3000), some (.ref 0), some (.ref 50), some (.int x3)]) (st := []) ⟨rfl, ⟨rfl, ⟨rfl, ⟨rfl, trivial⟩⟩⟩⟩ ?_
            exact wt213_b1224 E (fun x3 S hk => ih x3 S hk) _ _ h
          · have h := h.2 c
            exact A_ret 2 (m := 213) (v := some (.int (0 : Int32))) (S' := S75) rfl rfl ⟨_, rfl, h⟩
        | 19, hi, c =>
          have c : ((E.2 (x3).toNatClampNeg) &&& (31 : Int32)) = (19 : Int32) := c
          have h := h.2.2.2.2.2.2.2.2.2.2.2.2.2.2.2.2.2.2.2.1 c
          rw [show ri_tgt 33 (1191) (0) (28) [131, 174, 217, 250, 283, 306, 319, 342, 355, 388, 431, 474, 518, 572, 615, 648, 681, 714, 757, 800, 843, 907, 920, 933, 956, 999, 1042, 1105, 1158] ((E.2 (x3).toNatClampNeg) &&& (31 : Int32)) = 833 by rw [c]; decide]
          refine A_ix (x3 + (1 : Int32)) E.1 (r1 := ((213, 839, [some (.ref 3000), some (.ref 0), some (.ref 50), some (.int x3)], [.int (E.2 ((x3 + (1 : Int32))).toNatClampNeg), .ref 0]), S)) 6 rfl h.1 ?_
          have h := h.2
          refine A_ix (x3 + (2 : Int32)) E.1 (r1 := ((213, 844, [some (.ref 3000), some (.ref 0), some (.ref 50), some (.int x3)], [.int (E.2 ((x3 + (2 : Int32))).toNatClampNeg), .int (E.2 ((x3 + (1 : Int32))).toNatClampNeg), .ref 0]), S)) 5 rfl h.1 ?_
          have h := h.2
          refine A_ix (x3 + (3 : Int32)) E.1 (r1 := ((213, 849, [some (.ref 3000), some (.ref 0), some (.ref 50), some (.int x3)], [.int (E.2 ((x3 + (3 : Int32))).toNatClampNeg), .int (E.2 ((x3 + (2 : Int32))).toNatClampNeg), .int (E.2 ((x3 + (1 : Int32))).toNatClampNeg), .ref 0]), S)) 5 rfl h.1 ?_
          have h := h.2
          refine A_call (j := 66) (As := [.ref 0, .int (E.2 ((x3 + (1 : Int32))).toNatClampNeg), .int (E.2 ((x3 + (2 : Int32))).toNatClampNeg), .int (E.2 ((x3 + (3 : Int32))).toNatClampNeg)]) (fr' := (213, 852, [some (.ref 3000), some (.ref 0), some (.ref 50), some (.int x3)], [])) (S' := S) 1 rfl (e := 2) (by omega) (A_imp (wt66 (E.2 ((x3 + (1 : Int32))).toNatClampNeg) (E.2 ((x3 + (2 : Int32))).toNatClampNeg) (E.2 ((x3 + (3 : Int32))).toNatClampNeg) h) (fun v S77 hq => ?_))
          obtain ⟨r78, hv, h⟩ := hq
          subst hv
          refine A_ix (x3 + (1 : Int32)) E.1 (r1 := ((213, 858, [some (.ref 3000), some (.ref 0), some (.ref 50), some (.int x3)], [.int (E.2 ((x3 + (1 : Int32))).toNatClampNeg), .ref 50, .int r78]), S77)) 6 rfl h.1 ?_
          have h := h.2
          refine A_ix (x3 + (2 : Int32)) E.1 (r1 := ((213, 863, [some (.ref 3000), some (.ref 0), some (.ref 50), some (.int x3)], [.int (E.2 ((x3 + (2 : Int32))).toNatClampNeg), .int (E.2 ((x3 + (1 : Int32))).toNatClampNeg), .ref 50, .int r78]), S77)) 5 rfl h.1 ?_
          have h := h.2
          refine A_ix (x3 + (3 : Int32)) E.1 (r1 := ((213, 868, [some (.ref 3000), some (.ref 0), some (.ref 50), some (.int x3)], [.int (E.2 ((x3 + (3 : Int32))).toNatClampNeg), .int (E.2 ((x3 + (2 : Int32))).toNatClampNeg), .int (E.2 ((x3 + (1 : Int32))).toNatClampNeg), .ref 50, .int r78]), S77)) 5 rfl h.1 ?_
          have h := h.2
          refine A_call (j := 194) (As := [.ref 50, .int (E.2 ((x3 + (1 : Int32))).toNatClampNeg), .int (E.2 ((x3 + (2 : Int32))).toNatClampNeg), .int (E.2 ((x3 + (3 : Int32))).toNatClampNeg)]) (fr' := (213, 871, [some (.ref 3000), some (.ref 0), some (.ref 50), some (.int x3)], [.int r78])) (S' := S77) 1 rfl (e := 2) (by omega) (A_imp (wt194 (E.2 ((x3 + (1 : Int32))).toNatClampNeg) (E.2 ((x3 + (2 : Int32))).toNatClampNeg) (E.2 ((x3 + (3 : Int32))).toNatClampNeg) h) (fun v S79 hq => ?_))
          obtain ⟨r80, hv, h⟩ := hq
          subst hv
          refine A_br (r78 = r80) (r1 := ((213, 1224, [some (.ref 3000), some (.ref 0), some (.ref 50), some (.int x3)], []), S79)) (r2 := ((213, 874, [some (.ref 3000), some (.ref 0), some (.ref 50), some (.int x3)], []), S79)) 1 rfl (fun c => ?_) (fun c => ?_)
          · have h := h.1 c
            refine ri_A.less (m := 213) (pc := 1224) (L := [some (.ref 3000), some (.ref 0), some (.ref 50), some (.int x3)]) (L' := [some (.ref 3000), some (.ref 0), some (.ref 50), some (.int x3)]) (st := []) ⟨rfl, ⟨rfl, ⟨rfl, ⟨rfl, trivial⟩⟩⟩⟩ ?_
            exact wt213_b1224 E (fun x3 S hk => ih x3 S hk) _ _ h
          · have h := h.2 c
            exact A_ret 2 (m := 213) (v := some (.int (0 : Int32))) (S' := S79) rfl rfl ⟨_, rfl, h⟩
        | 20, hi, c =>
          have c : ((E.2 (x3).toNatClampNeg) &&& (31 : Int32)) = (20 : Int32) := c
          have h := h.2.2.2.2.2.2.2.2.2.2.2.2.2.2.2.2.2.2.2.2.1 c
          rw [show ri_tgt 33 (1191) (0) (28) [131, 174, 217, 250, 283, 306, 319, 342, 355, 388, 431, 474, 518, 572, 615, 648, 681, 714, 757, 800, 843, 907, 920, 933, 956, 999, 1042, 1105, 1158] ((E.2 (x3).toNatClampNeg) &&& (31 : Int32)) = 876 by rw [c]; decide]
          refine A_ix (x3 + (1 : Int32)) E.1 (r1 := ((213, 882, [some (.ref 3000), some (.ref 0), some (.ref 50), some (.int x3)], [.int (E.2 ((x3 + (1 : Int32))).toNatClampNeg), .ref 0]), S)) 6 rfl h.1 ?_
          have h := h.2
          refine A_ix (x3 + (2 : Int32)) E.1 (r1 := ((213, 887, [some (.ref 3000), some (.ref 0), some (.ref 50), some (.int x3)], [.int (E.2 ((x3 + (2 : Int32))).toNatClampNeg), .int (E.2 ((x3 + (1 : Int32))).toNatClampNeg), .ref 0]), S)) 5 rfl h.1 ?_
          have h := h.2
          refine A_ix (x3 + (3 : Int32)) E.1 (r1 := ((213, 892, [some (.ref 3000), some (.ref 0), some (.ref 50), some (.int x3)], [.int (E.2 ((x3 + (3 : Int32))).toNatClampNeg), .int (E.2 ((x3 + (2 : Int32))).toNatClampNeg), .int (E.2 ((x3 + (1 : Int32))).toNatClampNeg), .ref 0]), S)) 5 rfl h.1 ?_
          have h := h.2
          refine A_ix (x3 + (4 : Int32)) E.1 (r1 := ((213, 897, [some (.ref 3000), some (.ref 0), some (.ref 50), some (.int x3)], [.int (E.2 ((x3 + (4 : Int32))).toNatClampNeg), .int (E.2 ((x3 + (3 : Int32))).toNatClampNeg), .int (E.2 ((x3 + (2 : Int32))).toNatClampNeg), .int (E.2 ((x3 + (1 : Int32))).toNatClampNeg), .ref 0]), S)) 5 rfl h.1 ?_
          have h := h.2
          refine A_ix (x3 + (5 : Int32)) E.1 (r1 := ((213, 902, [some (.ref 3000), some (.ref 0), some (.ref 50), some (.int x3)], [.int (E.2 ((x3 + (5 : Int32))).toNatClampNeg), .int (E.2 ((x3 + (4 : Int32))).toNatClampNeg), .int (E.2 ((x3 + (3 : Int32))).toNatClampNeg), .int (E.2 ((x3 + (2 : Int32))).toNatClampNeg), .int (E.2 ((x3 + (1 : Int32))).toNatClampNeg), .ref 0]), S)) 5 rfl h.1 ?_
          have h := h.2
          refine A_call (j := 67) (As := [.ref 0, .int (E.2 ((x3 + (1 : Int32))).toNatClampNeg), .int (E.2 ((x3 + (2 : Int32))).toNatClampNeg), .int (E.2 ((x3 + (3 : Int32))).toNatClampNeg), .int (E.2 ((x3 + (4 : Int32))).toNatClampNeg), .int (E.2 ((x3 + (5 : Int32))).toNatClampNeg)]) (fr' := (213, 905, [some (.ref 3000), some (.ref 0), some (.ref 50), some (.int x3)], [])) (S' := S) 1 rfl (e := 2) (by omega) (A_imp (wt67 (E.2 ((x3 + (1 : Int32))).toNatClampNeg) (E.2 ((x3 + (2 : Int32))).toNatClampNeg) (E.2 ((x3 + (3 : Int32))).toNatClampNeg) (E.2 ((x3 + (4 : Int32))).toNatClampNeg) (E.2 ((x3 + (5 : Int32))).toNatClampNeg) h) (fun v S81 hq => ?_))
          obtain ⟨r82, hv, h⟩ := hq
          subst hv
          refine A_ix (x3 + (1 : Int32)) E.1 (r1 := ((213, 911, [some (.ref 3000), some (.ref 0), some (.ref 50), some (.int x3)], [.int (E.2 ((x3 + (1 : Int32))).toNatClampNeg), .ref 50, .long r82]), S81)) 6 rfl h.1 ?_
          have h := h.2
          refine A_ix (x3 + (2 : Int32)) E.1 (r1 := ((213, 916, [some (.ref 3000), some (.ref 0), some (.ref 50), some (.int x3)], [.int (E.2 ((x3 + (2 : Int32))).toNatClampNeg), .int (E.2 ((x3 + (1 : Int32))).toNatClampNeg), .ref 50, .long r82]), S81)) 5 rfl h.1 ?_
          have h := h.2
          refine A_ix (x3 + (3 : Int32)) E.1 (r1 := ((213, 921, [some (.ref 3000), some (.ref 0), some (.ref 50), some (.int x3)], [.int (E.2 ((x3 + (3 : Int32))).toNatClampNeg), .int (E.2 ((x3 + (2 : Int32))).toNatClampNeg), .int (E.2 ((x3 + (1 : Int32))).toNatClampNeg), .ref 50, .long r82]), S81)) 5 rfl h.1 ?_
          have h := h.2
          refine A_ix (x3 + (4 : Int32)) E.1 (r1 := ((213, 926, [some (.ref 3000), some (.ref 0), some (.ref 50), some (.int x3)], [.int (E.2 ((x3 + (4 : Int32))).toNatClampNeg), .int (E.2 ((x3 + (3 : Int32))).toNatClampNeg), .int (E.2 ((x3 + (2 : Int32))).toNatClampNeg), .int (E.2 ((x3 + (1 : Int32))).toNatClampNeg), .ref 50, .long r82]), S81)) 5 rfl h.1 ?_
          have h := h.2
          refine A_ix (x3 + (5 : Int32)) E.1 (r1 := ((213, 931, [some (.ref 3000), some (.ref 0), some (.ref 50), some (.int x3)], [.int (E.2 ((x3 + (5 : Int32))).toNatClampNeg), .int (E.2 ((x3 + (4 : Int32))).toNatClampNeg), .int (E.2 ((x3 + (3 : Int32))).toNatClampNeg), .int (E.2 ((x3 + (2 : Int32))).toNatClampNeg), .int (E.2 ((x3 + (1 : Int32))).toNatClampNeg), .ref 50, .long r82]), S81)) 5 rfl h.1 ?_
          have h := h.2
          refine A_call (j := 195) (As := [.ref 50, .int (E.2 ((x3 + (1 : Int32))).toNatClampNeg), .int (E.2 ((x3 + (2 : Int32))).toNatClampNeg), .int (E.2 ((x3 + (3 : Int32))).toNatClampNeg), .int (E.2 ((x3 + (4 : Int32))).toNatClampNeg), .int (E.2 ((x3 + (5 : Int32))).toNatClampNeg)]) (fr' := (213, 934, [some (.ref 3000), some (.ref 0), some (.ref 50), some (.int x3)], [.long r82])) (S' := S81) 1 rfl (e := 2) (by omega) (A_imp (wt195 (E.2 ((x3 + (1 : Int32))).toNatClampNeg) (E.2 ((x3 + (2 : Int32))).toNatClampNeg) (E.2 ((x3 + (3 : Int32))).toNatClampNeg) (E.2 ((x3 + (4 : Int32))).toNatClampNeg) (E.2 ((x3 + (5 : Int32))).toNatClampNeg) h) (fun v S83 hq => ?_))
          obtain ⟨r84, hv, h⟩ := hq
          subst hv
          refine A_br ((lg_cmp r82 r84) = 0) (r1 := ((213, 1224, [some (.ref 3000), some (.ref 0), some (.ref 50), some (.int x3)], []), S83)) (r2 := ((213, 938, [some (.ref 3000), some (.ref 0), some (.ref 50), some (.int x3)], []), S83)) 2 rfl (fun c => ?_) (fun c => ?_)
          · have h := h.1 c
            refine ri_A.less (m := 213) (pc := 1224) (L := [some (.ref 3000), some (.ref 0), some (.ref 50), some (.int x3)]) (L' := [some (.ref 3000), some (.ref 0), some (.ref 50), some (.int x3)]) (st := []) ⟨rfl, ⟨rfl, ⟨rfl, ⟨rfl, trivial⟩⟩⟩⟩ ?_
            exact wt213_b1224 E (fun x3 S hk => ih x3 S hk) _ _ h
          · have h := h.2 c
            exact A_ret 2 (m := 213) (v := some (.int (0 : Int32))) (S' := S83) rfl rfl ⟨_, rfl, h⟩
        | 21, hi, c =>
          have c : ((E.2 (x3).toNatClampNeg) &&& (31 : Int32)) = (21 : Int32) := c
          have h := h.2.2.2.2.2.2.2.2.2.2.2.2.2.2.2.2.2.2.2.2.2.1 c
          rw [show ri_tgt 33 (1191) (0) (28) [131, 174, 217, 250, 283, 306, 319, 342, 355, 388, 431, 474, 518, 572, 615, 648, 681, 714, 757, 800, 843, 907, 920, 933, 956, 999, 1042, 1105, 1158] ((E.2 (x3).toNatClampNeg) &&& (31 : Int32)) = 940 by rw [c]; decide]
          refine A_call (j := 68) (As := [.ref 0]) (fr' := (213, 944, [some (.ref 3000), some (.ref 0), some (.ref 50), some (.int x3)], [])) (S' := S) 2 rfl (e := 2) (by omega) (A_imp (wt68  h) (fun v S85 hq => ?_))
          obtain ⟨r86, hv, h⟩ := hq
          subst hv
          refine A_call (j := 196) (As := [.ref 50]) (fr' := (213, 948, [some (.ref 3000), some (.ref 0), some (.ref 50), some (.int x3)], [.int r86])) (S' := S85) 2 rfl (e := 0) (by omega) (A_imp (wt196  h) (fun v S87 hq => ?_))
          obtain ⟨r88, hv, h⟩ := hq
          subst hv
          refine A_br (r86 = r88) (r1 := ((213, 1224, [some (.ref 3000), some (.ref 0), some (.ref 50), some (.int x3)], []), S87)) (r2 := ((213, 951, [some (.ref 3000), some (.ref 0), some (.ref 50), some (.int x3)], []), S87)) 1 rfl (fun c => ?_) (fun c => ?_)
          · have h := h.1 c
            refine ri_A.less (m := 213) (pc := 1224) (L := [some (.ref 3000), some (.ref 0), some (.ref 50), some (.int x3)]) (L' := [some (.ref 3000), some (.ref 0), some (.ref 50), some (.int x3)]) (st := []) ⟨rfl, ⟨rfl, ⟨rfl, ⟨rfl, trivial⟩⟩⟩⟩ ?_
            exact wt213_b1224 E (fun x3 S hk => ih x3 S hk) _ _ h
          · have h := h.2 c
            exact A_ret 2 (m := 213) (v := some (.int (0 : Int32))) (S' := S87) rfl rfl ⟨_, rfl, h⟩
        | 22, hi, c =>
          have c : ((E.2 (x3).toNatClampNeg) &&& (31 : Int32)) = (22 : Int32) := c
          have h := h.2.2.2.2.2.2.2.2.2.2.2.2.2.2.2.2.2.2.2.2.2.2.1 c
          rw [show ri_tgt 33 (1191) (0) (28) [131, 174, 217, 250, 283, 306, 319, 342, 355, 388, 431, 474, 518, 572, 615, 648, 681, 714, 757, 800, 843, 907, 920, 933, 956, 999, 1042, 1105, 1158] ((E.2 (x3).toNatClampNeg) &&& (31 : Int32)) = 953 by rw [c]; decide]
          refine A_call (j := 69) (As := [.ref 0]) (fr' := (213, 957, [some (.ref 3000), some (.ref 0), some (.ref 50), some (.int x3)], [])) (S' := S) 2 rfl (e := 2) (by omega) (A_imp (wt69  h) (fun v S89 hq => ?_))
          obtain ⟨r90, hv, h⟩ := hq
          subst hv
          refine A_call (j := 197) (As := [.ref 50]) (fr' := (213, 961, [some (.ref 3000), some (.ref 0), some (.ref 50), some (.int x3)], [.int r90])) (S' := S89) 2 rfl (e := 0) (by omega) (A_imp (wt197  h) (fun v S91 hq => ?_))
          obtain ⟨r92, hv, h⟩ := hq
          subst hv
          refine A_br (r90 = r92) (r1 := ((213, 1224, [some (.ref 3000), some (.ref 0), some (.ref 50), some (.int x3)], []), S91)) (r2 := ((213, 964, [some (.ref 3000), some (.ref 0), some (.ref 50), some (.int x3)], []), S91)) 1 rfl (fun c => ?_) (fun c => ?_)
          · have h := h.1 c
            refine ri_A.less (m := 213) (pc := 1224) (L := [some (.ref 3000), some (.ref 0), some (.ref 50), some (.int x3)]) (L' := [some (.ref 3000), some (.ref 0), some (.ref 50), some (.int x3)]) (st := []) ⟨rfl, ⟨rfl, ⟨rfl, ⟨rfl, trivial⟩⟩⟩⟩ ?_
            exact wt213_b1224 E (fun x3 S hk => ih x3 S hk) _ _ h
          · have h := h.2 c
            exact A_ret 2 (m := 213) (v := some (.int (0 : Int32))) (S' := S91) rfl rfl ⟨_, rfl, h⟩
        | 23, hi, c =>
          have c : ((E.2 (x3).toNatClampNeg) &&& (31 : Int32)) = (23 : Int32) := c
          have h := h.2.2.2.2.2.2.2.2.2.2.2.2.2.2.2.2.2.2.2.2.2.2.2.1 c
          rw [show ri_tgt 33 (1191) (0) (28) [131, 174, 217, 250, 283, 306, 319, 342, 355, 388, 431, 474, 518, 572, 615, 648, 681, 714, 757, 800, 843, 907, 920, 933, 956, 999, 1042, 1105, 1158] ((E.2 (x3).toNatClampNeg) &&& (31 : Int32)) = 966 by rw [c]; decide]
          refine A_ix (x3 + (1 : Int32)) E.1 (r1 := ((213, 972, [some (.ref 3000), some (.ref 0), some (.ref 50), some (.int x3)], [.int (E.2 ((x3 + (1 : Int32))).toNatClampNeg), .ref 0]), S)) 6 rfl h.1 ?_
          have h := h.2
          refine A_call (j := 70) (As := [.ref 0, .int (E.2 ((x3 + (1 : Int32))).toNatClampNeg)]) (fr' := (213, 975, [some (.ref 3000), some (.ref 0), some (.ref 50), some (.int x3)], [])) (S' := S) 1 rfl (e := 1) (by omega) (A_imp (wt70 (E.2 ((x3 + (1 : Int32))).toNatClampNeg) h) (fun v S93 hq => ?_))
          obtain ⟨r94, hv, h⟩ := hq
          subst hv
          refine A_ix (x3 + (1 : Int32)) E.1 (r1 := ((213, 981, [some (.ref 3000), some (.ref 0), some (.ref 50), some (.int x3)], [.int (E.2 ((x3 + (1 : Int32))).toNatClampNeg), .ref 50, .int r94]), S93)) 6 rfl h.1 ?_
          have h := h.2
          refine A_call (j := 198) (As := [.ref 50, .int (E.2 ((x3 + (1 : Int32))).toNatClampNeg)]) (fr' := (213, 984, [some (.ref 3000), some (.ref 0), some (.ref 50), some (.int x3)], [.int r94])) (S' := S93) 1 rfl (e := 1) (by omega) (A_imp (wt198 (E.2 ((x3 + (1 : Int32))).toNatClampNeg) h) (fun v S95 hq => ?_))
          obtain ⟨r96, hv, h⟩ := hq
          subst hv
          refine A_br (r94 = r96) (r1 := ((213, 1224, [some (.ref 3000), some (.ref 0), some (.ref 50), some (.int x3)], []), S95)) (r2 := ((213, 987, [some (.ref 3000), some (.ref 0), some (.ref 50), some (.int x3)], []), S95)) 1 rfl (fun c => ?_) (fun c => ?_)
          · have h := h.1 c
            refine ri_A.less (m := 213) (pc := 1224) (L := [some (.ref 3000), some (.ref 0), some (.ref 50), some (.int x3)]) (L' := [some (.ref 3000), some (.ref 0), some (.ref 50), some (.int x3)]) (st := []) ⟨rfl, ⟨rfl, ⟨rfl, ⟨rfl, trivial⟩⟩⟩⟩ ?_
            exact wt213_b1224 E (fun x3 S hk => ih x3 S hk) _ _ h
          · have h := h.2 c
            exact A_ret 2 (m := 213) (v := some (.int (0 : Int32))) (S' := S95) rfl rfl ⟨_, rfl, h⟩
        | 24, hi, c =>
          have c : ((E.2 (x3).toNatClampNeg) &&& (31 : Int32)) = (24 : Int32) := c
          have h := h.2.2.2.2.2.2.2.2.2.2.2.2.2.2.2.2.2.2.2.2.2.2.2.2.1 c
          rw [show ri_tgt 33 (1191) (0) (28) [131, 174, 217, 250, 283, 306, 319, 342, 355, 388, 431, 474, 518, 572, 615, 648, 681, 714, 757, 800, 843, 907, 920, 933, 956, 999, 1042, 1105, 1158] ((E.2 (x3).toNatClampNeg) &&& (31 : Int32)) = 989 by rw [c]; decide]
          refine A_ix (x3 + (1 : Int32)) E.1 (r1 := ((213, 995, [some (.ref 3000), some (.ref 0), some (.ref 50), some (.int x3)], [.int (E.2 ((x3 + (1 : Int32))).toNatClampNeg), .ref 0]), S)) 6 rfl h.1 ?_
          have h := h.2
          refine A_ix (x3 + (2 : Int32)) E.1 (r1 := ((213, 1000, [some (.ref 3000), some (.ref 0), some (.ref 50), some (.int x3)], [.int (E.2 ((x3 + (2 : Int32))).toNatClampNeg), .int (E.2 ((x3 + (1 : Int32))).toNatClampNeg), .ref 0]), S)) 5 rfl h.1 ?_
          have h := h.2
          refine A_ix (x3 + (3 : Int32)) E.1 (r1 := ((213, 1005, [some (.ref 3000), some (.ref 0), some (.ref 50), some (.int x3)], [.int (E.2 ((x3 + (3 : Int32))).toNatClampNeg), .int (E.2 ((x3 + (2 : Int32))).toNatClampNeg), .int (E.2 ((x3 + (1 : Int32))).toNatClampNeg), .ref 0]), S)) 5 rfl h.1 ?_
          have h := h.2
          refine A_call (j := 71) (As := [.ref 0, .int (E.2 ((x3 + (1 : Int32))).toNatClampNeg), .int (E.2 ((x3 + (2 : Int32))).toNatClampNeg), .int (E.2 ((x3 + (3 : Int32))).toNatClampNeg)]) (fr' := (213, 1008, [some (.ref 3000), some (.ref 0), some (.ref 50), some (.int x3)], [])) (S' := S) 1 rfl (e := 2) (by omega) (A_imp (wt71 (E.2 ((x3 + (1 : Int32))).toNatClampNeg) (E.2 ((x3 + (2 : Int32))).toNatClampNeg) (E.2 ((x3 + (3 : Int32))).toNatClampNeg) h) (fun v S97 hq => ?_))
          obtain ⟨r98, hv, h⟩ := hq
          subst hv
          refine A_ix (x3 + (1 : Int32)) E.1 (r1 := ((213, 1014, [some (.ref 3000), some (.ref 0), some (.ref 50), some (.int x3)], [.int (E.2 ((x3 + (1 : Int32))).toNatClampNeg), .ref 50, .int r98]), S97)) 6 rfl h.1 ?_
          have h := h.2
          refine A_ix (x3 + (2 : Int32)) E.1 (r1 := ((213, 1019, [some (.ref 3000), some (.ref 0), some (.ref 50), some (.int x3)], [.int (E.2 ((x3 + (2 : Int32))).toNatClampNeg), .int (E.2 ((x3 + (1 : Int32))).toNatClampNeg), .ref 50, .int r98]), S97)) 5 rfl h.1 ?_
          have h := h.2
          refine A_ix (x3 + (3 : Int32)) E.1 (r1 := ((213, 1024, [some (.ref 3000), some (.ref 0), some (.ref 50), some (.int x3)], [.int (E.2 ((x3 + (3 : Int32))).toNatClampNeg), .int (E.2 ((x3 + (2 : Int32))).toNatClampNeg), .int (E.2 ((x3 + (1 : Int32))).toNatClampNeg), .ref 50, .int r98]), S97)) 5 rfl h.1 ?_
          have h := h.2
          refine A_call (j := 200) (As := [.ref 50, .int (E.2 ((x3 + (1 : Int32))).toNatClampNeg), .int (E.2 ((x3 + (2 : Int32))).toNatClampNeg), .int (E.2 ((x3 + (3 : Int32))).toNatClampNeg)]) (fr' := (213, 1027, [some (.ref 3000), some (.ref 0), some (.ref 50), some (.int x3)], [.int r98])) (S' := S97) 1 rfl (e := 2) (by omega) (A_imp (wt200 (E.2 ((x3 + (1 : Int32))).toNatClampNeg) (E.2 ((x3 + (2 : Int32))).toNatClampNeg) (E.2 ((x3 + (3 : Int32))).toNatClampNeg) h) (fun v S99 hq => ?_))
          obtain ⟨r100, hv, h⟩ := hq
          subst hv
          refine A_br (r98 = r100) (r1 := ((213, 1224, [some (.ref 3000), some (.ref 0), some (.ref 50), some (.int x3)], []), S99)) (r2 := ((213, 1030, [some (.ref 3000), some (.ref 0), some (.ref 50), some (.int x3)], []), S99)) 1 rfl (fun c => ?_) (fun c => ?_)
          · have h := h.1 c
            refine ri_A.less (m := 213) (pc := 1224) (L := [some (.ref 3000), some (.ref 0), some (.ref 50), some (.int x3)]) (L' := [some (.ref 3000), some (.ref 0), some (.ref 50), some (.int x3)]) (st := []) ⟨rfl, ⟨rfl, ⟨rfl, ⟨rfl, trivial⟩⟩⟩⟩ ?_
            exact wt213_b1224 E (fun x3 S hk => ih x3 S hk) _ _ h
          · have h := h.2 c
            exact A_ret 2 (m := 213) (v := some (.int (0 : Int32))) (S' := S99) rfl rfl ⟨_, rfl, h⟩
        | 25, hi, c =>
          have c : ((E.2 (x3).toNatClampNeg) &&& (31 : Int32)) = (25 : Int32) := c
          have h := h.2.2.2.2.2.2.2.2.2.2.2.2.2.2.2.2.2.2.2.2.2.2.2.2.2.1 c
          rw [show ri_tgt 33 (1191) (0) (28) [131, 174, 217, 250, 283, 306, 319, 342, 355, 388, 431, 474, 518, 572, 615, 648, 681, 714, 757, 800, 843, 907, 920, 933, 956, 999, 1042, 1105, 1158] ((E.2 (x3).toNatClampNeg) &&& (31 : Int32)) = 1032 by rw [c]; decide]
          refine A_ix (x3 + (1 : Int32)) E.1 (r1 := ((213, 1038, [some (.ref 3000), some (.ref 0), some (.ref 50), some (.int x3)], [.int (E.2 ((x3 + (1 : Int32))).toNatClampNeg), .ref 0]), S)) 6 rfl h.1 ?_
          have h := h.2
          refine A_ix (x3 + (2 : Int32)) E.1 (r1 := ((213, 1043, [some (.ref 3000), some (.ref 0), some (.ref 50), some (.int x3)], [.int (E.2 ((x3 + (2 : Int32))).toNatClampNeg), .int (E.2 ((x3 + (1 : Int32))).toNatClampNeg), .ref 0]), S)) 5 rfl h.1 ?_
          have h := h.2
          refine A_ix (x3 + (3 : Int32)) E.1 (r1 := ((213, 1048, [some (.ref 3000), some (.ref 0), some (.ref 50), some (.int x3)], [.int (E.2 ((x3 + (3 : Int32))).toNatClampNeg), .int (E.2 ((x3 + (2 : Int32))).toNatClampNeg), .int (E.2 ((x3 + (1 : Int32))).toNatClampNeg), .ref 0]), S)) 5 rfl h.1 ?_
          have h := h.2
          refine A_call (j := 72) (As := [.ref 0, .int (E.2 ((x3 + (1 : Int32))).toNatClampNeg), .int (E.2 ((x3 + (2 : Int32))).toNatClampNeg), .int (E.2 ((x3 + (3 : Int32))).toNatClampNeg)]) (fr' := (213, 1051, [some (.ref 3000), some (.ref 0), some (.ref 50), some (.int x3)], [])) (S' := S) 1 rfl (e := 2) (by omega) (A_imp (wt72 (E.2 ((x3 + (1 : Int32))).toNatClampNeg) (E.2 ((x3 + (2 : Int32))).toNatClampNeg) (E.2 ((x3 + (3 : Int32))).toNatClampNeg) h) (fun v S101 hq => ?_))
          obtain ⟨r102, hv, h⟩ := hq
          subst hv
          refine A_ix (x3 + (1 : Int32)) E.1 (r1 := ((213, 1057, [some (.ref 3000), some (.ref 0), some (.ref 50), some (.int x3)], [.int (E.2 ((x3 + (1 : Int32))).toNatClampNeg), .ref 50, .int r102]), S101)) 6 rfl h.1 ?_
          have h := h.2
          refine A_ix (x3 + (2 : Int32)) E.1 (r1 := ((213, 1062, [some (.ref 3000), some (.ref 0), some (.ref 50), some (.int x3)], [.int (E.2 ((x3 + (2 : Int32))).toNatClampNeg), .int (E.2 ((x3 + (1 : Int32))).toNatClampNeg), .ref 50, .int r102]), S101)) 5 rfl h.1 ?_
          have h := h.2
          refine A_ix (x3 + (3 : Int32)) E.1 (r1 := ((213, 1067, [some (.ref 3000), some (.ref 0), some (.ref 50), some (.int x3)], [.int (E.2 ((x3 + (3 : Int32))).toNatClampNeg), .int (E.2 ((x3 + (2 : Int32))).toNatClampNeg), .int (E.2 ((x3 + (1 : Int32))).toNatClampNeg), .ref 50, .int r102]), S101)) 5 rfl h.1 ?_
          have h := h.2
          refine A_call (j := 201) (As := [.ref 50, .int (E.2 ((x3 + (1 : Int32))).toNatClampNeg), .int (E.2 ((x3 + (2 : Int32))).toNatClampNeg), .int (E.2 ((x3 + (3 : Int32))).toNatClampNeg)]) (fr' := (213, 1070, [some (.ref 3000), some (.ref 0), some (.ref 50), some (.int x3)], [.int r102])) (S' := S101) 1 rfl (e := 2) (by omega) (A_imp (wt201 (E.2 ((x3 + (1 : Int32))).toNatClampNeg) (E.2 ((x3 + (2 : Int32))).toNatClampNeg) (E.2 ((x3 + (3 : Int32))).toNatClampNeg) h) (fun v S103 hq => ?_))
          obtain ⟨r104, hv, h⟩ := hq
          subst hv
          refine A_br (r102 = r104) (r1 := ((213, 1224, [some (.ref 3000), some (.ref 0), some (.ref 50), some (.int x3)], []), S103)) (r2 := ((213, 1073, [some (.ref 3000), some (.ref 0), some (.ref 50), some (.int x3)], []), S103)) 1 rfl (fun c => ?_) (fun c => ?_)
          · have h := h.1 c
            refine ri_A.less (m := 213) (pc := 1224) (L := [some (.ref 3000), some (.ref 0), some (.ref 50), some (.int x3)]) (L' := [some (.ref 3000), some (.ref 0), some (.ref 50), some (.int x3)]) (st := []) ⟨rfl, ⟨rfl, ⟨rfl, ⟨rfl, trivial⟩⟩⟩⟩ ?_
            exact wt213_b1224 E (fun x3 S hk => ih x3 S hk) _ _ h
          · have h := h.2 c
            exact A_ret 2 (m := 213) (v := some (.int (0 : Int32))) (S' := S103) rfl rfl ⟨_, rfl, h⟩
        | 26, hi, c =>
          have c : ((E.2 (x3).toNatClampNeg) &&& (31 : Int32)) = (26 : Int32) := c
          have h := h.2.2.2.2.2.2.2.2.2.2.2.2.2.2.2.2.2.2.2.2.2.2.2.2.2.2.1 c
          rw [show ri_tgt 33 (1191) (0) (28) [131, 174, 217, 250, 283, 306, 319, 342, 355, 388, 431, 474, 518, 572, 615, 648, 681, 714, 757, 800, 843, 907, 920, 933, 956, 999, 1042, 1105, 1158] ((E.2 (x3).toNatClampNeg) &&& (31 : Int32)) = 1075 by rw [c]; decide]
          refine A_ix (x3 + (1 : Int32)) E.1 (r1 := ((213, 1081, [some (.ref 3000), some (.ref 0), some (.ref 50), some (.int x3)], [.int (E.2 ((x3 + (1 : Int32))).toNatClampNeg), .ref 0]), S)) 6 rfl h.1 ?_
          have h := h.2
          refine A_ix (x3 + (2 : Int32)) E.1 (r1 := ((213, 1086, [some (.ref 3000), some (.ref 0), some (.ref 50), some (.int x3)], [.int (E.2 ((x3 + (2 : Int32))).toNatClampNeg), .int (E.2 ((x3 + (1 : Int32))).toNatClampNeg), .ref 0]), S)) 5 rfl h.1 ?_
          have h := h.2
          refine A_ix (x3 + (3 : Int32)) E.1 (r1 := ((213, 1091, [some (.ref 3000), some (.ref 0), some (.ref 50), some (.int x3)], [.int (E.2 ((x3 + (3 : Int32))).toNatClampNeg), .int (E.2 ((x3 + (2 : Int32))).toNatClampNeg), .int (E.2 ((x3 + (1 : Int32))).toNatClampNeg), .ref 0]), S)) 5 rfl h.1 ?_
          have h := h.2
          refine A_ix (x3 + (4 : Int32)) E.1 (r1 := ((213, 1096, [some (.ref 3000), some (.ref 0), some (.ref 50), some (.int x3)], [.int (E.2 ((x3 + (4 : Int32))).toNatClampNeg), .int (E.2 ((x3 + (3 : Int32))).toNatClampNeg), .int (E.2 ((x3 + (2 : Int32))).toNatClampNeg), .int (E.2 ((x3 + (1 : Int32))).toNatClampNeg), .ref 0]), S)) 5 rfl h.1 ?_
          have h := h.2
          refine A_ix (x3 + (5 : Int32)) E.1 (r1 := ((213, 1101, [some (.ref 3000), some (.ref 0), some (.ref 50), some (.int x3)], [.int (E.2 ((x3 + (5 : Int32))).toNatClampNeg), .int (E.2 ((x3 + (4 : Int32))).toNatClampNeg), .int (E.2 ((x3 + (3 : Int32))).toNatClampNeg), .int (E.2 ((x3 + (2 : Int32))).toNatClampNeg), .int (E.2 ((x3 + (1 : Int32))).toNatClampNeg), .ref 0]), S)) 5 rfl h.1 ?_
          have h := h.2
          refine A_call (j := 73) (As := [.ref 0, .int (E.2 ((x3 + (1 : Int32))).toNatClampNeg), .int (E.2 ((x3 + (2 : Int32))).toNatClampNeg), .int (E.2 ((x3 + (3 : Int32))).toNatClampNeg), .int (E.2 ((x3 + (4 : Int32))).toNatClampNeg), .int (E.2 ((x3 + (5 : Int32))).toNatClampNeg)]) (fr' := (213, 1104, [some (.ref 3000), some (.ref 0), some (.ref 50), some (.int x3)], [])) (S' := S) 1 rfl (e := 2) (by omega) (A_imp (wt73 (E.2 ((x3 + (1 : Int32))).toNatClampNeg) (E.2 ((x3 + (2 : Int32))).toNatClampNeg) (E.2 ((x3 + (3 : Int32))).toNatClampNeg) (E.2 ((x3 + (4 : Int32))).toNatClampNeg) (E.2 ((x3 + (5 : Int32))).toNatClampNeg) h) (fun v S105 hq => ?_))
          obtain ⟨r106, hv, h⟩ := hq
          subst hv
          refine A_ix (x3 + (1 : Int32)) E.1 (r1 := ((213, 1110, [some (.ref 3000), some (.ref 0), some (.ref 50), some (.int x3)], [.int (E.2 ((x3 + (1 : Int32))).toNatClampNeg), .ref 50, .int r106]), S105)) 6 rfl h.1 ?_
          have h := h.2
          refine A_ix (x3 + (2 : Int32)) E.1 (r1 := ((213, 1115, [some (.ref 3000), some (.ref 0), some (.ref 50), some (.int x3)], [.int (E.2 ((x3 + (2 : Int32))).toNatClampNeg), .int (E.2 ((x3 + (1 : Int32))).toNatClampNeg), .ref 50, .int r106]), S105)) 5 rfl h.1 ?_
          have h := h.2
          refine A_ix (x3 + (3 : Int32)) E.1 (r1 := ((213, 1120, [some (.ref 3000), some (.ref 0), some (.ref 50), some (.int x3)], [.int (E.2 ((x3 + (3 : Int32))).toNatClampNeg), .int (E.2 ((x3 + (2 : Int32))).toNatClampNeg), .int (E.2 ((x3 + (1 : Int32))).toNatClampNeg), .ref 50, .int r106]), S105)) 5 rfl h.1 ?_
          have h := h.2
          refine A_ix (x3 + (4 : Int32)) E.1 (r1 := ((213, 1125, [some (.ref 3000), some (.ref 0), some (.ref 50), some (.int x3)], [.int (E.2 ((x3 + (4 : Int32))).toNatClampNeg), .int (E.2 ((x3 + (3 : Int32))).toNatClampNeg), .int (E.2 ((x3 + (2 : Int32))).toNatClampNeg), .int (E.2 ((x3 + (1 : Int32))).toNatClampNeg), .ref 50, .int r106]), S105)) 5 rfl h.1 ?_
          have h := h.2
          refine A_ix (x3 + (5 : Int32)) E.1 (r1 := ((213, 1130, [some (.ref 3000), some (.ref 0), some (.ref 50), some (.int x3)], [.int (E.2 ((x3 + (5 : Int32))).toNatClampNeg), .int (E.2 ((x3 + (4 : Int32))).toNatClampNeg), .int (E.2 ((x3 + (3 : Int32))).toNatClampNeg), .int (E.2 ((x3 + (2 : Int32))).toNatClampNeg), .int (E.2 ((x3 + (1 : Int32))).toNatClampNeg), .ref 50, .int r106]), S105)) 5 rfl h.1 ?_
          have h := h.2
          refine A_call (j := 202) (As := [.ref 50, .int (E.2 ((x3 + (1 : Int32))).toNatClampNeg), .int (E.2 ((x3 + (2 : Int32))).toNatClampNeg), .int (E.2 ((x3 + (3 : Int32))).toNatClampNeg), .int (E.2 ((x3 + (4 : Int32))).toNatClampNeg), .int (E.2 ((x3 + (5 : Int32))).toNatClampNeg)]) (fr' := (213, 1133, [some (.ref 3000), some (.ref 0), some (.ref 50), some (.int x3)], [.int r106])) (S' := S105) 1 rfl (e := 2) (by omega) (A_imp (wt202 (E.2 ((x3 + (1 : Int32))).toNatClampNeg) (E.2 ((x3 + (2 : Int32))).toNatClampNeg) (E.2 ((x3 + (3 : Int32))).toNatClampNeg) (E.2 ((x3 + (4 : Int32))).toNatClampNeg) (E.2 ((x3 + (5 : Int32))).toNatClampNeg) h) (fun v S107 hq => ?_))
          obtain ⟨r108, hv, h⟩ := hq
          subst hv
          refine A_br (r106 = r108) (r1 := ((213, 1224, [some (.ref 3000), some (.ref 0), some (.ref 50), some (.int x3)], []), S107)) (r2 := ((213, 1136, [some (.ref 3000), some (.ref 0), some (.ref 50), some (.int x3)], []), S107)) 1 rfl (fun c => ?_) (fun c => ?_)
          · have h := h.1 c
            refine ri_A.less (m := 213) (pc := 1224) (L := [some (.ref 3000), some (.ref 0), some (.ref 50), some (.int x3)]) (L' := [some (.ref 3000), some (.ref 0), some (.ref 50), some (.int x3)]) (st := []) ⟨rfl, ⟨rfl, ⟨rfl, ⟨rfl, trivial⟩⟩⟩⟩ ?_
            exact wt213_b1224 E (fun x3 S hk => ih x3 S hk) _ _ h
          · have h := h.2 c
            exact A_ret 2 (m := 213) (v := some (.int (0 : Int32))) (S' := S107) rfl rfl ⟨_, rfl, h⟩
        | 27, hi, c =>
          have c : ((E.2 (x3).toNatClampNeg) &&& (31 : Int32)) = (27 : Int32) := c
          have h := h.2.2.2.2.2.2.2.2.2.2.2.2.2.2.2.2.2.2.2.2.2.2.2.2.2.2.2.1 c
          rw [show ri_tgt 33 (1191) (0) (28) [131, 174, 217, 250, 283, 306, 319, 342, 355, 388, 431, 474, 518, 572, 615, 648, 681, 714, 757, 800, 843, 907, 920, 933, 956, 999, 1042, 1105, 1158] ((E.2 (x3).toNatClampNeg) &&& (31 : Int32)) = 1138 by rw [c]; decide]
          refine A_ix (x3 + (1 : Int32)) E.1 (r1 := ((213, 1144, [some (.ref 3000), some (.ref 0), some (.ref 50), some (.int x3)], [.int (E.2 ((x3 + (1 : Int32))).toNatClampNeg), .ref 0]), S)) 6 rfl h.1 ?_
          have h := h.2
          refine A_ix (x3 + (2 : Int32)) E.1 (r1 := ((213, 1149, [some (.ref 3000), some (.ref 0), some (.ref 50), some (.int x3)], [.int (E.2 ((x3 + (2 : Int32))).toNatClampNeg), .int (E.2 ((x3 + (1 : Int32))).toNatClampNeg), .ref 0]), S)) 5 rfl h.1 ?_
          have h := h.2
          refine A_ix (x3 + (3 : Int32)) E.1 (r1 := ((213, 1154, [some (.ref 3000), some (.ref 0), some (.ref 50), some (.int x3)], [.int (E.2 ((x3 + (3 : Int32))).toNatClampNeg), .int (E.2 ((x3 + (2 : Int32))).toNatClampNeg), .int (E.2 ((x3 + (1 : Int32))).toNatClampNeg), .ref 0]), S)) 5 rfl h.1 ?_
          have h := h.2
          refine A_ix (x3 + (4 : Int32)) E.1 (r1 := ((213, 1159, [some (.ref 3000), some (.ref 0), some (.ref 50), some (.int x3)], [.int (E.2 ((x3 + (4 : Int32))).toNatClampNeg), .int (E.2 ((x3 + (3 : Int32))).toNatClampNeg), .int (E.2 ((x3 + (2 : Int32))).toNatClampNeg), .int (E.2 ((x3 + (1 : Int32))).toNatClampNeg), .ref 0]), S)) 5 rfl h.1 ?_
          have h := h.2
          refine A_call (j := 74) (As := [.ref 0, .int (E.2 ((x3 + (1 : Int32))).toNatClampNeg), .int (E.2 ((x3 + (2 : Int32))).toNatClampNeg), .int (E.2 ((x3 + (3 : Int32))).toNatClampNeg), .int (E.2 ((x3 + (4 : Int32))).toNatClampNeg)]) (fr' := (213, 1162, [some (.ref 3000), some (.ref 0), some (.ref 50), some (.int x3)], [])) (S' := S) 1 rfl (e := 3) (by omega) (A_imp (wt74 (E.2 ((x3 + (1 : Int32))).toNatClampNeg) (E.2 ((x3 + (2 : Int32))).toNatClampNeg) (E.2 ((x3 + (3 : Int32))).toNatClampNeg) (E.2 ((x3 + (4 : Int32))).toNatClampNeg) h) (fun v S109 hq => ?_))
          obtain ⟨r110, hv, h⟩ := hq
          subst hv
          refine A_ix (x3 + (1 : Int32)) E.1 (r1 := ((213, 1168, [some (.ref 3000), some (.ref 0), some (.ref 50), some (.int x3)], [.int (E.2 ((x3 + (1 : Int32))).toNatClampNeg), .ref 50, .int r110]), S109)) 6 rfl h.1 ?_
          have h := h.2
          refine A_ix (x3 + (2 : Int32)) E.1 (r1 := ((213, 1173, [some (.ref 3000), some (.ref 0), some (.ref 50), some (.int x3)], [.int (E.2 ((x3 + (2 : Int32))).toNatClampNeg), .int (E.2 ((x3 + (1 : Int32))).toNatClampNeg), .ref 50, .int r110]), S109)) 5 rfl h.1 ?_
          have h := h.2
          refine A_ix (x3 + (3 : Int32)) E.1 (r1 := ((213, 1178, [some (.ref 3000), some (.ref 0), some (.ref 50), some (.int x3)], [.int (E.2 ((x3 + (3 : Int32))).toNatClampNeg), .int (E.2 ((x3 + (2 : Int32))).toNatClampNeg), .int (E.2 ((x3 + (1 : Int32))).toNatClampNeg), .ref 50, .int r110]), S109)) 5 rfl h.1 ?_
          have h := h.2
          refine A_ix (x3 + (4 : Int32)) E.1 (r1 := ((213, 1183, [some (.ref 3000), some (.ref 0), some (.ref 50), some (.int x3)], [.int (E.2 ((x3 + (4 : Int32))).toNatClampNeg), .int (E.2 ((x3 + (3 : Int32))).toNatClampNeg), .int (E.2 ((x3 + (2 : Int32))).toNatClampNeg), .int (E.2 ((x3 + (1 : Int32))).toNatClampNeg), .ref 50, .int r110]), S109)) 5 rfl h.1 ?_
          have h := h.2
          refine A_call (j := 203) (As := [.ref 50, .int (E.2 ((x3 + (1 : Int32))).toNatClampNeg), .int (E.2 ((x3 + (2 : Int32))).toNatClampNeg), .int (E.2 ((x3 + (3 : Int32))).toNatClampNeg), .int (E.2 ((x3 + (4 : Int32))).toNatClampNeg)]) (fr' := (213, 1186, [some (.ref 3000), some (.ref 0), some (.ref 50), some (.int x3)], [.int r110])) (S' := S109) 1 rfl (e := 3) (by omega) (A_imp (wt203 (E.2 ((x3 + (1 : Int32))).toNatClampNeg) (E.2 ((x3 + (2 : Int32))).toNatClampNeg) (E.2 ((x3 + (3 : Int32))).toNatClampNeg) (E.2 ((x3 + (4 : Int32))).toNatClampNeg) h) (fun v S111 hq => ?_))
          obtain ⟨r112, hv, h⟩ := hq
          subst hv
          refine A_br (r110 = r112) (r1 := ((213, 1224, [some (.ref 3000), some (.ref 0), some (.ref 50), some (.int x3)], []), S111)) (r2 := ((213, 1189, [some (.ref 3000), some (.ref 0), some (.ref 50), some (.int x3)], []), S111)) 1 rfl (fun c => ?_) (fun c => ?_)
          · have h := h.1 c
            refine ri_A.less (m := 213) (pc := 1224) (L := [some (.ref 3000), some (.ref 0), some (.ref 50), some (.int x3)]) (L' := [some (.ref 3000), some (.ref 0), some (.ref 50), some (.int x3)]) (st := []) ⟨rfl, ⟨rfl, ⟨rfl, ⟨rfl, trivial⟩⟩⟩⟩ ?_
            exact wt213_b1224 E (fun x3 S hk => ih x3 S hk) _ _ h
          · have h := h.2 c
            exact A_ret 2 (m := 213) (v := some (.int (0 : Int32))) (S' := S111) rfl rfl ⟨_, rfl, h⟩
        | 28, hi, c =>
          have c : ((E.2 (x3).toNatClampNeg) &&& (31 : Int32)) = (28 : Int32) := c
          have h := h.2.2.2.2.2.2.2.2.2.2.2.2.2.2.2.2.2.2.2.2.2.2.2.2.2.2.2.2 c
          rw [show ri_tgt 33 (1191) (0) (28) [131, 174, 217, 250, 283, 306, 319, 342, 355, 388, 431, 474, 518, 572, 615, 648, 681, 714, 757, 800, 843, 907, 920, 933, 956, 999, 1042, 1105, 1158] ((E.2 (x3).toNatClampNeg) &&& (31 : Int32)) = 1191 by rw [c]; decide]
          refine A_ix (x3 + (1 : Int32)) E.1 (r1 := ((213, 1197, [some (.ref 3000), some (.ref 0), some (.ref 50), some (.int x3)], [.int (E.2 ((x3 + (1 : Int32))).toNatClampNeg), .ref 0]), S)) 6 rfl h.1 ?_
          have h := h.2
          refine A_ix (x3 + (2 : Int32)) E.1 (r1 := ((213, 1202, [some (.ref 3000), some (.ref 0), some (.ref 50), some (.int x3)], [.int (E.2 ((x3 + (2 : Int32))).toNatClampNeg), .int (E.2 ((x3 + (1 : Int32))).toNatClampNeg), .ref 0]), S)) 5 rfl h.1 ?_
          have h := h.2
          refine A_call (j := 75) (As := [.ref 0, .int (E.2 ((x3 + (1 : Int32))).toNatClampNeg), .int (E.2 ((x3 + (2 : Int32))).toNatClampNeg)]) (fr' := (213, 1205, [some (.ref 3000), some (.ref 0), some (.ref 50), some (.int x3)], [])) (S' := S) 1 rfl (e := 1) (by omega) (A_imp (wt75 (E.2 ((x3 + (1 : Int32))).toNatClampNeg) (E.2 ((x3 + (2 : Int32))).toNatClampNeg) h) (fun v S113 hq => ?_))
          obtain ⟨r114, hv, h⟩ := hq
          subst hv
          refine A_ix (x3 + (1 : Int32)) E.1 (r1 := ((213, 1211, [some (.ref 3000), some (.ref 0), some (.ref 50), some (.int x3)], [.int (E.2 ((x3 + (1 : Int32))).toNatClampNeg), .ref 50, .int r114]), S113)) 6 rfl h.1 ?_
          have h := h.2
          refine A_ix (x3 + (2 : Int32)) E.1 (r1 := ((213, 1216, [some (.ref 3000), some (.ref 0), some (.ref 50), some (.int x3)], [.int (E.2 ((x3 + (2 : Int32))).toNatClampNeg), .int (E.2 ((x3 + (1 : Int32))).toNatClampNeg), .ref 50, .int r114]), S113)) 5 rfl h.1 ?_
          have h := h.2
          refine A_call (j := 205) (As := [.ref 50, .int (E.2 ((x3 + (1 : Int32))).toNatClampNeg), .int (E.2 ((x3 + (2 : Int32))).toNatClampNeg)]) (fr' := (213, 1219, [some (.ref 3000), some (.ref 0), some (.ref 50), some (.int x3)], [.int r114])) (S' := S113) 1 rfl (e := 2) (by omega) (A_imp (wt205 (E.2 ((x3 + (1 : Int32))).toNatClampNeg) (E.2 ((x3 + (2 : Int32))).toNatClampNeg) h) (fun v S115 hq => ?_))
          obtain ⟨r116, hv, h⟩ := hq
          subst hv
          refine A_br (r114 = r116) (r1 := ((213, 1224, [some (.ref 3000), some (.ref 0), some (.ref 50), some (.int x3)], []), S115)) (r2 := ((213, 1222, [some (.ref 3000), some (.ref 0), some (.ref 50), some (.int x3)], []), S115)) 1 rfl (fun c => ?_) (fun c => ?_)
          · have h := h.1 c
            refine ri_A.less (m := 213) (pc := 1224) (L := [some (.ref 3000), some (.ref 0), some (.ref 50), some (.int x3)]) (L' := [some (.ref 3000), some (.ref 0), some (.ref 50), some (.int x3)]) (st := []) ⟨rfl, ⟨rfl, ⟨rfl, ⟨rfl, trivial⟩⟩⟩⟩ ?_
            exact wt213_b1224 E (fun x3 S hk => ih x3 S hk) _ _ h
          · have h := h.2 c
            exact A_ret 2 (m := 213) (v := some (.int (0 : Int32))) (S' := S115) rfl rfl ⟨_, rfl, h⟩
        | i + 29, hi, c => exact absurd hi (by omega)
def w213 (E : ri_E) (S : ri_H) (Q : Int32 → ri_H → Prop) : Prop := ∃ nn, w213_l18 E  Q nn (0 : Int32) S
set_option maxRecDepth 10000 in
set_option maxHeartbeats 1000000 in
theorem wt213 {E : ri_E} {S : ri_H} {Q : Int32 → ri_H → Prop} (h : w213 E S Q) : ri_A E 66 (213, 16, [some (.ref 3000), some (.ref 0), some (.ref 50), none], []) S (Qi Q) := by
  unfold w213 at h
  refine A_nx 2 (fr' := (213, 18, [some (.ref 3000), some (.ref 0), some (.ref 50), some (.int (0 : Int32))], [])) (S' := S) rfl ?_
  refine ri_A.less (m := 213) (pc := 18) (L := [some (.ref 3000), some (.ref 0), some (.ref 50), some (.int (0 : Int32))]) (L' := [some (.ref 3000), some (.ref 0), some (.ref 50), some (.int (0 : Int32))]) (st := []) ⟨rfl, ⟨rfl, ⟨rfl, ⟨rfl, trivial⟩⟩⟩⟩ ?_
  obtain ⟨nn, h⟩ := h
  exact wt213_l18 E  nn _ _ h
