/-! the tail of the making of the class: the first text is taken, letter by letter, and read -/
def w46t_l152 (Q : ri_H → Prop) : Nat → Int32 → ri_H → Prop
  | 0, _, _ => False
  | n + 1, x1, S => w206 1000  S (fun (r2 : Int32) (S1 : ri_H) => ((r2 ≤ x1 → w1x S1 (fun (r4 : Int32) (S3 : ri_H) => Q S3)) ∧ (¬ (r2 ≤ x1) → w207 1000 x1 S1 (fun (r6 : Int32) (S5 : ri_H) => w0 r6 S5 (fun (r8 : Int32) (S7 : ri_H) => w46t_l152   Q n (x1 + (1 : Int32)) S7)))))
set_option maxRecDepth 10000 in
set_option maxHeartbeats 1000000 in
theorem wt46t_l152 {E : ri_E} {Q : ri_H → Prop} : ∀ (n : Nat) (x1 : Int32) (S : ri_H), w46t_l152   Q n x1 S → j_ri_A E 64 (46, 152, [some (.ref 0), some (.int x1)], []) S (Qv Q) := by
  intro n
  induction n with
  | zero => intro x1 S h; exact h.elim
  | succ n ih =>
    intro x1 S h
    unfold w46t_l152 at h
    refine j_A_call (j := 206) (As := [.ref 1000]) (fr' := (46, 158, [some (.ref 0), some (.int x1)], [.int x1])) (S' := S) 3 rfl (e := 1) (by omega) (j_A_imp (j_wt206 1000 (by decide)  h) (fun v S1 hq => ?_))
    obtain ⟨r2, hv, h⟩ := hq
    subst hv
    refine j_A_br (r2 ≤ x1) (r1 := ((46, 181, [some (.ref 0), some (.int x1)], []), S1)) (r2 := ((46, 161, [some (.ref 0), some (.int x1)], []), S1)) 1 rfl (fun c => ?_) (fun c => ?_)
    · have h := h.1 c
      refine j_A_call (j := 1) (As := [.ref 5]) (fr' := (46, 188, [some (.ref 0), some (.int x1)], [])) (S' := S1) 3 rfl (e := 63) (by omega) (j_A_imp (j_wt1x h) (fun v S3 hq => ?_))
      obtain ⟨r4, hv, h⟩ := hq
      subst hv
      exact j_A_ret 2 (m := 46) (v := none) (S' := S3) rfl rfl ⟨rfl, h⟩
    · have h := h.2 c
      refine j_A_call (j := 207) (As := [.ref 1000, .int x1]) (fr' := (46, 171, [some (.ref 0), some (.int x1)], [.ref 5])) (S' := S1) 5 rfl (e := 3) (by omega) (j_A_imp (j_wt207 1000 (by decide) x1 h) (fun v S5 hq => ?_))
      obtain ⟨r6, hv, h⟩ := hq
      subst hv
      refine j_A_call (j := 0) (As := [.ref 5, .int r6]) (fr' := (46, 174, [some (.ref 0), some (.int x1)], [])) (S' := S5) 1 rfl (e := 1) (by omega) (j_A_imp (j_wt0 r6 h) (fun v S7 hq => ?_))
      obtain ⟨r8, hv, h⟩ := hq
      subst hv
      refine j_A_nx 3 (fr' := (46, 152, [some (.ref 0), some (.int (x1 + (1 : Int32)))], [])) (S' := S7) rfl ?_
      refine j_ri_A.less (m := 46) (pc := 152) (L := [some (.ref 0), some (.int (x1 + (1 : Int32)))]) (L' := [some (.ref 0), some (.int (x1 + (1 : Int32)))]) (st := []) ⟨rfl, ⟨rfl, trivial⟩⟩ ?_
      exact ih _ _ h
def w46t (S : ri_H) (Q : ri_H → Prop) : Prop := ∃ nn, w46t_l152   Q nn (0 : Int32) S
set_option maxRecDepth 10000 in
set_option maxHeartbeats 1000000 in
theorem wt46t {E : ri_E} {S : ri_H} {Q : ri_H → Prop} (h : w46t S Q) : j_ri_A E 64 (46, 150, [some (.ref 0), none], []) S (Qv Q) := by
  unfold w46t at h
  refine j_A_nx 2 (fr' := (46, 152, [some (.ref 0), some (.int (0 : Int32))], [])) (S' := S) rfl ?_
  refine j_ri_A.less (m := 46) (pc := 152) (L := [some (.ref 0), some (.int (0 : Int32))]) (L' := [some (.ref 0), some (.int (0 : Int32))]) (st := []) ⟨rfl, ⟨rfl, trivial⟩⟩ ?_
  obtain ⟨nn, h⟩ := h
  exact wt46t_l152   nn _ _ h
/-! what it does -/
def tx0 (i : Nat) : Int32 := (ri_strb.getD 0 []).getD i 0
def chr0 (i : Nat) : Int32 := ((((ri_strb.getD 0 []).getD i 0) &&& (255 : Int32)).toUInt32 % 65536).toInt32
theorem chr0_ok : ∀ i, i < 42 → ri_rok 211 (some (.int (chr0 i))) = true ∧ ri_rok 207 (some (.int (chr0 i))) = true := by decide +kernel
/-- the tape, when so many letters stand -/
def tp0 : Nat → Nat → Int32
  | 0 => fun _ => 0
  | i + 1 => pu 160 (tp0 i) (nI i) (chr0 i)
theorem ptx0 : ptx (tp0 42) 42 = .inr ([-1, -4, -13], [2], [5]) := by decide +kernel
section TAIL
variable {S S0 : ri_H} {Q : ri_H → Prop}
theorem w207_0 {K : Int32 → ri_H → Prop} {i : Nat} (hi : i < 42) (hQ : K (chr0 i) S) : w207 1000 (nI i) S K := by
  obtain ⟨k1, k2⟩ := chr0_ok i hi
  unfold w207 w209
  refine ⟨fun c => absurd c (by decide), fun _ => ?_⟩
  show w211 1100 (nI i) S (fun r4 S3 => (ri_rok 207 (some (.int r4)) = true ∧ K r4 S3))
  unfold w211 w210 w212
  refine ⟨fun c => absurd c (nI_pos (by omega)), fun _ => ⟨fun _ => ?_, fun c => absurd (nI_lt (b := 42) hi (by decide)) c⟩⟩
  rw [nI_clamp (by omega)]
  exact ⟨show vp_in (nI i) 42 from vp_in_nI hi (by decide), k1, k2, hQ⟩
theorem l152t_ok (h5 : S0.1 5 4 = 0) (h6 : S0.1 6 = fun _ => 0) (h1 : S0.1 1 3 = 0) (hQ : ∀ S', xfr 0 S0 S' ∨ (ag [1, 2, 3, 5, 6, 7, 8, 9] S0 S') → S'.1 1 3 = 1 → S'.1 5 4 = 0 → ttx S' 0 [-1, -4, -13] [2] [5] → Q S') : ∀ d i S, i + d = 42 → ag [5, 6] S0 S → S.1 5 4 = nI i → S.1 6 = tp0 i → S.1 1 3 = 0 → w46t_l152 Q (d + 1) (nI i) S
  | 0, i, S, hi, a, e5, e6, e1 => by
    have hi' : i = 42 := hi
    subst hi'
    unfold w46t_l152 w206 w208
    refine ⟨fun _ => ?_, fun c => absurd (show Int32.ofNat 42 >>> ((0 : Int32) &&& 31) ≤ nI 42 by decide) c⟩
    refine w1x_ok (T := 0) (n := 42) (by decide) e1 (by decide) e5 (fun x S' ep => ?_) (fun c0 c1 c2 S' ep x q13 q54 q => ?_)
    · rw [e6, ptx0] at ep
      cases ep
    · rw [e6, ptx0] at ep
      cases ep
      exact hQ S' (Or.inr (ag_tr (ag_mo a (by decide)) (ag_mo x.1 (by decide)))) q13 q54 q
  | d + 1, i, S, hi, a, e5, e6, e1 => by
    unfold w46t_l152 w206 w208
    refine ⟨fun c => absurd c (show ¬ (Int32.ofNat 42 >>> ((0 : Int32) &&& 31)) ≤ nI i from ?_), fun _ => w207_0 (by omega) ?_⟩
    · rw [show Int32.ofNat 42 >>> ((0 : Int32) &&& 31) = nI 42 by decide]
      exact nI_ge (by omega) (by decide)
    · unfold w0
      rw [e5, e6, nI_1]
      refine ⟨fun _ => ?_, fun c => absurd (nI_lt (b := 160) (by omega) (by decide)) c⟩
      refine l152t_ok h5 h6 h1 hQ d (i + 1) _ (by omega) (ag_wi (ag_wr a (by decide)) (by decide)) ?_ ?_ ?_
      · rw [ri_wi_1, pk_us]
      · rw [ri_wi_o _ _ _ (by decide), ri_wr_1]
        rfl
      · rw [ri_wi_o _ _ _ (by decide), ri_wr_o _ _ (by decide)]
        exact e1
theorem tail_ok (h5 : S.1 5 4 = 0) (h6 : S.1 6 = fun _ => 0) (h1 : S.1 1 3 = 0) (hQ : ∀ S', ag [1, 2, 3, 5, 6, 7, 8, 9] S S' → S'.1 1 3 = 1 → S'.1 5 4 = 0 → ttx S' 0 [-1, -4, -13] [2] [5] → Q S') : w46t S Q :=
  ⟨43, l152t_ok h5 h6 h1 (fun S' h => hQ S' (by
    rcases h with h | h
    · exact ag_mo h.1 (by decide)
    · exact h)) 42 0 S (by decide) (ag_refl _ _) h5 h6 h1⟩
end TAIL
