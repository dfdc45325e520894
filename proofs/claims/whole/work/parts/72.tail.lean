/-! the tail of the making of the class: the first text is taken, letter by letter, and read -/
def w46t_l152 (Q : ri_H → Prop) : Nat → Int32 → ri_H → Prop
  | 0, _, _ => False
  | n + 1, x1, S => w206 1000  S (fun (r2 : Int32) (S1 : ri_H) => ((r2 ≤ x1 → w1x S1 (fun (r4 : Int32) (S3 : ri_H) => Q S3)) ∧ (¬ (r2 ≤ x1) → w207 1000 x1 S1 (fun (r6 : Int32) (S5 : ri_H) => w0 r6 S5 (fun (r8 : Int32) (S7 : ri_H) => w46t_l152   Q n (x1 + (1 : Int32)) S7)))))
set_option maxRecDepth 10000 in
set_option maxHeartbeats 1000000 in
theorem wt46t_l152 {E : ri_E} {Q : ri_H → Prop} : ∀ (n : Nat) (x1 : Int32) (S : ri_H), w46t_l152   Q n x1 S → j_ri_A E 58 (46, 152, [some (.ref 0), some (.int x1)], []) S (Qv Q) := by
  intro n
  induction n with
  | zero => intro x1 S h; exact h.elim
  | succ n ih =>
    intro x1 S h
    unfold w46t_l152 at h
    refine j_A_call (j := 206) (As := [.ref 1000]) (fr' := (46, 158, [some (.ref 0), some (.int x1)], [.int x1])) (S' := S) 3 rfl (e := 1) (by omega) (j_A_imp (j_wt206 1000 (by decide)  h) (fun v S1 hq => ?_))
    obtain ⟨r2, hv, h⟩ := hq
    subst hv
    refine j_A_br (r2 ≤ x1) (r1 := ((46, 181, [some (.ref 0), some (.int x1)], []), S1)) (r2 := ((46, 161, [some (.ref 0), some (.int x1)], []), S1)) 1 rfl (fun c => ?_) (fun c => ?_)
    · have h := h.1 c
      refine j_A_call (j := 1) (As := [.ref 5]) (fr' := (46, 188, [some (.ref 0), some (.int x1)], [])) (S' := S1) 3 rfl (e := 57) (by omega) (j_A_imp (j_wt1x h) (fun v S3 hq => ?_))
      obtain ⟨r4, hv, h⟩ := hq
      subst hv
      exact j_A_ret 2 (m := 46) (v := none) (S' := S3) rfl rfl ⟨rfl, h⟩
    · have h := h.2 c
      refine j_A_call (j := 207) (As := [.ref 1000, .int x1]) (fr' := (46, 171, [some (.ref 0), some (.int x1)], [.ref 5])) (S' := S1) 5 rfl (e := 3) (by omega) (j_A_imp (j_wt207 1000 (by decide) x1 h) (fun v S5 hq => ?_))
      obtain ⟨r6, hv, h⟩ := hq
      subst hv
      refine j_A_call (j := 0) (As := [.ref 5, .int r6]) (fr' := (46, 174, [some (.ref 0), some (.int x1)], [])) (S' := S5) 1 rfl (e := 1) (by omega) (j_A_imp (j_wt0 r6 h) (fun v S7 hq => ?_))
      obtain ⟨r8, hv, h⟩ := hq
      subst hv
      refine j_A_nx 3 (fr' := (46, 152, [some (.ref 0), some (.int (x1 + (1 : Int32)))], [])) (S' := S7) rfl ?_
      refine j_ri_A.less (m := 46) (pc := 152) (L := [some (.ref 0), some (.int (x1 + (1 : Int32)))]) (L' := [some (.ref 0), some (.int (x1 + (1 : Int32)))]) (st := []) ⟨rfl, ⟨rfl, trivial⟩⟩ ?_
      exact ih _ _ h
def w46t (S : ri_H) (Q : ri_H → Prop) : Prop := ∃ nn, w46t_l152   Q nn (0 : Int32) S
set_option maxRecDepth 10000 in
set_option maxHeartbeats 1000000 in
theorem wt46t {E : ri_E} {S : ri_H} {Q : ri_H → Prop} (h : w46t S Q) : j_ri_A E 58 (46, 150, [some (.ref 0), none], []) S (Qv Q) := by
  unfold w46t at h
  refine j_A_nx 2 (fr' := (46, 152, [some (.ref 0), some (.int (0 : Int32))], [])) (S' := S) rfl ?_
  refine j_ri_A.less (m := 46) (pc := 152) (L := [some (.ref 0), some (.int (0 : Int32))]) (L' := [some (.ref 0), some (.int (0 : Int32))]) (st := []) ⟨rfl, ⟨rfl, trivial⟩⟩ ?_
  obtain ⟨nn, h⟩ := h
  exact wt46t_l152   nn _ _ h
/-! what it does -/
def tx0 (i : Nat) : Int32 := (ri_strb.getD 0 []).getD i 0
def chr0 (i : Nat) : Int32 := ((((ri_strb.getD 0 []).getD i 0) &&& (255 : Int32)).toUInt32 % 65536).toInt32
theorem chr0_ok : ∀ i, i < 42 → ri_rok 211 (some (.int (chr0 i))) = true ∧ ri_rok 207 (some (.int (chr0 i))) = true := by decide +kernel
/-- the tape, when so many letters stand -/
def tp0 : Nat → Nat → Int32
  | 0 => fun _ => 0
  | i + 1 => pu 160 (tp0 i) (nI i) (chr0 i)
theorem ptx0 : ptx (tp0 42) 42 = .inr ([-1, -4, -13], [2], [5]) := by decide +kernel
