/-! the same interpreter over the 50 cells of the class alone (while it is made, the model is not there yet) -/
-- 03.tables
def j_ri_lyl : List (List ri_LK) := [[.inl (4, [(3, 1), (3, 5), (3, 10), (3, 19), (3, 28), (3, 37), (3, 46), (3, 47), (3, 48), (3, 49), (1, 0)]), .inl (2, [(3, 2), (3, 3), (3, 4), (0, 0), (0, 0)]), .inr (.inl (.int, 960)), .inr (.inl (.int, 24)), .inr (.inl (.int, 160)), .inl (0, [(3, 6), (3, 7), (3, 8), (3, 9), (0, 0), (0, 0), (0, 0), (0, 0), (3, 1)]), .inr (.inl (.int, 160)), .inr (.inl (.int, 161)), .inr (.inl (.int, 161)), .inr (.inl (.int, 161)), .inl (3, [(3, 11), (3, 12), (3, 13), (3, 14), (3, 15), (3, 16), (3, 17), (3, 18), (3, 1), (0, 0), (0, 0), (0, 0)]), .inr (.inl (.int, 24)), .inr (.inl (.int, 24)), .inr (.inl (.int, 5)), .inr (.inl (.int, 5)), .inr (.inl (.int, 5))],
  [.inr (.inl (.int, 5)), .inr (.inl (.int, 5)), .inr (.inl (.int, 6)), .inl (3, [(3, 20), (3, 21), (3, 22), (3, 23), (3, 24), (3, 25), (3, 26), (3, 27), (3, 1), (0, 0), (0, 0), (0, 0)]), .inr (.inl (.int, 24)), .inr (.inl (.int, 24)), .inr (.inl (.int, 5)), .inr (.inl (.int, 5)), .inr (.inl (.int, 5)), .inr (.inl (.int, 5)), .inr (.inl (.int, 5)), .inr (.inl (.int, 6)), .inl (3, [(3, 29), (3, 30), (3, 31), (3, 32), (3, 33), (3, 34), (3, 35), (3, 36), (3, 1), (0, 0), (0, 0), (0, 0)]), .inr (.inl (.int, 24)), .inr (.inl (.int, 24)), .inr (.inl (.int, 5))],
  [.inr (.inl (.int, 5)), .inr (.inl (.int, 5)), .inr (.inl (.int, 5)), .inr (.inl (.int, 5)), .inr (.inl (.int, 6)), .inr (.inr ("RoadsNotGoneBy$Sheet", [38, 40, 42, 44])), .inl (1, [(3, 39), (0, 0), (0, 0)]), .inr (.inl (.int, 40)), .inl (1, [(3, 41), (0, 0), (0, 0)]), .inr (.inl (.int, 40)), .inl (1, [(3, 43), (0, 0), (0, 0)]), .inr (.inl (.int, 40)), .inl (1, [(3, 45), (0, 0), (0, 0)]), .inr (.inl (.int, 40)), .inr (.inl (.long, 12)), .inr (.inl (.long, 12))],
  [.inr (.inl (.int, 12)), .inr (.inl (.int, 12))]]
abbrev j_ri_K : Nat := 50
-- 05.checks
def j_ri_lay (k : Nat) : ri_LK := match ri_at j_ri_lyl k with
  | some x => x
  | none => .inl (999, [])
def j_ri_kok (r : vw_C) (j : Nat) (q : Nat × Nat) : Bool := match q with
  | (0, _) => decide ((r.2.1 j).2.2.1 = "I") && decide ((r.2.1 j).2.2.2 = false)
  | (1, _) => decide ((r.2.1 j).2.2.1 = "Z") && decide ((r.2.1 j).2.2.2 = false)
  | (2, _) => decide ((r.2.1 j).2.2.1 = "J") && decide ((r.2.1 j).2.2.2 = false)
  | (3, t) => decide (t < j_ri_K)
  | _ => false
def j_ri_lyk (x : ri_LK) : Bool := match x with
  | .inl (ci, fl) => (match ri_nth ri_cls ci with
    | some r => decide (fl.length = r.2.2) && (List.range r.2.2).all (fun j => match ri_nth fl j with
      | some q => j_ri_kok r j q
      | none => false)
    | none => false)
  | .inr (.inl (ty, _)) => decide (ty = .int) || decide (ty = .boolean) || decide (ty = .long)
  | .inr (.inr (_, tg)) => tg.all (fun t => decide (t < j_ri_K))
theorem j_ri_lyk_ok : j_ri_lyl.all (fun l => l.all j_ri_lyk) = true := by decide +kernel
theorem j_ri_K_le : j_ri_K ≤ 900 := by decide
theorem j_ri_lay_out : ∀ k, k < 16 * j_ri_lyl.length → j_ri_K ≤ k → (ri_at j_ri_lyl k).isNone = true := by decide +kernel
theorem j_ri_lay_use {k : Nat} {x : ri_LK} (h : j_ri_lay k = x) (hx : ∀ l, x ≠ .inl (999, l)) : k < j_ri_K ∧ j_ri_lyk x = true := by
  unfold j_ri_lay at h
  split at h
  · rename_i y e
    subst h
    refine ⟨?_, ?_⟩
    · have h1 := ri_at_lt e
      rcases Nat.lt_or_ge k j_ri_K with q | q
      · exact q
      · have := j_ri_lay_out k h1 q
        rw [e] at this
        cases this
    · obtain ⟨l, h1, h2⟩ := ri_at_mem e
      exact List.all_eq_true.mp (List.all_eq_true.mp j_ri_lyk_ok l h1) _ h2
  · exact absurd h.symm (hx [])
-- 08.interp
def j_ri_gf (S : ri_H) (k : Nat) : Option (Nat × Nat × Nat) → Option Value
  | some (ci, j, _) => cond (Nat.beq ci 100) (ri_str k j) (ri_gfo S k ci j (j_ri_lay k))
  | none => none
def j_ri_getf (c m pc idx : Nat) (l : List (Option Value)) (S : ri_H) : List Value → ri_R
  | .ref k :: r => ri_ld m pc l r S (j_ri_gf S k (ri_tab ri_fl c idx))
  | _ => none
def j_ri_pf (S : ri_H) (k : Nat) (v : Value) : Option (Nat × Nat × Nat) → Option ri_H
  | some (ci, j, _) => cond (Nat.beq ci 100) none (ri_pfo S k ci j v (j_ri_lay k))
  | none => none
def j_ri_putf (c m pc idx : Nat) (l : List (Option Value)) (S : ri_H) : List Value → ri_R
  | v :: .ref k :: r => ri_nxo m pc l r (j_ri_pf S k v (ri_tab ri_fl c idx))
  | _ => none
def j_ri_len (E : ri_E) (k : Nat) : Option Nat := cond (Nat.beq k 3000) (some E.1) (match j_ri_lay k with
  | .inr (.inl (_, n)) => some n
  | .inr (.inr (_, tg)) => some tg.length
  | _ => none)
def j_ri_alen (E : ri_E) (m pc : Nat) (l : List (Option Value)) (S : ri_H) : List Value → ri_R
  | .ref k :: r => match j_ri_len E k with
    | some n => ri_nx m pc l (.int (Int32.ofNat n) :: r) S
    | none => cond (Nat.ble 1100 k) (cond (Nat.ble k 1112) (ri_nx m pc l (.int (Int32.ofNat (ri_strl.getD (k - 1100) 0)) :: r) S) none) none
  | _ => none
def j_ri_ial (E : ri_E) (m pc : Nat) (l : List (Option Value)) (S : ri_H) : List Value → ri_R
  | .int i :: .ref k :: r => cond (Nat.beq k 3000) (ri_gd (ri_inb i E.1) m pc l (.int (E.2 i.toNatClampNeg) :: r) S S) (ri_rd .int m pc l r S k i (j_ri_lay k))
  | _ => none
def j_ri_bal (m pc : Nat) (l : List (Option Value)) (S : ri_H) : List Value → ri_R
  | .int i :: .ref k :: r => cond (Nat.ble 1100 k) (cond (Nat.ble k 1112) (ri_gd (ri_inb i (ri_strl.getD (k - 1100) 0)) m pc l (.int ((ri_strb.getD (k - 1100) []).getD i.toNatClampNeg 0) :: r) S S) none) (ri_rd .boolean m pc l r S k i (j_ri_lay k))
  | _ => none
def j_ri_lal (m pc : Nat) (l : List (Option Value)) (S : ri_H) : List Value → ri_R
  | .int i :: .ref k :: r => ri_lrd m pc l r S k i (j_ri_lay k)
  | _ => none
def j_ri_ias (m pc : Nat) (l : List (Option Value)) (S : ri_H) : List Value → ri_R
  | .int v :: .int i :: .ref k :: r => match j_ri_lay k with
    | .inr (.inl (.int, n)) => ri_gd (ri_inb i n) m pc l r S (ri_wi S k i.toNatClampNeg v)
    | _ => none
  | _ => none
def j_ri_bas (m pc : Nat) (l : List (Option Value)) (S : ri_H) : List Value → ri_R
  | .int v :: .int i :: .ref k :: r => match j_ri_lay k with
    | .inr (.inl (.boolean, n)) => ri_gd (ri_inb i n) m pc l r S (ri_wi S k i.toNatClampNeg (vp_nar .boolean v))
    | _ => none
  | _ => none
def j_ri_las (m pc : Nat) (l : List (Option Value)) (S : ri_H) : List Value → ri_R
  | .long v :: .int i :: .ref k :: r => match j_ri_lay k with
    | .inr (.inl (.long, n)) => ri_gd (ri_inb i n) m pc l r S (ri_wl S k i.toNatClampNeg v)
    | _ => none
  | _ => none
def j_ri_aal (m pc : Nat) (l : List (Option Value)) (S : ri_H) : List Value → ri_R
  | .int i :: .ref k :: r => match j_ri_lay k with
    | .inr (.inr (_, tg)) => ri_gd (ri_inb i tg.length) m pc l (ri_refn (ri_nth tg i.toNatClampNeg) :: r) S S
    | _ => none
  | _ => none
/-- of which of our classes the receiver is; a text: 7 -/
def j_ri_rcv (k : Nat) : Nat := cond (Nat.ble 1000 k) (cond (Nat.ble k 1012) 7 998) (match j_ri_lay k with
  | .inl (ci, _) => ci
  | _ => 998)
def j_ri_clv2 (j c m pc : Nat) (l : List (Option Value)) (S : ri_H) : Option (List Value × List Value) → ri_R
  | some (.ref k :: As, r) => cond (Nat.beq (j_ri_rcv k) c) (ri_mkc j (.ref k :: As) m pc l r S) none
  | _ => none
def j_ri_clv1 (j m pc : Nat) (l : List (Option Value)) (st : List Value) (S : ri_H) : Option ri_MT → ri_R
  | some t => cond (Nat.beq (ri_flag t) 1) (j_ri_clv2 j (ri_mcl t) m pc l S (ri_take (ri_nargs t + 1) [] st)) none
  | none => none
def j_ri_ivv (m pc : Nat) (l : List (Option Value)) (st : List Value) (S : ri_H) : Option (Nat × Nat × Nat) → ri_R
  | some (1, j, _) => j_ri_clv1 j m pc l st S (ri_mt j)
  | _ => none
def j_ri_ex (E : ri_E) (c m pc ln : Nat) (v : Value) (l : List (Option Value)) (st : List Value) (S : ri_H) : Instr → ri_R
  | .aconst_null => ri_nx m (pc + ln) l (.null :: st) S
  | .iconst _ => ri_nx m (pc + ln) l (v :: st) S
  | .bipush _ => ri_nx m (pc + ln) l (v :: st) S
  | .sipush _ => ri_nx m (pc + ln) l (v :: st) S
  | .lconst n => ri_nx m (pc + ln) l (.long (Int64.ofNat n) :: st) S
  | .iload i => ri_ld m (pc + ln) l st S (ri_ildv (ri_get l i))
  | .iload_n i => ri_ld m (pc + ln) l st S (ri_ildv (ri_get l i))
  | .lload i => ri_ld m (pc + ln) l st S (ri_lldv (ri_get l i))
  | .lload_n i => ri_ld m (pc + ln) l st S (ri_lldv (ri_get l i))
  | .aload i => ri_ld m (pc + ln) l st S (ri_aldv (ri_get l i))
  | .aload_n i => ri_ld m (pc + ln) l st S (ri_aldv (ri_get l i))
  | .istore i => ri_ist m (pc + ln) i l S st
  | .istore_n i => ri_ist m (pc + ln) i l S st
  | .lstore i => ri_lst m (pc + ln) i l S st
  | .lstore_n i => ri_lst m (pc + ln) i l S st
  | .astore i => ri_ast m (pc + ln) i l S st
  | .astore_n i => ri_ast m (pc + ln) i l S st
  | .iinc i _ => ri_iinc m (pc + ln) i l st S v (ri_get l i)
  | .iadd => ri_i2 (fun x y => x + y) m (pc + ln) l S st
  | .isub => ri_i2 (fun x y => x - y) m (pc + ln) l S st
  | .imul => ri_i2 (fun x y => x * y) m (pc + ln) l S st
  | .iand => ri_i2 (fun x y => x &&& y) m (pc + ln) l S st
  | .ior => ri_i2 (fun x y => x ||| y) m (pc + ln) l S st
  | .ixor => ri_i2 (fun x y => x ^^^ y) m (pc + ln) l S st
  | .ishl => ri_i2 (fun x y => x <<< (y &&& 31)) m (pc + ln) l S st
  | .ishr => ri_i2 (fun x y => x >>> (y &&& 31)) m (pc + ln) l S st
  | .iushr => ri_i2 (fun x y => (x.toUInt32 >>> (y.toUInt32 &&& Int32.toUInt32 31)).toInt32) m (pc + ln) l S st
  | .ineg => ri_i1 (fun x => -x) m (pc + ln) l S st
  | .i2b => ri_i1 (fun x => x.toInt8.toInt32) m (pc + ln) l S st
  | .i2s => ri_i1 (fun x => x.toInt16.toInt32) m (pc + ln) l S st
  | .i2c => ri_i1 (fun x => (x.toUInt32 % 65536).toInt32) m (pc + ln) l S st
  | .idiv => ri_i2g (fun x y => x / y) m (pc + ln) l S st
  | .irem => ri_i2g (fun x y => x - x / y * y) m (pc + ln) l S st
  | .ladd => ri_l2 (fun x y => x + y) m (pc + ln) l S st
  | .lsub => ri_l2 (fun x y => x - y) m (pc + ln) l S st
  | .lmul => ri_l2 (fun x y => x * y) m (pc + ln) l S st
  | .ldiv => ri_l2g (fun x y => x / y) m (pc + ln) l S st
  | .lrem => ri_l2g (fun x y => x - x / y * y) m (pc + ln) l S st
  | .lshl => match st with
    | .int y :: .long x :: r => ri_nx m (pc + ln) l (.long (x <<< (y.toInt64 &&& 63)) :: r) S
    | _ => none
  | .lcmp => match st with
    | .long y :: .long x :: r => ri_nx m (pc + ln) l (.int (lg_cmp x y) :: r) S
    | _ => none
  | .i2l => match st with
    | .int x :: r => ri_nx m (pc + ln) l (.long x.toInt64 :: r) S
    | _ => none
  | .l2i => match st with
    | .long x :: r => ri_nx m (pc + ln) l (.int x.toInt32 :: r) S
    | _ => none
  | .dup => ri_dup m (pc + ln) l S st
  | .dup2 => ri_dup2 m (pc + ln) l S st
  | .pop => ri_pop m (pc + ln) l S st
  | .goto _ => ri_jump m l st S v
  | .ifCond cd _ => ri_if0 cd m (pc + ln) l S v st
  | .if_icmp cd _ => ri_if2 cd m (pc + ln) l S v st
  | .ifnull _ => ri_ifn m (pc + ln) l S v st
  | .ifnonnull _ => ri_ifnn m (pc + ln) l S v st
  | .tableswitch d lo hi offs => ri_sw m pc d lo hi offs.toList l S st
  | .ldc i => ri_cst m (pc + ln) l st S (match ri_tab ri_cl c i with
    | some (.long _, _) => none
    | q => q)
  | .ldc_w i => ri_cst m (pc + ln) l st S (match ri_tab ri_cl c i with
    | some (.int y, z) => some (.int y, z)
    | _ => none)
  | .ldc2_w i => ri_cst m (pc + ln) l st S (match ri_tab ri_cl c i with
    | some (.long y, z) => some (.long y, z)
    | _ => none)
  | .getfield i => j_ri_getf c m (pc + ln) i l S st
  | .putfield i => j_ri_putf c m (pc + ln) i l S st
  | .getstatic i => ri_ld m (pc + ln) l st S (ri_gs (ri_tab ri_sl c i))
  | .iaload => j_ri_ial E m (pc + ln) l S st
  | .baload => j_ri_bal m (pc + ln) l S st
  | .laload => j_ri_lal m (pc + ln) l S st
  | .aaload => j_ri_aal m (pc + ln) l S st
  | .iastore => j_ri_ias m (pc + ln) l S st
  | .bastore => j_ri_bas m (pc + ln) l S st
  | .lastore => j_ri_las m (pc + ln) l S st
  | .arraylength => j_ri_alen E m (pc + ln) l S st
  | .invokestatic i => ri_ivs m (pc + ln) l st S (ri_tab ri_ml c i)
  | .invokevirtual i => j_ri_ivv m (pc + ln) l st S (ri_tab ri_ml c i)
  | .ireturn => ri_iret m S st
  | .lreturn => ri_lret m S st
  | .areturn => ri_aret m S st
  | .return_ => ri_vret m S st
  | _ => none
def j_ri_st2' (E : ri_E) (c m pc : Nat) (l : List (Option Value)) (st : List Value) (S : ri_H) : Option (Instr × Nat × Value) → ri_R
  | some (i, ln, v) => j_ri_ex E c m pc ln v l st S i
  | none => none
def j_ri_stp (E : ri_E) (m pc : Nat) (l : List (Option Value)) (st : List Value) (S : ri_H) : Option ri_MT → ri_R
  | some t => j_ri_st2' E (ri_mcl t) m pc l st S (ri_ins (ri_cdt t) pc)
  | none => none
def j_ri_step (E : ri_E) : ri_F → ri_H → ri_R
  | (m, pc, l, st), S => j_ri_stp E m pc l st S (ri_mt m)
/-- k plain steps, or fewer and the first that isn't plain -/
def j_ri_go (E : ri_E) : Nat → ri_F → ri_H → ri_R
  | 0, fr, S => some (.inl (fr, S))
  | k + 1, fr, S => match j_ri_step E fr S with
    | some (.inl (fr', S')) => j_ri_go E k fr' S'
    | some (.inr x) => some (.inr x)
    | none => none
def j_ri_run (E : ri_E) : Nat → Nat → ri_F → ri_H → Nat × Option Value × ri_H → Prop
  | 0, _, _, _, _ => False
  | n + 1, d, (m, pc, L, st), S, y => (match j_ri_step E (m, pc, L, st) S with
    | none => False
    | some (.inl r) => j_ri_run E n d r.1 r.2 y
    | some (.inr (.inl b)) => (b.1 = true ∧ j_ri_run E n d b.2.1.1 b.2.1.2 y) ∨ (b.1 = false ∧ j_ri_run E n d b.2.2.1 b.2.2.2 y)
    | some (.inr (.inr (.inl c))) => ∃ d' x, d = d' + 1 ∧ j_ri_run E n d' (ri_en c.1 c.2.1) c.2.2.2 x ∧ j_ri_run E n d (ri_push c.2.2.1 x.2.1) x.2.2 y
    | some (.inr (.inr (.inr r))) => ri_rok r.1 r.2.1 = true ∧ y = (pc, r.2.1, r.2.2)) ∨ ∃ L', ri_lsb L' L ∧ j_ri_run E n d (m, pc, L', st) S y
-- 09.rules
theorem j_ri_run_mono (E : ri_E) : ∀ (n : Nat) (d : Nat) (fr : ri_F) (S : ri_H) (r : Nat × Option Value × ri_H), j_ri_run E n d fr S r → ∀ n' d' : Nat, n ≤ n' → d ≤ d' → j_ri_run E n' d' fr S r := by
  intro n
  induction n with
  | zero => intro d fr S r h; exact h.elim
  | succ n ih =>
    intro d fr S r h n' d' hn hd
    obtain ⟨n', rfl⟩ : ∃ z, n' = z + 1 := ⟨n' - 1, by omega⟩
    have hn : n ≤ n' := by omega
    obtain ⟨m, pc, L, st⟩ := fr
    unfold j_ri_run at h ⊢
    rcases h with h | ⟨L', h1, h2⟩
    · left
      cases hs : j_ri_step E (m, pc, L, st) S with
      | none => rw [hs] at h; exact h.elim
      | some x =>
        rw [hs] at h
        rcases x with x | b | c | x
        · exact ih d _ _ r h n' d' hn hd
        · rcases h with ⟨h1, h2⟩ | ⟨h1, h2⟩
          · exact Or.inl ⟨h1, ih d _ _ r h2 n' d' hn hd⟩
          · exact Or.inr ⟨h1, ih d _ _ r h2 n' d' hn hd⟩
        · obtain ⟨d1, y, e, h1, h2⟩ := h
          exact ⟨d' - 1, y, by omega, ih d1 _ _ y h1 n' (d' - 1) hn (by omega), ih d _ _ r h2 n' d' hn hd⟩
        · exact h
    · exact Or.inr ⟨L', h1, ih d _ _ r h2 n' d' hn hd⟩
def j_ri_A (E : ri_E) (d : Nat) (fr : ri_F) (S : ri_H) (Q : Option Value → ri_H → Prop) : Prop := ∃ (n pcr : Nat) (v : Option Value) (S' : ri_H), j_ri_run E n d fr S (pcr, v, S') ∧ Q v S'
theorem j_ri_A.step {E : ri_E} {d : Nat} {fr fr' : ri_F} {S S' : ri_H} {Q : Option Value → ri_H → Prop} (h : j_ri_step E fr S = some (.inl (fr', S'))) (k : j_ri_A E d fr' S' Q) : j_ri_A E d fr S Q := by
  obtain ⟨n, pcr, v, S1, h1, h2⟩ := k
  refine ⟨n + 1, pcr, v, S1, ?_, h2⟩
  obtain ⟨m, pc, L, st⟩ := fr
  unfold j_ri_run
  rw [h]
  exact Or.inl h1
theorem j_ri_A.less {E : ri_E} {d m pc : Nat} {L L' : List (Option Value)} {st : List Value} {S : ri_H} {Q : Option Value → ri_H → Prop} (h : ri_lsb L' L) (k : j_ri_A E d (m, pc, L', st) S Q) : j_ri_A E d (m, pc, L, st) S Q := by
  obtain ⟨n, pcr, v, S1, h1, h2⟩ := k
  refine ⟨n + 1, pcr, v, S1, ?_, h2⟩
  unfold j_ri_run
  exact Or.inr ⟨L', h, h1⟩
theorem j_ri_go_inv {E : ri_E} : ∀ (k : Nat) (fr : ri_F) (S : ri_H) (x : (ri_F × ri_H) ⊕ ((Bool × (ri_F × ri_H) × (ri_F × ri_H)) ⊕ ((Nat × List Value × ri_F × ri_H) ⊕ (Nat × Option Value × ri_H)))), j_ri_go E k fr S = some x → ∃ (fr0 : ri_F) (S0 : ri_H), (x = .inl (fr0, S0) ∨ ∃ y, x = .inr y ∧ j_ri_step E fr0 S0 = some (.inr y)) ∧ ∀ (d : Nat) (Q : Option Value → ri_H → Prop), j_ri_A E d fr0 S0 Q → j_ri_A E d fr S Q
  | 0, fr, S, x, h => by
    cases h
    exact ⟨fr, S, Or.inl rfl, fun _ _ k => k⟩
  | k + 1, fr, S, x, h => by
    unfold j_ri_go at h
    cases hs : j_ri_step E fr S with
    | none => rw [hs] at h; cases h
    | some y =>
      rw [hs] at h
      cases y with
      | inl r =>
        obtain ⟨fr0, S0, h1, h2⟩ := j_ri_go_inv k r.1 r.2 x h
        exact ⟨fr0, S0, h1, fun d Q z => j_ri_A.step (fr' := r.1) (S' := r.2) hs (h2 d Q z)⟩
      | inr y =>
        cases h
        exact ⟨fr, S, Or.inr ⟨y, rfl, hs⟩, fun _ _ k => k⟩
section RULES
variable {E : ri_E} {d : Nat} {fr fr' : ri_F} {S S' : ri_H} {Q : Option Value → ri_H → Prop}
/-- k plain steps -/
theorem j_A_nx (k : Nat) (h : j_ri_go E k fr S = some (.inl (fr', S'))) (kk : j_ri_A E d fr' S' Q) : j_ri_A E d fr S Q := by
  obtain ⟨fr0, S0, h1, h2⟩ := j_ri_go_inv k fr S _ h
  rcases h1 with h1 | ⟨y, h1, -⟩
  · cases h1
    exact h2 d Q kk
  · cases h1
theorem j_A_brb {b : Bool} {r1 r2 : ri_F × ri_H} (k : Nat) (h : j_ri_go E k fr S = some (.inr (.inl (b, r1, r2)))) (k1 : b = true → j_ri_A E d r1.1 r1.2 Q) (k2 : b = false → j_ri_A E d r2.1 r2.2 Q) : j_ri_A E d fr S Q := by
  obtain ⟨fr0, S0, h1, h2⟩ := j_ri_go_inv k fr S _ h
  rcases h1 with h1 | ⟨y, h1, hs⟩
  · cases h1
  · cases h1
    refine h2 d Q ?_
    cases b with
    | true =>
      obtain ⟨n, pcr, v, S1, g1, g2⟩ := k1 rfl
      refine ⟨n + 1, pcr, v, S1, ?_, g2⟩
      obtain ⟨m0, pc0, L0, st0⟩ := fr0
      unfold j_ri_run
      rw [hs]
      exact Or.inl (Or.inl ⟨rfl, g1⟩)
    | false =>
      obtain ⟨n, pcr, v, S1, g1, g2⟩ := k2 rfl
      refine ⟨n + 1, pcr, v, S1, ?_, g2⟩
      obtain ⟨m0, pc0, L0, st0⟩ := fr0
      unfold j_ri_run
      rw [hs]
      exact Or.inl (Or.inr ⟨rfl, g1⟩)
/-- a branch -/
theorem j_A_br (P : Prop) [hP : Decidable P] {r1 r2 : ri_F × ri_H} (k : Nat) (h : j_ri_go E k fr S = some (.inr (.inl (decide P, r1, r2)))) (k1 : P → j_ri_A E d r1.1 r1.2 Q) (k2 : ¬ P → j_ri_A E d r2.1 r2.2 Q) : j_ri_A E d fr S Q :=
  j_A_brb k h (fun e => k1 (of_decide_eq_true e)) (fun e => k2 (of_decide_eq_false e))
/-- an instruction that asks for something: it is so -/
theorem j_A_gd (P : Prop) [hP : Decidable P] {r1 r2 : ri_F × ri_H} (k : Nat) (h : j_ri_go E k fr S = some (.inr (.inl (decide P, r1, r2)))) (hp : P) (k1 : j_ri_A E d r1.1 r1.2 Q) : j_ri_A E d fr S Q :=
  j_A_brb k h (fun _ => k1) (fun e => absurd hp (of_decide_eq_false e))
/-- an index within -/
theorem j_A_ix (i : Int32) (n : Nat) {r1 r2 : ri_F × ri_H} (k : Nat) (h : j_ri_go E k fr S = some (.inr (.inl (ri_inb i n, r1, r2)))) (hp : vp_in i n) (k1 : j_ri_A E d r1.1 r1.2 Q) : j_ri_A E d fr S Q :=
  j_A_brb k h (fun _ => k1) (fun e => absurd hp (of_decide_eq_false (inst := instDecidableNot) e))
/-- a call -/
theorem j_A_call {j : Nat} {As : List Value} (k : Nat) (h : j_ri_go E k fr S = some (.inr (.inr (.inl (j, As, fr', S'))))) {e : Nat} (he : e < d) (kk : j_ri_A E e (ri_en j As) S' (fun v S1 => j_ri_A E d (ri_push fr' v) S1 Q)) : j_ri_A E d fr S Q := by
  obtain ⟨fr0, S0, h1, h2⟩ := j_ri_go_inv k fr S _ h
  rcases h1 with h1 | ⟨y, h1, hs⟩
  · cases h1
  · cases h1
    refine h2 d Q ?_
    obtain ⟨n1, p1, v1, S1, g1, n2, p2, v2, S2, g2, g3⟩ := kk
    refine ⟨n1 + n2 + 1, p2, v2, S2, ?_, g3⟩
    obtain ⟨m0, pc0, L0, st0⟩ := fr0
    unfold j_ri_run
    rw [hs]
    exact Or.inl ⟨d - 1, (p1, v1, S1), by omega, j_ri_run_mono E n1 e _ _ _ g1 (n1 + n2) (d - 1) (by omega) (by omega), j_ri_run_mono E n2 d _ _ _ g2 (n1 + n2) d (by omega) (Nat.le_refl _)⟩
/-- the end -/
theorem j_A_ret {m : Nat} {v : Option Value} (k : Nat) (h : j_ri_go E k fr S = some (.inr (.inr (.inr (m, v, S'))))) (hr : ri_rok m v = true) (hq : Q v S') : j_ri_A E d fr S Q := by
  obtain ⟨fr0, S0, h1, h2⟩ := j_ri_go_inv k fr S _ h
  rcases h1 with h1 | ⟨y, h1, hs⟩
  · cases h1
  · cases h1
    obtain ⟨m0, pc0, L0, st0⟩ := fr0
    refine h2 d Q ⟨1, pc0, v, S', ?_, hq⟩
    unfold j_ri_run
    rw [hs]
    exact Or.inl ⟨hr, rfl⟩
theorem j_A_mono {e : Nat} (h : j_ri_A E e fr S Q) (he : e ≤ d) : j_ri_A E d fr S Q := by
  obtain ⟨n, p, v, S1, h1, h2⟩ := h
  exact ⟨n, p, v, S1, j_ri_run_mono E n e _ _ _ h1 n d (Nat.le_refl _) he, h2⟩
theorem j_A_imp {Q' : Option Value → ri_H → Prop} (h : j_ri_A E d fr S Q') (hQ : ∀ v S', Q' v S' → Q v S') : j_ri_A E d fr S Q := by
  obtain ⟨n, p, v, S1, h1, h2⟩ := h
  exact ⟨n, p, v, S1, h1, hQ _ _ h2⟩
end RULES
-- 10.sound
def j_ri_ent (ad : Nat → Nat) (cA : Nat → ClassId) (S : ri_H) (k : Nat) : va_E := match j_ri_lay k with
  | .inl (ci, fl) => .inr (ci, ri_fls ad S k 0 fl)
  | .inr (.inl (.long, n)) => .inl (cA k, n, .inr (.inl (S.2 k)))
  | .inr (.inl (_, n)) => .inl (cA k, n, .inl (S.1 k))
  | .inr (.inr (_, tg)) => .inl (cA k, tg.length, .inr (.inr (.inr (.inr (fun j => (ri_nth tg j).map ad)))))
def j_ri_wld (ad : Nat → Nat) (cA : Nat → ClassId) (S : ri_H) : va_W := (List.range j_ri_K).map (fun k => (ad k, j_ri_ent ad cA S k))
theorem j_ri_wld_get {ad : Nat → Nat} {cA : Nat → ClassId} {S : ri_H} {k : Nat} (h : k < j_ri_K) : (j_ri_wld ad cA S)[k]? = some (ad k, j_ri_ent ad cA S k) := by
  unfold j_ri_wld
  rw [List.getElem?_map, List.getElem?_range h]
  rfl
theorem j_ri_wld_set {ad : Nat → Nat} {cA : Nat → ClassId} {S S' : ri_H} {k : Nat} {e : va_E} (he : j_ri_ent ad cA S' k = e) (ho : ∀ j, j ≠ k → j_ri_ent ad cA S' j = j_ri_ent ad cA S j) : (j_ri_wld ad cA S).set k (ad k, e) = j_ri_wld ad cA S' := by
  apply List.ext_getElem?
  intro j
  by_cases hj : j < j_ri_K
  · rw [j_ri_wld_get hj]
    by_cases hk : j = k
    · subst hk
      rw [List.getElem?_set_self (by unfold j_ri_wld; simpa using hj), he]
    · rw [List.getElem?_set_ne (Ne.symm hk), j_ri_wld_get hj, ho j hk]
  · rw [List.getElem?_eq_none (by unfold j_ri_wld; simp; omega), List.getElem?_eq_none (by unfold j_ri_wld; simp; omega)]
theorem j_ri_wld_D {ad : Nat → Nat} {cA : Nat → ClassId} {S : ri_H} {A : Nat → Prop} (hI : ∀ i j, i < j_ri_K → j < j_ri_K → ad i = ad j → i = j) (hA : ∀ k, k < j_ri_K → A (ad k)) : va_D A (j_ri_wld ad cA S) := by
  have key : ∀ (i : Nat) (q : Nat × va_E), (j_ri_wld ad cA S)[i]? = some q → i < j_ri_K ∧ q.1 = ad i := by
    intro i q h
    have hi : i < j_ri_K := by
      have := (List.getElem?_eq_some_iff.mp h).1
      unfold j_ri_wld at this
      simpa using this
    rw [j_ri_wld_get hi] at h
    cases h
    exact ⟨hi, rfl⟩
  refine ⟨fun i j p q h1 h2 h3 => ?_, fun k q h => ?_⟩
  · obtain ⟨a1, a2⟩ := key i p h1
    obtain ⟨b1, b2⟩ := key j q h2
    exact hI i j a1 b1 (by rw [← a2, ← b2]; exact h3)
  · obtain ⟨a1, a2⟩ := key k q h
    rw [a2]
    exact hA k a1
theorem j_ri_ent_other {ad : Nat → Nat} {cA : Nat → ClassId} {S S' : ri_H} {k : Nat} (h1 : ∀ j, S'.1 k j = S.1 k j) (h2 : ∀ j, S'.2 k j = S.2 k j) : j_ri_ent ad cA S' k = j_ri_ent ad cA S k := by
  unfold j_ri_ent
  have e1 : S'.1 k = S.1 k := funext h1
  have e2 : S'.2 k = S.2 k := funext h2
  split
  · rw [ri_fls_other h1 h2]
  · rw [e2]
  · rw [e1]
  · rfl
-- 11.sound2
def j_ri_T (Wf : Heap → List Loc → JFrame → Prop) (m : MethodId) (mi nL : Nat) (D : va_G) (ad : Nat → Nat) (cA : Nat → ClassId) (fz : Value) (A : Nat → Prop) (H0 : Heap) (fr : ri_F) (S : ri_H) : Prop := fr.1 = mi ∧ ∀ (H : Heap) (locs : List Loc) (ls : Array Slot), va_P D ri_cls (j_ri_wld ad cA S) H → va_S A H0 H locs → ri_lr ad fz ls nL fr.2.2.1 → Wf H locs (F0 m fr.2.1 ls (fr.2.2.2.map (ri_cv ad fz)))
theorem j_ri_ne4000 {k : Nat} (h : k < j_ri_K) : Nat.beq k 4000 = false := by
  have := j_ri_K_le
  rw [← Bool.not_eq_true]
  intro e
  have := Nat.eq_of_beq_eq_true e
  omega
def j_ri_Ty (cA : Nat → ClassId) (tys : List (ClassId × FieldType)) : Prop := ∀ k, k < j_ri_K → (∀ ty n, j_ri_lay k = .inr (.inl (ty, n)) → ∃ t0 : Nat, tys[t0]? = some (cA k, ty)) ∧ (∀ C tg, j_ri_lay k = .inr (.inr (C, tg)) → ∃ t0 : Nat, tys[t0]? = some (cA k, .object C))
def j_ri_Aw (ad : Nat → Nat) : Nat → Prop := fun q => ∃ k, k < j_ri_K ∧ q = ad k
def j_ri_Pc (D : va_G) (tys : List (ClassId × FieldType)) (ad : Nat → Nat) (cA : Nat → ClassId) (fz : Value) (E : ri_E) (As : List Value) (S : ri_H) : Array Value → State → Prop := va_Pc (As.map (ri_cv ad fz)) (fun U => ri_EF D tys ad fz E (j_ri_Aw ad) U U.heap ∧ va_P D ri_cls (j_ri_wld ad cA S) U.heap)
def j_ri_Qc (D : va_G) (ad : Nat → Nat) (cA : Nat → ClassId) (fz : Value) (v : Option Value) (S : ri_H) : Array Value → State → Outcome → State → Prop := fun _ st o u => o = .returned (v.map (ri_cv ad fz)) ∧ va_P D ri_cls (j_ri_wld ad cA S) u.heap ∧ va_F (j_ri_Aw ad) st u
def j_ri_Kx (l : Launch) (R : Room) (Wf : Heap → List Loc → JFrame → Prop) (m : MethodId) (t : ri_MT) (mi : Nat) (D : va_G) (tys : List (ClassId × FieldType)) (ad : Nat → Nat) (cA : Nat → ClassId) (fz : Value) (E : ri_E) (A : Nat → Prop) (H0 : Heap) (pc : Nat) (x : (ri_F × ri_H) ⊕ ((Bool × (ri_F × ri_H) × (ri_F × ri_H)) ⊕ ((Nat × List Value × ri_F × ri_H) ⊕ (Nat × Option Value × ri_H)))) : Prop := match x with
  | .inl r => r.1.1 = mi → j_ri_T Wf m mi (ri_ml0 t) D ad cA fz A H0 r.1 r.2
  | .inr (.inl b) => (b.1 = true → b.2.1.1.1 = mi → j_ri_T Wf m mi (ri_ml0 t) D ad cA fz A H0 b.2.1.1 b.2.1.2) ∧ (b.1 = false → b.2.2.1.1 ≠ 1000000 ∧ (b.2.2.1.1 = mi → j_ri_T Wf m mi (ri_ml0 t) D ad cA fz A H0 b.2.2.1 b.2.2.2))
  | .inr (.inr (.inl q)) => ∀ u : ri_MT, ri_mt q.1 = some u → ri_flag u ≠ 2 → ∃ (d : Nat) (v : Option Value) (S1 : ri_H), d + 2 ≤ R.frames ∧ 64 * (d + 2) ≤ R.locals ∧ Met l (ri_y u) (ri_wsm u) (ri_rm d) (j_ri_Pc D tys ad cA fz E q.2.1 q.2.2.2) (j_ri_Qc D ad cA fz v S1) 0 0 (j_ri_Aw ad) ∧ ((ri_push q.2.2.1 v).1 = mi → j_ri_T Wf m mi (ri_ml0 t) D ad cA fz A H0 (ri_push q.2.2.1 v) S1)
  | .inr (.inr (.inr r)) => r.1 = mi → ∀ (H : Heap) (locs : List Loc) (ls : Array Slot), va_P D ri_cls (j_ri_wld ad cA r.2.2) H → va_S A H0 H locs → ri_rtok (ri_b t) pc r.2.1 → Wf H locs (F0 m pc ls (r.2.1.toList.map (ri_cv ad fz)))
/-- what a walk knows of its method -/
def j_ri_Cx (p : Program) (s : State) (m : MethodId) (args : Array Value) (c : Code) (t : ri_MT) (D : va_G) (tys : List (ClassId × FieldType)) (ad : Nat → Nat) (fz : Value) (E : ri_E) (A : Nat → Prop) : Prop := p.tables.exec = Jvm.exec ∧ c.code = ri_b t ∧ c.maxLocals = ri_ml0 t ∧ s.vm.findClass (ri_y t).cls = some m.cls ∧ (∀ w ∈ lw_all, w.before args s = true) ∧ ri_EF D tys ad fz E A s s.heap ∧ (∀ k, k < j_ri_K → A (ad k))
/-- what holds of the addresses -/
def j_ri_Ad (ad : Nat → Nat) (cA : Nat → ClassId) (fz : Value) (tys : List (ClassId × FieldType)) : Prop := (∀ i j, i < j_ri_K → j < j_ri_K → ad i = ad j → i = j) ∧ (fz = .null ∨ ∃ a, fz = .ref a) ∧ j_ri_Ty cA tys
section ONE
variable {p : Program} {l : Launch} {e : Env} {R : Room} {s : State} {m : MethodId} {args : Array Value} {below : List Frame} {meth : Method} {c : Code} {cells slots : Nat} {Q : State → Prop}
variable {t : ri_MT} {mi : Nat} {D : va_G} {tys : List (ClassId × FieldType)} {ad : Nat → Nat} {cA : Nat → ClassId} {fz : Value} {E : ri_E} {A : Nat → Prop}
variable {pc pc' : Nat} {L : List (Option Value)} {st : List Value} {S : ri_H} {x : (ri_F × ri_H) ⊕ ((Bool × (ri_F × ri_H) × (ri_F × ri_H)) ⊕ ((Nat × List Value × ri_F × ri_H) ⊕ (Nat × Option Value × ri_H)))}
theorem j_rs_i2 {f : Int32 → Int32 → Int32} (hr : ri_i2 f mi pc' L S st = some x) (kx : j_ri_Kx l R (ri_Wf p l e R s m args below meth c cells slots Q) m t mi D tys ad cA fz E A s.heap pc x) (row : ∀ (x y : Int32) (rest : List Value) (H : Heap) (locs : List Loc) (ls : Array Slot), W p l e R s m args below meth c H locs cells slots Q (F0 m pc' ls (.int (f x y) :: rest)) → W p l e R s m args below meth c H locs cells slots Q (F0 m pc ls (.int y :: .int x :: rest))) : j_ri_T (ri_Wf p l e R s m args below meth c cells slots Q) m mi (ri_ml0 t) D ad cA fz A s.heap (mi, pc, L, st) S := by
  unfold ri_i2 at hr
  split at hr
  · cases hr
    exact ⟨rfl, fun H locs ls hP hS hl => row _ _ _ H locs ls ((kx rfl).2 H locs ls hP hS hl)⟩
  · cases hr
theorem j_rs_i1 {f : Int32 → Int32} (hr : ri_i1 f mi pc' L S st = some x) (kx : j_ri_Kx l R (ri_Wf p l e R s m args below meth c cells slots Q) m t mi D tys ad cA fz E A s.heap pc x) (row : ∀ (x : Int32) (rest : List Value) (H : Heap) (locs : List Loc) (ls : Array Slot), W p l e R s m args below meth c H locs cells slots Q (F0 m pc' ls (.int (f x) :: rest)) → W p l e R s m args below meth c H locs cells slots Q (F0 m pc ls (.int x :: rest))) : j_ri_T (ri_Wf p l e R s m args below meth c cells slots Q) m mi (ri_ml0 t) D ad cA fz A s.heap (mi, pc, L, st) S := by
  unfold ri_i1 at hr
  split at hr
  · cases hr
    exact ⟨rfl, fun H locs ls hP hS hl => row _ _ H locs ls ((kx rfl).2 H locs ls hP hS hl)⟩
  · cases hr
theorem j_rs_l2 {f : Int64 → Int64 → Int64} (hr : ri_l2 f mi pc' L S st = some x) (kx : j_ri_Kx l R (ri_Wf p l e R s m args below meth c cells slots Q) m t mi D tys ad cA fz E A s.heap pc x) (row : ∀ (x y : Int64) (rest : List Value) (H : Heap) (locs : List Loc) (ls : Array Slot), W p l e R s m args below meth c H locs cells slots Q (F0 m pc' ls (.long (f x y) :: rest)) → W p l e R s m args below meth c H locs cells slots Q (F0 m pc ls (.long y :: .long x :: rest))) : j_ri_T (ri_Wf p l e R s m args below meth c cells slots Q) m mi (ri_ml0 t) D ad cA fz A s.heap (mi, pc, L, st) S := by
  unfold ri_l2 at hr
  split at hr
  · cases hr
    exact ⟨rfl, fun H locs ls hP hS hl => row _ _ _ H locs ls ((kx rfl).2 H locs ls hP hS hl)⟩
  · cases hr
theorem j_rs_i2g {f : Int32 → Int32 → Int32} (hmi : mi ≠ 1000000) (hr : ri_i2g f mi pc' L S st = some x) (kx : j_ri_Kx l R (ri_Wf p l e R s m args below meth c cells slots Q) m t mi D tys ad cA fz E A s.heap pc x) (row : ∀ (x y : Int32) (rest : List Value) (H : Heap) (locs : List Loc) (ls : Array Slot), ¬ y = 0 → W p l e R s m args below meth c H locs cells slots Q (F0 m pc' ls (.int (f x y) :: rest)) → W p l e R s m args below meth c H locs cells slots Q (F0 m pc ls (.int y :: .int x :: rest))) : j_ri_T (ri_Wf p l e R s m args below meth c cells slots Q) m mi (ri_ml0 t) D ad cA fz A s.heap (mi, pc, L, st) S := by
  unfold ri_i2g at hr
  split at hr
  · rename_i y x0 r0
    cases hr
    obtain ⟨k1, k2⟩ := kx
    by_cases hy : y = 0
    · exact absurd rfl (k2 (decide_eq_false (fun q => q hy))).1
    · exact ⟨rfl, fun H locs ls hP hS hl => row _ _ _ H locs ls hy ((k1 (decide_eq_true hy) rfl).2 H locs ls hP hS hl)⟩
  · cases hr
theorem j_rs_l2g {f : Int64 → Int64 → Int64} (hmi : mi ≠ 1000000) (hr : ri_l2g f mi pc' L S st = some x) (kx : j_ri_Kx l R (ri_Wf p l e R s m args below meth c cells slots Q) m t mi D tys ad cA fz E A s.heap pc x) (row : ∀ (x y : Int64) (rest : List Value) (H : Heap) (locs : List Loc) (ls : Array Slot), ¬ y = 0 → W p l e R s m args below meth c H locs cells slots Q (F0 m pc' ls (.long (f x y) :: rest)) → W p l e R s m args below meth c H locs cells slots Q (F0 m pc ls (.long y :: .long x :: rest))) : j_ri_T (ri_Wf p l e R s m args below meth c cells slots Q) m mi (ri_ml0 t) D ad cA fz A s.heap (mi, pc, L, st) S := by
  unfold ri_l2g at hr
  split at hr
  · rename_i y x0 r0
    cases hr
    obtain ⟨k1, k2⟩ := kx
    by_cases hy : y = 0
    · exact absurd rfl (k2 (decide_eq_false (fun q => q hy))).1
    · exact ⟨rfl, fun H locs ls hP hS hl => row _ _ _ H locs ls hy ((k1 (decide_eq_true hy) rfl).2 H locs ls hP hS hl)⟩
  · cases hr
theorem j_rs_ld {w : Option Value} (hr : ri_ld mi pc' L st S w = some x) (kx : j_ri_Kx l R (ri_Wf p l e R s m args below meth c cells slots Q) m t mi D tys ad cA fz E A s.heap pc x) (row : ∀ (v : Value) (H : Heap) (locs : List Loc) (ls : Array Slot), w = some v → va_P D ri_cls (j_ri_wld ad cA S) H → va_S A s.heap H locs → ri_lr ad fz ls (ri_ml0 t) L → W p l e R s m args below meth c H locs cells slots Q (F0 m pc' ls (ri_cv ad fz v :: st.map (ri_cv ad fz))) → W p l e R s m args below meth c H locs cells slots Q (F0 m pc ls (st.map (ri_cv ad fz)))) : j_ri_T (ri_Wf p l e R s m args below meth c cells slots Q) m mi (ri_ml0 t) D ad cA fz A s.heap (mi, pc, L, st) S := by
  unfold ri_ld at hr
  split at hr
  · cases hr
    exact ⟨rfl, fun H locs ls hP hS hl => row _ H locs ls rfl hP hS hl ((kx rfl).2 H locs ls hP hS hl)⟩
  · cases hr
theorem j_rs_ist (hz : fz = .null ∨ ∃ a, fz = .ref a) {i : Nat} (hr : ri_ist mi pc' i L S st = some x) (kx : j_ri_Kx l R (ri_Wf p l e R s m args below meth c cells slots Q) m t mi D tys ad cA fz E A s.heap pc x) (row : ∀ (v : Int32) (rest : List Value) (H : Heap) (locs : List Loc) (ls : Array Slot), lv_has ls (ri_ml0 t) (ri_ents ad fz (ri_ml0 t) L) → (∀ ls' : Array Slot, lv_has ls' (ri_ml0 t) ((i, .int v) :: (ri_ents ad fz (ri_ml0 t) L).filter (fun q => !(q.1 == i) && !(q.1 + 1 == i && q.2.category == 2))) → W p l e R s m args below meth c H locs cells slots Q (F0 m pc' ls' (rest))) → W p l e R s m args below meth c H locs cells slots Q (F0 m pc ls (.int v :: rest))) : j_ri_T (ri_Wf p l e R s m args below meth c cells slots Q) m mi (ri_ml0 t) D ad cA fz A s.heap (mi, pc, L, st) S := by
  unfold ri_ist at hr
  split at hr
  · cases hr
    exact ⟨rfl, fun H locs ls hP hS hl => row _ _ H locs ls hl.has (fun ls' h' => (kx rfl).2 H locs ls' hP hS (hl.st1 hz (v := .int _) h'))⟩
  · cases hr
theorem j_rs_lst (hz : fz = .null ∨ ∃ a, fz = .ref a) {i : Nat} (hr : ri_lst mi pc' i L S st = some x) (kx : j_ri_Kx l R (ri_Wf p l e R s m args below meth c cells slots Q) m t mi D tys ad cA fz E A s.heap pc x) (row : ∀ (v : Int64) (rest : List Value) (H : Heap) (locs : List Loc) (ls : Array Slot), lv_has ls (ri_ml0 t) (ri_ents ad fz (ri_ml0 t) L) → (∀ ls' : Array Slot, lv_has ls' (ri_ml0 t) ((i, .long v) :: (ri_ents ad fz (ri_ml0 t) L).filter (fun q => !(q.1 == i) && (!(q.1 == i + 1) && !(q.1 + 1 == i && q.2.category == 2)))) → W p l e R s m args below meth c H locs cells slots Q (F0 m pc' ls' (rest))) → W p l e R s m args below meth c H locs cells slots Q (F0 m pc ls (.long v :: rest))) : j_ri_T (ri_Wf p l e R s m args below meth c cells slots Q) m mi (ri_ml0 t) D ad cA fz A s.heap (mi, pc, L, st) S := by
  unfold ri_lst at hr
  split at hr
  · cases hr
    exact ⟨rfl, fun H locs ls hP hS hl => row _ _ H locs ls hl.has (fun ls' h' => (kx rfl).2 H locs ls' hP hS (hl.st2 hz (v := .long _) h'))⟩
  · cases hr
theorem j_rs_ast (hz : fz = .null ∨ ∃ a, fz = .ref a) {i : Nat} (hr : ri_ast mi pc' i L S st = some x) (kx : j_ri_Kx l R (ri_Wf p l e R s m args below meth c cells slots Q) m t mi D tys ad cA fz E A s.heap pc x) (row : ∀ (a : Nat) (rest : List Value) (H : Heap) (locs : List Loc) (ls : Array Slot), lv_has ls (ri_ml0 t) (ri_ents ad fz (ri_ml0 t) L) → (∀ ls' : Array Slot, lv_has ls' (ri_ml0 t) ((i, .ref a) :: (ri_ents ad fz (ri_ml0 t) L).filter (fun q => !(q.1 == i) && !(q.1 + 1 == i && q.2.category == 2))) → W p l e R s m args below meth c H locs cells slots Q (F0 m pc' ls' (rest))) → W p l e R s m args below meth c H locs cells slots Q (F0 m pc ls (.ref a :: rest))) (rowN : ∀ (rest : List Value) (H : Heap) (locs : List Loc) (ls : Array Slot), lv_has ls (ri_ml0 t) (ri_ents ad fz (ri_ml0 t) L) → (∀ ls' : Array Slot, lv_has ls' (ri_ml0 t) ((i, .null) :: (ri_ents ad fz (ri_ml0 t) L).filter (fun q => !(q.1 == i) && !(q.1 + 1 == i && q.2.category == 2))) → W p l e R s m args below meth c H locs cells slots Q (F0 m pc' ls' (rest))) → W p l e R s m args below meth c H locs cells slots Q (F0 m pc ls (.null :: rest))) : j_ri_T (ri_Wf p l e R s m args below meth c cells slots Q) m mi (ri_ml0 t) D ad cA fz A s.heap (mi, pc, L, st) S := by
  unfold ri_ast at hr
  split at hr
  · rename_i k r0
    cases hk : Nat.beq k 4000 with
    | true => rw [hk] at hr; cases hr
    | false =>
      rw [hk] at hr
      cases hr
      refine ⟨rfl, fun H locs ls hP hS hl => ?_⟩
      show W p l e R s m args below meth c H locs cells slots Q (F0 m pc ls (ri_cv ad fz (.ref k) :: r0.map (ri_cv ad fz)))
      rw [ri_cv_ne hk]
      exact row _ _ H locs ls hl.has (fun ls' h' => (kx rfl).2 H locs ls' hP hS (hl.st1 hz (v := .ref k) (by rw [ri_cv_ne hk]; exact h')))
  · cases hr
    exact ⟨rfl, fun H locs ls hP hS hl => rowN _ H locs ls hl.has (fun ls' h' => (kx rfl).2 H locs ls' hP hS (hl.st1 hz (v := .null) h'))⟩
  · cases hr
theorem j_rs_iinc (hz : fz = .null ∨ ∃ a, fz = .ref a) {i : Nat} {w : Value} (hr : ri_iinc mi pc' i L st S w (ri_get L i) = some x) (kx : j_ri_Kx l R (ri_Wf p l e R s m args below meth c cells slots Q) m t mi D tys ad cA fz E A s.heap pc x) (row : ∀ (n y : Int32) (H : Heap) (locs : List Loc) (ls : Array Slot), w = .int n → ri_get L i = some (.int y) → lv_has ls (ri_ml0 t) (ri_ents ad fz (ri_ml0 t) L) → (∀ ls' : Array Slot, lv_has ls' (ri_ml0 t) ((i, .int (y + n)) :: (ri_ents ad fz (ri_ml0 t) L).filter (fun q => !(q.1 == i) && !(q.1 + 1 == i && q.2.category == 2))) → W p l e R s m args below meth c H locs cells slots Q (F0 m pc' ls' (st.map (ri_cv ad fz)))) → W p l e R s m args below meth c H locs cells slots Q (F0 m pc ls (st.map (ri_cv ad fz)))) : j_ri_T (ri_Wf p l e R s m args below meth c cells slots Q) m mi (ri_ml0 t) D ad cA fz A s.heap (mi, pc, L, st) S := by
  unfold ri_iinc at hr
  split at hr
  · rename_i n y hg
    cases hr
    exact ⟨rfl, fun H locs ls hP hS hl => row _ _ H locs ls rfl hg hl.has (fun ls' h' => (kx rfl).2 H locs ls' hP hS (hl.st1 hz (v := .int (y + n)) h'))⟩
  · cases hr
theorem j_rs_if0 {cd : ClassFile.Cond} {w : Value} (hr : ri_if0 cd mi pc' L S w st = some x) (kx : j_ri_Kx l R (ri_Wf p l e R s m args below meth c cells slots Q) m t mi D tys ad cA fz E A s.heap pc x) (row : ∀ (tg : Nat) (y : Int32) (rest : List Value) (H : Heap) (locs : List Loc) (ls : Array Slot), w = .retAddr tg → (ri_c0 cd y = true → W p l e R s m args below meth c H locs cells slots Q (F0 m tg ls (rest))) → (ri_c0 cd y = false → W p l e R s m args below meth c H locs cells slots Q (F0 m pc' ls (rest))) → W p l e R s m args below meth c H locs cells slots Q (F0 m pc ls (.int y :: rest))) : j_ri_T (ri_Wf p l e R s m args below meth c cells slots Q) m mi (ri_ml0 t) D ad cA fz A s.heap (mi, pc, L, st) S := by
  unfold ri_if0 at hr
  split at hr
  · cases hr
    exact ⟨rfl, fun H locs ls hP hS hl => row _ _ _ H locs ls rfl (fun hc => (kx.1 hc rfl).2 H locs ls hP hS hl) (fun hc => ((kx.2 hc).2 rfl).2 H locs ls hP hS hl)⟩
  · cases hr
theorem j_rs_if2 {cd : ClassFile.Cond} {w : Value} (hr : ri_if2 cd mi pc' L S w st = some x) (kx : j_ri_Kx l R (ri_Wf p l e R s m args below meth c cells slots Q) m t mi D tys ad cA fz E A s.heap pc x) (row : ∀ (tg : Nat) (y z : Int32) (rest : List Value) (H : Heap) (locs : List Loc) (ls : Array Slot), w = .retAddr tg → (ri_c2 cd y z = true → W p l e R s m args below meth c H locs cells slots Q (F0 m tg ls (rest))) → (ri_c2 cd y z = false → W p l e R s m args below meth c H locs cells slots Q (F0 m pc' ls (rest))) → W p l e R s m args below meth c H locs cells slots Q (F0 m pc ls (.int z :: .int y :: rest))) : j_ri_T (ri_Wf p l e R s m args below meth c cells slots Q) m mi (ri_ml0 t) D ad cA fz A s.heap (mi, pc, L, st) S := by
  unfold ri_if2 at hr
  split at hr
  · cases hr
    exact ⟨rfl, fun H locs ls hP hS hl => row _ _ _ _ H locs ls rfl (fun hc => (kx.1 hc rfl).2 H locs ls hP hS hl) (fun hc => ((kx.2 hc).2 rfl).2 H locs ls hP hS hl)⟩
  · cases hr
theorem j_rs_jump {w : Value} (hr : ri_jump mi L st S w = some x) (kx : j_ri_Kx l R (ri_Wf p l e R s m args below meth c cells slots Q) m t mi D tys ad cA fz E A s.heap pc x) (row : ∀ (tg : Nat) (H : Heap) (locs : List Loc) (ls : Array Slot), w = .retAddr tg → W p l e R s m args below meth c H locs cells slots Q (F0 m tg ls (st.map (ri_cv ad fz))) → W p l e R s m args below meth c H locs cells slots Q (F0 m pc ls (st.map (ri_cv ad fz)))) : j_ri_T (ri_Wf p l e R s m args below meth c cells slots Q) m mi (ri_ml0 t) D ad cA fz A s.heap (mi, pc, L, st) S := by
  unfold ri_jump at hr
  split at hr
  · cases hr
    exact ⟨rfl, fun H locs ls hP hS hl => row _ H locs ls rfl ((kx rfl).2 H locs ls hP hS hl)⟩
  · cases hr
theorem j_rs_ifn {w : Value} (hr : ri_ifn mi pc' L S w st = some x) (kx : j_ri_Kx l R (ri_Wf p l e R s m args below meth c cells slots Q) m t mi D tys ad cA fz E A s.heap pc x) (row : ∀ (tg a : Nat) (rest : List Value) (H : Heap) (locs : List Loc) (ls : Array Slot), w = .retAddr tg → W p l e R s m args below meth c H locs cells slots Q (F0 m pc' ls (rest)) → W p l e R s m args below meth c H locs cells slots Q (F0 m pc ls (.ref a :: rest))) (rowN : ∀ (tg : Nat) (rest : List Value) (H : Heap) (locs : List Loc) (ls : Array Slot), w = .retAddr tg → W p l e R s m args below meth c H locs cells slots Q (F0 m tg ls (rest)) → W p l e R s m args below meth c H locs cells slots Q (F0 m pc ls (.null :: rest))) : j_ri_T (ri_Wf p l e R s m args below meth c cells slots Q) m mi (ri_ml0 t) D ad cA fz A s.heap (mi, pc, L, st) S := by
  unfold ri_ifn at hr
  split at hr
  · rename_i tg k r0
    cases hk : Nat.beq k 4000 with
    | true => rw [hk] at hr; cases hr
    | false =>
      rw [hk] at hr
      cases hr
      refine ⟨rfl, fun H locs ls hP hS hl => ?_⟩
      show W p l e R s m args below meth c H locs cells slots Q (F0 m pc ls (ri_cv ad fz (.ref k) :: r0.map (ri_cv ad fz)))
      rw [ri_cv_ne hk]
      exact row _ _ _ H locs ls rfl ((kx rfl).2 H locs ls hP hS hl)
  · cases hr
    exact ⟨rfl, fun H locs ls hP hS hl => rowN _ _ H locs ls rfl ((kx rfl).2 H locs ls hP hS hl)⟩
  · cases hr
theorem j_rs_ifnn {w : Value} (hr : ri_ifnn mi pc' L S w st = some x) (kx : j_ri_Kx l R (ri_Wf p l e R s m args below meth c cells slots Q) m t mi D tys ad cA fz E A s.heap pc x) (row : ∀ (tg a : Nat) (rest : List Value) (H : Heap) (locs : List Loc) (ls : Array Slot), w = .retAddr tg → W p l e R s m args below meth c H locs cells slots Q (F0 m tg ls (rest)) → W p l e R s m args below meth c H locs cells slots Q (F0 m pc ls (.ref a :: rest))) (rowN : ∀ (tg : Nat) (rest : List Value) (H : Heap) (locs : List Loc) (ls : Array Slot), w = .retAddr tg → W p l e R s m args below meth c H locs cells slots Q (F0 m pc' ls (rest)) → W p l e R s m args below meth c H locs cells slots Q (F0 m pc ls (.null :: rest))) : j_ri_T (ri_Wf p l e R s m args below meth c cells slots Q) m mi (ri_ml0 t) D ad cA fz A s.heap (mi, pc, L, st) S := by
  unfold ri_ifnn at hr
  split at hr
  · rename_i tg k r0
    cases hk : Nat.beq k 4000 with
    | true => rw [hk] at hr; cases hr
    | false =>
      rw [hk] at hr
      cases hr
      refine ⟨rfl, fun H locs ls hP hS hl => ?_⟩
      show W p l e R s m args below meth c H locs cells slots Q (F0 m pc ls (ri_cv ad fz (.ref k) :: r0.map (ri_cv ad fz)))
      rw [ri_cv_ne hk]
      exact row _ _ _ H locs ls rfl ((kx rfl).2 H locs ls hP hS hl)
  · cases hr
    exact ⟨rfl, fun H locs ls hP hS hl => rowN _ _ H locs ls rfl ((kx rfl).2 H locs ls hP hS hl)⟩
  · cases hr
theorem j_rs_sw {dflt lo hi : Int} {offs : List Int} (hr : ri_sw mi pc dflt lo hi offs L S st = some x) (kx : j_ri_Kx l R (ri_Wf p l e R s m args below meth c cells slots Q) m t mi D tys ad cA fz E A s.heap pc x) (row : ∀ (y : Int32) (rest : List Value) (H : Heap) (locs : List Loc) (ls : Array Slot), ri_swok pc dflt lo hi offs = true → W p l e R s m args below meth c H locs cells slots Q (F0 m (ri_tgt pc dflt lo hi offs y) ls (rest)) → W p l e R s m args below meth c H locs cells slots Q (F0 m pc ls (.int y :: rest))) : j_ri_T (ri_Wf p l e R s m args below meth c cells slots Q) m mi (ri_ml0 t) D ad cA fz A s.heap (mi, pc, L, st) S := by
  unfold ri_sw at hr
  split at hr
  · cases hk : ri_swok pc dflt lo hi offs with
    | false => rw [hk] at hr; cases hr
    | true =>
      rw [hk] at hr
      cases hr
      exact ⟨rfl, fun H locs ls hP hS hl => row _ _ H locs ls hk ((kx rfl).2 H locs ls hP hS hl)⟩
  · cases hr
theorem j_rs_dup (hz : fz = .null ∨ ∃ a, fz = .ref a) (hr : ri_dup mi pc' L S st = some x) (kx : j_ri_Kx l R (ri_Wf p l e R s m args below meth c cells slots Q) m t mi D tys ad cA fz E A s.heap pc x) (row : ∀ (v : Value) (rest : List Value) (H : Heap) (locs : List Loc) (ls : Array Slot), v.category = 1 → W p l e R s m args below meth c H locs cells slots Q (F0 m pc' ls (v :: v :: rest)) → W p l e R s m args below meth c H locs cells slots Q (F0 m pc ls (v :: rest))) : j_ri_T (ri_Wf p l e R s m args below meth c cells slots Q) m mi (ri_ml0 t) D ad cA fz A s.heap (mi, pc, L, st) S := by
  unfold ri_dup at hr
  split at hr
  · rename_i v r0
    cases hk : ri_cat1 v with
    | false => rw [hk] at hr; cases hr
    | true =>
      rw [hk] at hr
      cases hr
      exact ⟨rfl, fun H locs ls hP hS hl => row _ _ H locs ls (ri_cat1_cv hz hk) ((kx rfl).2 H locs ls hP hS hl)⟩
  · cases hr
theorem j_rs_pop (hz : fz = .null ∨ ∃ a, fz = .ref a) (hr : ri_pop mi pc' L S st = some x) (kx : j_ri_Kx l R (ri_Wf p l e R s m args below meth c cells slots Q) m t mi D tys ad cA fz E A s.heap pc x) (row : ∀ (v : Value) (rest : List Value) (H : Heap) (locs : List Loc) (ls : Array Slot), v.category = 1 → W p l e R s m args below meth c H locs cells slots Q (F0 m pc' ls (rest)) → W p l e R s m args below meth c H locs cells slots Q (F0 m pc ls (v :: rest))) : j_ri_T (ri_Wf p l e R s m args below meth c cells slots Q) m mi (ri_ml0 t) D ad cA fz A s.heap (mi, pc, L, st) S := by
  unfold ri_pop at hr
  split at hr
  · rename_i v r0
    cases hk : ri_cat1 v with
    | false => rw [hk] at hr; cases hr
    | true =>
      rw [hk] at hr
      cases hr
      exact ⟨rfl, fun H locs ls hP hS hl => row _ _ H locs ls (ri_cat1_cv hz hk) ((kx rfl).2 H locs ls hP hS hl)⟩
  · cases hr
theorem j_rs_dup2 (hz : fz = .null ∨ ∃ a, fz = .ref a) (hr : ri_dup2 mi pc' L S st = some x) (kx : j_ri_Kx l R (ri_Wf p l e R s m args below meth c cells slots Q) m t mi D tys ad cA fz E A s.heap pc x) (row : ∀ (v w : Value) (rest : List Value) (H : Heap) (locs : List Loc) (ls : Array Slot), v.category = 1 → w.category = 1 → W p l e R s m args below meth c H locs cells slots Q (F0 m pc' ls (v :: w :: v :: w :: rest)) → W p l e R s m args below meth c H locs cells slots Q (F0 m pc ls (v :: w :: rest))) : j_ri_T (ri_Wf p l e R s m args below meth c cells slots Q) m mi (ri_ml0 t) D ad cA fz A s.heap (mi, pc, L, st) S := by
  unfold ri_dup2 at hr
  split at hr
  · rename_i v w r0
    cases hk : ri_cat1 v with
    | false => rw [hk] at hr; cases hr
    | true =>
      rw [hk] at hr
      cases hk2 : ri_cat1 w with
      | false => rw [hk2] at hr; cases hr
      | true =>
        rw [hk2] at hr
        cases hr
        exact ⟨rfl, fun H locs ls hP hS hl => row _ _ _ H locs ls (ri_cat1_cv hz hk) (ri_cat1_cv hz hk2) ((kx rfl).2 H locs ls hP hS hl)⟩
  · cases hr
end ONE
-- 12.sound3
section TWO
variable {p : Program} {l : Launch} {e : Env} {R : Room} {s : State} {m : MethodId} {args : Array Value} {below : List Frame} {meth : Method} {c : Code} {cells slots : Nat} {Q : State → Prop}
variable {t : ri_MT} {mi : Nat} {D : va_G} {tys : List (ClassId × FieldType)} {ad : Nat → Nat} {cA : Nat → ClassId} {fz : Value} {E : ri_E} {A : Nat → Prop}
variable {pc pc' : Nat} {L : List (Option Value)} {st : List Value} {S : ri_H} {x : (ri_F × ri_H) ⊕ ((Bool × (ri_F × ri_H) × (ri_F × ri_H)) ⊕ ((Nat × List Value × ri_F × ri_H) ⊕ (Nat × Option Value × ri_H)))}
theorem j_ri_ent_obj {ad : Nat → Nat} {cA : Nat → ClassId} {S : ri_H} {k ci : Nat} {fl : List (Nat × Nat)} (h : j_ri_lay k = .inl (ci, fl)) : j_ri_ent ad cA S k = .inr (ci, ri_fls ad S k 0 fl) := by
  unfold j_ri_ent
  rw [h]
theorem j_ri_lay_obj {k ci : Nat} {fl : List (Nat × Nat)} (h : j_ri_lay k = .inl (ci, fl)) (hc : ri_nth ri_cls ci ≠ none) : k < j_ri_K ∧ ∃ r, ri_nth ri_cls ci = some r ∧ fl.length = r.2.2 ∧ ∀ j q, ri_nth fl j = some q → j < r.2.2 ∧ j_ri_kok r j q = true := by
  have hne : ∀ l, (Sum.inl (ci, fl) : ri_LK) ≠ .inl (999, l) := by
    intro l z
    cases z
    exact hc rfl
  obtain ⟨h1, h2⟩ := j_ri_lay_use h hne
  refine ⟨h1, ?_⟩
  unfold j_ri_lyk at h2
  dsimp only at h2
  cases hr : ri_nth ri_cls ci with
  | none => exact absurd hr hc
  | some r =>
    rw [hr] at h2
    simp only [Bool.and_eq_true, decide_eq_true_eq] at h2
    refine ⟨r, rfl, h2.1, fun j q hq => ?_⟩
    have hj : j < r.2.2 := by
      rw [ri_nth_eq] at hq
      have := (List.getElem?_eq_some_iff.mp hq).1
      omega
    have h3 := List.all_eq_true.mp h2.2 j (List.mem_range.mpr hj)
    rw [hq] at h3
    exact ⟨hj, h3⟩
theorem j_rs_getf (cx : j_ri_Cx p s m args c t D tys ad fz E A) (ha : j_ri_Ad ad cA fz tys) (ht : ri_mt mi = some t) {idx : Nat} (hd : decode (ri_b t) pc = .ok (.getfield idx, 3)) (hr : j_ri_getf (ri_mcl t) mi (pc + 3) idx L S st = some x) (kx : j_ri_Kx l R (ri_Wf p l e R s m args below meth c cells slots Q) m t mi D tys ad cA fz E A s.heap pc x) : j_ri_T (ri_Wf p l e R s m args below meth c cells slots Q) m mi (ri_ml0 t) D ad cA fz A s.heap (mi, pc, L, st) S := by
  obtain ⟨hx, hb, hml, hown, hts, hEF, hA⟩ := cx
  obtain ⟨hI, hz, hTy⟩ := ha
  have hcn := ri_cn_eq ht
  unfold j_ri_getf at hr
  split at hr
  · rename_i k r0
    unfold ri_ld at hr
    split at hr
    · rename_i w hw
      cases hr
      refine ⟨rfl, fun H locs ls hP hS hl => ?_⟩
      have kk := (kx rfl).2 H locs ls hP hS hl
      show W p l e R s m args below meth c H locs cells slots Q (F0 m pc ls (ri_cv ad fz (.ref k) :: r0.map (ri_cv ad fz)))
      unfold j_ri_gf at hw
      split at hw
      · rename_i ci j p0 hq
        have hfl := ri_all2_use ri_flc_ok hq
        cases hci : Nat.beq ci 100 with
        | false =>
          rw [hci] at hw
          have hci' : ci ≠ 100 := by
            intro z
            rw [z] at hci
            cases hci
          obtain ⟨r, hr1, hr2, hr3, hr4⟩ := ri_flc_own hci' hfl
          have hw1 : ri_gfo S k ci j (j_ri_lay k) = some w := hw
          clear hw
          unfold ri_gfo at hw1
          split at hw1
          · rename_i ci2 fl hly
            cases hc2 : Nat.beq ci2 ci with
            | false => rw [hc2] at hw1; cases hw1
            | true =>
              rw [hc2] at hw1
              have hw2 : ri_fv S k j (ri_nth fl j) = some w := hw1
              clear hw1
              have e : ci2 = ci := Nat.eq_of_beq_eq_true hc2
              subst e
              obtain ⟨hk, r2, hr5, hlen, hall⟩ := j_ri_lay_obj hly (by rw [hr1]; simp)
              rw [hr1] at hr5
              cases hr5
              cases hq2 : ri_nth fl j with
              | none => rw [hq2] at hw2; cases hw2
              | some q =>
                rw [hq2] at hw2
                obtain ⟨-, hkok⟩ := hall j q hq2
                have hv : (ri_fls ad S k 0 fl)[j]? = some (ri_cv ad fz w) := by
                  rw [ri_fls_get, hq2]
                  simp only [Option.map_some, Nat.zero_add]
                  obtain ⟨qa, qt⟩ := q
                  match qa, hw2, hkok with
                  | 0, hw2, _ => cases hw2; rfl
                  | 1, hw2, _ => cases hw2; rfl
                  | 2, hw2, _ => cases hw2; rfl
                  | 3, hw2, hkok =>
                    cases hw2
                    have : qt < j_ri_K := of_decide_eq_true hkok
                    rw [ri_cv_ne (j_ri_ne4000 this)]
                    rfl
                  | n + 4, hw2, _ => cases hw2
                rw [ri_cv_ne (j_ri_ne4000 hk)]
                refine va_get (D := D) (ci := ci2) (v := ri_cv ad fz w) (C := r.1) (T := r.2.1) (N := r.2.2) (own := (ri_y t).cls) (ref := r.1) hx hb hts (ri_lays hr1) hown hEF.1 hP k (by rw [j_ri_wld_get hk, j_ri_ent_obj hly]) (ri_cls_lt hr1) j hr3 (by rw [← hcn]; exact hts _ hr2) (fun z h9 => by rw [hr4] at h9; exact h9) hv hd kk
          · cases hw1
        | true =>
          rw [hci] at hw
          have e : ci = 100 := Nat.eq_of_beq_eq_true hci
          subst e
          have hw1 : ri_str k j = some w := hw
          clear hw
          unfold ri_str at hw1
          cases hk1 : Nat.ble 1000 k with
          | false => rw [hk1] at hw1; cases hw1
          | true =>
            rw [hk1] at hw1
            cases hk2 : Nat.ble k 1012 with
            | false => rw [hk2] at hw1; cases hw1
            | true =>
              rw [hk2] at hw1
              have b1 := Nat.le_of_ble_eq_true hk1
              have b2 := Nat.le_of_ble_eq_true hk2
              have hk4 : Nat.beq k 4000 = false := by
                rw [← Bool.not_eq_true]
                intro e
                have := Nat.eq_of_beq_eq_true e
                omega
              obtain ⟨i, rfl⟩ := Nat.exists_eq_add_of_le b1
              have hi : i < 13 := Nat.lt_succ_of_le (Nat.le_of_add_le_add_left b2)
              have hS7 := hEF.2.2.2.2.2.2.1.1 i hi
              rw [ri_cv_ne hk4]
              match j, hw1, hfl with
              | 0, hw1, hfl =>
                cases hw1
                exact vk_getf hx hb (own := (ri_y t).cls) (ref := "java/lang/String") hS7.2.1 hS hown (by rw [← hcn]; exact hts _ (ri_wat_in hfl)) (fun _ h9 => h9) hd kk
              | 1, hw1, hfl =>
                cases hw1
                have h5 : Nat.beq (1000 + i + 100) 4000 = false := by
                  rw [← Bool.not_eq_true]
                  intro e
                  have := Nat.eq_of_beq_eq_true e
                  omega
                have e5 : ri_cv ad fz (.ref (1000 + i + 100)) = .ref (ad (1100 + i)) := by
                  rw [ri_cv_ne h5, show 1000 + i + 100 = 1100 + i by omega]
                have kk : W p l e R s m args below meth c H locs cells slots Q (F0 m (pc + 3) ls (ri_cv ad fz (.ref (1000 + i + 100)) :: r0.map (ri_cv ad fz))) := kk
                rw [e5] at kk
                exact vk_getf hx hb (own := (ri_y t).cls) (ref := "java/lang/String") hS7.2.2.1 hS hown (by rw [← hcn]; exact hts _ (ri_wat_in hfl)) (fun _ h9 => h9) hd kk
              | j + 2, hw1, hfl =>
                exfalso
                unfold ri_flc at hfl
                simp [ri_nth] at hfl
      · cases hw
    · cases hr
  · cases hr
theorem j_rs_putf (cx : j_ri_Cx p s m args c t D tys ad fz E A) (ha : j_ri_Ad ad cA fz tys) (ht : ri_mt mi = some t) {idx : Nat} (hd : decode (ri_b t) pc = .ok (.putfield idx, 3)) (hr : j_ri_putf (ri_mcl t) mi (pc + 3) idx L S st = some x) (kx : j_ri_Kx l R (ri_Wf p l e R s m args below meth c cells slots Q) m t mi D tys ad cA fz E A s.heap pc x) : j_ri_T (ri_Wf p l e R s m args below meth c cells slots Q) m mi (ri_ml0 t) D ad cA fz A s.heap (mi, pc, L, st) S := by
  obtain ⟨hx, hb, hml, hown, hts, hEF, hA⟩ := cx
  obtain ⟨hI, hz, hTy⟩ := ha
  have hcn := ri_cn_eq ht
  unfold j_ri_putf at hr
  split at hr
  · rename_i v k r0
    unfold ri_nxo at hr
    split at hr
    · rename_i S' hw
      cases hr
      unfold j_ri_pf at hw
      split at hw
      · rename_i ci j p0 hq
        have hfl := ri_all2_use ri_flc_ok hq
        cases hci : Nat.beq ci 100 with
        | true => rw [hci] at hw; cases hw
        | false =>
          rw [hci] at hw
          have hci' : ci ≠ 100 := by
            intro z
            rw [z] at hci
            cases hci
          obtain ⟨r, hr1, hr2, hr3, hr4⟩ := ri_flc_own hci' hfl
          have hw1 : ri_pfo S k ci j v (j_ri_lay k) = some S' := hw
          clear hw
          unfold ri_pfo at hw1
          split at hw1
          · rename_i ci2 fl hly
            cases hc2 : Nat.beq ci2 ci with
            | false => rw [hc2] at hw1; cases hw1
            | true =>
              rw [hc2] at hw1
              have hw2 : ri_pfv S k j (ri_nth fl j) v = some S' := hw1
              clear hw1
              have e : ci2 = ci := Nat.eq_of_beq_eq_true hc2
              subst e
              obtain ⟨hk, r2, hr5, hlen, hall⟩ := j_ri_lay_obj hly (by rw [hr1]; simp)
              rw [hr1] at hr5
              cases hr5
              cases hq2 : ri_nth fl j with
              | none => rw [hq2] at hw2; cases hw2
              | some q =>
                rw [hq2] at hw2
                obtain ⟨-, hkok⟩ := hall j q hq2
                obtain ⟨qa, qt⟩ := q
                -- what is wanted of the field's type, of the value, of the new heap
                have key : ∃ ty : FieldType, parseFieldDescriptor (r.2.1 j).2.2.1 = some ty ∧ narrow ty (ri_cv ad fz v) = ri_cv ad fz v ∧ fits ty (ri_cv ad fz v) = true ∧ (r.2.1 j).2.2.2 = false ∧ (∀ j', j' ≠ j → S'.1 k j' = S.1 k j' ∧ S'.2 k j' = S.2 k j') ∧ ri_fvc ad S' k j (qa, qt) = ri_cv ad fz v ∧ (∀ a, a ≠ k → (∀ b, S'.1 a b = S.1 a b) ∧ (∀ b, S'.2 a b = S.2 a b)) := by
                  match qa, v, hw2, hkok with
                  | 0, .int y, hw, hkok =>
                    cases hw
                    simp only [j_ri_kok, Bool.and_eq_true, decide_eq_true_eq] at hkok
                    refine ⟨.int, by rw [hkok.1]; decide +kernel, rfl, rfl, hkok.2, fun j' hj' => ⟨by rw [ri_wi_eq, if_neg hj'], rfl⟩, ?_, fun a ha' => ⟨fun b => ri_wi_ne ha' b, fun b => rfl⟩⟩
                    show Value.int _ = Value.int _
                    rw [ri_wi_eq, if_pos rfl]
                  | 1, .int y, hw, hkok =>
                    have hw : cond (decide (y = 0 ∨ y = 1)) (some (ri_wi S k j y)) none = some S' := hw
                    simp only [j_ri_kok, Bool.and_eq_true, decide_eq_true_eq] at hkok
                    by_cases hy : y = 0 ∨ y = 1
                    · rw [decide_eq_true hy] at hw
                      cases hw
                      refine ⟨.boolean, by rw [hkok.1]; decide +kernel, ?_, ?_, hkok.2, fun j' hj' => ⟨by rw [ri_wi_eq, if_neg hj'], rfl⟩, ?_, fun a ha' => ⟨fun b => ri_wi_ne ha' b, fun b => rfl⟩⟩
                      · show narrow .boolean (.int y) = .int y
                        rcases hy with rfl | rfl <;> decide
                      · show fits .boolean (.int y) = true
                        rcases hy with rfl | rfl <;> decide
                      · show Value.int _ = Value.int _
                        rw [ri_wi_eq, if_pos rfl]
                    · rw [decide_eq_false hy] at hw
                      cases hw
                  | 2, .long y, hw, hkok =>
                    cases hw
                    simp only [j_ri_kok, Bool.and_eq_true, decide_eq_true_eq] at hkok
                    refine ⟨.long, by rw [hkok.1]; decide +kernel, rfl, rfl, hkok.2, fun j' hj' => ⟨rfl, by rw [ri_wl_eq, if_neg hj']⟩, ?_, fun a ha' => ⟨fun b => rfl, fun b => ri_wl_ne ha' b⟩⟩
                    show Value.long _ = Value.long _
                    rw [ri_wl_eq, if_pos rfl]
                obtain ⟨ty, g1, g2, g3, g4, g5, g6, g7⟩ := key
                obtain ⟨t1, t2⟩ := ri_ty_ok hr1
                refine ⟨rfl, fun H locs ls hP hS hl => ?_⟩
                show W p l e R s m args below meth c H locs cells slots Q (F0 m pc ls (ri_cv ad fz v :: ri_cv ad fz (.ref k) :: r0.map (ri_cv ad fz)))
                rw [ri_cv_ne (j_ri_ne4000 hk)]
                refine va_put (D := D) (ci := ci2) (v := ri_cv ad fz v) (ty := ty) (C := r.1) (T := r.2.1) (N := r.2.2) (own := (ri_y t).cls) (ref := r.1) hx hb hts (ri_lays hr1) (ri_ty ci2) t1 t2 hown hEF.1 hP (j_ri_wld_D hI hA) hS k (by rw [j_ri_wld_get hk, j_ri_ent_obj hly]) (ri_cls_lt hr1) j hr3 (by rw [← hcn]; exact hts _ hr2) (fun z h9 => by rw [hr4] at h9; exact h9) g4 g1 g2 g3 (by rw [ri_fls_len]; omega) hd (fun H1 locs1 hP1 hD1 hS1 => ?_)
                rw [j_ri_wld_set (S' := S') (by rw [j_ri_ent_obj hly, ri_fls_set ad S S' k j g5 fl 0 j (by omega) hq2 g6]) (fun j' hj' => j_ri_ent_other (g7 j' hj').1 (g7 j' hj').2)] at hP1
                exact (kx rfl).2 H1 locs1 ls hP1 hS1 hl
          · cases hw1
      · cases hw
    · cases hr
  · cases hr
end TWO
-- 13.sound4
section THREE
variable {p : Program} {l : Launch} {e : Env} {R : Room} {s : State} {m : MethodId} {args : Array Value} {below : List Frame} {meth : Method} {c : Code} {cells slots : Nat} {Q : State → Prop}
variable {t : ri_MT} {mi : Nat} {D : va_G} {tys : List (ClassId × FieldType)} {ad : Nat → Nat} {cA : Nat → ClassId} {fz : Value} {E : ri_E} {A : Nat → Prop}
variable {pc pc' : Nat} {L : List (Option Value)} {st : List Value} {S : ri_H} {x : (ri_F × ri_H) ⊕ ((Bool × (ri_F × ri_H) × (ri_F × ri_H)) ⊕ ((Nat × List Value × ri_F × ri_H) ⊕ (Nat × Option Value × ri_H)))}
theorem j_ri_ent_arr {ad : Nat → Nat} {cA : Nat → ClassId} {S : ri_H} {k n : Nat} {ty : FieldType} (hl : ty ≠ .long) (h : j_ri_lay k = .inr (.inl (ty, n))) : j_ri_ent ad cA S k = .inl (cA k, n, .inl (S.1 k)) := by
  unfold j_ri_ent
  rw [h]
  cases ty <;> first | rfl | exact absurd rfl hl
theorem j_ri_ent_larr {ad : Nat → Nat} {cA : Nat → ClassId} {S : ri_H} {k n : Nat} (h : j_ri_lay k = .inr (.inl (.long, n))) : j_ri_ent ad cA S k = .inl (cA k, n, .inr (.inl (S.2 k))) := by
  unfold j_ri_ent
  rw [h]
theorem j_ri_ent_refs {ad : Nat → Nat} {cA : Nat → ClassId} {S : ri_H} {k : Nat} {C : String} {tg : List Nat} (h : j_ri_lay k = .inr (.inr (C, tg))) : j_ri_ent ad cA S k = .inl (cA k, tg.length, .inr (.inr (.inr (.inr (fun j => (ri_nth tg j).map ad))))) := by
  unfold j_ri_ent
  rw [h]
theorem j_ri_lay_inr {k : Nat} {y : (FieldType × Nat) ⊕ (String × List Nat)} (h : j_ri_lay k = .inr y) : k < j_ri_K ∧ j_ri_lyk (.inr y) = true := j_ri_lay_use h (fun _ z => by cases z)
theorem j_ri_gd_T {b : Bool} {mi : Nat} {Wf : Heap → List Loc → JFrame → Prop} {m : MethodId} {nL : Nat} {D : va_G} {ad : Nat → Nat} {cA : Nat → ClassId} {fz : Value} {A : Nat → Prop} {H0 : Heap} {f1 : ri_F} {S1 S0 : ri_H} (hmi : mi ≠ 1000000) (hm : f1.1 = mi) (k1 : b = true → f1.1 = mi → j_ri_T Wf m mi nL D ad cA fz A H0 f1 S1) (k2 : b = false → ((1000000, 0, [], []) : ri_F).1 ≠ 1000000 ∧ (((1000000, 0, [], []) : ri_F).1 = mi → j_ri_T Wf m mi nL D ad cA fz A H0 (1000000, 0, [], []) S0)) : b = true ∧ j_ri_T Wf m mi nL D ad cA fz A H0 f1 S1 := by
  cases b with
  | true => exact ⟨rfl, k1 rfl hm⟩
  | false => exact absurd rfl (k2 rfl).1
theorem j_rs_ial (cx : j_ri_Cx p s m args c t D tys ad fz E A) (ha : j_ri_Ad ad cA fz tys) (hmi : mi ≠ 1000000) (hd : decode (ri_b t) pc = .ok (.iaload, 1)) (hr : j_ri_ial E mi (pc + 1) L S st = some x) (kx : j_ri_Kx l R (ri_Wf p l e R s m args below meth c cells slots Q) m t mi D tys ad cA fz E A s.heap pc x) : j_ri_T (ri_Wf p l e R s m args below meth c cells slots Q) m mi (ri_ml0 t) D ad cA fz A s.heap (mi, pc, L, st) S := by
  obtain ⟨hx, hb, hml, hown, hts, hEF, hA⟩ := cx
  obtain ⟨hI, hz, hTy⟩ := ha
  unfold j_ri_ial at hr
  split at hr
  · rename_i i k r0
    have hS9 := hEF.2.2.2.2.2.2.2.2
    cases h3 : Nat.beq k 3000 with
    | true =>
      rw [h3] at hr
      cases hr
      have e := Nat.eq_of_beq_eq_true h3
      subst e
      obtain ⟨hin, kt⟩ := j_ri_gd_T hmi rfl kx.1 kx.2
      exact ⟨rfl, fun H locs ls hP hS hl => va_ti hx hb hS9 hS (ri_inb_use hin) rfl hd (kt.2 H locs ls hP hS hl)⟩
    | false =>
      rw [h3] at hr
      have hr : ri_rd .int mi (pc + 1) L r0 S k i (j_ri_lay k) = some x := hr
      unfold ri_rd at hr
      split at hr
      · rename_i ty n hly
        by_cases hty : ty = .int
        · subst hty
          cases hr
          obtain ⟨hk, -⟩ := j_ri_lay_inr hly
          obtain ⟨t0, ht0⟩ := (hTy k hk).1 _ _ hly
          obtain ⟨hin, kt⟩ := j_ri_gd_T hmi rfl kx.1 kx.2
          refine ⟨rfl, fun H locs ls hP hS hl => ?_⟩
          show W p l e R s m args below meth c H locs cells slots Q (F0 m pc ls (.int i :: ri_cv ad fz (.ref k) :: r0.map (ri_cv ad fz)))
          rw [ri_cv_ne (j_ri_ne4000 hk)]
          exact va_iald hx hb hEF.1 hP k t0 (by rw [j_ri_wld_get hk, j_ri_ent_arr (by decide) hly]) ht0 (ri_inb_use hin) hd (kt.2 H locs ls hP hS hl)
        · rw [decide_eq_false hty] at hr
          cases hr
      · cases hr
  · cases hr
theorem j_rs_bal (cx : j_ri_Cx p s m args c t D tys ad fz E A) (ha : j_ri_Ad ad cA fz tys) (hmi : mi ≠ 1000000) (hd : decode (ri_b t) pc = .ok (.baload, 1)) (hr : j_ri_bal mi (pc + 1) L S st = some x) (kx : j_ri_Kx l R (ri_Wf p l e R s m args below meth c cells slots Q) m t mi D tys ad cA fz E A s.heap pc x) : j_ri_T (ri_Wf p l e R s m args below meth c cells slots Q) m mi (ri_ml0 t) D ad cA fz A s.heap (mi, pc, L, st) S := by
  obtain ⟨hx, hb, hml, hown, hts, hEF, hA⟩ := cx
  obtain ⟨hI, hz, hTy⟩ := ha
  unfold j_ri_bal at hr
  split at hr
  · rename_i i k r0
    cases h1 : Nat.ble 1100 k with
    | true =>
      rw [h1] at hr
      cases h2 : Nat.ble k 1112 with
      | false => rw [h2] at hr; cases hr
      | true =>
        rw [h2] at hr
        cases hr
        have b1 := Nat.le_of_ble_eq_true h1
        have b2 := Nat.le_of_ble_eq_true h2
        obtain ⟨q, rfl⟩ := Nat.exists_eq_add_of_le b1
        have hq : q < 13 := Nat.lt_succ_of_le (Nat.le_of_add_le_add_left b2)
        obtain ⟨hin, kt⟩ := j_ri_gd_T hmi rfl kx.1 kx.2
        have hS7 := (hEF.2.2.2.2.2.2.1.1 q hq).2.2.2
        refine ⟨rfl, fun H locs ls hP hS hl => ?_⟩
        show W p l e R s m args below meth c H locs cells slots Q (F0 m pc ls (.int i :: ri_cv ad fz (.ref (1100 + q)) :: r0.map (ri_cv ad fz)))
        rw [ri_cv_ne (ri_k4 (by omega))]
        have e : 1100 + q - 1100 = q := Nat.add_sub_cancel_left _ _
        refine va_tb hx hb hS7 hS (i := i) ?_ rfl hd ?_
        · have hin := ri_inb_use hin
          rw [e] at hin
          exact hin
        · have kk := kt.2 H locs ls hP hS hl
          dsimp only at kk
          rw [e] at kk
          exact kk
    | false =>
      rw [h1] at hr
      have hr : ri_rd .boolean mi (pc + 1) L r0 S k i (j_ri_lay k) = some x := hr
      unfold ri_rd at hr
      split at hr
      · rename_i ty n hly
        by_cases hty : ty = .boolean
        · subst hty
          cases hr
          obtain ⟨hk, -⟩ := j_ri_lay_inr hly
          obtain ⟨t0, ht0⟩ := (hTy k hk).1 _ _ hly
          obtain ⟨hin, kt⟩ := j_ri_gd_T hmi rfl kx.1 kx.2
          refine ⟨rfl, fun H locs ls hP hS hl => ?_⟩
          show W p l e R s m args below meth c H locs cells slots Q (F0 m pc ls (.int i :: ri_cv ad fz (.ref k) :: r0.map (ri_cv ad fz)))
          rw [ri_cv_ne (j_ri_ne4000 hk)]
          exact va_zald hx hb hEF.1 hP k t0 (by rw [j_ri_wld_get hk, j_ri_ent_arr (by decide) hly]) ht0 (ri_inb_use hin) hd (kt.2 H locs ls hP hS hl)
        · rw [decide_eq_false hty] at hr
          cases hr
      · cases hr
  · cases hr
theorem j_rs_lal (cx : j_ri_Cx p s m args c t D tys ad fz E A) (ha : j_ri_Ad ad cA fz tys) (hmi : mi ≠ 1000000) (hd : decode (ri_b t) pc = .ok (.laload, 1)) (hr : j_ri_lal mi (pc + 1) L S st = some x) (kx : j_ri_Kx l R (ri_Wf p l e R s m args below meth c cells slots Q) m t mi D tys ad cA fz E A s.heap pc x) : j_ri_T (ri_Wf p l e R s m args below meth c cells slots Q) m mi (ri_ml0 t) D ad cA fz A s.heap (mi, pc, L, st) S := by
  obtain ⟨hx, hb, hml, hown, hts, hEF, hA⟩ := cx
  obtain ⟨hI, hz, hTy⟩ := ha
  unfold j_ri_lal at hr
  split at hr
  · rename_i i k r0
    unfold ri_lrd at hr
    split at hr
    · rename_i n hly
      cases hr
      obtain ⟨hk, -⟩ := j_ri_lay_inr hly
      obtain ⟨t0, ht0⟩ := (hTy k hk).1 _ _ hly
      obtain ⟨hin, kt⟩ := j_ri_gd_T hmi rfl kx.1 kx.2
      refine ⟨rfl, fun H locs ls hP hS hl => ?_⟩
      show W p l e R s m args below meth c H locs cells slots Q (F0 m pc ls (.int i :: ri_cv ad fz (.ref k) :: r0.map (ri_cv ad fz)))
      rw [ri_cv_ne (j_ri_ne4000 hk)]
      exact va_lald hx hb hEF.1 hP k t0 (by rw [j_ri_wld_get hk, j_ri_ent_larr hly]) ht0 (ri_inb_use hin) hd (kt.2 H locs ls hP hS hl)
    · cases hr
  · cases hr
theorem j_rs_aal (cx : j_ri_Cx p s m args c t D tys ad fz E A) (ha : j_ri_Ad ad cA fz tys) (hmi : mi ≠ 1000000) (hd : decode (ri_b t) pc = .ok (.aaload, 1)) (hr : j_ri_aal mi (pc + 1) L S st = some x) (kx : j_ri_Kx l R (ri_Wf p l e R s m args below meth c cells slots Q) m t mi D tys ad cA fz E A s.heap pc x) : j_ri_T (ri_Wf p l e R s m args below meth c cells slots Q) m mi (ri_ml0 t) D ad cA fz A s.heap (mi, pc, L, st) S := by
  obtain ⟨hx, hb, hml, hown, hts, hEF, hA⟩ := cx
  obtain ⟨hI, hz, hTy⟩ := ha
  unfold j_ri_aal at hr
  split at hr
  · rename_i i k r0
    split at hr
    · rename_i C tg hly
      cases hr
      obtain ⟨hk, hk2⟩ := j_ri_lay_inr hly
      obtain ⟨t0, ht0⟩ := (hTy k hk).2 _ _ hly
      obtain ⟨hin, kt⟩ := j_ri_gd_T hmi rfl kx.1 kx.2
      refine ⟨rfl, fun H locs ls hP hS hl => ?_⟩
      show W p l e R s m args below meth c H locs cells slots Q (F0 m pc ls (.int i :: ri_cv ad fz (.ref k) :: r0.map (ri_cv ad fz)))
      rw [ri_cv_ne (j_ri_ne4000 hk)]
      refine va_aldq hx hb hEF.1 hP k t0 (C := C) (by rw [j_ri_wld_get hk, j_ri_ent_refs hly]) ht0 (ri_inb_use hin) hd ?_
      have kk := kt.2 H locs ls hP hS hl
      have ee : ri_cv ad fz (ri_refn (ri_nth tg i.toNatClampNeg)) = va_rf ((ri_nth tg i.toNatClampNeg).map ad) := by
        cases hn : ri_nth tg i.toNatClampNeg with
        | none => rfl
        | some a =>
          have : a < j_ri_K := of_decide_eq_true (List.all_eq_true.mp hk2 a (ri_nth_mem hn))
          exact ri_cv_ne (j_ri_ne4000 this)
      have kk : W p l e R s m args below meth c H locs cells slots Q (F0 m (pc + 1) ls (ri_cv ad fz (ri_refn (ri_nth tg i.toNatClampNeg)) :: r0.map (ri_cv ad fz))) := kk
      rw [ee] at kk
      exact kk
    · cases hr
  · cases hr
theorem j_rs_ias (cx : j_ri_Cx p s m args c t D tys ad fz E A) (ha : j_ri_Ad ad cA fz tys) (hmi : mi ≠ 1000000) (hd : decode (ri_b t) pc = .ok (.iastore, 1)) (hr : j_ri_ias mi (pc + 1) L S st = some x) (kx : j_ri_Kx l R (ri_Wf p l e R s m args below meth c cells slots Q) m t mi D tys ad cA fz E A s.heap pc x) : j_ri_T (ri_Wf p l e R s m args below meth c cells slots Q) m mi (ri_ml0 t) D ad cA fz A s.heap (mi, pc, L, st) S := by
  obtain ⟨hx, hb, hml, hown, hts, hEF, hA⟩ := cx
  obtain ⟨hI, hz, hTy⟩ := ha
  unfold j_ri_ias at hr
  split at hr
  · rename_i v i k r0
    split at hr
    · rename_i n hly
      cases hr
      obtain ⟨hk, -⟩ := j_ri_lay_inr hly
      obtain ⟨t0, ht0⟩ := (hTy k hk).1 _ _ hly
      obtain ⟨hin, kt⟩ := j_ri_gd_T hmi rfl kx.1 kx.2
      refine ⟨rfl, fun H locs ls hP hS hl => ?_⟩
      show W p l e R s m args below meth c H locs cells slots Q (F0 m pc ls (.int v :: .int i :: ri_cv ad fz (.ref k) :: r0.map (ri_cv ad fz)))
      rw [ri_cv_ne (j_ri_ne4000 hk)]
      refine va_iast hx hb hEF.1 hP (j_ri_wld_D hI hA) hS k t0 (by rw [j_ri_wld_get hk, j_ri_ent_arr (by decide) hly]) ht0 (ri_inb_use hin) hd (fun H1 locs1 hP1 hD1 hS1 => ?_)
      rw [j_ri_wld_set (cA := cA) (S := S) (S' := ri_wi S k i.toNatClampNeg v) (by rw [j_ri_ent_arr (by decide) hly, ri_wi_upd]) (fun j' hj' => j_ri_ent_other (ri_wi_ne hj') (fun _ => rfl))] at hP1
      exact kt.2 H1 locs1 ls hP1 hS1 hl
    · cases hr
  · cases hr
theorem j_rs_bas (cx : j_ri_Cx p s m args c t D tys ad fz E A) (ha : j_ri_Ad ad cA fz tys) (hmi : mi ≠ 1000000) (hd : decode (ri_b t) pc = .ok (.bastore, 1)) (hr : j_ri_bas mi (pc + 1) L S st = some x) (kx : j_ri_Kx l R (ri_Wf p l e R s m args below meth c cells slots Q) m t mi D tys ad cA fz E A s.heap pc x) : j_ri_T (ri_Wf p l e R s m args below meth c cells slots Q) m mi (ri_ml0 t) D ad cA fz A s.heap (mi, pc, L, st) S := by
  obtain ⟨hx, hb, hml, hown, hts, hEF, hA⟩ := cx
  obtain ⟨hI, hz, hTy⟩ := ha
  unfold j_ri_bas at hr
  split at hr
  · rename_i v i k r0
    split at hr
    · rename_i n hly
      cases hr
      obtain ⟨hk, -⟩ := j_ri_lay_inr hly
      obtain ⟨t0, ht0⟩ := (hTy k hk).1 _ _ hly
      obtain ⟨hin, kt⟩ := j_ri_gd_T hmi rfl kx.1 kx.2
      refine ⟨rfl, fun H locs ls hP hS hl => ?_⟩
      show W p l e R s m args below meth c H locs cells slots Q (F0 m pc ls (.int v :: .int i :: ri_cv ad fz (.ref k) :: r0.map (ri_cv ad fz)))
      rw [ri_cv_ne (j_ri_ne4000 hk)]
      refine va_zast hx hb hEF.1 hP (j_ri_wld_D hI hA) hS k t0 (by rw [j_ri_wld_get hk, j_ri_ent_arr (by decide) hly]) ht0 (ri_inb_use hin) hd (fun H1 locs1 hP1 hD1 hS1 => ?_)
      rw [j_ri_wld_set (cA := cA) (S := S) (S' := ri_wi S k i.toNatClampNeg (vp_nar .boolean v)) (by rw [j_ri_ent_arr (by decide) hly, ri_wi_upd]) (fun j' hj' => j_ri_ent_other (ri_wi_ne hj') (fun _ => rfl))] at hP1
      exact kt.2 H1 locs1 ls hP1 hS1 hl
    · cases hr
  · cases hr
theorem j_rs_las (cx : j_ri_Cx p s m args c t D tys ad fz E A) (ha : j_ri_Ad ad cA fz tys) (hmi : mi ≠ 1000000) (hd : decode (ri_b t) pc = .ok (.lastore, 1)) (hr : j_ri_las mi (pc + 1) L S st = some x) (kx : j_ri_Kx l R (ri_Wf p l e R s m args below meth c cells slots Q) m t mi D tys ad cA fz E A s.heap pc x) : j_ri_T (ri_Wf p l e R s m args below meth c cells slots Q) m mi (ri_ml0 t) D ad cA fz A s.heap (mi, pc, L, st) S := by
  obtain ⟨hx, hb, hml, hown, hts, hEF, hA⟩ := cx
  obtain ⟨hI, hz, hTy⟩ := ha
  unfold j_ri_las at hr
  split at hr
  · rename_i v i k r0
    split at hr
    · rename_i n hly
      cases hr
      obtain ⟨hk, -⟩ := j_ri_lay_inr hly
      obtain ⟨t0, ht0⟩ := (hTy k hk).1 _ _ hly
      obtain ⟨hin, kt⟩ := j_ri_gd_T hmi rfl kx.1 kx.2
      refine ⟨rfl, fun H locs ls hP hS hl => ?_⟩
      show W p l e R s m args below meth c H locs cells slots Q (F0 m pc ls (.long v :: .int i :: ri_cv ad fz (.ref k) :: r0.map (ri_cv ad fz)))
      rw [ri_cv_ne (j_ri_ne4000 hk)]
      refine va_last hx hb hEF.1 hP (j_ri_wld_D hI hA) hS k t0 (by rw [j_ri_wld_get hk, j_ri_ent_larr hly]) ht0 (ri_inb_use hin) hd (fun H1 locs1 hP1 hD1 hS1 => ?_)
      rw [j_ri_wld_set (cA := cA) (S := S) (S' := ri_wl S k i.toNatClampNeg v) (by rw [j_ri_ent_larr hly, ri_wl_upd]) (fun j' hj' => j_ri_ent_other (fun _ => rfl) (ri_wl_ne hj'))] at hP1
      exact kt.2 H1 locs1 ls hP1 hS1 hl
    · cases hr
  · cases hr
theorem j_rs_alen (cx : j_ri_Cx p s m args c t D tys ad fz E A) (ha : j_ri_Ad ad cA fz tys) (hd : decode (ri_b t) pc = .ok (.arraylength, 1)) (hr : j_ri_alen E mi (pc + 1) L S st = some x) (kx : j_ri_Kx l R (ri_Wf p l e R s m args below meth c cells slots Q) m t mi D tys ad cA fz E A s.heap pc x) : j_ri_T (ri_Wf p l e R s m args below meth c cells slots Q) m mi (ri_ml0 t) D ad cA fz A s.heap (mi, pc, L, st) S := by
  obtain ⟨hx, hb, hml, hown, hts, hEF, hA⟩ := cx
  obtain ⟨hI, hz, hTy⟩ := ha
  unfold j_ri_alen at hr
  split at hr
  · rename_i k r0
    have hS9 := hEF.2.2.2.2.2.2.2.2
    split at hr
    · rename_i n hn
      cases hr
      refine ⟨rfl, fun H locs ls hP hS hl => ?_⟩
      have kk := (kx rfl).2 H locs ls hP hS hl
      show W p l e R s m args below meth c H locs cells slots Q (F0 m pc ls (ri_cv ad fz (.ref k) :: r0.map (ri_cv ad fz)))
      unfold j_ri_len at hn
      cases h3 : Nat.beq k 3000 with
      | true =>
        rw [h3] at hn
        cases hn
        have e := Nat.eq_of_beq_eq_true h3
        subst e
        exact va_tlen hx hb hS9 hS rfl hd kk
      | false =>
        rw [h3] at hn
        have hn2 : (match j_ri_lay k with
          | .inr (.inl (_, n)) => some n
          | .inr (.inr (_, tg)) => some tg.length
          | _ => none) = some n := hn
        split at hn2
        · rename_i ty n2 hly
          cases hn2
          obtain ⟨hk, -⟩ := j_ri_lay_inr hly
          obtain ⟨t0, ht0⟩ := (hTy k hk).1 _ _ hly
          rw [ri_cv_ne (j_ri_ne4000 hk)]
          by_cases hty : ty = .long
          · subst hty
            exact va_alen (x := (n, .inr (.inl (S.2 k)))) hx hb hEF.1 hP k t0 (by rw [j_ri_wld_get hk, j_ri_ent_larr hly]) ht0 rfl hd kk
          · exact va_alen (x := (n, .inl (S.1 k))) hx hb hEF.1 hP k t0 (by rw [j_ri_wld_get hk, j_ri_ent_arr hty hly]) ht0 rfl hd kk
        · rename_i C tg hly
          cases hn2
          obtain ⟨hk, -⟩ := j_ri_lay_inr hly
          obtain ⟨t0, ht0⟩ := (hTy k hk).2 _ _ hly
          rw [ri_cv_ne (j_ri_ne4000 hk)]
          exact va_alen (x := (tg.length, .inr (.inr (.inr (.inr (fun j => (ri_nth tg j).map ad)))))) hx hb hEF.1 hP k t0 (by rw [j_ri_wld_get hk, j_ri_ent_refs hly]) ht0 rfl hd kk
        · cases hn2
    · cases h1 : Nat.ble 1100 k with
      | false => rw [h1] at hr; cases hr
      | true =>
        rw [h1] at hr
        cases h2 : Nat.ble k 1112 with
        | false => rw [h2] at hr; cases hr
        | true =>
          rw [h2] at hr
          cases hr
          have b1 := Nat.le_of_ble_eq_true h1
          have b2 := Nat.le_of_ble_eq_true h2
          obtain ⟨q, rfl⟩ := Nat.exists_eq_add_of_le b1
          have hq : q < 13 := Nat.lt_succ_of_le (Nat.le_of_add_le_add_left b2)
          have hS7 := (hEF.2.2.2.2.2.2.1.1 q hq).2.2.2
          refine ⟨rfl, fun H locs ls hP hS hl => ?_⟩
          have kk := (kx rfl).2 H locs ls hP hS hl
          show W p l e R s m args below meth c H locs cells slots Q (F0 m pc ls (ri_cv ad fz (.ref (1100 + q)) :: r0.map (ri_cv ad fz)))
          rw [ri_cv_ne (ri_k4 (by omega))]
          have e : 1100 + q - 1100 = q := Nat.add_sub_cancel_left _ _
          dsimp only at kk
          rw [e] at kk
          exact va_tlen hx hb hS7 hS rfl hd kk
  · cases hr
theorem j_rs_gets (cx : j_ri_Cx p s m args c t D tys ad fz E A) (ha : j_ri_Ad ad cA fz tys) (ht : ri_mt mi = some t) {idx : Nat} (hd : decode (ri_b t) pc = .ok (.getstatic idx, 3)) (hr : ri_ld mi (pc + 3) L st S (ri_gs (ri_tab ri_sl (ri_mcl t) idx)) = some x) (kx : j_ri_Kx l R (ri_Wf p l e R s m args below meth c cells slots Q) m t mi D tys ad cA fz E A s.heap pc x) : j_ri_T (ri_Wf p l e R s m args below meth c cells slots Q) m mi (ri_ml0 t) D ad cA fz A s.heap (mi, pc, L, st) S := by
  obtain ⟨hx, hb, hml, hown, hts, hEF, hA⟩ := cx
  obtain ⟨hI, hz, hTy⟩ := ha
  have hcn := ri_cn_eq ht
  refine j_rs_ld hr kx (fun v H locs ls hv hP hS hl kk => ?_)
  unfold ri_gs at hv
  split at hv
  · rename_i p0 hq
    cases hv
    have h := ri_wat_in (ri_all2_use ri_slc_ok hq)
    exact va_gets hx hb (own := (ri_y t).cls) (ref := "java/lang/String") hEF.2.2.2.2.1 hS hown (by rw [← hcn]; exact hts _ h) (fun _ z => z) hd kk
  · rename_i p0 hq
    cases hv
    have h := ri_wat_in (ri_all2_use ri_slc_ok hq)
    exact va_gets hx hb (own := (ri_y t).cls) (ref := "jdk/internal/util/Preconditions") hEF.2.2.2.2.2.1 hS hown (by rw [← hcn]; exact hts _ h) (fun _ z => z) hd kk
  · cases hv
theorem j_rs_ldc (cx : j_ri_Cx p s m args c t D tys ad fz E A) (ha : j_ri_Ad ad cA fz tys) (ht : ri_mt mi = some t) {idx : Nat} (hd : decode (ri_b t) pc = .ok (.ldc idx, 2)) (hr : ri_cst mi (pc + 2) L st S (match ri_tab ri_cl (ri_mcl t) idx with
    | some (.long _, _) => none
    | q => q) = some x) (kx : j_ri_Kx l R (ri_Wf p l e R s m args below meth c cells slots Q) m t mi D tys ad cA fz E A s.heap pc x) : j_ri_T (ri_Wf p l e R s m args below meth c cells slots Q) m mi (ri_ml0 t) D ad cA fz A s.heap (mi, pc, L, st) S := by
  obtain ⟨hx, hb, hml, hown, hts, hEF, hA⟩ := cx
  obtain ⟨hI, hz, hTy⟩ := ha
  have hcn := ri_cn_eq ht
  cases hq : ri_tab ri_cl (ri_mcl t) idx with
  | none => rw [hq] at hr; cases hr
  | some q =>
    obtain ⟨v, p0⟩ := q
    rw [hq] at hr
    have h := ri_all2_use ri_clc_ok hq
    match v, hr, h with
    | .int v, hr, h =>
      cases hr
      exact ⟨rfl, fun H locs ls hP hS hl => lv_ldc hx hb (own := (ri_y t).cls) hown (by rw [← hcn]; exact hts _ (ri_wat_in h)) hd ((kx rfl).2 H locs ls hP hS hl)⟩
    | .ref k, hr, h =>
      cases hr
      simp only [ri_clc, Bool.and_eq_true, decide_eq_true_eq] at h
      obtain ⟨hk, h⟩ := h
      subst hk
      split at h
      · rename_i r hr1
        simp only [Bool.and_eq_true, decide_eq_true_eq] at h
        have hR := hEF.2.2.2.2.2.2.2.1 p0 r hr1
        obtain ⟨h1, h2⟩ := h
        have hp : p0 < 13 := by
          rw [ri_nth_eq] at hr1
          have := (List.getElem?_eq_some_iff.mp hr1).1
          exact this
        refine ⟨rfl, fun H locs ls hP hS hl => ?_⟩
        have kk : W p l e R s m args below meth c H locs cells slots Q (F0 m (pc + 2) ls (ri_cv ad fz (.ref (1000 + p0)) :: st.map (ri_cv ad fz))) := (kx rfl).2 H locs ls hP hS hl
        rw [ri_cv_ne (ri_k4 (by omega))] at kk
        refine va_ldcS hx hb (own := (ri_y t).cls) (index := idx) (tx := r.2.2) hown ?_ hd kk
        rw [← hcn, ← h1, ← h2]
        exact hR
      · cases h
    | .long v, hr, h => cases hr
    | .float _, hr, h => cases h
    | .double _, hr, h => cases h
    | .null, hr, h => cases h
    | .retAddr _, hr, h => cases h
theorem j_rs_ldcw (cx : j_ri_Cx p s m args c t D tys ad fz E A) (ha : j_ri_Ad ad cA fz tys) (ht : ri_mt mi = some t) {idx : Nat} (hd : decode (ri_b t) pc = .ok (.ldc_w idx, 3)) (hr : ri_cst mi (pc + 3) L st S (match ri_tab ri_cl (ri_mcl t) idx with
    | some (.int y, z) => some (.int y, z)
    | _ => none) = some x) (kx : j_ri_Kx l R (ri_Wf p l e R s m args below meth c cells slots Q) m t mi D tys ad cA fz E A s.heap pc x) : j_ri_T (ri_Wf p l e R s m args below meth c cells slots Q) m mi (ri_ml0 t) D ad cA fz A s.heap (mi, pc, L, st) S := by
  obtain ⟨hx, hb, hml, hown, hts, hEF, hA⟩ := cx
  obtain ⟨hI, hz, hTy⟩ := ha
  have hcn := ri_cn_eq ht
  cases hq : ri_tab ri_cl (ri_mcl t) idx with
  | none => rw [hq] at hr; cases hr
  | some q =>
    obtain ⟨v, p0⟩ := q
    rw [hq] at hr
    have h := ri_all2_use ri_clc_ok hq
    match v, hr, h with
    | .int v, hr, h =>
      cases hr
      exact ⟨rfl, fun H locs ls hP hS hl => lv_ldcw hx hb (own := (ri_y t).cls) hown (by rw [← hcn]; exact hts _ (ri_wat_in h)) hd ((kx rfl).2 H locs ls hP hS hl)⟩
    | .ref k, hr, h => cases hr
    | .long v, hr, h => cases hr
    | .float _, hr, h => cases h
    | .double _, hr, h => cases h
    | .null, hr, h => cases h
    | .retAddr _, hr, h => cases h
theorem j_rs_ldc2 (cx : j_ri_Cx p s m args c t D tys ad fz E A) (ha : j_ri_Ad ad cA fz tys) (ht : ri_mt mi = some t) {idx : Nat} (hd : decode (ri_b t) pc = .ok (.ldc2_w idx, 3)) (hr : ri_cst mi (pc + 3) L st S (match ri_tab ri_cl (ri_mcl t) idx with
    | some (.long y, z) => some (.long y, z)
    | _ => none) = some x) (kx : j_ri_Kx l R (ri_Wf p l e R s m args below meth c cells slots Q) m t mi D tys ad cA fz E A s.heap pc x) : j_ri_T (ri_Wf p l e R s m args below meth c cells slots Q) m mi (ri_ml0 t) D ad cA fz A s.heap (mi, pc, L, st) S := by
  obtain ⟨hx, hb, hml, hown, hts, hEF, hA⟩ := cx
  obtain ⟨hI, hz, hTy⟩ := ha
  have hcn := ri_cn_eq ht
  cases hq : ri_tab ri_cl (ri_mcl t) idx with
  | none => rw [hq] at hr; cases hr
  | some q =>
    obtain ⟨v, p0⟩ := q
    rw [hq] at hr
    have h := ri_all2_use ri_clc_ok hq
    match v, hr, h with
    | .long v, hr, h =>
      cases hr
      exact ⟨rfl, fun H locs ls hP hS hl => lv_ldc2 hx hb (own := (ri_y t).cls) hown (by rw [← hcn]; exact hts _ (ri_wat_in h)) hd ((kx rfl).2 H locs ls hP hS hl)⟩
    | .ref k, hr, h => cases hr
    | .int v, hr, h => cases hr
    | .float _, hr, h => cases h
    | .double _, hr, h => cases h
    | .null, hr, h => cases h
    | .retAddr _, hr, h => cases h
end THREE
-- 14.sound5
section FOUR
variable {p : Program} {l : Launch} {e : Env} {R : Room} {s : State} {m : MethodId} {args : Array Value} {below : List Frame} {meth : Method} {c : Code} {cells slots : Nat} {Q : State → Prop}
variable {t : ri_MT} {mi : Nat} {D : va_G} {tys : List (ClassId × FieldType)} {ad : Nat → Nat} {cA : Nat → ClassId} {fz : Value} {E : ri_E} {A : Nat → Prop}
variable {pc pc' : Nat} {L : List (Option Value)} {st : List Value} {S : ri_H} {x : (ri_F × ri_H) ⊕ ((Bool × (ri_F × ri_H) × (ri_F × ri_H)) ⊕ ((Nat × List Value × ri_F × ri_H) ⊕ (Nat × Option Value × ri_H)))}
theorem j_ri_callw {H : Heap} {locs : List Loc} {ls : Array Slot} {st0 rest : List Value} {a : Array Value} {v : Option Value} {S1 : ri_H} (hr : va_Run p l e R s m args below meth c H locs cells slots 0 0 (F0 m pc ls st0) rest (j_ri_Qc D ad cA fz v S1 a) (j_ri_Aw ad)) (hS : va_S A s.heap H locs) (hA : ∀ k, k < j_ri_K → A (ad k))
    (kk : ∀ (H1 : Heap) (locs1 : List Loc), va_P D ri_cls (j_ri_wld ad cA S1) H1 → va_S A s.heap H1 locs1 → W p l e R s m args below meth c H1 locs1 cells slots Q (F0 m (pc + 3) ls ((v.map (ri_cv ad fz)).toList ++ rest))) : W p l e R s m args below meth c H locs cells slots Q (F0 m pc ls st0) := by
  have hw : ∀ q, j_ri_Aw ad q → A q := fun q ⟨k, hk, e⟩ => e ▸ hA k hk
  intro T hT X
  obtain ⟨w, st₀, u, T', L', h0, X', hL, e1, e2, ⟨hv, hPn, hzz, hk⟩, stp⟩ := hr T hT X
  cases hv
  rw [h0] at hzz hk
  obtain ⟨t2, a1, b1⟩ := kk T'.heap (locs ++ L') (by rw [e1]; exact hPn)
    ⟨Nat.le_trans hS.1 (by rw [e1]; exact hzz), fun q h1 h2 => by rw [e1, hk q (Nat.lt_of_lt_of_le h1 hS.1) (fun z => h2 (hw q z))]; exact hS.2.1 q h1 h2, fun q hq => by
      rcases List.mem_append.mp hq with h | h
      · exact hS.2.2 q h
      · exact hw _ (hL q h)⟩ T' rfl X'
  exact ⟨t2, stp t2 a1, b1⟩
theorem j_ri_Pc_blind {As : List Value} {S1 : ri_H} : FrameBlind (j_ri_Pc D tys ad cA fz E As S1) := fun a U g mk h => ⟨h.1, h.2.1.calling g mk a, h.2.2⟩
theorem j_ri_pre {H : Heap} {locs : List Loc} {As : List Value} (hEF : ri_EF D tys ad fz E A s s.heap) (hA : ∀ k, k < j_ri_K → A (ad k)) (hS : va_S A s.heap H locs) (hP : va_P D ri_cls (j_ri_wld ad cA S) H) : ∀ U : State, U.heap = H → s.WarmedH U.vm → j_ri_Pc D tys ad cA fz E As S (As.map (ri_cv ad fz)).toArray U := by
  intro U hU hW
  refine ⟨rfl, hEF.to hS.2.1 hW hU (fun q ⟨k, hk, e⟩ => e ▸ hA k hk), by rw [hU]; exact hP⟩
theorem j_rs_ivs (cx : j_ri_Cx p s m args c t D tys ad fz E A) (ha : j_ri_Ad ad cA fz tys) (ht : ri_mt mi = some t) (hmi : mi ≠ 1000000) (hcs : cells ≤ R.cells ∧ slots ≤ R.slots) (hR : 1 ≤ R.frames ∧ 64 ≤ R.locals) {idx : Nat} (hd : decode (ri_b t) pc = .ok (.invokestatic idx, 3)) (hr : ri_ivs mi (pc + 3) L st S (ri_tab ri_ml (ri_mcl t) idx) = some x) (kx : j_ri_Kx l R (ri_Wf p l e R s m args below meth c cells slots Q) m t mi D tys ad cA fz E A s.heap pc x) : j_ri_T (ri_Wf p l e R s m args below meth c cells slots Q) m mi (ri_ml0 t) D ad cA fz A s.heap (mi, pc, L, st) S := by
  obtain ⟨hx, hb, hml, hown, hts, hEF, hA⟩ := cx
  obtain ⟨hI, hz, hTy⟩ := ha
  have hcn := ri_cn_eq ht
  obtain ⟨cl0, hcl0⟩ : ∃ z, z = ri_mcl t := ⟨_, rfl⟩
  rw [← hcl0] at hcn hr
  have hstat : ∀ (j p0 : Nat), (∀ u, ri_mt j = some u → ri_flag u = 0 → ∀ d : Nat, d + 2 ≤ R.frames → 64 * (d + 2) ≤ R.locals → ∀ (v : Option Value) (S1 : ri_H) (As r : List Value), As.length = ri_nargs u → st = As.reverse ++ r → ri_cats r ≤ 8 → Met l (ri_y u) (ri_wsm u) (ri_rm d) (j_ri_Pc D tys ad cA fz E As S) (j_ri_Qc D ad cA fz v S1) 0 0 (j_ri_Aw ad) → ∀ (H : Heap) (locs : List Loc) (ls : Array Slot), va_P D ri_cls (j_ri_wld ad cA S) H → va_S A s.heap H locs → ls.size = ri_ml0 t → va_Run p l e R s m args below meth c H locs cells slots 0 0 (F0 m pc ls (st.map (ri_cv ad fz))) (r.map (ri_cv ad fz)) (j_ri_Qc D ad cA fz v S1 (As.map (ri_cv ad fz)).toArray) (j_ri_Aw ad)) → ri_cls1 j mi (pc + 3) L st S (ri_mt j) = some x → j_ri_T (ri_Wf p l e R s m args below meth c cells slots Q) m mi (ri_ml0 t) D ad cA fz A s.heap (mi, pc, L, st) S := by
    intro j p0 run hr
    cases hu : ri_mt j with
    | none => rw [hu] at hr; cases hr
    | some u =>
      rw [hu] at hr
      unfold ri_cls1 at hr
      dsimp only at hr
      cases hf : Nat.beq (ri_flag u) 0 with
      | false => rw [hf] at hr; cases hr
      | true =>
        rw [hf] at hr
        have hf0 := Nat.eq_of_beq_eq_true hf
        have hr : ri_cls2 j mi (pc + 3) L S (ri_take (ri_nargs u) [] st) = some x := hr
        unfold ri_cls2 at hr
        split at hr
        · rename_i As r hta
          obtain ⟨fr, e1, e2, e3⟩ := ri_take_spec _ _ _ _ _ hta
          rw [List.append_nil] at e3
          unfold ri_mkc at hr
          cases hc : Nat.ble (ri_cats r) 8 with
          | false => rw [hc] at hr; cases hr
          | true =>
            rw [hc] at hr
            cases hr
            obtain ⟨d, v, S1, k1, k2, k4, k5⟩ := kx u hu (by rw [hf0]; decide)
            dsimp only at k4 k5
            refine ⟨rfl, fun H locs ls hP hS hl => ?_⟩
            refine j_ri_callw (run u hu hf0 d k1 k2 v S1 As r (by rw [e3, List.length_reverse, e2]) (by rw [e3, List.reverse_reverse]; exact e1) (Nat.le_of_ble_eq_true hc) k4 H locs ls hP hS hl.1) hS hA (fun H1 locs1 hP1 hS1 => ?_)
            cases v with
            | none => exact (k5 rfl).2 H1 locs1 ls hP1 hS1 hl
            | some v => exact (k5 rfl).2 H1 locs1 ls hP1 hS1 hl
        · cases hr
  have hWr : ∀ (ls : Array Slot) (r0 r : List Value), ri_cats r ≤ 8 → 2 * (F0 m pc ls r0).monitorRoom + ((r.map (ri_cv ad fz)).map fun v => v.category).sum ≤ 8 := by
    intro ls r0 r h
    rw [ri_cats_eq hz]
    show 2 * 0 + _ ≤ 8
    omega
  unfold ri_ivs at hr
  split at hr
  · rename_i j p0 hq
    have hl := ri_all2_use ri_mlc_ok hq
    refine hstat j p0 (fun u hu hf0 d k1 k2 v S1 As r a1 a2 a3 hM H locs ls hP hS hsz => ?_) hr
    have hlk : (Cond.methodLink (ri_cn cl0) idx (ri_y u)) ∈ lw_all := by
      have hl2 : (match ri_mt j with
        | some t => ri_wat p0 (.methodLink (ri_cn cl0) idx (ri_y t))
        | none => false) = true := hl
      rw [hu] at hl2
      exact ri_wat_in hl2
    obtain ⟨w1, w2⟩ := ri_wf0 hu hf0
    exact va_runS (As := As.map (ri_cv ad fz)) ⟨hx, hb, hml, hown, hts⟩ hM ⟨ri_callB hu (by rw [hf0]; decide) w1 hts k1 k2 (by rw [← hcn]; exact hts _ hlk), hts _ w2⟩ ⟨j_ri_Pc_blind, j_ri_pre hEF hA hS hP⟩ rfl (by rw [List.length_map]; exact a1) hsz (by show st.map _ = _; rw [a2]; simp) (hWr _ _ _ a3) hd ⟨hcs.1, hcs.2⟩
  · rename_i j p0 hq
    have hl := ri_all2_use ri_mlc_ok hq
    refine hstat j p0 (fun u hu hf0 d k1 k2 v S1 As r a1 a2 a3 hM H locs ls hP hS hsz => ?_) hr
    have hlk : ri_nth ri_nest p0 = some (.methodLinkNest (ri_cn cl0) idx (ri_y u) "RoadsNotGoneBy") := by
      have hl2 : (match ri_mt j with
        | some t => decide (ri_nth ri_nest p0 = some (.methodLinkNest (ri_cn cl0) idx (ri_y t) "RoadsNotGoneBy"))
        | none => false) = true := hl
      rw [hu] at hl2
      exact of_decide_eq_true hl2
    obtain ⟨w1, w2⟩ := ri_wf0 hu hf0
    obtain ⟨g1, g2, g3, g4, g5⟩ := ri_nf hu
    have hf2 : ri_flag u ≠ 2 := by rw [hf0]; decide
    refine va_runSN (host := "RoadsNotGoneBy") (As := As.map (ri_cv ad fz)) ⟨hx, hb, hml, hown, hts⟩ hM ⟨⟨⟨rfl, rfl, k1, ?_, pay_in hts (ri_goodIn hu hf2), List.mem_cons_self⟩, hts _ (ri_code_in hu hf2), hts _ w1, g1, g3 hf2, ?_⟩, hts _ w2, trivial⟩ ⟨j_ri_Pc_blind, j_ri_pre hEF hA hS hP⟩ rfl (by rw [List.length_map]; exact a1) hsz (by show st.map _ = _; rw [a2]; simp) (hWr _ _ _ a3) hd ⟨hcs.1, hcs.2⟩
    · show 8 + (ri_ml0 u + 11) + 64 * (d + 1) ≤ R.locals
      omega
    · rw [← hcn]
      exact va_Nw.use rfl (hEF.2.1 p0 _ hlk)
  · rename_i j p0 hq
    obtain ⟨b1, b2, b3⟩ := ri_max_ws
    have hl := ri_wat_in (ri_all2_use ri_mlc_ok hq)
    unfold ri_mm at hr
    split at hr
    · rename_i y2 y1 r
      cases hc : Nat.ble (ri_cats r) 8 with
      | false => rw [hc] at hr; cases hr
      | true =>
        rw [hc] at hr
        cases hr
        refine ⟨rfl, fun H locs ls hP hS hls => ?_⟩
        exact va_mmax hx hb (by rw [hml, hls.1]) (own := (ri_y t).cls) hown (by rw [← hcn]; exact hts _ hl) (hts _ (ri_wat_in b1)) (hts _ (ri_wat_in b3)) (hts _ ri_max_c) hR.1 (by rw [ri_cats_eq hz]; have := Nat.le_of_ble_eq_true hc; omega) hcs.1 hcs.2 hd ((kx rfl).2 H locs ls hP hS hls)
    · cases hr
  · rename_i j p0 hq
    obtain ⟨b1, b2, b3⟩ := ri_max_ws
    have hl := ri_wat_in (ri_all2_use ri_mlc_ok hq)
    unfold ri_mm at hr
    split at hr
    · rename_i y2 y1 r
      cases hc : Nat.ble (ri_cats r) 8 with
      | false => rw [hc] at hr; cases hr
      | true =>
        rw [hc] at hr
        cases hr
        refine ⟨rfl, fun H locs ls hP hS hls => ?_⟩
        exact va_mmin hx hb (by rw [hml, hls.1]) (own := (ri_y t).cls) hown (by rw [← hcn]; exact hts _ hl) (hts _ (ri_wat_in b2)) (hts _ (ri_wat_in b3)) (hts _ ri_min_c) hR.1 (by rw [ri_cats_eq hz]; have := Nat.le_of_ble_eq_true hc; omega) hcs.1 hcs.2 hd ((kx rfl).2 H locs ls hP hS hls)
    · cases hr
  · cases hr
theorem j_rs_ivv (cx : j_ri_Cx p s m args c t D tys ad fz E A) (ha : j_ri_Ad ad cA fz tys) (ht : ri_mt mi = some t) (hcs : cells ≤ R.cells ∧ slots ≤ R.slots) {idx : Nat} (hd : decode (ri_b t) pc = .ok (.invokevirtual idx, 3)) (hr : j_ri_ivv mi (pc + 3) L st S (ri_tab ri_ml (ri_mcl t) idx) = some x) (kx : j_ri_Kx l R (ri_Wf p l e R s m args below meth c cells slots Q) m t mi D tys ad cA fz E A s.heap pc x) : j_ri_T (ri_Wf p l e R s m args below meth c cells slots Q) m mi (ri_ml0 t) D ad cA fz A s.heap (mi, pc, L, st) S := by
  obtain ⟨hx, hb, hml, hown, hts, hEF, hA⟩ := cx
  obtain ⟨hI, hz, hTy⟩ := ha
  have hcn := ri_cn_eq ht
  obtain ⟨cl0, hcl0⟩ : ∃ z, z = ri_mcl t := ⟨_, rfl⟩
  rw [← hcl0] at hcn hr
  unfold j_ri_ivv at hr
  split at hr
  · rename_i j p0 hq
    have hl := ri_all2_use ri_mlc_ok hq
    cases hu : ri_mt j with
    | none => rw [hu] at hr; cases hr
    | some u =>
      rw [hu] at hr
      unfold j_ri_clv1 at hr
      dsimp only at hr
      cases hf : Nat.beq (ri_flag u) 1 with
      | false => rw [hf] at hr; cases hr
      | true =>
        rw [hf] at hr
        have hf1 := Nat.eq_of_beq_eq_true hf
        have hr : j_ri_clv2 j (ri_mcl u) mi (pc + 3) L S (ri_take (ri_nargs u + 1) [] st) = some x := hr
        unfold j_ri_clv2 at hr
        split at hr
        · rename_i k As r hta
          obtain ⟨fr, e1, e2, e3⟩ := ri_take_spec _ _ _ _ _ hta
          rw [List.append_nil] at e3
          cases hk : Nat.beq (j_ri_rcv k) (ri_mcl u) with
          | false => rw [hk] at hr; cases hr
          | true =>
            rw [hk] at hr
            have hk := Nat.eq_of_beq_eq_true hk
            have hr : ri_mkc j (.ref k :: As) mi (pc + 3) L r S = some x := hr
            unfold ri_mkc at hr
            cases hc : Nat.ble (ri_cats r) 8 with
            | false => rw [hc] at hr; cases hr
            | true =>
              rw [hc] at hr
              cases hr
              have hc := Nat.le_of_ble_eq_true hc
              obtain ⟨d, v, S1, k1, k2, k4, k5⟩ := kx u hu (by rw [hf1]; decide)
              dsimp only at k4 k5
              have hlk : (Cond.methodLink (ri_cn cl0) idx (ri_y u)) ∈ lw_all := by
                have hl2 : (match ri_mt j with
                  | some t => ri_wat p0 (.methodLink (ri_cn cl0) idx (ri_y t))
                  | none => false) = true := hl
                rw [hu] at hl2
                exact ri_wat_in hl2
              obtain ⟨w1, w2, w3⟩ := ri_wf1 hu hf1
              obtain ⟨g1, g2, g3, g4, g5⟩ := ri_nf hu
              have hf2 : ri_flag u ≠ 2 := by rw [hf1]; decide
              have hfr : fr = As.reverse ++ [.ref k] := by
                have := congrArg List.reverse e3
                rw [List.reverse_reverse] at this
                rw [← this]
                simp
              have hlen : As.length = ri_nargs u := by
                rw [hfr] at e2
                simp at e2
                exact e2
              refine ⟨rfl, fun H locs ls hP hS hls => ?_⟩
              have hrcv : Nat.beq k 4000 = false ∧ ∃ cellB : Cell, H[ad k]? = some cellB ∧ cellB.vm.isStatics = false ∧ s.vm.findClass (ri_y u).cls = some cellB.cls := by
                unfold j_ri_rcv at hk
                cases h1 : Nat.ble 1000 k with
                | true =>
                  rw [h1] at hk
                  cases h2 : Nat.ble k 1012 with
                  | true =>
                    rw [h2] at hk
                    have hk7 : 7 = ri_mcl u := hk
                    rw [← hk7] at g4
                    have b1 := Nat.le_of_ble_eq_true h1
                    have b2 := Nat.le_of_ble_eq_true h2
                    obtain ⟨i, rfl⟩ := Nat.exists_eq_add_of_le b1
                    have hi : i < 13 := Nat.lt_succ_of_le (Nat.le_of_add_le_add_left b2)
                    refine ⟨ri_k4 (by omega), ?_⟩
                    have e7 : ri_nth ri_own 7 = some "java/lang/String" := by decide +kernel
                    rw [e7] at g4
                    have e8 := Option.some.inj g4
                    rw [← e8]
                    exact vk_recv (adK := fun i => ad (1000 + i)) hEF.2.2.2.2.2.2.1 hi hS
                  | false =>
                    rw [h2] at hk
                    have hk7 : 998 = ri_mcl u := hk
                    rw [← hk7, show ri_nth ri_own 998 = none by decide +kernel] at g4
                    cases g4
                | false =>
                  rw [h1] at hk
                  have hk2 : (match j_ri_lay k with
                    | .inl (ci, _) => ci
                    | _ => 998) = ri_mcl u := hk
                  split at hk2
                  · rename_i ci fl hly
                    subst hk2
                    have hne : ri_nth ri_cls (ri_mcl u) ≠ none := by
                      intro z
                      by_cases h999 : ri_mcl u = 999
                      · rw [h999, show ri_nth ri_own 999 = none by decide +kernel] at g4
                        cases g4
                      · have := (j_ri_lay_use hly (fun l z2 => by
                          exact h999 (congrArg (fun q : ri_LK => match q with
                            | .inl q => q.1
                            | _ => 0) z2))).2
                        unfold j_ri_lyk at this
                        dsimp only at this
                        rw [z] at this
                        cases this
                    obtain ⟨hkK, r1, hr1, -, -⟩ := j_ri_lay_obj hly hne
                    refine ⟨j_ri_ne4000 hkK, ?_⟩
                    have := ri_own_of hr1
                    rw [this] at g4
                    rw [← Option.some.inj g4]
                    exact va_recv hEF.1 hP (ri_cls_lt hr1) (by rw [j_ri_wld_get hkK, j_ri_ent_obj hly])
                  · rw [← hk2, show ri_nth ri_own 998 = none by decide +kernel] at g4
                    cases g4
              obtain ⟨hk4, hcell⟩ := hrcv
              have est : st.map (ri_cv ad fz) = (As.map (ri_cv ad fz)).reverse ++ .ref (ad k) :: r.map (ri_cv ad fz) := by
                rw [e1, hfr, ← ri_cv_ne (ad := ad) (fz := fz) hk4]
                simp
              have epre := j_ri_pre (D := D) (cA := cA) (S := S) (As := .ref k :: As) hEF hA hS hP
              rw [List.map_cons, ri_cv_ne hk4] at epre
              have hM := k4
              refine j_ri_callw (rest := r.map (ri_cv ad fz)) (va_runV (C := (ri_y u).cls) (b := ad k) (As := As.map (ri_cv ad fz)) ⟨hx, hb, hml, hown, hts⟩ hM ⟨ri_callB hu hf2 w1 hts k1 k2 (by rw [← hcn]; exact hts _ hlk), hts _ w2, hts _ w3⟩ ⟨j_ri_Pc_blind, hcell, epre⟩ rfl (by rw [List.length_map]; exact hlen) hls.1 est (by rw [ri_cats_eq hz]; show 2 * 0 + _ ≤ 8; omega) hd ⟨hcs.1, hcs.2⟩) hS hA (fun H1 locs1 hP1 hS1 => ?_)
              cases v with
              | none => exact (k5 rfl).2 H1 locs1 ls hP1 hS1 hls
              | some v => exact (k5 rfl).2 H1 locs1 ls hP1 hS1 hls
        · cases hr
  · cases hr
theorem j_rs_iret (hd : decode (ri_b t) pc = .ok (.ireturn, 1)) (hr : ri_iret mi S st = some x) (kx : j_ri_Kx l R (ri_Wf p l e R s m args below meth c cells slots Q) m t mi D tys ad cA fz E A s.heap pc x) : j_ri_T (ri_Wf p l e R s m args below meth c cells slots Q) m mi (ri_ml0 t) D ad cA fz A s.heap (mi, pc, L, st) S := by
  unfold ri_iret at hr
  split at hr
  · cases hr
    exact ⟨rfl, fun H locs ls hP hS hl => kx rfl H locs ls hP hS hd⟩
  · cases hr
theorem j_rs_lret (hd : decode (ri_b t) pc = .ok (.lreturn, 1)) (hr : ri_lret mi S st = some x) (kx : j_ri_Kx l R (ri_Wf p l e R s m args below meth c cells slots Q) m t mi D tys ad cA fz E A s.heap pc x) : j_ri_T (ri_Wf p l e R s m args below meth c cells slots Q) m mi (ri_ml0 t) D ad cA fz A s.heap (mi, pc, L, st) S := by
  unfold ri_lret at hr
  split at hr
  · cases hr
    exact ⟨rfl, fun H locs ls hP hS hl => kx rfl H locs ls hP hS hd⟩
  · cases hr
theorem j_rs_vret (hd : decode (ri_b t) pc = .ok (.return_, 1)) (hr : ri_vret mi S st = some x) (kx : j_ri_Kx l R (ri_Wf p l e R s m args below meth c cells slots Q) m t mi D tys ad cA fz E A s.heap pc x) : j_ri_T (ri_Wf p l e R s m args below meth c cells slots Q) m mi (ri_ml0 t) D ad cA fz A s.heap (mi, pc, L, st) S := by
  unfold ri_vret at hr
  split at hr
  · cases hr
    exact ⟨rfl, fun H locs ls hP hS hl => kx rfl H locs ls hP hS hd⟩
  · cases hr
theorem j_rs_aret (hd : decode (ri_b t) pc = .ok (.areturn, 1)) (hr : ri_aret mi S st = some x) (kx : j_ri_Kx l R (ri_Wf p l e R s m args below meth c cells slots Q) m t mi D tys ad cA fz E A s.heap pc x) : j_ri_T (ri_Wf p l e R s m args below meth c cells slots Q) m mi (ri_ml0 t) D ad cA fz A s.heap (mi, pc, L, st) S := by
  unfold ri_aret at hr
  split at hr
  · rename_i k
    cases hk : Nat.beq k 4000 with
    | true => rw [hk] at hr; cases hr
    | false =>
      rw [hk] at hr
      cases hr
      exact ⟨rfl, fun H locs ls hP hS hl => kx rfl H locs ls hP hS ⟨hd, hk⟩⟩
  · cases hr
    exact ⟨rfl, fun H locs ls hP hS hl => kx rfl H locs ls hP hS hd⟩
  · cases hr
end FOUR
-- 15.sound6
section FIVE
variable {p : Program} {l : Launch} {e : Env} {R : Room} {s : State} {m : MethodId} {args : Array Value} {below : List Frame} {meth : Method} {c : Code} {cells slots : Nat} {Q : State → Prop}
variable {t : ri_MT} {mi : Nat} {D : va_G} {tys : List (ClassId × FieldType)} {ad : Nat → Nat} {cA : Nat → ClassId} {fz : Value} {E : ri_E} {A : Nat → Prop}
variable {pc pc' : Nat} {L : List (Option Value)} {st : List Value} {S : ri_H} {x : (ri_F × ri_H) ⊕ ((Bool × (ri_F × ri_H) × (ri_F × ri_H)) ⊕ ((Nat × List Value × ri_F × ri_H) ⊕ (Nat × Option Value × ri_H)))}
theorem j_rs_nx {pc' : Nat} {st' : List Value} (hr : ri_nx mi pc' L st' S = some x) (kx : j_ri_Kx l R (ri_Wf p l e R s m args below meth c cells slots Q) m t mi D tys ad cA fz E A s.heap pc x) (row : ∀ (H : Heap) (locs : List Loc) (ls : Array Slot), ri_lr ad fz ls (ri_ml0 t) L → W p l e R s m args below meth c H locs cells slots Q (F0 m pc' ls (st'.map (ri_cv ad fz))) → W p l e R s m args below meth c H locs cells slots Q (F0 m pc ls (st.map (ri_cv ad fz)))) : j_ri_T (ri_Wf p l e R s m args below meth c cells slots Q) m mi (ri_ml0 t) D ad cA fz A s.heap (mi, pc, L, st) S := by
  cases hr
  exact ⟨rfl, fun H locs ls hP hS hl => row H locs ls hl ((kx rfl).2 H locs ls hP hS hl)⟩
set_option maxHeartbeats 4000000 in
theorem j_rs_ex (cx : j_ri_Cx p s m args c t D tys ad fz E A) (ha : j_ri_Ad ad cA fz tys) (ht : ri_mt mi = some t) (hmi : mi ≠ 1000000) (hcs : cells ≤ R.cells ∧ slots ≤ R.slots) (hR : 1 ≤ R.frames ∧ 64 ≤ R.locals) {ln : Nat} {v : Value} {i : Instr} (hd : decode (ri_b t) pc = .ok (i, ln)) (hc : ri_cok i ln v pc (ri_ml0 t) = true) (hr : j_ri_ex E (ri_mcl t) mi pc ln v L st S i = some x) (kx : j_ri_Kx l R (ri_Wf p l e R s m args below meth c cells slots Q) m t mi D tys ad cA fz E A s.heap pc x) : j_ri_T (ri_Wf p l e R s m args below meth c cells slots Q) m mi (ri_ml0 t) D ad cA fz A s.heap (mi, pc, L, st) S := by
  have cx0 := cx
  have ha0 := ha
  obtain ⟨hx, hb, hml, hown, hts, hEF, hA⟩ := cx
  obtain ⟨hI, hz, hTy⟩ := ha
  cases i with
  | aconst_null =>
    obtain rfl : ln = 1 := of_decide_eq_true hc
    exact j_rs_nx hr kx (fun H locs ls hl k => lv_null hx hb hd k)
  | iconst n =>
    simp only [ri_cok, Bool.and_eq_true, decide_eq_true_eq] at hc
    obtain ⟨rfl, rfl⟩ := hc
    exact j_rs_nx hr kx (fun H locs ls hl k => lv_iconst hx hb hd rfl k)
  | bipush n =>
    simp only [ri_cok, Bool.and_eq_true, decide_eq_true_eq] at hc
    obtain ⟨rfl, rfl⟩ := hc
    exact j_rs_nx hr kx (fun H locs ls hl k => lv_bipush hx hb hd rfl k)
  | sipush n =>
    simp only [ri_cok, Bool.and_eq_true, decide_eq_true_eq] at hc
    obtain ⟨rfl, rfl⟩ := hc
    exact j_rs_nx hr kx (fun H locs ls hl k => lv_sipush hx hb hd rfl k)
  | lconst n =>
    obtain rfl : ln = 1 := of_decide_eq_true hc
    exact j_rs_nx hr kx (fun H locs ls hl k => lv_lconst hx hb hd rfl k)
  | iload i =>
    obtain rfl : ln = 2 := of_decide_eq_true hc
    refine j_rs_ld hr kx (fun w H locs ls hw hP hS hl k => ?_)
    unfold ri_ildv at hw
    split at hw
    · rename_i y hg
      cases hw
      exact lv_iload hx hb hd (hl.2.2.2 _ _ hg) k
    · cases hw
  | iload_n i =>
    obtain rfl : ln = 1 := of_decide_eq_true hc
    refine j_rs_ld hr kx (fun w H locs ls hw hP hS hl k => ?_)
    unfold ri_ildv at hw
    split at hw
    · rename_i y hg
      cases hw
      exact lv_iload_n hx hb hd rfl (hl.2.2.2 _ _ hg) k
    · cases hw
  | lload i =>
    obtain rfl : ln = 2 := of_decide_eq_true hc
    refine j_rs_ld hr kx (fun w H locs ls hw hP hS hl k => ?_)
    unfold ri_lldv at hw
    split at hw
    · rename_i y hg
      cases hw
      exact lv_lload hx hb hd (hl.2.2.2 _ _ hg) k
    · cases hw
  | lload_n i =>
    obtain rfl : ln = 1 := of_decide_eq_true hc
    refine j_rs_ld hr kx (fun w H locs ls hw hP hS hl k => ?_)
    unfold ri_lldv at hw
    split at hw
    · rename_i y hg
      cases hw
      exact lv_lload_n hx hb hd rfl (hl.2.2.2 _ _ hg) k
    · cases hw
  | aload i =>
    obtain rfl : ln = 2 := of_decide_eq_true hc
    refine j_rs_ld hr kx (fun w H locs ls hw hP hS hl k => ?_)
    unfold ri_aldv at hw
    split at hw
    · rename_i q hg
      cases hk : Nat.beq q 4000 with
      | true => rw [hk] at hw; cases hw
      | false =>
        rw [hk] at hw
        cases hw
        rw [ri_cv_ne hk] at k
        exact lv_aload hx hb hd (by rw [hl.2.2.2 _ _ hg, ri_cv_ne hk]) k
    · rename_i hg
      cases hw
      exact lv_aloadN hx hb hd (hl.2.2.2 _ _ hg) k
    · cases hw
  | aload_n i =>
    obtain rfl : ln = 1 := of_decide_eq_true hc
    refine j_rs_ld hr kx (fun w H locs ls hw hP hS hl k => ?_)
    unfold ri_aldv at hw
    split at hw
    · rename_i q hg
      cases hk : Nat.beq q 4000 with
      | true => rw [hk] at hw; cases hw
      | false =>
        rw [hk] at hw
        cases hw
        rw [ri_cv_ne hk] at k
        exact lv_aload_n hx hb hd rfl (by rw [hl.2.2.2 _ _ hg, ri_cv_ne hk]) k
    · rename_i hg
      cases hw
      exact lv_aload_nN hx hb hd rfl (hl.2.2.2 _ _ hg) k
    · cases hw
  | istore i =>
    simp only [ri_cok, Bool.and_eq_true, decide_eq_true_eq] at hc
    obtain ⟨rfl, hlt⟩ := hc
    exact j_rs_ist hz hr kx (fun y rest H locs ls h k => lv_istore hx hb hd h hlt rfl k)
  | istore_n i =>
    simp only [ri_cok, Bool.and_eq_true, decide_eq_true_eq] at hc
    obtain ⟨rfl, hlt⟩ := hc
    exact j_rs_ist hz hr kx (fun y rest H locs ls h k => lv_istore_n hx hb hd rfl h hlt rfl k)
  | lstore i =>
    simp only [ri_cok, Bool.and_eq_true, decide_eq_true_eq] at hc
    obtain ⟨rfl, hlt⟩ := hc
    exact j_rs_lst hz hr kx (fun y rest H locs ls h k => lv_lstore hx hb hd h hlt rfl k)
  | lstore_n i =>
    simp only [ri_cok, Bool.and_eq_true, decide_eq_true_eq] at hc
    obtain ⟨rfl, hlt⟩ := hc
    exact j_rs_lst hz hr kx (fun y rest H locs ls h k => lv_lstore_n hx hb hd rfl h hlt rfl k)
  | astore i =>
    simp only [ri_cok, Bool.and_eq_true, decide_eq_true_eq] at hc
    obtain ⟨rfl, hlt⟩ := hc
    exact j_rs_ast hz hr kx (fun a rest H locs ls h k => lv_astore hx hb hd h hlt rfl k) (fun rest H locs ls h k => lv_astoreN hx hb hd h hlt rfl k)
  | astore_n i =>
    simp only [ri_cok, Bool.and_eq_true, decide_eq_true_eq] at hc
    obtain ⟨rfl, hlt⟩ := hc
    exact j_rs_ast hz hr kx (fun a rest H locs ls h k => lv_astore_n hx hb hd rfl h hlt rfl k) (fun rest H locs ls h k => lv_astore_nN hx hb hd rfl h hlt rfl k)
  | iinc i n =>
    simp only [ri_cok, Bool.and_eq_true, decide_eq_true_eq] at hc
    obtain ⟨⟨rfl, rfl⟩, hlt⟩ := hc
    refine j_rs_iinc hz hr kx (fun n2 y H locs ls hw hg h k => ?_)
    cases hw
    have hmem : (i, Value.int y) ∈ ri_ents ad fz (ri_ml0 t) L := List.mem_filterMap.mpr ⟨i, List.mem_range.mpr hlt, by rw [hg]; rfl⟩
    obtain ⟨k0, hk0⟩ := List.getElem?_of_mem hmem
    exact lv_iinc hx hb hd h hk0 rfl hlt rfl k
  | iadd =>
    obtain rfl : ln = 1 := of_decide_eq_true hc
    exact j_rs_i2 hr kx (fun x y rest H locs ls k => lv_iadd hx hb hd k)
  | isub =>
    obtain rfl : ln = 1 := of_decide_eq_true hc
    exact j_rs_i2 hr kx (fun x y rest H locs ls k => lv_isub hx hb hd k)
  | imul =>
    obtain rfl : ln = 1 := of_decide_eq_true hc
    exact j_rs_i2 hr kx (fun x y rest H locs ls k => lv_imul hx hb hd k)
  | iand =>
    obtain rfl : ln = 1 := of_decide_eq_true hc
    exact j_rs_i2 hr kx (fun x y rest H locs ls k => lv_iand hx hb hd k)
  | ior =>
    obtain rfl : ln = 1 := of_decide_eq_true hc
    exact j_rs_i2 hr kx (fun x y rest H locs ls k => lv_ior hx hb hd k)
  | ixor =>
    obtain rfl : ln = 1 := of_decide_eq_true hc
    exact j_rs_i2 hr kx (fun x y rest H locs ls k => lv_ixor hx hb hd k)
  | ishl =>
    obtain rfl : ln = 1 := of_decide_eq_true hc
    exact j_rs_i2 hr kx (fun x y rest H locs ls k => lv_ishl hx hb hd k)
  | ishr =>
    obtain rfl : ln = 1 := of_decide_eq_true hc
    exact j_rs_i2 hr kx (fun x y rest H locs ls k => lv_ishr hx hb hd k)
  | iushr =>
    obtain rfl : ln = 1 := of_decide_eq_true hc
    exact j_rs_i2 hr kx (fun x y rest H locs ls k => lv_iushr hx hb hd rfl k)
  | ineg =>
    obtain rfl : ln = 1 := of_decide_eq_true hc
    exact j_rs_i1 hr kx (fun x rest H locs ls k => lv_ineg hx hb hd k)
  | i2b =>
    obtain rfl : ln = 1 := of_decide_eq_true hc
    exact j_rs_i1 hr kx (fun x rest H locs ls k => lv_i2b hx hb hd rfl k)
  | i2s =>
    obtain rfl : ln = 1 := of_decide_eq_true hc
    exact j_rs_i1 hr kx (fun x rest H locs ls k => lv_i2s hx hb hd rfl k)
  | i2c =>
    obtain rfl : ln = 1 := of_decide_eq_true hc
    exact j_rs_i1 hr kx (fun x rest H locs ls k => lv_i2c hx hb hd rfl k)
  | idiv =>
    obtain rfl : ln = 1 := of_decide_eq_true hc
    exact j_rs_i2g hmi hr kx (fun x y rest H locs ls hne k => lv_idiv hx hb hd hne k)
  | irem =>
    obtain rfl : ln = 1 := of_decide_eq_true hc
    exact j_rs_i2g hmi hr kx (fun x y rest H locs ls hne k => lv_irem hx hb hd hne k)
  | ladd =>
    obtain rfl : ln = 1 := of_decide_eq_true hc
    exact j_rs_l2 hr kx (fun x y rest H locs ls k => lv_ladd hx hb hd k)
  | lsub =>
    obtain rfl : ln = 1 := of_decide_eq_true hc
    exact j_rs_l2 hr kx (fun x y rest H locs ls k => lv_lsub hx hb hd k)
  | lmul =>
    obtain rfl : ln = 1 := of_decide_eq_true hc
    exact j_rs_l2 hr kx (fun x y rest H locs ls k => lv_lmul hx hb hd k)
  | ldiv =>
    obtain rfl : ln = 1 := of_decide_eq_true hc
    exact j_rs_l2g hmi hr kx (fun x y rest H locs ls hne k => lv_ldiv hx hb hd hne k)
  | lrem =>
    obtain rfl : ln = 1 := of_decide_eq_true hc
    exact j_rs_l2g hmi hr kx (fun x y rest H locs ls hne k => lv_lrem hx hb hd hne k)
  | lshl =>
    obtain rfl : ln = 1 := of_decide_eq_true hc
    unfold j_ri_ex at hr
    dsimp only at hr
    split at hr
    · cases hr
      exact ⟨rfl, fun H locs ls hP hS hl => lv_lshl hx hb hd rfl ((kx rfl).2 H locs ls hP hS hl)⟩
    · cases hr
  | lcmp =>
    obtain rfl : ln = 1 := of_decide_eq_true hc
    unfold j_ri_ex at hr
    dsimp only at hr
    split at hr
    · cases hr
      exact ⟨rfl, fun H locs ls hP hS hl => W.lcmp hx hb hd ((kx rfl).2 H locs ls hP hS hl)⟩
    · cases hr
  | i2l =>
    obtain rfl : ln = 1 := of_decide_eq_true hc
    unfold j_ri_ex at hr
    dsimp only at hr
    split at hr
    · cases hr
      exact ⟨rfl, fun H locs ls hP hS hl => lv_i2l hx hb hd rfl ((kx rfl).2 H locs ls hP hS hl)⟩
    · cases hr
  | l2i =>
    obtain rfl : ln = 1 := of_decide_eq_true hc
    unfold j_ri_ex at hr
    dsimp only at hr
    split at hr
    · cases hr
      exact ⟨rfl, fun H locs ls hP hS hl => lv_l2i hx hb hd rfl ((kx rfl).2 H locs ls hP hS hl)⟩
    · cases hr
  | dup =>
    obtain rfl : ln = 1 := of_decide_eq_true hc
    exact j_rs_dup hz hr kx (fun v rest H locs ls h k => lv_dup hx hb hd h k)
  | dup2 =>
    obtain rfl : ln = 1 := of_decide_eq_true hc
    exact j_rs_dup2 hz hr kx (fun v w rest H locs ls h h2 k => lv_dup2_11 hx hb hd h h2 k)
  | pop =>
    obtain rfl : ln = 1 := of_decide_eq_true hc
    exact j_rs_pop hz hr kx (fun v rest H locs ls h k => lv_pop hx hb hd h k)
  | goto o =>
    simp only [ri_cok, Bool.and_eq_true, decide_eq_true_eq] at hc
    obtain ⟨rfl, hc⟩ := hc
    refine j_rs_jump hr kx (fun tg H locs ls hw k => ?_)
    subst hw
    exact lv_goto hx hb hd (of_decide_eq_true hc) k
  | ifCond cd o =>
    simp only [ri_cok, Bool.and_eq_true, decide_eq_true_eq] at hc
    obtain ⟨rfl, hc⟩ := hc
    refine j_rs_if0 hr kx (fun tg y rest H locs ls hw k1 k2 => ?_)
    subst hw
    have hc : (pc : Int) + o = (tg : Int) := of_decide_eq_true hc
    cases cd with
    | eq => exact lv_if_eq hx hb hd hc (fun h => k1 (decide_eq_true h)) (fun h => k2 (decide_eq_false h))
    | ne => exact lv_if_ne hx hb hd hc (fun h => k1 (decide_eq_true h)) (fun h => k2 (decide_eq_false (fun q => q h)))
    | lt => exact lv_if_lt hx hb hd hc (fun h => k1 (decide_eq_true h)) (fun h => k2 (decide_eq_false h))
    | ge => exact lv_if_ge hx hb hd hc (fun h => k1 (decide_eq_true h)) (fun h => k2 (decide_eq_false h))
    | gt => exact lv_if_gt hx hb hd hc (fun h => k1 (decide_eq_true h)) (fun h => k2 (decide_eq_false h))
    | le => exact lv_if_le hx hb hd hc (fun h => k1 (decide_eq_true h)) (fun h => k2 (decide_eq_false h))
  | if_icmp cd o =>
    simp only [ri_cok, Bool.and_eq_true, decide_eq_true_eq] at hc
    obtain ⟨rfl, hc⟩ := hc
    refine j_rs_if2 hr kx (fun tg y z rest H locs ls hw k1 k2 => ?_)
    subst hw
    have hc : (pc : Int) + o = (tg : Int) := of_decide_eq_true hc
    cases cd with
    | eq => exact lv_icmp_eq hx hb hd hc (fun h => k1 (decide_eq_true h)) (fun h => k2 (decide_eq_false h))
    | ne => exact lv_icmp_ne hx hb hd hc (fun h => k1 (decide_eq_true h)) (fun h => k2 (decide_eq_false (fun q => q h)))
    | lt => exact lv_icmp_lt hx hb hd hc (fun h => k1 (decide_eq_true h)) (fun h => k2 (decide_eq_false h))
    | ge => exact lv_icmp_ge hx hb hd hc (fun h => k1 (decide_eq_true h)) (fun h => k2 (decide_eq_false h))
    | gt => exact lv_icmp_gt hx hb hd hc (fun h => k1 (decide_eq_true h)) (fun h => k2 (decide_eq_false h))
    | le => exact lv_icmp_le hx hb hd hc (fun h => k1 (decide_eq_true h)) (fun h => k2 (decide_eq_false h))
  | ifnull o =>
    simp only [ri_cok, Bool.and_eq_true, decide_eq_true_eq] at hc
    obtain ⟨rfl, hc⟩ := hc
    refine j_rs_ifn hr kx (fun tg a rest H locs ls hw k => lv_ifnull hx hb hd k) (fun tg rest H locs ls hw k => ?_)
    subst hw
    exact lv_ifnullN hx hb hd (of_decide_eq_true hc) k
  | ifnonnull o =>
    simp only [ri_cok, Bool.and_eq_true, decide_eq_true_eq] at hc
    obtain ⟨rfl, hc⟩ := hc
    refine j_rs_ifnn hr kx (fun tg a rest H locs ls hw k => ?_) (fun tg rest H locs ls hw k => lv_ifnonnullN hx hb hd k)
    subst hw
    exact lv_ifnonnull hx hb hd (of_decide_eq_true hc) k
  | tableswitch d lo hi offs =>
    refine j_rs_sw hr kx (fun y rest H locs ls hok k => ?_)
    simp only [ri_swok, Bool.and_eq_true, decide_eq_true_eq] at hok
    obtain ⟨⟨h1, h2⟩, h3⟩ := hok
    unfold ri_tgt at k
    by_cases h : y.toInt < lo ∨ hi < y.toInt
    · rw [if_pos h] at k
      exact lv_tableOut hx hb hd h (tgt := ((pc : Int) + d).toNat) (by omega) k
    · rw [if_neg h] at k
      have hlo : ¬ y.toInt < lo := fun z => h (Or.inl z)
      have hhi : ¬ hi < y.toInt := fun z => h (Or.inr z)
      have hlen : (y.toInt - lo).toNat < offs.toList.length := by omega
      have hget : offs[(y.toInt - lo).toNat]? = some (offs.toList.getD (y.toInt - lo).toNat 0) := by
        rw [← Array.getElem?_toList, List.getD_eq_getElem?_getD, List.getElem?_eq_getElem hlen]
        rfl
      have hmem : offs.toList.getD (y.toInt - lo).toNat 0 ∈ offs.toList := by
        rw [List.getD_eq_getElem?_getD, List.getElem?_eq_getElem hlen]
        exact List.getElem_mem hlen
      have h4 := of_decide_eq_true (List.all_eq_true.mp h3 _ hmem)
      exact lv_tableIn hx hb hd hlo hhi hget (tgt := ((pc : Int) + offs.toList.getD (y.toInt - lo).toNat 0).toNat) (by omega) k
  | ldc i =>
    obtain rfl : ln = 2 := of_decide_eq_true hc
    exact j_rs_ldc cx0 ha0 ht hd hr kx
  | ldc_w i =>
    obtain rfl : ln = 3 := of_decide_eq_true hc
    exact j_rs_ldcw cx0 ha0 ht hd hr kx
  | ldc2_w i =>
    obtain rfl : ln = 3 := of_decide_eq_true hc
    exact j_rs_ldc2 cx0 ha0 ht hd hr kx
  | getfield i =>
    obtain rfl : ln = 3 := of_decide_eq_true hc
    exact j_rs_getf cx0 ha0 ht hd hr kx
  | putfield i =>
    obtain rfl : ln = 3 := of_decide_eq_true hc
    exact j_rs_putf cx0 ha0 ht hd hr kx
  | getstatic i =>
    obtain rfl : ln = 3 := of_decide_eq_true hc
    exact j_rs_gets cx0 ha0 ht hd hr kx
  | iaload =>
    obtain rfl : ln = 1 := of_decide_eq_true hc
    exact j_rs_ial cx0 ha0 hmi hd hr kx
  | baload =>
    obtain rfl : ln = 1 := of_decide_eq_true hc
    exact j_rs_bal cx0 ha0 hmi hd hr kx
  | laload =>
    obtain rfl : ln = 1 := of_decide_eq_true hc
    exact j_rs_lal cx0 ha0 hmi hd hr kx
  | aaload =>
    obtain rfl : ln = 1 := of_decide_eq_true hc
    exact j_rs_aal cx0 ha0 hmi hd hr kx
  | iastore =>
    obtain rfl : ln = 1 := of_decide_eq_true hc
    exact j_rs_ias cx0 ha0 hmi hd hr kx
  | bastore =>
    obtain rfl : ln = 1 := of_decide_eq_true hc
    exact j_rs_bas cx0 ha0 hmi hd hr kx
  | lastore =>
    obtain rfl : ln = 1 := of_decide_eq_true hc
    exact j_rs_las cx0 ha0 hmi hd hr kx
  | arraylength =>
    obtain rfl : ln = 1 := of_decide_eq_true hc
    exact j_rs_alen cx0 ha0 hd hr kx
  | invokestatic i =>
    obtain rfl : ln = 3 := of_decide_eq_true hc
    exact j_rs_ivs cx0 ha0 ht hmi hcs hR hd hr kx
  | invokevirtual i =>
    obtain rfl : ln = 3 := of_decide_eq_true hc
    exact j_rs_ivv cx0 ha0 ht hcs hd hr kx
  | ireturn =>
    obtain rfl : ln = 1 := of_decide_eq_true hc
    exact j_rs_iret hd hr kx
  | lreturn =>
    obtain rfl : ln = 1 := of_decide_eq_true hc
    exact j_rs_lret hd hr kx
  | areturn =>
    obtain rfl : ln = 1 := of_decide_eq_true hc
    exact j_rs_aret hd hr kx
  | return_ =>
    obtain rfl : ln = 1 := of_decide_eq_true hc
    exact j_rs_vret hd hr kx
  | _ => exact nomatch hr
end FIVE
section SIX
variable {D : va_G} {tys : List (ClassId × FieldType)} {ad : Nat → Nat} {cA : Nat → ClassId} {fz : Value} {E : ri_E}
end SIX
-- 16.sound7
theorem j_ri_run_stuck (E : ri_E) : ∀ (n d : Nat) (pc : Nat) (L : List (Option Value)) (st : List Value) (S : ri_H) (y : Nat × Option Value × ri_H), ¬ j_ri_run E n d (1000000, pc, L, st) S y := by
  intro n
  induction n with
  | zero => intro d pc L st S y h; exact h
  | succ n ih =>
    intro d pc L st S y h
    have e : j_ri_step E (1000000, pc, L, st) S = none := by
      show j_ri_stp E 1000000 pc L st S (ri_mt 1000000) = none
      rw [ri_mt_none]
      rfl
    unfold j_ri_run at h
    rw [e] at h
    rcases h with h | ⟨L', -, h⟩
    · exact h
    · exact ih d pc L' st S y h
section SEVEN
variable {l : Launch} {D : va_G} {tys : List (ClassId × FieldType)} {ad : Nat → Nat} {cA : Nat → ClassId} {fz : Value} {E : ri_E}
/-- what a run of n says of a walk -/
def j_ri_Snd (l : Launch) (D : va_G) (tys : List (ClassId × FieldType)) (ad : Nat → Nat) (cA : Nat → ClassId) (fz : Value) (E : ri_E) (n : Nat) : Prop := ∀ (d : Nat) (fr : ri_F) (S : ri_H) (pcr : Nat) (v : Option Value) (S' : ri_H), j_ri_run E n d fr S (pcr, v, S') →
  ∀ (p : Program) (e : Env) (R : Room) (s : State) (m : MethodId) (args : Array Value) (below : List Frame) (meth : Method) (c : Code) (cells slots : Nat) (Q : State → Prop) (A : Nat → Prop) (t : ri_MT), ri_mt fr.1 = some t → j_ri_Cx p s m args c t D tys ad fz E A → d + 1 ≤ R.frames → 64 * (d + 1) ≤ R.locals → cells ≤ R.cells → slots ≤ R.slots →
  (∀ (H : Heap) (locs : List Loc) (ls : Array Slot), va_P D ri_cls (j_ri_wld ad cA S') H → va_S A s.heap H locs → ri_rtok (ri_b t) pcr v → ri_rok fr.1 v = true → W p l e R s m args below meth c H locs cells slots Q (F0 m pcr ls (v.toList.map (ri_cv ad fz)))) →
  j_ri_T (ri_Wf p l e R s m args below meth c cells slots Q) m fr.1 (ri_ml0 t) D ad cA fz A s.heap fr S
/-- a method's contract out of its runs -/
theorem j_ri_met (ha : j_ri_Ad ad cA fz tys) {n : Nat} (hn : j_ri_Snd l D tys ad cA fz E n) {d j pcr : Nat} {As : List Value} {S S' : ri_H} {v : Option Value} {u : ri_MT} (hu : ri_mt j = some u) (hf : ri_flag u ≠ 2) (hr : j_ri_run E n d (ri_en j As) S (pcr, v, S')) : Met l (ri_y u) (ri_wsm u) (ri_rm d) (j_ri_Pc D tys ad cA fz E As S) (j_ri_Qc D ad cA fz v S') 0 0 (j_ri_Aw ad) := by
  obtain ⟨g1, g2, g3, g4, g5⟩ := ri_nf hu
  refine Met.ofW (cc := ri_b u) (maxL := ri_ml0 u) (ret := ri_ret u) g2 rfl ?_
  intro p e s m args below meth c s₁ B hml hv
  obtain ⟨rfl, hEF, hP⟩ := hv
  have hlen : Nat.ble (ri_sl1 As).length (ri_ml0 u) = true := by
    cases hb : Nat.ble (ri_sl1 As).length (ri_ml0 u) with
    | true => rfl
    | false =>
      exfalso
      have e : ri_en j As = (1000000, 0, [], []) := by
        unfold ri_en
        rw [hu]
        unfold ri_en1
        dsimp only
        rw [hb]
        rfl
      rw [e] at hr
      exact j_ri_run_stuck E n d _ _ _ _ _ hr
  have een : ri_en j As = (j, 0, ri_pad (ri_ml0 u) (ri_sl1 As), []) := by
    unfold ri_en
    rw [hu]
    unfold ri_en1
    dsimp only
    rw [hlen]
    rfl
  rw [een] at hr
  have hts := atoms_spec (ws := ri_wsm u) B.pre
  have hA : ∀ k, k < j_ri_K → j_ri_Aw ad (ad k) := fun k hk => ⟨k, hk, rfl⟩
  have key := hn d (j, 0, ri_pad (ri_ml0 u) (ri_sl1 As), []) S pcr v S' hr p e (headSpec (ri_wsm u) (ri_rm d)).room s m (As.map (ri_cv ad fz)).toArray below meth c 0 0 (MQ below (j_ri_Qc D ad cA fz v S') (As.map (ri_cv ad fz)).toArray s 0 0 (j_ri_Aw ad)) (j_ri_Aw ad) u hu ⟨B.exec, B.bytes, hml, findClass_of_methodNamed B.named, fun w hw => hts w (List.mem_cons_of_mem _ hw), hEF, hA⟩ (Nat.le_refl _) (Nat.le_refl _) (Nat.le_refl _) (Nat.le_refl _) ?_
  · rw [lg_entry_eq]
    have hl := Nat.le_of_ble_eq_true hlen
    rw [← ri_sl1_len (ad := ad) ha.2.1] at hl
    exact key.2 s.heap [] _ hP va_S.rf (ri_entry_lr ha.2.1 hl)
  · intro H locs ls hP' hS hrt hrk
    have hx := B.exec
    have hb := B.bytes
    have hret := B.returns
    have hlocks := B.notSynchronized
    unfold ri_rok ri_rok2 at hrk
    rw [hu] at hrk
    dsimp only at hrk
    unfold ri_rok1 at hrk
    split at hrk
    · rename_i e1
      rw [e1] at hret
      exact W.vret hx hb hret (fun t ht hW => ⟨rfl, by rw [ht]; exact hP', hS.F ht⟩) hS.2.2 hrt
    · rename_i y e1
      rw [e1] at hret
      exact W.iret (v := y) hx hb hret (fun t ht hW => ⟨rfl, by rw [ht]; exact hP', hS.F ht⟩) hS.2.2 hrt
    · rename_i y e1
      rw [e1] at hret
      exact W.zret (v := y) hx hb hret (of_decide_eq_true hrk) (fun t ht hW => ⟨rfl, by rw [ht]; exact hP', hS.F ht⟩) hS.2.2 hrt
    · rename_i y e1
      rw [e1] at hret
      exact W.zret (v := y) hx hb hret (of_decide_eq_true hrk) (fun t ht hW => ⟨rfl, by rw [ht]; exact hP', hS.F ht⟩) hS.2.2 hrt
    · rename_i y e1
      rw [e1] at hret
      exact W.zret (v := y) hx hb hret (of_decide_eq_true hrk) (fun t ht hW => ⟨rfl, by rw [ht]; exact hP', hS.F ht⟩) hS.2.2 hrt
    · rename_i y e1
      rw [e1] at hret
      exact W.lret (v := y) hx hb hret (fun t ht hW => ⟨rfl, by rw [ht]; exact hP', hS.F ht⟩) hS.2.2 hrt
    · rename_i nm k e1
      rw [e1] at hret
      have ek := ri_cv_ne (ad := ad) (fz := fz) hrt.2
      refine W.aret (v := ri_cv ad fz (.ref k)) hx hb hret (Or.inl ⟨_, rfl⟩) (by rw [ek]; exact Or.inr ⟨_, rfl⟩) (fun t ht hW => ⟨rfl, by rw [ht]; exact hP', hS.F ht⟩) hS.2.2 hrt.1
    · rename_i nm e1
      rw [e1] at hret
      exact W.aret (v := .null) hx hb hret (Or.inl ⟨_, rfl⟩) (Or.inl rfl) (fun t ht hW => ⟨rfl, by rw [ht]; exact hP', hS.F ht⟩) hS.2.2 hrt
    · rename_i nm k e1
      rw [e1] at hret
      have ek := ri_cv_ne (ad := ad) (fz := fz) hrt.2
      refine W.aret (v := ri_cv ad fz (.ref k)) hx hb hret (Or.inr ⟨_, rfl⟩) (by rw [ek]; exact Or.inr ⟨_, rfl⟩) (fun t ht hW => ⟨rfl, by rw [ht]; exact hP', hS.F ht⟩) hS.2.2 hrt.1
    · rename_i nm e1
      rw [e1] at hret
      exact W.aret (v := .null) hx hb hret (Or.inr ⟨_, rfl⟩) (Or.inl rfl) (fun t ht hW => ⟨rfl, by rw [ht]; exact hP', hS.F ht⟩) hS.2.2 hrt
    · cases hrk
theorem j_ri_sound (ha : j_ri_Ad ad cA fz tys) : ∀ n : Nat, j_ri_Snd l D tys ad cA fz E n := by
  intro n
  induction n with
  | zero => intro d fr S pcr v S' h; exact h.elim
  | succ n ih =>
    intro d fr S pcr v S' h p e R s m args below meth c cells slots Q A t ht cx hf hl hc hs kr
    obtain ⟨mi, pc, L, st⟩ := fr
    dsimp only at ht kr
    have hmi : mi ≠ 1000000 := by
      intro z
      rw [z, ri_mt_none] at ht
      cases ht
    have hR : 1 ≤ R.frames ∧ 64 ≤ R.locals := ⟨by omega, by omega⟩
    unfold j_ri_run at h
    rcases h with h | ⟨L', hL, h⟩
    · cases hst : j_ri_step E (mi, pc, L, st) S with
      | none => rw [hst] at h; exact h.elim
      | some x =>
        rw [hst] at h
        have hst2 : j_ri_stp E mi pc L st S (ri_mt mi) = some x := hst
        rw [ht] at hst2
        have hst3 : j_ri_st2' E (ri_mcl t) mi pc L st S (ri_ins (ri_cdt t) pc) = some x := hst2
        cases hi : ri_ins (ri_cdt t) pc with
        | none => rw [hi] at hst3; cases hst3
        | some q =>
          obtain ⟨i, ln, w⟩ := q
          rw [hi] at hst3
          have hex : j_ri_ex E (ri_mcl t) mi pc ln w L st S i = some x := hst3
          obtain ⟨hd, hck⟩ := ri_chk_use (ri_dk_ok ht) hi
          refine j_rs_ex (cells := cells) (slots := slots) (Q := Q) cx ha ht hmi ⟨hc, hs⟩ hR hd hck hex ?_
          rcases x with x | b | q | r
          · -- a plain step
            intro hm
            have := ih d x.1 x.2 pcr v S' h p e R s m args below meth c cells slots Q A t (by rw [hm]; exact ht) cx hf hl hc hs (by rw [hm]; exact kr)
            rw [hm] at this
            exact this
          · obtain ⟨bb, r1, r2⟩ := b
            refine ⟨fun e1 hm => ?_, fun e1 => ?_⟩
            · have e1 : bb = true := e1
              have hm : r1.1.1 = mi := hm
              rcases h with ⟨-, h2⟩ | ⟨g, -⟩
              · have := ih d r1.1 r1.2 pcr v S' h2 p e R s m args below meth c cells slots Q A t (by rw [hm]; exact ht) cx hf hl hc hs (by rw [hm]; exact kr)
                rw [hm] at this
                exact this
              · have g : bb = false := g
                rw [g] at e1
                cases e1
            · have e1 : bb = false := e1
              rcases h with ⟨g, -⟩ | ⟨-, h2⟩
              · have g : bb = true := g
                rw [g] at e1
                cases e1
              · refine ⟨fun z => ?_, fun hm => ?_⟩
                · obtain ⟨⟨a1, a2, a3, a4⟩, a5⟩ := r2
                  have z : a1 = 1000000 := z
                  subst z
                  exact j_ri_run_stuck E n d _ _ _ _ _ h2
                · have hm : r2.1.1 = mi := hm
                  have := ih d r2.1 r2.2 pcr v S' h2 p e R s m args below meth c cells slots Q A t (by rw [hm]; exact ht) cx hf hl hc hs (by rw [hm]; exact kr)
                  rw [hm] at this
                  exact this
          · intro u hu hfl
            obtain ⟨d', y, rfl, h1, h2⟩ := h
            obtain ⟨p9, v9, S9⟩ := y
            refine ⟨d', v9, S9, by omega, by omega, j_ri_met ha ih hu hfl h1, fun hm => ?_⟩
            have := ih (d' + 1) (ri_push q.2.2.1 v9) S9 pcr v S' h2 p e R s m args below meth c cells slots Q A t (by rw [hm]; exact ht) cx hf hl hc hs (by rw [hm]; exact kr)
            rw [hm] at this
            exact this
          · intro hm H locs ls hP hS hrt
            obtain ⟨hk, h2⟩ := h
            cases h2
            have hm : r.1 = mi := hm
            rw [hm] at hk
            exact kr H locs ls hP hS hrt hk
    · obtain ⟨g1, g2⟩ := ri_lsb_get L' L hL
      have := ih d (mi, pc, L', st) S pcr v S' h p e R s m args below meth c cells slots Q A t ht cx hf hl hc hs kr
      exact ⟨rfl, fun H locs ls hP hS hls => this.2 H locs ls hP hS ⟨hls.1, hls.2.1, by rw [← hls.2.2.1]; exact g1, fun i v hv => hls.2.2.2 i v (g2 i v hv)⟩⟩
end SEVEN
-- 18.rows
def j_rowk (k n : Nat) : Prop := Nat.beq k 3000 = false ∧ True ∧ j_ri_lay k = .inr (.inl (.int, n))
theorem j_ri_go_one {E : ri_E} {fr : ri_F} {S : ri_H} {x : (Bool × (ri_F × ri_H) × (ri_F × ri_H)) ⊕ ((Nat × List Value × ri_F × ri_H) ⊕ (Nat × Option Value × ri_H))} (h : j_ri_step E fr S = some (.inr x)) : j_ri_go E 1 fr S = some (.inr x) := by
  unfold j_ri_go
  rw [h]
theorem j_ri_len_row {E : ri_E} {k n : Nat} (hk : j_rowk k n) : j_ri_len E k = some n := by
  obtain ⟨h1, h2, h3⟩ := hk
  unfold j_ri_len
  rw [h1, h3]
  rfl
theorem j_sp_item {E : ri_E} {S : ri_H} {Q : Option Value → ri_H → Prop} (k n : Nat) (i : Int32) (hk : j_rowk k n) (hn : n < 2 ^ 31) (h : Q (some (.int (it (S.1 k) n i))) S) : j_ri_A E 0 (ri_en mX4_item [.ref k, .int i]) S Q := by
  have hlen := j_ri_len_row (E := E) hk
  obtain ⟨k1, k2, k3⟩ := hk
  refine j_A_br (i < 0) (r1 := ((98, 16, [some (.ref k), some (.int i)], []), S)) (r2 := ((98, 4, [some (.ref k), some (.int i)], []), S)) 2 rfl (fun c1 => ?_) (fun c1 => ?_)
  · unfold it at h
    rw [if_pos c1] at h
    exact j_A_ret 2 (m := 98) (v := some (.int 0)) (S' := S) rfl rfl h
  · have e4000 : Nat.beq k 4000 = false := by
      have hkk := (j_ri_lay_inr k3).1
      exact j_ri_ne4000 hkk
    have ea : ri_aldv (some (.ref k)) = some (.ref k) := ri_aldv_ref e4000
    refine j_A_nx 1 (fr' := (98, 5, [some (.ref k), some (.int i)], [.int i])) (S' := S) rfl ?_
    refine j_ri_A.step (fr' := (98, 6, [some (.ref k), some (.int i)], [.ref k, .int i])) (S' := S) (by show ri_ld 98 6 _ _ S (ri_aldv (some (.ref k))) = _; rw [ea]; rfl) ?_
    refine j_ri_A.step (fr' := (98, 7, [some (.ref k), some (.int i)], [.int (Int32.ofNat n), .int i])) (S' := S) (by show j_ri_alen E 98 7 _ S [.ref k, .int i] = _; simp only [j_ri_alen, hlen]; rfl) ?_
    refine j_A_br (Int32.ofNat n ≤ i) (r1 := ((98, 16, [some (.ref k), some (.int i)], []), S)) (r2 := ((98, 10, [some (.ref k), some (.int i)], []), S)) 1 rfl (fun c2 => ?_) (fun c2 => ?_)
    · unfold it at h
      rw [if_neg c1, if_pos c2] at h
      exact j_A_ret 2 (m := 98) (v := some (.int 0)) (S' := S) rfl rfl h
    · unfold it at h
      rw [if_neg c1, if_neg c2] at h
      refine j_ri_A.step (fr' := (98, 11, [some (.ref k), some (.int i)], [.ref k])) (S' := S) (by show ri_ld 98 11 _ _ S (ri_aldv (some (.ref k))) = _; rw [ea]; rfl) ?_
      refine j_A_nx 1 (fr' := (98, 12, [some (.ref k), some (.int i)], [.int i, .ref k])) (S' := S) rfl ?_
      refine j_A_ix i n (r1 := ((98, 13, [some (.ref k), some (.int i)], [.int (S.1 k i.toNatClampNeg)]), S)) (r2 := ((1000000, 0, [], []), S)) 1 (j_ri_go_one (by show j_ri_ial E 98 13 _ S [.int i, .ref k] = _; simp only [j_ri_ial, k1, k2, k3, ri_rd]; rfl)) (ri_vin hn c1 c2) ?_
      exact j_A_ret 2 (m := 98) (v := some (.int (S.1 k i.toNatClampNeg))) (S' := S) rfl rfl h
theorem j_sp_putItem {E : ri_E} {S : ri_H} {Q : Option Value → ri_H → Prop} (k n : Nat) (i v : Int32) (hk : j_rowk k n) (hn : n < 2 ^ 31) (h : Q none (ri_wr S k (pu n (S.1 k) i v))) : j_ri_A E 0 (ri_en mX4_putItem [.ref k, .int i, .int v]) S Q := by
  have hlen := j_ri_len_row (E := E) hk
  obtain ⟨k1, k2, k3⟩ := hk
  refine j_A_br (i < 0) (r1 := ((99, 14, [some (.ref k), some (.int i), some (.int v)], []), S)) (r2 := ((99, 4, [some (.ref k), some (.int i), some (.int v)], []), S)) 2 rfl (fun c1 => ?_) (fun c1 => ?_)
  · unfold pu at h
    rw [if_pos c1, ri_wr_self] at h
    exact j_A_ret 1 (m := 99) (v := none) (S' := S) rfl rfl h
  · have e4000 : Nat.beq k 4000 = false := by
      have hkk := (j_ri_lay_inr k3).1
      exact j_ri_ne4000 hkk
    have ea : ri_aldv (some (.ref k)) = some (.ref k) := ri_aldv_ref e4000
    refine j_A_nx 1 (fr' := (99, 5, [some (.ref k), some (.int i), some (.int v)], [.int i])) (S' := S) rfl ?_
    refine j_ri_A.step (fr' := (99, 6, [some (.ref k), some (.int i), some (.int v)], [.ref k, .int i])) (S' := S) (by show ri_ld 99 6 _ _ S (ri_aldv (some (.ref k))) = _; rw [ea]; rfl) ?_
    refine j_ri_A.step (fr' := (99, 7, [some (.ref k), some (.int i), some (.int v)], [.int (Int32.ofNat n), .int i])) (S' := S) (by show j_ri_alen E 99 7 _ S [.ref k, .int i] = _; simp only [j_ri_alen, hlen]; rfl) ?_
    refine j_A_br (Int32.ofNat n ≤ i) (r1 := ((99, 14, [some (.ref k), some (.int i), some (.int v)], []), S)) (r2 := ((99, 10, [some (.ref k), some (.int i), some (.int v)], []), S)) 1 rfl (fun c2 => ?_) (fun c2 => ?_)
    · unfold pu at h
      rw [if_neg c1, if_pos c2, ri_wr_self] at h
      exact j_A_ret 1 (m := 99) (v := none) (S' := S) rfl rfl h
    · unfold pu at h
      rw [if_neg c1, if_neg c2, ← ri_wi_wr] at h
      refine j_ri_A.step (fr' := (99, 11, [some (.ref k), some (.int i), some (.int v)], [.ref k])) (S' := S) (by show ri_ld 99 11 _ _ S (ri_aldv (some (.ref k))) = _; rw [ea]; rfl) ?_
      refine j_A_nx 2 (fr' := (99, 13, [some (.ref k), some (.int i), some (.int v)], [.int v, .int i, .ref k])) (S' := S) rfl ?_
      refine j_A_ix i n (r1 := ((99, 14, [some (.ref k), some (.int i), some (.int v)], []), ri_wi S k i.toNatClampNeg v)) (r2 := ((1000000, 0, [], []), S)) 1 (j_ri_go_one (by show j_ri_ias 99 14 _ S [.int v, .int i, .ref k] = _; simp only [j_ri_ias, k3]; rfl)) (ri_vin hn c1 c2) ?_
      exact j_A_ret 1 (m := 99) (v := none) (S' := ri_wi S k i.toNatClampNeg v) rfl rfl h
theorem j_sp_copyRow {E : ri_E} {S : ri_H} {Q : Option Value → ri_H → Prop} (f k n : Nat) (hf : j_rowk f n) (hk : j_rowk k n) (hn : n < 2 ^ 31) (hfk : f ≠ k) (h : Q none (ri_wr S k (cpr n (S.1 f) (S.1 k)))) : j_ri_A E 0 (ri_en mX4_copyRow [.ref f, .ref k]) S Q := by
  have hlen := j_ri_len_row (E := E) hk
  have hlenf := j_ri_len_row (E := E) hf
  obtain ⟨k1, k2, k3⟩ := hk
  obtain ⟨f1, f2, f3⟩ := hf
  have e4000 : Nat.beq k 4000 = false := j_ri_ne4000 (j_ri_lay_inr k3).1
  have ea : ri_aldv (some (.ref k)) = some (.ref k) := ri_aldv_ref e4000
  have e4001 : Nat.beq f 4000 = false := j_ri_ne4000 (j_ri_lay_inr f3).1
  have eb : ri_aldv (some (.ref f)) = some (.ref f) := ri_aldv_ref e4001
  have loop : ∀ (m i : Nat), i + m = n → j_ri_A E 0 (101, 2, [some (.ref f), some (.ref k), some (.int (nI i))], []) (ri_wr S k (cpr i (S.1 f) (S.1 k))) Q := by
    intro m
    induction m with
    | zero =>
      intro i hi
      have e : i = n := by omega
      subst e
      refine j_A_nx 1 (fr' := (101, 3, [some (.ref f), some (.ref k), some (.int (nI i))], [.int (nI i)])) (S' := ri_wr S k (cpr i (S.1 f) (S.1 k))) rfl ?_
      refine j_ri_A.step (fr' := (101, 4, [some (.ref f), some (.ref k), some (.int (nI i))], [.ref f, .int (nI i)])) (S' := ri_wr S k (cpr i (S.1 f) (S.1 k))) (by show ri_ld 101 4 _ _ _ (ri_aldv (some (.ref f))) = _; rw [eb]; rfl) ?_
      refine j_ri_A.step (fr' := (101, 5, [some (.ref f), some (.ref k), some (.int (nI i))], [.int (Int32.ofNat i), .int (nI i)])) (S' := ri_wr S k (cpr i (S.1 f) (S.1 k))) (by show j_ri_alen E 101 5 _ _ [.ref f, .int (nI i)] = _; simp only [j_ri_alen, hlenf]; rfl) ?_
      refine j_A_br (Int32.ofNat i ≤ nI i) (r1 := ((101, 26, [some (.ref f), some (.ref k), some (.int (nI i))], []), ri_wr S k (cpr i (S.1 f) (S.1 k)))) (r2 := ((101, 8, [some (.ref f), some (.ref k), some (.int (nI i))], []), ri_wr S k (cpr i (S.1 f) (S.1 k)))) 1 rfl (fun c => ?_) (fun c => absurd (nI_le (Nat.le_refl i) hn) c)
      exact j_A_ret 1 (m := 101) (v := none) (S' := ri_wr S k (cpr i (S.1 f) (S.1 k))) rfl rfl h
    | succ m ih =>
      intro i hi
      have hlt : i < n := by omega
      have c2 : ¬ Int32.ofNat n ≤ nI i := nI_ge hlt hn
      refine j_A_nx 1 (fr' := (101, 3, [some (.ref f), some (.ref k), some (.int (nI i))], [.int (nI i)])) (S' := ri_wr S k (cpr i (S.1 f) (S.1 k))) rfl ?_
      refine j_ri_A.step (fr' := (101, 4, [some (.ref f), some (.ref k), some (.int (nI i))], [.ref f, .int (nI i)])) (S' := ri_wr S k (cpr i (S.1 f) (S.1 k))) (by show ri_ld 101 4 _ _ _ (ri_aldv (some (.ref f))) = _; rw [eb]; rfl) ?_
      refine j_ri_A.step (fr' := (101, 5, [some (.ref f), some (.ref k), some (.int (nI i))], [.int (Int32.ofNat n), .int (nI i)])) (S' := ri_wr S k (cpr i (S.1 f) (S.1 k))) (by show j_ri_alen E 101 5 _ _ [.ref f, .int (nI i)] = _; simp only [j_ri_alen, hlenf]; rfl) ?_
      refine j_A_br (Int32.ofNat n ≤ nI i) (r1 := ((101, 26, [some (.ref f), some (.ref k), some (.int (nI i))], []), ri_wr S k (cpr i (S.1 f) (S.1 k)))) (r2 := ((101, 8, [some (.ref f), some (.ref k), some (.int (nI i))], []), ri_wr S k (cpr i (S.1 f) (S.1 k)))) 1 rfl (fun c => absurd c c2) (fun c => ?_)
      refine j_A_nx 1 (fr' := (101, 9, [some (.ref f), some (.ref k), some (.int (nI i))], [.int (nI i)])) (S' := ri_wr S k (cpr i (S.1 f) (S.1 k))) rfl ?_
      refine j_ri_A.step (fr' := (101, 10, [some (.ref f), some (.ref k), some (.int (nI i))], [.ref k, .int (nI i)])) (S' := ri_wr S k (cpr i (S.1 f) (S.1 k))) (by show ri_ld 101 10 _ _ _ (ri_aldv (some (.ref k))) = _; rw [ea]; rfl) ?_
      refine j_ri_A.step (fr' := (101, 11, [some (.ref f), some (.ref k), some (.int (nI i))], [.int (Int32.ofNat n), .int (nI i)])) (S' := ri_wr S k (cpr i (S.1 f) (S.1 k))) (by show j_ri_alen E 101 11 _ _ [.ref k, .int (nI i)] = _; simp only [j_ri_alen, hlen]; rfl) ?_
      refine j_A_br (Int32.ofNat n ≤ nI i) (r1 := ((101, 26, [some (.ref f), some (.ref k), some (.int (nI i))], []), ri_wr S k (cpr i (S.1 f) (S.1 k)))) (r2 := ((101, 14, [some (.ref f), some (.ref k), some (.int (nI i))], []), ri_wr S k (cpr i (S.1 f) (S.1 k)))) 1 rfl (fun c => absurd c c2) (fun c => ?_)
      refine j_ri_A.step (fr' := (101, 15, [some (.ref f), some (.ref k), some (.int (nI i))], [.ref k])) (S' := ri_wr S k (cpr i (S.1 f) (S.1 k))) (by show ri_ld 101 15 _ _ _ (ri_aldv (some (.ref k))) = _; rw [ea]; rfl) ?_
      refine j_A_nx 1 (fr' := (101, 16, [some (.ref f), some (.ref k), some (.int (nI i))], [.int (nI i), .ref k])) (S' := ri_wr S k (cpr i (S.1 f) (S.1 k))) rfl ?_
      refine j_ri_A.step (fr' := (101, 17, [some (.ref f), some (.ref k), some (.int (nI i))], [.ref f, .int (nI i), .ref k])) (S' := ri_wr S k (cpr i (S.1 f) (S.1 k))) (by show ri_ld 101 17 _ _ _ (ri_aldv (some (.ref f))) = _; rw [eb]; rfl) ?_
      refine j_A_nx 1 (fr' := (101, 18, [some (.ref f), some (.ref k), some (.int (nI i))], [.int (nI i), .ref f, .int (nI i), .ref k])) (S' := ri_wr S k (cpr i (S.1 f) (S.1 k))) rfl ?_
      refine j_A_ix (nI i) n (r1 := ((101, 19, [some (.ref f), some (.ref k), some (.int (nI i))], [.int ((ri_wr S k (cpr i (S.1 f) (S.1 k))).1 f (nI i).toNatClampNeg), .int (nI i), .ref k]), ri_wr S k (cpr i (S.1 f) (S.1 k)))) (r2 := ((1000000, 0, [], []), ri_wr S k (cpr i (S.1 f) (S.1 k)))) 1 (j_ri_go_one (by show j_ri_ial E 101 19 _ _ [.int (nI i), .ref f, .int (nI i), .ref k] = _; simp only [j_ri_ial, f1, f2, f3, ri_rd]; rfl)) (vp_in_nI hlt hn) ?_
      refine j_A_ix (nI i) n (r1 := ((101, 20, [some (.ref f), some (.ref k), some (.int (nI i))], []), ri_wi (ri_wr S k (cpr i (S.1 f) (S.1 k))) k (nI i).toNatClampNeg ((ri_wr S k (cpr i (S.1 f) (S.1 k))).1 f (nI i).toNatClampNeg))) (r2 := ((1000000, 0, [], []), ri_wr S k (cpr i (S.1 f) (S.1 k)))) 1 (j_ri_go_one (by show j_ri_ias 101 20 _ _ [.int _, .int (nI i), .ref k] = _; simp only [j_ri_ias, k3]; rfl)) (vp_in_nI hlt hn) ?_
      dsimp only
      rw [nI_clamp (by omega), cpr_step S f k i hfk]
      refine j_A_nx 2 (fr' := (101, 2, [some (.ref f), some (.ref k), some (.int (nI i + 1))], [])) (S' := ri_wr S k (cpr (i + 1) (S.1 f) (S.1 k))) rfl ?_
      rw [nI_1]
      exact ih (i + 1) (by omega)
  have h0 := loop n 0 (by omega)
  rw [show cpr 0 (S.1 f) (S.1 k) = S.1 k by funext j; unfold cpr; rw [if_neg (by omega)], ri_wr_self] at h0
  refine j_A_nx 2 (fr' := (101, 2, [some (.ref f), some (.ref k), some (.int (nI 0))], [])) (S' := S) rfl h0
