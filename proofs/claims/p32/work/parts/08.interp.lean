/-! THE INTERPRETER: a heap of int rows and long rows by cell numbers; frames by method numbers; no call's body is opened by the machine's rows -/
abbrev ri_H : Type := (Nat → Nat → Int32) × (Nat → Nat → Int64)
abbrev ri_F : Type := Nat × Nat × List (Option Value) × List Value
abbrev ri_E : Type := Nat × (Nat → Int32)
abbrev ri_R : Type := Option ((ri_F × ri_H) ⊕ ((Bool × (ri_F × ri_H) × (ri_F × ri_H)) ⊕ ((Nat × List Value × ri_F × ri_H) ⊕ (Nat × Option Value × ri_H))))
def ri_wi (S : ri_H) (k j : Nat) (v : Int32) : ri_H := (fun a b => cond (Nat.beq a k) (cond (Nat.beq b j) v (S.1 a b)) (S.1 a b), S.2)
def ri_wl (S : ri_H) (k j : Nat) (v : Int64) : ri_H := (S.1, fun a b => cond (Nat.beq a k) (cond (Nat.beq b j) v (S.2 a b)) (S.2 a b))
def ri_wr (S : ri_H) (k : Nat) (f : Nat → Int32) : ri_H := (fun a => cond (Nat.beq a k) f (S.1 a), S.2)
-- locals
def ri_get : List (Option Value) → Nat → Option Value
  | [], _ => none
  | v :: _, 0 => v
  | _ :: l, n + 1 => ri_get l n
def ri_set : List (Option Value) → Nat → Option Value → List (Option Value)
  | [], _, _ => []
  | _ :: l, 0, v => v :: l
  | a :: l, n + 1, v => a :: ri_set l n v
def ri_wide : Option Value → Bool
  | some (.long _) => true
  | some (.double _) => true
  | _ => false
def ri_kill (l : List (Option Value)) : Nat → List (Option Value)
  | 0 => l
  | n + 1 => cond (ri_wide (ri_get l n)) (ri_set l n none) l
def ri_st1 (l : List (Option Value)) (i : Nat) (v : Value) : List (Option Value) := ri_set (ri_kill l i) i (some v)
def ri_st2 (l : List (Option Value)) (i : Nat) (v : Value) : List (Option Value) := ri_set (ri_set (ri_kill l i) (i + 1) none) i (some v)
-- results
def ri_nx (m pc : Nat) (l : List (Option Value)) (st : List Value) (S : ri_H) : ri_R := some (.inl ((m, pc, l, st), S))
def ri_br (b : Bool) (m p1 p2 : Nat) (l : List (Option Value)) (st : List Value) (S : ri_H) : ri_R := some (.inr (.inl (b, ((m, p1, l, st), S), ((m, p2, l, st), S))))
def ri_gd (b : Bool) (m pc : Nat) (l : List (Option Value)) (st : List Value) (S S' : ri_H) : ri_R := some (.inr (.inl (b, ((m, pc, l, st), S'), ((1000000, 0, [], []), S))))
def ri_c0 (cd : ClassFile.Cond) (x : Int32) : Bool := match cd with
  | .eq => decide (x = 0)
  | .ne => decide (¬ x = 0)
  | .lt => decide (x < 0)
  | .ge => decide (0 ≤ x)
  | .gt => decide (0 < x)
  | .le => decide (x ≤ 0)
def ri_c2 (cd : ClassFile.Cond) (x y : Int32) : Bool := match cd with
  | .eq => decide (x = y)
  | .ne => decide (¬ x = y)
  | .lt => decide (x < y)
  | .ge => decide (y ≤ x)
  | .gt => decide (y < x)
  | .le => decide (x ≤ y)
-- one operand, two operands
def ri_i1 (f : Int32 → Int32) (m pc : Nat) (l : List (Option Value)) (S : ri_H) : List Value → ri_R
  | .int x :: r => ri_nx m pc l (.int (f x) :: r) S
  | _ => none
def ri_i2 (f : Int32 → Int32 → Int32) (m pc : Nat) (l : List (Option Value)) (S : ri_H) : List Value → ri_R
  | .int y :: .int x :: r => ri_nx m pc l (.int (f x y) :: r) S
  | _ => none
def ri_i2g (f : Int32 → Int32 → Int32) (m pc : Nat) (l : List (Option Value)) (S : ri_H) : List Value → ri_R
  | .int y :: .int x :: r => ri_gd (decide (¬ y = 0)) m pc l (.int (f x y) :: r) S S
  | _ => none
def ri_l2 (f : Int64 → Int64 → Int64) (m pc : Nat) (l : List (Option Value)) (S : ri_H) : List Value → ri_R
  | .long y :: .long x :: r => ri_nx m pc l (.long (f x y) :: r) S
  | _ => none
def ri_l2g (f : Int64 → Int64 → Int64) (m pc : Nat) (l : List (Option Value)) (S : ri_H) : List Value → ri_R
  | .long y :: .long x :: r => ri_gd (decide (¬ y = 0)) m pc l (.long (f x y) :: r) S S
  | _ => none
def ri_ld (m pc : Nat) (l : List (Option Value)) (st : List Value) (S : ri_H) : Option Value → ri_R
  | some v => ri_nx m pc l (v :: st) S
  | none => none
def ri_ildv : Option Value → Option Value
  | some (.int x) => some (.int x)
  | _ => none
def ri_lldv : Option Value → Option Value
  | some (.long x) => some (.long x)
  | _ => none
def ri_aldv : Option Value → Option Value
  | some (.ref k) => cond (Nat.beq k 4000) none (some (.ref k))
  | some .null => some .null
  | _ => none
def ri_ist (m pc i : Nat) (l : List (Option Value)) (S : ri_H) : List Value → ri_R
  | .int x :: r => ri_nx m pc (ri_st1 l i (.int x)) r S
  | _ => none
def ri_lst (m pc i : Nat) (l : List (Option Value)) (S : ri_H) : List Value → ri_R
  | .long x :: r => ri_nx m pc (ri_st2 l i (.long x)) r S
  | _ => none
def ri_ast (m pc i : Nat) (l : List (Option Value)) (S : ri_H) : List Value → ri_R
  | .ref k :: r => cond (Nat.beq k 4000) none (ri_nx m pc (ri_st1 l i (.ref k)) r S)
  | .null :: r => ri_nx m pc (ri_st1 l i .null) r S
  | _ => none
def ri_jump (m : Nat) (l : List (Option Value)) (st : List Value) (S : ri_H) : Value → ri_R
  | .retAddr t => ri_nx m t l st S
  | _ => none
def ri_if0 (cd : ClassFile.Cond) (m pc : Nat) (l : List (Option Value)) (S : ri_H) : Value → List Value → ri_R
  | .retAddr t, .int x :: r => ri_br (ri_c0 cd x) m t pc l r S
  | _, _ => none
def ri_if2 (cd : ClassFile.Cond) (m pc : Nat) (l : List (Option Value)) (S : ri_H) : Value → List Value → ri_R
  | .retAddr t, .int y :: .int x :: r => ri_br (ri_c2 cd x y) m t pc l r S
  | _, _ => none
def ri_ifn (m pc : Nat) (l : List (Option Value)) (S : ri_H) : Value → List Value → ri_R
  | .retAddr _, .ref k :: r => cond (Nat.beq k 4000) none (ri_nx m pc l r S)
  | .retAddr t, .null :: r => ri_nx m t l r S
  | _, _ => none
def ri_ifnn (m pc : Nat) (l : List (Option Value)) (S : ri_H) : Value → List Value → ri_R
  | .retAddr t, .ref k :: r => cond (Nat.beq k 4000) none (ri_nx m t l r S)
  | .retAddr _, .null :: r => ri_nx m pc l r S
  | _, _ => none
def ri_tgt (pc : Nat) (dflt lo hi : Int) (offs : List Int) (x : Int32) : Nat := if x.toInt < lo ∨ hi < x.toInt then ((pc : Int) + dflt).toNat else ((pc : Int) + offs.getD (x.toInt - lo).toNat 0).toNat
def ri_swok (pc : Nat) (dflt lo hi : Int) (offs : List Int) : Bool := decide (0 ≤ (pc : Int) + dflt) && decide (hi - lo + 1 ≤ offs.length) && offs.all (fun o => decide (0 ≤ (pc : Int) + o))
def ri_sw (m pc : Nat) (dflt lo hi : Int) (offs : List Int) (l : List (Option Value)) (S : ri_H) : List Value → ri_R
  | .int x :: r => cond (ri_swok pc dflt lo hi offs) (ri_nx m (ri_tgt pc dflt lo hi offs x) l r S) none
  | _ => none
-- fields
def ri_fv (S : ri_H) (k j : Nat) : Option (Nat × Nat) → Option Value
  | some (0, _) => some (.int (S.1 k j))
  | some (1, _) => some (.int (S.1 k j))
  | some (2, _) => some (.long (S.2 k j))
  | some (3, t) => some (.ref t)
  | _ => none
def ri_gfo (S : ri_H) (k ci j : Nat) : ri_LK → Option Value
  | .inl (ci', fl) => cond (Nat.beq ci' ci) (ri_fv S k j (ri_nth fl j)) none
  | _ => none
def ri_str (k j : Nat) : Option Value := cond (Nat.ble 1000 k) (cond (Nat.ble k 1012) (match j with
  | 0 => some (.int 0)
  | _ => some (.ref (k + 100))) none) none
def ri_gf (S : ri_H) (k : Nat) : Option (Nat × Nat × Nat) → Option Value
  | some (ci, j, _) => cond (Nat.beq ci 100) (ri_str k j) (ri_gfo S k ci j (ri_lay k))
  | none => none
def ri_getf (c m pc idx : Nat) (l : List (Option Value)) (S : ri_H) : List Value → ri_R
  | .ref k :: r => ri_ld m pc l r S (ri_gf S k (ri_tab ri_fl c idx))
  | _ => none
def ri_pfv (S : ri_H) (k j : Nat) : Option (Nat × Nat) → Value → Option ri_H
  | some (0, _), .int x => some (ri_wi S k j x)
  | some (1, _), .int x => cond (decide (x = 0 ∨ x = 1)) (some (ri_wi S k j x)) none
  | some (2, _), .long x => some (ri_wl S k j x)
  | _, _ => none
def ri_pfo (S : ri_H) (k ci j : Nat) (v : Value) : ri_LK → Option ri_H
  | .inl (ci', fl) => cond (Nat.beq ci' ci) (ri_pfv S k j (ri_nth fl j) v) none
  | _ => none
def ri_pf (S : ri_H) (k : Nat) (v : Value) : Option (Nat × Nat × Nat) → Option ri_H
  | some (ci, j, _) => cond (Nat.beq ci 100) none (ri_pfo S k ci j v (ri_lay k))
  | none => none
def ri_nxo (m pc : Nat) (l : List (Option Value)) (st : List Value) : Option ri_H → ri_R
  | some S' => ri_nx m pc l st S'
  | none => none
def ri_putf (c m pc idx : Nat) (l : List (Option Value)) (S : ri_H) : List Value → ri_R
  | v :: .ref k :: r => ri_nxo m pc l r (ri_pf S k v (ri_tab ri_fl c idx))
  | _ => none
def ri_gs : Option (Nat × Nat) → Option Value
  | some (1, _) => some (.int 1)
  | some (2, _) => some (.ref 4000)
  | _ => none
-- arrays
abbrev ri_inb (i : Int32) (n : Nat) : Bool := decide (¬ (i < 0 ∨ n ≤ i.toNatClampNeg))
def ri_len (E : ri_E) (k : Nat) : Option Nat := cond (Nat.beq k 3000) (some E.1) (match ri_lay k with
  | .inr (.inl (_, n)) => some n
  | .inr (.inr (_, tg)) => some tg.length
  | _ => none)
def ri_alen (E : ri_E) (m pc : Nat) (l : List (Option Value)) (S : ri_H) : List Value → ri_R
  | .ref k :: r => match ri_len E k with
    | some n => ri_nx m pc l (.int (Int32.ofNat n) :: r) S
    | none => cond (Nat.ble 1100 k) (cond (Nat.ble k 1112) (ri_nx m pc l (.int (Int32.ofNat (ri_strl.getD (k - 1100) 0)) :: r) S) none) none
  | _ => none
def ri_rd (ty : FieldType) (m pc : Nat) (l : List (Option Value)) (r : List Value) (S : ri_H) (k : Nat) (i : Int32) : ri_LK → ri_R
  | .inr (.inl (ty', n)) => cond (decide (ty' = ty)) (ri_gd (ri_inb i n) m pc l (.int (S.1 k i.toNatClampNeg) :: r) S S) none
  | _ => none
def ri_ial (E : ri_E) (m pc : Nat) (l : List (Option Value)) (S : ri_H) : List Value → ri_R
  | .int i :: .ref k :: r => cond (Nat.beq k 3000) (ri_gd (ri_inb i E.1) m pc l (.int (E.2 i.toNatClampNeg) :: r) S S) (ri_rd .int m pc l r S k i (ri_lay k))
  | _ => none
def ri_bal (m pc : Nat) (l : List (Option Value)) (S : ri_H) : List Value → ri_R
  | .int i :: .ref k :: r => cond (Nat.ble 1100 k) (cond (Nat.ble k 1112) (ri_gd (ri_inb i (ri_strl.getD (k - 1100) 0)) m pc l (.int ((ri_strb.getD (k - 1100) []).getD i.toNatClampNeg 0) :: r) S S) none) (ri_rd .boolean m pc l r S k i (ri_lay k))
  | _ => none
def ri_lrd (m pc : Nat) (l : List (Option Value)) (r : List Value) (S : ri_H) (k : Nat) (i : Int32) : ri_LK → ri_R
  | .inr (.inl (.long, n)) => ri_gd (ri_inb i n) m pc l (.long (S.2 k i.toNatClampNeg) :: r) S S
  | _ => none
def ri_lal (m pc : Nat) (l : List (Option Value)) (S : ri_H) : List Value → ri_R
  | .int i :: .ref k :: r => ri_lrd m pc l r S k i (ri_lay k)
  | _ => none
def ri_wrt (ty : FieldType) (m pc : Nat) (l : List (Option Value)) (r : List Value) (S : ri_H) (k : Nat) (i : Int32) (v : Int32) : ri_LK → ri_R
  | .inr (.inl (ty', n)) => cond (decide (ty' = ty)) (ri_gd (ri_inb i n) m pc l r S (ri_wi S k i.toNatClampNeg (vp_nar ty v))) none
  | _ => none
def ri_ias (m pc : Nat) (l : List (Option Value)) (S : ri_H) : List Value → ri_R
  | .int v :: .int i :: .ref k :: r => match ri_lay k with
    | .inr (.inl (.int, n)) => ri_gd (ri_inb i n) m pc l r S (ri_wi S k i.toNatClampNeg v)
    | _ => none
  | _ => none
def ri_bas (m pc : Nat) (l : List (Option Value)) (S : ri_H) : List Value → ri_R
  | .int v :: .int i :: .ref k :: r => match ri_lay k with
    | .inr (.inl (.boolean, n)) => ri_gd (ri_inb i n) m pc l r S (ri_wi S k i.toNatClampNeg (vp_nar .boolean v))
    | _ => none
  | _ => none
def ri_las (m pc : Nat) (l : List (Option Value)) (S : ri_H) : List Value → ri_R
  | .long v :: .int i :: .ref k :: r => match ri_lay k with
    | .inr (.inl (.long, n)) => ri_gd (ri_inb i n) m pc l r S (ri_wl S k i.toNatClampNeg v)
    | _ => none
  | _ => none
def ri_refn : Option Nat → Value
  | some t => .ref t
  | none => .null
def ri_aal (m pc : Nat) (l : List (Option Value)) (S : ri_H) : List Value → ri_R
  | .int i :: .ref k :: r => match ri_lay k with
    | .inr (.inr (_, tg)) => ri_gd (ri_inb i tg.length) m pc l (ri_refn (ri_nth tg i.toNatClampNeg) :: r) S S
    | _ => none
  | _ => none
-- the stack
def ri_cat1 : Value → Bool
  | .long _ => false
  | .double _ => false
  | _ => true
def ri_dup (m pc : Nat) (l : List (Option Value)) (S : ri_H) : List Value → ri_R
  | v :: r => cond (ri_cat1 v) (ri_nx m pc l (v :: v :: r) S) none
  | _ => none
def ri_dup2 (m pc : Nat) (l : List (Option Value)) (S : ri_H) : List Value → ri_R
  | v :: w :: r => cond (ri_cat1 v) (cond (ri_cat1 w) (ri_nx m pc l (v :: w :: v :: w :: r) S) none) none
  | _ => none
def ri_pop (m pc : Nat) (l : List (Option Value)) (S : ri_H) : List Value → ri_R
  | v :: r => cond (ri_cat1 v) (ri_nx m pc l r S) none
  | _ => none
def ri_iinc (m pc i : Nat) (l : List (Option Value)) (st : List Value) (S : ri_H) : Value → Option Value → ri_R
  | .int n, some (.int x) => ri_nx m pc (ri_st1 l i (.int (x + n))) st S
  | _, _ => none
-- calls
def ri_take : Nat → List Value → List Value → Option (List Value × List Value)
  | 0, acc, st => some (acc, st)
  | n + 1, acc, v :: st => ri_take n (v :: acc) st
  | _ + 1, _, [] => none
def ri_cats : List Value → Nat
  | [] => 0
  | .long _ :: r => ri_cats r + 2
  | .double _ :: r => ri_cats r + 2
  | _ :: r => ri_cats r + 1
def ri_mkc (j : Nat) (As : List Value) (m pc : Nat) (l : List (Option Value)) (r : List Value) (S : ri_H) : ri_R := cond (Nat.ble (ri_cats r) 8) (some (.inr (.inr (.inl (j, As, (m, pc, l, r), S))))) none
def ri_cls2 (j m pc : Nat) (l : List (Option Value)) (S : ri_H) : Option (List Value × List Value) → ri_R
  | some (As, r) => ri_mkc j As m pc l r S
  | none => none
/-- of which of our classes the receiver is; a text: 7 -/
def ri_rcv (k : Nat) : Nat := cond (Nat.ble 1000 k) (cond (Nat.ble k 1012) 7 998) (match ri_lay k with
  | .inl (ci, _) => ci
  | _ => 998)
def ri_clv2 (j c m pc : Nat) (l : List (Option Value)) (S : ri_H) : Option (List Value × List Value) → ri_R
  | some (.ref k :: As, r) => cond (Nat.beq (ri_rcv k) c) (ri_mkc j (.ref k :: As) m pc l r S) none
  | _ => none
def ri_cls1 (j m pc : Nat) (l : List (Option Value)) (st : List Value) (S : ri_H) : Option ri_MT → ri_R
  | some t => cond (Nat.beq (ri_flag t) 0) (ri_cls2 j m pc l S (ri_take (ri_nargs t) [] st)) none
  | none => none
def ri_clv1 (j m pc : Nat) (l : List (Option Value)) (st : List Value) (S : ri_H) : Option ri_MT → ri_R
  | some t => cond (Nat.beq (ri_flag t) 1) (ri_clv2 j (ri_mcl t) m pc l S (ri_take (ri_nargs t + 1) [] st)) none
  | none => none
def ri_mm (f : Int32 → Int32 → Int32) (m pc : Nat) (l : List (Option Value)) (S : ri_H) : List Value → ri_R
  | .int y :: .int x :: r => cond (Nat.ble (ri_cats r) 8) (ri_nx m pc l (.int (f x y) :: r) S) none
  | _ => none
def ri_ivs (m pc : Nat) (l : List (Option Value)) (st : List Value) (S : ri_H) : Option (Nat × Nat × Nat) → ri_R
  | some (0, j, _) => ri_cls1 j m pc l st S (ri_mt j)
  | some (2, j, _) => ri_cls1 j m pc l st S (ri_mt j)
  | some (3, _) => ri_mm (fun x y => if x < y then y else x) m pc l S st
  | some (4, _) => ri_mm (fun x y => if y < x then y else x) m pc l S st
  | _ => none
def ri_ivv (m pc : Nat) (l : List (Option Value)) (st : List Value) (S : ri_H) : Option (Nat × Nat × Nat) → ri_R
  | some (1, j, _) => ri_clv1 j m pc l st S (ri_mt j)
  | _ => none
-- ends
def ri_rt (m : Nat) (S : ri_H) (v : Option Value) : ri_R := some (.inr (.inr (.inr (m, v, S))))
def ri_iret (m : Nat) (S : ri_H) : List Value → ri_R
  | [.int x] => ri_rt m S (some (.int x))
  | _ => none
def ri_lret (m : Nat) (S : ri_H) : List Value → ri_R
  | [.long x] => ri_rt m S (some (.long x))
  | _ => none
def ri_aret (m : Nat) (S : ri_H) : List Value → ri_R
  | [.ref k] => cond (Nat.beq k 4000) none (ri_rt m S (some (.ref k)))
  | [.null] => ri_rt m S (some .null)
  | _ => none
def ri_vret (m : Nat) (S : ri_H) : List Value → ri_R
  | [] => ri_rt m S none
  | _ => none
def ri_cst (m pc : Nat) (l : List (Option Value)) (st : List Value) (S : ri_H) : Option (Value × Nat) → ri_R
  | some (v, _) => ri_nx m pc l (v :: st) S
  | none => none
def ri_ex (E : ri_E) (c m pc ln : Nat) (v : Value) (l : List (Option Value)) (st : List Value) (S : ri_H) : Instr → ri_R
  | .aconst_null => ri_nx m (pc + ln) l (.null :: st) S
  | .iconst _ => ri_nx m (pc + ln) l (v :: st) S
  | .bipush _ => ri_nx m (pc + ln) l (v :: st) S
  | .sipush _ => ri_nx m (pc + ln) l (v :: st) S
  | .lconst n => ri_nx m (pc + ln) l (.long (Int64.ofNat n) :: st) S
  | .iload i => ri_ld m (pc + ln) l st S (ri_ildv (ri_get l i))
  | .iload_n i => ri_ld m (pc + ln) l st S (ri_ildv (ri_get l i))
  | .lload i => ri_ld m (pc + ln) l st S (ri_lldv (ri_get l i))
  | .lload_n i => ri_ld m (pc + ln) l st S (ri_lldv (ri_get l i))
  | .aload i => ri_ld m (pc + ln) l st S (ri_aldv (ri_get l i))
  | .aload_n i => ri_ld m (pc + ln) l st S (ri_aldv (ri_get l i))
  | .istore i => ri_ist m (pc + ln) i l S st
  | .istore_n i => ri_ist m (pc + ln) i l S st
  | .lstore i => ri_lst m (pc + ln) i l S st
  | .lstore_n i => ri_lst m (pc + ln) i l S st
  | .astore i => ri_ast m (pc + ln) i l S st
  | .astore_n i => ri_ast m (pc + ln) i l S st
  | .iinc i _ => ri_iinc m (pc + ln) i l st S v (ri_get l i)
  | .iadd => ri_i2 (fun x y => x + y) m (pc + ln) l S st
  | .isub => ri_i2 (fun x y => x - y) m (pc + ln) l S st
  | .imul => ri_i2 (fun x y => x * y) m (pc + ln) l S st
  | .iand => ri_i2 (fun x y => x &&& y) m (pc + ln) l S st
  | .ior => ri_i2 (fun x y => x ||| y) m (pc + ln) l S st
  | .ixor => ri_i2 (fun x y => x ^^^ y) m (pc + ln) l S st
  | .ishl => ri_i2 (fun x y => x <<< (y &&& 31)) m (pc + ln) l S st
  | .ishr => ri_i2 (fun x y => x >>> (y &&& 31)) m (pc + ln) l S st
  | .iushr => ri_i2 (fun x y => (x.toUInt32 >>> (y.toUInt32 &&& Int32.toUInt32 31)).toInt32) m (pc + ln) l S st
  | .ineg => ri_i1 (fun x => -x) m (pc + ln) l S st
  | .i2b => ri_i1 (fun x => x.toInt8.toInt32) m (pc + ln) l S st
  | .i2s => ri_i1 (fun x => x.toInt16.toInt32) m (pc + ln) l S st
  | .i2c => ri_i1 (fun x => (x.toUInt32 % 65536).toInt32) m (pc + ln) l S st
  | .idiv => ri_i2g (fun x y => x / y) m (pc + ln) l S st
  | .irem => ri_i2g (fun x y => x - x / y * y) m (pc + ln) l S st
  | .ladd => ri_l2 (fun x y => x + y) m (pc + ln) l S st
  | .lsub => ri_l2 (fun x y => x - y) m (pc + ln) l S st
  | .lmul => ri_l2 (fun x y => x * y) m (pc + ln) l S st
  | .ldiv => ri_l2g (fun x y => x / y) m (pc + ln) l S st
  | .lrem => ri_l2g (fun x y => x - x / y * y) m (pc + ln) l S st
  | .lshl => match st with
    | .int y :: .long x :: r => ri_nx m (pc + ln) l (.long (x <<< (y.toInt64 &&& 63)) :: r) S
    | _ => none
  | .lcmp => match st with
    | .long y :: .long x :: r => ri_nx m (pc + ln) l (.int (lg_cmp x y) :: r) S
    | _ => none
  | .i2l => match st with
    | .int x :: r => ri_nx m (pc + ln) l (.long x.toInt64 :: r) S
    | _ => none
  | .l2i => match st with
    | .long x :: r => ri_nx m (pc + ln) l (.int x.toInt32 :: r) S
    | _ => none
  | .dup => ri_dup m (pc + ln) l S st
  | .dup2 => ri_dup2 m (pc + ln) l S st
  | .pop => ri_pop m (pc + ln) l S st
  | .goto _ => ri_jump m l st S v
  | .ifCond cd _ => ri_if0 cd m (pc + ln) l S v st
  | .if_icmp cd _ => ri_if2 cd m (pc + ln) l S v st
  | .ifnull _ => ri_ifn m (pc + ln) l S v st
  | .ifnonnull _ => ri_ifnn m (pc + ln) l S v st
  | .tableswitch d lo hi offs => ri_sw m pc d lo hi offs.toList l S st
  | .ldc i => ri_cst m (pc + ln) l st S (match ri_tab ri_cl c i with
    | some (.long _, _) => none
    | q => q)
  | .ldc_w i => ri_cst m (pc + ln) l st S (match ri_tab ri_cl c i with
    | some (.int y, z) => some (.int y, z)
    | _ => none)
  | .ldc2_w i => ri_cst m (pc + ln) l st S (match ri_tab ri_cl c i with
    | some (.long y, z) => some (.long y, z)
    | _ => none)
  | .getfield i => ri_getf c m (pc + ln) i l S st
  | .putfield i => ri_putf c m (pc + ln) i l S st
  | .getstatic i => ri_ld m (pc + ln) l st S (ri_gs (ri_tab ri_sl c i))
  | .iaload => ri_ial E m (pc + ln) l S st
  | .baload => ri_bal m (pc + ln) l S st
  | .laload => ri_lal m (pc + ln) l S st
  | .aaload => ri_aal m (pc + ln) l S st
  | .iastore => ri_ias m (pc + ln) l S st
  | .bastore => ri_bas m (pc + ln) l S st
  | .lastore => ri_las m (pc + ln) l S st
  | .arraylength => ri_alen E m (pc + ln) l S st
  | .invokestatic i => ri_ivs m (pc + ln) l st S (ri_tab ri_ml c i)
  | .invokevirtual i => ri_ivv m (pc + ln) l st S (ri_tab ri_ml c i)
  | .ireturn => ri_iret m S st
  | .lreturn => ri_lret m S st
  | .areturn => ri_aret m S st
  | .return_ => ri_vret m S st
  | _ => none
def ri_st2' (E : ri_E) (c m pc : Nat) (l : List (Option Value)) (st : List Value) (S : ri_H) : Option (Instr × Nat × Value) → ri_R
  | some (i, ln, v) => ri_ex E c m pc ln v l st S i
  | none => none
def ri_stp (E : ri_E) (m pc : Nat) (l : List (Option Value)) (st : List Value) (S : ri_H) : Option ri_MT → ri_R
  | some t => ri_st2' E (ri_mcl t) m pc l st S (ri_ins (ri_cdt t) pc)
  | none => none
def ri_step (E : ri_E) : ri_F → ri_H → ri_R
  | (m, pc, l, st), S => ri_stp E m pc l st S (ri_mt m)
/-- k plain steps, or fewer and the first that isn't plain -/
def ri_go (E : ri_E) : Nat → ri_F → ri_H → ri_R
  | 0, fr, S => some (.inl (fr, S))
  | k + 1, fr, S => match ri_step E fr S with
    | some (.inl (fr', S')) => ri_go E k fr' S'
    | some (.inr x) => some (.inr x)
    | none => none
def ri_sl1 : List Value → List (Option Value)
  | [] => []
  | .long x :: r => some (.long x) :: none :: ri_sl1 r
  | .double x :: r => some (.double x) :: none :: ri_sl1 r
  | v :: r => some v :: ri_sl1 r
def ri_pad : Nat → List (Option Value) → List (Option Value)
  | 0, _ => []
  | n + 1, [] => none :: ri_pad n []
  | n + 1, v :: l => v :: ri_pad n l
def ri_en1 (j : Nat) (As : List Value) : Option ri_MT → ri_F
  | some t => cond (Nat.ble (ri_sl1 As).length (ri_ml0 t)) (j, 0, ri_pad (ri_ml0 t) (ri_sl1 As), []) (1000000, 0, [], [])
  | none => (1000000, 0, [], [])
def ri_en (j : Nat) (As : List Value) : ri_F := ri_en1 j As (ri_mt j)
def ri_push : ri_F → Option Value → ri_F
  | (m, pc, l, st), some v => (m, pc, l, v :: st)
  | fr, none => fr
def ri_rok1 : Option FieldType → Option Value → Bool
  | none, none => true
  | some .int, some (.int _) => true
  | some .boolean, some (.int x) => decide (narrow .boolean (.int x) = .int x)
  | some .char, some (.int x) => decide (narrow .char (.int x) = .int x)
  | some .byte, some (.int x) => decide (narrow .byte (.int x) = .int x)
  | some .long, some (.long _) => true
  | some (.object _), some (.ref _) => true
  | some (.object _), some .null => true
  | some (.array _), some (.ref _) => true
  | some (.array _), some .null => true
  | _, _ => false
def ri_rok2 (v : Option Value) : Option ri_MT → Bool
  | some t => ri_rok1 (ri_ret t) v
  | none => false
def ri_rok (m : Nat) (v : Option Value) : Bool := ri_rok2 v (ri_mt m)
/-- fewer locals known -/
def ri_lsb : List (Option Value) → List (Option Value) → Prop
  | [], [] => True
  | none :: a, _ :: b => ri_lsb a b
  | some v :: a, w :: b => w = some v ∧ ri_lsb a b
  | _, _ => False
def ri_run (E : ri_E) : Nat → Nat → ri_F → ri_H → Nat × Option Value × ri_H → Prop
  | 0, _, _, _, _ => False
  | n + 1, d, (m, pc, L, st), S, y => (match ri_step E (m, pc, L, st) S with
    | none => False
    | some (.inl r) => ri_run E n d r.1 r.2 y
    | some (.inr (.inl b)) => (b.1 = true ∧ ri_run E n d b.2.1.1 b.2.1.2 y) ∨ (b.1 = false ∧ ri_run E n d b.2.2.1 b.2.2.2 y)
    | some (.inr (.inr (.inl c))) => ∃ d' x, d = d' + 1 ∧ ri_run E n d' (ri_en c.1 c.2.1) c.2.2.2 x ∧ ri_run E n d (ri_push c.2.2.1 x.2.1) x.2.2 y
    | some (.inr (.inr (.inr r))) => ri_rok r.1 r.2.1 = true ∧ y = (pc, r.2.1, r.2.2)) ∨ ∃ L', ri_lsb L' L ∧ ri_run E n d (m, pc, L', st) S y
