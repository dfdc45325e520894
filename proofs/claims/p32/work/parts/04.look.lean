/-! LOOKING UP in the tables -/
def ri_nth {α : Type} : List α → Nat → Option α
  | [], _ => none
  | a :: _, 0 => some a
  | _ :: l, n + 1 => ri_nth l n
def ri_at {α : Type} (L : List (List α)) (i : Nat) : Option α := match ri_nth L (i / 16) with
  | some l => ri_nth l (i % 16)
  | none => none
def ri_find {α : Type} : List (Nat × α) → Nat → Option α
  | [], _ => none
  | q :: l, n => cond (Nat.beq q.1 n) (some q.2) (ri_find l n)
def ri_tab {α : Type} (L : List (List (Nat × α))) (c i : Nat) : Option α := match ri_nth L c with
  | some l => ri_find l i
  | none => none
def ri_mt (j : Nat) : Option ri_MT := ri_at ri_mtl j
def ri_ins (t : ri_CD) (pc : Nat) : Option (Instr × Nat × Value) := match ri_at t pc with
  | some (some e) => some e
  | _ => none
def ri_nargs (t : ri_MT) : Nat := t.2.2.2.2.2.2.1
def ri_flag (t : ri_MT) : Nat := t.2.2.2.2.2.1
def ri_mcl (t : ri_MT) : Nat := t.2.2.2.2.1
def ri_ret (t : ri_MT) : Option FieldType := t.2.2.2.1
def ri_ml0 (t : ri_MT) : Nat := t.2.2.1
def ri_cdt (t : ri_MT) : ri_CD := t.2.2.2.2.2.2.2.2
