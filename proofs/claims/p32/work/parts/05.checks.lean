/-! what the tables say is so: decided once, by places -/
theorem ri_nth_eq {α : Type} : ∀ (l : List α) (i : Nat), ri_nth l i = l[i]?
  | [], i => by simp [ri_nth]
  | a :: l, 0 => by simp [ri_nth]
  | a :: l, i + 1 => by simp [ri_nth, ri_nth_eq l i]
theorem ri_nth_mem {α : Type} {l : List α} {i : Nat} {a : α} (h : ri_nth l i = some a) : a ∈ l := by
  rw [ri_nth_eq] at h
  exact List.mem_of_getElem? h
theorem ri_at_mem {α : Type} {L : List (List α)} {i : Nat} {a : α} (h : ri_at L i = some a) : ∃ l, l ∈ L ∧ a ∈ l := by
  unfold ri_at at h
  split at h
  · rename_i l e
    exact ⟨l, ri_nth_mem e, ri_nth_mem h⟩
  · cases h
theorem ri_at_lt {α : Type} {L : List (List α)} {i : Nat} {a : α} (h : ri_at L i = some a) : i < 16 * L.length := by
  unfold ri_at at h
  split at h
  · rename_i l e
    rw [ri_nth_eq] at e
    have := (List.getElem?_eq_some_iff.mp e).1
    omega
  · cases h
theorem ri_find_mem {α : Type} : ∀ {l : List (Nat × α)} {n : Nat} {a : α}, ri_find l n = some a → (n, a) ∈ l
  | [], n, a, h => by cases h
  | q :: l, n, a, h => by
    unfold ri_find at h
    cases hb : Nat.beq q.1 n with
    | true =>
      rw [hb] at h
      cases h
      have e : q.1 = n := Nat.eq_of_beq_eq_true hb
      rw [← e]
      exact List.mem_cons_self
    | false =>
      rw [hb] at h
      exact List.mem_cons_of_mem _ (ri_find_mem h)
theorem ri_tab_mem {α : Type} {L : List (List (Nat × α))} {c i : Nat} {a : α} (h : ri_tab L c i = some a) : ∃ l, ri_nth L c = some l ∧ (i, a) ∈ l := by
  unfold ri_tab at h
  split at h
  · rename_i l e
    exact ⟨l, e, ri_find_mem h⟩
  · cases h
def ri_ilen : Instr → Nat
  | .bipush _ => 2
  | .iload _ => 2
  | .lload _ => 2
  | .aload _ => 2
  | .istore _ => 2
  | .lstore _ => 2
  | .astore _ => 2
  | .ldc _ => 2
  | .sipush _ => 3
  | .iinc _ _ => 3
  | .goto _ => 3
  | .ifCond _ _ => 3
  | .if_icmp _ _ => 3
  | .ifnull _ => 3
  | .ifnonnull _ => 3
  | .ldc_w _ => 3
  | .ldc2_w _ => 3
  | .getfield _ => 3
  | .putfield _ => 3
  | .getstatic _ => 3
  | .invokestatic _ => 3
  | .invokevirtual _ => 3
  | .invokespecial _ => 3
  | .new _ => 3
  | .anewarray _ => 3
  | .newarray _ => 2
  | _ => 1
def ri_cok (i : Instr) (ln : Nat) (v : Value) (pc ml : Nat) : Bool := match i with
  | .iconst n => decide (ln = 1) && decide (v = .int (Int32.ofInt n))
  | .bipush n => decide (ln = 2) && decide (v = .int (Int8.ofInt n).toInt32)
  | .sipush n => decide (ln = 3) && decide (v = .int (Int16.ofInt n).toInt32)
  | .iinc i n => decide (ln = 3) && decide (v = .int (Int32.ofInt n)) && decide (i < ml)
  | .istore i => decide (ln = 2) && decide (i < ml)
  | .istore_n i => decide (ln = 1) && decide ((i : Nat) < ml)
  | .astore i => decide (ln = 2) && decide (i < ml)
  | .astore_n i => decide (ln = 1) && decide ((i : Nat) < ml)
  | .lstore i => decide (ln = 2) && decide (i + 1 < ml)
  | .lstore_n i => decide (ln = 1) && decide ((i : Nat) + 1 < ml)
  | .goto o => decide (ln = 3) && (match v with | .retAddr t => decide ((pc : Int) + o = (t : Int)) | _ => false)
  | .ifCond _ o => decide (ln = 3) && (match v with | .retAddr t => decide ((pc : Int) + o = (t : Int)) | _ => false)
  | .if_icmp _ o => decide (ln = 3) && (match v with | .retAddr t => decide ((pc : Int) + o = (t : Int)) | _ => false)
  | .ifnull o => decide (ln = 3) && (match v with | .retAddr t => decide ((pc : Int) + o = (t : Int)) | _ => false)
  | .ifnonnull o => decide (ln = 3) && (match v with | .retAddr t => decide ((pc : Int) + o = (t : Int)) | _ => false)
  | .tableswitch _ _ _ _ => true
  | i => decide (ln = ri_ilen i)
def ri_chk (ml : Nat) (b : ByteArray) (t : ri_CD) (pc : Nat) : Bool := match ri_ins t pc with
  | none => true
  | some (i, ln, v) => decide (decode b pc = .ok (i, ln)) && ri_cok i ln v pc ml
def ri_chka (ml : Nat) (b : ByteArray) (t : ri_CD) : Bool := (List.range (16 * t.length)).all (ri_chk ml b t)
theorem ri_chk_use {ml : Nat} {b : ByteArray} {t : ri_CD} (h : ri_chka ml b t = true) {pc : Nat} {i : Instr} {ln : Nat} {v : Value} (hi : ri_ins t pc = some (i, ln, v)) : decode b pc = .ok (i, ln) ∧ ri_cok i ln v pc ml = true := by
  have hl : pc < 16 * t.length := by
    unfold ri_ins at hi
    split at hi
    · rename_i e he
      exact ri_at_lt he
    · cases hi
  have h1 := List.all_eq_true.mp h pc (List.mem_range.mpr hl)
  unfold ri_chk at h1
  rw [hi] at h1
  simp only [Bool.and_eq_true, decide_eq_true_eq] at h1
  exact h1
def ri_y (t : ri_MT) : MethodName := t.1
def ri_b (t : ri_MT) : ByteArray := t.2.1
def ri_pos (t : ri_MT) : List Nat := t.2.2.2.2.2.2.2.1
def ri_wchk (t : ri_MT) : Bool := match ri_flag t, ri_pos t with
  | 0, [_, b, c] => ri_wat b (.initialized (ri_y t).cls) && ri_wat c (.static (ri_y t))
  | 1, [_, b, c, d] => ri_wat b (.initialized (ri_y t).cls) && (ri_wat c (.instanceMethod (ri_y t)) && ri_wat d (.selects (ri_y t).cls (ri_y t) (ri_y t)))
  | 2, _ => true
  | _, _ => false
def ri_nchk (t : ri_MT) : Bool := decide ((ri_y t).cls ≠ "java/lang/invoke/MethodHandle") && decide ((ri_y t).cls ≠ "java/lang/invoke/VarHandle") && plainName (ri_y t).cls && (decide (((parseMethodDescriptor (ri_y t).desc).map (fun d => d.parameters.length)) = some (ri_nargs t)) || decide (ri_flag t = 2)) && decide (ri_nth ri_own (ri_mcl t) = some (ri_y t).cls) && Nat.ble (ri_ml0 t) 40
def ri_all1 (f : ri_MT → Bool) : Bool := ri_mtl.all (fun l => l.all f)
theorem ri_all1_use {f : ri_MT → Bool} (h : ri_all1 f = true) {j : Nat} {t : ri_MT} (ht : ri_mt j = some t) : f t = true := by
  obtain ⟨l, h1, h2⟩ := ri_at_mem ht
  exact List.all_eq_true.mp (List.all_eq_true.mp h l h1) t h2
set_option maxRecDepth 100000 in
theorem ri_wchk_ok : ri_all1 ri_wchk = true := by decide +kernel
set_option maxRecDepth 100000 in
theorem ri_nchk_ok : ri_all1 ri_nchk = true := by decide +kernel
-- links
def ri_cn (c : Nat) : String := match ri_nth ri_own c with
  | some s => s
  | none => ""
def ri_mlc (c : Nat) (q : Nat × Nat × Nat × Nat) : Bool := match q with
  | (i, 2, j, p) => (match ri_mt j with
    | some t => decide (ri_nth ri_nest p = some (.methodLinkNest (ri_cn c) i (ri_y t) "RoadsNotGoneBy"))
    | none => false)
  | (i, 3, _, p) => ri_wat p (.methodLink (ri_cn c) i Lib.Math.max.name)
  | (i, 4, _, p) => ri_wat p (.methodLink (ri_cn c) i Lib.Math.min.name)
  | (i, 5, _, p) => ri_wat p (.methodLink (ri_cn c) i arraycopyName)
  | (i, _, j, p) => (match ri_mt j with
    | some t => ri_wat p (.methodLink (ri_cn c) i (ri_y t))
    | none => false)
def ri_flc (c : Nat) (q : Nat × Nat × Nat × Nat) : Bool := match q with
  | (i, 100, 0, p) => ri_wat p (.fieldLink (ri_cn c) i "java/lang/String" "coder" "B")
  | (i, 100, 1, p) => ri_wat p (.fieldLink (ri_cn c) i "java/lang/String" "value" "[B")
  | (i, ci, k, p) => (match ri_nth ri_cls ci with
    | some r => ri_wat p (.fieldLink (ri_cn c) i r.1 (r.2.1 k).2.1 (r.2.1 k).2.2.1) && Nat.blt k r.2.2 && decide ((r.2.1 k).1 = r.1)
    | none => false)
def ri_clc (c : Nat) (q : Nat × Value × Nat) : Bool := match q with
  | (i, .int v, p) => ri_wat p (.constant (ri_cn c) i v)
  | (i, .long v, p) => ri_wat p (.constantLong (ri_cn c) i v)
  | (i, .ref k, p) => decide (k = 1000 + p) && (match ri_nth ri_strs p with
    | some r => decide (r.1 = ri_cn c) && decide (r.2.1 = i)
    | none => false)
  | _ => false
def ri_slc (c : Nat) (q : Nat × Nat × Nat) : Bool := match q with
  | (i, 0, p) => ri_wat p (.fieldLink (ri_cn c) i "RoadsNotGoneBy" "UNDER" "[I")
  | (i, 1, p) => ri_wat p (.fieldLink (ri_cn c) i "java/lang/String" "COMPACT_STRINGS" "Z")
  | (i, 2, p) => ri_wat p (.fieldLink (ri_cn c) i "jdk/internal/util/Preconditions" "SIOOBE_FORMATTER" "Ljava/util/function/BiFunction;")
  | _ => false
def ri_all2 {α : Type} (L : List (List α)) (f : Nat → α → Bool) : Bool := (List.range L.length).all (fun c => match ri_nth L c with
  | some l => l.all (f c)
  | none => true)
theorem ri_all2_use {α : Type} {L : List (List (Nat × α))} {f : Nat → Nat × α → Bool} (h : ri_all2 L f = true) {c i : Nat} {a : α} (ha : ri_tab L c i = some a) : f c (i, a) = true := by
  obtain ⟨l, h1, h2⟩ := ri_tab_mem ha
  have hc : c < L.length := by
    rw [ri_nth_eq] at h1
    exact (List.getElem?_eq_some_iff.mp h1).1
  have h3 := List.all_eq_true.mp h c (List.mem_range.mpr hc)
  rw [h1] at h3
  exact List.all_eq_true.mp h3 _ h2
set_option maxRecDepth 100000 in
theorem ri_mlc_ok : ri_all2 ri_ml ri_mlc = true := by decide +kernel
set_option maxRecDepth 100000 in
theorem ri_flc_ok : ri_all2 ri_fl ri_flc = true := by decide +kernel
set_option maxRecDepth 100000 in
theorem ri_clc_ok : ri_all2 ri_cl ri_clc = true := by decide +kernel
set_option maxRecDepth 100000 in
theorem ri_slc_ok : ri_all2 ri_sl ri_slc = true := by decide +kernel
-- fields laid, the layout
def ri_lyw (c : Nat) (r : vw_C) : Bool := (List.range r.2.2).all (fun k => ri_wat (((ri_layp.getD c []).getD k 0)) (u_lay r.1 r.2.1 k))
set_option maxRecDepth 100000 in
theorem ri_lyw_ok : (List.range ri_cls.length).all (fun c => match ri_nth ri_cls c with
  | some r => ri_lyw c r
  | none => true) = true := by decide +kernel
theorem ri_lays {c : Nat} {r : vw_C} (h : ri_nth ri_cls c = some r) : ∀ w ∈ u_ws r.1 r.2.1 r.2.2, w ∈ lw_all := by
  have hc : c < ri_cls.length := by
    rw [ri_nth_eq] at h
    exact (List.getElem?_eq_some_iff.mp h).1
  have h1 := List.all_eq_true.mp ri_lyw_ok c (List.mem_range.mpr hc)
  rw [h] at h1
  intro w hw
  obtain ⟨k, hk, rfl⟩ := List.mem_map.mp hw
  exact ri_wat_in (List.all_eq_true.mp h1 k hk)
def ri_lay (k : Nat) : ri_LK := match ri_at ri_lyl k with
  | some x => x
  | none => .inl (999, [])
def ri_kok (r : vw_C) (j : Nat) (q : Nat × Nat) : Bool := match q with
  | (0, _) => decide ((r.2.1 j).2.2.1 = "I") && decide ((r.2.1 j).2.2.2 = false)
  | (1, _) => decide ((r.2.1 j).2.2.1 = "Z") && decide ((r.2.1 j).2.2.2 = false)
  | (2, _) => decide ((r.2.1 j).2.2.1 = "J") && decide ((r.2.1 j).2.2.2 = false)
  | (3, t) => decide (t < ri_K)
  | _ => false
def ri_lyk (x : ri_LK) : Bool := match x with
  | .inl (ci, fl) => (match ri_nth ri_cls ci with
    | some r => decide (fl.length = r.2.2) && (List.range r.2.2).all (fun j => match ri_nth fl j with
      | some q => ri_kok r j q
      | none => false)
    | none => false)
  | .inr (.inl (ty, _)) => decide (ty = .int) || decide (ty = .boolean) || decide (ty = .long)
  | .inr (.inr (_, tg)) => tg.all (fun t => decide (t < ri_K))
theorem ri_lyk_ok : ri_lyl.all (fun l => l.all ri_lyk) = true := by decide +kernel
theorem ri_K_le : ri_K ≤ 900 := by decide
theorem ri_lay_out : ∀ k, k < 16 * ri_lyl.length → ri_K ≤ k → (ri_at ri_lyl k).isNone = true := by decide +kernel
theorem ri_lay_use {k : Nat} {x : ri_LK} (h : ri_lay k = x) (hx : ∀ l, x ≠ .inl (999, l)) : k < ri_K ∧ ri_lyk x = true := by
  unfold ri_lay at h
  split at h
  · rename_i y e
    subst h
    refine ⟨?_, ?_⟩
    · have h1 := ri_at_lt e
      rcases Nat.lt_or_ge k ri_K with q | q
      · exact q
      · have := ri_lay_out k h1 q
        rw [e] at this
        cases this
    · obtain ⟨l, h1, h2⟩ := ri_at_mem e
      exact List.all_eq_true.mp (List.all_eq_true.mp ri_lyk_ok l h1) _ h2
  · exact absurd h.symm (hx [])
theorem ri_ty_ok {c : Nat} {r : vw_C} (h : ri_nth ri_cls c = some r) : (∀ k, k < r.2.2 → parseFieldDescriptor (r.2.1 k).2.2.1 = some (ri_ty c k)) ∧ ∀ a, a < r.2.2 → ∀ b, b < r.2.2 → a ≠ b → (r.2.1 a).2.1 ≠ (r.2.1 b).2.1 := by
  match c, h with
  | 0, h => cases h; exact ⟨tyX0_ok, nmX0⟩
  | 1, h => cases h; exact ⟨tyX1_ok, nmX1⟩
  | 2, h => cases h; exact ⟨tyX2_ok, nmX2⟩
  | 3, h => cases h; exact ⟨tyX3_ok, nmX3⟩
  | 4, h => cases h; exact ⟨tyX4_ok, nmX4⟩
  | n + 5, h => cases h
