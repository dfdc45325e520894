/-! SOUND, 2: one instruction -/
def ri_T (Wf : Heap → List Loc → JFrame → Prop) (m : MethodId) (mi nL : Nat) (D : va_G) (ad : Nat → Nat) (cA : Nat → ClassId) (fz : Value) (A : Nat → Prop) (H0 : Heap) (fr : ri_F) (S : ri_H) : Prop := fr.1 = mi ∧ ∀ (H : Heap) (locs : List Loc) (ls : Array Slot), va_P D ri_cls (ri_wld ad cA S) H → va_S A H0 H locs → ri_lr ad fz ls nL fr.2.2.1 → Wf H locs (F0 m fr.2.1 ls (fr.2.2.2.map (ri_cv ad fz)))
theorem ri_cv_ne {ad : Nat → Nat} {fz : Value} {k : Nat} (h : Nat.beq k 4000 = false) : ri_cv ad fz (.ref k) = .ref (ad k) := by
  rw [ri_cv_ref, h]
  rfl
theorem ri_ne4000 {k : Nat} (h : k < ri_K) : Nat.beq k 4000 = false := by
  have := ri_K_le
  rw [← Bool.not_eq_true]
  intro e
  have := Nat.eq_of_beq_eq_true e
  omega
def ri_Ty (cA : Nat → ClassId) (tys : List (ClassId × FieldType)) : Prop := ∀ k, k < ri_K → (∀ ty n, ri_lay k = .inr (.inl (ty, n)) → ∃ t0 : Nat, tys[t0]? = some (cA k, ty)) ∧ (∀ C tg, ri_lay k = .inr (.inr (C, tg)) → ∃ t0 : Nat, tys[t0]? = some (cA k, .object C))
def ri_rm (d : Nat) : Room := { frames := d + 1, cells := 0, slots := 0, locals := 64 * (d + 1) }
def ri_wsm (t : ri_MT) : List Cond := .code (ri_y t) (ri_b t) (ri_ml0 t) (ri_ret t) :: lw_all
def ri_Aw (ad : Nat → Nat) : Nat → Prop := fun q => ∃ k, k < ri_K ∧ q = ad k
def ri_Pc (D : va_G) (tys : List (ClassId × FieldType)) (ad : Nat → Nat) (cA : Nat → ClassId) (fz : Value) (E : ri_E) (As : List Value) (S : ri_H) : Array Value → State → Prop := va_Pc (As.map (ri_cv ad fz)) (fun U => ri_EF D tys ad fz E (ri_Aw ad) U U.heap ∧ va_P D ri_cls (ri_wld ad cA S) U.heap)
def ri_Qc (D : va_G) (ad : Nat → Nat) (cA : Nat → ClassId) (fz : Value) (v : Option Value) (S : ri_H) : Array Value → State → Outcome → State → Prop := fun _ st o u => o = .returned (v.map (ri_cv ad fz)) ∧ va_P D ri_cls (ri_wld ad cA S) u.heap ∧ va_F (ri_Aw ad) st u
def ri_rtok (cc : ByteArray) (pc : Nat) : Option Value → Prop
  | none => decode cc pc = .ok (.return_, 1)
  | some (.int _) => decode cc pc = .ok (.ireturn, 1)
  | some (.long _) => decode cc pc = .ok (.lreturn, 1)
  | some (.ref k) => decode cc pc = .ok (.areturn, 1) ∧ Nat.beq k 4000 = false
  | some .null => decode cc pc = .ok (.areturn, 1)
  | _ => False
def ri_Kx (l : Launch) (R : Room) (Wf : Heap → List Loc → JFrame → Prop) (m : MethodId) (t : ri_MT) (mi : Nat) (D : va_G) (tys : List (ClassId × FieldType)) (ad : Nat → Nat) (cA : Nat → ClassId) (fz : Value) (E : ri_E) (A : Nat → Prop) (H0 : Heap) (pc : Nat) (x : (ri_F × ri_H) ⊕ ((Bool × (ri_F × ri_H) × (ri_F × ri_H)) ⊕ ((Nat × List Value × ri_F × ri_H) ⊕ (Nat × Option Value × ri_H)))) : Prop := match x with
  | .inl r => r.1.1 = mi → ri_T Wf m mi (ri_ml0 t) D ad cA fz A H0 r.1 r.2
  | .inr (.inl b) => (b.1 = true → b.2.1.1.1 = mi → ri_T Wf m mi (ri_ml0 t) D ad cA fz A H0 b.2.1.1 b.2.1.2) ∧ (b.1 = false → b.2.2.1.1 ≠ 1000000 ∧ (b.2.2.1.1 = mi → ri_T Wf m mi (ri_ml0 t) D ad cA fz A H0 b.2.2.1 b.2.2.2))
  | .inr (.inr (.inl q)) => ∀ u : ri_MT, ri_mt q.1 = some u → ri_flag u ≠ 2 → ∃ (d : Nat) (v : Option Value) (S1 : ri_H), d + 2 ≤ R.frames ∧ 64 * (d + 2) ≤ R.locals ∧ Met l (ri_y u) (ri_wsm u) (ri_rm d) (ri_Pc D tys ad cA fz E q.2.1 q.2.2.2) (ri_Qc D ad cA fz v S1) 0 0 (ri_Aw ad) ∧ ((ri_push q.2.2.1 v).1 = mi → ri_T Wf m mi (ri_ml0 t) D ad cA fz A H0 (ri_push q.2.2.1 v) S1)
  | .inr (.inr (.inr r)) => r.1 = mi → ∀ (H : Heap) (locs : List Loc) (ls : Array Slot), va_P D ri_cls (ri_wld ad cA r.2.2) H → va_S A H0 H locs → ri_rtok (ri_b t) pc r.2.1 → Wf H locs (F0 m pc ls (r.2.1.toList.map (ri_cv ad fz)))
abbrev ri_Wf (p : Program) (l : Launch) (e : Env) (R : Room) (s : State) (m : MethodId) (args : Array Value) (below : List Frame) (meth : Method) (c : Code) (cells slots : Nat) (Q : State → Prop) : Heap → List Loc → JFrame → Prop := fun H locs g => W p l e R s m args below meth c H locs cells slots Q g
/-- what a walk knows of its method -/
def ri_Cx (p : Program) (s : State) (m : MethodId) (args : Array Value) (c : Code) (t : ri_MT) (D : va_G) (tys : List (ClassId × FieldType)) (ad : Nat → Nat) (fz : Value) (E : ri_E) (A : Nat → Prop) : Prop := p.tables.exec = Jvm.exec ∧ c.code = ri_b t ∧ c.maxLocals = ri_ml0 t ∧ s.vm.findClass (ri_y t).cls = some m.cls ∧ (∀ w ∈ lw_all, w.before args s = true) ∧ ri_EF D tys ad fz E A s s.heap ∧ (∀ k, k < ri_K → A (ad k))
/-- what holds of the addresses -/
def ri_Ad (ad : Nat → Nat) (cA : Nat → ClassId) (fz : Value) (tys : List (ClassId × FieldType)) : Prop := (∀ i j, i < ri_K → j < ri_K → ad i = ad j → i = j) ∧ (fz = .null ∨ ∃ a, fz = .ref a) ∧ ri_Ty cA tys

section ONE
variable {p : Program} {l : Launch} {e : Env} {R : Room} {s : State} {m : MethodId} {args : Array Value} {below : List Frame} {meth : Method} {c : Code} {cells slots : Nat} {Q : State → Prop}
variable {t : ri_MT} {mi : Nat} {D : va_G} {tys : List (ClassId × FieldType)} {ad : Nat → Nat} {cA : Nat → ClassId} {fz : Value} {E : ri_E} {A : Nat → Prop}
variable {pc pc' : Nat} {L : List (Option Value)} {st : List Value} {S : ri_H} {x : (ri_F × ri_H) ⊕ ((Bool × (ri_F × ri_H) × (ri_F × ri_H)) ⊕ ((Nat × List Value × ri_F × ri_H) ⊕ (Nat × Option Value × ri_H)))}
theorem rs_i2 {f : Int32 → Int32 → Int32} (hr : ri_i2 f mi pc' L S st = some x) (kx : ri_Kx l R (ri_Wf p l e R s m args below meth c cells slots Q) m t mi D tys ad cA fz E A s.heap pc x) (row : ∀ (x y : Int32) (rest : List Value) (H : Heap) (locs : List Loc) (ls : Array Slot), W p l e R s m args below meth c H locs cells slots Q (F0 m pc' ls (.int (f x y) :: rest)) → W p l e R s m args below meth c H locs cells slots Q (F0 m pc ls (.int y :: .int x :: rest))) : ri_T (ri_Wf p l e R s m args below meth c cells slots Q) m mi (ri_ml0 t) D ad cA fz A s.heap (mi, pc, L, st) S := by
  unfold ri_i2 at hr
  split at hr
  · cases hr
    exact ⟨rfl, fun H locs ls hP hS hl => row _ _ _ H locs ls ((kx rfl).2 H locs ls hP hS hl)⟩
  · cases hr
theorem rs_i1 {f : Int32 → Int32} (hr : ri_i1 f mi pc' L S st = some x) (kx : ri_Kx l R (ri_Wf p l e R s m args below meth c cells slots Q) m t mi D tys ad cA fz E A s.heap pc x) (row : ∀ (x : Int32) (rest : List Value) (H : Heap) (locs : List Loc) (ls : Array Slot), W p l e R s m args below meth c H locs cells slots Q (F0 m pc' ls (.int (f x) :: rest)) → W p l e R s m args below meth c H locs cells slots Q (F0 m pc ls (.int x :: rest))) : ri_T (ri_Wf p l e R s m args below meth c cells slots Q) m mi (ri_ml0 t) D ad cA fz A s.heap (mi, pc, L, st) S := by
  unfold ri_i1 at hr
  split at hr
  · cases hr
    exact ⟨rfl, fun H locs ls hP hS hl => row _ _ H locs ls ((kx rfl).2 H locs ls hP hS hl)⟩
  · cases hr
theorem rs_l2 {f : Int64 → Int64 → Int64} (hr : ri_l2 f mi pc' L S st = some x) (kx : ri_Kx l R (ri_Wf p l e R s m args below meth c cells slots Q) m t mi D tys ad cA fz E A s.heap pc x) (row : ∀ (x y : Int64) (rest : List Value) (H : Heap) (locs : List Loc) (ls : Array Slot), W p l e R s m args below meth c H locs cells slots Q (F0 m pc' ls (.long (f x y) :: rest)) → W p l e R s m args below meth c H locs cells slots Q (F0 m pc ls (.long y :: .long x :: rest))) : ri_T (ri_Wf p l e R s m args below meth c cells slots Q) m mi (ri_ml0 t) D ad cA fz A s.heap (mi, pc, L, st) S := by
  unfold ri_l2 at hr
  split at hr
  · cases hr
    exact ⟨rfl, fun H locs ls hP hS hl => row _ _ _ H locs ls ((kx rfl).2 H locs ls hP hS hl)⟩
  · cases hr
theorem rs_i2g {f : Int32 → Int32 → Int32} (hmi : mi ≠ 1000000) (hr : ri_i2g f mi pc' L S st = some x) (kx : ri_Kx l R (ri_Wf p l e R s m args below meth c cells slots Q) m t mi D tys ad cA fz E A s.heap pc x) (row : ∀ (x y : Int32) (rest : List Value) (H : Heap) (locs : List Loc) (ls : Array Slot), ¬ y = 0 → W p l e R s m args below meth c H locs cells slots Q (F0 m pc' ls (.int (f x y) :: rest)) → W p l e R s m args below meth c H locs cells slots Q (F0 m pc ls (.int y :: .int x :: rest))) : ri_T (ri_Wf p l e R s m args below meth c cells slots Q) m mi (ri_ml0 t) D ad cA fz A s.heap (mi, pc, L, st) S := by
  unfold ri_i2g at hr
  split at hr
  · rename_i y x0 r0
    cases hr
    obtain ⟨k1, k2⟩ := kx
    by_cases hy : y = 0
    · exact absurd rfl (k2 (decide_eq_false (fun q => q hy))).1
    · exact ⟨rfl, fun H locs ls hP hS hl => row _ _ _ H locs ls hy ((k1 (decide_eq_true hy) rfl).2 H locs ls hP hS hl)⟩
  · cases hr
theorem rs_l2g {f : Int64 → Int64 → Int64} (hmi : mi ≠ 1000000) (hr : ri_l2g f mi pc' L S st = some x) (kx : ri_Kx l R (ri_Wf p l e R s m args below meth c cells slots Q) m t mi D tys ad cA fz E A s.heap pc x) (row : ∀ (x y : Int64) (rest : List Value) (H : Heap) (locs : List Loc) (ls : Array Slot), ¬ y = 0 → W p l e R s m args below meth c H locs cells slots Q (F0 m pc' ls (.long (f x y) :: rest)) → W p l e R s m args below meth c H locs cells slots Q (F0 m pc ls (.long y :: .long x :: rest))) : ri_T (ri_Wf p l e R s m args below meth c cells slots Q) m mi (ri_ml0 t) D ad cA fz A s.heap (mi, pc, L, st) S := by
  unfold ri_l2g at hr
  split at hr
  · rename_i y x0 r0
    cases hr
    obtain ⟨k1, k2⟩ := kx
    by_cases hy : y = 0
    · exact absurd rfl (k2 (decide_eq_false (fun q => q hy))).1
    · exact ⟨rfl, fun H locs ls hP hS hl => row _ _ _ H locs ls hy ((k1 (decide_eq_true hy) rfl).2 H locs ls hP hS hl)⟩
  · cases hr
theorem rs_ld {w : Option Value} (hr : ri_ld mi pc' L st S w = some x) (kx : ri_Kx l R (ri_Wf p l e R s m args below meth c cells slots Q) m t mi D tys ad cA fz E A s.heap pc x) (row : ∀ (v : Value) (H : Heap) (locs : List Loc) (ls : Array Slot), w = some v → va_P D ri_cls (ri_wld ad cA S) H → va_S A s.heap H locs → ri_lr ad fz ls (ri_ml0 t) L → W p l e R s m args below meth c H locs cells slots Q (F0 m pc' ls (ri_cv ad fz v :: st.map (ri_cv ad fz))) → W p l e R s m args below meth c H locs cells slots Q (F0 m pc ls (st.map (ri_cv ad fz)))) : ri_T (ri_Wf p l e R s m args below meth c cells slots Q) m mi (ri_ml0 t) D ad cA fz A s.heap (mi, pc, L, st) S := by
  unfold ri_ld at hr
  split at hr
  · cases hr
    exact ⟨rfl, fun H locs ls hP hS hl => row _ H locs ls rfl hP hS hl ((kx rfl).2 H locs ls hP hS hl)⟩
  · cases hr
theorem rs_ist (hz : fz = .null ∨ ∃ a, fz = .ref a) {i : Nat} (hr : ri_ist mi pc' i L S st = some x) (kx : ri_Kx l R (ri_Wf p l e R s m args below meth c cells slots Q) m t mi D tys ad cA fz E A s.heap pc x) (row : ∀ (v : Int32) (rest : List Value) (H : Heap) (locs : List Loc) (ls : Array Slot), lv_has ls (ri_ml0 t) (ri_ents ad fz (ri_ml0 t) L) → (∀ ls' : Array Slot, lv_has ls' (ri_ml0 t) ((i, .int v) :: (ri_ents ad fz (ri_ml0 t) L).filter (fun q => !(q.1 == i) && !(q.1 + 1 == i && q.2.category == 2))) → W p l e R s m args below meth c H locs cells slots Q (F0 m pc' ls' (rest))) → W p l e R s m args below meth c H locs cells slots Q (F0 m pc ls (.int v :: rest))) : ri_T (ri_Wf p l e R s m args below meth c cells slots Q) m mi (ri_ml0 t) D ad cA fz A s.heap (mi, pc, L, st) S := by
  unfold ri_ist at hr
  split at hr
  · cases hr
    exact ⟨rfl, fun H locs ls hP hS hl => row _ _ H locs ls hl.has (fun ls' h' => (kx rfl).2 H locs ls' hP hS (hl.st1 hz (v := .int _) h'))⟩
  · cases hr
theorem rs_lst (hz : fz = .null ∨ ∃ a, fz = .ref a) {i : Nat} (hr : ri_lst mi pc' i L S st = some x) (kx : ri_Kx l R (ri_Wf p l e R s m args below meth c cells slots Q) m t mi D tys ad cA fz E A s.heap pc x) (row : ∀ (v : Int64) (rest : List Value) (H : Heap) (locs : List Loc) (ls : Array Slot), lv_has ls (ri_ml0 t) (ri_ents ad fz (ri_ml0 t) L) → (∀ ls' : Array Slot, lv_has ls' (ri_ml0 t) ((i, .long v) :: (ri_ents ad fz (ri_ml0 t) L).filter (fun q => !(q.1 == i) && (!(q.1 == i + 1) && !(q.1 + 1 == i && q.2.category == 2)))) → W p l e R s m args below meth c H locs cells slots Q (F0 m pc' ls' (rest))) → W p l e R s m args below meth c H locs cells slots Q (F0 m pc ls (.long v :: rest))) : ri_T (ri_Wf p l e R s m args below meth c cells slots Q) m mi (ri_ml0 t) D ad cA fz A s.heap (mi, pc, L, st) S := by
  unfold ri_lst at hr
  split at hr
  · cases hr
    exact ⟨rfl, fun H locs ls hP hS hl => row _ _ H locs ls hl.has (fun ls' h' => (kx rfl).2 H locs ls' hP hS (hl.st2 hz (v := .long _) h'))⟩
  · cases hr
theorem rs_ast (hz : fz = .null ∨ ∃ a, fz = .ref a) {i : Nat} (hr : ri_ast mi pc' i L S st = some x) (kx : ri_Kx l R (ri_Wf p l e R s m args below meth c cells slots Q) m t mi D tys ad cA fz E A s.heap pc x) (row : ∀ (a : Nat) (rest : List Value) (H : Heap) (locs : List Loc) (ls : Array Slot), lv_has ls (ri_ml0 t) (ri_ents ad fz (ri_ml0 t) L) → (∀ ls' : Array Slot, lv_has ls' (ri_ml0 t) ((i, .ref a) :: (ri_ents ad fz (ri_ml0 t) L).filter (fun q => !(q.1 == i) && !(q.1 + 1 == i && q.2.category == 2))) → W p l e R s m args below meth c H locs cells slots Q (F0 m pc' ls' (rest))) → W p l e R s m args below meth c H locs cells slots Q (F0 m pc ls (.ref a :: rest))) (rowN : ∀ (rest : List Value) (H : Heap) (locs : List Loc) (ls : Array Slot), lv_has ls (ri_ml0 t) (ri_ents ad fz (ri_ml0 t) L) → (∀ ls' : Array Slot, lv_has ls' (ri_ml0 t) ((i, .null) :: (ri_ents ad fz (ri_ml0 t) L).filter (fun q => !(q.1 == i) && !(q.1 + 1 == i && q.2.category == 2))) → W p l e R s m args below meth c H locs cells slots Q (F0 m pc' ls' (rest))) → W p l e R s m args below meth c H locs cells slots Q (F0 m pc ls (.null :: rest))) : ri_T (ri_Wf p l e R s m args below meth c cells slots Q) m mi (ri_ml0 t) D ad cA fz A s.heap (mi, pc, L, st) S := by
  unfold ri_ast at hr
  split at hr
  · rename_i k r0
    cases hk : Nat.beq k 4000 with
    | true => rw [hk] at hr; cases hr
    | false =>
      rw [hk] at hr
      cases hr
      refine ⟨rfl, fun H locs ls hP hS hl => ?_⟩
      show W p l e R s m args below meth c H locs cells slots Q (F0 m pc ls (ri_cv ad fz (.ref k) :: r0.map (ri_cv ad fz)))
      rw [ri_cv_ne hk]
      exact row _ _ H locs ls hl.has (fun ls' h' => (kx rfl).2 H locs ls' hP hS (hl.st1 hz (v := .ref k) (by rw [ri_cv_ne hk]; exact h')))
  · cases hr
    exact ⟨rfl, fun H locs ls hP hS hl => rowN _ H locs ls hl.has (fun ls' h' => (kx rfl).2 H locs ls' hP hS (hl.st1 hz (v := .null) h'))⟩
  · cases hr
theorem rs_iinc (hz : fz = .null ∨ ∃ a, fz = .ref a) {i : Nat} {w : Value} (hr : ri_iinc mi pc' i L st S w (ri_get L i) = some x) (kx : ri_Kx l R (ri_Wf p l e R s m args below meth c cells slots Q) m t mi D tys ad cA fz E A s.heap pc x) (row : ∀ (n y : Int32) (H : Heap) (locs : List Loc) (ls : Array Slot), w = .int n → ri_get L i = some (.int y) → lv_has ls (ri_ml0 t) (ri_ents ad fz (ri_ml0 t) L) → (∀ ls' : Array Slot, lv_has ls' (ri_ml0 t) ((i, .int (y + n)) :: (ri_ents ad fz (ri_ml0 t) L).filter (fun q => !(q.1 == i) && !(q.1 + 1 == i && q.2.category == 2))) → W p l e R s m args below meth c H locs cells slots Q (F0 m pc' ls' (st.map (ri_cv ad fz)))) → W p l e R s m args below meth c H locs cells slots Q (F0 m pc ls (st.map (ri_cv ad fz)))) : ri_T (ri_Wf p l e R s m args below meth c cells slots Q) m mi (ri_ml0 t) D ad cA fz A s.heap (mi, pc, L, st) S := by
  unfold ri_iinc at hr
  split at hr
  · rename_i n y hg
    cases hr
    exact ⟨rfl, fun H locs ls hP hS hl => row _ _ H locs ls rfl hg hl.has (fun ls' h' => (kx rfl).2 H locs ls' hP hS (hl.st1 hz (v := .int (y + n)) h'))⟩
  · cases hr
theorem rs_if0 {cd : ClassFile.Cond} {w : Value} (hr : ri_if0 cd mi pc' L S w st = some x) (kx : ri_Kx l R (ri_Wf p l e R s m args below meth c cells slots Q) m t mi D tys ad cA fz E A s.heap pc x) (row : ∀ (tg : Nat) (y : Int32) (rest : List Value) (H : Heap) (locs : List Loc) (ls : Array Slot), w = .retAddr tg → (ri_c0 cd y = true → W p l e R s m args below meth c H locs cells slots Q (F0 m tg ls (rest))) → (ri_c0 cd y = false → W p l e R s m args below meth c H locs cells slots Q (F0 m pc' ls (rest))) → W p l e R s m args below meth c H locs cells slots Q (F0 m pc ls (.int y :: rest))) : ri_T (ri_Wf p l e R s m args below meth c cells slots Q) m mi (ri_ml0 t) D ad cA fz A s.heap (mi, pc, L, st) S := by
  unfold ri_if0 at hr
  split at hr
  · cases hr
    exact ⟨rfl, fun H locs ls hP hS hl => row _ _ _ H locs ls rfl (fun hc => (kx.1 hc rfl).2 H locs ls hP hS hl) (fun hc => ((kx.2 hc).2 rfl).2 H locs ls hP hS hl)⟩
  · cases hr
theorem rs_if2 {cd : ClassFile.Cond} {w : Value} (hr : ri_if2 cd mi pc' L S w st = some x) (kx : ri_Kx l R (ri_Wf p l e R s m args below meth c cells slots Q) m t mi D tys ad cA fz E A s.heap pc x) (row : ∀ (tg : Nat) (y z : Int32) (rest : List Value) (H : Heap) (locs : List Loc) (ls : Array Slot), w = .retAddr tg → (ri_c2 cd y z = true → W p l e R s m args below meth c H locs cells slots Q (F0 m tg ls (rest))) → (ri_c2 cd y z = false → W p l e R s m args below meth c H locs cells slots Q (F0 m pc' ls (rest))) → W p l e R s m args below meth c H locs cells slots Q (F0 m pc ls (.int z :: .int y :: rest))) : ri_T (ri_Wf p l e R s m args below meth c cells slots Q) m mi (ri_ml0 t) D ad cA fz A s.heap (mi, pc, L, st) S := by
  unfold ri_if2 at hr
  split at hr
  · cases hr
    exact ⟨rfl, fun H locs ls hP hS hl => row _ _ _ _ H locs ls rfl (fun hc => (kx.1 hc rfl).2 H locs ls hP hS hl) (fun hc => ((kx.2 hc).2 rfl).2 H locs ls hP hS hl)⟩
  · cases hr
theorem rs_jump {w : Value} (hr : ri_jump mi L st S w = some x) (kx : ri_Kx l R (ri_Wf p l e R s m args below meth c cells slots Q) m t mi D tys ad cA fz E A s.heap pc x) (row : ∀ (tg : Nat) (H : Heap) (locs : List Loc) (ls : Array Slot), w = .retAddr tg → W p l e R s m args below meth c H locs cells slots Q (F0 m tg ls (st.map (ri_cv ad fz))) → W p l e R s m args below meth c H locs cells slots Q (F0 m pc ls (st.map (ri_cv ad fz)))) : ri_T (ri_Wf p l e R s m args below meth c cells slots Q) m mi (ri_ml0 t) D ad cA fz A s.heap (mi, pc, L, st) S := by
  unfold ri_jump at hr
  split at hr
  · cases hr
    exact ⟨rfl, fun H locs ls hP hS hl => row _ H locs ls rfl ((kx rfl).2 H locs ls hP hS hl)⟩
  · cases hr
theorem rs_ifn {w : Value} (hr : ri_ifn mi pc' L S w st = some x) (kx : ri_Kx l R (ri_Wf p l e R s m args below meth c cells slots Q) m t mi D tys ad cA fz E A s.heap pc x) (row : ∀ (tg a : Nat) (rest : List Value) (H : Heap) (locs : List Loc) (ls : Array Slot), w = .retAddr tg → W p l e R s m args below meth c H locs cells slots Q (F0 m pc' ls (rest)) → W p l e R s m args below meth c H locs cells slots Q (F0 m pc ls (.ref a :: rest))) (rowN : ∀ (tg : Nat) (rest : List Value) (H : Heap) (locs : List Loc) (ls : Array Slot), w = .retAddr tg → W p l e R s m args below meth c H locs cells slots Q (F0 m tg ls (rest)) → W p l e R s m args below meth c H locs cells slots Q (F0 m pc ls (.null :: rest))) : ri_T (ri_Wf p l e R s m args below meth c cells slots Q) m mi (ri_ml0 t) D ad cA fz A s.heap (mi, pc, L, st) S := by
  unfold ri_ifn at hr
  split at hr
  · rename_i tg k r0
    cases hk : Nat.beq k 4000 with
    | true => rw [hk] at hr; cases hr
    | false =>
      rw [hk] at hr
      cases hr
      refine ⟨rfl, fun H locs ls hP hS hl => ?_⟩
      show W p l e R s m args below meth c H locs cells slots Q (F0 m pc ls (ri_cv ad fz (.ref k) :: r0.map (ri_cv ad fz)))
      rw [ri_cv_ne hk]
      exact row _ _ _ H locs ls rfl ((kx rfl).2 H locs ls hP hS hl)
  · cases hr
    exact ⟨rfl, fun H locs ls hP hS hl => rowN _ _ H locs ls rfl ((kx rfl).2 H locs ls hP hS hl)⟩
  · cases hr
theorem rs_ifnn {w : Value} (hr : ri_ifnn mi pc' L S w st = some x) (kx : ri_Kx l R (ri_Wf p l e R s m args below meth c cells slots Q) m t mi D tys ad cA fz E A s.heap pc x) (row : ∀ (tg a : Nat) (rest : List Value) (H : Heap) (locs : List Loc) (ls : Array Slot), w = .retAddr tg → W p l e R s m args below meth c H locs cells slots Q (F0 m tg ls (rest)) → W p l e R s m args below meth c H locs cells slots Q (F0 m pc ls (.ref a :: rest))) (rowN : ∀ (tg : Nat) (rest : List Value) (H : Heap) (locs : List Loc) (ls : Array Slot), w = .retAddr tg → W p l e R s m args below meth c H locs cells slots Q (F0 m pc' ls (rest)) → W p l e R s m args below meth c H locs cells slots Q (F0 m pc ls (.null :: rest))) : ri_T (ri_Wf p l e R s m args below meth c cells slots Q) m mi (ri_ml0 t) D ad cA fz A s.heap (mi, pc, L, st) S := by
  unfold ri_ifnn at hr
  split at hr
  · rename_i tg k r0
    cases hk : Nat.beq k 4000 with
    | true => rw [hk] at hr; cases hr
    | false =>
      rw [hk] at hr
      cases hr
      refine ⟨rfl, fun H locs ls hP hS hl => ?_⟩
      show W p l e R s m args below meth c H locs cells slots Q (F0 m pc ls (ri_cv ad fz (.ref k) :: r0.map (ri_cv ad fz)))
      rw [ri_cv_ne hk]
      exact row _ _ _ H locs ls rfl ((kx rfl).2 H locs ls hP hS hl)
  · cases hr
    exact ⟨rfl, fun H locs ls hP hS hl => rowN _ _ H locs ls rfl ((kx rfl).2 H locs ls hP hS hl)⟩
  · cases hr
theorem rs_sw {dflt lo hi : Int} {offs : List Int} (hr : ri_sw mi pc dflt lo hi offs L S st = some x) (kx : ri_Kx l R (ri_Wf p l e R s m args below meth c cells slots Q) m t mi D tys ad cA fz E A s.heap pc x) (row : ∀ (y : Int32) (rest : List Value) (H : Heap) (locs : List Loc) (ls : Array Slot), ri_swok pc dflt lo hi offs = true → W p l e R s m args below meth c H locs cells slots Q (F0 m (ri_tgt pc dflt lo hi offs y) ls (rest)) → W p l e R s m args below meth c H locs cells slots Q (F0 m pc ls (.int y :: rest))) : ri_T (ri_Wf p l e R s m args below meth c cells slots Q) m mi (ri_ml0 t) D ad cA fz A s.heap (mi, pc, L, st) S := by
  unfold ri_sw at hr
  split at hr
  · cases hk : ri_swok pc dflt lo hi offs with
    | false => rw [hk] at hr; cases hr
    | true =>
      rw [hk] at hr
      cases hr
      exact ⟨rfl, fun H locs ls hP hS hl => row _ _ H locs ls hk ((kx rfl).2 H locs ls hP hS hl)⟩
  · cases hr
theorem ri_cat1_cv {ad : Nat → Nat} {fz : Value} (hz : fz = .null ∨ ∃ a, fz = .ref a) {v : Value} (h : ri_cat1 v = true) : (ri_cv ad fz v).category = 1 := by
  cases v with
  | ref k =>
    rw [ri_cv_ref]
    cases Nat.beq k 4000 with
    | true => rcases hz with rfl | ⟨a, rfl⟩ <;> rfl
    | false => rfl
  | _ => first | rfl | cases h
theorem rs_dup (hz : fz = .null ∨ ∃ a, fz = .ref a) (hr : ri_dup mi pc' L S st = some x) (kx : ri_Kx l R (ri_Wf p l e R s m args below meth c cells slots Q) m t mi D tys ad cA fz E A s.heap pc x) (row : ∀ (v : Value) (rest : List Value) (H : Heap) (locs : List Loc) (ls : Array Slot), v.category = 1 → W p l e R s m args below meth c H locs cells slots Q (F0 m pc' ls (v :: v :: rest)) → W p l e R s m args below meth c H locs cells slots Q (F0 m pc ls (v :: rest))) : ri_T (ri_Wf p l e R s m args below meth c cells slots Q) m mi (ri_ml0 t) D ad cA fz A s.heap (mi, pc, L, st) S := by
  unfold ri_dup at hr
  split at hr
  · rename_i v r0
    cases hk : ri_cat1 v with
    | false => rw [hk] at hr; cases hr
    | true =>
      rw [hk] at hr
      cases hr
      exact ⟨rfl, fun H locs ls hP hS hl => row _ _ H locs ls (ri_cat1_cv hz hk) ((kx rfl).2 H locs ls hP hS hl)⟩
  · cases hr
theorem rs_pop (hz : fz = .null ∨ ∃ a, fz = .ref a) (hr : ri_pop mi pc' L S st = some x) (kx : ri_Kx l R (ri_Wf p l e R s m args below meth c cells slots Q) m t mi D tys ad cA fz E A s.heap pc x) (row : ∀ (v : Value) (rest : List Value) (H : Heap) (locs : List Loc) (ls : Array Slot), v.category = 1 → W p l e R s m args below meth c H locs cells slots Q (F0 m pc' ls (rest)) → W p l e R s m args below meth c H locs cells slots Q (F0 m pc ls (v :: rest))) : ri_T (ri_Wf p l e R s m args below meth c cells slots Q) m mi (ri_ml0 t) D ad cA fz A s.heap (mi, pc, L, st) S := by
  unfold ri_pop at hr
  split at hr
  · rename_i v r0
    cases hk : ri_cat1 v with
    | false => rw [hk] at hr; cases hr
    | true =>
      rw [hk] at hr
      cases hr
      exact ⟨rfl, fun H locs ls hP hS hl => row _ _ H locs ls (ri_cat1_cv hz hk) ((kx rfl).2 H locs ls hP hS hl)⟩
  · cases hr
theorem rs_dup2 (hz : fz = .null ∨ ∃ a, fz = .ref a) (hr : ri_dup2 mi pc' L S st = some x) (kx : ri_Kx l R (ri_Wf p l e R s m args below meth c cells slots Q) m t mi D tys ad cA fz E A s.heap pc x) (row : ∀ (v w : Value) (rest : List Value) (H : Heap) (locs : List Loc) (ls : Array Slot), v.category = 1 → w.category = 1 → W p l e R s m args below meth c H locs cells slots Q (F0 m pc' ls (v :: w :: v :: w :: rest)) → W p l e R s m args below meth c H locs cells slots Q (F0 m pc ls (v :: w :: rest))) : ri_T (ri_Wf p l e R s m args below meth c cells slots Q) m mi (ri_ml0 t) D ad cA fz A s.heap (mi, pc, L, st) S := by
  unfold ri_dup2 at hr
  split at hr
  · rename_i v w r0
    cases hk : ri_cat1 v with
    | false => rw [hk] at hr; cases hr
    | true =>
      rw [hk] at hr
      cases hk2 : ri_cat1 w with
      | false => rw [hk2] at hr; cases hr
      | true =>
        rw [hk2] at hr
        cases hr
        exact ⟨rfl, fun H locs ls hP hS hl => row _ _ _ H locs ls (ri_cat1_cv hz hk) (ri_cat1_cv hz hk2) ((kx rfl).2 H locs ls hP hS hl)⟩
  · cases hr
end ONE
