/-! SOUND, 1: the picture of a heap, what stays, locals -/
def ri_cv (ad : Nat → Nat) (fz : Value) : Value → Value
  | .ref k => cond (Nat.beq k 4000) fz (.ref (ad k))
  | v => v
def ri_fvc (ad : Nat → Nat) (S : ri_H) (k j : Nat) (q : Nat × Nat) : Value := match q with
  | (0, _) => .int (S.1 k j)
  | (1, _) => .int (S.1 k j)
  | (2, _) => .long (S.2 k j)
  | (_, t) => .ref (ad t)
def ri_fls (ad : Nat → Nat) (S : ri_H) (k : Nat) : Nat → List (Nat × Nat) → List Value
  | _, [] => []
  | j, q :: l => ri_fvc ad S k j q :: ri_fls ad S k (j + 1) l
theorem ri_fls_len (ad : Nat → Nat) (S : ri_H) (k : Nat) : ∀ (l : List (Nat × Nat)) (j : Nat), (ri_fls ad S k j l).length = l.length
  | [], _ => rfl
  | q :: l, j => by simp [ri_fls, ri_fls_len ad S k l (j + 1)]
theorem ri_fls_get (ad : Nat → Nat) (S : ri_H) (k : Nat) : ∀ (l : List (Nat × Nat)) (j i : Nat), (ri_fls ad S k j l)[i]? = (ri_nth l i).map (fun q => ri_fvc ad S k (j + i) q)
  | [], _, i => by simp [ri_fls, ri_nth]
  | q :: l, j, 0 => by simp [ri_fls, ri_nth]
  | q :: l, j, i + 1 => by
    simp only [ri_fls, ri_nth, List.getElem?_cons_succ]
    rw [ri_fls_get ad S k l (j + 1) i]
    congr 1
    funext q
    rw [show j + 1 + i = j + (i + 1) by omega]
def ri_ent (ad : Nat → Nat) (cA : Nat → ClassId) (S : ri_H) (k : Nat) : va_E := match ri_lay k with
  | .inl (ci, fl) => .inr (ci, ri_fls ad S k 0 fl)
  | .inr (.inl (.long, n)) => .inl (cA k, n, .inr (.inl (S.2 k)))
  | .inr (.inl (_, n)) => .inl (cA k, n, .inl (S.1 k))
  | .inr (.inr (_, tg)) => .inl (cA k, tg.length, .inr (.inr (.inr (.inr (fun j => (ri_nth tg j).map ad)))))
def ri_wld (ad : Nat → Nat) (cA : Nat → ClassId) (S : ri_H) : va_W := (List.range ri_K).map (fun k => (ad k, ri_ent ad cA S k))
theorem ri_wld_get {ad : Nat → Nat} {cA : Nat → ClassId} {S : ri_H} {k : Nat} (h : k < ri_K) : (ri_wld ad cA S)[k]? = some (ad k, ri_ent ad cA S k) := by
  unfold ri_wld
  rw [List.getElem?_map, List.getElem?_range h]
  rfl
theorem ri_wld_set {ad : Nat → Nat} {cA : Nat → ClassId} {S S' : ri_H} {k : Nat} {e : va_E} (he : ri_ent ad cA S' k = e) (ho : ∀ j, j ≠ k → ri_ent ad cA S' j = ri_ent ad cA S j) : (ri_wld ad cA S).set k (ad k, e) = ri_wld ad cA S' := by
  apply List.ext_getElem?
  intro j
  by_cases hj : j < ri_K
  · rw [ri_wld_get hj]
    by_cases hk : j = k
    · subst hk
      rw [List.getElem?_set_self (by unfold ri_wld; simpa using hj), he]
    · rw [List.getElem?_set_ne (Ne.symm hk), ri_wld_get hj, ho j hk]
  · rw [List.getElem?_eq_none (by unfold ri_wld; simp; omega), List.getElem?_eq_none (by unfold ri_wld; simp; omega)]
theorem ri_wld_D {ad : Nat → Nat} {cA : Nat → ClassId} {S : ri_H} {A : Nat → Prop} (hI : ∀ i j, i < ri_K → j < ri_K → ad i = ad j → i = j) (hA : ∀ k, k < ri_K → A (ad k)) : va_D A (ri_wld ad cA S) := by
  have key : ∀ (i : Nat) (q : Nat × va_E), (ri_wld ad cA S)[i]? = some q → i < ri_K ∧ q.1 = ad i := by
    intro i q h
    have hi : i < ri_K := by
      have := (List.getElem?_eq_some_iff.mp h).1
      unfold ri_wld at this
      simpa using this
    rw [ri_wld_get hi] at h
    cases h
    exact ⟨hi, rfl⟩
  refine ⟨fun i j p q h1 h2 h3 => ?_, fun k q h => ?_⟩
  · obtain ⟨a1, a2⟩ := key i p h1
    obtain ⟨b1, b2⟩ := key j q h2
    exact hI i j a1 b1 (by rw [← a2, ← b2]; exact h3)
  · obtain ⟨a1, a2⟩ := key k q h
    rw [a2]
    exact hA k a1
-- one cell written
theorem ri_fls_other {ad : Nat → Nat} {S S' : ri_H} {k : Nat} (h1 : ∀ j, S'.1 k j = S.1 k j) (h2 : ∀ j, S'.2 k j = S.2 k j) : ∀ (l : List (Nat × Nat)) (j : Nat), ri_fls ad S' k j l = ri_fls ad S k j l
  | [], _ => rfl
  | q :: l, j => by
    have e : ri_fvc ad S' k j q = ri_fvc ad S k j q := by
      unfold ri_fvc
      split <;> simp [h1, h2]
    simp [ri_fls, e, ri_fls_other h1 h2 l (j + 1)]
theorem ri_ent_other {ad : Nat → Nat} {cA : Nat → ClassId} {S S' : ri_H} {k : Nat} (h1 : ∀ j, S'.1 k j = S.1 k j) (h2 : ∀ j, S'.2 k j = S.2 k j) : ri_ent ad cA S' k = ri_ent ad cA S k := by
  unfold ri_ent
  have e1 : S'.1 k = S.1 k := funext h1
  have e2 : S'.2 k = S.2 k := funext h2
  split
  · rw [ri_fls_other h1 h2]
  · rw [e2]
  · rw [e1]
  · rfl
theorem ri_wi_ne {S : ri_H} {k j : Nat} {v : Int32} {a : Nat} (h : a ≠ k) (b : Nat) : (ri_wi S k j v).1 a b = S.1 a b := by
  unfold ri_wi
  have : Nat.beq a k = false := by
    rw [← Bool.not_eq_true]
    intro e
    exact h (Nat.eq_of_beq_eq_true e)
  simp [this]
theorem ri_wi_eq {S : ri_H} {k j : Nat} {v : Int32} (b : Nat) : (ri_wi S k j v).1 k b = if b = j then v else S.1 k b := by
  unfold ri_wi
  have h1 : Nat.beq k k = true := by simp
  by_cases h : b = j
  · subst h
    simp [h1]
  · have h2 : Nat.beq b j = false := by
      rw [← Bool.not_eq_true]
      intro e
      exact h (Nat.eq_of_beq_eq_true e)
    simp [h1, h2, h]
theorem ri_wi_upd {S : ri_H} {k j : Nat} {v : Int32} : (ri_wi S k j v).1 k = upd (S.1 k) j v := by
  funext b
  rw [ri_wi_eq]
  rfl
theorem ri_wl_ne {S : ri_H} {k j : Nat} {v : Int64} {a : Nat} (h : a ≠ k) (b : Nat) : (ri_wl S k j v).2 a b = S.2 a b := by
  unfold ri_wl
  have : Nat.beq a k = false := by
    rw [← Bool.not_eq_true]
    intro e
    exact h (Nat.eq_of_beq_eq_true e)
  simp [this]
theorem ri_wl_eq {S : ri_H} {k j : Nat} {v : Int64} (b : Nat) : (ri_wl S k j v).2 k b = if b = j then v else S.2 k b := by
  unfold ri_wl
  have h1 : Nat.beq k k = true := by simp
  by_cases h : b = j
  · subst h
    simp [h1]
  · have h2 : Nat.beq b j = false := by
      rw [← Bool.not_eq_true]
      intro e
      exact h (Nat.eq_of_beq_eq_true e)
    simp [h1, h2, h]
theorem ri_wl_upd {S : ri_H} {k j : Nat} {v : Int64} : (ri_wl S k j v).2 k = vp_updL (S.2 k) j v := by
  funext b
  rw [ri_wl_eq]
  rfl
theorem ri_wr_ne {S : ri_H} {k : Nat} {f : Nat → Int32} {a : Nat} (h : a ≠ k) (b : Nat) : (ri_wr S k f).1 a b = S.1 a b := by
  unfold ri_wr
  have : Nat.beq a k = false := by
    rw [← Bool.not_eq_true]
    intro e
    exact h (Nat.eq_of_beq_eq_true e)
  simp [this]
theorem ri_wr_eq {S : ri_H} {k : Nat} {f : Nat → Int32} : (ri_wr S k f).1 k = f := by
  unfold ri_wr
  have h1 : Nat.beq k k = true := by simp
  simp [h1]
-- what isn't of the world, and stays
def ri_EF (D : va_G) (tys : List (ClassId × FieldType)) (ad : Nat → Nat) (fz : Value) (E : ri_E) (A : Nat → Prop) (U : State) (H : Heap) : Prop :=
  va_K D ri_cls tys U ∧ (∀ i w, ri_nth ri_nest i = some w → va_Nw w U) ∧ True ∧ True ∧ va_Z "java/lang/String" "COMPACT_STRINGS" "Z" (.int 1) A U H ∧ va_Z "jdk/internal/util/Preconditions" "SIOOBE_FORMATTER" "Ljava/util/function/BiFunction;" fz A U H ∧ vk_S 13 ri_strl ri_strb (fun i => ad (1000 + i)) (fun i => ad (1100 + i)) A U H ∧ (∀ i q, ri_nth ri_strs i = some q → vk_R q.1 q.2.1 q.2.2 (ad (1000 + i)) U) ∧ va_T .int (ad 3000) E.1 (fun j => .int (E.2 j)) A U H
theorem ri_nest_w : ∀ i w, ri_nth ri_nest i = some w → ∃ a b x h, w = .methodLinkNest a b x h := by
  intro i w h
  have hm := ri_nth_mem h
  have key : ri_nest.all (fun w => match w with
    | .methodLinkNest _ _ _ _ => true
    | _ => false) = true := by decide +kernel
  have h1 := List.all_eq_true.mp key w hm
  split at h1
  · exact ⟨_, _, _, _, rfl⟩
  · cases h1
theorem ri_EF.to {D : va_G} {tys : List (ClassId × FieldType)} {ad : Nat → Nat} {fz : Value} {E : ri_E} {A B : Nat → Prop} {s U : State} {H : Heap} (h : ri_EF D tys ad fz E A s s.heap) (hk : ∀ q : Nat, q < s.heap.size → ¬ A q → H[q]? = s.heap[q]?) (hW : s.WarmedH U.vm) (hU : U.heap = H) (hB : ∀ q, B q → A q) : ri_EF D tys ad fz E B U U.heap := by
  obtain ⟨h1, h2, h3, h4, h5, h6, h7, h8, h9⟩ := h
  rw [hU]
  refine ⟨va_K.moved hW.alike h1, fun i w hw => ?_, trivial, trivial, ((va_Z.moved hW.alike h5).kept hk).narrow hB, ((va_Z.moved hW.alike h6).kept hk).narrow hB, ((vk_S.moved hW.alike h7).kept hk).narrow hB, fun i q hq => (h8 i q hq).warm hW, ((va_T.moved hW.alike h9).kept hk).narrow hB⟩
  obtain ⟨a, b, x, z, rfl⟩ := ri_nest_w i w hw
  exact va_Nw.warmM hW (h2 i _ hw)
theorem ri_EF.calling {D : va_G} {tys : List (ClassId × FieldType)} {ad : Nat → Nat} {fz : Value} {E : ri_E} {B : Nat → Prop} {U : State} (g : JFrame) (mk : MethodId) (a : Array Value) (h : ri_EF D tys ad fz E B U U.heap) : ri_EF D tys ad fz E B (U.calling g mk a) (U.calling g mk a).heap := by
  obtain ⟨h1, h2, h3, h4, h5, h6, h7, h8, h9⟩ := h
  refine ⟨va_K.moved (u := U) (U := U.calling g mk a) (Vm.Alike.refl U.vm) h1, fun i w hw => ?_, trivial, trivial, va_Z.moved (u := U) (U := U.calling g mk a) (Vm.Alike.refl U.vm) h5, va_Z.moved (u := U) (U := U.calling g mk a) (Vm.Alike.refl U.vm) h6, vk_S.moved (u := U) (U := U.calling g mk a) (Vm.Alike.refl U.vm) h7, fun i q hq => vk_R.same (u := U) (U := U.calling g mk a) rfl (h8 i q hq), va_T.moved (u := U) (U := U.calling g mk a) (Vm.Alike.refl U.vm) h9⟩
  obtain ⟨x1, x2, x3, x4, rfl⟩ := ri_nest_w i w hw
  exact va_Nw.same (u := U) (U := U.calling g mk a) rfl rfl (h2 i _ hw)
-- locals
def ri_lr (ad : Nat → Nat) (fz : Value) (ls : Array Slot) (nL : Nat) (l : List (Option Value)) : Prop := ls.size = nL ∧ lv_wf ls ∧ l.length = nL ∧ ∀ i v, ri_get l i = some v → ls[i]? = some (.val (ri_cv ad fz v))
def ri_ents (ad : Nat → Nat) (fz : Value) (nL : Nat) (l : List (Option Value)) : List (Nat × Value) := (List.range nL).filterMap (fun j => (ri_get l j).map (fun v => (j, ri_cv ad fz v)))
theorem ri_lr.has {ad : Nat → Nat} {fz : Value} {ls : Array Slot} {nL : Nat} {l : List (Option Value)} (h : ri_lr ad fz ls nL l) : lv_has ls nL (ri_ents ad fz nL l) := by
  refine ⟨h.1, h.2.1, fun q hq => ?_⟩
  obtain ⟨j, -, hj⟩ := List.mem_filterMap.mp hq
  cases hg : ri_get l j with
  | none => rw [hg] at hj; cases hj
  | some v =>
    rw [hg] at hj
    cases hj
    exact h.2.2.2 j v hg
theorem ri_get_lt : ∀ {l : List (Option Value)} {i : Nat} {v : Value}, ri_get l i = some v → i < l.length
  | [], i, v, h => by cases h
  | _ :: l, 0, v, h => by simp
  | _ :: l, i + 1, v, h => by
    have := ri_get_lt (l := l) (i := i) (v := v) h
    simp only [List.length_cons]
    omega
theorem ri_set_len : ∀ (l : List (Option Value)) (i : Nat) (v : Option Value), (ri_set l i v).length = l.length
  | [], _, _ => rfl
  | _ :: l, 0, v => rfl
  | a :: l, i + 1, v => by simp [ri_set, ri_set_len l i v]
theorem ri_get_set : ∀ (l : List (Option Value)) (i j : Nat) (v : Option Value), ri_get (ri_set l i v) j = if j = i ∧ i < l.length then v else ri_get l j
  | [], i, j, v => by simp [ri_set, ri_get]
  | a :: l, 0, 0, v => by simp [ri_set, ri_get]
  | a :: l, 0, j + 1, v => by simp [ri_set, ri_get]
  | a :: l, i + 1, 0, v => by simp [ri_set, ri_get]
  | a :: l, i + 1, j + 1, v => by
    simp only [ri_set, ri_get, List.length_cons]
    rw [ri_get_set l i j v]
    by_cases h : j = i ∧ i < l.length
    · rw [if_pos h, if_pos (by omega)]
    · rw [if_neg h, if_neg (by omega)]
theorem ri_kill_succ (l : List (Option Value)) (n : Nat) : ri_kill l (n + 1) = cond (ri_wide (ri_get l n)) (ri_set l n none) l := rfl
theorem ri_cv_ref (ad : Nat → Nat) (fz : Value) (k : Nat) : ri_cv ad fz (.ref k) = cond (Nat.beq k 4000) fz (.ref (ad k)) := rfl
theorem ri_kill_len (l : List (Option Value)) (i : Nat) : (ri_kill l i).length = l.length := by
  cases i with
  | zero => rfl
  | succ n =>
    rw [ri_kill_succ]
    cases ri_wide (ri_get l n) with
    | true => exact ri_set_len _ _ _
    | false => rfl
theorem ri_kill_get {l : List (Option Value)} {i j : Nat} {v : Value} (h : ri_get (ri_kill l i) j = some v) : ri_get l j = some v ∧ ¬ (j + 1 = i ∧ ri_wide (some v) = true) := by
  cases i with
  | zero => exact ⟨h, by omega⟩
  | succ n =>
    rw [ri_kill_succ] at h
    cases hw : ri_wide (ri_get l n) with
    | true =>
      rw [hw] at h
      have h : ri_get (ri_set l n none) j = some v := h
      rw [ri_get_set] at h
      split at h
      · cases h
      · rename_i hn
        refine ⟨h, fun q => hn ⟨by omega, ?_⟩⟩
        have := ri_get_lt h
        omega
    | false =>
      rw [hw] at h
      have h3 : ri_get l j = some v := h
      refine ⟨h3, fun q => ?_⟩
      have e : j = n := by omega
      subst e
      rw [h3] at hw
      rw [hw] at q
      exact absurd q.2 (by decide)
theorem ri_wide_cat {ad : Nat → Nat} {fz : Value} (hz : fz = .null ∨ ∃ a, fz = .ref a) (v : Value) : (ri_cv ad fz v).category = 2 → ri_wide (some v) = true := by
  cases v with
  | ref k =>
    intro h
    exfalso
    rw [ri_cv_ref] at h
    cases hk : Nat.beq k 4000 with
    | true =>
      rw [hk] at h
      rcases hz with rfl | ⟨a, rfl⟩ <;> cases h
    | false => rw [hk] at h; cases h
  | _ => intro h; first | rfl | cases h
theorem ri_lr.st1 {ad : Nat → Nat} {fz : Value} (hz : fz = .null ∨ ∃ a, fz = .ref a) {ls ls' : Array Slot} {nL : Nat} {l : List (Option Value)} {i : Nat} {v : Value} (h : ri_lr ad fz ls nL l) (h' : lv_has ls' nL ((i, ri_cv ad fz v) :: (ri_ents ad fz nL l).filter (fun q => !(q.1 == i) && !(q.1 + 1 == i && q.2.category == 2)))) : ri_lr ad fz ls' nL (ri_st1 l i v) := by
  refine ⟨h'.1, h'.2.1, by unfold ri_st1; rw [ri_set_len, ri_kill_len]; exact h.2.2.1, fun j w hj => ?_⟩
  unfold ri_st1 at hj
  rw [ri_get_set] at hj
  split at hj
  · rename_i c
    cases hj
    have := h'.2.2 (i, ri_cv ad fz v) List.mem_cons_self
    rw [c.1]
    exact this
  · rename_i c
    obtain ⟨h1, h2⟩ := ri_kill_get hj
    have hlt := ri_get_lt h1
    have hji : j ≠ i := fun e => c ⟨e, by rw [ri_kill_len]; omega⟩
    refine h'.2.2 (j, ri_cv ad fz w) (List.mem_cons_of_mem _ (List.mem_filter.mpr ⟨List.mem_filterMap.mpr ⟨j, List.mem_range.mpr (by rw [← h.2.2.1]; exact hlt), by rw [h1]; rfl⟩, ?_⟩))
    simp only [Bool.and_eq_true, Bool.not_eq_true', beq_eq_false_iff_ne, ne_eq, Bool.and_eq_false_imp, beq_iff_eq]
    exact ⟨hji, fun e => fun e2 => h2 ⟨e, ri_wide_cat hz w e2⟩⟩
theorem ri_lr.st2 {ad : Nat → Nat} {fz : Value} (hz : fz = .null ∨ ∃ a, fz = .ref a) {ls ls' : Array Slot} {nL : Nat} {l : List (Option Value)} {i : Nat} {v : Value} (h : ri_lr ad fz ls nL l) (h' : lv_has ls' nL ((i, ri_cv ad fz v) :: (ri_ents ad fz nL l).filter (fun q => !(q.1 == i) && (!(q.1 == i + 1) && !(q.1 + 1 == i && q.2.category == 2))))) : ri_lr ad fz ls' nL (ri_st2 l i v) := by
  refine ⟨h'.1, h'.2.1, by unfold ri_st2; rw [ri_set_len, ri_set_len, ri_kill_len]; exact h.2.2.1, fun j w hj => ?_⟩
  unfold ri_st2 at hj
  rw [ri_get_set] at hj
  split at hj
  · rename_i c
    cases hj
    have := h'.2.2 (i, ri_cv ad fz v) List.mem_cons_self
    rw [c.1]
    exact this
  · rename_i c
    rw [ri_get_set] at hj
    split at hj
    · cases hj
    · rename_i c2
      obtain ⟨h1, h2⟩ := ri_kill_get hj
      have hlt := ri_get_lt h1
      have hji : j ≠ i := fun e => c ⟨e, by rw [ri_set_len, ri_kill_len]; omega⟩
      have hji1 : j ≠ i + 1 := fun e => c2 ⟨e, by rw [ri_kill_len]; omega⟩
      refine h'.2.2 (j, ri_cv ad fz w) (List.mem_cons_of_mem _ (List.mem_filter.mpr ⟨List.mem_filterMap.mpr ⟨j, List.mem_range.mpr (by rw [← h.2.2.1]; exact hlt), by rw [h1]; rfl⟩, ?_⟩))
      simp only [Bool.and_eq_true, Bool.not_eq_true', beq_eq_false_iff_ne, ne_eq, Bool.and_eq_false_imp, beq_iff_eq]
      exact ⟨hji, hji1, fun e => fun e2 => h2 ⟨e, ri_wide_cat hz w e2⟩⟩
