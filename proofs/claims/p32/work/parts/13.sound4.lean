/-! SOUND, 4: arrays, statics, constants, calls, ends -/
section THREE
variable {p : Program} {l : Launch} {e : Env} {R : Room} {s : State} {m : MethodId} {args : Array Value} {below : List Frame} {meth : Method} {c : Code} {cells slots : Nat} {Q : State → Prop}
variable {t : ri_MT} {mi : Nat} {D : va_G} {tys : List (ClassId × FieldType)} {ad : Nat → Nat} {cA : Nat → ClassId} {fz : Value} {E : ri_E} {A : Nat → Prop}
variable {pc pc' : Nat} {L : List (Option Value)} {st : List Value} {S : ri_H} {x : (ri_F × ri_H) ⊕ ((Bool × (ri_F × ri_H) × (ri_F × ri_H)) ⊕ ((Nat × List Value × ri_F × ri_H) ⊕ (Nat × Option Value × ri_H)))}
theorem ri_ent_arr {ad : Nat → Nat} {cA : Nat → ClassId} {S : ri_H} {k n : Nat} {ty : FieldType} (hl : ty ≠ .long) (h : ri_lay k = .inr (.inl (ty, n))) : ri_ent ad cA S k = .inl (cA k, n, .inl (S.1 k)) := by
  unfold ri_ent
  rw [h]
  cases ty <;> first | rfl | exact absurd rfl hl
theorem ri_ent_larr {ad : Nat → Nat} {cA : Nat → ClassId} {S : ri_H} {k n : Nat} (h : ri_lay k = .inr (.inl (.long, n))) : ri_ent ad cA S k = .inl (cA k, n, .inr (.inl (S.2 k))) := by
  unfold ri_ent
  rw [h]
theorem ri_ent_refs {ad : Nat → Nat} {cA : Nat → ClassId} {S : ri_H} {k : Nat} {C : String} {tg : List Nat} (h : ri_lay k = .inr (.inr (C, tg))) : ri_ent ad cA S k = .inl (cA k, tg.length, .inr (.inr (.inr (.inr (fun j => (ri_nth tg j).map ad))))) := by
  unfold ri_ent
  rw [h]
theorem ri_lay_inr {k : Nat} {y : (FieldType × Nat) ⊕ (String × List Nat)} (h : ri_lay k = .inr y) : k < ri_K ∧ ri_lyk (.inr y) = true := ri_lay_use h (fun _ z => by cases z)
theorem ri_k4 {k : Nat} (h : k < 4000) : Nat.beq k 4000 = false := by
  rw [← Bool.not_eq_true]
  intro e
  have := Nat.eq_of_beq_eq_true e
  omega
theorem ri_inb_use {i : Int32} {n : Nat} (h : ri_inb i n = true) : vp_in i n := of_decide_eq_true (p := ¬ (i < 0 ∨ n ≤ i.toNatClampNeg)) h
theorem ri_gd_T {b : Bool} {mi : Nat} {Wf : Heap → List Loc → JFrame → Prop} {m : MethodId} {nL : Nat} {D : va_G} {ad : Nat → Nat} {cA : Nat → ClassId} {fz : Value} {A : Nat → Prop} {H0 : Heap} {f1 : ri_F} {S1 S0 : ri_H} (hmi : mi ≠ 1000000) (hm : f1.1 = mi) (k1 : b = true → f1.1 = mi → ri_T Wf m mi nL D ad cA fz A H0 f1 S1) (k2 : b = false → ((1000000, 0, [], []) : ri_F).1 ≠ 1000000 ∧ (((1000000, 0, [], []) : ri_F).1 = mi → ri_T Wf m mi nL D ad cA fz A H0 (1000000, 0, [], []) S0)) : b = true ∧ ri_T Wf m mi nL D ad cA fz A H0 f1 S1 := by
  cases b with
  | true => exact ⟨rfl, k1 rfl hm⟩
  | false => exact absurd rfl (k2 rfl).1
theorem rs_ial (cx : ri_Cx p s m args c t D tys ad fz E A) (ha : ri_Ad ad cA fz tys) (hmi : mi ≠ 1000000) (hd : decode (ri_b t) pc = .ok (.iaload, 1)) (hr : ri_ial E mi (pc + 1) L S st = some x) (kx : ri_Kx l R (ri_Wf p l e R s m args below meth c cells slots Q) m t mi D tys ad cA fz E A s.heap pc x) : ri_T (ri_Wf p l e R s m args below meth c cells slots Q) m mi (ri_ml0 t) D ad cA fz A s.heap (mi, pc, L, st) S := by
  obtain ⟨hx, hb, hml, hown, hts, hEF, hA⟩ := cx
  obtain ⟨hI, hz, hTy⟩ := ha
  unfold ri_ial at hr
  split at hr
  · rename_i i k r0
    have hS9 := hEF.2.2.2.2.2.2.2.2
    cases h3 : Nat.beq k 3000 with
    | true =>
      rw [h3] at hr
      cases hr
      have e := Nat.eq_of_beq_eq_true h3
      subst e
      obtain ⟨hin, kt⟩ := ri_gd_T hmi rfl kx.1 kx.2
      exact ⟨rfl, fun H locs ls hP hS hl => va_ti hx hb hS9 hS (ri_inb_use hin) rfl hd (kt.2 H locs ls hP hS hl)⟩
    | false =>
      rw [h3] at hr
      have hr : ri_rd .int mi (pc + 1) L r0 S k i (ri_lay k) = some x := hr
      unfold ri_rd at hr
      split at hr
      · rename_i ty n hly
        by_cases hty : ty = .int
        · subst hty
          cases hr
          obtain ⟨hk, -⟩ := ri_lay_inr hly
          obtain ⟨t0, ht0⟩ := (hTy k hk).1 _ _ hly
          obtain ⟨hin, kt⟩ := ri_gd_T hmi rfl kx.1 kx.2
          refine ⟨rfl, fun H locs ls hP hS hl => ?_⟩
          show W p l e R s m args below meth c H locs cells slots Q (F0 m pc ls (.int i :: ri_cv ad fz (.ref k) :: r0.map (ri_cv ad fz)))
          rw [ri_cv_ne (ri_ne4000 hk)]
          exact va_iald hx hb hEF.1 hP k t0 (by rw [ri_wld_get hk, ri_ent_arr (by decide) hly]) ht0 (ri_inb_use hin) hd (kt.2 H locs ls hP hS hl)
        · rw [decide_eq_false hty] at hr
          cases hr
      · cases hr
  · cases hr
theorem rs_bal (cx : ri_Cx p s m args c t D tys ad fz E A) (ha : ri_Ad ad cA fz tys) (hmi : mi ≠ 1000000) (hd : decode (ri_b t) pc = .ok (.baload, 1)) (hr : ri_bal mi (pc + 1) L S st = some x) (kx : ri_Kx l R (ri_Wf p l e R s m args below meth c cells slots Q) m t mi D tys ad cA fz E A s.heap pc x) : ri_T (ri_Wf p l e R s m args below meth c cells slots Q) m mi (ri_ml0 t) D ad cA fz A s.heap (mi, pc, L, st) S := by
  obtain ⟨hx, hb, hml, hown, hts, hEF, hA⟩ := cx
  obtain ⟨hI, hz, hTy⟩ := ha
  unfold ri_bal at hr
  split at hr
  · rename_i i k r0
    cases h1 : Nat.ble 1100 k with
    | true =>
      rw [h1] at hr
      cases h2 : Nat.ble k 1112 with
      | false => rw [h2] at hr; cases hr
      | true =>
        rw [h2] at hr
        cases hr
        have b1 := Nat.le_of_ble_eq_true h1
        have b2 := Nat.le_of_ble_eq_true h2
        obtain ⟨q, rfl⟩ := Nat.exists_eq_add_of_le b1
        have hq : q < 13 := Nat.lt_succ_of_le (Nat.le_of_add_le_add_left b2)
        obtain ⟨hin, kt⟩ := ri_gd_T hmi rfl kx.1 kx.2
        have hS7 := (hEF.2.2.2.2.2.2.1.1 q hq).2.2.2
        refine ⟨rfl, fun H locs ls hP hS hl => ?_⟩
        show W p l e R s m args below meth c H locs cells slots Q (F0 m pc ls (.int i :: ri_cv ad fz (.ref (1100 + q)) :: r0.map (ri_cv ad fz)))
        rw [ri_cv_ne (ri_k4 (by omega))]
        have e : 1100 + q - 1100 = q := Nat.add_sub_cancel_left _ _
        refine va_tb hx hb hS7 hS (i := i) ?_ rfl hd ?_
        · have hin := ri_inb_use hin
          rw [e] at hin
          exact hin
        · have kk := kt.2 H locs ls hP hS hl
          dsimp only at kk
          rw [e] at kk
          exact kk
    | false =>
      rw [h1] at hr
      have hr : ri_rd .boolean mi (pc + 1) L r0 S k i (ri_lay k) = some x := hr
      unfold ri_rd at hr
      split at hr
      · rename_i ty n hly
        by_cases hty : ty = .boolean
        · subst hty
          cases hr
          obtain ⟨hk, -⟩ := ri_lay_inr hly
          obtain ⟨t0, ht0⟩ := (hTy k hk).1 _ _ hly
          obtain ⟨hin, kt⟩ := ri_gd_T hmi rfl kx.1 kx.2
          refine ⟨rfl, fun H locs ls hP hS hl => ?_⟩
          show W p l e R s m args below meth c H locs cells slots Q (F0 m pc ls (.int i :: ri_cv ad fz (.ref k) :: r0.map (ri_cv ad fz)))
          rw [ri_cv_ne (ri_ne4000 hk)]
          exact va_zald hx hb hEF.1 hP k t0 (by rw [ri_wld_get hk, ri_ent_arr (by decide) hly]) ht0 (ri_inb_use hin) hd (kt.2 H locs ls hP hS hl)
        · rw [decide_eq_false hty] at hr
          cases hr
      · cases hr
  · cases hr
theorem rs_lal (cx : ri_Cx p s m args c t D tys ad fz E A) (ha : ri_Ad ad cA fz tys) (hmi : mi ≠ 1000000) (hd : decode (ri_b t) pc = .ok (.laload, 1)) (hr : ri_lal mi (pc + 1) L S st = some x) (kx : ri_Kx l R (ri_Wf p l e R s m args below meth c cells slots Q) m t mi D tys ad cA fz E A s.heap pc x) : ri_T (ri_Wf p l e R s m args below meth c cells slots Q) m mi (ri_ml0 t) D ad cA fz A s.heap (mi, pc, L, st) S := by
  obtain ⟨hx, hb, hml, hown, hts, hEF, hA⟩ := cx
  obtain ⟨hI, hz, hTy⟩ := ha
  unfold ri_lal at hr
  split at hr
  · rename_i i k r0
    unfold ri_lrd at hr
    split at hr
    · rename_i n hly
      cases hr
      obtain ⟨hk, -⟩ := ri_lay_inr hly
      obtain ⟨t0, ht0⟩ := (hTy k hk).1 _ _ hly
      obtain ⟨hin, kt⟩ := ri_gd_T hmi rfl kx.1 kx.2
      refine ⟨rfl, fun H locs ls hP hS hl => ?_⟩
      show W p l e R s m args below meth c H locs cells slots Q (F0 m pc ls (.int i :: ri_cv ad fz (.ref k) :: r0.map (ri_cv ad fz)))
      rw [ri_cv_ne (ri_ne4000 hk)]
      exact va_lald hx hb hEF.1 hP k t0 (by rw [ri_wld_get hk, ri_ent_larr hly]) ht0 (ri_inb_use hin) hd (kt.2 H locs ls hP hS hl)
    · cases hr
  · cases hr
theorem rs_aal (cx : ri_Cx p s m args c t D tys ad fz E A) (ha : ri_Ad ad cA fz tys) (hmi : mi ≠ 1000000) (hd : decode (ri_b t) pc = .ok (.aaload, 1)) (hr : ri_aal mi (pc + 1) L S st = some x) (kx : ri_Kx l R (ri_Wf p l e R s m args below meth c cells slots Q) m t mi D tys ad cA fz E A s.heap pc x) : ri_T (ri_Wf p l e R s m args below meth c cells slots Q) m mi (ri_ml0 t) D ad cA fz A s.heap (mi, pc, L, st) S := by
  obtain ⟨hx, hb, hml, hown, hts, hEF, hA⟩ := cx
  obtain ⟨hI, hz, hTy⟩ := ha
  unfold ri_aal at hr
  split at hr
  · rename_i i k r0
    split at hr
    · rename_i C tg hly
      cases hr
      obtain ⟨hk, hk2⟩ := ri_lay_inr hly
      obtain ⟨t0, ht0⟩ := (hTy k hk).2 _ _ hly
      obtain ⟨hin, kt⟩ := ri_gd_T hmi rfl kx.1 kx.2
      refine ⟨rfl, fun H locs ls hP hS hl => ?_⟩
      show W p l e R s m args below meth c H locs cells slots Q (F0 m pc ls (.int i :: ri_cv ad fz (.ref k) :: r0.map (ri_cv ad fz)))
      rw [ri_cv_ne (ri_ne4000 hk)]
      refine va_aldq hx hb hEF.1 hP k t0 (C := C) (by rw [ri_wld_get hk, ri_ent_refs hly]) ht0 (ri_inb_use hin) hd ?_
      have kk := kt.2 H locs ls hP hS hl
      have ee : ri_cv ad fz (ri_refn (ri_nth tg i.toNatClampNeg)) = va_rf ((ri_nth tg i.toNatClampNeg).map ad) := by
        cases hn : ri_nth tg i.toNatClampNeg with
        | none => rfl
        | some a =>
          have : a < ri_K := of_decide_eq_true (List.all_eq_true.mp hk2 a (ri_nth_mem hn))
          exact ri_cv_ne (ri_ne4000 this)
      have kk : W p l e R s m args below meth c H locs cells slots Q (F0 m (pc + 1) ls (ri_cv ad fz (ri_refn (ri_nth tg i.toNatClampNeg)) :: r0.map (ri_cv ad fz))) := kk
      rw [ee] at kk
      exact kk
    · cases hr
  · cases hr
theorem rs_ias (cx : ri_Cx p s m args c t D tys ad fz E A) (ha : ri_Ad ad cA fz tys) (hmi : mi ≠ 1000000) (hd : decode (ri_b t) pc = .ok (.iastore, 1)) (hr : ri_ias mi (pc + 1) L S st = some x) (kx : ri_Kx l R (ri_Wf p l e R s m args below meth c cells slots Q) m t mi D tys ad cA fz E A s.heap pc x) : ri_T (ri_Wf p l e R s m args below meth c cells slots Q) m mi (ri_ml0 t) D ad cA fz A s.heap (mi, pc, L, st) S := by
  obtain ⟨hx, hb, hml, hown, hts, hEF, hA⟩ := cx
  obtain ⟨hI, hz, hTy⟩ := ha
  unfold ri_ias at hr
  split at hr
  · rename_i v i k r0
    split at hr
    · rename_i n hly
      cases hr
      obtain ⟨hk, -⟩ := ri_lay_inr hly
      obtain ⟨t0, ht0⟩ := (hTy k hk).1 _ _ hly
      obtain ⟨hin, kt⟩ := ri_gd_T hmi rfl kx.1 kx.2
      refine ⟨rfl, fun H locs ls hP hS hl => ?_⟩
      show W p l e R s m args below meth c H locs cells slots Q (F0 m pc ls (.int v :: .int i :: ri_cv ad fz (.ref k) :: r0.map (ri_cv ad fz)))
      rw [ri_cv_ne (ri_ne4000 hk)]
      refine va_iast hx hb hEF.1 hP (ri_wld_D hI hA) hS k t0 (by rw [ri_wld_get hk, ri_ent_arr (by decide) hly]) ht0 (ri_inb_use hin) hd (fun H1 locs1 hP1 hD1 hS1 => ?_)
      rw [ri_wld_set (cA := cA) (S := S) (S' := ri_wi S k i.toNatClampNeg v) (by rw [ri_ent_arr (by decide) hly, ri_wi_upd]) (fun j' hj' => ri_ent_other (ri_wi_ne hj') (fun _ => rfl))] at hP1
      exact kt.2 H1 locs1 ls hP1 hS1 hl
    · cases hr
  · cases hr
theorem rs_bas (cx : ri_Cx p s m args c t D tys ad fz E A) (ha : ri_Ad ad cA fz tys) (hmi : mi ≠ 1000000) (hd : decode (ri_b t) pc = .ok (.bastore, 1)) (hr : ri_bas mi (pc + 1) L S st = some x) (kx : ri_Kx l R (ri_Wf p l e R s m args below meth c cells slots Q) m t mi D tys ad cA fz E A s.heap pc x) : ri_T (ri_Wf p l e R s m args below meth c cells slots Q) m mi (ri_ml0 t) D ad cA fz A s.heap (mi, pc, L, st) S := by
  obtain ⟨hx, hb, hml, hown, hts, hEF, hA⟩ := cx
  obtain ⟨hI, hz, hTy⟩ := ha
  unfold ri_bas at hr
  split at hr
  · rename_i v i k r0
    split at hr
    · rename_i n hly
      cases hr
      obtain ⟨hk, -⟩ := ri_lay_inr hly
      obtain ⟨t0, ht0⟩ := (hTy k hk).1 _ _ hly
      obtain ⟨hin, kt⟩ := ri_gd_T hmi rfl kx.1 kx.2
      refine ⟨rfl, fun H locs ls hP hS hl => ?_⟩
      show W p l e R s m args below meth c H locs cells slots Q (F0 m pc ls (.int v :: .int i :: ri_cv ad fz (.ref k) :: r0.map (ri_cv ad fz)))
      rw [ri_cv_ne (ri_ne4000 hk)]
      refine va_zast hx hb hEF.1 hP (ri_wld_D hI hA) hS k t0 (by rw [ri_wld_get hk, ri_ent_arr (by decide) hly]) ht0 (ri_inb_use hin) hd (fun H1 locs1 hP1 hD1 hS1 => ?_)
      rw [ri_wld_set (cA := cA) (S := S) (S' := ri_wi S k i.toNatClampNeg (vp_nar .boolean v)) (by rw [ri_ent_arr (by decide) hly, ri_wi_upd]) (fun j' hj' => ri_ent_other (ri_wi_ne hj') (fun _ => rfl))] at hP1
      exact kt.2 H1 locs1 ls hP1 hS1 hl
    · cases hr
  · cases hr
theorem rs_las (cx : ri_Cx p s m args c t D tys ad fz E A) (ha : ri_Ad ad cA fz tys) (hmi : mi ≠ 1000000) (hd : decode (ri_b t) pc = .ok (.lastore, 1)) (hr : ri_las mi (pc + 1) L S st = some x) (kx : ri_Kx l R (ri_Wf p l e R s m args below meth c cells slots Q) m t mi D tys ad cA fz E A s.heap pc x) : ri_T (ri_Wf p l e R s m args below meth c cells slots Q) m mi (ri_ml0 t) D ad cA fz A s.heap (mi, pc, L, st) S := by
  obtain ⟨hx, hb, hml, hown, hts, hEF, hA⟩ := cx
  obtain ⟨hI, hz, hTy⟩ := ha
  unfold ri_las at hr
  split at hr
  · rename_i v i k r0
    split at hr
    · rename_i n hly
      cases hr
      obtain ⟨hk, -⟩ := ri_lay_inr hly
      obtain ⟨t0, ht0⟩ := (hTy k hk).1 _ _ hly
      obtain ⟨hin, kt⟩ := ri_gd_T hmi rfl kx.1 kx.2
      refine ⟨rfl, fun H locs ls hP hS hl => ?_⟩
      show W p l e R s m args below meth c H locs cells slots Q (F0 m pc ls (.long v :: .int i :: ri_cv ad fz (.ref k) :: r0.map (ri_cv ad fz)))
      rw [ri_cv_ne (ri_ne4000 hk)]
      refine va_last hx hb hEF.1 hP (ri_wld_D hI hA) hS k t0 (by rw [ri_wld_get hk, ri_ent_larr hly]) ht0 (ri_inb_use hin) hd (fun H1 locs1 hP1 hD1 hS1 => ?_)
      rw [ri_wld_set (cA := cA) (S := S) (S' := ri_wl S k i.toNatClampNeg v) (by rw [ri_ent_larr hly, ri_wl_upd]) (fun j' hj' => ri_ent_other (fun _ => rfl) (ri_wl_ne hj'))] at hP1
      exact kt.2 H1 locs1 ls hP1 hS1 hl
    · cases hr
  · cases hr
theorem rs_alen (cx : ri_Cx p s m args c t D tys ad fz E A) (ha : ri_Ad ad cA fz tys) (hd : decode (ri_b t) pc = .ok (.arraylength, 1)) (hr : ri_alen E mi (pc + 1) L S st = some x) (kx : ri_Kx l R (ri_Wf p l e R s m args below meth c cells slots Q) m t mi D tys ad cA fz E A s.heap pc x) : ri_T (ri_Wf p l e R s m args below meth c cells slots Q) m mi (ri_ml0 t) D ad cA fz A s.heap (mi, pc, L, st) S := by
  obtain ⟨hx, hb, hml, hown, hts, hEF, hA⟩ := cx
  obtain ⟨hI, hz, hTy⟩ := ha
  unfold ri_alen at hr
  split at hr
  · rename_i k r0
    have hS9 := hEF.2.2.2.2.2.2.2.2
    split at hr
    · rename_i n hn
      cases hr
      refine ⟨rfl, fun H locs ls hP hS hl => ?_⟩
      have kk := (kx rfl).2 H locs ls hP hS hl
      show W p l e R s m args below meth c H locs cells slots Q (F0 m pc ls (ri_cv ad fz (.ref k) :: r0.map (ri_cv ad fz)))
      unfold ri_len at hn
      cases h3 : Nat.beq k 3000 with
      | true =>
        rw [h3] at hn
        cases hn
        have e := Nat.eq_of_beq_eq_true h3
        subst e
        exact va_tlen hx hb hS9 hS rfl hd kk
      | false =>
        rw [h3] at hn
        have hn2 : (match ri_lay k with
          | .inr (.inl (_, n)) => some n
          | .inr (.inr (_, tg)) => some tg.length
          | _ => none) = some n := hn
        split at hn2
        · rename_i ty n2 hly
          cases hn2
          obtain ⟨hk, -⟩ := ri_lay_inr hly
          obtain ⟨t0, ht0⟩ := (hTy k hk).1 _ _ hly
          rw [ri_cv_ne (ri_ne4000 hk)]
          by_cases hty : ty = .long
          · subst hty
            exact va_alen (x := (n, .inr (.inl (S.2 k)))) hx hb hEF.1 hP k t0 (by rw [ri_wld_get hk, ri_ent_larr hly]) ht0 rfl hd kk
          · exact va_alen (x := (n, .inl (S.1 k))) hx hb hEF.1 hP k t0 (by rw [ri_wld_get hk, ri_ent_arr hty hly]) ht0 rfl hd kk
        · rename_i C tg hly
          cases hn2
          obtain ⟨hk, -⟩ := ri_lay_inr hly
          obtain ⟨t0, ht0⟩ := (hTy k hk).2 _ _ hly
          rw [ri_cv_ne (ri_ne4000 hk)]
          exact va_alen (x := (tg.length, .inr (.inr (.inr (.inr (fun j => (ri_nth tg j).map ad)))))) hx hb hEF.1 hP k t0 (by rw [ri_wld_get hk, ri_ent_refs hly]) ht0 rfl hd kk
        · cases hn2
    · cases h1 : Nat.ble 1100 k with
      | false => rw [h1] at hr; cases hr
      | true =>
        rw [h1] at hr
        cases h2 : Nat.ble k 1112 with
        | false => rw [h2] at hr; cases hr
        | true =>
          rw [h2] at hr
          cases hr
          have b1 := Nat.le_of_ble_eq_true h1
          have b2 := Nat.le_of_ble_eq_true h2
          obtain ⟨q, rfl⟩ := Nat.exists_eq_add_of_le b1
          have hq : q < 13 := Nat.lt_succ_of_le (Nat.le_of_add_le_add_left b2)
          have hS7 := (hEF.2.2.2.2.2.2.1.1 q hq).2.2.2
          refine ⟨rfl, fun H locs ls hP hS hl => ?_⟩
          have kk := (kx rfl).2 H locs ls hP hS hl
          show W p l e R s m args below meth c H locs cells slots Q (F0 m pc ls (ri_cv ad fz (.ref (1100 + q)) :: r0.map (ri_cv ad fz)))
          rw [ri_cv_ne (ri_k4 (by omega))]
          have e : 1100 + q - 1100 = q := Nat.add_sub_cancel_left _ _
          dsimp only at kk
          rw [e] at kk
          exact va_tlen hx hb hS7 hS rfl hd kk
  · cases hr
theorem rs_gets (cx : ri_Cx p s m args c t D tys ad fz E A) (ha : ri_Ad ad cA fz tys) (ht : ri_mt mi = some t) {idx : Nat} (hd : decode (ri_b t) pc = .ok (.getstatic idx, 3)) (hr : ri_ld mi (pc + 3) L st S (ri_gs (ri_tab ri_sl (ri_mcl t) idx)) = some x) (kx : ri_Kx l R (ri_Wf p l e R s m args below meth c cells slots Q) m t mi D tys ad cA fz E A s.heap pc x) : ri_T (ri_Wf p l e R s m args below meth c cells slots Q) m mi (ri_ml0 t) D ad cA fz A s.heap (mi, pc, L, st) S := by
  obtain ⟨hx, hb, hml, hown, hts, hEF, hA⟩ := cx
  obtain ⟨hI, hz, hTy⟩ := ha
  have hcn := ri_cn_eq ht
  refine rs_ld hr kx (fun v H locs ls hv hP hS hl kk => ?_)
  unfold ri_gs at hv
  split at hv
  · rename_i p0 hq
    cases hv
    have h := ri_wat_in (ri_all2_use ri_slc_ok hq)
    exact va_gets hx hb (own := (ri_y t).cls) (ref := "java/lang/String") hEF.2.2.2.2.1 hS hown (by rw [← hcn]; exact hts _ h) (fun _ z => z) hd kk
  · rename_i p0 hq
    cases hv
    have h := ri_wat_in (ri_all2_use ri_slc_ok hq)
    exact va_gets hx hb (own := (ri_y t).cls) (ref := "jdk/internal/util/Preconditions") hEF.2.2.2.2.2.1 hS hown (by rw [← hcn]; exact hts _ h) (fun _ z => z) hd kk
  · cases hv
-- rs_ldc
theorem rs_ldc (cx : ri_Cx p s m args c t D tys ad fz E A) (ha : ri_Ad ad cA fz tys) (ht : ri_mt mi = some t) {idx : Nat} (hd : decode (ri_b t) pc = .ok (.ldc idx, 2)) (hr : ri_cst mi (pc + 2) L st S (match ri_tab ri_cl (ri_mcl t) idx with
    | some (.long _, _) => none
    | q => q) = some x) (kx : ri_Kx l R (ri_Wf p l e R s m args below meth c cells slots Q) m t mi D tys ad cA fz E A s.heap pc x) : ri_T (ri_Wf p l e R s m args below meth c cells slots Q) m mi (ri_ml0 t) D ad cA fz A s.heap (mi, pc, L, st) S := by
  obtain ⟨hx, hb, hml, hown, hts, hEF, hA⟩ := cx
  obtain ⟨hI, hz, hTy⟩ := ha
  have hcn := ri_cn_eq ht
  cases hq : ri_tab ri_cl (ri_mcl t) idx with
  | none => rw [hq] at hr; cases hr
  | some q =>
    obtain ⟨v, p0⟩ := q
    rw [hq] at hr
    have h := ri_all2_use ri_clc_ok hq
    match v, hr, h with
    | .int v, hr, h =>
      cases hr
      exact ⟨rfl, fun H locs ls hP hS hl => lv_ldc hx hb (own := (ri_y t).cls) hown (by rw [← hcn]; exact hts _ (ri_wat_in h)) hd ((kx rfl).2 H locs ls hP hS hl)⟩
    | .ref k, hr, h =>
      cases hr
      simp only [ri_clc, Bool.and_eq_true, decide_eq_true_eq] at h
      obtain ⟨hk, h⟩ := h
      subst hk
      split at h
      · rename_i r hr1
        simp only [Bool.and_eq_true, decide_eq_true_eq] at h
        have hR := hEF.2.2.2.2.2.2.2.1 p0 r hr1
        obtain ⟨h1, h2⟩ := h
        have hp : p0 < 13 := by
          rw [ri_nth_eq] at hr1
          have := (List.getElem?_eq_some_iff.mp hr1).1
          exact this
        refine ⟨rfl, fun H locs ls hP hS hl => ?_⟩
        have kk : W p l e R s m args below meth c H locs cells slots Q (F0 m (pc + 2) ls (ri_cv ad fz (.ref (1000 + p0)) :: st.map (ri_cv ad fz))) := (kx rfl).2 H locs ls hP hS hl
        rw [ri_cv_ne (ri_k4 (by omega))] at kk
        refine va_ldcS hx hb (own := (ri_y t).cls) (index := idx) (tx := r.2.2) hown ?_ hd kk
        rw [← hcn, ← h1, ← h2]
        exact hR
      · cases h
    | .long v, hr, h => cases hr
    | .float _, hr, h => cases h
    | .double _, hr, h => cases h
    | .null, hr, h => cases h
    | .retAddr _, hr, h => cases h
-- rs_ldcw
theorem rs_ldcw (cx : ri_Cx p s m args c t D tys ad fz E A) (ha : ri_Ad ad cA fz tys) (ht : ri_mt mi = some t) {idx : Nat} (hd : decode (ri_b t) pc = .ok (.ldc_w idx, 3)) (hr : ri_cst mi (pc + 3) L st S (match ri_tab ri_cl (ri_mcl t) idx with
    | some (.int y, z) => some (.int y, z)
    | _ => none) = some x) (kx : ri_Kx l R (ri_Wf p l e R s m args below meth c cells slots Q) m t mi D tys ad cA fz E A s.heap pc x) : ri_T (ri_Wf p l e R s m args below meth c cells slots Q) m mi (ri_ml0 t) D ad cA fz A s.heap (mi, pc, L, st) S := by
  obtain ⟨hx, hb, hml, hown, hts, hEF, hA⟩ := cx
  obtain ⟨hI, hz, hTy⟩ := ha
  have hcn := ri_cn_eq ht
  cases hq : ri_tab ri_cl (ri_mcl t) idx with
  | none => rw [hq] at hr; cases hr
  | some q =>
    obtain ⟨v, p0⟩ := q
    rw [hq] at hr
    have h := ri_all2_use ri_clc_ok hq
    match v, hr, h with
    | .int v, hr, h =>
      cases hr
      exact ⟨rfl, fun H locs ls hP hS hl => lv_ldcw hx hb (own := (ri_y t).cls) hown (by rw [← hcn]; exact hts _ (ri_wat_in h)) hd ((kx rfl).2 H locs ls hP hS hl)⟩
    | .ref k, hr, h => cases hr
    | .long v, hr, h => cases hr
    | .float _, hr, h => cases h
    | .double _, hr, h => cases h
    | .null, hr, h => cases h
    | .retAddr _, hr, h => cases h
-- rs_ldc2
theorem rs_ldc2 (cx : ri_Cx p s m args c t D tys ad fz E A) (ha : ri_Ad ad cA fz tys) (ht : ri_mt mi = some t) {idx : Nat} (hd : decode (ri_b t) pc = .ok (.ldc2_w idx, 3)) (hr : ri_cst mi (pc + 3) L st S (match ri_tab ri_cl (ri_mcl t) idx with
    | some (.long y, z) => some (.long y, z)
    | _ => none) = some x) (kx : ri_Kx l R (ri_Wf p l e R s m args below meth c cells slots Q) m t mi D tys ad cA fz E A s.heap pc x) : ri_T (ri_Wf p l e R s m args below meth c cells slots Q) m mi (ri_ml0 t) D ad cA fz A s.heap (mi, pc, L, st) S := by
  obtain ⟨hx, hb, hml, hown, hts, hEF, hA⟩ := cx
  obtain ⟨hI, hz, hTy⟩ := ha
  have hcn := ri_cn_eq ht
  cases hq : ri_tab ri_cl (ri_mcl t) idx with
  | none => rw [hq] at hr; cases hr
  | some q =>
    obtain ⟨v, p0⟩ := q
    rw [hq] at hr
    have h := ri_all2_use ri_clc_ok hq
    match v, hr, h with
    | .long v, hr, h =>
      cases hr
      exact ⟨rfl, fun H locs ls hP hS hl => lv_ldc2 hx hb (own := (ri_y t).cls) hown (by rw [← hcn]; exact hts _ (ri_wat_in h)) hd ((kx rfl).2 H locs ls hP hS hl)⟩
    | .ref k, hr, h => cases hr
    | .int v, hr, h => cases hr
    | .float _, hr, h => cases h
    | .double _, hr, h => cases h
    | .null, hr, h => cases h
    | .retAddr _, hr, h => cases h
end THREE
