/-! SOUND, 3: fields, arrays, statics -/
section TWO
variable {p : Program} {l : Launch} {e : Env} {R : Room} {s : State} {m : MethodId} {args : Array Value} {below : List Frame} {meth : Method} {c : Code} {cells slots : Nat} {Q : State → Prop}
variable {t : ri_MT} {mi : Nat} {D : va_G} {tys : List (ClassId × FieldType)} {ad : Nat → Nat} {cA : Nat → ClassId} {fz : Value} {E : ri_E} {A : Nat → Prop}
variable {pc pc' : Nat} {L : List (Option Value)} {st : List Value} {S : ri_H} {x : (ri_F × ri_H) ⊕ ((Bool × (ri_F × ri_H) × (ri_F × ri_H)) ⊕ ((Nat × List Value × ri_F × ri_H) ⊕ (Nat × Option Value × ri_H)))}
theorem ri_cn_eq {t : ri_MT} {j : Nat} (ht : ri_mt j = some t) : ri_cn (ri_mcl t) = (ri_y t).cls := by
  have h := ri_all1_use ri_nchk_ok ht
  unfold ri_nchk at h
  simp only [Bool.and_eq_true, decide_eq_true_eq] at h
  unfold ri_cn
  rw [h.1.2]
theorem ri_ent_obj {ad : Nat → Nat} {cA : Nat → ClassId} {S : ri_H} {k ci : Nat} {fl : List (Nat × Nat)} (h : ri_lay k = .inl (ci, fl)) : ri_ent ad cA S k = .inr (ci, ri_fls ad S k 0 fl) := by
  unfold ri_ent
  rw [h]
theorem ri_cls_lt {ci : Nat} {r : vw_C} (h : ri_nth ri_cls ci = some r) : ri_cls[ci]? = some r := by rw [← ri_nth_eq]; exact h
theorem ri_lay_obj {k ci : Nat} {fl : List (Nat × Nat)} (h : ri_lay k = .inl (ci, fl)) (hc : ri_nth ri_cls ci ≠ none) : k < ri_K ∧ ∃ r, ri_nth ri_cls ci = some r ∧ fl.length = r.2.2 ∧ ∀ j q, ri_nth fl j = some q → j < r.2.2 ∧ ri_kok r j q = true := by
  have hne : ∀ l, (Sum.inl (ci, fl) : ri_LK) ≠ .inl (999, l) := by
    intro l z
    cases z
    exact hc rfl
  obtain ⟨h1, h2⟩ := ri_lay_use h hne
  refine ⟨h1, ?_⟩
  unfold ri_lyk at h2
  dsimp only at h2
  cases hr : ri_nth ri_cls ci with
  | none => exact absurd hr hc
  | some r =>
    rw [hr] at h2
    simp only [Bool.and_eq_true, decide_eq_true_eq] at h2
    refine ⟨r, rfl, h2.1, fun j q hq => ?_⟩
    have hj : j < r.2.2 := by
      rw [ri_nth_eq] at hq
      have := (List.getElem?_eq_some_iff.mp hq).1
      omega
    have h3 := List.all_eq_true.mp h2.2 j (List.mem_range.mpr hj)
    rw [hq] at h3
    exact ⟨hj, h3⟩
theorem ri_flc_own {c i ci j p : Nat} (hci : ci ≠ 100) (h : ri_flc c (i, ci, j, p) = true) : ∃ r, ri_nth ri_cls ci = some r ∧ (Cond.fieldLink (ri_cn c) i r.1 (r.2.1 j).2.1 (r.2.1 j).2.2.1) ∈ lw_all ∧ j < r.2.2 ∧ (r.2.1 j).1 = r.1 := by
  unfold ri_flc at h
  split at h
  · rename_i e
    cases e
    exact absurd rfl hci
  · rename_i e
    cases e
    exact absurd rfl hci
  · rename_i i' ci' k' p' e1 e2 e
    cases e
    split at h
    · rename_i r hr
      simp only [Bool.and_eq_true, decide_eq_true_eq] at h
      exact ⟨r, hr, ri_wat_in h.1.1, Nat.le_of_ble_eq_true h.1.2, h.2⟩
    · cases h
theorem rs_getf (cx : ri_Cx p s m args c t D tys ad fz E A) (ha : ri_Ad ad cA fz tys) (ht : ri_mt mi = some t) {idx : Nat} (hd : decode (ri_b t) pc = .ok (.getfield idx, 3)) (hr : ri_getf (ri_mcl t) mi (pc + 3) idx L S st = some x) (kx : ri_Kx l R (ri_Wf p l e R s m args below meth c cells slots Q) m t mi D tys ad cA fz E A s.heap pc x) : ri_T (ri_Wf p l e R s m args below meth c cells slots Q) m mi (ri_ml0 t) D ad cA fz A s.heap (mi, pc, L, st) S := by
  obtain ⟨hx, hb, hml, hown, hts, hEF, hA⟩ := cx
  obtain ⟨hI, hz, hTy⟩ := ha
  have hcn := ri_cn_eq ht
  unfold ri_getf at hr
  split at hr
  · rename_i k r0
    unfold ri_ld at hr
    split at hr
    · rename_i w hw
      cases hr
      refine ⟨rfl, fun H locs ls hP hS hl => ?_⟩
      have kk := (kx rfl).2 H locs ls hP hS hl
      show W p l e R s m args below meth c H locs cells slots Q (F0 m pc ls (ri_cv ad fz (.ref k) :: r0.map (ri_cv ad fz)))
      unfold ri_gf at hw
      split at hw
      · rename_i ci j p0 hq
        have hfl := ri_all2_use ri_flc_ok hq
        cases hci : Nat.beq ci 100 with
        | false =>
          rw [hci] at hw
          have hci' : ci ≠ 100 := by
            intro z
            rw [z] at hci
            cases hci
          obtain ⟨r, hr1, hr2, hr3, hr4⟩ := ri_flc_own hci' hfl
          have hw1 : ri_gfo S k ci j (ri_lay k) = some w := hw
          clear hw
          unfold ri_gfo at hw1
          split at hw1
          · rename_i ci2 fl hly
            cases hc2 : Nat.beq ci2 ci with
            | false => rw [hc2] at hw1; cases hw1
            | true =>
              rw [hc2] at hw1
              have hw2 : ri_fv S k j (ri_nth fl j) = some w := hw1
              clear hw1
              have e : ci2 = ci := Nat.eq_of_beq_eq_true hc2
              subst e
              obtain ⟨hk, r2, hr5, hlen, hall⟩ := ri_lay_obj hly (by rw [hr1]; simp)
              rw [hr1] at hr5
              cases hr5
              cases hq2 : ri_nth fl j with
              | none => rw [hq2] at hw2; cases hw2
              | some q =>
                rw [hq2] at hw2
                obtain ⟨-, hkok⟩ := hall j q hq2
                have hv : (ri_fls ad S k 0 fl)[j]? = some (ri_cv ad fz w) := by
                  rw [ri_fls_get, hq2]
                  simp only [Option.map_some, Nat.zero_add]
                  obtain ⟨qa, qt⟩ := q
                  match qa, hw2, hkok with
                  | 0, hw2, _ => cases hw2; rfl
                  | 1, hw2, _ => cases hw2; rfl
                  | 2, hw2, _ => cases hw2; rfl
                  | 3, hw2, hkok =>
                    cases hw2
                    have : qt < ri_K := of_decide_eq_true hkok
                    rw [ri_cv_ne (ri_ne4000 this)]
                    rfl
                  | n + 4, hw2, _ => cases hw2
                rw [ri_cv_ne (ri_ne4000 hk)]
                refine va_get (D := D) (ci := ci2) (v := ri_cv ad fz w) (C := r.1) (T := r.2.1) (N := r.2.2) (own := (ri_y t).cls) (ref := r.1) hx hb hts (ri_lays hr1) hown hEF.1 hP k (by rw [ri_wld_get hk, ri_ent_obj hly]) (ri_cls_lt hr1) j hr3 (by rw [← hcn]; exact hts _ hr2) (fun z h9 => by rw [hr4] at h9; exact h9) hv hd kk
          · cases hw1
        | true =>
          rw [hci] at hw
          have e : ci = 100 := Nat.eq_of_beq_eq_true hci
          subst e
          have hw1 : ri_str k j = some w := hw
          clear hw
          unfold ri_str at hw1
          cases hk1 : Nat.ble 1000 k with
          | false => rw [hk1] at hw1; cases hw1
          | true =>
            rw [hk1] at hw1
            cases hk2 : Nat.ble k 1012 with
            | false => rw [hk2] at hw1; cases hw1
            | true =>
              rw [hk2] at hw1
              have b1 := Nat.le_of_ble_eq_true hk1
              have b2 := Nat.le_of_ble_eq_true hk2
              have hk4 : Nat.beq k 4000 = false := by
                rw [← Bool.not_eq_true]
                intro e
                have := Nat.eq_of_beq_eq_true e
                omega
              obtain ⟨i, rfl⟩ := Nat.exists_eq_add_of_le b1
              have hi : i < 13 := Nat.lt_succ_of_le (Nat.le_of_add_le_add_left b2)
              have hS7 := hEF.2.2.2.2.2.2.1.1 i hi
              rw [ri_cv_ne hk4]
              match j, hw1, hfl with
              | 0, hw1, hfl =>
                cases hw1
                exact vk_getf hx hb (own := (ri_y t).cls) (ref := "java/lang/String") hS7.2.1 hS hown (by rw [← hcn]; exact hts _ (ri_wat_in hfl)) (fun _ h9 => h9) hd kk
              | 1, hw1, hfl =>
                cases hw1
                have h5 : Nat.beq (1000 + i + 100) 4000 = false := by
                  rw [← Bool.not_eq_true]
                  intro e
                  have := Nat.eq_of_beq_eq_true e
                  omega
                have e5 : ri_cv ad fz (.ref (1000 + i + 100)) = .ref (ad (1100 + i)) := by
                  rw [ri_cv_ne h5, show 1000 + i + 100 = 1100 + i by omega]
                have kk : W p l e R s m args below meth c H locs cells slots Q (F0 m (pc + 3) ls (ri_cv ad fz (.ref (1000 + i + 100)) :: r0.map (ri_cv ad fz))) := kk
                rw [e5] at kk
                exact vk_getf hx hb (own := (ri_y t).cls) (ref := "java/lang/String") hS7.2.2.1 hS hown (by rw [← hcn]; exact hts _ (ri_wat_in hfl)) (fun _ h9 => h9) hd kk
              | j + 2, hw1, hfl =>
                exfalso
                unfold ri_flc at hfl
                simp [ri_nth] at hfl
      · cases hw
    · cases hr
  · cases hr
theorem ri_fls_set_other (ad : Nat → Nat) (S S' : ri_H) (k j0 : Nat) (hS : ∀ j, j ≠ j0 → S'.1 k j = S.1 k j ∧ S'.2 k j = S.2 k j) : ∀ (l : List (Nat × Nat)) (j : Nat), j0 < j → ri_fls ad S' k j l = ri_fls ad S k j l
  | [], _, _ => rfl
  | q :: l, j, h => by
    have e : ri_fvc ad S' k j q = ri_fvc ad S k j q := by
      obtain ⟨h1, h2⟩ := hS j (by omega)
      unfold ri_fvc
      split <;> simp [h1, h2]
    simp [ri_fls, e, ri_fls_set_other ad S S' k j0 hS l (j + 1) (by omega)]
theorem ri_fls_set (ad : Nat → Nat) (S S' : ri_H) (k j0 : Nat) (hS : ∀ j, j ≠ j0 → S'.1 k j = S.1 k j ∧ S'.2 k j = S.2 k j) {q0 : Nat × Nat} {v : Value} : ∀ (l : List (Nat × Nat)) (j i : Nat), j + i = j0 → ri_nth l i = some q0 → ri_fvc ad S' k j0 q0 = v → (ri_fls ad S k j l).set i v = ri_fls ad S' k j l
  | [], j, i, _, h, _ => by cases h
  | q :: l, j, 0, hj, h, hv => by
    cases h
    have : j = j0 := by omega
    subst this
    simp only [ri_fls, List.set_cons_zero, hv]
    rw [ri_fls_set_other ad S S' k j hS l (j + 1) (by omega)]
  | q :: l, j, i + 1, hj, h, hv => by
    have e : ri_fvc ad S' k j q = ri_fvc ad S k j q := by
      obtain ⟨h1, h2⟩ := hS j (by omega)
      unfold ri_fvc
      split <;> simp [h1, h2]
    simp only [ri_fls, List.set_cons_succ, e]
    rw [ri_fls_set ad S S' k j0 hS l (j + 1) i (by omega) h hv]
theorem ri_desc {d : String} {ty : FieldType} (h : parseFieldDescriptor d = some ty) {d' : String} (e : d = d') : parseFieldDescriptor d' = some ty := e ▸ h
theorem rs_putf (cx : ri_Cx p s m args c t D tys ad fz E A) (ha : ri_Ad ad cA fz tys) (ht : ri_mt mi = some t) {idx : Nat} (hd : decode (ri_b t) pc = .ok (.putfield idx, 3)) (hr : ri_putf (ri_mcl t) mi (pc + 3) idx L S st = some x) (kx : ri_Kx l R (ri_Wf p l e R s m args below meth c cells slots Q) m t mi D tys ad cA fz E A s.heap pc x) : ri_T (ri_Wf p l e R s m args below meth c cells slots Q) m mi (ri_ml0 t) D ad cA fz A s.heap (mi, pc, L, st) S := by
  obtain ⟨hx, hb, hml, hown, hts, hEF, hA⟩ := cx
  obtain ⟨hI, hz, hTy⟩ := ha
  have hcn := ri_cn_eq ht
  unfold ri_putf at hr
  split at hr
  · rename_i v k r0
    unfold ri_nxo at hr
    split at hr
    · rename_i S' hw
      cases hr
      unfold ri_pf at hw
      split at hw
      · rename_i ci j p0 hq
        have hfl := ri_all2_use ri_flc_ok hq
        cases hci : Nat.beq ci 100 with
        | true => rw [hci] at hw; cases hw
        | false =>
          rw [hci] at hw
          have hci' : ci ≠ 100 := by
            intro z
            rw [z] at hci
            cases hci
          obtain ⟨r, hr1, hr2, hr3, hr4⟩ := ri_flc_own hci' hfl
          have hw1 : ri_pfo S k ci j v (ri_lay k) = some S' := hw
          clear hw
          unfold ri_pfo at hw1
          split at hw1
          · rename_i ci2 fl hly
            cases hc2 : Nat.beq ci2 ci with
            | false => rw [hc2] at hw1; cases hw1
            | true =>
              rw [hc2] at hw1
              have hw2 : ri_pfv S k j (ri_nth fl j) v = some S' := hw1
              clear hw1
              have e : ci2 = ci := Nat.eq_of_beq_eq_true hc2
              subst e
              obtain ⟨hk, r2, hr5, hlen, hall⟩ := ri_lay_obj hly (by rw [hr1]; simp)
              rw [hr1] at hr5
              cases hr5
              cases hq2 : ri_nth fl j with
              | none => rw [hq2] at hw2; cases hw2
              | some q =>
                rw [hq2] at hw2
                obtain ⟨-, hkok⟩ := hall j q hq2
                obtain ⟨qa, qt⟩ := q
                -- what is wanted of the field's type, of the value, of the new heap
                have key : ∃ ty : FieldType, parseFieldDescriptor (r.2.1 j).2.2.1 = some ty ∧ narrow ty (ri_cv ad fz v) = ri_cv ad fz v ∧ fits ty (ri_cv ad fz v) = true ∧ (r.2.1 j).2.2.2 = false ∧ (∀ j', j' ≠ j → S'.1 k j' = S.1 k j' ∧ S'.2 k j' = S.2 k j') ∧ ri_fvc ad S' k j (qa, qt) = ri_cv ad fz v ∧ (∀ a, a ≠ k → (∀ b, S'.1 a b = S.1 a b) ∧ (∀ b, S'.2 a b = S.2 a b)) := by
                  match qa, v, hw2, hkok with
                  | 0, .int y, hw, hkok =>
                    cases hw
                    simp only [ri_kok, Bool.and_eq_true, decide_eq_true_eq] at hkok
                    refine ⟨.int, by rw [hkok.1]; decide +kernel, rfl, rfl, hkok.2, fun j' hj' => ⟨by rw [ri_wi_eq, if_neg hj'], rfl⟩, ?_, fun a ha' => ⟨fun b => ri_wi_ne ha' b, fun b => rfl⟩⟩
                    show Value.int _ = Value.int _
                    rw [ri_wi_eq, if_pos rfl]
                  | 1, .int y, hw, hkok =>
                    have hw : cond (decide (y = 0 ∨ y = 1)) (some (ri_wi S k j y)) none = some S' := hw
                    simp only [ri_kok, Bool.and_eq_true, decide_eq_true_eq] at hkok
                    by_cases hy : y = 0 ∨ y = 1
                    · rw [decide_eq_true hy] at hw
                      cases hw
                      refine ⟨.boolean, by rw [hkok.1]; decide +kernel, ?_, ?_, hkok.2, fun j' hj' => ⟨by rw [ri_wi_eq, if_neg hj'], rfl⟩, ?_, fun a ha' => ⟨fun b => ri_wi_ne ha' b, fun b => rfl⟩⟩
                      · show narrow .boolean (.int y) = .int y
                        rcases hy with rfl | rfl <;> decide
                      · show fits .boolean (.int y) = true
                        rcases hy with rfl | rfl <;> decide
                      · show Value.int _ = Value.int _
                        rw [ri_wi_eq, if_pos rfl]
                    · rw [decide_eq_false hy] at hw
                      cases hw
                  | 2, .long y, hw, hkok =>
                    cases hw
                    simp only [ri_kok, Bool.and_eq_true, decide_eq_true_eq] at hkok
                    refine ⟨.long, by rw [hkok.1]; decide +kernel, rfl, rfl, hkok.2, fun j' hj' => ⟨rfl, by rw [ri_wl_eq, if_neg hj']⟩, ?_, fun a ha' => ⟨fun b => rfl, fun b => ri_wl_ne ha' b⟩⟩
                    show Value.long _ = Value.long _
                    rw [ri_wl_eq, if_pos rfl]
                obtain ⟨ty, g1, g2, g3, g4, g5, g6, g7⟩ := key
                obtain ⟨t1, t2⟩ := ri_ty_ok hr1
                refine ⟨rfl, fun H locs ls hP hS hl => ?_⟩
                show W p l e R s m args below meth c H locs cells slots Q (F0 m pc ls (ri_cv ad fz v :: ri_cv ad fz (.ref k) :: r0.map (ri_cv ad fz)))
                rw [ri_cv_ne (ri_ne4000 hk)]
                refine va_put (D := D) (ci := ci2) (v := ri_cv ad fz v) (ty := ty) (C := r.1) (T := r.2.1) (N := r.2.2) (own := (ri_y t).cls) (ref := r.1) hx hb hts (ri_lays hr1) (ri_ty ci2) t1 t2 hown hEF.1 hP (ri_wld_D hI hA) hS k (by rw [ri_wld_get hk, ri_ent_obj hly]) (ri_cls_lt hr1) j hr3 (by rw [← hcn]; exact hts _ hr2) (fun z h9 => by rw [hr4] at h9; exact h9) g4 g1 g2 g3 (by rw [ri_fls_len]; omega) hd (fun H1 locs1 hP1 hD1 hS1 => ?_)
                rw [ri_wld_set (S' := S') (by rw [ri_ent_obj hly, ri_fls_set ad S S' k j g5 fl 0 j (by omega) hq2 g6]) (fun j' hj' => ri_ent_other (g7 j' hj').1 (g7 j' hj').2)] at hP1
                exact (kx rfl).2 H1 locs1 ls hP1 hS1 hl
          · cases hw1
      · cases hw
    · cases hr
  · cases hr
end TWO
