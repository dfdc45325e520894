/-! SOUND, 5: calls and ends -/
theorem ri_take_spec : ∀ (n : Nat) (acc st As r : List Value), ri_take n acc st = some (As, r) → ∃ fr : List Value, st = fr ++ r ∧ fr.length = n ∧ As = fr.reverse ++ acc
  | 0, acc, st, As, r, h => by
    cases h
    exact ⟨[], rfl, rfl, rfl⟩
  | n + 1, acc, [], As, r, h => by cases h
  | n + 1, acc, v :: st, As, r, h => by
    obtain ⟨fr, h1, h2, h3⟩ := ri_take_spec n (v :: acc) st As r h
    exact ⟨v :: fr, by rw [h1]; rfl, by simp [h2], by rw [h3]; simp⟩
theorem ri_cats_eq {ad : Nat → Nat} {fz : Value} (hz : fz = .null ∨ ∃ a, fz = .ref a) : ∀ (r : List Value), ((r.map (ri_cv ad fz)).map fun v => v.category).sum = ri_cats r
  | [] => rfl
  | v :: r => by
    have ih := ri_cats_eq (ad := ad) hz r
    simp only [List.map_cons, List.sum_cons]
    rw [ih]
    cases v with
    | ref k =>
      have e : (ri_cv ad fz (.ref k)).category = 1 := by
        rw [ri_cv_ref]
        cases Nat.beq k 4000 with
        | true => rcases hz with rfl | ⟨a, rfl⟩ <;> rfl
        | false => rfl
      rw [e]
      show 1 + ri_cats r = ri_cats r + 1
      omega
    | int y => show 1 + ri_cats r = ri_cats r + 1; omega
    | long y => show 2 + ri_cats r = ri_cats r + 2; omega
    | float y => show 1 + ri_cats r = ri_cats r + 1; omega
    | double y => show 2 + ri_cats r = ri_cats r + 2; omega
    | null => show 1 + ri_cats r = ri_cats r + 1; omega
    | retAddr y => show 1 + ri_cats r = ri_cats r + 1; omega
theorem ri_code_in {j : Nat} {u : ri_MT} (h : ri_mt j = some u) (hf : ri_flag u ≠ 2) : (Cond.code (ri_y u) (ri_b u) (ri_ml0 u) (ri_ret u)) ∈ lw_all := ri_in _ (ri_cw_ok h hf) rfl
theorem ri_wf0 {j : Nat} {u : ri_MT} (h : ri_mt j = some u) (hf : ri_flag u = 0) : (Cond.initialized (ri_y u).cls) ∈ lw_all ∧ (Cond.static (ri_y u)) ∈ lw_all := by
  have h1 := ri_all1_use ri_wchk_ok h
  unfold ri_wchk at h1
  rw [hf] at h1
  split at h1
  · simp only [Bool.and_eq_true] at h1
    exact ⟨ri_wat_in h1.1, ri_wat_in h1.2⟩
  · rename_i e _; cases e
  · rename_i e; cases e
  · cases h1
theorem ri_wf1 {j : Nat} {u : ri_MT} (h : ri_mt j = some u) (hf : ri_flag u = 1) : (Cond.initialized (ri_y u).cls) ∈ lw_all ∧ (Cond.instanceMethod (ri_y u)) ∈ lw_all ∧ (Cond.selects (ri_y u).cls (ri_y u) (ri_y u)) ∈ lw_all := by
  have h1 := ri_all1_use ri_wchk_ok h
  unfold ri_wchk at h1
  rw [hf] at h1
  split at h1
  · rename_i e _; cases e
  · simp only [Bool.and_eq_true] at h1
    exact ⟨ri_wat_in h1.1, ri_wat_in h1.2.1, ri_wat_in h1.2.2⟩
  · rename_i e; cases e
  · cases h1
theorem ri_nf {j : Nat} {u : ri_MT} (h : ri_mt j = some u) : ((ri_y u).cls ≠ "java/lang/invoke/MethodHandle" ∧ (ri_y u).cls ≠ "java/lang/invoke/VarHandle") ∧ plainName (ri_y u).cls = true ∧ (ri_flag u ≠ 2 → ∀ sig, parseMethodDescriptor (ri_y u).desc = some sig → ri_nargs u = sig.parameters.length) ∧ ri_nth ri_own (ri_mcl u) = some (ri_y u).cls ∧ ri_ml0 u ≤ 40 := by
  have h1 := ri_all1_use ri_nchk_ok h
  unfold ri_nchk at h1
  simp only [Bool.and_eq_true, decide_eq_true_eq, Bool.or_eq_true] at h1
  obtain ⟨⟨⟨⟨⟨h2, h3⟩, h4⟩, h5⟩, h6⟩, h7⟩ := h1
  refine ⟨⟨h2, h3⟩, h4, fun hf sig hs => ?_, h6, Nat.le_of_ble_eq_true h7⟩
  rcases h5 with h5 | h5
  · rw [hs] at h5
    exact (Option.some.inj h5).symm
  · exact absurd h5 hf
theorem ri_goodIn {j : Nat} {u : ri_MT} (h : ri_mt j = some u) (hf : ri_flag u ≠ 2) : GoodIn lw_all (ri_wsm u) := by
  have key : ∀ w ∈ lw_all, (w.onTables && w.keeps) = true ∨ ∃ ty, w = .arrayClass ty := fun w hw => good_of_word (List.mem_filter.mp hw).2
  intro w hw
  unfold ri_wsm at hw
  rcases List.mem_cons.mp hw with rfl | hw
  · exact ⟨ri_code_in h hf, key _ (ri_code_in h hf)⟩
  · exact ⟨hw, key w hw⟩
theorem ri_own_cls : (List.range ri_cls.length).all (fun c => match ri_nth ri_cls c with
  | some r => decide (ri_nth ri_own c = some r.1)
  | none => true) = true := by decide +kernel
theorem ri_own_of {c : Nat} {r : vw_C} (h : ri_nth ri_cls c = some r) : ri_nth ri_own c = some r.1 := by
  have hc : c < ri_cls.length := by
    rw [ri_nth_eq] at h
    exact (List.getElem?_eq_some_iff.mp h).1
  have h1 := List.all_eq_true.mp ri_own_cls c (List.mem_range.mpr hc)
  rw [h] at h1
  exact of_decide_eq_true h1
theorem ri_max_ws : ri_wat lw_imax_s (.static Lib.Math.max.name) = true ∧ ri_wat lw_imin_s (.static Lib.Math.min.name) = true ∧ ri_wat lw_imath (.initialized "java/lang/Math") = true := by
  refine ⟨?_, ?_, ?_⟩ <;> decide +kernel
theorem ri_max_c : (Cond.code Lib.Math.max.name Lib.Math.max.code 2 (some .int)) ∈ lw_all := ri_in lw_imax_c (by decide +kernel) rfl
theorem ri_min_c : (Cond.code Lib.Math.min.name Lib.Math.min.code 2 (some .int)) ∈ lw_all := ri_in lw_imin_c (by decide +kernel) rfl
section FOUR
variable {p : Program} {l : Launch} {e : Env} {R : Room} {s : State} {m : MethodId} {args : Array Value} {below : List Frame} {meth : Method} {c : Code} {cells slots : Nat} {Q : State → Prop}
variable {t : ri_MT} {mi : Nat} {D : va_G} {tys : List (ClassId × FieldType)} {ad : Nat → Nat} {cA : Nat → ClassId} {fz : Value} {E : ri_E} {A : Nat → Prop}
variable {pc pc' : Nat} {L : List (Option Value)} {st : List Value} {S : ri_H} {x : (ri_F × ri_H) ⊕ ((Bool × (ri_F × ri_H) × (ri_F × ri_H)) ⊕ ((Nat × List Value × ri_F × ri_H) ⊕ (Nat × Option Value × ri_H)))}
theorem ri_callw {H : Heap} {locs : List Loc} {ls : Array Slot} {st0 rest : List Value} {a : Array Value} {v : Option Value} {S1 : ri_H} (hr : va_Run p l e R s m args below meth c H locs cells slots 0 0 (F0 m pc ls st0) rest (ri_Qc D ad cA fz v S1 a) (ri_Aw ad)) (hS : va_S A s.heap H locs) (hA : ∀ k, k < ri_K → A (ad k))
    (kk : ∀ (H1 : Heap) (locs1 : List Loc), va_P D ri_cls (ri_wld ad cA S1) H1 → va_S A s.heap H1 locs1 → W p l e R s m args below meth c H1 locs1 cells slots Q (F0 m (pc + 3) ls ((v.map (ri_cv ad fz)).toList ++ rest))) : W p l e R s m args below meth c H locs cells slots Q (F0 m pc ls st0) := by
  have hw : ∀ q, ri_Aw ad q → A q := fun q ⟨k, hk, e⟩ => e ▸ hA k hk
  intro T hT X
  obtain ⟨w, st₀, u, T', L', h0, X', hL, e1, e2, ⟨hv, hPn, hzz, hk⟩, stp⟩ := hr T hT X
  cases hv
  rw [h0] at hzz hk
  obtain ⟨t2, a1, b1⟩ := kk T'.heap (locs ++ L') (by rw [e1]; exact hPn)
    ⟨Nat.le_trans hS.1 (by rw [e1]; exact hzz), fun q h1 h2 => by rw [e1, hk q (Nat.lt_of_lt_of_le h1 hS.1) (fun z => h2 (hw q z))]; exact hS.2.1 q h1 h2, fun q hq => by
      rcases List.mem_append.mp hq with h | h
      · exact hS.2.2 q h
      · exact hw _ (hL q h)⟩ T' rfl X'
  exact ⟨t2, stp t2 a1, b1⟩
theorem ri_Pc_blind {As : List Value} {S1 : ri_H} : FrameBlind (ri_Pc D tys ad cA fz E As S1) := fun a U g mk h => ⟨h.1, h.2.1.calling g mk a, h.2.2⟩
theorem ri_pre {H : Heap} {locs : List Loc} {As : List Value} (hEF : ri_EF D tys ad fz E A s s.heap) (hA : ∀ k, k < ri_K → A (ad k)) (hS : va_S A s.heap H locs) (hP : va_P D ri_cls (ri_wld ad cA S) H) : ∀ U : State, U.heap = H → s.WarmedH U.vm → ri_Pc D tys ad cA fz E As S (As.map (ri_cv ad fz)).toArray U := by
  intro U hU hW
  refine ⟨rfl, hEF.to hS.2.1 hW hU (fun q ⟨k, hk, e⟩ => e ▸ hA k hk), by rw [hU]; exact hP⟩
theorem ri_callB {own : String} {index d : Nat} {u : ri_MT} {j : Nat} (hu : ri_mt j = some u) (hf : ri_flag u ≠ 2) (hini : (Cond.initialized (ri_y u).cls) ∈ lw_all) (hts : ∀ w ∈ lw_all, w.before args s = true) (h1 : d + 2 ≤ R.frames) (h2 : 64 * (d + 2) ≤ R.locals) (hl : (Cond.methodLink own index (ri_y u)).before args s = true) : CallB R s args own index (ri_y u) (ri_b u) (ri_ml0 u) (ri_ret u) (ri_wsm u) (ri_rm d) 0 0 (ri_nargs u) := by
  obtain ⟨g1, g2, g3, g4, g5⟩ := ri_nf hu
  refine ⟨rfl, rfl, h1, ?_, pay_in hts (ri_goodIn hu hf), List.mem_cons_self, hts _ (ri_code_in hu hf), hts _ hini, g1, g3 hf, hl⟩
  show 8 + (ri_ml0 u + 11) + 64 * (d + 1) ≤ R.locals
  omega
theorem rs_ivs (cx : ri_Cx p s m args c t D tys ad fz E A) (ha : ri_Ad ad cA fz tys) (ht : ri_mt mi = some t) (hmi : mi ≠ 1000000) (hcs : cells ≤ R.cells ∧ slots ≤ R.slots) (hR : 1 ≤ R.frames ∧ 64 ≤ R.locals) {idx : Nat} (hd : decode (ri_b t) pc = .ok (.invokestatic idx, 3)) (hr : ri_ivs mi (pc + 3) L st S (ri_tab ri_ml (ri_mcl t) idx) = some x) (kx : ri_Kx l R (ri_Wf p l e R s m args below meth c cells slots Q) m t mi D tys ad cA fz E A s.heap pc x) : ri_T (ri_Wf p l e R s m args below meth c cells slots Q) m mi (ri_ml0 t) D ad cA fz A s.heap (mi, pc, L, st) S := by
  obtain ⟨hx, hb, hml, hown, hts, hEF, hA⟩ := cx
  obtain ⟨hI, hz, hTy⟩ := ha
  have hcn := ri_cn_eq ht
  obtain ⟨cl0, hcl0⟩ : ∃ z, z = ri_mcl t := ⟨_, rfl⟩
  rw [← hcl0] at hcn hr
  have hstat : ∀ (j p0 : Nat), (∀ u, ri_mt j = some u → ri_flag u = 0 → ∀ d : Nat, d + 2 ≤ R.frames → 64 * (d + 2) ≤ R.locals → ∀ (v : Option Value) (S1 : ri_H) (As r : List Value), As.length = ri_nargs u → st = As.reverse ++ r → ri_cats r ≤ 8 → Met l (ri_y u) (ri_wsm u) (ri_rm d) (ri_Pc D tys ad cA fz E As S) (ri_Qc D ad cA fz v S1) 0 0 (ri_Aw ad) → ∀ (H : Heap) (locs : List Loc) (ls : Array Slot), va_P D ri_cls (ri_wld ad cA S) H → va_S A s.heap H locs → ls.size = ri_ml0 t → va_Run p l e R s m args below meth c H locs cells slots 0 0 (F0 m pc ls (st.map (ri_cv ad fz))) (r.map (ri_cv ad fz)) (ri_Qc D ad cA fz v S1 (As.map (ri_cv ad fz)).toArray) (ri_Aw ad)) → ri_cls1 j mi (pc + 3) L st S (ri_mt j) = some x → ri_T (ri_Wf p l e R s m args below meth c cells slots Q) m mi (ri_ml0 t) D ad cA fz A s.heap (mi, pc, L, st) S := by
    intro j p0 run hr
    cases hu : ri_mt j with
    | none => rw [hu] at hr; cases hr
    | some u =>
      rw [hu] at hr
      unfold ri_cls1 at hr
      dsimp only at hr
      cases hf : Nat.beq (ri_flag u) 0 with
      | false => rw [hf] at hr; cases hr
      | true =>
        rw [hf] at hr
        have hf0 := Nat.eq_of_beq_eq_true hf
        have hr : ri_cls2 j mi (pc + 3) L S (ri_take (ri_nargs u) [] st) = some x := hr
        unfold ri_cls2 at hr
        split at hr
        · rename_i As r hta
          obtain ⟨fr, e1, e2, e3⟩ := ri_take_spec _ _ _ _ _ hta
          rw [List.append_nil] at e3
          unfold ri_mkc at hr
          cases hc : Nat.ble (ri_cats r) 8 with
          | false => rw [hc] at hr; cases hr
          | true =>
            rw [hc] at hr
            cases hr
            obtain ⟨d, v, S1, k1, k2, k4, k5⟩ := kx u hu (by rw [hf0]; decide)
            dsimp only at k4 k5
            refine ⟨rfl, fun H locs ls hP hS hl => ?_⟩
            refine ri_callw (run u hu hf0 d k1 k2 v S1 As r (by rw [e3, List.length_reverse, e2]) (by rw [e3, List.reverse_reverse]; exact e1) (Nat.le_of_ble_eq_true hc) k4 H locs ls hP hS hl.1) hS hA (fun H1 locs1 hP1 hS1 => ?_)
            cases v with
            | none => exact (k5 rfl).2 H1 locs1 ls hP1 hS1 hl
            | some v => exact (k5 rfl).2 H1 locs1 ls hP1 hS1 hl
        · cases hr
  have hWr : ∀ (ls : Array Slot) (r0 r : List Value), ri_cats r ≤ 8 → 2 * (F0 m pc ls r0).monitorRoom + ((r.map (ri_cv ad fz)).map fun v => v.category).sum ≤ 8 := by
    intro ls r0 r h
    rw [ri_cats_eq hz]
    show 2 * 0 + _ ≤ 8
    omega
  unfold ri_ivs at hr
  split at hr
  · rename_i j p0 hq
    have hl := ri_all2_use ri_mlc_ok hq
    refine hstat j p0 (fun u hu hf0 d k1 k2 v S1 As r a1 a2 a3 hM H locs ls hP hS hsz => ?_) hr
    have hlk : (Cond.methodLink (ri_cn cl0) idx (ri_y u)) ∈ lw_all := by
      have hl2 : (match ri_mt j with
        | some t => ri_wat p0 (.methodLink (ri_cn cl0) idx (ri_y t))
        | none => false) = true := hl
      rw [hu] at hl2
      exact ri_wat_in hl2
    obtain ⟨w1, w2⟩ := ri_wf0 hu hf0
    exact va_runS (As := As.map (ri_cv ad fz)) ⟨hx, hb, hml, hown, hts⟩ hM ⟨ri_callB hu (by rw [hf0]; decide) w1 hts k1 k2 (by rw [← hcn]; exact hts _ hlk), hts _ w2⟩ ⟨ri_Pc_blind, ri_pre hEF hA hS hP⟩ rfl (by rw [List.length_map]; exact a1) hsz (by show st.map _ = _; rw [a2]; simp) (hWr _ _ _ a3) hd ⟨hcs.1, hcs.2⟩
  · rename_i j p0 hq
    have hl := ri_all2_use ri_mlc_ok hq
    refine hstat j p0 (fun u hu hf0 d k1 k2 v S1 As r a1 a2 a3 hM H locs ls hP hS hsz => ?_) hr
    have hlk : ri_nth ri_nest p0 = some (.methodLinkNest (ri_cn cl0) idx (ri_y u) "RoadsNotGoneBy") := by
      have hl2 : (match ri_mt j with
        | some t => decide (ri_nth ri_nest p0 = some (.methodLinkNest (ri_cn cl0) idx (ri_y t) "RoadsNotGoneBy"))
        | none => false) = true := hl
      rw [hu] at hl2
      exact of_decide_eq_true hl2
    obtain ⟨w1, w2⟩ := ri_wf0 hu hf0
    obtain ⟨g1, g2, g3, g4, g5⟩ := ri_nf hu
    have hf2 : ri_flag u ≠ 2 := by rw [hf0]; decide
    refine va_runSN (host := "RoadsNotGoneBy") (As := As.map (ri_cv ad fz)) ⟨hx, hb, hml, hown, hts⟩ hM ⟨⟨⟨rfl, rfl, k1, ?_, pay_in hts (ri_goodIn hu hf2), List.mem_cons_self⟩, hts _ (ri_code_in hu hf2), hts _ w1, g1, g3 hf2, ?_⟩, hts _ w2, trivial⟩ ⟨ri_Pc_blind, ri_pre hEF hA hS hP⟩ rfl (by rw [List.length_map]; exact a1) hsz (by show st.map _ = _; rw [a2]; simp) (hWr _ _ _ a3) hd ⟨hcs.1, hcs.2⟩
    · show 8 + (ri_ml0 u + 11) + 64 * (d + 1) ≤ R.locals
      omega
    · rw [← hcn]
      exact va_Nw.use rfl (hEF.2.1 p0 _ hlk)
  · rename_i j p0 hq
    obtain ⟨b1, b2, b3⟩ := ri_max_ws
    have hl := ri_wat_in (ri_all2_use ri_mlc_ok hq)
    unfold ri_mm at hr
    split at hr
    · rename_i y2 y1 r
      cases hc : Nat.ble (ri_cats r) 8 with
      | false => rw [hc] at hr; cases hr
      | true =>
        rw [hc] at hr
        cases hr
        refine ⟨rfl, fun H locs ls hP hS hls => ?_⟩
        exact va_mmax hx hb (by rw [hml, hls.1]) (own := (ri_y t).cls) hown (by rw [← hcn]; exact hts _ hl) (hts _ (ri_wat_in b1)) (hts _ (ri_wat_in b3)) (hts _ ri_max_c) hR.1 (by rw [ri_cats_eq hz]; have := Nat.le_of_ble_eq_true hc; omega) hcs.1 hcs.2 hd ((kx rfl).2 H locs ls hP hS hls)
    · cases hr
  · rename_i j p0 hq
    obtain ⟨b1, b2, b3⟩ := ri_max_ws
    have hl := ri_wat_in (ri_all2_use ri_mlc_ok hq)
    unfold ri_mm at hr
    split at hr
    · rename_i y2 y1 r
      cases hc : Nat.ble (ri_cats r) 8 with
      | false => rw [hc] at hr; cases hr
      | true =>
        rw [hc] at hr
        cases hr
        refine ⟨rfl, fun H locs ls hP hS hls => ?_⟩
        exact va_mmin hx hb (by rw [hml, hls.1]) (own := (ri_y t).cls) hown (by rw [← hcn]; exact hts _ hl) (hts _ (ri_wat_in b2)) (hts _ (ri_wat_in b3)) (hts _ ri_min_c) hR.1 (by rw [ri_cats_eq hz]; have := Nat.le_of_ble_eq_true hc; omega) hcs.1 hcs.2 hd ((kx rfl).2 H locs ls hP hS hls)
    · cases hr
  · cases hr
theorem rs_ivv (cx : ri_Cx p s m args c t D tys ad fz E A) (ha : ri_Ad ad cA fz tys) (ht : ri_mt mi = some t) (hcs : cells ≤ R.cells ∧ slots ≤ R.slots) {idx : Nat} (hd : decode (ri_b t) pc = .ok (.invokevirtual idx, 3)) (hr : ri_ivv mi (pc + 3) L st S (ri_tab ri_ml (ri_mcl t) idx) = some x) (kx : ri_Kx l R (ri_Wf p l e R s m args below meth c cells slots Q) m t mi D tys ad cA fz E A s.heap pc x) : ri_T (ri_Wf p l e R s m args below meth c cells slots Q) m mi (ri_ml0 t) D ad cA fz A s.heap (mi, pc, L, st) S := by
  obtain ⟨hx, hb, hml, hown, hts, hEF, hA⟩ := cx
  obtain ⟨hI, hz, hTy⟩ := ha
  have hcn := ri_cn_eq ht
  obtain ⟨cl0, hcl0⟩ : ∃ z, z = ri_mcl t := ⟨_, rfl⟩
  rw [← hcl0] at hcn hr
  unfold ri_ivv at hr
  split at hr
  · rename_i j p0 hq
    have hl := ri_all2_use ri_mlc_ok hq
    cases hu : ri_mt j with
    | none => rw [hu] at hr; cases hr
    | some u =>
      rw [hu] at hr
      unfold ri_clv1 at hr
      dsimp only at hr
      cases hf : Nat.beq (ri_flag u) 1 with
      | false => rw [hf] at hr; cases hr
      | true =>
        rw [hf] at hr
        have hf1 := Nat.eq_of_beq_eq_true hf
        have hr : ri_clv2 j (ri_mcl u) mi (pc + 3) L S (ri_take (ri_nargs u + 1) [] st) = some x := hr
        unfold ri_clv2 at hr
        split at hr
        · rename_i k As r hta
          obtain ⟨fr, e1, e2, e3⟩ := ri_take_spec _ _ _ _ _ hta
          rw [List.append_nil] at e3
          cases hk : Nat.beq (ri_rcv k) (ri_mcl u) with
          | false => rw [hk] at hr; cases hr
          | true =>
            rw [hk] at hr
            have hk := Nat.eq_of_beq_eq_true hk
            have hr : ri_mkc j (.ref k :: As) mi (pc + 3) L r S = some x := hr
            unfold ri_mkc at hr
            cases hc : Nat.ble (ri_cats r) 8 with
            | false => rw [hc] at hr; cases hr
            | true =>
              rw [hc] at hr
              cases hr
              have hc := Nat.le_of_ble_eq_true hc
              obtain ⟨d, v, S1, k1, k2, k4, k5⟩ := kx u hu (by rw [hf1]; decide)
              dsimp only at k4 k5
              have hlk : (Cond.methodLink (ri_cn cl0) idx (ri_y u)) ∈ lw_all := by
                have hl2 : (match ri_mt j with
                  | some t => ri_wat p0 (.methodLink (ri_cn cl0) idx (ri_y t))
                  | none => false) = true := hl
                rw [hu] at hl2
                exact ri_wat_in hl2
              obtain ⟨w1, w2, w3⟩ := ri_wf1 hu hf1
              obtain ⟨g1, g2, g3, g4, g5⟩ := ri_nf hu
              have hf2 : ri_flag u ≠ 2 := by rw [hf1]; decide
              have hfr : fr = As.reverse ++ [.ref k] := by
                have := congrArg List.reverse e3
                rw [List.reverse_reverse] at this
                rw [← this]
                simp
              have hlen : As.length = ri_nargs u := by
                rw [hfr] at e2
                simp at e2
                exact e2
              refine ⟨rfl, fun H locs ls hP hS hls => ?_⟩
              have hrcv : Nat.beq k 4000 = false ∧ ∃ cellB : Cell, H[ad k]? = some cellB ∧ cellB.vm.isStatics = false ∧ s.vm.findClass (ri_y u).cls = some cellB.cls := by
                unfold ri_rcv at hk
                cases h1 : Nat.ble 1000 k with
                | true =>
                  rw [h1] at hk
                  cases h2 : Nat.ble k 1012 with
                  | true =>
                    rw [h2] at hk
                    have hk7 : 7 = ri_mcl u := hk
                    rw [← hk7] at g4
                    have b1 := Nat.le_of_ble_eq_true h1
                    have b2 := Nat.le_of_ble_eq_true h2
                    obtain ⟨i, rfl⟩ := Nat.exists_eq_add_of_le b1
                    have hi : i < 13 := Nat.lt_succ_of_le (Nat.le_of_add_le_add_left b2)
                    refine ⟨ri_k4 (by omega), ?_⟩
                    have e7 : ri_nth ri_own 7 = some "java/lang/String" := by decide +kernel
                    rw [e7] at g4
                    have e8 := Option.some.inj g4
                    rw [← e8]
                    exact vk_recv (adK := fun i => ad (1000 + i)) hEF.2.2.2.2.2.2.1 hi hS
                  | false =>
                    rw [h2] at hk
                    have hk7 : 998 = ri_mcl u := hk
                    rw [← hk7, show ri_nth ri_own 998 = none by decide +kernel] at g4
                    cases g4
                | false =>
                  rw [h1] at hk
                  have hk2 : (match ri_lay k with
                    | .inl (ci, _) => ci
                    | _ => 998) = ri_mcl u := hk
                  split at hk2
                  · rename_i ci fl hly
                    subst hk2
                    have hne : ri_nth ri_cls (ri_mcl u) ≠ none := by
                      intro z
                      by_cases h999 : ri_mcl u = 999
                      · rw [h999, show ri_nth ri_own 999 = none by decide +kernel] at g4
                        cases g4
                      · have := (ri_lay_use hly (fun l z2 => by
                          exact h999 (congrArg (fun q : ri_LK => match q with
                            | .inl q => q.1
                            | _ => 0) z2))).2
                        unfold ri_lyk at this
                        dsimp only at this
                        rw [z] at this
                        cases this
                    obtain ⟨hkK, r1, hr1, -, -⟩ := ri_lay_obj hly hne
                    refine ⟨ri_ne4000 hkK, ?_⟩
                    have := ri_own_of hr1
                    rw [this] at g4
                    rw [← Option.some.inj g4]
                    exact va_recv hEF.1 hP (ri_cls_lt hr1) (by rw [ri_wld_get hkK, ri_ent_obj hly])
                  · rw [← hk2, show ri_nth ri_own 998 = none by decide +kernel] at g4
                    cases g4
              obtain ⟨hk4, hcell⟩ := hrcv
              have est : st.map (ri_cv ad fz) = (As.map (ri_cv ad fz)).reverse ++ .ref (ad k) :: r.map (ri_cv ad fz) := by
                rw [e1, hfr, ← ri_cv_ne (ad := ad) (fz := fz) hk4]
                simp
              have epre := ri_pre (D := D) (cA := cA) (S := S) (As := .ref k :: As) hEF hA hS hP
              rw [List.map_cons, ri_cv_ne hk4] at epre
              have hM := k4
              refine ri_callw (rest := r.map (ri_cv ad fz)) (va_runV (C := (ri_y u).cls) (b := ad k) (As := As.map (ri_cv ad fz)) ⟨hx, hb, hml, hown, hts⟩ hM ⟨ri_callB hu hf2 w1 hts k1 k2 (by rw [← hcn]; exact hts _ hlk), hts _ w2, hts _ w3⟩ ⟨ri_Pc_blind, hcell, epre⟩ rfl (by rw [List.length_map]; exact hlen) hls.1 est (by rw [ri_cats_eq hz]; show 2 * 0 + _ ≤ 8; omega) hd ⟨hcs.1, hcs.2⟩) hS hA (fun H1 locs1 hP1 hS1 => ?_)
              cases v with
              | none => exact (k5 rfl).2 H1 locs1 ls hP1 hS1 hls
              | some v => exact (k5 rfl).2 H1 locs1 ls hP1 hS1 hls
        · cases hr
  · cases hr
theorem rs_iret (hd : decode (ri_b t) pc = .ok (.ireturn, 1)) (hr : ri_iret mi S st = some x) (kx : ri_Kx l R (ri_Wf p l e R s m args below meth c cells slots Q) m t mi D tys ad cA fz E A s.heap pc x) : ri_T (ri_Wf p l e R s m args below meth c cells slots Q) m mi (ri_ml0 t) D ad cA fz A s.heap (mi, pc, L, st) S := by
  unfold ri_iret at hr
  split at hr
  · cases hr
    exact ⟨rfl, fun H locs ls hP hS hl => kx rfl H locs ls hP hS hd⟩
  · cases hr
theorem rs_lret (hd : decode (ri_b t) pc = .ok (.lreturn, 1)) (hr : ri_lret mi S st = some x) (kx : ri_Kx l R (ri_Wf p l e R s m args below meth c cells slots Q) m t mi D tys ad cA fz E A s.heap pc x) : ri_T (ri_Wf p l e R s m args below meth c cells slots Q) m mi (ri_ml0 t) D ad cA fz A s.heap (mi, pc, L, st) S := by
  unfold ri_lret at hr
  split at hr
  · cases hr
    exact ⟨rfl, fun H locs ls hP hS hl => kx rfl H locs ls hP hS hd⟩
  · cases hr
theorem rs_vret (hd : decode (ri_b t) pc = .ok (.return_, 1)) (hr : ri_vret mi S st = some x) (kx : ri_Kx l R (ri_Wf p l e R s m args below meth c cells slots Q) m t mi D tys ad cA fz E A s.heap pc x) : ri_T (ri_Wf p l e R s m args below meth c cells slots Q) m mi (ri_ml0 t) D ad cA fz A s.heap (mi, pc, L, st) S := by
  unfold ri_vret at hr
  split at hr
  · cases hr
    exact ⟨rfl, fun H locs ls hP hS hl => kx rfl H locs ls hP hS hd⟩
  · cases hr
theorem rs_aret (hd : decode (ri_b t) pc = .ok (.areturn, 1)) (hr : ri_aret mi S st = some x) (kx : ri_Kx l R (ri_Wf p l e R s m args below meth c cells slots Q) m t mi D tys ad cA fz E A s.heap pc x) : ri_T (ri_Wf p l e R s m args below meth c cells slots Q) m mi (ri_ml0 t) D ad cA fz A s.heap (mi, pc, L, st) S := by
  unfold ri_aret at hr
  split at hr
  · rename_i k
    cases hk : Nat.beq k 4000 with
    | true => rw [hk] at hr; cases hr
    | false =>
      rw [hk] at hr
      cases hr
      exact ⟨rfl, fun H locs ls hP hS hl => kx rfl H locs ls hP hS ⟨hd, hk⟩⟩
  · cases hr
    exact ⟨rfl, fun H locs ls hP hS hl => kx rfl H locs ls hP hS hd⟩
  · cases hr
end FOUR
