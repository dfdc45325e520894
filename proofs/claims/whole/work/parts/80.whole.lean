theorem dL_law_0 : decode code 0 = .ok (.new 7, 3) := by decide +kernel
theorem dL_law_3 : decode code 3 = .ok (.dup, 1) := by decide +kernel
theorem dL_law_4 : decode code 4 = .ok (.invokespecial 9, 3) := by decide +kernel
theorem dL_law_7 : decode code 7 = .ok (.astore_n 1, 1) := by decide +kernel
theorem dL_law_8 : decode code 8 = .ok (.new 10, 3) := by decide +kernel
theorem dL_law_11 : decode code 11 = .ok (.dup, 1) := by decide +kernel
theorem dL_law_12 : decode code 12 = .ok (.invokespecial 12, 3) := by decide +kernel
theorem dL_law_15 : decode code 15 = .ok (.astore_n 2, 1) := by decide +kernel
def f50 : List Value := [.int 0, .null, .null, .int 0, .int 0, .null, .int 0, .int 0, .null, .null, .null, .int 0, .int 0, .int 0, .int 0, .int 0, .int 0, .int 0, .int 0, .int 0, .int 0, .int 0, .int 0, .long 0, .int 0, .int 0, .int 0, .null, .null, .null, .null, .null, .null, .null, .null, .null, .int 0, .int 0, .int 0, .null, .null, .null, .null]
/-! THE CLAIM OUT OF ONE WALK OF THE LAW'S BODY. Your part is whole_start (and what it stands on); all else here is the same for every law, but numbers. -/
def R_law : String := "RoadsNotGoneByLaw"
def lw_P (b : Addr) (xs : List Int32) (args : Array Value) (s : State) : Prop := args = #[.ref b] ∧ s.IntsAt b xs ∧ xs.length ≤ 3072 ∧ (Jvm.Cond.and given_1 narrow_1).before args s = true
def lw_Q (_ : Array Value) (s : State) (o : Outcome) (t : State) : Prop := o = .returned (some (.int 1)) ∧ Framed s o t [] 600000 7302250
def lw_Z (below : List Frame) (a : Array Value) (s : State) : State → Prop := fun t => ∃ o, t.status = .running ∧ Ended t below o ∧ lw_Q a s o t
/-- the law's own end, with 1 on the stack, nothing written that was there before, its room as the claim has it -/
theorem lw_ret {p : Program} {l : Launch} {e : Env} {s : State} {m : MethodId} {below : List Frame} {meth : Method} {c : Code} {b : Nat} (hx : p.tables.exec = Jvm.exec) (hb : c.code = code) (hr : meth.sig.returnType = ret) (hlocks : meth.locks = false) {pc : Nat} {H : Heap} {ls : Array Slot} (hdg : decode code pc = .ok (.ireturn, 1)) : W p l e room_1 s m #[Value.ref b] below meth c H [] 600000 7302250 (lw_Z below #[Value.ref b] s) (F0 m pc ls [.int 1]) := by
  intro T hT X
  obtain ⟨fs, hret, hrun, hended, hW, hframe⟩ := X.leave (v := some (.int 1)) (hlocks := hlocks) (fun h => by rw [hr] at h; cases h)
  have hmeth' : T.vm.method? m = some meth := X.method'
  refine ⟨T.setFrames fs, ?_, .returned (some (.int 1)), hrun, hended, rfl, ⟨_, rfl⟩, hW, hframe⟩
  jvm_step X.here [X.here.top, hx, hb, hdg, hmeth', hr, ret, narrow_b1]
  (try refine ⟨rfl, ?_⟩); (try refine ⟨rfl, ?_⟩)
  first | (intro acts; rw [hret _ acts rfl rfl rfl]) | rw [hret _ _ rfl rfl rfl]
  exact Steps.refl _
/-- what holds at the law's entry: the machine, the code, the tables' words (any of lw_tbl by 'hts w (by decide +kernel)'), the script of L ints xs at the cell b, what the Statement gives of the start (any of its parts by flat_of_before) -/
def lw_At (p : Program) (s : State) (m : MethodId) (meth : Method) (c : Code) (b L : Nat) (xs : Nat → Int32) : Prop :=
  p.tables.exec = Jvm.exec ∧ c.code = code ∧ meth.sig.returnType = ret ∧ c.maxLocals = 4 ∧ s.vm.findClass R_law = some m.cls ∧ (∀ w ∈ lw_tbl, w.before #[Value.ref b] s = true) ∧ va_X b L xs s s.heap ∧ b < s.heap.size ∧ meth.locks = false ∧ (Jvm.Cond.and given_1 narrow_1).before #[Value.ref b] s = true
set_option maxHeartbeats 4000000 in
set_option maxRecDepth 100000 in
theorem whole_start {p : Program} {e : Env} {s : State} {m : MethodId} {below : List Frame} {meth : Method} {c : Code} (l : Launch) (hflags : l.flags = flags0) {b L : Nat} {xs : Nat → Int32} (hL : L ≤ 3072) (C0 : lw_At p s m meth c b L xs) : W p l e room_1 s m #[Value.ref b] below meth c s.heap [] 0 0 (lw_Z below #[Value.ref b] s) (entryFrame m ([Value.ref b] : List Value).toArray 4) := by
  obtain ⟨hx, hb, hr, hml, hown, htt, hX, hbl, hlocks, hgv⟩ := id C0
  have hts : ∀ w ∈ lw_all, w.before #[Value.ref b] s = true := fun w hw => htt w (List.mem_filter.mp hw).1
  have hA : ∀ q : Nat, s.heap.size ≤ q → (fun q : Nat => s.heap.size ≤ q) q := fun _ h => h
  have hbA : ¬ (fun q : Nat => s.heap.size ≤ q) b := Nat.not_le.mpr hbl
  obtain ⟨dC, dI, hKc⟩ : ∃ (dC : Nat → ClassId) (dI : Nat → Nat → Nat), ∀ (k : Nat) (q : vw_C), ri_cls[k]? = some q → u_Kn s q.1 q.2.1 q.2.2 (dC k) (dI k) := by
    obtain ⟨c0, i0, k0⟩ := u_known (C := RX0) (T := TX0) (N := 9) (n := 9) hts (ri_lays (c := 0) rfl) (hts (.instantiable RX0 9) (ri_in 151 (by decide +kernel) rfl))
    obtain ⟨c1, i1, k1⟩ := u_known (C := RX1) (T := TX1) (N := 3) (n := 3) hts (ri_lays (c := 1) rfl) (hts (.instantiable RX1 3) (ri_in 240 (by decide +kernel) rfl))
    obtain ⟨c2, i2, k2⟩ := u_known (C := RX2) (T := TX2) (N := 5) (n := 5) hts (ri_lays (c := 2) rfl) (hts (.instantiable RX2 5) (ri_in 126 (by decide +kernel) rfl))
    obtain ⟨c3, i3, k3⟩ := u_known (C := RX3) (T := TX3) (N := 12) (n := 12) hts (ri_lays (c := 3) rfl) (hts (.instantiable RX3 12) (ri_in 186 (by decide +kernel) rfl))
    obtain ⟨c4, i4, k4⟩ := u_known (C := RX4) (T := TX4) (N := 11) (n := 11) hts (ri_lays (c := 4) rfl) (hts (.instantiable RX4 11) (ri_in 118 (by decide +kernel) rfl))
    obtain ⟨c5, i5, k5⟩ := u_known (C := RX5) (T := TX5) (N := 43) (n := 43) hts (ri_lays (c := 5) rfl) (hts (.instantiable RX5 43) (ri_in 782 (by decide +kernel) rfl))
    refine ⟨fun k => if k = 0 then c0 else if k = 1 then c1 else if k = 2 then c2 else if k = 3 then c3 else if k = 4 then c4 else c5, fun k => if k = 0 then i0 else if k = 1 then i1 else if k = 2 then i2 else if k = 3 then i3 else if k = 4 then i4 else i5, ?_⟩
    intro k q hq
    match k, hq with
    | 0, hq => cases hq; exact k0
    | 1, hq => cases hq; exact k1
    | 2, hq => cases hq; exact k2
    | 3, hq => cases hq; exact k3
    | 4, hq => cases hq; exact k4
    | 5, hq => cases hq; exact k5
    | k + 6, hq => simp [ri_cls] at hq
  have hS : va_S (fun q : Nat => s.heap.size ≤ q) s.heap s.heap [] := va_S.rf
  have hK : va_K (dC, dI) ri_cls [] s := ⟨hKc, fun k q h => by simp at h⟩
  have hP : va_P (dC, dI) ri_cls [] s.heap := fun k q h => by simp at h
  have hD : va_D (fun q : Nat => s.heap.size ≤ q) [] := ⟨fun i j p q h => by simp at h, fun k q h => by simp at h⟩
  obtain ⟨ad0, fz, hfz, had3, hEF⟩ := law_EF htt hgv hX hbl hK
  have hl := lv_entry ([.ref b]) (n := 4) (Nat.le_of_ble_eq_true rfl)
  rw [lg_entry_eq]
  generalize (lg_sl ([.ref b]) ++ List.replicate (4 - (lg_sl ([.ref b])).length) Slot.unset).toArray = ls at hl ⊢
  have hl : lv_has ls 4 [(0, .ref b)] := hl
  refine va_new (ci := 4) (fs := [.null, .null, .null, .null, .null, .null, .null, .null, .null, .null, .int 0]) (C := RX4) (T := TX4) (N := 11) hx hb hts (ri_lays (c := 4) rfl) tyX4 tyX4_ok hown (hts (.classLink RL 7 RX4) (ri_in 117 (by decide +kernel) rfl)) (hts (.instantiable RX4 11) (ri_in 118 (by decide +kernel) rfl)) (hts (.initialized RX4) (ri_in 105 (by decide +kernel) rfl)) hK hP hD hS hA rfl (fun j hj => by rcases (show j = 0 ∨ j = 1 ∨ j = 2 ∨ j = 3 ∨ j = 4 ∨ j = 5 ∨ j = 6 ∨ j = 7 ∨ j = 8 ∨ j = 9 ∨ j = 10 by omega) with rfl | rfl | rfl | rfl | rfl | rfl | rfl | rfl | rfl | rfl | rfl <;> rfl) (Nat.le_of_ble_eq_true rfl) (Nat.le_of_ble_eq_true rfl) dL_law_0 (fun o0 H hP hD hS => ?_)
  have hP : va_P (dC, dI) ri_cls [(o0, .inr (4, [.null, .null, .null, .null, .null, .null, .null, .null, .null, .null, .int 0]))] H := hP
  have hD : va_D (fun q : Nat => s.heap.size ≤ q) [(o0, .inr (4, [.null, .null, .null, .null, .null, .null, .null, .null, .null, .null, .int 0]))] := hD
  refine W.widen (k := 1) (n := 11) (by omega) (by omega) ?_
  refine lv_dup hx hb dL_law_3 rfl ?_
  have hFc := va_free (wc := [(o0, .inr (4, [.null, .null, .null, .null, .null, .null, .null, .null, .null, .null, .int 0]))]) hD hS hA [0] rfl
  have hn1 := va_Nw.of (w := .methodLinkNest RX4 9 yX2_init "RoadsNotGoneBy") rfl (htt _ (List.mem_of_getElem? (i := 127) (by decide +kernel)))
  have hn2 := va_Nw.of (w := .methodLinkNest RX4 62 yX1_init "RoadsNotGoneBy") rfl (htt _ (List.mem_of_getElem? (i := 241) (by decide +kernel)))
  have hao : va_AO RX1 s := va_AO.of (htt (.arrayOver (.object RX1)) (List.mem_of_getElem? (i := 239) (by decide +kernel)))
  refine va_callv (va_runI (As := []) (rest := [.ref o0]) ⟨hx, hb, hml, hown, hts⟩ (ccX4_init l dC dI ad0 fz (L, xs) hfz o0 H.size) ⟨callB_of 0 hts (wc_good (ri_in 121 (by decide +kernel) rfl)) rfl rfl rfl (hts (.initialized RX4) (ri_in 105 (by decide +kernel) rfl)) (hts (.methodLink RL 9 yX4_init) (ri_in 119 (by decide +kernel) rfl)) ⟨by decide +kernel, by decide +kernel, by decide +kernel⟩ ⟨Nat.le_of_ble_eq_true rfl, Nat.le_of_ble_eq_true rfl⟩, rfl, (hts (.instanceMethod yX4_init) (ri_in 120 (by decide +kernel) rfl))⟩ ⟨fun a U g mk q => by obtain ⟨q0, q1, qP, qE, qD, qn1, qn2, qo⟩ := q; exact ⟨q0, q1, qP, qE.calling g mk a, qD, va_Nw.same (u := U) (U := U.calling g mk a) rfl rfl qn1, va_Nw.same (u := U) (U := U.calling g mk a) rfl rfl qn2, va_AO.moved (u := U) (U := U.calling g mk a) (Vm.Alike.refl U.vm) qo⟩, fun U hU hW => ⟨rfl, by rw [hU], by rw [hU]; exact hP, hEF.to hS.2.1 hW hU (fun q h => hFc q h), hD.weaken (fun _ _ _ _ => trivial), va_Nw.warmM hW hn1, va_Nw.warmM hW hn2, va_AO.moved hW.alike hao⟩⟩ rfl rfl hl.1 rfl (lv_room (Nat.le_of_ble_eq_true rfl)) dL_law_4 ⟨Nat.le_of_ble_eq_true rfl, Nat.le_of_ble_eq_true rfl⟩) hS (fun q _ h => hFc q h) hFc (fun u t H1 locs ht hvm h5 hB hz1 hk1 hS => ?_)
  obtain ⟨ad4, cA4, tys4, S, hP1, hK1, hD1, had0, hTy4, hS4⟩ := hB
  rw [ht] at hP1
  have hK1 := va_K.moved hvm.symm hK1
  obtain ⟨hP, hD⟩ := va_join (wr := []) (w1 := (j_ri_wld ad4 cA4 S)) hP hD [0] [] rfl rfl (by decide) (by decide) hk1 hFc hP1 hD1
  have hK : va_K (dC, dI) ri_cls tys4 s := (hK.sub (tys' := []) [] rfl).app hK1
  generalize H1 = H at hP hS ⊢
  have hP : va_P (dC, dI) ri_cls (j_ri_wld ad4 cA4 S) H := hP
  have hD : va_D (fun q : Nat => s.heap.size ≤ q) (j_ri_wld ad4 cA4 S) := hD
  refine W.widen (k := 50) (n := 2309) (by omega) (by omega) ?_
  refine lv_astore_n (lv' := [(1, .ref o0), (0, .ref b)]) hx hb dL_law_7 rfl hl (by decide) rfl (fun ls hl => ?_)
  refine va_new (ci := 5) (fs := [.int 0, .null, .null, .int 0, .int 0, .null, .int 0, .int 0, .null, .null, .null, .int 0, .int 0, .int 0, .int 0, .int 0, .int 0, .int 0, .int 0, .int 0, .int 0, .int 0, .int 0, .long 0, .int 0, .int 0, .int 0, .null, .null, .null, .null, .null, .null, .null, .null, .null, .int 0, .int 0, .int 0, .null, .null, .null, .null]) (C := RX5) (T := TX5) (N := 43) hx hb hts (ri_lays (c := 5) rfl) tyX5 tyX5_ok hown (hts (.classLink RL 10 RX5) (ri_in 781 (by decide +kernel) rfl)) (hts (.instantiable RX5 43) (ri_in 782 (by decide +kernel) rfl)) (hts (.initialized RX5) (ri_in 114 (by decide +kernel) rfl)) hK hP hD hS hA rfl (fun j hj => by rcases (show j = 0 ∨ j = 1 ∨ j = 2 ∨ j = 3 ∨ j = 4 ∨ j = 5 ∨ j = 6 ∨ j = 7 ∨ j = 8 ∨ j = 9 ∨ j = 10 ∨ j = 11 ∨ j = 12 ∨ j = 13 ∨ j = 14 ∨ j = 15 ∨ j = 16 ∨ j = 17 ∨ j = 18 ∨ j = 19 ∨ j = 20 ∨ j = 21 ∨ j = 22 ∨ j = 23 ∨ j = 24 ∨ j = 25 ∨ j = 26 ∨ j = 27 ∨ j = 28 ∨ j = 29 ∨ j = 30 ∨ j = 31 ∨ j = 32 ∨ j = 33 ∨ j = 34 ∨ j = 35 ∨ j = 36 ∨ j = 37 ∨ j = 38 ∨ j = 39 ∨ j = 40 ∨ j = 41 ∨ j = 42 by omega) with rfl | rfl | rfl | rfl | rfl | rfl | rfl | rfl | rfl | rfl | rfl | rfl | rfl | rfl | rfl | rfl | rfl | rfl | rfl | rfl | rfl | rfl | rfl | rfl | rfl | rfl | rfl | rfl | rfl | rfl | rfl | rfl | rfl | rfl | rfl | rfl | rfl | rfl | rfl | rfl | rfl | rfl | rfl <;> rfl) (Nat.le_of_ble_eq_true rfl) (Nat.le_of_ble_eq_true rfl) dL_law_8 (fun o8 H hP hD hS => ?_)
  have hP : va_P (dC, dI) ri_cls ((j_ri_wld ad4 cA4 S) ++ [(o8, .inr (5, f50))]) H := hP
  have hD : va_D (fun q : Nat => s.heap.size ≤ q) ((j_ri_wld ad4 cA4 S) ++ [(o8, .inr (5, f50))]) := hD
  refine W.widen (k := 51) (n := 2352) (by omega) (by omega) ?_
  refine lv_dup hx hb dL_law_11 rfl ?_
  have hlen : ((j_ri_wld ad4 cA4 S)).length = 50 := by
    unfold j_ri_wld
    rw [List.length_map, List.length_range]
  have hc50 : ((j_ri_wld ad4 cA4 S) ++ [(o8, .inr (5, f50))])[50]? = some ((o8, .inr (5, f50)) : Nat × va_E) := by
    rw [List.getElem?_append_right (by omega), hlen]
    rfl
  have hc1 : [50].map (fun i => ((j_ri_wld ad4 cA4 S) ++ [(o8, .inr (5, f50))])[i]?) = [((o8, .inr (5, f50)) : Nat × va_E)].map some := by
    show [((j_ri_wld ad4 cA4 S) ++ [(o8, .inr (5, f50))])[50]?] = [some ((o8, .inr (5, f50)) : Nat × va_E)]
    rw [hc50]
  have hcR : (List.range 50).map (fun i => ((j_ri_wld ad4 cA4 S) ++ [(o8, .inr (5, f50))])[i]?) = ((j_ri_wld ad4 cA4 S)).map some := by
    apply List.ext_getElem?
    intro k
    rcases Nat.lt_or_ge k 50 with q | q
    · rw [List.getElem?_map, List.getElem?_range q, List.getElem?_map]
      show some (((j_ri_wld ad4 cA4 S) ++ [(o8, .inr (5, f50))])[k]?) = _
      rw [List.getElem?_append_left (by omega), j_ri_wld_get q]
      rfl
    · rw [List.getElem?_eq_none (by simp; omega), List.getElem?_eq_none (by simp; omega)]
  have hc2 : [50].filterMap (fun i => ((j_ri_wld ad4 cA4 S) ++ [(o8, .inr (5, f50))])[i]?) = [((o8, .inr (5, f50)) : Nat × va_E)] := by
    simp only [List.filterMap_cons, List.filterMap_nil, hc50]
  have hPc := hP.sub (ws' := [(o8, .inr (5, f50))]) [50] hc2
  have hDc := hD.sub (ws' := [(o8, .inr (5, f50))]) [50] (by decide) hc1
  have hKc := hK.sub (tys' := []) [] rfl
  have hFc := va_free (wc := [(o8, .inr (5, f50))]) hD hS hA [50] hc1
  refine va_callv (va_runI (As := []) (rest := [.ref o8]) ⟨hx, hb, hml, hown, hts⟩ (ccX5_init l dC dI o8 H.size) ⟨callB_of 0 hts (wc_good (ri_in 785 (by decide +kernel) rfl)) rfl rfl rfl (hts (.initialized RX5) (ri_in 114 (by decide +kernel) rfl)) (hts (.methodLink RL 12 yX5_init) (ri_in 783 (by decide +kernel) rfl)) ⟨by decide +kernel, by decide +kernel, by decide +kernel⟩ ⟨Nat.le_of_ble_eq_true rfl, Nat.le_of_ble_eq_true rfl⟩, rfl, (hts (.instanceMethod yX5_init) (ri_in 784 (by decide +kernel) rfl))⟩ ⟨fun a U g mk q => by obtain ⟨q0, q1, qP, qK, qD⟩ := q; exact ⟨q0, q1, qP, va_K.moved (u := U) (U := U.calling g mk a) (Vm.Alike.refl U.vm) qK, qD⟩, fun U hU hW => ⟨rfl, by rw [hU], by rw [hU]; exact hPc, va_K.moved hW.alike hKc, hDc.weaken (fun _ _ _ _ => trivial)⟩⟩ rfl rfl hl.1 rfl (lv_room (Nat.le_of_ble_eq_true rfl)) dL_law_12 ⟨Nat.le_of_ble_eq_true rfl, Nat.le_of_ble_eq_true rfl⟩) hS (fun q _ h => hFc q h) hFc (fun u t H1 locs ht hvm h5 hB hz1 hk1 hS => ?_)
  obtain ⟨q8, q16, q25, q33, q41, q49, q57, q65, q73, q81, q89, q97, q105, q113, q121, q133, q140, q147, q156, c8, c16, c25, c33, c41, c49, c57, c65, c73, c81, c89, c97, c105, c113, c121, c133, c140, c147, c156, hP1, hK1, hD1⟩ := hB
  rw [ht] at hP1
  have hK1 := va_K.moved hvm.symm hK1
  have hD1 : va_D (va_A [(o8, .inr (5, f50))] H.size) [(o8, .inr (5, [.int 0, .ref q8, .ref q16, .int (1), .int 0, .ref q25, .int 0, .int 0, .ref q33, .ref q41, .ref q49, .int 0, .int 0, .int 0, .int 0, .int 0, .int 0, .int 0, .int 0, .int 0, .int 0, .int 0, .int 0, .long 0, .int 0, .int 0, .int 0, .ref q57, .ref q65, .ref q73, .ref q81, .ref q89, .ref q97, .ref q105, .ref q113, .ref q121, .int (-1), .int 0, .int 0, .ref q133, .ref q140, .ref q147, .ref q156])), (q8, .inl (c8, 960, .inl mtx0)), (q16, .inl (c16, 6, .inl (upd (fun _ => 0) 0 48))), (q25, .inl (c25, 160, .inl (fun _ => 0))), (q33, .inl (c33, 24, .inl (ldr 24))), (q41, .inl (c41, 24, .inl (fun _ => 0))), (q49, .inl (c49, 25, .inl (fun _ => 0))), (q57, .inl (c57, 50, .inl (fun _ => 0))), (q65, .inl (c65, 12, .inr (.inl (fun _ => 0)))), (q73, .inl (c73, 12, .inr (.inl (fun _ => 0)))), (q81, .inl (c81, 12, .inl (fun _ => 0))), (q89, .inl (c89, 12, .inl (fun _ => 0))), (q97, .inl (c97, 24, .inl (fun _ => 0))), (q105, .inl (c105, 24, .inl (fun _ => 0))), (q113, .inl (c113, 24, .inl (fun _ => 0))), (q121, .inl (c121, 25, .inl (fun _ => 0))), (q133, .inl (c133, 4, .inl (fun _ => 0))), (q140, .inl (c140, 4, .inl (fun _ => 0))), (q147, .inl (c147, 4, .inl (fun _ => 0))), (q156, .inl (c156, 160, .inl (fun _ => 0)))] := hD1
  have hk1 : ∀ q : Nat, q < H.size → ¬ va_A [(o8, .inr (5, f50))] H.size q → H1[q]? = H[q]? := hk1
  obtain ⟨hP, hD⟩ := va_join (wr := (j_ri_wld ad4 cA4 S)) (w1 := [(o8, .inr (5, [.int 0, .ref q8, .ref q16, .int (1), .int 0, .ref q25, .int 0, .int 0, .ref q33, .ref q41, .ref q49, .int 0, .int 0, .int 0, .int 0, .int 0, .int 0, .int 0, .int 0, .int 0, .int 0, .int 0, .int 0, .long 0, .int 0, .int 0, .int 0, .ref q57, .ref q65, .ref q73, .ref q81, .ref q89, .ref q97, .ref q105, .ref q113, .ref q121, .int (-1), .int 0, .int 0, .ref q133, .ref q140, .ref q147, .ref q156])), (q8, .inl (c8, 960, .inl mtx0)), (q16, .inl (c16, 6, .inl (upd (fun _ => 0) 0 48))), (q25, .inl (c25, 160, .inl (fun _ => 0))), (q33, .inl (c33, 24, .inl (ldr 24))), (q41, .inl (c41, 24, .inl (fun _ => 0))), (q49, .inl (c49, 25, .inl (fun _ => 0))), (q57, .inl (c57, 50, .inl (fun _ => 0))), (q65, .inl (c65, 12, .inr (.inl (fun _ => 0)))), (q73, .inl (c73, 12, .inr (.inl (fun _ => 0)))), (q81, .inl (c81, 12, .inl (fun _ => 0))), (q89, .inl (c89, 12, .inl (fun _ => 0))), (q97, .inl (c97, 24, .inl (fun _ => 0))), (q105, .inl (c105, 24, .inl (fun _ => 0))), (q113, .inl (c113, 24, .inl (fun _ => 0))), (q121, .inl (c121, 25, .inl (fun _ => 0))), (q133, .inl (c133, 4, .inl (fun _ => 0))), (q140, .inl (c140, 4, .inl (fun _ => 0))), (q147, .inl (c147, 4, .inl (fun _ => 0))), (q156, .inl (c156, 160, .inl (fun _ => 0)))]) hP hD [50] (List.range 50) hc1 hcR (by decide) (by decide) hk1 hFc hP1 hD1
  have hK := hK.app hK1
  generalize H1 = H at hP hS ⊢
  rw [← wld70 ad4 ad0 cA4 S o8 q8 q16 q25 q33 q41 q49 q57 q65 q73 q81 q89 q97 q105 q113 q121 q133 q140 q147 q156 c8 c16 c25 c33 c41 c49 c57 c65 c73 c81 c89 c97 c105 c113 c121 c133 c140 c147 c156] at hP hD
  have hTy := ty70 cA4 tys4 hTy4 c8 c16 c25 c33 c41 c49 c57 c65 c73 c81 c89 c97 c105 c113 c121 c133 c140 c147 c156
  have h3000 : (ad70 ad4 [o8, q8, q16, q25, q33, q41, q49, q57, q65, q73, q81, q89, q97, q105, q113, q121, q133, q140, q147, q156] ad0) 3000 = b := had3
  have hEF2 : ri_EF (dC, dI) (tys4 ++ [(c8, .int), (c16, .int), (c25, .int), (c33, .int), (c41, .int), (c49, .int), (c57, .int), (c65, .long), (c73, .long), (c81, .int), (c89, .int), (c97, .int), (c105, .int), (c113, .int), (c121, .int), (c133, .boolean), (c140, .int), (c147, .int), (c156, .int)]) (ad70 ad4 [o8, q8, q16, q25, q33, q41, q49, q57, q65, q73, q81, q89, q97, q105, q113, q121, q133, q140, q147, q156] ad0) fz (L, xs) (fun q : Nat => s.heap.size ≤ q) s s.heap := EF_ad hEF hK (fun k hk => by
    show (if k < 50 then ad4 k else if k < 70 then _ else ad0 k) = ad0 k
    rw [if_neg (by omega), if_neg (by omega)])
  generalize hada : (ad70 ad4 [o8, q8, q16, q25, q33, q41, q49, q57, q65, q73, q81, q89, q97, q105, q113, q121, q133, q140, q147, q156] ad0) = ad at hP hD h3000 hEF2
  generalize hcaa : (cA70 cA4 [c8, c8, c16, c25, c33, c41, c49, c57, c65, c73, c81, c89, c97, c105, c113, c121, c133, c140, c147, c156] c8) = cA at hP hD hTy
  generalize (tys4 ++ [(c8, .int), (c16, .int), (c25, .int), (c33, .int), (c41, .int), (c49, .int), (c57, .int), (c65, .long), (c73, .long), (c81, .int), (c89, .int), (c97, .int), (c105, .int), (c113, .int), (c121, .int), (c133, .boolean), (c140, .int), (c147, .int), (c156, .int)] : List (ClassId × FieldType)) = tys at hK hTy hEF2
  have e0 : ad 0 = o0 := hada ▸ had0
  have e50 : ad 50 = o8 := hada ▸ rfl
  refine W.widen (k := 70) (n := 3918) (by omega) (by omega) ?_
  refine lv_astore_n (lv' := [(2, .ref o8), (1, .ref o0), (0, .ref b)]) hx hb dL_law_15 rfl hl (by decide) rfl (fun ls hl => ?_)
  have hI : ∀ i j, i < ri_K → j < ri_K → ad i = ad j → i = j := fun i j hi hj e => hD.1 i j _ _ (ri_wld_get hi) (ri_wld_get hj) e
  have hAk : ∀ k, k < ri_K → (fun q : Nat => s.heap.size ≤ q) (ad k) := fun k hk => hD.2 k _ (ri_wld_get hk)
  have hAd : ri_Ad ad cA fz tys := ⟨hI, hfz, hTy⟩
  obtain ⟨n, pcr, v, S', hrun, v1, hv, hv1⟩ := wt213 (law_ok (L, xs) (show L < 2 ^ 20 by omega) (RR_0s hS4))
  subst hv
  subst hv1
  refine (ri_sound (l := l) (D := (dC, dI)) (tys := tys) (ad := ad) (cA := cA) (fz := fz) (E := (L, xs)) hAd n 66 (213, 16, [some (.ref 3000), some (.ref 0), some (.ref 50), none], []) (S70 S) pcr (some (.int 1)) S' hrun p e _ s m _ below meth c 70 3918 _ (fun q : Nat => s.heap.size ≤ q) _ rfl ⟨hx, hb, hml, hown, hts, hEF2, hAk⟩ ?_ ?_ ?_ ?_ (fun H locs ls hP hS hrt hrk => ?_)).2 H locs ls hP hS ⟨hl.1, hl.2.1, rfl, fun i v hv => ?_⟩
  · exact Nat.le_of_ble_eq_true rfl
  · exact Nat.le_of_ble_eq_true rfl
  · exact Nat.le_of_ble_eq_true rfl
  · exact Nat.le_of_ble_eq_true rfl
  · refine va_forget (fun q hq => hS.2.2 q hq) ?_
    refine W.widen (k := 600000) (n := 7302250) (Nat.le_of_ble_eq_true rfl) (Nat.le_of_ble_eq_true rfl) ?_
    exact lw_ret hx hb hr hlocks hrt
  · match i, hv with
    | 0, hv =>
      cases hv
      show ls[0]? = some (.val (.ref (ad 3000)))
      rw [h3000]
      exact lv_at hl 2 rfl
    | 1, hv =>
      cases hv
      show ls[1]? = some (.val (.ref (ad 0)))
      rw [e0]
      exact lv_at hl 1 rfl
    | 2, hv =>
      cases hv
      show ls[2]? = some (.val (.ref (ad 50)))
      rw [e50]
      exact lv_at hl 0 rfl
    | 3, hv => cases hv
    | i + 4, hv => cases hv
