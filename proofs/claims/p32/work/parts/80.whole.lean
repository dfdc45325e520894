theorem dL_law_0 : decode code 0 = .ok (.iconst 0, 1) := by decide +kernel
theorem dL_law_1 : decode code 1 = .ok (.istore_n 1, 1) := by decide +kernel
theorem dL_law_2 : decode code 2 = .ok (.iload_n 1, 1) := by decide +kernel
theorem dL_law_3 : decode code 3 = .ok (.iconst 3, 1) := by decide +kernel
theorem dL_law_4 : decode code 4 = .ok (.if_icmp .ge 890, 3) := by decide +kernel
theorem dL_law_7 : decode code 7 = .ok (.new 13, 3) := by decide +kernel
theorem dL_law_10 : decode code 10 = .ok (.dup, 1) := by decide +kernel
theorem dL_law_11 : decode code 11 = .ok (.invokespecial 15, 3) := by decide +kernel
theorem dL_law_14 : decode code 14 = .ok (.astore_n 2, 1) := by decide +kernel
theorem dL_law_414 : decode code 414 = .ok (.newarray .int, 2) := by decide +kernel
theorem dL_law_416 : decode code 416 = .ok (.astore 18, 2) := by decide +kernel
theorem dL_law_888 : decode code 888 = .ok (.iinc 1 1, 3) := by decide +kernel
theorem dL_law_891 : decode code 891 = .ok (.goto (-889), 3) := by decide +kernel
theorem dL_law_894 : decode code 894 = .ok (.iconst 1, 1) := by decide +kernel
theorem dL_law_895 : decode code 895 = .ok (.ireturn, 1) := by decide +kernel
/-! THE CLAIM OUT OF ONE WALK OF THE LAW'S BODY. Your part is whole_start (and what it stands on); all else here is the same for every law, but numbers. -/
def R_law : String := "RoadsNotGoneByLaw"
def lw_P (b : Addr) (xs : List Int32) (args : Array Value) (s : State) : Prop := args = #[.ref b] ∧ s.IntsAt b xs ∧ xs.length ≤ 260 ∧ (Jvm.Cond.and given_1 narrow_1).before args s = true
def lw_Q (_ : Array Value) (s : State) (o : Outcome) (t : State) : Prop := o = .returned (some (.int 1)) ∧ Framed s o t [] 600000 7302250
def lw_Z (below : List Frame) (a : Array Value) (s : State) : State → Prop := fun t => ∃ o, t.status = .running ∧ Ended t below o ∧ lw_Q a s o t
/-- the law's own end, with 1 on the stack, nothing written that was there before, its room as the claim has it -/
theorem lw_ret {p : Program} {l : Launch} {e : Env} {s : State} {m : MethodId} {below : List Frame} {meth : Method} {c : Code} {b : Nat} (hx : p.tables.exec = Jvm.exec) (hb : c.code = code) (hr : meth.sig.returnType = ret) (hlocks : meth.locks = false) {pc : Nat} {H : Heap} {ls : Array Slot} (hdg : decode code pc = .ok (.ireturn, 1)) : W p l e room_1 s m #[Value.ref b] below meth c H [] 600000 7302250 (lw_Z below #[Value.ref b] s) (F0 m pc ls [.int 1]) := by
  intro T hT X
  obtain ⟨fs, hret, hrun, hended, hW, hframe⟩ := X.leave (v := some (.int 1)) (hlocks := hlocks) (fun h => by rw [hr] at h; cases h)
  have hmeth' : T.vm.method? m = some meth := X.method'
  refine ⟨T.setFrames fs, ?_, .returned (some (.int 1)), hrun, hended, rfl, ⟨_, rfl⟩, hW, hframe⟩
  jvm_step X.here [X.here.top, hx, hb, hdg, hmeth', hr, ret, narrow_b1]
  (try refine ⟨rfl, ?_⟩); (try refine ⟨rfl, ?_⟩)
  first | (intro acts; rw [hret _ acts rfl rfl rfl]) | rw [hret _ _ rfl rfl rfl]
  exact Steps.refl _
/-- what holds at the law's entry: the machine, the code, the tables' words (any of lw_tbl by 'hts w (by decide +kernel)'), the script of L ints xs at the cell b, what the Statement gives of the start (any of its parts by flat_of_before) -/
def lw_At (p : Program) (s : State) (m : MethodId) (meth : Method) (c : Code) (b L : Nat) (xs : Nat → Int32) : Prop :=
  p.tables.exec = Jvm.exec ∧ c.code = code ∧ meth.sig.returnType = ret ∧ c.maxLocals = 23 ∧ s.vm.findClass R_law = some m.cls ∧ (∀ w ∈ lw_tbl, w.before #[Value.ref b] s = true) ∧ va_X b L xs s s.heap ∧ b < s.heap.size ∧ meth.locks = false ∧ (Jvm.Cond.and given_1 narrow_1).before #[Value.ref b] s = true
theorem LV_51 {S : ri_H} {k y first : Nat} (h : LV S k y first) : LV (S51 S) k y first := by
  obtain ⟨a, hR, hp, h3⟩ := h
  have eg : gw (S51 S) 10 = gw S 10 := by
    funext o
    unfold gw
    by_cases h0 : o = 0
    · subst h0
      rw [if_pos rfl, if_pos rfl, S51_ag S 10 (by decide)]
    · rw [if_neg h0, if_neg h0]
      by_cases h1 : o < 8
      · rw [S51_ag S (10 + o) (by omega)]
      · have : gsz o = 0 := by
          unfold gsz
          rw [if_neg (by omega), if_neg (by omega), if_neg h1]
        rw [this]
        funext j
        unfold nz
        rw [if_neg (by omega), if_neg (by omega)]
  refine ⟨a, ⟨⟨trivial, by rw [show gm (S51 S) = gw S 10 from eg]; exact hR.1.2⟩, ?_, trivial⟩, by rw [eg]; exact hp, by rw [eg]; exact h3⟩
  have hT := hR.2.1
  unfold rT ttx at hT ⊢
  rw [S51_ag S 1 (by decide), S51_ag S 2 (by decide), S51_ag S 3 (by decide)]
  exact hT
set_option maxHeartbeats 4000000 in
set_option maxRecDepth 100000 in
theorem turn_ok {p : Program} {e : Env} {s : State} {m : MethodId} {below : List Frame} {meth : Method} {c : Code} (l : Launch) {b L : Nat} {xs : Nat → Int32} (hL : L ≤ 260) (C0 : lw_At p s m meth c b L xs) {dC : Nat → ClassId} {dI : Nat → Nat → Nat} {ad0 : Nat → Nat} {fz : Value} (hfz : fz = .null ∨ ∃ a, fz = .ref a) (had3 : ad0 3000 = b) (hEF : ri_EF (dC, dI) [] ad0 fz (L, xs) (fun q : Nat => s.heap.size ≤ q) s s.heap) {t : Nat} (ht : t < 3) {c0 n0 : Nat} (hc0 : c0 ≤ 300) (hn0 : n0 ≤ 30000) {Q : State → Prop} {H : Heap} {locs : List Loc} {ls : Array Slot} (hS : va_S (fun q : Nat => s.heap.size ≤ q) s.heap H locs) (hl : lv_has ls 23 [(1, .int (nI t)), (0, .ref b)])
    (K : ∀ (H' : Heap) (locs' : List Loc) (ls' : Array Slot), va_S (fun q : Nat => s.heap.size ≤ q) s.heap H' locs' → lv_has ls' 23 [(1, .int (nI (t + 1))), (0, .ref b)] → W p l e room_1 s m #[Value.ref b] below meth c H' locs' (c0 + 60) (n0 + 3000) Q (F0 m 2 ls' [])) : W p l e room_1 s m #[Value.ref b] below meth c H locs c0 n0 Q (F0 m 2 ls []) := by
  obtain ⟨hx, hb, hr, hml, hown, htt, hX, hbl, hlocks, hgv⟩ := id C0
  have hts : ∀ w ∈ lw_all, w.before #[Value.ref b] s = true := fun w hw => htt w (List.mem_filter.mp hw).1
  have hA : ∀ q : Nat, s.heap.size ≤ q → (fun q : Nat => s.heap.size ≤ q) q := fun _ h => h
  have hK : va_K (dC, dI) ri_cls [] s := hEF.1
  have hP : va_P (dC, dI) ri_cls [] H := fun k q h => by simp at h
  have hD : va_D (fun q : Nat => s.heap.size ≤ q) [] := ⟨fun i j p q h => by simp at h, fun k q h => by simp at h⟩
  refine lv_iload_n hx hb dL_law_2 rfl (lv_at hl 0 rfl) ?_
  refine lv_iconst hx hb dL_law_3 (v := 3) rfl ?_
  refine lv_icmp_ge (tgt := 894) hx hb dL_law_4 rfl (fun cc => absurd cc (nI_ge (b := 3) ht (by decide))) (fun _ => ?_)
  refine va_new (ci := 4) (fs := [.null, .null, .null, .null, .null, .null, .null, .null, .null, .null, .int 0]) (C := RX4) (T := TX4) (N := 11) hx hb hts (ri_lays (c := 4) rfl) tyX4 tyX4_ok hown (hts (.classLink RL 13 RX4) (ri_in 45 (by decide +kernel) rfl)) (hts (.instantiable RX4 11) (ri_in 46 (by decide +kernel) rfl)) (hts (.initialized RX4) (ri_in 35 (by decide +kernel) rfl)) hK hP hD hS hA rfl (fun j hj => by rcases (show j = 0 ∨ j = 1 ∨ j = 2 ∨ j = 3 ∨ j = 4 ∨ j = 5 ∨ j = 6 ∨ j = 7 ∨ j = 8 ∨ j = 9 ∨ j = 10 by omega) with rfl | rfl | rfl | rfl | rfl | rfl | rfl | rfl | rfl | rfl | rfl <;> rfl) (by show c0 + 1 ≤ 600000; omega) (by show n0 + 11 ≤ 7302250; omega) dL_law_7 (fun o0 H hP hD hS => ?_)
  have hP : va_P (dC, dI) ri_cls [(o0, .inr (4, [.null, .null, .null, .null, .null, .null, .null, .null, .null, .null, .int 0]))] H := hP
  have hD : va_D (fun q : Nat => s.heap.size ≤ q) [(o0, .inr (4, [.null, .null, .null, .null, .null, .null, .null, .null, .null, .null, .int 0]))] := hD
  refine W.widen (k := c0 + 1) (n := n0 + 11) (by omega) (by omega) ?_
  refine lv_dup hx hb dL_law_10 rfl ?_
  have hFc := va_free (wc := [(o0, .inr (4, [.null, .null, .null, .null, .null, .null, .null, .null, .null, .null, .int 0]))]) hD hS hA [0] rfl
  have hn1 := va_Nw.of (w := .methodLinkNest RX4 9 yX2_init "RoadsNotGoneBy") rfl (htt _ (List.mem_of_getElem? (i := 55) (by decide +kernel)))
  have hn2 := va_Nw.of (w := .methodLinkNest RX4 62 yX1_init "RoadsNotGoneBy") rfl (htt _ (List.mem_of_getElem? (i := 169) (by decide +kernel)))
  have hao : va_AO RX1 s := va_AO.of (htt (.arrayOver (.object RX1)) (List.mem_of_getElem? (i := 167) (by decide +kernel)))
  refine va_callv (va_runI (As := []) (rest := [.ref o0]) ⟨hx, hb, hml, hown, hts⟩ (ccX4_init l dC dI ad0 fz (L, xs) hfz o0 H.size) ⟨callB_of 0 hts (wc_good (ri_in 49 (by decide +kernel) rfl)) rfl rfl rfl (hts (.initialized RX4) (ri_in 35 (by decide +kernel) rfl)) (hts (.methodLink RL 15 yX4_init) (ri_in 47 (by decide +kernel) rfl)) ⟨by decide +kernel, by decide +kernel, by decide +kernel⟩ ⟨Nat.le_of_ble_eq_true rfl, Nat.le_of_ble_eq_true rfl⟩, rfl, (hts (.instanceMethod yX4_init) (ri_in 48 (by decide +kernel) rfl))⟩ ⟨fun a U g mk q => by obtain ⟨q0, q1, qP, qE, qD, qn1, qn2, qo⟩ := q; exact ⟨q0, q1, qP, qE.calling g mk a, qD, va_Nw.same (u := U) (U := U.calling g mk a) rfl rfl qn1, va_Nw.same (u := U) (U := U.calling g mk a) rfl rfl qn2, va_AO.moved (u := U) (U := U.calling g mk a) (Vm.Alike.refl U.vm) qo⟩, fun U hU hW => ⟨rfl, by rw [hU], by rw [hU]; exact hP, hEF.to hS.2.1 hW hU (fun q h => hFc q h), hD.weaken (fun _ _ _ _ => trivial), va_Nw.warmM hW hn1, va_Nw.warmM hW hn2, va_AO.moved hW.alike hao⟩⟩ rfl rfl hl.1 rfl (lv_room (Nat.le_of_ble_eq_true rfl)) dL_law_11 ⟨by show c0 + 1 + 49 ≤ 600000; omega, by show n0 + 11 + 2298 ≤ 7302250; omega⟩) hS (fun q _ h => hFc q h) hFc (fun u t2 H1 locs ht2 hvm h5 hB hz1 hk1 hS => ?_)
  obtain ⟨ad4, cA4, tys4, S, hP1, hK1, hD1, had0, hTy4, hado, hS4⟩ := hB
  rw [ht2] at hP1
  have hK1 := va_K.moved hvm.symm hK1
  obtain ⟨hP, hD⟩ := va_join (wr := []) (w1 := (j_ri_wld ad4 cA4 S)) hP hD [0] [] rfl rfl (by decide) (by decide) hk1 hFc hP1 hD1
  have hK4 : va_K (dC, dI) ri_cls tys4 s := (hK.sub (tys' := []) [] rfl).app hK1
  generalize H1 = H at hP hS ⊢
  have hP : va_P (dC, dI) ri_cls (j_ri_wld ad4 cA4 S) H := hP
  have hD : va_D (fun q : Nat => s.heap.size ≤ q) (j_ri_wld ad4 cA4 S) := hD
  refine W.widen (k := c0 + 50) (n := n0 + 2309) (by omega) (by omega) ?_
  refine lv_astore_n (lv' := [(2, .ref o0), (1, .int (nI t)), (0, .ref b)]) hx hb dL_law_14 rfl hl (by decide) rfl (fun ls hl => ?_)
  have hEF4 : ri_EF (dC, dI) tys4 ad4 fz (L, xs) (fun q : Nat => s.heap.size ≤ q) s s.heap := EF_ad hEF hK4 hado
  have had43 : ad4 3000 = b := (hado 3000 (by decide)).trans had3
  have hI4 : ∀ i j, i < j_ri_K → j < j_ri_K → ad4 i = ad4 j → i = j := fun i j hi hj e => hD.1 i j _ _ (j_ri_wld_get hi) (j_ri_wld_get hj) e
  have hAk4 : ∀ k, k < j_ri_K → (fun q : Nat => s.heap.size ≤ q) (ad4 k) := fun k hk => hD.2 k _ (j_ri_wld_get hk)
  have hAd4 : j_ri_Ad ad4 cA4 fz tys4 := ⟨hI4, hfz, hTy4⟩
  obtain ⟨hR0, hp0⟩ := S4_R hS4
  have hG4 := j_ri_G_ok (l := l) (D := (dC, dI)) (tys := tys4) (ad := ad4) (cA := cA4) (fz := fz) (E := (L, xs)) hAd4 (d := 4) (p := p) (e := e) (R := room_1) (s := s) (m := m) (args := #[Value.ref b]) (below := below) (meth := meth) (c := c) (cells := c0 + 50) (slots := n0 + 2309) (Q := Q) (A := (fun q : Nat => s.heap.size ≤ q)) (t := rm_213) (mi := 213) rfl ⟨hx, hb, hml, hown, hts, hEF4, hAk4⟩ (Nat.le_of_ble_eq_true rfl) (Nat.le_of_ble_eq_true rfl) (by show c0 + 50 ≤ 600000; omega) (by show n0 + 2309 ≤ 7302250; omega)
  have key := j_wtLA (L, xs) (Q := fun x1 x3 x4 x5 x6 x17 s0 S' => ∃ L' y fr years few : Nat, 1 ≤ L' ∧ L' ≤ 5 ∧ y < 20 ∧ fr < 12 ∧ years < 31 ∧ few < 11 ∧ LV S' L' y fr ∧ x1 = nI t ∧ x3 = nI L' ∧ x4 = nI fr ∧ x5 = nI y ∧ x6 = nI years ∧ x17 = nI few ∧ s0 = 2) hG4 (fun x1 x3 x4 x5 x6 x17 s0 S' hq _ => ?_) (nI t) S (lawA_ok (show L < 2 ^ 20 by omega) ht hR0 hp0 (fun S' L' y fr years few h1 h2 h3 h4 h5 h6 h7 => ⟨L', y, fr, years, few, h1, h2, h3, h4, h5, h6, h7, rfl, rfl, rfl, rfl, rfl, rfl, rfl⟩))
  · refine (key rfl).2 H locs ls hP hS ⟨hl.1, hl.2.1, rfl, fun i v hv => ?_⟩
    match i, hv with
    | 0, hv =>
      cases hv
      show ls[0]? = some (.val (.ref (ad4 3000)))
      rw [had43]
      exact lv_at hl 2 rfl
    | 1, hv =>
      cases hv
      exact lv_at hl 1 rfl
    | 2, hv =>
      cases hv
      show ls[2]? = some (.val (.ref (ad4 0)))
      rw [had0]
      exact lv_at hl 0 rfl
    | 3, hv => cases hv
    | 4, hv => cases hv
    | 5, hv => cases hv
    | 6, hv => cases hv
    | 7, hv => cases hv
    | 8, hv => cases hv
    | 9, hv => cases hv
    | 10, hv => cases hv
    | 11, hv => cases hv
    | 12, hv => cases hv
    | 13, hv => cases hv
    | 14, hv => cases hv
    | 15, hv => cases hv
    | 16, hv => cases hv
    | 17, hv => cases hv
    | 18, hv => cases hv
    | 19, hv => cases hv
    | 20, hv => cases hv
    | 21, hv => cases hv
    | 22, hv => cases hv
    | i + 23, hv => cases hv
  · obtain ⟨L', y, fr, years, few, q1, q2, q3, q4, q5, q6, hV, rfl, rfl, rfl, rfl, rfl, rfl, rfl⟩ := hq
    refine ⟨rfl, fun H locs ls hP hS hlr => ?_⟩
    have g := hlr.2.2.2
    have hl : lv_has ls 23 [(17, .int (nI few)), (6, .int (nI years)), (5, .int (nI y)), (4, .int (nI fr)), (3, .int (nI L')), (2, .ref o0), (1, .int (nI t)), (0, .ref b)] := by
      refine ⟨hlr.1, hlr.2.1, fun q hq => ?_⟩
      simp only [List.mem_cons, List.mem_nil_iff, or_false] at hq
      rcases hq with rfl | rfl | rfl | rfl | rfl | rfl | rfl | rfl
      · exact g 17 (.int (nI few)) rfl
      · exact g 6 (.int (nI years)) rfl
      · exact g 5 (.int (nI y)) rfl
      · exact g 4 (.int (nI fr)) rfl
      · exact g 3 (.int (nI L')) rfl
      · have q := g 2 (.ref 0) rfl
        rw [← had0]
        exact q
      · exact g 1 (.int (nI t)) rfl
      · have q := g 0 (.ref 3000) rfl
        rw [← had43]
        exact q
    have hD' : va_D (fun q : Nat => s.heap.size ≤ q) (j_ri_wld ad4 cA4 S') := j_ri_wld_D hI4 hAk4
    refine va_newa (atype := .int) (ty := .int) (N' := 2) (a0 := (2, .inl (fun _ => 0))) (n := 2) hx hb (hts (.arrayClass .int) (ri_in 77 (by decide +kernel) rfl)) rfl hK4 hP hD' hS hA (fun _ => rfl) (by decide) (by decide) (Nat.le_of_ble_eq_true rfl) (by show c0 + 50 + 1 ≤ 600000; omega) (by show n0 + 2309 + 2 ≤ 7302250; omega) dL_law_414 (fun q8 c8 H hK5 hP hD hS => ?_)
    refine W.widen (k := c0 + 51) (n := n0 + 2311) (by omega) (by omega) ?_
    refine lv_astore (lv' := [(18, .ref q8), (17, .int (nI few)), (6, .int (nI years)), (5, .int (nI y)), (4, .int (nI fr)), (3, .int (nI L')), (2, .ref o0), (1, .int (nI t)), (0, .ref b)]) hx hb dL_law_416 hl (by decide) rfl (fun ls hl => ?_)
    rw [← wld51 ad4 ad0 cA4 S' q8 c8] at hP hD
    have hTy5 := ty51 cA4 tys4 hTy4 c8
    have e0 : (ad51 ad4 q8 ad0) 0 = o0 := had0
    have e50 : (ad51 ad4 q8 ad0) 50 = q8 := rfl
    have eo : ∀ k, 1000 ≤ k → (ad51 ad4 q8 ad0) k = ad0 k := fun k hk => by
      show (if k < 50 then ad4 k else if k = 50 then q8 else ad0 k) = ad0 k
      rw [if_neg (by omega), if_neg (by omega)]
    generalize ad51 ad4 q8 ad0 = ad5 at hP hD e0 e50 eo
    generalize cA51 cA4 c8 = cA5 at hP hD hTy5
    generalize (tys4 ++ [(c8, .int)] : List (ClassId × FieldType)) = tys5 at hK5 hTy5
    have hEF5 : ri_EF (dC, dI) tys5 ad5 fz (L, xs) (fun q : Nat => s.heap.size ≤ q) s s.heap := EF_ad hEF hK5 eo
    have had53 : ad5 3000 = b := (eo 3000 (by decide)).trans had3
    have hI5 : ∀ i j, i < ri_K → j < ri_K → ad5 i = ad5 j → i = j := fun i j hi hj e => hD.1 i j _ _ (ri_wld_get hi) (ri_wld_get hj) e
    have hAk5 : ∀ k, k < ri_K → (fun q : Nat => s.heap.size ≤ q) (ad5 k) := fun k hk => hD.2 k _ (ri_wld_get hk)
    have hAd5 : ri_Ad ad5 cA5 fz tys5 := ⟨hI5, hfz, hTy5⟩
    have hG5 := ri_G_ok (l := l) (D := (dC, dI)) (tys := tys5) (ad := ad5) (cA := cA5) (fz := fz) (E := (L, xs)) hAd5 (d := 6) (p := p) (e := e) (R := room_1) (s := s) (m := m) (args := #[Value.ref b]) (below := below) (meth := meth) (c := c) (cells := c0 + 51) (slots := n0 + 2311) (Q := Q) (A := (fun q : Nat => s.heap.size ≤ q)) (t := rm_213) (mi := 213) rfl ⟨hx, hb, hml, hown, hts, hEF5, hAk5⟩ (Nat.le_of_ble_eq_true rfl) (Nat.le_of_ble_eq_true rfl) (by show c0 + 51 ≤ 600000; omega) (by show n0 + 2311 ≤ 7302250; omega)
    have key := wtLC (L, xs) (Q := fun x1 _ => x1 = nI t) hG5 (fun x1 S'' hq _ => ?_) (nI t) (nI L') (nI fr) (nI y) (nI years) (nI few) (S51 S') (lawC_ok (show L < 2 ^ 20 by omega) ht ⟨q1, q2⟩ q3 q4 q5 q6 (LV_51 hV) rfl rfl (fun _ => rfl))
    · refine (key rfl).2 H locs ls hP hS ⟨hl.1, hl.2.1, rfl, fun i v hv => ?_⟩
      match i, hv with
      | 0, hv =>
        cases hv
        show ls[0]? = some (.val (.ref (ad5 3000)))
        rw [had53]
        exact lv_at hl 8 rfl
      | 1, hv =>
        cases hv
        exact lv_at hl 7 rfl
      | 2, hv =>
        cases hv
        show ls[2]? = some (.val (.ref (ad5 0)))
        rw [e0]
        exact lv_at hl 6 rfl
      | 3, hv =>
        cases hv
        exact lv_at hl 5 rfl
      | 4, hv =>
        cases hv
        exact lv_at hl 4 rfl
      | 5, hv =>
        cases hv
        exact lv_at hl 3 rfl
      | 6, hv =>
        cases hv
        exact lv_at hl 2 rfl
      | 7, hv => cases hv
      | 8, hv => cases hv
      | 9, hv => cases hv
      | 10, hv => cases hv
      | 11, hv => cases hv
      | 12, hv => cases hv
      | 13, hv => cases hv
      | 14, hv => cases hv
      | 15, hv => cases hv
      | 16, hv => cases hv
      | 17, hv =>
        cases hv
        exact lv_at hl 1 rfl
      | 18, hv =>
        cases hv
        show ls[18]? = some (.val (.ref (ad5 50)))
        rw [e50]
        exact lv_at hl 0 rfl
      | 19, hv => cases hv
      | 20, hv => cases hv
      | 21, hv => cases hv
      | 22, hv => cases hv
      | i + 23, hv => cases hv
    · have hq : x1 = nI t := hq
      subst hq
      refine ⟨rfl, fun H locs ls hP hS hlr => ?_⟩
      have g := hlr.2.2.2
      have hl : lv_has ls 23 [(1, .int (nI t)), (0, .ref b)] := by
        refine ⟨hlr.1, hlr.2.1, fun q hq => ?_⟩
        simp only [List.mem_cons, List.mem_nil_iff, or_false] at hq
        rcases hq with rfl | rfl
        · exact g 1 (.int (nI t)) rfl
        · have q := g 0 (.ref 3000) rfl
          rw [← had53]
          exact q
      refine lv_iinc (k := 0) (v := nI (t + 1)) (lv' := [(1, .int (nI (t + 1))), (0, .ref b)]) hx hb dL_law_888 hl rfl (nI_1 t) (by decide) rfl (fun ls hl => ?_)
      refine lv_goto (tgt := 2) hx hb dL_law_891 rfl ?_
      refine W.widen (k := c0 + 60) (n := n0 + 3000) (by omega) (by omega) ?_
      exact K H locs ls hS hl
set_option maxHeartbeats 4000000 in
set_option maxRecDepth 100000 in
theorem whole_start {p : Program} {e : Env} {s : State} {m : MethodId} {below : List Frame} {meth : Method} {c : Code} (l : Launch) (hflags : l.flags = flags0) {b L : Nat} {xs : Nat → Int32} (hL : L ≤ 260) (C0 : lw_At p s m meth c b L xs) : W p l e room_1 s m #[Value.ref b] below meth c s.heap [] 0 0 (lw_Z below #[Value.ref b] s) (entryFrame m ([Value.ref b] : List Value).toArray 23) := by
  obtain ⟨hx, hb, hr, hml, hown, htt, hX, hbl, hlocks, hgv⟩ := id C0
  have hts : ∀ w ∈ lw_all, w.before #[Value.ref b] s = true := fun w hw => htt w (List.mem_filter.mp hw).1
  obtain ⟨dC, dI, hKc⟩ : ∃ (dC : Nat → ClassId) (dI : Nat → Nat → Nat), ∀ (k : Nat) (q : vw_C), ri_cls[k]? = some q → u_Kn s q.1 q.2.1 q.2.2 (dC k) (dI k) := by
    obtain ⟨c0, i0, k0⟩ := u_known (C := RX0) (T := TX0) (N := 9) (n := 9) hts (ri_lays (c := 0) rfl) (hts (.instantiable RX0 9) (ri_in 79 (by decide +kernel) rfl))
    obtain ⟨c1, i1, k1⟩ := u_known (C := RX1) (T := TX1) (N := 3) (n := 3) hts (ri_lays (c := 1) rfl) (hts (.instantiable RX1 3) (ri_in 168 (by decide +kernel) rfl))
    obtain ⟨c2, i2, k2⟩ := u_known (C := RX2) (T := TX2) (N := 5) (n := 5) hts (ri_lays (c := 2) rfl) (hts (.instantiable RX2 5) (ri_in 54 (by decide +kernel) rfl))
    obtain ⟨c3, i3, k3⟩ := u_known (C := RX3) (T := TX3) (N := 12) (n := 12) hts (ri_lays (c := 3) rfl) (hts (.instantiable RX3 12) (ri_in 114 (by decide +kernel) rfl))
    obtain ⟨c4, i4, k4⟩ := u_known (C := RX4) (T := TX4) (N := 11) (n := 11) hts (ri_lays (c := 4) rfl) (hts (.instantiable RX4 11) (ri_in 46 (by decide +kernel) rfl))
    refine ⟨fun k => if k = 0 then c0 else if k = 1 then c1 else if k = 2 then c2 else if k = 3 then c3 else c4, fun k => if k = 0 then i0 else if k = 1 then i1 else if k = 2 then i2 else if k = 3 then i3 else i4, ?_⟩
    intro k q hq
    match k, hq with
    | 0, hq => cases hq; exact k0
    | 1, hq => cases hq; exact k1
    | 2, hq => cases hq; exact k2
    | 3, hq => cases hq; exact k3
    | 4, hq => cases hq; exact k4
    | k + 5, hq => simp [ri_cls] at hq
  have hS : va_S (fun q : Nat => s.heap.size ≤ q) s.heap s.heap [] := va_S.rf
  have hK : va_K (dC, dI) ri_cls [] s := ⟨hKc, fun k q h => by simp at h⟩
  obtain ⟨ad0, fz, hfz, had3, hEF⟩ := law_EF htt hgv hX hbl hK
  have hl := lv_entry ([.ref b]) (n := 23) (Nat.le_of_ble_eq_true rfl)
  rw [lg_entry_eq]
  generalize (lg_sl ([.ref b]) ++ List.replicate (23 - (lg_sl ([.ref b])).length) Slot.unset).toArray = ls at hl ⊢
  have hl : lv_has ls 23 [(0, .ref b)] := hl
  refine lv_iconst hx hb dL_law_0 (v := nI 0) rfl ?_
  refine lv_istore_n (lv' := [(1, .int (nI 0)), (0, .ref b)]) hx hb dL_law_1 rfl hl (by decide) rfl (fun ls hl => ?_)
  refine turn_ok l hL C0 hfz had3 hEF (t := 0) (by decide) (c0 := 0) (n0 := 0) (by decide) (by decide) hS hl (fun H locs ls hS hl => ?_)
  refine turn_ok l hL C0 hfz had3 hEF (t := 1) (by decide) (c0 := 0 + 60) (n0 := 0 + 3000) (by decide) (by decide) hS hl (fun H locs ls hS hl => ?_)
  refine turn_ok l hL C0 hfz had3 hEF (t := 2) (by decide) (c0 := 0 + 60 + 60) (n0 := 0 + 3000 + 3000) (by decide) (by decide) hS hl (fun H locs ls hS hl => ?_)
  refine lv_iload_n hx hb dL_law_2 rfl (lv_at hl 0 rfl) ?_
  refine lv_iconst hx hb dL_law_3 (v := 3) rfl ?_
  refine lv_icmp_ge (tgt := 894) hx hb dL_law_4 rfl (fun _ => ?_) (fun cc => absurd (show (3 : Int32) ≤ nI (2 + 1) by decide) cc)
  refine lv_iconst hx hb dL_law_894 (v := 1) rfl ?_
  refine va_forget (fun q hq => hS.2.2 q hq) ?_
  refine W.widen (k := 600000) (n := 7302250) (Nat.le_of_ble_eq_true rfl) (Nat.le_of_ble_eq_true rfl) ?_
  exact lw_ret hx hb hr hlocks dL_law_895
