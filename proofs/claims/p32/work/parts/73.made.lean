/-! the making of the parts -/
theorem dX2_init_0 : decode cX2_init 0 = .ok (.aload_n 0, 1) := by decide +kernel
theorem dX2_init_1 : decode cX2_init 1 = .ok (.invokespecial 3, 3) := by decide +kernel
theorem dX2_init_4 : decode cX2_init 4 = .ok (.aload_n 0, 1) := by decide +kernel
theorem dX2_init_5 : decode cX2_init 5 = .ok (.sipush 960, 3) := by decide +kernel
theorem dX2_init_8 : decode cX2_init 8 = .ok (.newarray .int, 2) := by decide +kernel
theorem dX2_init_10 : decode cX2_init 10 = .ok (.putfield 9, 3) := by decide +kernel
theorem dX2_init_13 : decode cX2_init 13 = .ok (.aload_n 0, 1) := by decide +kernel
theorem dX2_init_14 : decode cX2_init 14 = .ok (.bipush 24, 2) := by decide +kernel
theorem dX2_init_16 : decode cX2_init 16 = .ok (.newarray .int, 2) := by decide +kernel
theorem dX2_init_18 : decode cX2_init 18 = .ok (.putfield 15, 3) := by decide +kernel
theorem dX2_init_21 : decode cX2_init 21 = .ok (.aload_n 0, 1) := by decide +kernel
theorem dX2_init_22 : decode cX2_init 22 = .ok (.sipush 160, 3) := by decide +kernel
theorem dX2_init_25 : decode cX2_init 25 = .ok (.newarray .int, 2) := by decide +kernel
theorem dX2_init_27 : decode cX2_init 27 = .ok (.putfield 18, 3) := by decide +kernel
theorem dX2_init_30 : decode cX2_init 30 = .ok (.aload_n 0, 1) := by decide +kernel
theorem dX2_init_31 : decode cX2_init 31 = .ok (.iconst 0, 1) := by decide +kernel
theorem dX2_init_32 : decode cX2_init 32 = .ok (.putfield 21, 3) := by decide +kernel
theorem dX2_init_35 : decode cX2_init 35 = .ok (.aload_n 0, 1) := by decide +kernel
theorem dX2_init_36 : decode cX2_init 36 = .ok (.iconst 0, 1) := by decide +kernel
theorem dX2_init_37 : decode cX2_init 37 = .ok (.putfield 25, 3) := by decide +kernel
theorem dX2_init_40 : decode cX2_init 40 = .ok (.return_, 1) := by decide +kernel
def wcX2_init : List Cond := .code yX2_init cX2_init 1 none :: lw_all
set_option maxHeartbeats 4000000 in
set_option maxRecDepth 100000 in
theorem ccX2_init (l : Launch) (dC : Nat → ClassId) (dI : Nat → Nat → Nat) (h0 : Nat) (sz : Nat) : Met l yX2_init wcX2_init ({ frames := 1, cells := 3, slots := 1144, locals := 12 }) (va_Pc [.ref h0] (fun U => U.heap.size = sz ∧ va_P (dC, dI) ri_cls [(h0, .inr (2, [.null, .null, .null, .int 0, .int 0]))] U.heap ∧ va_K (dC, dI) ri_cls [] U ∧ va_D (fun _ => True) [(h0, .inr (2, [.null, .null, .null, .int 0, .int 0]))])) (va_Qv (fun _ : Unit => True) (fun _ t => ∃ (q8 q16 q25 : Nat) (c8 c16 c25 : ClassId), va_P (dC, dI) ri_cls [(h0, .inr (2, [.ref q8, .ref q16, .ref q25, .int (0), .int (0)])), (q8, .inl (c8, 960, .inl (fun _ => 0))), (q16, .inl (c16, 24, .inl (fun _ => 0))), (q25, .inl (c25, 160, .inl (fun _ => 0)))] t.heap ∧ va_K (dC, dI) ri_cls [(c8, .int), (c16, .int), (c25, .int)] t ∧ va_D (va_A [(h0, .inr (2, [.null, .null, .null, .int 0, .int 0]))] sz) [(h0, .inr (2, [.ref q8, .ref q16, .ref q25, .int (0), .int (0)])), (q8, .inl (c8, 960, .inl (fun _ => 0))), (q16, .inl (c16, 24, .inl (fun _ => 0))), (q25, .inl (c25, 160, .inl (fun _ => 0)))]) (va_A [(h0, .inr (2, [.null, .null, .null, .int 0, .int 0]))] sz)) 3 1144 (va_A [(h0, .inr (2, [.null, .null, .null, .int 0, .int 0]))] sz) := by
  refine Met.ofW (cc := cX2_init) (maxL := 1) (ret := none) (by decide) rfl ?_
  intro p e s m args below meth c s₁ B hml hv
  obtain ⟨rfl, hsz, hP, hK, hD0⟩ := hv
  have hx := B.exec
  have hb := B.bytes
  have hr := B.returns
  have hts : ∀ w ∈ lw_all, w.before _ s = true := fun w hw => atoms_spec (ws := wcX2_init) B.pre w (List.mem_cons_of_mem _ hw)
  have hown : s.vm.findClass RX2 = some m.cls := findClass_of_methodNamed B.named
  have hlocks := B.notSynchronized
  have hin : meth.name = "<init>" := (name_of_methodNamed B.named B.method).1
  subst hsz
  have hD := hD0.self (sz := s.heap.size)
  generalize hAe : va_A [(h0, .inr (2, [.null, .null, .null, .int 0, .int 0]))] s.heap.size = A at hD ⊢
  have hA : ∀ q : Nat, s.heap.size ≤ q → A q := fun q h => by rw [← hAe]; exact Or.inr h
  have hS : va_S A s.heap s.heap [] := va_S.rf
  have hP : va_P (dC, dI) ri_cls [(h0, .inr (2, [.null, .null, .null, .int 0, .int 0]))] s.heap := hP
  have hl := lv_entry ([.ref h0]) (n := 1) (Nat.le_of_ble_eq_true rfl)
  rw [lg_entry_eq]
  generalize (lg_sl ([.ref h0]) ++ List.replicate (1 - (lg_sl ([.ref h0])).length) Slot.unset).toArray = ls at hl ⊢
  have hl : lv_has ls 1 [(0, .ref h0)] := hl
  refine lv_aload_n hx hb dX2_init_0 rfl (lv_at hl 0 rfl) ?_
  refine W.objInit hx hb hown (hts (.methodLink RX2 3 objectInit) (ri_in 58 (by decide +kernel) rfl)) (hts (.instanceMethod objectInit) (ri_in 51 (by decide +kernel) rfl)) (hts (.code objectInit ⟨#[0xb1]⟩ 1 none) (ri_in 52 (by decide +kernel) rfl)) rfl (by rw [hml]; exact hl.1) rfl dX2_init_1 (Nat.le_of_ble_eq_true rfl) (Nat.le_of_ble_eq_true rfl) ?_
  refine W.eq (g2 := F0 m 4 ls []) rfl ?_
  refine lv_aload_n hx hb dX2_init_4 rfl (lv_at hl 0 rfl) ?_
  refine lv_sipush (v := 960) hx hb dX2_init_5 (by decide) ?_
  refine va_newa (atype := .int) (ty := .int) (N' := 960) (a0 := (960, .inl (fun _ => 0))) hx hb (hts (.arrayClass .int) (ri_in 77 (by decide +kernel) rfl)) rfl hK hP hD hS hA (fun _ => rfl) (by decide) (by decide) (Nat.le_of_ble_eq_true rfl) (Nat.le_of_ble_eq_true rfl) (Nat.le_of_ble_eq_true rfl) dX2_init_8 (fun q8 c8 H hK hP hD hS => ?_)
  have hK : va_K (dC, dI) ri_cls [(c8, .int)] s := hK
  have hP : va_P (dC, dI) ri_cls [(h0, .inr (2, [.null, .null, .null, .int 0, .int 0])), (q8, .inl (c8, 960, .inl (fun _ => 0)))] H := hP
  have hD : va_D A [(h0, .inr (2, [.null, .null, .null, .int 0, .int 0])), (q8, .inl (c8, 960, .inl (fun _ => 0)))] := hD
  refine W.widen (k := 1) (n := 960) (by omega) (by omega) ?_
  refine va_putF (D := (dC, dI)) (ci := 2) (v := .ref q8) (ty := .array .int) (C := RX2) (T := TX2) (N := 5) hx hb hts (ri_lays (c := 2) rfl) tyX2 tyX2_ok nmX2 hown hK hP hD hS 0 rfl rfl 0 (by decide) (hts (.fieldLink RX2 9 "RoadsNotGoneBy$Texts" "steps" "[I") (ri_in 59 (by decide +kernel) rfl)) (fun _ h9 => h9) rfl hin rfl (by decide +kernel) rfl rfl (Nat.le_of_ble_eq_true rfl) dX2_init_10 (fun H locs hP hD hS => ?_)
  have hP : va_P (dC, dI) ri_cls [(h0, .inr (2, [.ref q8, .null, .null, .int 0, .int 0])), (q8, .inl (c8, 960, .inl (fun _ => 0)))] H := hP
  have hD : va_D A [(h0, .inr (2, [.ref q8, .null, .null, .int 0, .int 0])), (q8, .inl (c8, 960, .inl (fun _ => 0)))] := hD
  refine lv_aload_n hx hb dX2_init_13 rfl (lv_at hl 0 rfl) ?_
  refine lv_bipush (v := 24) hx hb dX2_init_14 (by decide) ?_
  refine va_newa (atype := .int) (ty := .int) (N' := 24) (a0 := (24, .inl (fun _ => 0))) hx hb (hts (.arrayClass .int) (ri_in 77 (by decide +kernel) rfl)) rfl hK hP hD hS hA (fun _ => rfl) (by decide) (by decide) (Nat.le_of_ble_eq_true rfl) (Nat.le_of_ble_eq_true rfl) (Nat.le_of_ble_eq_true rfl) dX2_init_16 (fun q16 c16 H hK hP hD hS => ?_)
  have hK : va_K (dC, dI) ri_cls [(c8, .int), (c16, .int)] s := hK
  have hP : va_P (dC, dI) ri_cls [(h0, .inr (2, [.ref q8, .null, .null, .int 0, .int 0])), (q8, .inl (c8, 960, .inl (fun _ => 0))), (q16, .inl (c16, 24, .inl (fun _ => 0)))] H := hP
  have hD : va_D A [(h0, .inr (2, [.ref q8, .null, .null, .int 0, .int 0])), (q8, .inl (c8, 960, .inl (fun _ => 0))), (q16, .inl (c16, 24, .inl (fun _ => 0)))] := hD
  refine W.widen (k := 2) (n := 984) (by omega) (by omega) ?_
  refine va_putF (D := (dC, dI)) (ci := 2) (v := .ref q16) (ty := .array .int) (C := RX2) (T := TX2) (N := 5) hx hb hts (ri_lays (c := 2) rfl) tyX2 tyX2_ok nmX2 hown hK hP hD hS 0 rfl rfl 1 (by decide) (hts (.fieldLink RX2 15 "RoadsNotGoneBy$Texts" "bounds" "[I") (ri_in 60 (by decide +kernel) rfl)) (fun _ h9 => h9) rfl hin rfl (by decide +kernel) rfl rfl (Nat.le_of_ble_eq_true rfl) dX2_init_18 (fun H locs hP hD hS => ?_)
  have hP : va_P (dC, dI) ri_cls [(h0, .inr (2, [.ref q8, .ref q16, .null, .int 0, .int 0])), (q8, .inl (c8, 960, .inl (fun _ => 0))), (q16, .inl (c16, 24, .inl (fun _ => 0)))] H := hP
  have hD : va_D A [(h0, .inr (2, [.ref q8, .ref q16, .null, .int 0, .int 0])), (q8, .inl (c8, 960, .inl (fun _ => 0))), (q16, .inl (c16, 24, .inl (fun _ => 0)))] := hD
  refine lv_aload_n hx hb dX2_init_21 rfl (lv_at hl 0 rfl) ?_
  refine lv_sipush (v := 160) hx hb dX2_init_22 (by decide) ?_
  refine va_newa (atype := .int) (ty := .int) (N' := 160) (a0 := (160, .inl (fun _ => 0))) hx hb (hts (.arrayClass .int) (ri_in 77 (by decide +kernel) rfl)) rfl hK hP hD hS hA (fun _ => rfl) (by decide) (by decide) (Nat.le_of_ble_eq_true rfl) (Nat.le_of_ble_eq_true rfl) (Nat.le_of_ble_eq_true rfl) dX2_init_25 (fun q25 c25 H hK hP hD hS => ?_)
  have hK : va_K (dC, dI) ri_cls [(c8, .int), (c16, .int), (c25, .int)] s := hK
  have hP : va_P (dC, dI) ri_cls [(h0, .inr (2, [.ref q8, .ref q16, .null, .int 0, .int 0])), (q8, .inl (c8, 960, .inl (fun _ => 0))), (q16, .inl (c16, 24, .inl (fun _ => 0))), (q25, .inl (c25, 160, .inl (fun _ => 0)))] H := hP
  have hD : va_D A [(h0, .inr (2, [.ref q8, .ref q16, .null, .int 0, .int 0])), (q8, .inl (c8, 960, .inl (fun _ => 0))), (q16, .inl (c16, 24, .inl (fun _ => 0))), (q25, .inl (c25, 160, .inl (fun _ => 0)))] := hD
  refine W.widen (k := 3) (n := 1144) (by omega) (by omega) ?_
  refine va_putF (D := (dC, dI)) (ci := 2) (v := .ref q25) (ty := .array .int) (C := RX2) (T := TX2) (N := 5) hx hb hts (ri_lays (c := 2) rfl) tyX2 tyX2_ok nmX2 hown hK hP hD hS 0 rfl rfl 2 (by decide) (hts (.fieldLink RX2 18 "RoadsNotGoneBy$Texts" "stack" "[I") (ri_in 61 (by decide +kernel) rfl)) (fun _ h9 => h9) rfl hin rfl (by decide +kernel) rfl rfl (Nat.le_of_ble_eq_true rfl) dX2_init_27 (fun H locs hP hD hS => ?_)
  have hP : va_P (dC, dI) ri_cls [(h0, .inr (2, [.ref q8, .ref q16, .ref q25, .int 0, .int 0])), (q8, .inl (c8, 960, .inl (fun _ => 0))), (q16, .inl (c16, 24, .inl (fun _ => 0))), (q25, .inl (c25, 160, .inl (fun _ => 0)))] H := hP
  have hD : va_D A [(h0, .inr (2, [.ref q8, .ref q16, .ref q25, .int 0, .int 0])), (q8, .inl (c8, 960, .inl (fun _ => 0))), (q16, .inl (c16, 24, .inl (fun _ => 0))), (q25, .inl (c25, 160, .inl (fun _ => 0)))] := hD
  refine lv_aload_n hx hb dX2_init_30 rfl (lv_at hl 0 rfl) ?_
  refine lv_iconst (v := 0) hx hb dX2_init_31 (by decide) ?_
  refine va_put (D := (dC, dI)) (ci := 2) (v := .int (0)) (ty := .int) (C := RX2) (T := TX2) (N := 5) hx hb hts (ri_lays (c := 2) rfl) tyX2 tyX2_ok nmX2 hown hK hP hD hS 0 rfl rfl 3 (by decide) (hts (.fieldLink RX2 21 "RoadsNotGoneBy$Texts" "many" "I") (ri_in 62 (by decide +kernel) rfl)) (fun _ h9 => h9) rfl (by decide +kernel) rfl rfl (Nat.le_of_ble_eq_true rfl) dX2_init_32 (fun H locs hP hD hS => ?_)
  have hP : va_P (dC, dI) ri_cls [(h0, .inr (2, [.ref q8, .ref q16, .ref q25, .int (0), .int 0])), (q8, .inl (c8, 960, .inl (fun _ => 0))), (q16, .inl (c16, 24, .inl (fun _ => 0))), (q25, .inl (c25, 160, .inl (fun _ => 0)))] H := hP
  have hD : va_D A [(h0, .inr (2, [.ref q8, .ref q16, .ref q25, .int (0), .int 0])), (q8, .inl (c8, 960, .inl (fun _ => 0))), (q16, .inl (c16, 24, .inl (fun _ => 0))), (q25, .inl (c25, 160, .inl (fun _ => 0)))] := hD
  refine lv_aload_n hx hb dX2_init_35 rfl (lv_at hl 0 rfl) ?_
  refine lv_iconst (v := 0) hx hb dX2_init_36 (by decide) ?_
  refine va_put (D := (dC, dI)) (ci := 2) (v := .int (0)) (ty := .int) (C := RX2) (T := TX2) (N := 5) hx hb hts (ri_lays (c := 2) rfl) tyX2 tyX2_ok nmX2 hown hK hP hD hS 0 rfl rfl 4 (by decide) (hts (.fieldLink RX2 25 "RoadsNotGoneBy$Texts" "written" "I") (ri_in 65 (by decide +kernel) rfl)) (fun _ h9 => h9) rfl (by decide +kernel) rfl rfl (Nat.le_of_ble_eq_true rfl) dX2_init_37 (fun H locs hP hD hS => ?_)
  have hP : va_P (dC, dI) ri_cls [(h0, .inr (2, [.ref q8, .ref q16, .ref q25, .int (0), .int (0)])), (q8, .inl (c8, 960, .inl (fun _ => 0))), (q16, .inl (c16, 24, .inl (fun _ => 0))), (q25, .inl (c25, 160, .inl (fun _ => 0)))] H := hP
  have hD : va_D A [(h0, .inr (2, [.ref q8, .ref q16, .ref q25, .int (0), .int (0)])), (q8, .inl (c8, 960, .inl (fun _ => 0))), (q16, .inl (c16, 24, .inl (fun _ => 0))), (q25, .inl (c25, 160, .inl (fun _ => 0)))] := hD
  exact W.vret hx hb hr (fun t ht hW => ⟨⟨(), rfl, trivial, q8, q16, q25, c8, c16, c25, by rw [ht]; exact hP, va_K.moved hW.alike hK, hD⟩, hS.F ht⟩) hS.2.2 dX2_init_40
theorem dX1_init_0 : decode cX1_init 0 = .ok (.aload_n 0, 1) := by decide +kernel
theorem dX1_init_1 : decode cX1_init 1 = .ok (.invokespecial 3, 3) := by decide +kernel
theorem dX1_init_4 : decode cX1_init 4 = .ok (.aload_n 0, 1) := by decide +kernel
theorem dX1_init_5 : decode cX1_init 5 = .ok (.bipush 40, 2) := by decide +kernel
theorem dX1_init_7 : decode cX1_init 7 = .ok (.newarray .int, 2) := by decide +kernel
theorem dX1_init_9 : decode cX1_init 9 = .ok (.putfield 9, 3) := by decide +kernel
theorem dX1_init_12 : decode cX1_init 12 = .ok (.aload_n 0, 1) := by decide +kernel
theorem dX1_init_13 : decode cX1_init 13 = .ok (.iconst (-1), 1) := by decide +kernel
theorem dX1_init_14 : decode cX1_init 14 = .ok (.putfield 15, 3) := by decide +kernel
theorem dX1_init_17 : decode cX1_init 17 = .ok (.aload_n 0, 1) := by decide +kernel
theorem dX1_init_18 : decode cX1_init 18 = .ok (.iconst 0, 1) := by decide +kernel
theorem dX1_init_19 : decode cX1_init 19 = .ok (.putfield 19, 3) := by decide +kernel
theorem dX1_init_22 : decode cX1_init 22 = .ok (.return_, 1) := by decide +kernel
def wcX1_init : List Cond := .code yX1_init cX1_init 1 none :: lw_all
set_option maxHeartbeats 4000000 in
set_option maxRecDepth 100000 in
theorem ccX1_init (l : Launch) (dC : Nat → ClassId) (dI : Nat → Nat → Nat) (h0 : Nat) (sz : Nat) : Met l yX1_init wcX1_init ({ frames := 1, cells := 1, slots := 40, locals := 12 }) (va_Pc [.ref h0] (fun U => U.heap.size = sz ∧ va_P (dC, dI) ri_cls [(h0, .inr (1, [.null, .int 0, .int 0]))] U.heap ∧ va_K (dC, dI) ri_cls [] U ∧ va_D (fun _ => True) [(h0, .inr (1, [.null, .int 0, .int 0]))])) (va_Qv (fun _ : Unit => True) (fun _ t => ∃ (q7 : Nat) (c7 : ClassId), va_P (dC, dI) ri_cls [(h0, .inr (1, [.ref q7, .int (-1), .int (0)])), (q7, .inl (c7, 40, .inl (fun _ => 0)))] t.heap ∧ va_K (dC, dI) ri_cls [(c7, .int)] t ∧ va_D (va_A [(h0, .inr (1, [.null, .int 0, .int 0]))] sz) [(h0, .inr (1, [.ref q7, .int (-1), .int (0)])), (q7, .inl (c7, 40, .inl (fun _ => 0)))]) (va_A [(h0, .inr (1, [.null, .int 0, .int 0]))] sz)) 1 40 (va_A [(h0, .inr (1, [.null, .int 0, .int 0]))] sz) := by
  refine Met.ofW (cc := cX1_init) (maxL := 1) (ret := none) (by decide) rfl ?_
  intro p e s m args below meth c s₁ B hml hv
  obtain ⟨rfl, hsz, hP, hK, hD0⟩ := hv
  have hx := B.exec
  have hb := B.bytes
  have hr := B.returns
  have hts : ∀ w ∈ lw_all, w.before _ s = true := fun w hw => atoms_spec (ws := wcX1_init) B.pre w (List.mem_cons_of_mem _ hw)
  have hown : s.vm.findClass RX1 = some m.cls := findClass_of_methodNamed B.named
  have hlocks := B.notSynchronized
  have hin : meth.name = "<init>" := (name_of_methodNamed B.named B.method).1
  subst hsz
  have hD := hD0.self (sz := s.heap.size)
  generalize hAe : va_A [(h0, .inr (1, [.null, .int 0, .int 0]))] s.heap.size = A at hD ⊢
  have hA : ∀ q : Nat, s.heap.size ≤ q → A q := fun q h => by rw [← hAe]; exact Or.inr h
  have hS : va_S A s.heap s.heap [] := va_S.rf
  have hP : va_P (dC, dI) ri_cls [(h0, .inr (1, [.null, .int 0, .int 0]))] s.heap := hP
  have hl := lv_entry ([.ref h0]) (n := 1) (Nat.le_of_ble_eq_true rfl)
  rw [lg_entry_eq]
  generalize (lg_sl ([.ref h0]) ++ List.replicate (1 - (lg_sl ([.ref h0])).length) Slot.unset).toArray = ls at hl ⊢
  have hl : lv_has ls 1 [(0, .ref h0)] := hl
  refine lv_aload_n hx hb dX1_init_0 rfl (lv_at hl 0 rfl) ?_
  refine W.objInit hx hb hown (hts (.methodLink RX1 3 objectInit) (ri_in 172 (by decide +kernel) rfl)) (hts (.instanceMethod objectInit) (ri_in 51 (by decide +kernel) rfl)) (hts (.code objectInit ⟨#[0xb1]⟩ 1 none) (ri_in 52 (by decide +kernel) rfl)) rfl (by rw [hml]; exact hl.1) rfl dX1_init_1 (Nat.le_of_ble_eq_true rfl) (Nat.le_of_ble_eq_true rfl) ?_
  refine W.eq (g2 := F0 m 4 ls []) rfl ?_
  refine lv_aload_n hx hb dX1_init_4 rfl (lv_at hl 0 rfl) ?_
  refine lv_bipush (v := 40) hx hb dX1_init_5 (by decide) ?_
  refine va_newa (atype := .int) (ty := .int) (N' := 40) (a0 := (40, .inl (fun _ => 0))) hx hb (hts (.arrayClass .int) (ri_in 77 (by decide +kernel) rfl)) rfl hK hP hD hS hA (fun _ => rfl) (by decide) (by decide) (Nat.le_of_ble_eq_true rfl) (Nat.le_of_ble_eq_true rfl) (Nat.le_of_ble_eq_true rfl) dX1_init_7 (fun q7 c7 H hK hP hD hS => ?_)
  have hK : va_K (dC, dI) ri_cls [(c7, .int)] s := hK
  have hP : va_P (dC, dI) ri_cls [(h0, .inr (1, [.null, .int 0, .int 0])), (q7, .inl (c7, 40, .inl (fun _ => 0)))] H := hP
  have hD : va_D A [(h0, .inr (1, [.null, .int 0, .int 0])), (q7, .inl (c7, 40, .inl (fun _ => 0)))] := hD
  refine W.widen (k := 1) (n := 40) (by omega) (by omega) ?_
  refine va_putF (D := (dC, dI)) (ci := 1) (v := .ref q7) (ty := .array .int) (C := RX1) (T := TX1) (N := 3) hx hb hts (ri_lays (c := 1) rfl) tyX1 tyX1_ok nmX1 hown hK hP hD hS 0 rfl rfl 0 (by decide) (hts (.fieldLink RX1 9 "RoadsNotGoneBy$Sheet" "items" "[I") (ri_in 173 (by decide +kernel) rfl)) (fun _ h9 => h9) rfl hin rfl (by decide +kernel) rfl rfl (Nat.le_of_ble_eq_true rfl) dX1_init_9 (fun H locs hP hD hS => ?_)
  have hP : va_P (dC, dI) ri_cls [(h0, .inr (1, [.ref q7, .int 0, .int 0])), (q7, .inl (c7, 40, .inl (fun _ => 0)))] H := hP
  have hD : va_D A [(h0, .inr (1, [.ref q7, .int 0, .int 0])), (q7, .inl (c7, 40, .inl (fun _ => 0)))] := hD
  refine lv_aload_n hx hb dX1_init_12 rfl (lv_at hl 0 rfl) ?_
  refine lv_iconst (v := -1) hx hb dX1_init_13 (by decide) ?_
  refine va_put (D := (dC, dI)) (ci := 1) (v := .int (-1)) (ty := .int) (C := RX1) (T := TX1) (N := 3) hx hb hts (ri_lays (c := 1) rfl) tyX1 tyX1_ok nmX1 hown hK hP hD hS 0 rfl rfl 1 (by decide) (hts (.fieldLink RX1 15 "RoadsNotGoneBy$Sheet" "sort" "I") (ri_in 175 (by decide +kernel) rfl)) (fun _ h9 => h9) rfl (by decide +kernel) rfl rfl (Nat.le_of_ble_eq_true rfl) dX1_init_14 (fun H locs hP hD hS => ?_)
  have hP : va_P (dC, dI) ri_cls [(h0, .inr (1, [.ref q7, .int (-1), .int 0])), (q7, .inl (c7, 40, .inl (fun _ => 0)))] H := hP
  have hD : va_D A [(h0, .inr (1, [.ref q7, .int (-1), .int 0])), (q7, .inl (c7, 40, .inl (fun _ => 0)))] := hD
  refine lv_aload_n hx hb dX1_init_17 rfl (lv_at hl 0 rfl) ?_
  refine lv_iconst (v := 0) hx hb dX1_init_18 (by decide) ?_
  refine va_put (D := (dC, dI)) (ci := 1) (v := .int (0)) (ty := .int) (C := RX1) (T := TX1) (N := 3) hx hb hts (ri_lays (c := 1) rfl) tyX1 tyX1_ok nmX1 hown hK hP hD hS 0 rfl rfl 2 (by decide) (hts (.fieldLink RX1 19 "RoadsNotGoneBy$Sheet" "size" "I") (ri_in 176 (by decide +kernel) rfl)) (fun _ h9 => h9) rfl (by decide +kernel) rfl rfl (Nat.le_of_ble_eq_true rfl) dX1_init_19 (fun H locs hP hD hS => ?_)
  have hP : va_P (dC, dI) ri_cls [(h0, .inr (1, [.ref q7, .int (-1), .int (0)])), (q7, .inl (c7, 40, .inl (fun _ => 0)))] H := hP
  have hD : va_D A [(h0, .inr (1, [.ref q7, .int (-1), .int (0)])), (q7, .inl (c7, 40, .inl (fun _ => 0)))] := hD
  exact W.vret hx hb hr (fun t ht hW => ⟨⟨(), rfl, trivial, q7, c7, by rw [ht]; exact hP, va_K.moved hW.alike hK, hD⟩, hS.F ht⟩) hS.2.2 dX1_init_22
theorem dX0_init_0 : decode cX0_init 0 = .ok (.aload_n 0, 1) := by decide +kernel
theorem dX0_init_1 : decode cX0_init 1 = .ok (.invokespecial 3, 3) := by decide +kernel
theorem dX0_init_4 : decode cX0_init 4 = .ok (.aload_n 0, 1) := by decide +kernel
theorem dX0_init_5 : decode cX0_init 5 = .ok (.sipush 160, 3) := by decide +kernel
theorem dX0_init_8 : decode cX0_init 8 = .ok (.newarray .int, 2) := by decide +kernel
theorem dX0_init_10 : decode cX0_init 10 = .ok (.putfield 9, 3) := by decide +kernel
theorem dX0_init_13 : decode cX0_init 13 = .ok (.aload_n 0, 1) := by decide +kernel
theorem dX0_init_14 : decode cX0_init 14 = .ok (.sipush 161, 3) := by decide +kernel
theorem dX0_init_17 : decode cX0_init 17 = .ok (.newarray .int, 2) := by decide +kernel
theorem dX0_init_19 : decode cX0_init 19 = .ok (.putfield 15, 3) := by decide +kernel
theorem dX0_init_22 : decode cX0_init 22 = .ok (.aload_n 0, 1) := by decide +kernel
theorem dX0_init_23 : decode cX0_init 23 = .ok (.sipush 161, 3) := by decide +kernel
theorem dX0_init_26 : decode cX0_init 26 = .ok (.newarray .int, 2) := by decide +kernel
theorem dX0_init_28 : decode cX0_init 28 = .ok (.putfield 18, 3) := by decide +kernel
theorem dX0_init_31 : decode cX0_init 31 = .ok (.aload_n 0, 1) := by decide +kernel
theorem dX0_init_32 : decode cX0_init 32 = .ok (.sipush 161, 3) := by decide +kernel
theorem dX0_init_35 : decode cX0_init 35 = .ok (.newarray .int, 2) := by decide +kernel
theorem dX0_init_37 : decode cX0_init 37 = .ok (.putfield 21, 3) := by decide +kernel
theorem dX0_init_40 : decode cX0_init 40 = .ok (.aload_n 0, 1) := by decide +kernel
theorem dX0_init_41 : decode cX0_init 41 = .ok (.iconst 0, 1) := by decide +kernel
theorem dX0_init_42 : decode cX0_init 42 = .ok (.putfield 24, 3) := by decide +kernel
theorem dX0_init_45 : decode cX0_init 45 = .ok (.aload_n 0, 1) := by decide +kernel
theorem dX0_init_46 : decode cX0_init 46 = .ok (.iconst 0, 1) := by decide +kernel
theorem dX0_init_47 : decode cX0_init 47 = .ok (.putfield 28, 3) := by decide +kernel
theorem dX0_init_50 : decode cX0_init 50 = .ok (.aload_n 0, 1) := by decide +kernel
theorem dX0_init_51 : decode cX0_init 51 = .ok (.iconst 0, 1) := by decide +kernel
theorem dX0_init_52 : decode cX0_init 52 = .ok (.putfield 31, 3) := by decide +kernel
theorem dX0_init_55 : decode cX0_init 55 = .ok (.aload_n 0, 1) := by decide +kernel
theorem dX0_init_56 : decode cX0_init 56 = .ok (.iconst (-1), 1) := by decide +kernel
theorem dX0_init_57 : decode cX0_init 57 = .ok (.putfield 34, 3) := by decide +kernel
theorem dX0_init_60 : decode cX0_init 60 = .ok (.aload_n 0, 1) := by decide +kernel
theorem dX0_init_61 : decode cX0_init 61 = .ok (.aload_n 1, 1) := by decide +kernel
theorem dX0_init_62 : decode cX0_init 62 = .ok (.putfield 37, 3) := by decide +kernel
theorem dX0_init_65 : decode cX0_init 65 = .ok (.return_, 1) := by decide +kernel
def wcX0_init : List Cond := .code yX0_init cX0_init 2 none :: lw_all
set_option maxHeartbeats 4000000 in
set_option maxRecDepth 100000 in
theorem ccX0_init (l : Launch) (dC : Nat → ClassId) (dI : Nat → Nat → Nat) (h0 ht : Nat) (sz : Nat) : Met l yX0_init wcX0_init ({ frames := 1, cells := 4, slots := 643, locals := 12 }) (va_Pc [.ref h0, .ref ht] (fun U => U.heap.size = sz ∧ va_P (dC, dI) ri_cls [(h0, .inr (0, [.null, .null, .null, .null, .int 0, .int 0, .int 0, .int 0, .null]))] U.heap ∧ va_K (dC, dI) ri_cls [] U ∧ va_D (fun _ => True) [(h0, .inr (0, [.null, .null, .null, .null, .int 0, .int 0, .int 0, .int 0, .null]))])) (va_Qv (fun _ : Unit => True) (fun _ t => ∃ (q8 q17 q26 q35 : Nat) (c8 c17 c26 c35 : ClassId), va_P (dC, dI) ri_cls [(h0, .inr (0, [.ref q8, .ref q17, .ref q26, .ref q35, .int (0), .int (0), .int (0), .int (-1), .ref ht])), (q8, .inl (c8, 160, .inl (fun _ => 0))), (q17, .inl (c17, 161, .inl (fun _ => 0))), (q26, .inl (c26, 161, .inl (fun _ => 0))), (q35, .inl (c35, 161, .inl (fun _ => 0)))] t.heap ∧ va_K (dC, dI) ri_cls [(c8, .int), (c17, .int), (c26, .int), (c35, .int)] t ∧ va_D (va_A [(h0, .inr (0, [.null, .null, .null, .null, .int 0, .int 0, .int 0, .int 0, .null]))] sz) [(h0, .inr (0, [.ref q8, .ref q17, .ref q26, .ref q35, .int (0), .int (0), .int (0), .int (-1), .ref ht])), (q8, .inl (c8, 160, .inl (fun _ => 0))), (q17, .inl (c17, 161, .inl (fun _ => 0))), (q26, .inl (c26, 161, .inl (fun _ => 0))), (q35, .inl (c35, 161, .inl (fun _ => 0)))]) (va_A [(h0, .inr (0, [.null, .null, .null, .null, .int 0, .int 0, .int 0, .int 0, .null]))] sz)) 4 643 (va_A [(h0, .inr (0, [.null, .null, .null, .null, .int 0, .int 0, .int 0, .int 0, .null]))] sz) := by
  refine Met.ofW (cc := cX0_init) (maxL := 2) (ret := none) (by decide) rfl ?_
  intro p e s m args below meth c s₁ B hml hv
  obtain ⟨rfl, hsz, hP, hK, hD0⟩ := hv
  have hx := B.exec
  have hb := B.bytes
  have hr := B.returns
  have hts : ∀ w ∈ lw_all, w.before _ s = true := fun w hw => atoms_spec (ws := wcX0_init) B.pre w (List.mem_cons_of_mem _ hw)
  have hown : s.vm.findClass RX0 = some m.cls := findClass_of_methodNamed B.named
  have hlocks := B.notSynchronized
  have hin : meth.name = "<init>" := (name_of_methodNamed B.named B.method).1
  subst hsz
  have hD := hD0.self (sz := s.heap.size)
  generalize hAe : va_A [(h0, .inr (0, [.null, .null, .null, .null, .int 0, .int 0, .int 0, .int 0, .null]))] s.heap.size = A at hD ⊢
  have hA : ∀ q : Nat, s.heap.size ≤ q → A q := fun q h => by rw [← hAe]; exact Or.inr h
  have hS : va_S A s.heap s.heap [] := va_S.rf
  have hP : va_P (dC, dI) ri_cls [(h0, .inr (0, [.null, .null, .null, .null, .int 0, .int 0, .int 0, .int 0, .null]))] s.heap := hP
  have hl := lv_entry ([.ref h0, .ref ht]) (n := 2) (Nat.le_of_ble_eq_true rfl)
  rw [lg_entry_eq]
  generalize (lg_sl ([.ref h0, .ref ht]) ++ List.replicate (2 - (lg_sl ([.ref h0, .ref ht])).length) Slot.unset).toArray = ls at hl ⊢
  have hl : lv_has ls 2 [(0, .ref h0), (1, .ref ht)] := hl
  refine lv_aload_n hx hb dX0_init_0 rfl (lv_at hl 0 rfl) ?_
  refine W.objInit hx hb hown (hts (.methodLink RX0 3 objectInit) (ri_in 83 (by decide +kernel) rfl)) (hts (.instanceMethod objectInit) (ri_in 51 (by decide +kernel) rfl)) (hts (.code objectInit ⟨#[0xb1]⟩ 1 none) (ri_in 52 (by decide +kernel) rfl)) rfl (by rw [hml]; exact hl.1) rfl dX0_init_1 (Nat.le_of_ble_eq_true rfl) (Nat.le_of_ble_eq_true rfl) ?_
  refine W.eq (g2 := F0 m 4 ls []) rfl ?_
  refine lv_aload_n hx hb dX0_init_4 rfl (lv_at hl 0 rfl) ?_
  refine lv_sipush (v := 160) hx hb dX0_init_5 (by decide) ?_
  refine va_newa (atype := .int) (ty := .int) (N' := 160) (a0 := (160, .inl (fun _ => 0))) hx hb (hts (.arrayClass .int) (ri_in 77 (by decide +kernel) rfl)) rfl hK hP hD hS hA (fun _ => rfl) (by decide) (by decide) (Nat.le_of_ble_eq_true rfl) (Nat.le_of_ble_eq_true rfl) (Nat.le_of_ble_eq_true rfl) dX0_init_8 (fun q8 c8 H hK hP hD hS => ?_)
  have hK : va_K (dC, dI) ri_cls [(c8, .int)] s := hK
  have hP : va_P (dC, dI) ri_cls [(h0, .inr (0, [.null, .null, .null, .null, .int 0, .int 0, .int 0, .int 0, .null])), (q8, .inl (c8, 160, .inl (fun _ => 0)))] H := hP
  have hD : va_D A [(h0, .inr (0, [.null, .null, .null, .null, .int 0, .int 0, .int 0, .int 0, .null])), (q8, .inl (c8, 160, .inl (fun _ => 0)))] := hD
  refine W.widen (k := 1) (n := 160) (by omega) (by omega) ?_
  refine va_putF (D := (dC, dI)) (ci := 0) (v := .ref q8) (ty := .array .int) (C := RX0) (T := TX0) (N := 9) hx hb hts (ri_lays (c := 0) rfl) tyX0 tyX0_ok nmX0 hown hK hP hD hS 0 rfl rfl 0 (by decide) (hts (.fieldLink RX0 9 "RoadsNotGoneBy$Reader" "tape" "[I") (ri_in 84 (by decide +kernel) rfl)) (fun _ h9 => h9) rfl hin rfl (by decide +kernel) rfl rfl (Nat.le_of_ble_eq_true rfl) dX0_init_10 (fun H locs hP hD hS => ?_)
  have hP : va_P (dC, dI) ri_cls [(h0, .inr (0, [.ref q8, .null, .null, .null, .int 0, .int 0, .int 0, .int 0, .null])), (q8, .inl (c8, 160, .inl (fun _ => 0)))] H := hP
  have hD : va_D A [(h0, .inr (0, [.ref q8, .null, .null, .null, .int 0, .int 0, .int 0, .int 0, .null])), (q8, .inl (c8, 160, .inl (fun _ => 0)))] := hD
  refine lv_aload_n hx hb dX0_init_13 rfl (lv_at hl 0 rfl) ?_
  refine lv_sipush (v := 161) hx hb dX0_init_14 (by decide) ?_
  refine va_newa (atype := .int) (ty := .int) (N' := 161) (a0 := (161, .inl (fun _ => 0))) hx hb (hts (.arrayClass .int) (ri_in 77 (by decide +kernel) rfl)) rfl hK hP hD hS hA (fun _ => rfl) (by decide) (by decide) (Nat.le_of_ble_eq_true rfl) (Nat.le_of_ble_eq_true rfl) (Nat.le_of_ble_eq_true rfl) dX0_init_17 (fun q17 c17 H hK hP hD hS => ?_)
  have hK : va_K (dC, dI) ri_cls [(c8, .int), (c17, .int)] s := hK
  have hP : va_P (dC, dI) ri_cls [(h0, .inr (0, [.ref q8, .null, .null, .null, .int 0, .int 0, .int 0, .int 0, .null])), (q8, .inl (c8, 160, .inl (fun _ => 0))), (q17, .inl (c17, 161, .inl (fun _ => 0)))] H := hP
  have hD : va_D A [(h0, .inr (0, [.ref q8, .null, .null, .null, .int 0, .int 0, .int 0, .int 0, .null])), (q8, .inl (c8, 160, .inl (fun _ => 0))), (q17, .inl (c17, 161, .inl (fun _ => 0)))] := hD
  refine W.widen (k := 2) (n := 321) (by omega) (by omega) ?_
  refine va_putF (D := (dC, dI)) (ci := 0) (v := .ref q17) (ty := .array .int) (C := RX0) (T := TX0) (N := 9) hx hb hts (ri_lays (c := 0) rfl) tyX0 tyX0_ok nmX0 hown hK hP hD hS 0 rfl rfl 1 (by decide) (hts (.fieldLink RX0 15 "RoadsNotGoneBy$Reader" "sorts" "[I") (ri_in 85 (by decide +kernel) rfl)) (fun _ h9 => h9) rfl hin rfl (by decide +kernel) rfl rfl (Nat.le_of_ble_eq_true rfl) dX0_init_19 (fun H locs hP hD hS => ?_)
  have hP : va_P (dC, dI) ri_cls [(h0, .inr (0, [.ref q8, .ref q17, .null, .null, .int 0, .int 0, .int 0, .int 0, .null])), (q8, .inl (c8, 160, .inl (fun _ => 0))), (q17, .inl (c17, 161, .inl (fun _ => 0)))] H := hP
  have hD : va_D A [(h0, .inr (0, [.ref q8, .ref q17, .null, .null, .int 0, .int 0, .int 0, .int 0, .null])), (q8, .inl (c8, 160, .inl (fun _ => 0))), (q17, .inl (c17, 161, .inl (fun _ => 0)))] := hD
  refine lv_aload_n hx hb dX0_init_22 rfl (lv_at hl 0 rfl) ?_
  refine lv_sipush (v := 161) hx hb dX0_init_23 (by decide) ?_
  refine va_newa (atype := .int) (ty := .int) (N' := 161) (a0 := (161, .inl (fun _ => 0))) hx hb (hts (.arrayClass .int) (ri_in 77 (by decide +kernel) rfl)) rfl hK hP hD hS hA (fun _ => rfl) (by decide) (by decide) (Nat.le_of_ble_eq_true rfl) (Nat.le_of_ble_eq_true rfl) (Nat.le_of_ble_eq_true rfl) dX0_init_26 (fun q26 c26 H hK hP hD hS => ?_)
  have hK : va_K (dC, dI) ri_cls [(c8, .int), (c17, .int), (c26, .int)] s := hK
  have hP : va_P (dC, dI) ri_cls [(h0, .inr (0, [.ref q8, .ref q17, .null, .null, .int 0, .int 0, .int 0, .int 0, .null])), (q8, .inl (c8, 160, .inl (fun _ => 0))), (q17, .inl (c17, 161, .inl (fun _ => 0))), (q26, .inl (c26, 161, .inl (fun _ => 0)))] H := hP
  have hD : va_D A [(h0, .inr (0, [.ref q8, .ref q17, .null, .null, .int 0, .int 0, .int 0, .int 0, .null])), (q8, .inl (c8, 160, .inl (fun _ => 0))), (q17, .inl (c17, 161, .inl (fun _ => 0))), (q26, .inl (c26, 161, .inl (fun _ => 0)))] := hD
  refine W.widen (k := 3) (n := 482) (by omega) (by omega) ?_
  refine va_putF (D := (dC, dI)) (ci := 0) (v := .ref q26) (ty := .array .int) (C := RX0) (T := TX0) (N := 9) hx hb hts (ri_lays (c := 0) rfl) tyX0 tyX0_ok nmX0 hown hK hP hD hS 0 rfl rfl 2 (by decide) (hts (.fieldLink RX0 18 "RoadsNotGoneBy$Reader" "values" "[I") (ri_in 86 (by decide +kernel) rfl)) (fun _ h9 => h9) rfl hin rfl (by decide +kernel) rfl rfl (Nat.le_of_ble_eq_true rfl) dX0_init_28 (fun H locs hP hD hS => ?_)
  have hP : va_P (dC, dI) ri_cls [(h0, .inr (0, [.ref q8, .ref q17, .ref q26, .null, .int 0, .int 0, .int 0, .int 0, .null])), (q8, .inl (c8, 160, .inl (fun _ => 0))), (q17, .inl (c17, 161, .inl (fun _ => 0))), (q26, .inl (c26, 161, .inl (fun _ => 0)))] H := hP
  have hD : va_D A [(h0, .inr (0, [.ref q8, .ref q17, .ref q26, .null, .int 0, .int 0, .int 0, .int 0, .null])), (q8, .inl (c8, 160, .inl (fun _ => 0))), (q17, .inl (c17, 161, .inl (fun _ => 0))), (q26, .inl (c26, 161, .inl (fun _ => 0)))] := hD
  refine lv_aload_n hx hb dX0_init_31 rfl (lv_at hl 0 rfl) ?_
  refine lv_sipush (v := 161) hx hb dX0_init_32 (by decide) ?_
  refine va_newa (atype := .int) (ty := .int) (N' := 161) (a0 := (161, .inl (fun _ => 0))) hx hb (hts (.arrayClass .int) (ri_in 77 (by decide +kernel) rfl)) rfl hK hP hD hS hA (fun _ => rfl) (by decide) (by decide) (Nat.le_of_ble_eq_true rfl) (Nat.le_of_ble_eq_true rfl) (Nat.le_of_ble_eq_true rfl) dX0_init_35 (fun q35 c35 H hK hP hD hS => ?_)
  have hK : va_K (dC, dI) ri_cls [(c8, .int), (c17, .int), (c26, .int), (c35, .int)] s := hK
  have hP : va_P (dC, dI) ri_cls [(h0, .inr (0, [.ref q8, .ref q17, .ref q26, .null, .int 0, .int 0, .int 0, .int 0, .null])), (q8, .inl (c8, 160, .inl (fun _ => 0))), (q17, .inl (c17, 161, .inl (fun _ => 0))), (q26, .inl (c26, 161, .inl (fun _ => 0))), (q35, .inl (c35, 161, .inl (fun _ => 0)))] H := hP
  have hD : va_D A [(h0, .inr (0, [.ref q8, .ref q17, .ref q26, .null, .int 0, .int 0, .int 0, .int 0, .null])), (q8, .inl (c8, 160, .inl (fun _ => 0))), (q17, .inl (c17, 161, .inl (fun _ => 0))), (q26, .inl (c26, 161, .inl (fun _ => 0))), (q35, .inl (c35, 161, .inl (fun _ => 0)))] := hD
  refine W.widen (k := 4) (n := 643) (by omega) (by omega) ?_
  refine va_putF (D := (dC, dI)) (ci := 0) (v := .ref q35) (ty := .array .int) (C := RX0) (T := TX0) (N := 9) hx hb hts (ri_lays (c := 0) rfl) tyX0 tyX0_ok nmX0 hown hK hP hD hS 0 rfl rfl 3 (by decide) (hts (.fieldLink RX0 21 "RoadsNotGoneBy$Reader" "places" "[I") (ri_in 87 (by decide +kernel) rfl)) (fun _ h9 => h9) rfl hin rfl (by decide +kernel) rfl rfl (Nat.le_of_ble_eq_true rfl) dX0_init_37 (fun H locs hP hD hS => ?_)
  have hP : va_P (dC, dI) ri_cls [(h0, .inr (0, [.ref q8, .ref q17, .ref q26, .ref q35, .int 0, .int 0, .int 0, .int 0, .null])), (q8, .inl (c8, 160, .inl (fun _ => 0))), (q17, .inl (c17, 161, .inl (fun _ => 0))), (q26, .inl (c26, 161, .inl (fun _ => 0))), (q35, .inl (c35, 161, .inl (fun _ => 0)))] H := hP
  have hD : va_D A [(h0, .inr (0, [.ref q8, .ref q17, .ref q26, .ref q35, .int 0, .int 0, .int 0, .int 0, .null])), (q8, .inl (c8, 160, .inl (fun _ => 0))), (q17, .inl (c17, 161, .inl (fun _ => 0))), (q26, .inl (c26, 161, .inl (fun _ => 0))), (q35, .inl (c35, 161, .inl (fun _ => 0)))] := hD
  refine lv_aload_n hx hb dX0_init_40 rfl (lv_at hl 0 rfl) ?_
  refine lv_iconst (v := 0) hx hb dX0_init_41 (by decide) ?_
  refine va_put (D := (dC, dI)) (ci := 0) (v := .int (0)) (ty := .int) (C := RX0) (T := TX0) (N := 9) hx hb hts (ri_lays (c := 0) rfl) tyX0 tyX0_ok nmX0 hown hK hP hD hS 0 rfl rfl 4 (by decide) (hts (.fieldLink RX0 24 "RoadsNotGoneBy$Reader" "size" "I") (ri_in 88 (by decide +kernel) rfl)) (fun _ h9 => h9) rfl (by decide +kernel) rfl rfl (Nat.le_of_ble_eq_true rfl) dX0_init_42 (fun H locs hP hD hS => ?_)
  have hP : va_P (dC, dI) ri_cls [(h0, .inr (0, [.ref q8, .ref q17, .ref q26, .ref q35, .int (0), .int 0, .int 0, .int 0, .null])), (q8, .inl (c8, 160, .inl (fun _ => 0))), (q17, .inl (c17, 161, .inl (fun _ => 0))), (q26, .inl (c26, 161, .inl (fun _ => 0))), (q35, .inl (c35, 161, .inl (fun _ => 0)))] H := hP
  have hD : va_D A [(h0, .inr (0, [.ref q8, .ref q17, .ref q26, .ref q35, .int (0), .int 0, .int 0, .int 0, .null])), (q8, .inl (c8, 160, .inl (fun _ => 0))), (q17, .inl (c17, 161, .inl (fun _ => 0))), (q26, .inl (c26, 161, .inl (fun _ => 0))), (q35, .inl (c35, 161, .inl (fun _ => 0)))] := hD
  refine lv_aload_n hx hb dX0_init_45 rfl (lv_at hl 0 rfl) ?_
  refine lv_iconst (v := 0) hx hb dX0_init_46 (by decide) ?_
  refine va_put (D := (dC, dI)) (ci := 0) (v := .int (0)) (ty := .int) (C := RX0) (T := TX0) (N := 9) hx hb hts (ri_lays (c := 0) rfl) tyX0 tyX0_ok nmX0 hown hK hP hD hS 0 rfl rfl 5 (by decide) (hts (.fieldLink RX0 28 "RoadsNotGoneBy$Reader" "tokens" "I") (ri_in 90 (by decide +kernel) rfl)) (fun _ h9 => h9) rfl (by decide +kernel) rfl rfl (Nat.le_of_ble_eq_true rfl) dX0_init_47 (fun H locs hP hD hS => ?_)
  have hP : va_P (dC, dI) ri_cls [(h0, .inr (0, [.ref q8, .ref q17, .ref q26, .ref q35, .int (0), .int (0), .int 0, .int 0, .null])), (q8, .inl (c8, 160, .inl (fun _ => 0))), (q17, .inl (c17, 161, .inl (fun _ => 0))), (q26, .inl (c26, 161, .inl (fun _ => 0))), (q35, .inl (c35, 161, .inl (fun _ => 0)))] H := hP
  have hD : va_D A [(h0, .inr (0, [.ref q8, .ref q17, .ref q26, .ref q35, .int (0), .int (0), .int 0, .int 0, .null])), (q8, .inl (c8, 160, .inl (fun _ => 0))), (q17, .inl (c17, 161, .inl (fun _ => 0))), (q26, .inl (c26, 161, .inl (fun _ => 0))), (q35, .inl (c35, 161, .inl (fun _ => 0)))] := hD
  refine lv_aload_n hx hb dX0_init_50 rfl (lv_at hl 0 rfl) ?_
  refine lv_iconst (v := 0) hx hb dX0_init_51 (by decide) ?_
  refine va_put (D := (dC, dI)) (ci := 0) (v := .int (0)) (ty := .int) (C := RX0) (T := TX0) (N := 9) hx hb hts (ri_lays (c := 0) rfl) tyX0 tyX0_ok nmX0 hown hK hP hD hS 0 rfl rfl 6 (by decide) (hts (.fieldLink RX0 31 "RoadsNotGoneBy$Reader" "next" "I") (ri_in 91 (by decide +kernel) rfl)) (fun _ h9 => h9) rfl (by decide +kernel) rfl rfl (Nat.le_of_ble_eq_true rfl) dX0_init_52 (fun H locs hP hD hS => ?_)
  have hP : va_P (dC, dI) ri_cls [(h0, .inr (0, [.ref q8, .ref q17, .ref q26, .ref q35, .int (0), .int (0), .int (0), .int 0, .null])), (q8, .inl (c8, 160, .inl (fun _ => 0))), (q17, .inl (c17, 161, .inl (fun _ => 0))), (q26, .inl (c26, 161, .inl (fun _ => 0))), (q35, .inl (c35, 161, .inl (fun _ => 0)))] H := hP
  have hD : va_D A [(h0, .inr (0, [.ref q8, .ref q17, .ref q26, .ref q35, .int (0), .int (0), .int (0), .int 0, .null])), (q8, .inl (c8, 160, .inl (fun _ => 0))), (q17, .inl (c17, 161, .inl (fun _ => 0))), (q26, .inl (c26, 161, .inl (fun _ => 0))), (q35, .inl (c35, 161, .inl (fun _ => 0)))] := hD
  refine lv_aload_n hx hb dX0_init_55 rfl (lv_at hl 0 rfl) ?_
  refine lv_iconst (v := -1) hx hb dX0_init_56 (by decide) ?_
  refine va_put (D := (dC, dI)) (ci := 0) (v := .int (-1)) (ty := .int) (C := RX0) (T := TX0) (N := 9) hx hb hts (ri_lays (c := 0) rfl) tyX0 tyX0_ok nmX0 hown hK hP hD hS 0 rfl rfl 7 (by decide) (hts (.fieldLink RX0 34 "RoadsNotGoneBy$Reader" "fault" "I") (ri_in 92 (by decide +kernel) rfl)) (fun _ h9 => h9) rfl (by decide +kernel) rfl rfl (Nat.le_of_ble_eq_true rfl) dX0_init_57 (fun H locs hP hD hS => ?_)
  have hP : va_P (dC, dI) ri_cls [(h0, .inr (0, [.ref q8, .ref q17, .ref q26, .ref q35, .int (0), .int (0), .int (0), .int (-1), .null])), (q8, .inl (c8, 160, .inl (fun _ => 0))), (q17, .inl (c17, 161, .inl (fun _ => 0))), (q26, .inl (c26, 161, .inl (fun _ => 0))), (q35, .inl (c35, 161, .inl (fun _ => 0)))] H := hP
  have hD : va_D A [(h0, .inr (0, [.ref q8, .ref q17, .ref q26, .ref q35, .int (0), .int (0), .int (0), .int (-1), .null])), (q8, .inl (c8, 160, .inl (fun _ => 0))), (q17, .inl (c17, 161, .inl (fun _ => 0))), (q26, .inl (c26, 161, .inl (fun _ => 0))), (q35, .inl (c35, 161, .inl (fun _ => 0)))] := hD
  refine lv_aload_n hx hb dX0_init_60 rfl (lv_at hl 0 rfl) ?_
  refine lv_aload_n hx hb dX0_init_61 rfl (lv_at hl 1 rfl) ?_
  refine va_putF (D := (dC, dI)) (ci := 0) (v := .ref ht) (ty := .object "RoadsNotGoneBy$Texts") (C := RX0) (T := TX0) (N := 9) hx hb hts (ri_lays (c := 0) rfl) tyX0 tyX0_ok nmX0 hown hK hP hD hS 0 rfl rfl 8 (by decide) (hts (.fieldLink RX0 37 "RoadsNotGoneBy$Reader" "texts" "LRoadsNotGoneBy$Texts;") (ri_in 93 (by decide +kernel) rfl)) (fun _ h9 => h9) rfl hin rfl (by decide +kernel) rfl rfl (Nat.le_of_ble_eq_true rfl) dX0_init_62 (fun H locs hP hD hS => ?_)
  have hP : va_P (dC, dI) ri_cls [(h0, .inr (0, [.ref q8, .ref q17, .ref q26, .ref q35, .int (0), .int (0), .int (0), .int (-1), .ref ht])), (q8, .inl (c8, 160, .inl (fun _ => 0))), (q17, .inl (c17, 161, .inl (fun _ => 0))), (q26, .inl (c26, 161, .inl (fun _ => 0))), (q35, .inl (c35, 161, .inl (fun _ => 0)))] H := hP
  have hD : va_D A [(h0, .inr (0, [.ref q8, .ref q17, .ref q26, .ref q35, .int (0), .int (0), .int (0), .int (-1), .ref ht])), (q8, .inl (c8, 160, .inl (fun _ => 0))), (q17, .inl (c17, 161, .inl (fun _ => 0))), (q26, .inl (c26, 161, .inl (fun _ => 0))), (q35, .inl (c35, 161, .inl (fun _ => 0)))] := hD
  exact W.vret hx hb hr (fun t ht hW => ⟨⟨(), rfl, trivial, q8, q17, q26, q35, c8, c17, c26, c35, by rw [ht]; exact hP, va_K.moved hW.alike hK, hD⟩, hS.F ht⟩) hS.2.2 dX0_init_65
