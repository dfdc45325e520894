/-! the crossings of a new world; World -/
theorem wc_good {w : Cond} (h : w ∈ lw_all) : GoodIn lw_all (w :: lw_all) := by
  have key : ∀ w ∈ lw_all, (w.onTables && w.keeps) = true ∨ ∃ ty, w = .arrayClass ty := fun w hw => good_of_word (List.mem_filter.mp hw).2
  intro w' hw
  rcases List.mem_cons.mp hw with rfl | hw
  · exact ⟨h, key _ h⟩
  · exact ⟨hw, key _ hw⟩
/-- where the roads of a new world lead -/
def ldv (i : Nat) : Int32 := (nI i / 2 + 1 + (nI i - nI i / 2 * 2)) - (nI i / 2 + 1 + (nI i - nI i / 2 * 2)) / 12 * 12
def ldr : Nat → Nat → Int32
  | 0 => fun _ => 0
  | i + 1 => upd (ldr i) i (ldv i)
theorem dX3_init_0 : decode cX3_init 0 = .ok (.aload_n 0, 1) := by decide +kernel
theorem dX3_init_1 : decode cX3_init 1 = .ok (.invokespecial 3, 3) := by decide +kernel
theorem dX3_init_4 : decode cX3_init 4 = .ok (.aload_n 0, 1) := by decide +kernel
theorem dX3_init_5 : decode cX3_init 5 = .ok (.bipush 24, 2) := by decide +kernel
theorem dX3_init_7 : decode cX3_init 7 = .ok (.newarray .int, 2) := by decide +kernel
theorem dX3_init_9 : decode cX3_init 9 = .ok (.putfield 9, 3) := by decide +kernel
theorem dX3_init_12 : decode cX3_init 12 = .ok (.aload_n 0, 1) := by decide +kernel
theorem dX3_init_13 : decode cX3_init 13 = .ok (.bipush 24, 2) := by decide +kernel
theorem dX3_init_15 : decode cX3_init 15 = .ok (.newarray .int, 2) := by decide +kernel
theorem dX3_init_17 : decode cX3_init 17 = .ok (.putfield 15, 3) := by decide +kernel
theorem dX3_init_20 : decode cX3_init 20 = .ok (.aload_n 0, 1) := by decide +kernel
theorem dX3_init_21 : decode cX3_init 21 = .ok (.iconst 5, 1) := by decide +kernel
theorem dX3_init_22 : decode cX3_init 22 = .ok (.newarray .int, 2) := by decide +kernel
theorem dX3_init_24 : decode cX3_init 24 = .ok (.putfield 18, 3) := by decide +kernel
theorem dX3_init_27 : decode cX3_init 27 = .ok (.aload_n 0, 1) := by decide +kernel
theorem dX3_init_28 : decode cX3_init 28 = .ok (.iconst 5, 1) := by decide +kernel
theorem dX3_init_29 : decode cX3_init 29 = .ok (.newarray .int, 2) := by decide +kernel
theorem dX3_init_31 : decode cX3_init 31 = .ok (.putfield 21, 3) := by decide +kernel
theorem dX3_init_34 : decode cX3_init 34 = .ok (.aload_n 0, 1) := by decide +kernel
theorem dX3_init_35 : decode cX3_init 35 = .ok (.iconst 5, 1) := by decide +kernel
theorem dX3_init_36 : decode cX3_init 36 = .ok (.newarray .int, 2) := by decide +kernel
theorem dX3_init_38 : decode cX3_init 38 = .ok (.putfield 24, 3) := by decide +kernel
theorem dX3_init_41 : decode cX3_init 41 = .ok (.aload_n 0, 1) := by decide +kernel
theorem dX3_init_42 : decode cX3_init 42 = .ok (.iconst 5, 1) := by decide +kernel
theorem dX3_init_43 : decode cX3_init 43 = .ok (.newarray .int, 2) := by decide +kernel
theorem dX3_init_45 : decode cX3_init 45 = .ok (.putfield 27, 3) := by decide +kernel
theorem dX3_init_48 : decode cX3_init 48 = .ok (.aload_n 0, 1) := by decide +kernel
theorem dX3_init_49 : decode cX3_init 49 = .ok (.iconst 5, 1) := by decide +kernel
theorem dX3_init_50 : decode cX3_init 50 = .ok (.newarray .int, 2) := by decide +kernel
theorem dX3_init_52 : decode cX3_init 52 = .ok (.putfield 30, 3) := by decide +kernel
theorem dX3_init_55 : decode cX3_init 55 = .ok (.aload_n 0, 1) := by decide +kernel
theorem dX3_init_56 : decode cX3_init 56 = .ok (.bipush 6, 2) := by decide +kernel
theorem dX3_init_58 : decode cX3_init 58 = .ok (.newarray .int, 2) := by decide +kernel
theorem dX3_init_60 : decode cX3_init 60 = .ok (.putfield 33, 3) := by decide +kernel
theorem dX3_init_63 : decode cX3_init 63 = .ok (.aload_n 0, 1) := by decide +kernel
theorem dX3_init_64 : decode cX3_init 64 = .ok (.iconst 0, 1) := by decide +kernel
theorem dX3_init_65 : decode cX3_init 65 = .ok (.putfield 36, 3) := by decide +kernel
theorem dX3_init_68 : decode cX3_init 68 = .ok (.aload_n 0, 1) := by decide +kernel
theorem dX3_init_69 : decode cX3_init 69 = .ok (.iconst 0, 1) := by decide +kernel
theorem dX3_init_70 : decode cX3_init 70 = .ok (.putfield 40, 3) := by decide +kernel
theorem dX3_init_73 : decode cX3_init 73 = .ok (.aload_n 0, 1) := by decide +kernel
theorem dX3_init_74 : decode cX3_init 74 = .ok (.iconst 0, 1) := by decide +kernel
theorem dX3_init_75 : decode cX3_init 75 = .ok (.putfield 43, 3) := by decide +kernel
theorem dX3_init_78 : decode cX3_init 78 = .ok (.aload_n 0, 1) := by decide +kernel
theorem dX3_init_79 : decode cX3_init 79 = .ok (.aload_n 1, 1) := by decide +kernel
theorem dX3_init_80 : decode cX3_init 80 = .ok (.putfield 46, 3) := by decide +kernel
theorem dX3_init_83 : decode cX3_init 83 = .ok (.iconst 0, 1) := by decide +kernel
theorem dX3_init_84 : decode cX3_init 84 = .ok (.istore_n 2, 1) := by decide +kernel
theorem dX3_init_85 : decode cX3_init 85 = .ok (.iload_n 2, 1) := by decide +kernel
theorem dX3_init_86 : decode cX3_init 86 = .ok (.aload_n 0, 1) := by decide +kernel
theorem dX3_init_87 : decode cX3_init 87 = .ok (.getfield 9, 3) := by decide +kernel
theorem dX3_init_90 : decode cX3_init 90 = .ok (.arraylength, 1) := by decide +kernel
theorem dX3_init_91 : decode cX3_init 91 = .ok (.if_icmp .ge 27, 3) := by decide +kernel
theorem dX3_init_94 : decode cX3_init 94 = .ok (.aload_n 0, 1) := by decide +kernel
theorem dX3_init_95 : decode cX3_init 95 = .ok (.getfield 9, 3) := by decide +kernel
theorem dX3_init_98 : decode cX3_init 98 = .ok (.iload_n 2, 1) := by decide +kernel
theorem dX3_init_99 : decode cX3_init 99 = .ok (.iload_n 2, 1) := by decide +kernel
theorem dX3_init_100 : decode cX3_init 100 = .ok (.iconst 2, 1) := by decide +kernel
theorem dX3_init_101 : decode cX3_init 101 = .ok (.idiv, 1) := by decide +kernel
theorem dX3_init_102 : decode cX3_init 102 = .ok (.iconst 1, 1) := by decide +kernel
theorem dX3_init_103 : decode cX3_init 103 = .ok (.iadd, 1) := by decide +kernel
theorem dX3_init_104 : decode cX3_init 104 = .ok (.iload_n 2, 1) := by decide +kernel
theorem dX3_init_105 : decode cX3_init 105 = .ok (.iconst 2, 1) := by decide +kernel
theorem dX3_init_106 : decode cX3_init 106 = .ok (.irem, 1) := by decide +kernel
theorem dX3_init_107 : decode cX3_init 107 = .ok (.iadd, 1) := by decide +kernel
theorem dX3_init_108 : decode cX3_init 108 = .ok (.bipush 12, 2) := by decide +kernel
theorem dX3_init_110 : decode cX3_init 110 = .ok (.irem, 1) := by decide +kernel
theorem dX3_init_111 : decode cX3_init 111 = .ok (.iastore, 1) := by decide +kernel
theorem dX3_init_112 : decode cX3_init 112 = .ok (.iinc 2 1, 3) := by decide +kernel
theorem dX3_init_115 : decode cX3_init 115 = .ok (.goto (-30), 3) := by decide +kernel
theorem dX3_init_118 : decode cX3_init 118 = .ok (.return_, 1) := by decide +kernel
def wcX3_init : List Cond := .code yX3_init cX3_init 3 none :: lw_all
set_option maxHeartbeats 4000000 in
set_option maxRecDepth 100000 in
theorem lpX3_init {p : Program} {l : Launch} {e : Env} {R : Room} {s : State} {m : MethodId} {args : Array Value} {below : List Frame} {meth : Method} {c : Code} {cells slots : Nat} {Q : State → Prop} {A : Nat → Prop} {H0 : Heap} {D : va_G} {tys : List (ClassId × FieldType)} {ws : (Nat → Int32) → va_W} {h0 ht qa pa ta : Nat} {cA : ClassId} {fs : List Value}
    (hx : p.tables.exec = Jvm.exec) (hb : c.code = cX3_init) (hts : ∀ w ∈ lw_all, w.before args s = true) (hown : s.vm.findClass RX3 = some m.cls) (hK : va_K D ri_cls tys s)
    (w0 : ∀ f, (ws f)[0]? = some (h0, .inr (3, fs))) (wf : fs[0]? = some (.ref qa)) (wa : ∀ f, (ws f)[pa]? = some (qa, .inl (cA, 24, .inl f))) (wt : tys[ta]? = some (cA, .int)) (wset : ∀ f g, (ws f).set pa (qa, .inl (cA, 24, .inl g)) = ws g)
    (kk : ∀ (H : Heap) (locs : List Loc) (ls : Array Slot), va_P D ri_cls (ws (ldr 24)) H → va_D A (ws (ldr 24)) → va_S A H0 H locs → lv_has ls 3 [(2, .int (nI 24)), (0, .ref h0), (1, .ref ht)] → W p l e R s m args below meth c H locs cells slots Q (F0 m 118 ls [])) :
    ∀ (d i : Nat), i + d = 24 → ∀ (H : Heap) (locs : List Loc) (ls : Array Slot), va_P D ri_cls (ws (ldr i)) H → va_D A (ws (ldr i)) → va_S A H0 H locs → lv_has ls 3 [(2, .int (nI i)), (0, .ref h0), (1, .ref ht)] → W p l e R s m args below meth c H locs cells slots Q (F0 m 85 ls []) := by
  intro d
  induction d with
  | zero =>
    intro i hi H locs ls hP hD hS hl
    have hi' : i = 24 := by omega
    subst hi'
    refine lv_iload_n hx hb dX3_init_85 rfl (lv_at hl 0 rfl) ?_
    refine lv_aload_n hx hb dX3_init_86 rfl (lv_at hl 1 rfl) ?_
    refine va_get (D := D) (ci := 3) (v := .ref qa) (C := RX3) (T := TX3) (N := 12) hx hb hts (ri_lays (c := 3) rfl) hown hK hP 0 (w0 _) rfl 0 (by decide) (hts (.fieldLink RX3 9 "RoadsNotGoneBy$World" "to" "[I") (ri_in 119 (by decide +kernel) rfl)) (fun _ h9 => h9) wf dX3_init_87 ?_
    refine va_alen hx hb hK hP pa ta (wa _) wt (v := 24) rfl dX3_init_90 ?_
    exact lv_icmp_ge hx hb dX3_init_91 rfl (fun _ => kk H locs ls hP hD hS hl) (fun c => absurd (show (24 : Int32) ≤ nI 24 by decide) c)
  | succ d ih =>
    intro i hi H locs ls hP hD hS hl
    refine lv_iload_n hx hb dX3_init_85 rfl (lv_at hl 0 rfl) ?_
    refine lv_aload_n hx hb dX3_init_86 rfl (lv_at hl 1 rfl) ?_
    refine va_get (D := D) (ci := 3) (v := .ref qa) (C := RX3) (T := TX3) (N := 12) hx hb hts (ri_lays (c := 3) rfl) hown hK hP 0 (w0 _) rfl 0 (by decide) (hts (.fieldLink RX3 9 "RoadsNotGoneBy$World" "to" "[I") (ri_in 119 (by decide +kernel) rfl)) (fun _ h9 => h9) wf dX3_init_87 ?_
    refine va_alen hx hb hK hP pa ta (wa _) wt (v := 24) rfl dX3_init_90 ?_
    refine lv_icmp_ge hx hb dX3_init_91 rfl (fun c => absurd c (nI_ge (b := 24) (by omega) (by decide))) (fun _ => ?_)
    refine lv_aload_n hx hb dX3_init_94 rfl (lv_at hl 1 rfl) ?_
    refine va_get (D := D) (ci := 3) (v := .ref qa) (C := RX3) (T := TX3) (N := 12) hx hb hts (ri_lays (c := 3) rfl) hown hK hP 0 (w0 _) rfl 0 (by decide) (hts (.fieldLink RX3 9 "RoadsNotGoneBy$World" "to" "[I") (ri_in 119 (by decide +kernel) rfl)) (fun _ h9 => h9) wf dX3_init_95 ?_
    refine lv_iload_n hx hb dX3_init_98 rfl (lv_at hl 0 rfl) ?_
    refine lv_iload_n hx hb dX3_init_99 rfl (lv_at hl 0 rfl) ?_
    refine lv_iconst (v := 2) hx hb dX3_init_100 (by decide) ?_
    refine lv_idiv hx hb dX3_init_101 (by decide) ?_
    refine lv_iconst (v := 1) hx hb dX3_init_102 (by decide) ?_
    refine lv_iadd hx hb dX3_init_103 ?_
    refine lv_iload_n hx hb dX3_init_104 rfl (lv_at hl 0 rfl) ?_
    refine lv_iconst (v := 2) hx hb dX3_init_105 (by decide) ?_
    refine lv_irem hx hb dX3_init_106 (by decide) ?_
    refine lv_iadd hx hb dX3_init_107 ?_
    refine lv_bipush (v := 12) hx hb dX3_init_108 (by decide) ?_
    refine lv_irem hx hb dX3_init_110 (by decide) ?_
    refine va_iast hx hb hK hP hD hS pa ta (wa _) wt (vp_in_nI (n := i) (by omega) (by decide)) dX3_init_111 (fun H locs hP hD hS => ?_)
    rw [wset, nI_clamp (by omega)] at hP hD
    refine lv_iinc (k := 0) (v := nI (i + 1)) hx hb dX3_init_112 hl rfl (nI_1 i) (by decide) rfl (fun ls hl => ?_)
    refine lv_goto hx hb dX3_init_115 rfl ?_
    exact ih (i + 1) (by omega) H locs ls hP hD hS hl
set_option maxHeartbeats 4000000 in
set_option maxRecDepth 100000 in
theorem ccX3_init (l : Launch) (dC : Nat → ClassId) (dI : Nat → Nat → Nat) (h0 ht : Nat) (sz : Nat) : Met l yX3_init wcX3_init ({ frames := 1, cells := 8, slots := 79, locals := 12 }) (va_Pc [.ref h0, .ref ht] (fun U => U.heap.size = sz ∧ va_P (dC, dI) ri_cls [(h0, .inr (3, [.null, .null, .null, .null, .null, .null, .null, .null, .null, .int 0, .int 0, .int 0]))] U.heap ∧ va_K (dC, dI) ri_cls [] U ∧ va_D (fun _ => True) [(h0, .inr (3, [.null, .null, .null, .null, .null, .null, .null, .null, .null, .int 0, .int 0, .int 0]))])) (va_Qv (fun _ : Unit => True) (fun _ t => ∃ (q7 q15 q22 q29 q36 q43 q50 q58 : Nat) (c7 c15 c22 c29 c36 c43 c50 c58 : ClassId), va_P (dC, dI) ri_cls [(h0, .inr (3, [.ref q7, .ref q15, .ref q22, .ref q29, .ref q36, .ref q43, .ref q50, .ref q58, .ref ht, .int (0), .int (0), .int (0)])), (q7, .inl (c7, 24, .inl (ldr 24))), (q15, .inl (c15, 24, .inl (fun _ => 0))), (q22, .inl (c22, 5, .inl (fun _ => 0))), (q29, .inl (c29, 5, .inl (fun _ => 0))), (q36, .inl (c36, 5, .inl (fun _ => 0))), (q43, .inl (c43, 5, .inl (fun _ => 0))), (q50, .inl (c50, 5, .inl (fun _ => 0))), (q58, .inl (c58, 6, .inl (fun _ => 0)))] t.heap ∧ va_K (dC, dI) ri_cls [(c7, .int), (c15, .int), (c22, .int), (c29, .int), (c36, .int), (c43, .int), (c50, .int), (c58, .int)] t ∧ va_D (va_A [(h0, .inr (3, [.null, .null, .null, .null, .null, .null, .null, .null, .null, .int 0, .int 0, .int 0]))] sz) [(h0, .inr (3, [.ref q7, .ref q15, .ref q22, .ref q29, .ref q36, .ref q43, .ref q50, .ref q58, .ref ht, .int (0), .int (0), .int (0)])), (q7, .inl (c7, 24, .inl (ldr 24))), (q15, .inl (c15, 24, .inl (fun _ => 0))), (q22, .inl (c22, 5, .inl (fun _ => 0))), (q29, .inl (c29, 5, .inl (fun _ => 0))), (q36, .inl (c36, 5, .inl (fun _ => 0))), (q43, .inl (c43, 5, .inl (fun _ => 0))), (q50, .inl (c50, 5, .inl (fun _ => 0))), (q58, .inl (c58, 6, .inl (fun _ => 0)))]) (va_A [(h0, .inr (3, [.null, .null, .null, .null, .null, .null, .null, .null, .null, .int 0, .int 0, .int 0]))] sz)) 8 79 (va_A [(h0, .inr (3, [.null, .null, .null, .null, .null, .null, .null, .null, .null, .int 0, .int 0, .int 0]))] sz) := by
  refine Met.ofW (cc := cX3_init) (maxL := 3) (ret := none) (by decide) rfl ?_
  intro p e s m args below meth c s₁ B hml hv
  obtain ⟨rfl, hsz, hP, hK, hD0⟩ := hv
  have hx := B.exec
  have hb := B.bytes
  have hr := B.returns
  have hts : ∀ w ∈ lw_all, w.before _ s = true := fun w hw => atoms_spec (ws := wcX3_init) B.pre w (List.mem_cons_of_mem _ hw)
  have hown : s.vm.findClass RX3 = some m.cls := findClass_of_methodNamed B.named
  have hlocks := B.notSynchronized
  have hin : meth.name = "<init>" := (name_of_methodNamed B.named B.method).1
  subst hsz
  have hD := hD0.self (sz := s.heap.size)
  generalize hAe : va_A [(h0, .inr (3, [.null, .null, .null, .null, .null, .null, .null, .null, .null, .int 0, .int 0, .int 0]))] s.heap.size = A at hD ⊢
  have hA : ∀ q : Nat, s.heap.size ≤ q → A q := fun q h => by rw [← hAe]; exact Or.inr h
  have hS : va_S A s.heap s.heap [] := va_S.rf
  have hP : va_P (dC, dI) ri_cls [(h0, .inr (3, [.null, .null, .null, .null, .null, .null, .null, .null, .null, .int 0, .int 0, .int 0]))] s.heap := hP
  have hl := lv_entry ([.ref h0, .ref ht]) (n := 3) (Nat.le_of_ble_eq_true rfl)
  rw [lg_entry_eq]
  generalize (lg_sl ([.ref h0, .ref ht]) ++ List.replicate (3 - (lg_sl ([.ref h0, .ref ht])).length) Slot.unset).toArray = ls at hl ⊢
  have hl : lv_has ls 3 [(0, .ref h0), (1, .ref ht)] := hl
  refine lv_aload_n hx hb dX3_init_0 rfl (lv_at hl 0 rfl) ?_
  refine W.objInit hx hb hown (hts (.methodLink RX3 3 objectInit) (ri_in 118 (by decide +kernel) rfl)) (hts (.instanceMethod objectInit) (ri_in 51 (by decide +kernel) rfl)) (hts (.code objectInit ⟨#[0xb1]⟩ 1 none) (ri_in 52 (by decide +kernel) rfl)) rfl (by rw [hml]; exact hl.1) rfl dX3_init_1 (Nat.le_of_ble_eq_true rfl) (Nat.le_of_ble_eq_true rfl) ?_
  refine W.eq (g2 := F0 m 4 ls []) rfl ?_
  refine lv_aload_n hx hb dX3_init_4 rfl (lv_at hl 0 rfl) ?_
  refine lv_bipush (v := 24) hx hb dX3_init_5 (by decide) ?_
  refine va_newa (atype := .int) (ty := .int) (N' := 24) (a0 := (24, .inl (fun _ => 0))) hx hb (hts (.arrayClass .int) (ri_in 77 (by decide +kernel) rfl)) rfl hK hP hD hS hA (fun _ => rfl) (by decide) (by decide) (Nat.le_of_ble_eq_true rfl) (Nat.le_of_ble_eq_true rfl) (Nat.le_of_ble_eq_true rfl) dX3_init_7 (fun q7 c7 H hK hP hD hS => ?_)
  have hK : va_K (dC, dI) ri_cls [(c7, .int)] s := hK
  have hP : va_P (dC, dI) ri_cls [(h0, .inr (3, [.null, .null, .null, .null, .null, .null, .null, .null, .null, .int 0, .int 0, .int 0])), (q7, .inl (c7, 24, .inl (fun _ => 0)))] H := hP
  have hD : va_D A [(h0, .inr (3, [.null, .null, .null, .null, .null, .null, .null, .null, .null, .int 0, .int 0, .int 0])), (q7, .inl (c7, 24, .inl (fun _ => 0)))] := hD
  refine W.widen (k := 1) (n := 24) (by omega) (by omega) ?_
  refine va_putF (D := (dC, dI)) (ci := 3) (v := .ref q7) (ty := .array .int) (C := RX3) (T := TX3) (N := 12) hx hb hts (ri_lays (c := 3) rfl) tyX3 tyX3_ok nmX3 hown hK hP hD hS 0 rfl rfl 0 (by decide) (hts (.fieldLink RX3 9 "RoadsNotGoneBy$World" "to" "[I") (ri_in 119 (by decide +kernel) rfl)) (fun _ h9 => h9) rfl hin rfl (by decide +kernel) rfl rfl (Nat.le_of_ble_eq_true rfl) dX3_init_9 (fun H locs hP hD hS => ?_)
  have hP : va_P (dC, dI) ri_cls [(h0, .inr (3, [.ref q7, .null, .null, .null, .null, .null, .null, .null, .null, .int 0, .int 0, .int 0])), (q7, .inl (c7, 24, .inl (fun _ => 0)))] H := hP
  have hD : va_D A [(h0, .inr (3, [.ref q7, .null, .null, .null, .null, .null, .null, .null, .null, .int 0, .int 0, .int 0])), (q7, .inl (c7, 24, .inl (fun _ => 0)))] := hD
  refine lv_aload_n hx hb dX3_init_12 rfl (lv_at hl 0 rfl) ?_
  refine lv_bipush (v := 24) hx hb dX3_init_13 (by decide) ?_
  refine va_newa (atype := .int) (ty := .int) (N' := 24) (a0 := (24, .inl (fun _ => 0))) hx hb (hts (.arrayClass .int) (ri_in 77 (by decide +kernel) rfl)) rfl hK hP hD hS hA (fun _ => rfl) (by decide) (by decide) (Nat.le_of_ble_eq_true rfl) (Nat.le_of_ble_eq_true rfl) (Nat.le_of_ble_eq_true rfl) dX3_init_15 (fun q15 c15 H hK hP hD hS => ?_)
  have hK : va_K (dC, dI) ri_cls [(c7, .int), (c15, .int)] s := hK
  have hP : va_P (dC, dI) ri_cls [(h0, .inr (3, [.ref q7, .null, .null, .null, .null, .null, .null, .null, .null, .int 0, .int 0, .int 0])), (q7, .inl (c7, 24, .inl (fun _ => 0))), (q15, .inl (c15, 24, .inl (fun _ => 0)))] H := hP
  have hD : va_D A [(h0, .inr (3, [.ref q7, .null, .null, .null, .null, .null, .null, .null, .null, .int 0, .int 0, .int 0])), (q7, .inl (c7, 24, .inl (fun _ => 0))), (q15, .inl (c15, 24, .inl (fun _ => 0)))] := hD
  refine W.widen (k := 2) (n := 48) (by omega) (by omega) ?_
  refine va_putF (D := (dC, dI)) (ci := 3) (v := .ref q15) (ty := .array .int) (C := RX3) (T := TX3) (N := 12) hx hb hts (ri_lays (c := 3) rfl) tyX3 tyX3_ok nmX3 hown hK hP hD hS 0 rfl rfl 1 (by decide) (hts (.fieldLink RX3 15 "RoadsNotGoneBy$World" "jars" "[I") (ri_in 121 (by decide +kernel) rfl)) (fun _ h9 => h9) rfl hin rfl (by decide +kernel) rfl rfl (Nat.le_of_ble_eq_true rfl) dX3_init_17 (fun H locs hP hD hS => ?_)
  have hP : va_P (dC, dI) ri_cls [(h0, .inr (3, [.ref q7, .ref q15, .null, .null, .null, .null, .null, .null, .null, .int 0, .int 0, .int 0])), (q7, .inl (c7, 24, .inl (fun _ => 0))), (q15, .inl (c15, 24, .inl (fun _ => 0)))] H := hP
  have hD : va_D A [(h0, .inr (3, [.ref q7, .ref q15, .null, .null, .null, .null, .null, .null, .null, .int 0, .int 0, .int 0])), (q7, .inl (c7, 24, .inl (fun _ => 0))), (q15, .inl (c15, 24, .inl (fun _ => 0)))] := hD
  refine lv_aload_n hx hb dX3_init_20 rfl (lv_at hl 0 rfl) ?_
  refine lv_iconst (v := 5) hx hb dX3_init_21 (by decide) ?_
  refine va_newa (atype := .int) (ty := .int) (N' := 5) (a0 := (5, .inl (fun _ => 0))) hx hb (hts (.arrayClass .int) (ri_in 77 (by decide +kernel) rfl)) rfl hK hP hD hS hA (fun _ => rfl) (by decide) (by decide) (Nat.le_of_ble_eq_true rfl) (Nat.le_of_ble_eq_true rfl) (Nat.le_of_ble_eq_true rfl) dX3_init_22 (fun q22 c22 H hK hP hD hS => ?_)
  have hK : va_K (dC, dI) ri_cls [(c7, .int), (c15, .int), (c22, .int)] s := hK
  have hP : va_P (dC, dI) ri_cls [(h0, .inr (3, [.ref q7, .ref q15, .null, .null, .null, .null, .null, .null, .null, .int 0, .int 0, .int 0])), (q7, .inl (c7, 24, .inl (fun _ => 0))), (q15, .inl (c15, 24, .inl (fun _ => 0))), (q22, .inl (c22, 5, .inl (fun _ => 0)))] H := hP
  have hD : va_D A [(h0, .inr (3, [.ref q7, .ref q15, .null, .null, .null, .null, .null, .null, .null, .int 0, .int 0, .int 0])), (q7, .inl (c7, 24, .inl (fun _ => 0))), (q15, .inl (c15, 24, .inl (fun _ => 0))), (q22, .inl (c22, 5, .inl (fun _ => 0)))] := hD
  refine W.widen (k := 3) (n := 53) (by omega) (by omega) ?_
  refine va_putF (D := (dC, dI)) (ci := 3) (v := .ref q22) (ty := .array .int) (C := RX3) (T := TX3) (N := 12) hx hb hts (ri_lays (c := 3) rfl) tyX3 tyX3_ok nmX3 hown hK hP hD hS 0 rfl rfl 2 (by decide) (hts (.fieldLink RX3 18 "RoadsNotGoneBy$World" "kinds" "[I") (ri_in 123 (by decide +kernel) rfl)) (fun _ h9 => h9) rfl hin rfl (by decide +kernel) rfl rfl (Nat.le_of_ble_eq_true rfl) dX3_init_24 (fun H locs hP hD hS => ?_)
  have hP : va_P (dC, dI) ri_cls [(h0, .inr (3, [.ref q7, .ref q15, .ref q22, .null, .null, .null, .null, .null, .null, .int 0, .int 0, .int 0])), (q7, .inl (c7, 24, .inl (fun _ => 0))), (q15, .inl (c15, 24, .inl (fun _ => 0))), (q22, .inl (c22, 5, .inl (fun _ => 0)))] H := hP
  have hD : va_D A [(h0, .inr (3, [.ref q7, .ref q15, .ref q22, .null, .null, .null, .null, .null, .null, .int 0, .int 0, .int 0])), (q7, .inl (c7, 24, .inl (fun _ => 0))), (q15, .inl (c15, 24, .inl (fun _ => 0))), (q22, .inl (c22, 5, .inl (fun _ => 0)))] := hD
  refine lv_aload_n hx hb dX3_init_27 rfl (lv_at hl 0 rfl) ?_
  refine lv_iconst (v := 5) hx hb dX3_init_28 (by decide) ?_
  refine va_newa (atype := .int) (ty := .int) (N' := 5) (a0 := (5, .inl (fun _ => 0))) hx hb (hts (.arrayClass .int) (ri_in 77 (by decide +kernel) rfl)) rfl hK hP hD hS hA (fun _ => rfl) (by decide) (by decide) (Nat.le_of_ble_eq_true rfl) (Nat.le_of_ble_eq_true rfl) (Nat.le_of_ble_eq_true rfl) dX3_init_29 (fun q29 c29 H hK hP hD hS => ?_)
  have hK : va_K (dC, dI) ri_cls [(c7, .int), (c15, .int), (c22, .int), (c29, .int)] s := hK
  have hP : va_P (dC, dI) ri_cls [(h0, .inr (3, [.ref q7, .ref q15, .ref q22, .null, .null, .null, .null, .null, .null, .int 0, .int 0, .int 0])), (q7, .inl (c7, 24, .inl (fun _ => 0))), (q15, .inl (c15, 24, .inl (fun _ => 0))), (q22, .inl (c22, 5, .inl (fun _ => 0))), (q29, .inl (c29, 5, .inl (fun _ => 0)))] H := hP
  have hD : va_D A [(h0, .inr (3, [.ref q7, .ref q15, .ref q22, .null, .null, .null, .null, .null, .null, .int 0, .int 0, .int 0])), (q7, .inl (c7, 24, .inl (fun _ => 0))), (q15, .inl (c15, 24, .inl (fun _ => 0))), (q22, .inl (c22, 5, .inl (fun _ => 0))), (q29, .inl (c29, 5, .inl (fun _ => 0)))] := hD
  refine W.widen (k := 4) (n := 58) (by omega) (by omega) ?_
  refine va_putF (D := (dC, dI)) (ci := 3) (v := .ref q29) (ty := .array .int) (C := RX3) (T := TX3) (N := 12) hx hb hts (ri_lays (c := 3) rfl) tyX3 tyX3_ok nmX3 hown hK hP hD hS 0 rfl rfl 3 (by decide) (hts (.fieldLink RX3 21 "RoadsNotGoneBy$World" "numbers" "[I") (ri_in 125 (by decide +kernel) rfl)) (fun _ h9 => h9) rfl hin rfl (by decide +kernel) rfl rfl (Nat.le_of_ble_eq_true rfl) dX3_init_31 (fun H locs hP hD hS => ?_)
  have hP : va_P (dC, dI) ri_cls [(h0, .inr (3, [.ref q7, .ref q15, .ref q22, .ref q29, .null, .null, .null, .null, .null, .int 0, .int 0, .int 0])), (q7, .inl (c7, 24, .inl (fun _ => 0))), (q15, .inl (c15, 24, .inl (fun _ => 0))), (q22, .inl (c22, 5, .inl (fun _ => 0))), (q29, .inl (c29, 5, .inl (fun _ => 0)))] H := hP
  have hD : va_D A [(h0, .inr (3, [.ref q7, .ref q15, .ref q22, .ref q29, .null, .null, .null, .null, .null, .int 0, .int 0, .int 0])), (q7, .inl (c7, 24, .inl (fun _ => 0))), (q15, .inl (c15, 24, .inl (fun _ => 0))), (q22, .inl (c22, 5, .inl (fun _ => 0))), (q29, .inl (c29, 5, .inl (fun _ => 0)))] := hD
  refine lv_aload_n hx hb dX3_init_34 rfl (lv_at hl 0 rfl) ?_
  refine lv_iconst (v := 5) hx hb dX3_init_35 (by decide) ?_
  refine va_newa (atype := .int) (ty := .int) (N' := 5) (a0 := (5, .inl (fun _ => 0))) hx hb (hts (.arrayClass .int) (ri_in 77 (by decide +kernel) rfl)) rfl hK hP hD hS hA (fun _ => rfl) (by decide) (by decide) (Nat.le_of_ble_eq_true rfl) (Nat.le_of_ble_eq_true rfl) (Nat.le_of_ble_eq_true rfl) dX3_init_36 (fun q36 c36 H hK hP hD hS => ?_)
  have hK : va_K (dC, dI) ri_cls [(c7, .int), (c15, .int), (c22, .int), (c29, .int), (c36, .int)] s := hK
  have hP : va_P (dC, dI) ri_cls [(h0, .inr (3, [.ref q7, .ref q15, .ref q22, .ref q29, .null, .null, .null, .null, .null, .int 0, .int 0, .int 0])), (q7, .inl (c7, 24, .inl (fun _ => 0))), (q15, .inl (c15, 24, .inl (fun _ => 0))), (q22, .inl (c22, 5, .inl (fun _ => 0))), (q29, .inl (c29, 5, .inl (fun _ => 0))), (q36, .inl (c36, 5, .inl (fun _ => 0)))] H := hP
  have hD : va_D A [(h0, .inr (3, [.ref q7, .ref q15, .ref q22, .ref q29, .null, .null, .null, .null, .null, .int 0, .int 0, .int 0])), (q7, .inl (c7, 24, .inl (fun _ => 0))), (q15, .inl (c15, 24, .inl (fun _ => 0))), (q22, .inl (c22, 5, .inl (fun _ => 0))), (q29, .inl (c29, 5, .inl (fun _ => 0))), (q36, .inl (c36, 5, .inl (fun _ => 0)))] := hD
  refine W.widen (k := 5) (n := 63) (by omega) (by omega) ?_
  refine va_putF (D := (dC, dI)) (ci := 3) (v := .ref q36) (ty := .array .int) (C := RX3) (T := TX3) (N := 12) hx hb hts (ri_lays (c := 3) rfl) tyX3 tyX3_ok nmX3 hown hK hP hD hS 0 rfl rfl 4 (by decide) (hts (.fieldLink RX3 24 "RoadsNotGoneBy$World" "at" "[I") (ri_in 127 (by decide +kernel) rfl)) (fun _ h9 => h9) rfl hin rfl (by decide +kernel) rfl rfl (Nat.le_of_ble_eq_true rfl) dX3_init_38 (fun H locs hP hD hS => ?_)
  have hP : va_P (dC, dI) ri_cls [(h0, .inr (3, [.ref q7, .ref q15, .ref q22, .ref q29, .ref q36, .null, .null, .null, .null, .int 0, .int 0, .int 0])), (q7, .inl (c7, 24, .inl (fun _ => 0))), (q15, .inl (c15, 24, .inl (fun _ => 0))), (q22, .inl (c22, 5, .inl (fun _ => 0))), (q29, .inl (c29, 5, .inl (fun _ => 0))), (q36, .inl (c36, 5, .inl (fun _ => 0)))] H := hP
  have hD : va_D A [(h0, .inr (3, [.ref q7, .ref q15, .ref q22, .ref q29, .ref q36, .null, .null, .null, .null, .int 0, .int 0, .int 0])), (q7, .inl (c7, 24, .inl (fun _ => 0))), (q15, .inl (c15, 24, .inl (fun _ => 0))), (q22, .inl (c22, 5, .inl (fun _ => 0))), (q29, .inl (c29, 5, .inl (fun _ => 0))), (q36, .inl (c36, 5, .inl (fun _ => 0)))] := hD
  refine lv_aload_n hx hb dX3_init_41 rfl (lv_at hl 0 rfl) ?_
  refine lv_iconst (v := 5) hx hb dX3_init_42 (by decide) ?_
  refine va_newa (atype := .int) (ty := .int) (N' := 5) (a0 := (5, .inl (fun _ => 0))) hx hb (hts (.arrayClass .int) (ri_in 77 (by decide +kernel) rfl)) rfl hK hP hD hS hA (fun _ => rfl) (by decide) (by decide) (Nat.le_of_ble_eq_true rfl) (Nat.le_of_ble_eq_true rfl) (Nat.le_of_ble_eq_true rfl) dX3_init_43 (fun q43 c43 H hK hP hD hS => ?_)
  have hK : va_K (dC, dI) ri_cls [(c7, .int), (c15, .int), (c22, .int), (c29, .int), (c36, .int), (c43, .int)] s := hK
  have hP : va_P (dC, dI) ri_cls [(h0, .inr (3, [.ref q7, .ref q15, .ref q22, .ref q29, .ref q36, .null, .null, .null, .null, .int 0, .int 0, .int 0])), (q7, .inl (c7, 24, .inl (fun _ => 0))), (q15, .inl (c15, 24, .inl (fun _ => 0))), (q22, .inl (c22, 5, .inl (fun _ => 0))), (q29, .inl (c29, 5, .inl (fun _ => 0))), (q36, .inl (c36, 5, .inl (fun _ => 0))), (q43, .inl (c43, 5, .inl (fun _ => 0)))] H := hP
  have hD : va_D A [(h0, .inr (3, [.ref q7, .ref q15, .ref q22, .ref q29, .ref q36, .null, .null, .null, .null, .int 0, .int 0, .int 0])), (q7, .inl (c7, 24, .inl (fun _ => 0))), (q15, .inl (c15, 24, .inl (fun _ => 0))), (q22, .inl (c22, 5, .inl (fun _ => 0))), (q29, .inl (c29, 5, .inl (fun _ => 0))), (q36, .inl (c36, 5, .inl (fun _ => 0))), (q43, .inl (c43, 5, .inl (fun _ => 0)))] := hD
  refine W.widen (k := 6) (n := 68) (by omega) (by omega) ?_
  refine va_putF (D := (dC, dI)) (ci := 3) (v := .ref q43) (ty := .array .int) (C := RX3) (T := TX3) (N := 12) hx hb hts (ri_lays (c := 3) rfl) tyX3 tyX3_ok nmX3 hown hK hP hD hS 0 rfl rfl 5 (by decide) (hts (.fieldLink RX3 27 "RoadsNotGoneBy$World" "moods" "[I") (ri_in 129 (by decide +kernel) rfl)) (fun _ h9 => h9) rfl hin rfl (by decide +kernel) rfl rfl (Nat.le_of_ble_eq_true rfl) dX3_init_45 (fun H locs hP hD hS => ?_)
  have hP : va_P (dC, dI) ri_cls [(h0, .inr (3, [.ref q7, .ref q15, .ref q22, .ref q29, .ref q36, .ref q43, .null, .null, .null, .int 0, .int 0, .int 0])), (q7, .inl (c7, 24, .inl (fun _ => 0))), (q15, .inl (c15, 24, .inl (fun _ => 0))), (q22, .inl (c22, 5, .inl (fun _ => 0))), (q29, .inl (c29, 5, .inl (fun _ => 0))), (q36, .inl (c36, 5, .inl (fun _ => 0))), (q43, .inl (c43, 5, .inl (fun _ => 0)))] H := hP
  have hD : va_D A [(h0, .inr (3, [.ref q7, .ref q15, .ref q22, .ref q29, .ref q36, .ref q43, .null, .null, .null, .int 0, .int 0, .int 0])), (q7, .inl (c7, 24, .inl (fun _ => 0))), (q15, .inl (c15, 24, .inl (fun _ => 0))), (q22, .inl (c22, 5, .inl (fun _ => 0))), (q29, .inl (c29, 5, .inl (fun _ => 0))), (q36, .inl (c36, 5, .inl (fun _ => 0))), (q43, .inl (c43, 5, .inl (fun _ => 0)))] := hD
  refine lv_aload_n hx hb dX3_init_48 rfl (lv_at hl 0 rfl) ?_
  refine lv_iconst (v := 5) hx hb dX3_init_49 (by decide) ?_
  refine va_newa (atype := .int) (ty := .int) (N' := 5) (a0 := (5, .inl (fun _ => 0))) hx hb (hts (.arrayClass .int) (ri_in 77 (by decide +kernel) rfl)) rfl hK hP hD hS hA (fun _ => rfl) (by decide) (by decide) (Nat.le_of_ble_eq_true rfl) (Nat.le_of_ble_eq_true rfl) (Nat.le_of_ble_eq_true rfl) dX3_init_50 (fun q50 c50 H hK hP hD hS => ?_)
  have hK : va_K (dC, dI) ri_cls [(c7, .int), (c15, .int), (c22, .int), (c29, .int), (c36, .int), (c43, .int), (c50, .int)] s := hK
  have hP : va_P (dC, dI) ri_cls [(h0, .inr (3, [.ref q7, .ref q15, .ref q22, .ref q29, .ref q36, .ref q43, .null, .null, .null, .int 0, .int 0, .int 0])), (q7, .inl (c7, 24, .inl (fun _ => 0))), (q15, .inl (c15, 24, .inl (fun _ => 0))), (q22, .inl (c22, 5, .inl (fun _ => 0))), (q29, .inl (c29, 5, .inl (fun _ => 0))), (q36, .inl (c36, 5, .inl (fun _ => 0))), (q43, .inl (c43, 5, .inl (fun _ => 0))), (q50, .inl (c50, 5, .inl (fun _ => 0)))] H := hP
  have hD : va_D A [(h0, .inr (3, [.ref q7, .ref q15, .ref q22, .ref q29, .ref q36, .ref q43, .null, .null, .null, .int 0, .int 0, .int 0])), (q7, .inl (c7, 24, .inl (fun _ => 0))), (q15, .inl (c15, 24, .inl (fun _ => 0))), (q22, .inl (c22, 5, .inl (fun _ => 0))), (q29, .inl (c29, 5, .inl (fun _ => 0))), (q36, .inl (c36, 5, .inl (fun _ => 0))), (q43, .inl (c43, 5, .inl (fun _ => 0))), (q50, .inl (c50, 5, .inl (fun _ => 0)))] := hD
  refine W.widen (k := 7) (n := 73) (by omega) (by omega) ?_
  refine va_putF (D := (dC, dI)) (ci := 3) (v := .ref q50) (ty := .array .int) (C := RX3) (T := TX3) (N := 12) hx hb hts (ri_lays (c := 3) rfl) tyX3 tyX3_ok nmX3 hown hK hP hD hS 0 rfl rfl 6 (by decide) (hts (.fieldLink RX3 30 "RoadsNotGoneBy$World" "eaten" "[I") (ri_in 131 (by decide +kernel) rfl)) (fun _ h9 => h9) rfl hin rfl (by decide +kernel) rfl rfl (Nat.le_of_ble_eq_true rfl) dX3_init_52 (fun H locs hP hD hS => ?_)
  have hP : va_P (dC, dI) ri_cls [(h0, .inr (3, [.ref q7, .ref q15, .ref q22, .ref q29, .ref q36, .ref q43, .ref q50, .null, .null, .int 0, .int 0, .int 0])), (q7, .inl (c7, 24, .inl (fun _ => 0))), (q15, .inl (c15, 24, .inl (fun _ => 0))), (q22, .inl (c22, 5, .inl (fun _ => 0))), (q29, .inl (c29, 5, .inl (fun _ => 0))), (q36, .inl (c36, 5, .inl (fun _ => 0))), (q43, .inl (c43, 5, .inl (fun _ => 0))), (q50, .inl (c50, 5, .inl (fun _ => 0)))] H := hP
  have hD : va_D A [(h0, .inr (3, [.ref q7, .ref q15, .ref q22, .ref q29, .ref q36, .ref q43, .ref q50, .null, .null, .int 0, .int 0, .int 0])), (q7, .inl (c7, 24, .inl (fun _ => 0))), (q15, .inl (c15, 24, .inl (fun _ => 0))), (q22, .inl (c22, 5, .inl (fun _ => 0))), (q29, .inl (c29, 5, .inl (fun _ => 0))), (q36, .inl (c36, 5, .inl (fun _ => 0))), (q43, .inl (c43, 5, .inl (fun _ => 0))), (q50, .inl (c50, 5, .inl (fun _ => 0)))] := hD
  refine lv_aload_n hx hb dX3_init_55 rfl (lv_at hl 0 rfl) ?_
  refine lv_bipush (v := 6) hx hb dX3_init_56 (by decide) ?_
  refine va_newa (atype := .int) (ty := .int) (N' := 6) (a0 := (6, .inl (fun _ => 0))) hx hb (hts (.arrayClass .int) (ri_in 77 (by decide +kernel) rfl)) rfl hK hP hD hS hA (fun _ => rfl) (by decide) (by decide) (Nat.le_of_ble_eq_true rfl) (Nat.le_of_ble_eq_true rfl) (Nat.le_of_ble_eq_true rfl) dX3_init_58 (fun q58 c58 H hK hP hD hS => ?_)
  have hK : va_K (dC, dI) ri_cls [(c7, .int), (c15, .int), (c22, .int), (c29, .int), (c36, .int), (c43, .int), (c50, .int), (c58, .int)] s := hK
  have hP : va_P (dC, dI) ri_cls [(h0, .inr (3, [.ref q7, .ref q15, .ref q22, .ref q29, .ref q36, .ref q43, .ref q50, .null, .null, .int 0, .int 0, .int 0])), (q7, .inl (c7, 24, .inl (fun _ => 0))), (q15, .inl (c15, 24, .inl (fun _ => 0))), (q22, .inl (c22, 5, .inl (fun _ => 0))), (q29, .inl (c29, 5, .inl (fun _ => 0))), (q36, .inl (c36, 5, .inl (fun _ => 0))), (q43, .inl (c43, 5, .inl (fun _ => 0))), (q50, .inl (c50, 5, .inl (fun _ => 0))), (q58, .inl (c58, 6, .inl (fun _ => 0)))] H := hP
  have hD : va_D A [(h0, .inr (3, [.ref q7, .ref q15, .ref q22, .ref q29, .ref q36, .ref q43, .ref q50, .null, .null, .int 0, .int 0, .int 0])), (q7, .inl (c7, 24, .inl (fun _ => 0))), (q15, .inl (c15, 24, .inl (fun _ => 0))), (q22, .inl (c22, 5, .inl (fun _ => 0))), (q29, .inl (c29, 5, .inl (fun _ => 0))), (q36, .inl (c36, 5, .inl (fun _ => 0))), (q43, .inl (c43, 5, .inl (fun _ => 0))), (q50, .inl (c50, 5, .inl (fun _ => 0))), (q58, .inl (c58, 6, .inl (fun _ => 0)))] := hD
  refine W.widen (k := 8) (n := 79) (by omega) (by omega) ?_
  refine va_putF (D := (dC, dI)) (ci := 3) (v := .ref q58) (ty := .array .int) (C := RX3) (T := TX3) (N := 12) hx hb hts (ri_lays (c := 3) rfl) tyX3 tyX3_ok nmX3 hown hK hP hD hS 0 rfl rfl 7 (by decide) (hts (.fieldLink RX3 33 "RoadsNotGoneBy$World" "named" "[I") (ri_in 133 (by decide +kernel) rfl)) (fun _ h9 => h9) rfl hin rfl (by decide +kernel) rfl rfl (Nat.le_of_ble_eq_true rfl) dX3_init_60 (fun H locs hP hD hS => ?_)
  have hP : va_P (dC, dI) ri_cls [(h0, .inr (3, [.ref q7, .ref q15, .ref q22, .ref q29, .ref q36, .ref q43, .ref q50, .ref q58, .null, .int 0, .int 0, .int 0])), (q7, .inl (c7, 24, .inl (fun _ => 0))), (q15, .inl (c15, 24, .inl (fun _ => 0))), (q22, .inl (c22, 5, .inl (fun _ => 0))), (q29, .inl (c29, 5, .inl (fun _ => 0))), (q36, .inl (c36, 5, .inl (fun _ => 0))), (q43, .inl (c43, 5, .inl (fun _ => 0))), (q50, .inl (c50, 5, .inl (fun _ => 0))), (q58, .inl (c58, 6, .inl (fun _ => 0)))] H := hP
  have hD : va_D A [(h0, .inr (3, [.ref q7, .ref q15, .ref q22, .ref q29, .ref q36, .ref q43, .ref q50, .ref q58, .null, .int 0, .int 0, .int 0])), (q7, .inl (c7, 24, .inl (fun _ => 0))), (q15, .inl (c15, 24, .inl (fun _ => 0))), (q22, .inl (c22, 5, .inl (fun _ => 0))), (q29, .inl (c29, 5, .inl (fun _ => 0))), (q36, .inl (c36, 5, .inl (fun _ => 0))), (q43, .inl (c43, 5, .inl (fun _ => 0))), (q50, .inl (c50, 5, .inl (fun _ => 0))), (q58, .inl (c58, 6, .inl (fun _ => 0)))] := hD
  refine lv_aload_n hx hb dX3_init_63 rfl (lv_at hl 0 rfl) ?_
  refine lv_iconst (v := 0) hx hb dX3_init_64 (by decide) ?_
  refine va_put (D := (dC, dI)) (ci := 3) (v := .int (0)) (ty := .int) (C := RX3) (T := TX3) (N := 12) hx hb hts (ri_lays (c := 3) rfl) tyX3 tyX3_ok nmX3 hown hK hP hD hS 0 rfl rfl 9 (by decide) (hts (.fieldLink RX3 36 "RoadsNotGoneBy$World" "lives" "I") (ri_in 135 (by decide +kernel) rfl)) (fun _ h9 => h9) rfl (by decide +kernel) rfl rfl (Nat.le_of_ble_eq_true rfl) dX3_init_65 (fun H locs hP hD hS => ?_)
  have hP : va_P (dC, dI) ri_cls [(h0, .inr (3, [.ref q7, .ref q15, .ref q22, .ref q29, .ref q36, .ref q43, .ref q50, .ref q58, .null, .int (0), .int 0, .int 0])), (q7, .inl (c7, 24, .inl (fun _ => 0))), (q15, .inl (c15, 24, .inl (fun _ => 0))), (q22, .inl (c22, 5, .inl (fun _ => 0))), (q29, .inl (c29, 5, .inl (fun _ => 0))), (q36, .inl (c36, 5, .inl (fun _ => 0))), (q43, .inl (c43, 5, .inl (fun _ => 0))), (q50, .inl (c50, 5, .inl (fun _ => 0))), (q58, .inl (c58, 6, .inl (fun _ => 0)))] H := hP
  have hD : va_D A [(h0, .inr (3, [.ref q7, .ref q15, .ref q22, .ref q29, .ref q36, .ref q43, .ref q50, .ref q58, .null, .int (0), .int 0, .int 0])), (q7, .inl (c7, 24, .inl (fun _ => 0))), (q15, .inl (c15, 24, .inl (fun _ => 0))), (q22, .inl (c22, 5, .inl (fun _ => 0))), (q29, .inl (c29, 5, .inl (fun _ => 0))), (q36, .inl (c36, 5, .inl (fun _ => 0))), (q43, .inl (c43, 5, .inl (fun _ => 0))), (q50, .inl (c50, 5, .inl (fun _ => 0))), (q58, .inl (c58, 6, .inl (fun _ => 0)))] := hD
  refine lv_aload_n hx hb dX3_init_68 rfl (lv_at hl 0 rfl) ?_
  refine lv_iconst (v := 0) hx hb dX3_init_69 (by decide) ?_
  refine va_put (D := (dC, dI)) (ci := 3) (v := .int (0)) (ty := .int) (C := RX3) (T := TX3) (N := 12) hx hb hts (ri_lays (c := 3) rfl) tyX3 tyX3_ok nmX3 hown hK hP hD hS 0 rfl rfl 10 (by decide) (hts (.fieldLink RX3 40 "RoadsNotGoneBy$World" "year" "I") (ri_in 137 (by decide +kernel) rfl)) (fun _ h9 => h9) rfl (by decide +kernel) rfl rfl (Nat.le_of_ble_eq_true rfl) dX3_init_70 (fun H locs hP hD hS => ?_)
  have hP : va_P (dC, dI) ri_cls [(h0, .inr (3, [.ref q7, .ref q15, .ref q22, .ref q29, .ref q36, .ref q43, .ref q50, .ref q58, .null, .int (0), .int (0), .int 0])), (q7, .inl (c7, 24, .inl (fun _ => 0))), (q15, .inl (c15, 24, .inl (fun _ => 0))), (q22, .inl (c22, 5, .inl (fun _ => 0))), (q29, .inl (c29, 5, .inl (fun _ => 0))), (q36, .inl (c36, 5, .inl (fun _ => 0))), (q43, .inl (c43, 5, .inl (fun _ => 0))), (q50, .inl (c50, 5, .inl (fun _ => 0))), (q58, .inl (c58, 6, .inl (fun _ => 0)))] H := hP
  have hD : va_D A [(h0, .inr (3, [.ref q7, .ref q15, .ref q22, .ref q29, .ref q36, .ref q43, .ref q50, .ref q58, .null, .int (0), .int (0), .int 0])), (q7, .inl (c7, 24, .inl (fun _ => 0))), (q15, .inl (c15, 24, .inl (fun _ => 0))), (q22, .inl (c22, 5, .inl (fun _ => 0))), (q29, .inl (c29, 5, .inl (fun _ => 0))), (q36, .inl (c36, 5, .inl (fun _ => 0))), (q43, .inl (c43, 5, .inl (fun _ => 0))), (q50, .inl (c50, 5, .inl (fun _ => 0))), (q58, .inl (c58, 6, .inl (fun _ => 0)))] := hD
  refine lv_aload_n hx hb dX3_init_73 rfl (lv_at hl 0 rfl) ?_
  refine lv_iconst (v := 0) hx hb dX3_init_74 (by decide) ?_
  refine va_put (D := (dC, dI)) (ci := 3) (v := .int (0)) (ty := .int) (C := RX3) (T := TX3) (N := 12) hx hb hts (ri_lays (c := 3) rfl) tyX3 tyX3_ok nmX3 hown hK hP hD hS 0 rfl rfl 11 (by decide) (hts (.fieldLink RX3 43 "RoadsNotGoneBy$World" "rule" "I") (ri_in 139 (by decide +kernel) rfl)) (fun _ h9 => h9) rfl (by decide +kernel) rfl rfl (Nat.le_of_ble_eq_true rfl) dX3_init_75 (fun H locs hP hD hS => ?_)
  have hP : va_P (dC, dI) ri_cls [(h0, .inr (3, [.ref q7, .ref q15, .ref q22, .ref q29, .ref q36, .ref q43, .ref q50, .ref q58, .null, .int (0), .int (0), .int (0)])), (q7, .inl (c7, 24, .inl (fun _ => 0))), (q15, .inl (c15, 24, .inl (fun _ => 0))), (q22, .inl (c22, 5, .inl (fun _ => 0))), (q29, .inl (c29, 5, .inl (fun _ => 0))), (q36, .inl (c36, 5, .inl (fun _ => 0))), (q43, .inl (c43, 5, .inl (fun _ => 0))), (q50, .inl (c50, 5, .inl (fun _ => 0))), (q58, .inl (c58, 6, .inl (fun _ => 0)))] H := hP
  have hD : va_D A [(h0, .inr (3, [.ref q7, .ref q15, .ref q22, .ref q29, .ref q36, .ref q43, .ref q50, .ref q58, .null, .int (0), .int (0), .int (0)])), (q7, .inl (c7, 24, .inl (fun _ => 0))), (q15, .inl (c15, 24, .inl (fun _ => 0))), (q22, .inl (c22, 5, .inl (fun _ => 0))), (q29, .inl (c29, 5, .inl (fun _ => 0))), (q36, .inl (c36, 5, .inl (fun _ => 0))), (q43, .inl (c43, 5, .inl (fun _ => 0))), (q50, .inl (c50, 5, .inl (fun _ => 0))), (q58, .inl (c58, 6, .inl (fun _ => 0)))] := hD
  refine lv_aload_n hx hb dX3_init_78 rfl (lv_at hl 0 rfl) ?_
  refine lv_aload_n hx hb dX3_init_79 rfl (lv_at hl 1 rfl) ?_
  refine va_putF (D := (dC, dI)) (ci := 3) (v := .ref ht) (ty := .object "RoadsNotGoneBy$Texts") (C := RX3) (T := TX3) (N := 12) hx hb hts (ri_lays (c := 3) rfl) tyX3 tyX3_ok nmX3 hown hK hP hD hS 0 rfl rfl 8 (by decide) (hts (.fieldLink RX3 46 "RoadsNotGoneBy$World" "texts" "LRoadsNotGoneBy$Texts;") (ri_in 134 (by decide +kernel) rfl)) (fun _ h9 => h9) rfl hin rfl (by decide +kernel) rfl rfl (Nat.le_of_ble_eq_true rfl) dX3_init_80 (fun H locs hP hD hS => ?_)
  have hP : va_P (dC, dI) ri_cls [(h0, .inr (3, [.ref q7, .ref q15, .ref q22, .ref q29, .ref q36, .ref q43, .ref q50, .ref q58, .ref ht, .int (0), .int (0), .int (0)])), (q7, .inl (c7, 24, .inl (fun _ => 0))), (q15, .inl (c15, 24, .inl (fun _ => 0))), (q22, .inl (c22, 5, .inl (fun _ => 0))), (q29, .inl (c29, 5, .inl (fun _ => 0))), (q36, .inl (c36, 5, .inl (fun _ => 0))), (q43, .inl (c43, 5, .inl (fun _ => 0))), (q50, .inl (c50, 5, .inl (fun _ => 0))), (q58, .inl (c58, 6, .inl (fun _ => 0)))] H := hP
  have hD : va_D A [(h0, .inr (3, [.ref q7, .ref q15, .ref q22, .ref q29, .ref q36, .ref q43, .ref q50, .ref q58, .ref ht, .int (0), .int (0), .int (0)])), (q7, .inl (c7, 24, .inl (fun _ => 0))), (q15, .inl (c15, 24, .inl (fun _ => 0))), (q22, .inl (c22, 5, .inl (fun _ => 0))), (q29, .inl (c29, 5, .inl (fun _ => 0))), (q36, .inl (c36, 5, .inl (fun _ => 0))), (q43, .inl (c43, 5, .inl (fun _ => 0))), (q50, .inl (c50, 5, .inl (fun _ => 0))), (q58, .inl (c58, 6, .inl (fun _ => 0)))] := hD
  refine lv_iconst (v := 0) hx hb dX3_init_83 (by decide) ?_
  refine lv_istore_n hx hb dX3_init_84 rfl hl (by decide) rfl (fun ls hl => ?_)
  refine lpX3_init (D := (dC, dI)) (ht := ht) (tys := [(c7, .int), (c15, .int), (c22, .int), (c29, .int), (c36, .int), (c43, .int), (c50, .int), (c58, .int)]) (ws := fun f => [(h0, .inr (3, [.ref q7, .ref q15, .ref q22, .ref q29, .ref q36, .ref q43, .ref q50, .ref q58, .ref ht, .int (0), .int (0), .int (0)])), (q7, .inl (c7, 24, .inl f)), (q15, .inl (c15, 24, .inl (fun _ => 0))), (q22, .inl (c22, 5, .inl (fun _ => 0))), (q29, .inl (c29, 5, .inl (fun _ => 0))), (q36, .inl (c36, 5, .inl (fun _ => 0))), (q43, .inl (c43, 5, .inl (fun _ => 0))), (q50, .inl (c50, 5, .inl (fun _ => 0))), (q58, .inl (c58, 6, .inl (fun _ => 0)))]) (h0 := h0) (qa := q7) (pa := 1) (ta := 0) hx hb hts hown hK (fun _ => rfl) rfl (fun _ => rfl) rfl (fun _ _ => rfl) (fun H locs ls hP hD hS hl => ?_) 24 0 rfl H locs ls hP hD hS hl
  exact W.vret hx hb hr (fun t ht hW => ⟨⟨(), rfl, trivial, q7, q15, q22, q29, q36, q43, q50, q58, c7, c15, c22, c29, c36, c43, c50, c58, by rw [ht]; exact hP, va_K.moved hW.alike hK, hD⟩, hS.F ht⟩) hS.2.2 dX3_init_118
