/-! SOUND, 6: every instruction; then every run -/
section FIVE
variable {p : Program} {l : Launch} {e : Env} {R : Room} {s : State} {m : MethodId} {args : Array Value} {below : List Frame} {meth : Method} {c : Code} {cells slots : Nat} {Q : State → Prop}
variable {t : ri_MT} {mi : Nat} {D : va_G} {tys : List (ClassId × FieldType)} {ad : Nat → Nat} {cA : Nat → ClassId} {fz : Value} {E : ri_E} {A : Nat → Prop}
variable {pc pc' : Nat} {L : List (Option Value)} {st : List Value} {S : ri_H} {x : (ri_F × ri_H) ⊕ ((Bool × (ri_F × ri_H) × (ri_F × ri_H)) ⊕ ((Nat × List Value × ri_F × ri_H) ⊕ (Nat × Option Value × ri_H)))}
theorem ri_cok1 {i : Instr} {ln ml : Nat} {v : Value} {pc : Nat} (h : decide (ln = ri_ilen i) = true) : ln = ri_ilen i := of_decide_eq_true h
theorem rs_nx {pc' : Nat} {st' : List Value} (hr : ri_nx mi pc' L st' S = some x) (kx : ri_Kx l R (ri_Wf p l e R s m args below meth c cells slots Q) m t mi D tys ad cA fz E A s.heap pc x) (row : ∀ (H : Heap) (locs : List Loc) (ls : Array Slot), ri_lr ad fz ls (ri_ml0 t) L → W p l e R s m args below meth c H locs cells slots Q (F0 m pc' ls (st'.map (ri_cv ad fz))) → W p l e R s m args below meth c H locs cells slots Q (F0 m pc ls (st.map (ri_cv ad fz)))) : ri_T (ri_Wf p l e R s m args below meth c cells slots Q) m mi (ri_ml0 t) D ad cA fz A s.heap (mi, pc, L, st) S := by
  cases hr
  exact ⟨rfl, fun H locs ls hP hS hl => row H locs ls hl ((kx rfl).2 H locs ls hP hS hl)⟩
set_option maxHeartbeats 4000000 in
theorem rs_ex (cx : ri_Cx p s m args c t D tys ad fz E A) (ha : ri_Ad ad cA fz tys) (ht : ri_mt mi = some t) (hmi : mi ≠ 1000000) (hcs : cells ≤ R.cells ∧ slots ≤ R.slots) (hR : 1 ≤ R.frames ∧ 64 ≤ R.locals) {ln : Nat} {v : Value} {i : Instr} (hd : decode (ri_b t) pc = .ok (i, ln)) (hc : ri_cok i ln v pc (ri_ml0 t) = true) (hr : ri_ex E (ri_mcl t) mi pc ln v L st S i = some x) (kx : ri_Kx l R (ri_Wf p l e R s m args below meth c cells slots Q) m t mi D tys ad cA fz E A s.heap pc x) : ri_T (ri_Wf p l e R s m args below meth c cells slots Q) m mi (ri_ml0 t) D ad cA fz A s.heap (mi, pc, L, st) S := by
  have cx0 := cx
  have ha0 := ha
  obtain ⟨hx, hb, hml, hown, hts, hEF, hA⟩ := cx
  obtain ⟨hI, hz, hTy⟩ := ha
  cases i with
  | aconst_null =>
    obtain rfl : ln = 1 := of_decide_eq_true hc
    exact rs_nx hr kx (fun H locs ls hl k => lv_null hx hb hd k)
  | iconst n =>
    simp only [ri_cok, Bool.and_eq_true, decide_eq_true_eq] at hc
    obtain ⟨rfl, rfl⟩ := hc
    exact rs_nx hr kx (fun H locs ls hl k => lv_iconst hx hb hd rfl k)
  | bipush n =>
    simp only [ri_cok, Bool.and_eq_true, decide_eq_true_eq] at hc
    obtain ⟨rfl, rfl⟩ := hc
    exact rs_nx hr kx (fun H locs ls hl k => lv_bipush hx hb hd rfl k)
  | sipush n =>
    simp only [ri_cok, Bool.and_eq_true, decide_eq_true_eq] at hc
    obtain ⟨rfl, rfl⟩ := hc
    exact rs_nx hr kx (fun H locs ls hl k => lv_sipush hx hb hd rfl k)
  | lconst n =>
    obtain rfl : ln = 1 := of_decide_eq_true hc
    exact rs_nx hr kx (fun H locs ls hl k => lv_lconst hx hb hd rfl k)
  | iload i =>
    obtain rfl : ln = 2 := of_decide_eq_true hc
    refine rs_ld hr kx (fun w H locs ls hw hP hS hl k => ?_)
    unfold ri_ildv at hw
    split at hw
    · rename_i y hg
      cases hw
      exact lv_iload hx hb hd (hl.2.2.2 _ _ hg) k
    · cases hw
  | iload_n i =>
    obtain rfl : ln = 1 := of_decide_eq_true hc
    refine rs_ld hr kx (fun w H locs ls hw hP hS hl k => ?_)
    unfold ri_ildv at hw
    split at hw
    · rename_i y hg
      cases hw
      exact lv_iload_n hx hb hd rfl (hl.2.2.2 _ _ hg) k
    · cases hw
  | lload i =>
    obtain rfl : ln = 2 := of_decide_eq_true hc
    refine rs_ld hr kx (fun w H locs ls hw hP hS hl k => ?_)
    unfold ri_lldv at hw
    split at hw
    · rename_i y hg
      cases hw
      exact lv_lload hx hb hd (hl.2.2.2 _ _ hg) k
    · cases hw
  | lload_n i =>
    obtain rfl : ln = 1 := of_decide_eq_true hc
    refine rs_ld hr kx (fun w H locs ls hw hP hS hl k => ?_)
    unfold ri_lldv at hw
    split at hw
    · rename_i y hg
      cases hw
      exact lv_lload_n hx hb hd rfl (hl.2.2.2 _ _ hg) k
    · cases hw
  | aload i =>
    obtain rfl : ln = 2 := of_decide_eq_true hc
    refine rs_ld hr kx (fun w H locs ls hw hP hS hl k => ?_)
    unfold ri_aldv at hw
    split at hw
    · rename_i q hg
      cases hk : Nat.beq q 4000 with
      | true => rw [hk] at hw; cases hw
      | false =>
        rw [hk] at hw
        cases hw
        rw [ri_cv_ne hk] at k
        exact lv_aload hx hb hd (by rw [hl.2.2.2 _ _ hg, ri_cv_ne hk]) k
    · rename_i hg
      cases hw
      exact lv_aloadN hx hb hd (hl.2.2.2 _ _ hg) k
    · cases hw
  | aload_n i =>
    obtain rfl : ln = 1 := of_decide_eq_true hc
    refine rs_ld hr kx (fun w H locs ls hw hP hS hl k => ?_)
    unfold ri_aldv at hw
    split at hw
    · rename_i q hg
      cases hk : Nat.beq q 4000 with
      | true => rw [hk] at hw; cases hw
      | false =>
        rw [hk] at hw
        cases hw
        rw [ri_cv_ne hk] at k
        exact lv_aload_n hx hb hd rfl (by rw [hl.2.2.2 _ _ hg, ri_cv_ne hk]) k
    · rename_i hg
      cases hw
      exact lv_aload_nN hx hb hd rfl (hl.2.2.2 _ _ hg) k
    · cases hw
  | istore i =>
    simp only [ri_cok, Bool.and_eq_true, decide_eq_true_eq] at hc
    obtain ⟨rfl, hlt⟩ := hc
    exact rs_ist hz hr kx (fun y rest H locs ls h k => lv_istore hx hb hd h hlt rfl k)
  | istore_n i =>
    simp only [ri_cok, Bool.and_eq_true, decide_eq_true_eq] at hc
    obtain ⟨rfl, hlt⟩ := hc
    exact rs_ist hz hr kx (fun y rest H locs ls h k => lv_istore_n hx hb hd rfl h hlt rfl k)
  | lstore i =>
    simp only [ri_cok, Bool.and_eq_true, decide_eq_true_eq] at hc
    obtain ⟨rfl, hlt⟩ := hc
    exact rs_lst hz hr kx (fun y rest H locs ls h k => lv_lstore hx hb hd h hlt rfl k)
  | lstore_n i =>
    simp only [ri_cok, Bool.and_eq_true, decide_eq_true_eq] at hc
    obtain ⟨rfl, hlt⟩ := hc
    exact rs_lst hz hr kx (fun y rest H locs ls h k => lv_lstore_n hx hb hd rfl h hlt rfl k)
  | astore i =>
    simp only [ri_cok, Bool.and_eq_true, decide_eq_true_eq] at hc
    obtain ⟨rfl, hlt⟩ := hc
    exact rs_ast hz hr kx (fun a rest H locs ls h k => lv_astore hx hb hd h hlt rfl k) (fun rest H locs ls h k => lv_astoreN hx hb hd h hlt rfl k)
  | astore_n i =>
    simp only [ri_cok, Bool.and_eq_true, decide_eq_true_eq] at hc
    obtain ⟨rfl, hlt⟩ := hc
    exact rs_ast hz hr kx (fun a rest H locs ls h k => lv_astore_n hx hb hd rfl h hlt rfl k) (fun rest H locs ls h k => lv_astore_nN hx hb hd rfl h hlt rfl k)
  | iinc i n =>
    simp only [ri_cok, Bool.and_eq_true, decide_eq_true_eq] at hc
    obtain ⟨⟨rfl, rfl⟩, hlt⟩ := hc
    refine rs_iinc hz hr kx (fun n2 y H locs ls hw hg h k => ?_)
    cases hw
    have hmem : (i, Value.int y) ∈ ri_ents ad fz (ri_ml0 t) L := List.mem_filterMap.mpr ⟨i, List.mem_range.mpr hlt, by rw [hg]; rfl⟩
    obtain ⟨k0, hk0⟩ := List.getElem?_of_mem hmem
    exact lv_iinc hx hb hd h hk0 rfl hlt rfl k
  | iadd =>
    obtain rfl : ln = 1 := of_decide_eq_true hc
    exact rs_i2 hr kx (fun x y rest H locs ls k => lv_iadd hx hb hd k)
  | isub =>
    obtain rfl : ln = 1 := of_decide_eq_true hc
    exact rs_i2 hr kx (fun x y rest H locs ls k => lv_isub hx hb hd k)
  | imul =>
    obtain rfl : ln = 1 := of_decide_eq_true hc
    exact rs_i2 hr kx (fun x y rest H locs ls k => lv_imul hx hb hd k)
  | iand =>
    obtain rfl : ln = 1 := of_decide_eq_true hc
    exact rs_i2 hr kx (fun x y rest H locs ls k => lv_iand hx hb hd k)
  | ior =>
    obtain rfl : ln = 1 := of_decide_eq_true hc
    exact rs_i2 hr kx (fun x y rest H locs ls k => lv_ior hx hb hd k)
  | ixor =>
    obtain rfl : ln = 1 := of_decide_eq_true hc
    exact rs_i2 hr kx (fun x y rest H locs ls k => lv_ixor hx hb hd k)
  | ishl =>
    obtain rfl : ln = 1 := of_decide_eq_true hc
    exact rs_i2 hr kx (fun x y rest H locs ls k => lv_ishl hx hb hd k)
  | ishr =>
    obtain rfl : ln = 1 := of_decide_eq_true hc
    exact rs_i2 hr kx (fun x y rest H locs ls k => lv_ishr hx hb hd k)
  | iushr =>
    obtain rfl : ln = 1 := of_decide_eq_true hc
    exact rs_i2 hr kx (fun x y rest H locs ls k => lv_iushr hx hb hd rfl k)
  | ineg =>
    obtain rfl : ln = 1 := of_decide_eq_true hc
    exact rs_i1 hr kx (fun x rest H locs ls k => lv_ineg hx hb hd k)
  | i2b =>
    obtain rfl : ln = 1 := of_decide_eq_true hc
    exact rs_i1 hr kx (fun x rest H locs ls k => lv_i2b hx hb hd rfl k)
  | i2s =>
    obtain rfl : ln = 1 := of_decide_eq_true hc
    exact rs_i1 hr kx (fun x rest H locs ls k => lv_i2s hx hb hd rfl k)
  | i2c =>
    obtain rfl : ln = 1 := of_decide_eq_true hc
    exact rs_i1 hr kx (fun x rest H locs ls k => lv_i2c hx hb hd rfl k)
  | idiv =>
    obtain rfl : ln = 1 := of_decide_eq_true hc
    exact rs_i2g hmi hr kx (fun x y rest H locs ls hne k => lv_idiv hx hb hd hne k)
  | irem =>
    obtain rfl : ln = 1 := of_decide_eq_true hc
    exact rs_i2g hmi hr kx (fun x y rest H locs ls hne k => lv_irem hx hb hd hne k)
  | ladd =>
    obtain rfl : ln = 1 := of_decide_eq_true hc
    exact rs_l2 hr kx (fun x y rest H locs ls k => lv_ladd hx hb hd k)
  | lsub =>
    obtain rfl : ln = 1 := of_decide_eq_true hc
    exact rs_l2 hr kx (fun x y rest H locs ls k => lv_lsub hx hb hd k)
  | lmul =>
    obtain rfl : ln = 1 := of_decide_eq_true hc
    exact rs_l2 hr kx (fun x y rest H locs ls k => lv_lmul hx hb hd k)
  | ldiv =>
    obtain rfl : ln = 1 := of_decide_eq_true hc
    exact rs_l2g hmi hr kx (fun x y rest H locs ls hne k => lv_ldiv hx hb hd hne k)
  | lrem =>
    obtain rfl : ln = 1 := of_decide_eq_true hc
    exact rs_l2g hmi hr kx (fun x y rest H locs ls hne k => lv_lrem hx hb hd hne k)
  | lshl =>
    obtain rfl : ln = 1 := of_decide_eq_true hc
    unfold ri_ex at hr
    dsimp only at hr
    split at hr
    · cases hr
      exact ⟨rfl, fun H locs ls hP hS hl => lv_lshl hx hb hd rfl ((kx rfl).2 H locs ls hP hS hl)⟩
    · cases hr
  | lcmp =>
    obtain rfl : ln = 1 := of_decide_eq_true hc
    unfold ri_ex at hr
    dsimp only at hr
    split at hr
    · cases hr
      exact ⟨rfl, fun H locs ls hP hS hl => W.lcmp hx hb hd ((kx rfl).2 H locs ls hP hS hl)⟩
    · cases hr
  | i2l =>
    obtain rfl : ln = 1 := of_decide_eq_true hc
    unfold ri_ex at hr
    dsimp only at hr
    split at hr
    · cases hr
      exact ⟨rfl, fun H locs ls hP hS hl => lv_i2l hx hb hd rfl ((kx rfl).2 H locs ls hP hS hl)⟩
    · cases hr
  | l2i =>
    obtain rfl : ln = 1 := of_decide_eq_true hc
    unfold ri_ex at hr
    dsimp only at hr
    split at hr
    · cases hr
      exact ⟨rfl, fun H locs ls hP hS hl => lv_l2i hx hb hd rfl ((kx rfl).2 H locs ls hP hS hl)⟩
    · cases hr
  | dup =>
    obtain rfl : ln = 1 := of_decide_eq_true hc
    exact rs_dup hz hr kx (fun v rest H locs ls h k => lv_dup hx hb hd h k)
  | dup2 =>
    obtain rfl : ln = 1 := of_decide_eq_true hc
    exact rs_dup2 hz hr kx (fun v w rest H locs ls h h2 k => lv_dup2_11 hx hb hd h h2 k)
  | pop =>
    obtain rfl : ln = 1 := of_decide_eq_true hc
    exact rs_pop hz hr kx (fun v rest H locs ls h k => lv_pop hx hb hd h k)
  | goto o =>
    simp only [ri_cok, Bool.and_eq_true, decide_eq_true_eq] at hc
    obtain ⟨rfl, hc⟩ := hc
    refine rs_jump hr kx (fun tg H locs ls hw k => ?_)
    subst hw
    exact lv_goto hx hb hd (of_decide_eq_true hc) k
  | ifCond cd o =>
    simp only [ri_cok, Bool.and_eq_true, decide_eq_true_eq] at hc
    obtain ⟨rfl, hc⟩ := hc
    refine rs_if0 hr kx (fun tg y rest H locs ls hw k1 k2 => ?_)
    subst hw
    have hc : (pc : Int) + o = (tg : Int) := of_decide_eq_true hc
    cases cd with
    | eq => exact lv_if_eq hx hb hd hc (fun h => k1 (decide_eq_true h)) (fun h => k2 (decide_eq_false h))
    | ne => exact lv_if_ne hx hb hd hc (fun h => k1 (decide_eq_true h)) (fun h => k2 (decide_eq_false (fun q => q h)))
    | lt => exact lv_if_lt hx hb hd hc (fun h => k1 (decide_eq_true h)) (fun h => k2 (decide_eq_false h))
    | ge => exact lv_if_ge hx hb hd hc (fun h => k1 (decide_eq_true h)) (fun h => k2 (decide_eq_false h))
    | gt => exact lv_if_gt hx hb hd hc (fun h => k1 (decide_eq_true h)) (fun h => k2 (decide_eq_false h))
    | le => exact lv_if_le hx hb hd hc (fun h => k1 (decide_eq_true h)) (fun h => k2 (decide_eq_false h))
  | if_icmp cd o =>
    simp only [ri_cok, Bool.and_eq_true, decide_eq_true_eq] at hc
    obtain ⟨rfl, hc⟩ := hc
    refine rs_if2 hr kx (fun tg y z rest H locs ls hw k1 k2 => ?_)
    subst hw
    have hc : (pc : Int) + o = (tg : Int) := of_decide_eq_true hc
    cases cd with
    | eq => exact lv_icmp_eq hx hb hd hc (fun h => k1 (decide_eq_true h)) (fun h => k2 (decide_eq_false h))
    | ne => exact lv_icmp_ne hx hb hd hc (fun h => k1 (decide_eq_true h)) (fun h => k2 (decide_eq_false (fun q => q h)))
    | lt => exact lv_icmp_lt hx hb hd hc (fun h => k1 (decide_eq_true h)) (fun h => k2 (decide_eq_false h))
    | ge => exact lv_icmp_ge hx hb hd hc (fun h => k1 (decide_eq_true h)) (fun h => k2 (decide_eq_false h))
    | gt => exact lv_icmp_gt hx hb hd hc (fun h => k1 (decide_eq_true h)) (fun h => k2 (decide_eq_false h))
    | le => exact lv_icmp_le hx hb hd hc (fun h => k1 (decide_eq_true h)) (fun h => k2 (decide_eq_false h))
  | ifnull o =>
    simp only [ri_cok, Bool.and_eq_true, decide_eq_true_eq] at hc
    obtain ⟨rfl, hc⟩ := hc
    refine rs_ifn hr kx (fun tg a rest H locs ls hw k => lv_ifnull hx hb hd k) (fun tg rest H locs ls hw k => ?_)
    subst hw
    exact lv_ifnullN hx hb hd (of_decide_eq_true hc) k
  | ifnonnull o =>
    simp only [ri_cok, Bool.and_eq_true, decide_eq_true_eq] at hc
    obtain ⟨rfl, hc⟩ := hc
    refine rs_ifnn hr kx (fun tg a rest H locs ls hw k => ?_) (fun tg rest H locs ls hw k => lv_ifnonnullN hx hb hd k)
    subst hw
    exact lv_ifnonnull hx hb hd (of_decide_eq_true hc) k
  | tableswitch d lo hi offs =>
    refine rs_sw hr kx (fun y rest H locs ls hok k => ?_)
    simp only [ri_swok, Bool.and_eq_true, decide_eq_true_eq] at hok
    obtain ⟨⟨h1, h2⟩, h3⟩ := hok
    unfold ri_tgt at k
    by_cases h : y.toInt < lo ∨ hi < y.toInt
    · rw [if_pos h] at k
      exact lv_tableOut hx hb hd h (tgt := ((pc : Int) + d).toNat) (by omega) k
    · rw [if_neg h] at k
      have hlo : ¬ y.toInt < lo := fun z => h (Or.inl z)
      have hhi : ¬ hi < y.toInt := fun z => h (Or.inr z)
      have hlen : (y.toInt - lo).toNat < offs.toList.length := by omega
      have hget : offs[(y.toInt - lo).toNat]? = some (offs.toList.getD (y.toInt - lo).toNat 0) := by
        rw [← Array.getElem?_toList, List.getD_eq_getElem?_getD, List.getElem?_eq_getElem hlen]
        rfl
      have hmem : offs.toList.getD (y.toInt - lo).toNat 0 ∈ offs.toList := by
        rw [List.getD_eq_getElem?_getD, List.getElem?_eq_getElem hlen]
        exact List.getElem_mem hlen
      have h4 := of_decide_eq_true (List.all_eq_true.mp h3 _ hmem)
      exact lv_tableIn hx hb hd hlo hhi hget (tgt := ((pc : Int) + offs.toList.getD (y.toInt - lo).toNat 0).toNat) (by omega) k
  | ldc i =>
    obtain rfl : ln = 2 := of_decide_eq_true hc
    exact rs_ldc cx0 ha0 ht hd hr kx
  | ldc_w i =>
    obtain rfl : ln = 3 := of_decide_eq_true hc
    exact rs_ldcw cx0 ha0 ht hd hr kx
  | ldc2_w i =>
    obtain rfl : ln = 3 := of_decide_eq_true hc
    exact rs_ldc2 cx0 ha0 ht hd hr kx
  | getfield i =>
    obtain rfl : ln = 3 := of_decide_eq_true hc
    exact rs_getf cx0 ha0 ht hd hr kx
  | putfield i =>
    obtain rfl : ln = 3 := of_decide_eq_true hc
    exact rs_putf cx0 ha0 ht hd hr kx
  | getstatic i =>
    obtain rfl : ln = 3 := of_decide_eq_true hc
    exact rs_gets cx0 ha0 ht hd hr kx
  | iaload =>
    obtain rfl : ln = 1 := of_decide_eq_true hc
    exact rs_ial cx0 ha0 hmi hd hr kx
  | baload =>
    obtain rfl : ln = 1 := of_decide_eq_true hc
    exact rs_bal cx0 ha0 hmi hd hr kx
  | laload =>
    obtain rfl : ln = 1 := of_decide_eq_true hc
    exact rs_lal cx0 ha0 hmi hd hr kx
  | aaload =>
    obtain rfl : ln = 1 := of_decide_eq_true hc
    exact rs_aal cx0 ha0 hmi hd hr kx
  | iastore =>
    obtain rfl : ln = 1 := of_decide_eq_true hc
    exact rs_ias cx0 ha0 hmi hd hr kx
  | bastore =>
    obtain rfl : ln = 1 := of_decide_eq_true hc
    exact rs_bas cx0 ha0 hmi hd hr kx
  | lastore =>
    obtain rfl : ln = 1 := of_decide_eq_true hc
    exact rs_las cx0 ha0 hmi hd hr kx
  | arraylength =>
    obtain rfl : ln = 1 := of_decide_eq_true hc
    exact rs_alen cx0 ha0 hd hr kx
  | invokestatic i =>
    obtain rfl : ln = 3 := of_decide_eq_true hc
    exact rs_ivs cx0 ha0 ht hmi hcs hR hd hr kx
  | invokevirtual i =>
    obtain rfl : ln = 3 := of_decide_eq_true hc
    exact rs_ivv cx0 ha0 ht hcs hd hr kx
  | ireturn =>
    obtain rfl : ln = 1 := of_decide_eq_true hc
    exact rs_iret hd hr kx
  | lreturn =>
    obtain rfl : ln = 1 := of_decide_eq_true hc
    exact rs_lret hd hr kx
  | areturn =>
    obtain rfl : ln = 1 := of_decide_eq_true hc
    exact rs_aret hd hr kx
  | return_ =>
    obtain rfl : ln = 1 := of_decide_eq_true hc
    exact rs_vret hd hr kx
  | _ => exact nomatch hr
end FIVE
theorem ri_mt_ne : ∀ t, ri_mt 1000000 ≠ some t := by
  intro t h
  have := ri_at_lt h
  exact absurd this (by decide +kernel)
section SIX
variable {D : va_G} {tys : List (ClassId × FieldType)} {ad : Nat → Nat} {cA : Nat → ClassId} {fz : Value} {E : ri_E}
/-- the locals at a method's entry -/
theorem ri_entry_list (hz : fz = .null ∨ ∃ a, fz = .ref a) : ∀ (As : List Value) (j : Nat) (n : Nat), ∀ i v, ri_get (ri_pad n (ri_sl1 As)) i = some v → (j + i, ri_cv ad fz v) ∈ lv_args j (As.map (ri_cv ad fz))
  | [], j, n, i, v, h => by
    exfalso
    have key : ∀ (n i : Nat), ri_get (ri_pad n []) i = none := by
      intro n
      induction n with
      | zero => intro i; rfl
      | succ n ih =>
        intro i
        cases i with
        | zero => rfl
        | succ i => exact ih i
    have h : ri_get (ri_pad n []) i = some v := h
    rw [key] at h
    cases h
  | a :: As, j, 0, i, v, h => by cases h
  | a :: As, j, n + 1, i, v, h => by
    have one : ri_sl1 (a :: As) = some a :: ri_sl1 As → (ri_cv ad fz a).category = 1 → (j + i, ri_cv ad fz v) ∈ lv_args j ((a :: As).map (ri_cv ad fz)) := by
      intro e ec
      rw [e] at h
      simp only [List.map_cons, lv_args]
      cases i with
      | zero =>
        cases h
        exact List.mem_cons_self
      | succ i =>
        refine List.mem_cons_of_mem _ ?_
        rw [if_neg (by rw [ec]; decide)]
        have := ri_entry_list hz As (j + 1) n i v h
        rw [show j + (i + 1) = j + 1 + i by omega]
        exact this
    have two : ri_sl1 (a :: As) = some a :: none :: ri_sl1 As → (ri_cv ad fz a).category = 2 → (j + i, ri_cv ad fz v) ∈ lv_args j ((a :: As).map (ri_cv ad fz)) := by
      intro e ec
      rw [e] at h
      simp only [List.map_cons, lv_args]
      cases i with
      | zero =>
        cases h
        exact List.mem_cons_self
      | succ i =>
        refine List.mem_cons_of_mem _ ?_
        rw [if_pos ec]
        cases n with
        | zero => cases h
        | succ n =>
          cases i with
          | zero => cases h
          | succ i =>
            have := ri_entry_list hz As (j + 2) n i v h
            rw [show j + (i + 1 + 1) = j + 2 + i by omega]
            exact this
    cases a with
    | long y => exact two rfl rfl
    | double y => exact two rfl rfl
    | ref k => exact one rfl (ri_cat1_cv hz (v := .ref k) rfl)
    | int y => exact one rfl rfl
    | float y => exact one rfl rfl
    | null => exact one rfl rfl
    | retAddr y => exact one rfl rfl
theorem ri_pad_len : ∀ (n : Nat) (l : List (Option Value)), (ri_pad n l).length = n
  | 0, _ => rfl
  | n + 1, [] => by simp [ri_pad, ri_pad_len n []]
  | n + 1, v :: l => by simp [ri_pad, ri_pad_len n l]
theorem ri_entry_lr (hz : fz = .null ∨ ∃ a, fz = .ref a) {As : List Value} {n : Nat} (h : (lg_sl (As.map (ri_cv ad fz))).length ≤ n) : ri_lr ad fz ((lg_sl (As.map (ri_cv ad fz)) ++ List.replicate (n - (lg_sl (As.map (ri_cv ad fz))).length) Slot.unset).toArray) n (ri_pad n (ri_sl1 As)) := by
  obtain ⟨h1, h2, h3⟩ := lv_entry (As.map (ri_cv ad fz)) h
  refine ⟨h1, h2, ri_pad_len _ _, fun i v hv => ?_⟩
  have := ri_entry_list (ad := ad) hz As 0 n i v hv
  rw [Nat.zero_add] at this
  exact h3 (i, ri_cv ad fz v) this
end SIX
