/-! what the Statement gives of the start: statics, constants, the script -/
def pre0 : List Cond := flatC (Jvm.Cond.and given_1 narrow_1)
def st_bs (i : Nat) : Nat := [9, 55, 65, 75, 87, 97, 109, 122, 141, 156, 175, 193, 212].getD i 0
def st_sp (i : Nat) : Nat := [186, 274, 281, 282, 283, 284, 285, 286, 287, 288, 289, 290, 291].getD i 0
def st_tm (i : Nat) : Term := match ri_nth ri_strs i with
  | some q => .string q.1 q.2.1
  | none => .int 0
set_option maxRecDepth 100000 in
theorem st_1 : ∀ i, i < 13 → pre0[st_bs i]? = some (Cond.exactly (st_tm i) "java/lang/String") ∧ pre0[st_bs i + 1]? = some (Cond.eq (.field (st_tm i) "java/lang/String" "coder" "B") (.int 0)) ∧ pre0[st_bs i + 2]? = some (Cond.arrayOf (.field (st_tm i) "java/lang/String" "value" "[B") .byte) ∧ pre0[st_bs i + 3]? = some (Cond.eq (.length (.field (st_tm i) "java/lang/String" "value" "[B")) (.int (Int32.ofNat (ri_strl.getD i 0)))) := by decide +kernel
set_option maxRecDepth 100000 in
theorem st_2 : ∀ i, i < 13 → ∀ j, j < ri_strl.getD i 0 → pre0[st_bs i + 4 + j]? = some (Cond.eq (.elem (.field (st_tm i) "java/lang/String" "value" "[B") (.int (Int32.ofNat j))) (.int ((ri_strb.getD i []).getD j 0))) := by decide +kernel
set_option maxRecDepth 100000 in
theorem st_3 : ∀ j, j < 13 → ∀ i, i < j → pre0[st_bs j + 4 + ri_strl.getD j 0 + i]? = some (Cond.not (Cond.eq (st_tm i) (st_tm j))) := by decide +kernel
set_option maxRecDepth 100000 in
theorem st_4 : ∀ i, i < 13 → lw_tbl[st_sp i]? = (ri_nth ri_strs i).map (fun q => Cond.stringRef q.1 q.2.1 q.2.2) := by decide +kernel
set_option maxRecDepth 100000 in
theorem st_6 : ri_nest.all (fun w => decide (w ∈ lw_tbl)) = true := by decide +kernel
theorem st_len {i : Nat} {q : String × Nat × String} (h : ri_nth ri_strs i = some q) : i < 13 := by
  rw [ri_nth_eq] at h
  exact (List.getElem?_eq_some_iff.mp h).1
theorem st_max : ∀ i, i < 13 → ri_strl.getD i 0 < 2 ^ 31 := by decide
def ad00 (b : Nat) (adK adV : Nat → Nat) : Nat → Nat := fun k => if k = 3000 then b else if k < 1100 then adK (k - 1000) else adV (k - 1100)
set_option maxHeartbeats 4000000 in
set_option maxRecDepth 100000 in
theorem law_EF {s : State} {b L : Nat} {xs : Nat → Int32} {D : va_G} (hts : ∀ w ∈ lw_tbl, w.before #[Value.ref b] s = true) (hgv : (Jvm.Cond.and given_1 narrow_1).before #[Value.ref b] s = true) (hX : va_X b L xs s s.heap) (hbl : b < s.heap.size) (hK : va_K D ri_cls [] s) : ∃ (ad0 : Nat → Nat) (fz : Value), (fz = .null ∨ ∃ a, fz = .ref a) ∧ ad0 3000 = b ∧ ri_EF D [] ad0 fz (L, xs) (fun q : Nat => s.heap.size ≤ q) s s.heap := by
  have hs : ∀ c ∈ pre0, c.before #[Value.ref b] s = true := flat_of_before _ hgv
  have hp : ∀ (i : Nat) (c : Cond), pre0[i]? = some c → c.before #[Value.ref b] s = true := fun i c h => hs c (List.mem_of_getElem? h)
  have hw : ∀ (i : Nat) (c : Cond), lw_tbl[i]? = some c → c.before #[Value.ref b] s = true := fun i c h => hts c (List.mem_of_getElem? h)
  have hA : ∀ a : Nat, a < s.heap.size → ¬ (fun q : Nat => s.heap.size ≤ q) a := fun a h => Nat.not_le.mpr h
  obtain ⟨adK, adV, hS, hE⟩ := vk_Sof (args := #[Value.ref b]) (s := s) (N := 13) (tm := st_tm) (len := ri_strl) (byt := ri_strb) (A := fun q : Nat => s.heap.size ≤ q) st_max (fun i hi => hp _ _ (st_1 i hi).1) (fun i hi => hp _ _ (st_1 i hi).2.1) (fun i hi => hp _ _ (st_1 i hi).2.2.1) (fun i hi => hp _ _ (st_1 i hi).2.2.2) (fun i hi j hj => hp _ _ (st_2 i hi j hj)) (fun i j hi hj hij => by
    rcases Nat.lt_or_gt_of_ne hij with q | q
    · exact Or.inl (hp _ _ (st_3 j hj i q))
    · exact Or.inr (hp _ _ (st_3 i hi j q))) hA
  have hF : ∃ fz : Value, (fz = .null ∨ ∃ a, fz = .ref a) ∧ va_Z "jdk/internal/util/Preconditions" "SIOOBE_FORMATTER" "Ljava/util/function/BiFunction;" fz (fun q : Nat => s.heap.size ≤ q) s s.heap := by
    rcases va_Zqof (args := #[Value.ref b]) (s := s) (A := fun q : Nat => s.heap.size ≤ q) (hw 212 (Cond.laysStatic "jdk/internal/util/Preconditions" "SIOOBE_FORMATTER" "Ljava/util/function/BiFunction;") (by decide +kernel)) (hw 42 _ (by decide +kernel)) (hp 5 _ (by decide +kernel)) hA with h | ⟨t, h⟩
    · exact ⟨.null, Or.inl rfl, h⟩
    · exact ⟨.ref t, Or.inr ⟨t, rfl⟩, h⟩
  obtain ⟨fz, hfz, hZ⟩ := hF
  have e1 : ∀ i, i < 13 → ad00 b adK adV (1000 + i) = adK i := fun i hi => by
    unfold ad00
    rw [if_neg (by omega), if_pos (by omega), Nat.add_sub_cancel_left]
  have e2 : ∀ i, i < 13 → ad00 b adK adV (1100 + i) = adV i := fun i hi => by
    unfold ad00
    rw [if_neg (by omega), if_neg (by omega), Nat.add_sub_cancel_left]
  refine ⟨ad00 b adK adV, fz, hfz, rfl, hK, fun i w h => ?_, trivial, trivial, va_Zof (args := #[Value.ref b]) (hw 196 _ (by decide +kernel)) (hw 40 _ (by decide +kernel)) (va_eqt (hp 4 _ (by decide +kernel))) hA, hZ, ⟨fun i hi => ?_, fun i j hi hj e => ?_⟩, fun i q hq => ?_, ?_⟩
  · have hm := of_decide_eq_true (List.all_eq_true.mp st_6 w (ri_nth_mem h))
    obtain ⟨a, b', x, z, rfl⟩ := ri_nest_w i w h
    exact va_Nw.of rfl (hts _ hm)
  · have q := hS.1 i hi
    rw [← e1 i hi, ← e2 i hi] at q
    exact q
  · exact hS.2 i j hi hj ((e1 i hi).symm.trans (Eq.trans e (e1 j hj)))
  · have hi := st_len hq
    rw [e1 i hi]
    have h4 := st_4 i hi
    rw [hq] at h4
    have h5 := hE i hi
    unfold st_tm at h5
    rw [hq] at h5
    exact vk_R.of (hw _ _ h4) h5
  · obtain ⟨scr, x1, x2, x3, x4, x5⟩ := hX
    exact ⟨scr, x1, x2, x3, Nat.le_of_eq x4.symm, by rw [x4] <;> rfl, x5, hA b hbl⟩
