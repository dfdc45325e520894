/-! the heap of both, as it stands when the law begins to read -/
def S70 (S : ri_H) : ri_H := (fun k => if k < 50 then S.1 k else if k = 50 then (fun j => if j = 3 then 1 else if j = 36 then -1 else 0) else if k = 51 then mtx0 else if k = 52 then upd (fun _ => 0) 0 48 else if k = 54 then ldr 24 else fun _ => 0, fun k => if k < 50 then S.2 k else fun _ => 0)
def ad70 (ad4 : Nat → Nat) (l : List Nat) (ad0 : Nat → Nat) : Nat → Nat := fun k => if k < 50 then ad4 k else if k < 70 then l.getD (k - 50) 0 else ad0 k
def cA70 (cA4 : Nat → ClassId) (l : List ClassId) (c0 : ClassId) : Nat → ClassId := fun k => if k < 50 then cA4 k else l.getD (k - 50) c0
theorem sh70 (ad4 ad0 : Nat → Nat) (l : List Nat) : (fun j => (ri_nth [38, 40, 42, 44] j).map (ad70 ad4 l ad0)) = fun j => (ri_nth [38, 40, 42, 44] j).map ad4 := by
  funext j
  match j with
  | 0 => rfl
  | 1 => rfl
  | 2 => rfl
  | 3 => rfl
  | j + 4 => rfl
set_option maxHeartbeats 4000000 in
set_option maxRecDepth 100000 in
theorem ent50 (ad4 ad0 : Nat → Nat) (cA4 : Nat → ClassId) (S : ri_H) (l : List Nat) (lc : List ClassId) (c0 : ClassId) : ∀ k, k < 50 → ri_ent (ad70 ad4 l ad0) (cA70 cA4 lc c0) (S70 S) k = j_ri_ent ad4 cA4 S k := fun k hk => match k, hk with
  | 0, _ => rfl
  | 1, _ => rfl
  | 2, _ => rfl
  | 3, _ => rfl
  | 4, _ => rfl
  | 5, _ => rfl
  | 6, _ => rfl
  | 7, _ => rfl
  | 8, _ => rfl
  | 9, _ => rfl
  | 10, _ => rfl
  | 11, _ => rfl
  | 12, _ => rfl
  | 13, _ => rfl
  | 14, _ => rfl
  | 15, _ => rfl
  | 16, _ => rfl
  | 17, _ => rfl
  | 18, _ => rfl
  | 19, _ => rfl
  | 20, _ => rfl
  | 21, _ => rfl
  | 22, _ => rfl
  | 23, _ => rfl
  | 24, _ => rfl
  | 25, _ => rfl
  | 26, _ => rfl
  | 27, _ => rfl
  | 28, _ => rfl
  | 29, _ => rfl
  | 30, _ => rfl
  | 31, _ => rfl
  | 32, _ => rfl
  | 33, _ => rfl
  | 34, _ => rfl
  | 35, _ => rfl
  | 36, _ => rfl
  | 37, _ => congrArg (fun g : Nat → Option Nat => (Sum.inl (cA4 37, 4, Sum.inr (Sum.inr (Sum.inr (Sum.inr g)))) : va_E)) (sh70 ad4 ad0 l)
  | 38, _ => rfl
  | 39, _ => rfl
  | 40, _ => rfl
  | 41, _ => rfl
  | 42, _ => rfl
  | 43, _ => rfl
  | 44, _ => rfl
  | 45, _ => rfl
  | 46, _ => rfl
  | 47, _ => rfl
  | 48, _ => rfl
  | 49, _ => rfl
  | k + 50, hk => absurd hk (by omega)
set_option maxHeartbeats 4000000 in
set_option maxRecDepth 100000 in
theorem wld70 (ad4 ad0 : Nat → Nat) (cA4 : Nat → ClassId) (S : ri_H) (h0 q8 q16 q25 q33 q41 q49 q57 q65 q73 q81 q89 q97 q105 q113 q121 q133 q140 q147 q156 : Nat) (c8 c16 c25 c33 c41 c49 c57 c65 c73 c81 c89 c97 c105 c113 c121 c133 c140 c147 c156 : ClassId) : ri_wld (ad70 ad4 [h0, q8, q16, q25, q33, q41, q49, q57, q65, q73, q81, q89, q97, q105, q113, q121, q133, q140, q147, q156] ad0) (cA70 cA4 [c8, c8, c16, c25, c33, c41, c49, c57, c65, c73, c81, c89, c97, c105, c113, c121, c133, c140, c147, c156] c8) (S70 S) = j_ri_wld ad4 cA4 S ++ [(h0, .inr (5, [.int 0, .ref q8, .ref q16, .int (1), .int 0, .ref q25, .int 0, .int 0, .ref q33, .ref q41, .ref q49, .int 0, .int 0, .int 0, .int 0, .int 0, .int 0, .int 0, .int 0, .int 0, .int 0, .int 0, .int 0, .long 0, .int 0, .int 0, .int 0, .ref q57, .ref q65, .ref q73, .ref q81, .ref q89, .ref q97, .ref q105, .ref q113, .ref q121, .int (-1), .int 0, .int 0, .ref q133, .ref q140, .ref q147, .ref q156])), (q8, .inl (c8, 960, .inl mtx0)), (q16, .inl (c16, 6, .inl (upd (fun _ => 0) 0 48))), (q25, .inl (c25, 160, .inl (fun _ => 0))), (q33, .inl (c33, 24, .inl (ldr 24))), (q41, .inl (c41, 24, .inl (fun _ => 0))), (q49, .inl (c49, 25, .inl (fun _ => 0))), (q57, .inl (c57, 50, .inl (fun _ => 0))), (q65, .inl (c65, 12, .inr (.inl (fun _ => 0)))), (q73, .inl (c73, 12, .inr (.inl (fun _ => 0)))), (q81, .inl (c81, 12, .inl (fun _ => 0))), (q89, .inl (c89, 12, .inl (fun _ => 0))), (q97, .inl (c97, 24, .inl (fun _ => 0))), (q105, .inl (c105, 24, .inl (fun _ => 0))), (q113, .inl (c113, 24, .inl (fun _ => 0))), (q121, .inl (c121, 25, .inl (fun _ => 0))), (q133, .inl (c133, 4, .inl (fun _ => 0))), (q140, .inl (c140, 4, .inl (fun _ => 0))), (q147, .inl (c147, 4, .inl (fun _ => 0))), (q156, .inl (c156, 160, .inl (fun _ => 0)))] := by
  have hl : (j_ri_wld ad4 cA4 S).length = 50 := by
    unfold j_ri_wld
    rw [List.length_map, List.length_range]
  apply List.ext_getElem?
  intro k
  rcases Nat.lt_or_ge k 50 with q | q
  · rw [ri_wld_get (show k < ri_K from Nat.lt_trans q (by decide)), List.getElem?_append_left (by omega), j_ri_wld_get q, ent50 _ _ _ _ _ _ _ k q]
    rw [show ad70 ad4 [h0, q8, q16, q25, q33, q41, q49, q57, q65, q73, q81, q89, q97, q105, q113, q121, q133, q140, q147, q156] ad0 k = ad4 k from if_pos q]
  · rw [List.getElem?_append_right (by omega), hl]
    exact match k, q with
    | 50, _ => rfl
    | 51, _ => rfl
    | 52, _ => rfl
    | 53, _ => rfl
    | 54, _ => rfl
    | 55, _ => rfl
    | 56, _ => rfl
    | 57, _ => rfl
    | 58, _ => rfl
    | 59, _ => rfl
    | 60, _ => rfl
    | 61, _ => rfl
    | 62, _ => rfl
    | 63, _ => rfl
    | 64, _ => rfl
    | 65, _ => rfl
    | 66, _ => rfl
    | 67, _ => rfl
    | 68, _ => rfl
    | 69, _ => rfl
    | k + 70, _ => by
      rw [List.getElem?_eq_none (by unfold ri_wld; simp), List.getElem?_eq_none (by simp)]
theorem lay50 : ∀ k, k < 50 → ri_lay k = j_ri_lay k := fun k hk => match k, hk with
  | 0, _ => rfl
  | 1, _ => rfl
  | 2, _ => rfl
  | 3, _ => rfl
  | 4, _ => rfl
  | 5, _ => rfl
  | 6, _ => rfl
  | 7, _ => rfl
  | 8, _ => rfl
  | 9, _ => rfl
  | 10, _ => rfl
  | 11, _ => rfl
  | 12, _ => rfl
  | 13, _ => rfl
  | 14, _ => rfl
  | 15, _ => rfl
  | 16, _ => rfl
  | 17, _ => rfl
  | 18, _ => rfl
  | 19, _ => rfl
  | 20, _ => rfl
  | 21, _ => rfl
  | 22, _ => rfl
  | 23, _ => rfl
  | 24, _ => rfl
  | 25, _ => rfl
  | 26, _ => rfl
  | 27, _ => rfl
  | 28, _ => rfl
  | 29, _ => rfl
  | 30, _ => rfl
  | 31, _ => rfl
  | 32, _ => rfl
  | 33, _ => rfl
  | 34, _ => rfl
  | 35, _ => rfl
  | 36, _ => rfl
  | 37, _ => rfl
  | 38, _ => rfl
  | 39, _ => rfl
  | 40, _ => rfl
  | 41, _ => rfl
  | 42, _ => rfl
  | 43, _ => rfl
  | 44, _ => rfl
  | 45, _ => rfl
  | 46, _ => rfl
  | 47, _ => rfl
  | 48, _ => rfl
  | 49, _ => rfl
  | k + 50, hk => absurd hk (by omega)
set_option maxHeartbeats 4000000 in
set_option maxRecDepth 100000 in
theorem ty70 (cA4 : Nat → ClassId) (tys : List (ClassId × FieldType)) (h : j_ri_Ty cA4 tys) (c8 c16 c25 c33 c41 c49 c57 c65 c73 c81 c89 c97 c105 c113 c121 c133 c140 c147 c156 : ClassId) : ri_Ty (cA70 cA4 [c8, c8, c16, c25, c33, c41, c49, c57, c65, c73, c81, c89, c97, c105, c113, c121, c133, c140, c147, c156] c8) (tys ++ [(c8, .int), (c16, .int), (c25, .int), (c33, .int), (c41, .int), (c49, .int), (c57, .int), (c65, .long), (c73, .long), (c81, .int), (c89, .int), (c97, .int), (c105, .int), (c113, .int), (c121, .int), (c133, .boolean), (c140, .int), (c147, .int), (c156, .int)]) := by
  have key : ∀ (c : ClassId) (ty : FieldType), (∃ t0 : Nat, tys[t0]? = some (c, ty)) → ∃ t0 : Nat, (tys ++ [(c8, .int), (c16, .int), (c25, .int), (c33, .int), (c41, .int), (c49, .int), (c57, .int), (c65, .long), (c73, .long), (c81, .int), (c89, .int), (c97, .int), (c105, .int), (c113, .int), (c121, .int), (c133, .boolean), (c140, .int), (c147, .int), (c156, .int)])[t0]? = some (c, ty) := by
    intro c ty ⟨t0, h0⟩
    exact ⟨t0, (List.getElem?_append_left (List.getElem?_eq_some_iff.mp h0).1).trans h0⟩
  intro k hk
  rcases Nat.lt_or_ge k 50 with q | q
  · have e : (cA70 cA4 [c8, c8, c16, c25, c33, c41, c49, c57, c65, c73, c81, c89, c97, c105, c113, c121, c133, c140, c147, c156] c8) k = cA4 k := if_pos q
    rw [lay50 k q, e]
    exact ⟨fun ty n hh => key _ _ ((h k q).1 ty n hh), fun C tg hh => key _ _ ((h k q).2 C tg hh)⟩
  · exact match k, hk, q with
    | 50, _, _ => ⟨fun _ _ h => (tyO h rfl).elim, fun _ _ h => (tyO h rfl).elim⟩
    | 51, _, _ => ⟨fun _ _ h => ⟨tys.length + 0, tyA h rfl ▸ (List.getElem?_append_right (Nat.le_add_right _ _)).trans (by rw [Nat.add_sub_cancel_left]; rfl)⟩, fun _ _ h => (tyC rfl h).elim⟩
    | 52, _, _ => ⟨fun _ _ h => ⟨tys.length + 1, tyA h rfl ▸ (List.getElem?_append_right (Nat.le_add_right _ _)).trans (by rw [Nat.add_sub_cancel_left]; rfl)⟩, fun _ _ h => (tyC rfl h).elim⟩
    | 53, _, _ => ⟨fun _ _ h => ⟨tys.length + 2, tyA h rfl ▸ (List.getElem?_append_right (Nat.le_add_right _ _)).trans (by rw [Nat.add_sub_cancel_left]; rfl)⟩, fun _ _ h => (tyC rfl h).elim⟩
    | 54, _, _ => ⟨fun _ _ h => ⟨tys.length + 3, tyA h rfl ▸ (List.getElem?_append_right (Nat.le_add_right _ _)).trans (by rw [Nat.add_sub_cancel_left]; rfl)⟩, fun _ _ h => (tyC rfl h).elim⟩
    | 55, _, _ => ⟨fun _ _ h => ⟨tys.length + 4, tyA h rfl ▸ (List.getElem?_append_right (Nat.le_add_right _ _)).trans (by rw [Nat.add_sub_cancel_left]; rfl)⟩, fun _ _ h => (tyC rfl h).elim⟩
    | 56, _, _ => ⟨fun _ _ h => ⟨tys.length + 5, tyA h rfl ▸ (List.getElem?_append_right (Nat.le_add_right _ _)).trans (by rw [Nat.add_sub_cancel_left]; rfl)⟩, fun _ _ h => (tyC rfl h).elim⟩
    | 57, _, _ => ⟨fun _ _ h => ⟨tys.length + 6, tyA h rfl ▸ (List.getElem?_append_right (Nat.le_add_right _ _)).trans (by rw [Nat.add_sub_cancel_left]; rfl)⟩, fun _ _ h => (tyC rfl h).elim⟩
    | 58, _, _ => ⟨fun _ _ h => ⟨tys.length + 7, tyA h rfl ▸ (List.getElem?_append_right (Nat.le_add_right _ _)).trans (by rw [Nat.add_sub_cancel_left]; rfl)⟩, fun _ _ h => (tyC rfl h).elim⟩
    | 59, _, _ => ⟨fun _ _ h => ⟨tys.length + 8, tyA h rfl ▸ (List.getElem?_append_right (Nat.le_add_right _ _)).trans (by rw [Nat.add_sub_cancel_left]; rfl)⟩, fun _ _ h => (tyC rfl h).elim⟩
    | 60, _, _ => ⟨fun _ _ h => ⟨tys.length + 9, tyA h rfl ▸ (List.getElem?_append_right (Nat.le_add_right _ _)).trans (by rw [Nat.add_sub_cancel_left]; rfl)⟩, fun _ _ h => (tyC rfl h).elim⟩
    | 61, _, _ => ⟨fun _ _ h => ⟨tys.length + 10, tyA h rfl ▸ (List.getElem?_append_right (Nat.le_add_right _ _)).trans (by rw [Nat.add_sub_cancel_left]; rfl)⟩, fun _ _ h => (tyC rfl h).elim⟩
    | 62, _, _ => ⟨fun _ _ h => ⟨tys.length + 11, tyA h rfl ▸ (List.getElem?_append_right (Nat.le_add_right _ _)).trans (by rw [Nat.add_sub_cancel_left]; rfl)⟩, fun _ _ h => (tyC rfl h).elim⟩
    | 63, _, _ => ⟨fun _ _ h => ⟨tys.length + 12, tyA h rfl ▸ (List.getElem?_append_right (Nat.le_add_right _ _)).trans (by rw [Nat.add_sub_cancel_left]; rfl)⟩, fun _ _ h => (tyC rfl h).elim⟩
    | 64, _, _ => ⟨fun _ _ h => ⟨tys.length + 13, tyA h rfl ▸ (List.getElem?_append_right (Nat.le_add_right _ _)).trans (by rw [Nat.add_sub_cancel_left]; rfl)⟩, fun _ _ h => (tyC rfl h).elim⟩
    | 65, _, _ => ⟨fun _ _ h => ⟨tys.length + 14, tyA h rfl ▸ (List.getElem?_append_right (Nat.le_add_right _ _)).trans (by rw [Nat.add_sub_cancel_left]; rfl)⟩, fun _ _ h => (tyC rfl h).elim⟩
    | 66, _, _ => ⟨fun _ _ h => ⟨tys.length + 15, tyA h rfl ▸ (List.getElem?_append_right (Nat.le_add_right _ _)).trans (by rw [Nat.add_sub_cancel_left]; rfl)⟩, fun _ _ h => (tyC rfl h).elim⟩
    | 67, _, _ => ⟨fun _ _ h => ⟨tys.length + 16, tyA h rfl ▸ (List.getElem?_append_right (Nat.le_add_right _ _)).trans (by rw [Nat.add_sub_cancel_left]; rfl)⟩, fun _ _ h => (tyC rfl h).elim⟩
    | 68, _, _ => ⟨fun _ _ h => ⟨tys.length + 17, tyA h rfl ▸ (List.getElem?_append_right (Nat.le_add_right _ _)).trans (by rw [Nat.add_sub_cancel_left]; rfl)⟩, fun _ _ h => (tyC rfl h).elim⟩
    | 69, _, _ => ⟨fun _ _ h => ⟨tys.length + 18, tyA h rfl ▸ (List.getElem?_append_right (Nat.le_add_right _ _)).trans (by rw [Nat.add_sub_cancel_left]; rfl)⟩, fun _ _ h => (tyC rfl h).elim⟩
    | k + 70, hk, _ => absurd (show k + 70 < 70 from hk) (by omega)
/-! all of it is as it must be between the calls -/
theorem ptxm : ptx mtx0 48 = .inr ([-1, -4, -13], [2], [5]) := by decide +kernel
theorem mtx0_0 : ∀ j, j < 48 → (0 : Int32) ≤ mtx0 j := by decide +kernel
theorem ldr_v : ∀ j, j < 24 → ldr 24 j = nI ((j / 2 + 1 + j % 2) % 12) := by decide +kernel
def tau0 : Int32 → Int32 → List Int32 := fun _ b => if b = 0 then [-1, -4, -13] else if b = 1 then [2] else [5]
theorem nz_z (n : Nat) : nz n (fun _ => 0) = fun _ => 0 := by
  funext j
  unfold nz
  split <;> rfl
def g00 : Nat → Nat → Int32 := fun o => if o = 1 then nz 24 (ldr 24) else fun _ => 0
theorem g00_ok : gwd 1 g00 := by
  refine ⟨⟨⟨0, by decide, rfl⟩, fun j hj => ⟨(j / 2 + 1 + j % 2) % 12, by omega, ?_⟩, fun _ _ => ⟨0, by decide, rfl⟩, fun _ _ => ⟨0, by decide, rfl⟩, fun _ _ => ⟨0, by decide, rfl⟩, fun _ _ => ⟨0, by decide, rfl⟩, fun _ _ => (⟨by decide, by decide⟩ : (-99 : Int) ≤ (0 : Int32).toInt ∧ (0 : Int32).toInt ≤ 99), fun _ _ => ⟨0, by decide, rfl⟩⟩, ⟨0, by decide, rfl⟩, 0, by decide, rfl⟩
  show nz 24 (ldr 24) j = _
  unfold nz
  rw [if_pos hj]
  exact ldr_v j hj
theorem gm_70 (S : ri_H) : gm (S70 S) = g00 := by
  funext o
  match o with
  | 0 =>
    funext j
    show (if j = 9 then (0 : Int32) else if j = 10 then 0 else if j = 11 then 0 else 0) = 0
    split
    · rfl
    · split
      · rfl
      · split <;> rfl
  | 1 => rfl
  | 2 => exact nz_z 24
  | 3 => exact nz_z 5
  | 4 => exact nz_z 5
  | 5 => exact nz_z 5
  | 6 => exact nz_z 5
  | 7 => exact nz_z 5
  | o + 8 =>
    unfold gm g00
    simp
theorem gw_70 (S : ri_H) (h : ∀ o, o < 8 → S.1 (10 + o) = S00.1 (10 + o)) : gw (S70 S) 10 = g00 := by
  have e : gw (S70 S) 10 = gw S00 10 := by
    funext o
    unfold gw
    by_cases h0 : o = 0
    · subst h0
      rw [if_pos rfl, if_pos rfl]
      have := h 0 (by decide)
      show (fun j => _) = (fun j => _)
      rw [show (S70 S).1 10 = S.1 10 from rfl, this]
    · rw [if_neg h0, if_neg h0]
      by_cases h1 : o < 8
      · have e1 : (S70 S).1 (10 + o) = S.1 (10 + o) := if_pos (show 10 + o < 50 by omega)
        rw [e1, h o h1]
      · have : gsz o = 0 := by
          unfold gsz
          rw [if_neg (by omega), if_neg (by omega), if_neg h1]
        rw [this]
        funext j
        unfold nz
        rw [if_neg (by omega), if_neg (by omega)]
  rw [e]
  funext o
  match o with
  | 0 =>
    funext j
    unfold gw g00
    simp only [if_true]
    simp [S00]
  | 1 => rfl
  | 2 => exact nz_z 24
  | 3 => exact nz_z 5
  | 4 => exact nz_z 5
  | 5 => exact nz_z 5
  | 6 => exact nz_z 5
  | 7 => exact nz_z 5
  | o + 8 =>
    unfold gw g00
    rw [if_neg (by omega), if_neg (by omega)]
    have : gsz (o + 8) = 0 := by
      unfold gsz
      rw [if_neg (by omega), if_neg (by omega), if_neg (by omega)]
    rw [this]
    funext j
    unfold nz
    rw [if_neg (by omega)]
theorem RR_0s {S : ri_H} (h : S4ok S) : RR (S70 S) := by
  obtain ⟨a, h13, h54, ht⟩ := h
  have o : ∀ k, k ∉ [1, 2, 3, 5, 6, 7, 8, 9] → S.1 k = S00.1 k := fun k hk => (a k hk).1
  have eg : gw (S70 S) 10 = gm (S70 S) := (gw_70 S (fun o1 ho => o _ (by simp; omega))).trans (gm_70 S).symm
  refine ⟨1, tau0, ⟨eg, by rw [gm_70]; exact g00_ok⟩, ⟨by decide, by decide, h13, rfl, fun x hx => ?_⟩, ⟨0, by decide, h54, rfl, fun j hj => absurd hj (Nat.not_lt_zero j)⟩, Or.inl ⟨?_, rfl⟩, fun s hs => Or.inl ⟨?_, ?_⟩⟩
  · have hx0 : x = 0 := by omega
    subst hx0
    exact ⟨ht, mtx0, 48, by decide, rfl, fun j hj => ⟨by rw [Nat.mul_zero, Nat.zero_add]; rfl, mtx0_0 j hj⟩, ptxm⟩
  · show S.1 0 10 = 0
    rw [o 0 (by decide)]
    rfl
  · match s, hs with
    | 0, _ => exact congrFun (o 38 (by decide)) 1
    | 1, _ => exact congrFun (o 40 (by decide)) 1
    | 2, _ => exact congrFun (o 42 (by decide)) 1
    | 3, _ => exact congrFun (o 44 (by decide)) 1
    | s + 4, hs => exact absurd hs (by omega)
  · rfl
