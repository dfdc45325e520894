/-! the heap of the class, and the law's row of two behind it -/
def S51 (S : ri_H) : ri_H := (fun k => if k < 50 then S.1 k else fun _ => 0, S.2)
def adJ (ad4 ad0 : Nat → Nat) : Nat → Nat := fun k => if k < 50 then ad4 k else ad0 k
def ad51 (ad4 : Nat → Nat) (a : Nat) (ad0 : Nat → Nat) : Nat → Nat := fun k => if k < 50 then ad4 k else if k = 50 then a else ad0 k
def cA51 (cA4 : Nat → ClassId) (c : ClassId) : Nat → ClassId := fun k => if k < 50 then cA4 k else c
theorem shJ (ad4 ad0 : Nat → Nat) : (fun j => (ri_nth [38, 40, 42, 44] j).map (adJ ad4 ad0)) = fun j => (ri_nth [38, 40, 42, 44] j).map ad4 := by
  funext j
  match j with
  | 0 => rfl
  | 1 => rfl
  | 2 => rfl
  | 3 => rfl
  | j + 4 => rfl
theorem sh51 (ad4 ad0 : Nat → Nat) (a : Nat) : (fun j => (ri_nth [38, 40, 42, 44] j).map (ad51 ad4 a ad0)) = fun j => (ri_nth [38, 40, 42, 44] j).map ad4 := by
  funext j
  match j with
  | 0 => rfl
  | 1 => rfl
  | 2 => rfl
  | 3 => rfl
  | j + 4 => rfl
set_option maxHeartbeats 4000000 in
set_option maxRecDepth 100000 in
theorem entJ (ad4 ad0 : Nat → Nat) (cA4 : Nat → ClassId) (S : ri_H) : ∀ k, k < 50 → j_ri_ent (adJ ad4 ad0) cA4 S k = j_ri_ent ad4 cA4 S k := fun k hk => match k, hk with
  | 0, _ => rfl
  | 1, _ => rfl
  | 2, _ => rfl
  | 3, _ => rfl
  | 4, _ => rfl
  | 5, _ => rfl
  | 6, _ => rfl
  | 7, _ => rfl
  | 8, _ => rfl
  | 9, _ => rfl
  | 10, _ => rfl
  | 11, _ => rfl
  | 12, _ => rfl
  | 13, _ => rfl
  | 14, _ => rfl
  | 15, _ => rfl
  | 16, _ => rfl
  | 17, _ => rfl
  | 18, _ => rfl
  | 19, _ => rfl
  | 20, _ => rfl
  | 21, _ => rfl
  | 22, _ => rfl
  | 23, _ => rfl
  | 24, _ => rfl
  | 25, _ => rfl
  | 26, _ => rfl
  | 27, _ => rfl
  | 28, _ => rfl
  | 29, _ => rfl
  | 30, _ => rfl
  | 31, _ => rfl
  | 32, _ => rfl
  | 33, _ => rfl
  | 34, _ => rfl
  | 35, _ => rfl
  | 36, _ => rfl
  | 37, _ => congrArg (fun z => (.inl (cA4 37, 4, .inr (.inr (.inr (.inr z)))) : va_E)) (shJ ad4 ad0)
  | 38, _ => rfl
  | 39, _ => rfl
  | 40, _ => rfl
  | 41, _ => rfl
  | 42, _ => rfl
  | 43, _ => rfl
  | 44, _ => rfl
  | 45, _ => rfl
  | 46, _ => rfl
  | 47, _ => rfl
  | 48, _ => rfl
  | 49, _ => rfl
  | k + 50, hk => absurd hk (by omega)
theorem wldJ (ad4 ad0 : Nat → Nat) (cA4 : Nat → ClassId) (S : ri_H) : j_ri_wld (adJ ad4 ad0) cA4 S = j_ri_wld ad4 cA4 S := by
  apply List.ext_getElem?
  intro k
  rcases Nat.lt_or_ge k 50 with q | q
  · rw [j_ri_wld_get q, j_ri_wld_get q, entJ _ _ _ _ k q, show adJ ad4 ad0 k = ad4 k from if_pos q]
  · rw [List.getElem?_eq_none (by unfold j_ri_wld; simp; exact q), List.getElem?_eq_none (by unfold j_ri_wld; simp; exact q)]
set_option maxHeartbeats 4000000 in
set_option maxRecDepth 100000 in
theorem ent51 (ad4 ad0 : Nat → Nat) (cA4 : Nat → ClassId) (S : ri_H) (a : Nat) (c : ClassId) : ∀ k, k < 50 → ri_ent (ad51 ad4 a ad0) (cA51 cA4 c) (S51 S) k = j_ri_ent ad4 cA4 S k := fun k hk => match k, hk with
  | 0, _ => rfl
  | 1, _ => rfl
  | 2, _ => rfl
  | 3, _ => rfl
  | 4, _ => rfl
  | 5, _ => rfl
  | 6, _ => rfl
  | 7, _ => rfl
  | 8, _ => rfl
  | 9, _ => rfl
  | 10, _ => rfl
  | 11, _ => rfl
  | 12, _ => rfl
  | 13, _ => rfl
  | 14, _ => rfl
  | 15, _ => rfl
  | 16, _ => rfl
  | 17, _ => rfl
  | 18, _ => rfl
  | 19, _ => rfl
  | 20, _ => rfl
  | 21, _ => rfl
  | 22, _ => rfl
  | 23, _ => rfl
  | 24, _ => rfl
  | 25, _ => rfl
  | 26, _ => rfl
  | 27, _ => rfl
  | 28, _ => rfl
  | 29, _ => rfl
  | 30, _ => rfl
  | 31, _ => rfl
  | 32, _ => rfl
  | 33, _ => rfl
  | 34, _ => rfl
  | 35, _ => rfl
  | 36, _ => rfl
  | 37, _ => congrArg (fun z => (.inl (cA4 37, 4, .inr (.inr (.inr (.inr z)))) : va_E)) (sh51 ad4 ad0 a)
  | 38, _ => rfl
  | 39, _ => rfl
  | 40, _ => rfl
  | 41, _ => rfl
  | 42, _ => rfl
  | 43, _ => rfl
  | 44, _ => rfl
  | 45, _ => rfl
  | 46, _ => rfl
  | 47, _ => rfl
  | 48, _ => rfl
  | 49, _ => rfl
  | k + 50, hk => absurd hk (by omega)
set_option maxHeartbeats 4000000 in
set_option maxRecDepth 100000 in
theorem wld51 (ad4 ad0 : Nat → Nat) (cA4 : Nat → ClassId) (S : ri_H) (a : Nat) (c : ClassId) : ri_wld (ad51 ad4 a ad0) (cA51 cA4 c) (S51 S) = j_ri_wld ad4 cA4 S ++ [(a, .inl (c, 2, .inl (fun _ => 0)))] := by
  have hl : (j_ri_wld ad4 cA4 S).length = 50 := by
    unfold j_ri_wld
    rw [List.length_map, List.length_range]
  apply List.ext_getElem?
  intro k
  rcases Nat.lt_or_ge k 50 with q | q
  · rw [ri_wld_get (show k < ri_K from Nat.lt_trans q (by decide)), List.getElem?_append_left (by omega), j_ri_wld_get q, ent51 _ _ _ _ _ _ k q]
    rw [show ad51 ad4 a ad0 k = ad4 k from if_pos q]
  · rw [List.getElem?_append_right (by omega), hl]
    exact match k, q with
    | 50, _ => rfl
    | k + 51, _ => by
      rw [List.getElem?_eq_none (by unfold ri_wld; simp), List.getElem?_eq_none (by simp)]
theorem lay50 : ∀ k, k < 50 → ri_lay k = j_ri_lay k := fun k hk => match k, hk with
  | 0, _ => rfl
  | 1, _ => rfl
  | 2, _ => rfl
  | 3, _ => rfl
  | 4, _ => rfl
  | 5, _ => rfl
  | 6, _ => rfl
  | 7, _ => rfl
  | 8, _ => rfl
  | 9, _ => rfl
  | 10, _ => rfl
  | 11, _ => rfl
  | 12, _ => rfl
  | 13, _ => rfl
  | 14, _ => rfl
  | 15, _ => rfl
  | 16, _ => rfl
  | 17, _ => rfl
  | 18, _ => rfl
  | 19, _ => rfl
  | 20, _ => rfl
  | 21, _ => rfl
  | 22, _ => rfl
  | 23, _ => rfl
  | 24, _ => rfl
  | 25, _ => rfl
  | 26, _ => rfl
  | 27, _ => rfl
  | 28, _ => rfl
  | 29, _ => rfl
  | 30, _ => rfl
  | 31, _ => rfl
  | 32, _ => rfl
  | 33, _ => rfl
  | 34, _ => rfl
  | 35, _ => rfl
  | 36, _ => rfl
  | 37, _ => rfl
  | 38, _ => rfl
  | 39, _ => rfl
  | 40, _ => rfl
  | 41, _ => rfl
  | 42, _ => rfl
  | 43, _ => rfl
  | 44, _ => rfl
  | 45, _ => rfl
  | 46, _ => rfl
  | 47, _ => rfl
  | 48, _ => rfl
  | 49, _ => rfl
  | k + 50, hk => absurd hk (by omega)
theorem ty51 (cA4 : Nat → ClassId) (tys : List (ClassId × FieldType)) (h : j_ri_Ty cA4 tys) (c : ClassId) : ri_Ty (cA51 cA4 c) (tys ++ [(c, .int)]) := by
  have key : ∀ (c' : ClassId) (ty : FieldType), (∃ t0 : Nat, tys[t0]? = some (c', ty)) → ∃ t0 : Nat, (tys ++ [(c, .int)])[t0]? = some (c', ty) := by
    intro c' ty ⟨t0, h0⟩
    exact ⟨t0, (List.getElem?_append_left (List.getElem?_eq_some_iff.mp h0).1).trans h0⟩
  intro k hk
  rcases Nat.lt_or_ge k 50 with q | q
  · have e : (cA51 cA4 c) k = cA4 k := if_pos q
    rw [lay50 k q, e]
    exact ⟨fun ty n hh => key _ _ ((h k q).1 ty n hh), fun C tg hh => key _ _ ((h k q).2 C tg hh)⟩
  · exact match k, hk, q with
    | 50, _, _ => ⟨fun _ _ h => ⟨tys.length + 0, tyA h rfl ▸ (List.getElem?_append_right (Nat.le_add_right _ _)).trans (by rw [Nat.add_sub_cancel_left]; rfl)⟩, fun _ _ h => (tyC rfl h).elim⟩
    | k + 51, hk, _ => absurd (show k + 51 < 51 from hk) (by omega)
theorem S51_ag (S : ri_H) : ∀ c, c < 50 → (S51 S).1 c = S.1 c := fun _ h => if_pos h
/-! all of it is as it must be between the calls -/
theorem ldr_v : ∀ j, j < 24 → ldr 24 j = nI (toN j) := by decide +kernel
theorem nz_z (n : Nat) : nz n (fun _ => 0) = fun _ => 0 := by
  funext j
  unfold nz
  split <;> rfl
def g00 : Nat → Nat → Int32 := fun o => if o = 1 then nz 24 (ldr 24) else fun _ => 0
theorem g00_ok : gwd 1 g00 := by
  refine ⟨⟨⟨0, by decide, rfl⟩, fun j hj => ⟨toN j, Nat.mod_lt _ (by decide), ?_⟩, fun _ _ => ⟨0, by decide, rfl⟩, fun _ _ => ⟨0, by decide, rfl⟩, fun _ _ => ⟨0, by decide, rfl⟩, fun _ _ => ⟨0, by decide, rfl⟩, fun _ _ => (⟨by decide, by decide⟩ : -99 ≤ (0 : Int32).toInt ∧ (0 : Int32).toInt ≤ 99), fun _ _ => ⟨0, by decide, rfl⟩⟩, ⟨0, by decide, rfl⟩, ⟨0, by decide, rfl⟩⟩
  show nz 24 (ldr 24) j = _
  unfold nz
  rw [if_pos hj]
  exact ldr_v j hj
theorem g00_pw : pw g00 0 0 zv zv := by
  refine ⟨rfl, rfl, rfl, fun k hk => ?_, fun _ _ => rfl, fun p hp => absurd hp (Nat.not_lt_zero p)⟩
  show nz 24 (ldr 24) k = _
  unfold nz
  rw [if_pos hk]
  exact ldr_v k hk
theorem gw_00 : gw S00 10 = g00 := by
  funext o
  match o with
  | 0 =>
    funext j
    unfold gw g00
    simp only [if_true]
    simp [S00]
  | 1 => rfl
  | 2 => exact nz_z 24
  | 3 => exact nz_z 5
  | 4 => exact nz_z 5
  | 5 => exact nz_z 5
  | 6 => exact nz_z 5
  | 7 => exact nz_z 5
  | o + 8 =>
    unfold gw g00
    rw [if_neg (by omega), if_neg (by omega)]
    have : gsz (o + 8) = 0 := by
      unfold gsz
      rw [if_neg (by omega), if_neg (by omega), if_neg (by omega)]
    rw [this]
    funext j
    unfold nz
    rw [if_neg (by omega)]
theorem S4_R {S : ri_H} (h : S4ok S) : R 1 ta0 S ∧ pw (gw S 10) 0 0 zv zv := by
  obtain ⟨a, h13, _, ht⟩ := h
  have eg : gw S 10 = g00 := (gw_ag a (in8 (by decide))).trans gw_00
  refine ⟨⟨⟨trivial, by rw [show gm S = g00 from eg]; exact g00_ok⟩, ⟨by decide, by decide, h13, trivial, fun x hx => ?_⟩, trivial⟩, by rw [eg]; exact g00_pw⟩
  have hx0 : x = 0 := by omega
  subst hx0
  exact ⟨ht, trivial⟩
