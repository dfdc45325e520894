/-! the tape is cut into these tokens -/
section CUT
variable {S : ri_H} {Q : Int32 → ri_H → Prop} {a : Int32}
theorem w9_ok (h1 : isb a = true → Q 1 S) (h0 : isb a = false → Q 0 S) : w9 a S Q := by
  unfold w9 w9_b12
  unfold isb at h1 h0
  refine ⟨fun c => h1 (by simp [c]), fun c => ⟨fun c2 => h0 (by simp [c, c2]), fun c2 => h1 (by simp [Decidable.not_not.mp c2])⟩⟩
theorem w10_ok (h1 : isl a = true → Q 1 S) (h0 : isl a = false → Q 0 S) : w10 a S Q := by
  unfold w10
  unfold isl at h1 h0
  refine ⟨fun c => h0 ?_, fun c => ⟨fun c2 => h0 ?_, fun c2 => h1 ?_⟩⟩
  · rw [decide_eq_false (Int32.not_le.mpr c)]
    rfl
  · rw [decide_eq_false (p := a ≤ 122) (Int32.not_le.mpr c2), Bool.and_false]
  · rw [decide_eq_true (Int32.not_lt.mp c), decide_eq_true (Int32.not_lt.mp c2)]
    rfl
theorem w11_ok (h1 : isd a = true → Q 1 S) (h0 : isd a = false → Q 0 S) : w11 a S Q := by
  unfold w11
  unfold isd at h1 h0
  refine ⟨fun c => h0 ?_, fun c => ⟨fun c2 => h0 ?_, fun c2 => h1 ?_⟩⟩
  · rw [decide_eq_false (Int32.not_le.mpr c)]
    rfl
  · rw [decide_eq_false (p := a ≤ 57) (Int32.not_le.mpr c2), Bool.and_false]
  · rw [decide_eq_true (Int32.not_lt.mp c), decide_eq_true (Int32.not_lt.mp c2)]
    rfl
theorem isl_isd (h : isl a = true) : isd a = false := by
  unfold isl at h
  unfold isd
  simp only [Bool.and_eq_true, decide_eq_true_eq] at h
  have h1 := Int32.le_iff_toInt_le.mp h.1
  have : ¬ a ≤ 57 := fun e => by
    have e1 := Int32.le_iff_toInt_le.mp e
    have x1 : (97 : Int32).toInt = 97 := rfl
    have x2 : (57 : Int32).toInt = 57 := rfl
    omega
  rw [decide_eq_false this, Bool.and_false]
theorem w4_loop {n : Nat} {x : Int32} {P : Int32 → Bool} (hn : n ≤ 160) (hsz : S.1 5 4 = nI n) (hP : (isl x = true ∧ P = isl) ∨ (isl x = false ∧ isd x = true ∧ P = isd)) : ∀ k t, n - t ≤ k → t ≤ n → Q (nI (ru P (S.1 6) n k t)) S → w4_l13 Q (k + 1) x (nI t) S
  | k, t, hk, ht, hQ => by
    unfold w4_l13
    rw [hsz]
    refine ⟨fun c => ?_, fun c => ?_⟩
    · have : ¬ t < n := fun h => nI_ge h (by omega) c
      have e : ru P (S.1 6) n k t = t := by
        cases k with
        | zero => rfl
        | succ k =>
          unfold ru
          rw [if_neg this]
      rw [e] at hQ
      exact hQ
    · have htn : t < n := by
        rcases Nat.lt_or_ge t n with h | h
        · exact h
        · exact absurd (nI_le h (by omega)) c
      cases k with
      | zero => omega
      | succ k =>
        unfold ru at hQ
        rw [if_pos htn] at hQ
        unfold w4_b42 w4_b63
        have hit : it (S.1 6) 160 (nI t) = S.1 6 t := it_nI _ (show t < 160 by omega) (by decide)
        rw [nI_1]
        rcases hP with ⟨hx, rfl⟩ | ⟨hx, hd, rfl⟩
        · refine w10_ok (fun _ => ⟨fun c => absurd c (by decide), fun _ => w10_ok (fun h => ?_) (fun h => ?_)⟩) (fun h => absurd h (by rw [hx]; decide))
          · rw [hit] at h
            rw [if_pos h] at hQ
            exact ⟨fun _ => w4_loop hn hsz (Or.inl ⟨hx, rfl⟩) k (t + 1) (by omega) (by omega) hQ, fun c => absurd (by decide) c⟩
          · rw [hit] at h
            rw [if_neg (by rw [h]; decide)] at hQ
            exact ⟨fun c => absurd rfl c, fun _ => w11_ok (fun h => absurd h (by rw [isl_isd hx]; decide)) (fun _ => ⟨fun _ => hQ, fun c => absurd rfl c⟩)⟩
        · refine w10_ok (fun h => absurd h (by rw [hx]; decide)) (fun _ => ⟨fun _ => w11_ok (fun _ => ⟨fun c => absurd c (by decide), fun _ => w11_ok (fun h => ?_) (fun h => ?_)⟩) (fun h => absurd h (by rw [hd]; decide)), fun c => absurd rfl c⟩)
          · rw [hit] at h
            rw [if_pos h] at hQ
            exact ⟨fun c => absurd c (by decide), fun _ => w4_loop hn hsz (Or.inr ⟨hx, hd, rfl⟩) k (t + 1) (by omega) (by omega) hQ⟩
          · rw [hit] at h
            rw [if_neg (by rw [h]; decide)] at hQ
            exact ⟨fun _ => hQ, fun c => absurd rfl c⟩
theorem w4_ok {n s : Nat} (hn : n ≤ 160) (hs : s < n) (hsz : S.1 5 4 = nI n) (hQ : Q (nI (tke (S.1 6) n s)) S) : w4 (nI s) S Q := by
  unfold w4
  rw [it_nI _ (show s < 160 by omega) (by decide), nI_1]
  unfold tke at hQ
  have one : ∀ P : Int32 → Bool, P (S.1 6 s) = true → run P (S.1 6) n s = ru P (S.1 6) n (n - (s + 1)) (s + 1) := by
    intro P hP
    unfold run
    rw [show n - s = (n - (s + 1)) + 1 by omega]
    show (if s < n then _ else s) = _
    rw [if_pos hs, if_pos hP]
  by_cases hl : isl (S.1 6 s) = true
  · rw [if_pos hl, one _ hl] at hQ
    exact ⟨_, w4_loop hn hsz (Or.inl ⟨hl, rfl⟩) _ (s + 1) (Nat.le_refl _) (by omega) hQ⟩
  · have hl' : isl (S.1 6 s) = false := by rw [← Bool.not_eq_true]; exact hl
    rw [if_neg hl] at hQ
    by_cases hd : isd (S.1 6 s) = true
    · rw [if_pos hd, one _ hd] at hQ
      exact ⟨_, w4_loop hn hsz (Or.inr ⟨hl', hd, rfl⟩) _ (s + 1) (Nat.le_refl _) (by omega) hQ⟩
    · have hd' : isd (S.1 6 s) = false := by rw [← Bool.not_eq_true]; exact hd
      rw [if_neg hd] at hQ
      refine ⟨1, ?_⟩
      unfold w4_l13 w4_b42
      exact ⟨fun _ => hQ, fun _ => w10_ok (fun h => absurd h hl) (fun _ => ⟨fun _ => w11_ok (fun h => absurd h hd) (fun _ => ⟨fun _ => hQ, fun c => absurd rfl c⟩), fun c => absurd rfl c⟩)⟩
end CUT
def chr8 (b : Int32) : Int32 := ((b &&& 255).toUInt32 % 65536).toInt32
def tfact (t : Nat) (wd : List Int32) : Prop := ri_strl.getD (t + 100 - 1100) 0 = wd.length ∧ ri_strb.getD (t + 100 - 1100) [] = wd ∧ wd.length < 60 ∧ ∀ x, x ∈ wd → chr8 x = x ∧ ri_rok 211 (some (.int x)) = true ∧ ri_rok 207 (some (.int x)) = true
section SPELL
variable {S : ri_H} {Q : Int32 → ri_H → Prop} {t : Nat} {wd : List Int32}
theorem w206_ok (ht : tfact t wd) (hQ : Q (nI wd.length) S) : w206 t S Q := by
  unfold w206 w208
  rw [ht.1]
  have : ∀ x : Int32, x >>> ((0 : Int32) &&& 31) = x := by
    intro x
    show x >>> 0 = x
    simp
  show Q (nI wd.length >>> ((0 : Int32) &&& 31)) S
  rw [this]
  exact hQ
theorem w207_ok (ht : tfact t wd) {j : Nat} (hj : j < wd.length) (hQ : Q (wd.getD j 0) S) : w207 t (nI j) S Q := by
  unfold w207 w209 w211 w210 w212
  obtain ⟨h1, h2, h3, h4⟩ := ht
  have hm : wd.getD j 0 ∈ wd := by
    rw [List.getD_eq_getElem?_getD, List.getElem?_eq_getElem hj]
    exact List.getElem_mem hj
  obtain ⟨c1, c2, c3⟩ := h4 _ hm
  rw [h1, h2]
  refine ⟨fun c => absurd c (by decide), fun _ => ⟨fun c => absurd c (nI_pos (by omega)), fun _ => ⟨fun _ => ?_, fun c => absurd (show nI j < nI wd.length from nI_lt hj (by omega)) c⟩⟩⟩
  rw [nI_clamp (by omega)]
  have e : (((wd.getD j 0) &&& 255).toUInt32 % 65536).toInt32 = wd.getD j 0 := c1
  rw [e]
  exact ⟨vp_in_nI hj (by omega), c2, c3, hQ⟩
theorem wl_getD (f : Nat → Int32) {s e j : Nat} (h : j < e - s) : (wl f s e).getD j 0 = f (s + j) := by
  unfold wl
  rw [List.getD_eq_getElem?_getD, List.getElem?_map, List.getElem?_range h]
  rfl
theorem wl_len (f : Nat → Int32) (s e : Nat) : (wl f s e).length = e - s := by
  unfold wl
  simp
theorem list_ext_getD {a b : List Int32} (h : a.length = b.length) (h2 : ∀ j, j < a.length → a.getD j 0 = b.getD j 0) : a = b := by
  refine List.ext_getElem h (fun i h3 h4 => ?_)
  have := h2 i h3
  rw [List.getD_eq_getElem?_getD, List.getD_eq_getElem?_getD, List.getElem?_eq_getElem h3, List.getElem?_eq_getElem h4] at this
  exact this
theorem w7_loop (ht : tfact t wd) {s e : Nat} (he : e ≤ 160) (hl : s + wd.length = e) (h1 : wl (S.1 6) s e = wd → Q 1 S) (h0 : wl (S.1 6) s e ≠ wd → Q 0 S) : ∀ d k, k + d = wd.length → (∀ j, j < k → S.1 6 (s + j) = wd.getD j 0) → w7_l15 t Q (d + 1) (nI s) (nI k) S
  | 0, k, hk, hj => by
    have hk' : k = wd.length := hk
    subst hk'
    unfold w7_l15
    refine w206_ok ht ⟨fun _ => h1 ?_, fun c => absurd (nI_le (Nat.le_refl _) (by omega)) c⟩
    refine list_ext_getD (by rw [wl_len]; omega) (fun j hj2 => ?_)
    rw [wl_len] at hj2
    rw [wl_getD _ hj2]
    exact hj j (by omega)
  | d + 1, k, hk, hj => by
    unfold w7_l15
    refine w206_ok ht ⟨fun c => absurd c (nI_ge (by omega) (by omega)), fun _ => w207_ok ht (by omega) ?_⟩
    have hit : it (S.1 6) 160 (nI s + nI k) = S.1 6 (s + k) := by
      rw [nI_add]
      exact it_nI _ (by omega) (by decide)
    rw [hit, nI_1]
    refine ⟨fun c => w7_loop ht he hl h1 h0 d (k + 1) (by omega) (fun j hj2 => ?_), fun c => h0 (fun e2 => c ?_)⟩
    · by_cases ej : j = k
      · subst ej
        exact c
      · exact hj j (by omega)
    · rw [← e2, wl_getD _ (by omega)]
theorem w7_ok (ht : tfact t wd) {s e : Nat} (he : e ≤ 160) (hse : s ≤ e) (h1 : wl (S.1 6) s e = wd → Q 1 S) (h0 : wl (S.1 6) s e ≠ wd → Q 0 S) : w7 t (nI s) (nI e) S Q := by
  unfold w7
  have h3 := ht.2.2.1
  refine w206_ok ht ?_
  rw [pk_sub hse]
  refine ⟨fun c => ?_, fun c => h0 (fun e2 => c ?_)⟩
  · have c' := (nI_eq (by omega) (by omega)).mp c
    exact ⟨wd.length + 1, w7_loop ht he (by omega) h1 h0 wd.length 0 (by omega) (fun j hj => absurd hj (Nat.not_lt_zero j))⟩
  · rw [← e2, wl_len]
end SPELL
