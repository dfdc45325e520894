/-! tells: what is supposed, and what is told then -/
def sup (g : Nat → Nat → Int32) (o j : Nat) (v : Int32) : Nat → Nat → Int32 := gset g o (upd (g o) j v)
theorem sup_sup (g : Nat → Nat → Int32) (o j : Nat) (v v' : Int32) : sup (sup g o j v) o j v' = sup g o j v' := by
  funext o' i
  unfold sup gset
  by_cases h : o' = o
  · simp only [if_pos h, if_true]
    unfold upd
    by_cases e : i = j
    · simp [e]
    · simp [e]
  · simp only [if_neg h]
theorem sup_self (g : Nat → Nat → Int32) (o j : Nat) : sup g o j (g o j) = g := by
  funext o' i
  unfold sup gset
  by_cases h : o' = o
  · subst h
    simp only [if_true]
    unfold upd
    by_cases e : i = j
    · simp [e]
    · simp [e]
  · simp only [if_neg h]
/-- the first year that is otherwise than told -/
def fo (τ : Int32 → Int32 → List Int32) (g : Nat → Nat → Int32) (f : Nat → Int32) (who : Int32) : Nat → Nat → Int32
  | 0, _ => -1
  | e + 1, k => if it (yrs τ g (k + 1) 5) 5 who = f k then fo τ g f who e (k + 1) else nI k
theorem fo_f {τ : Int32 → Int32 → List Int32} {g : Nat → Nat → Int32} {f f' : Nat → Int32} {who : Int32} : ∀ e k, (∀ j, j < k + e → f j = f' j) → fo τ g f who e k = fo τ g f' who e k
  | 0, _, _ => rfl
  | e + 1, k, h => by
    unfold fo
    rw [h k (by omega), fo_f e (k + 1) (fun j hj => h j (by omega))]
/-- those of the first n that go as told: their bits, how many, the first -/
def bA (F : Nat → Int32) : Nat → Int32
  | 0 => 0
  | k + 1 => if F k = -1 then bA F k ||| bt (nI k) else bA F k
def cA (F : Nat → Int32) : Nat → Nat
  | 0 => 0
  | k + 1 => cA F k + (if F k = -1 then 1 else 0)
def lf (F : Nat → Int32) (lo : Int32) : Nat → Nat → Int32
  | 0, _ => -100
  | e + 1, k => if F k = -1 then nI k + lo else lf F lo e (k + 1)
theorem cA_le (F : Nat → Int32) : ∀ k, cA F k ≤ k
  | 0 => Nat.le_refl _
  | k + 1 => by
    have := cA_le F k
    unfold cA
    split <;> omega
/-! where MOOD isn't named -/
def no5 (c : List Int32) : Prop := ∀ s, s ∈ c → s ≠ -5
theorem m5 {s : Int32} (h : -1 - s = 4) : s = -5 := by
  have h1 : -1 - s + s = -1 := Int32.sub_add_cancel _ _
  rw [h] at h1
  have h2 : s + 4 - 4 = s := Int32.add_sub_cancel s 4
  rw [Int32.add_comm s 4, h1] at h2
  rw [← h2]
  decide
theorem es_nm {nm nm' : Nat → Int32} (h : ∀ k, k ≠ 4 → nm k = nm' k) {s : Int32} (hs : s ≠ -5) (st : List Int32) : es nm s st = es nm' s st := by
  unfold es
  by_cases c : s < -6
  · rw [if_pos c, if_pos c]
  · rw [if_neg c, if_neg c]
    by_cases c2 : s < 0
    · rw [if_pos c2, if_pos c2]
      have : it nm 6 (-1 - s) = it nm' 6 (-1 - s) := by
        rcases pk_ix (-1 - s) (n := 6) (by decide) with h0 | h0 | ⟨j, hj, e⟩
        · unfold it
          rw [if_pos h0, if_pos h0]
        · unfold it
          rw [if_pos (show Int32.ofNat 6 ≤ -1 - s from h0), if_pos (show Int32.ofNat 6 ≤ -1 - s from h0)]
        · rw [e, it_nI _ hj (by decide), it_nI _ hj (by decide)]
          refine h j (fun e4 => hs (m5 ?_))
          rw [e, e4]
          rfl
      rw [this]
    · rw [if_neg c2, if_neg c2]
theorem ev_nm {nm nm' : Nat → Int32} (h : ∀ k, k ≠ 4 → nm k = nm' k) : ∀ (c st : List Int32), no5 c → ev nm c st = ev nm' c st
  | [], _, _ => rfl
  | s :: r, st, hc => by
    unfold ev
    rw [es_nm h (hc s List.mem_cons_self) st, ev_nm h r _ (fun s' hs' => hc s' (List.mem_cons_of_mem _ hs'))]
/-- alike, but for how far the moods go -/
def lm (g g' : Nat → Nat → Int32) : Prop := (∀ o, o ≠ 6 → g o = g' o) ∧ ∀ one, it (g 6) 5 one < 0 ↔ it (g' 6) 5 one < 0
section LM
variable {τ : Int32 → Int32 → List Int32} {g g' : Nat → Nat → Int32} {one : Int32}
theorem tl_lm (h : lm g g') {a b x : Int32} (hc : no5 (τ a b)) : tl τ a b (p_nm g one x) = tl τ a b (p_nm g' one x) := by
  unfold tl vl
  rw [ev_nm (nm' := p_nm g' one x) (fun k hk => ?_) _ _ hc]
  unfold p_nm
  rw [h.1 7 (by decide), h.1 0 (by decide), h.1 4 (by decide), h.1 5 (by decide)]
  by_cases c5 : k = 5
  · rw [if_pos c5, if_pos c5]
  · rw [if_neg c5, if_neg c5, if_neg hk, if_neg hk]
theorem r2_lm (h : lm g g') (x : Int32) : p_r2 g one x = p_r2 g' one x := by
  unfold p_r2
  rw [h.1 3 (by decide)]
  by_cases c3 : it (g' 3) 5 one = 3
  · rw [if_pos c3, if_pos c3]
    by_cases c : it (g 6) 5 one < 0
    · rw [if_neg (Int32.not_le.mpr c), if_neg (Int32.not_le.mpr ((h.2 one).mp c))]
    · rw [if_pos (Int32.not_lt.mp c), if_pos (Int32.not_lt.mp (fun q => c ((h.2 one).mpr q)))]
  · rw [if_neg c3, if_neg c3]
theorem r1_lm (h : lm g g') (x : Int32) : p_r1 g one x = p_r1 g' one x := by
  unfold p_r1
  rw [h.1 3 (by decide), h.1 4 (by decide), h.1 5 (by decide)]
theorem bj_lm (h : lm g g') (x : Int32) : p_bj g x = p_bj g' x := by
  unfold p_bj
  rw [h.1 2 (by decide)]
theorem tk_lm (h : lm g g') (hc : no5 (τ (g 0 11) 0)) : p_tk τ g one = p_tk τ g' one := by
  unfold p_tk
  rw [r2_lm h, r1_lm h, bj_lm h, tl_lm h hc, h.1 0 (by decide), h.1 2 (by decide), h.1 3 (by decide), h.1 4 (by decide), h.1 5 (by decide)]
theorem pt_lm (h : lm g g') (hc : no5 (τ (g 0 11) 1)) : p_pt τ g one = p_pt τ g' one := by
  unfold p_pt
  rw [bj_lm h, tl_lm h hc, h.1 0 (by decide), h.1 3 (by decide), h.1 4 (by decide), h.1 5 (by decide)]
theorem rt_lm (h : lm g g') (hc : no5 (τ (g 0 11) 0)) {t : Int32} : p_rt τ g t one = p_rt τ g' t one := by
  unfold p_rt
  rw [tk_lm h hc]
theorem y1_lm (h : lm g g') (hc : no5 (τ (g 0 11) 1)) (r : Int32) : lm (p_y1 τ g one r) (p_y1 τ g' one r) := by
  refine ⟨fun o ho => ?_, fun x => ?_⟩
  · unfold p_y1
    rw [pt_lm h hc, h.1 2 (by decide), h.1 5 (by decide), h.1 1 (by decide)]
    unfold gset
    by_cases c5 : o = 5
    · simp only [if_pos c5]
    · by_cases c2 : o = 2
      · simp only [if_neg c5, if_pos c2]
      · simp only [if_neg c5, if_neg c2]
        exact h.1 o ho
  · exact h.2 x
theorem yl_lm (h : lm g g') (h0 : no5 (τ (g 0 11) 0)) (h1 : no5 (τ (g 0 11) 1)) (t : Int32) : ∀ k, lm (p_yl τ t g k) (p_yl τ t g' k)
  | 0 => h
  | k + 1 => by
    have ih := yl_lm h h0 h1 t k
    have e0 : p_yl τ t g k 0 = g 0 := p_yl_0 τ t g k
    show lm (p_y1 τ (p_yl τ t g k) (nI k) (p_rt τ (p_yl τ t g k) t (nI k))) (p_y1 τ (p_yl τ t g' k) (nI k) (p_rt τ (p_yl τ t g' k) t (nI k)))
    rw [rt_lm ih (by rw [e0]; exact h0)]
    exact y1_lm ih (by rw [e0]; exact h1) _
theorem yr_lm (h : lm g g') (h0 : no5 (τ (g 0 11) 0)) (h1 : no5 (τ (g 0 11) 1)) (t : Int32) : lm (p_yr τ t g) (p_yr τ t g') := by
  unfold p_yr
  rw [h.1 0 (by decide)]
  have q := yl_lm h h0 h1 t (g' 0 9).toNatClampNeg
  unfold p_ny
  refine ⟨fun o ho => ?_, q.2⟩
  rw [q.1 0 (by decide)]
  unfold gset
  by_cases c : o = 0
  · simp only [if_pos c]
  · simp only [if_neg c]
    exact q.1 o ho
theorem yrs_lm (h : lm g g') (h0 : no5 (τ (g 0 11) 0)) (h1 : no5 (τ (g 0 11) 1)) : ∀ k, lm (yrs τ g k) (yrs τ g' k)
  | 0 => h
  | k + 1 => yr_lm (yrs_lm h h0 h1 k) (by rw [yrs_o _ _ (by decide)]; exact h0) (by rw [yrs_o _ _ (by decide)]; exact h1) (-1)
theorem fo_lm (h : lm g g') (h0 : no5 (τ (g 0 11) 0)) (h1 : no5 (τ (g 0 11) 1)) {f : Nat → Int32} {who : Int32} : ∀ e k, fo τ g f who e k = fo τ g' f who e k
  | 0, _ => rfl
  | e + 1, k => by
    unfold fo
    rw [(yrs_lm h h0 h1 (k + 1)).1 5 (by decide), fo_lm h h0 h1 e (k + 1)]
theorem sup_lm (g : Nat → Nat → Int32) {p : Nat} {v v' : Int32} (hv : v < 0 ↔ v' < 0) : lm (sup g 6 p v) (sup g 6 p v') := by
  refine ⟨fun o ho => ?_, fun one => ?_⟩
  · unfold sup gset
    simp only [if_neg ho]
  · show it (upd (g 6) p v) 5 one < 0 ↔ it (upd (g 6) p v') 5 one < 0
    rcases pk_ix one (n := 5) (by decide) with h0 | h0 | ⟨j, hj, e⟩
    · unfold it
      rw [if_pos h0, if_pos h0]
    · unfold it
      rw [if_pos (show Int32.ofNat 5 ≤ one from h0), if_pos (show Int32.ofNat 5 ≤ one from h0)]
    · rw [e, it_nI _ hj (by decide), it_nI _ hj (by decide)]
      unfold upd
      by_cases c : j = p
      · rw [if_pos c, if_pos c]
        exact hv
      · rw [if_neg c, if_neg c]
end LM
