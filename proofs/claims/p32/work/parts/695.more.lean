/-! jars, spoons, what was told: over a plain world -/
section SP
variable {τ : Int32 → Int32 → List Int32} {g : Nat → Nat → Int32} {one : Int32}
theorem nIm1 {j : Nat} (hj : j < 2 ^ 31) : nI j ≠ -1 := fun q => nI_pos hj (by rw [q]; decide)
theorem sp_some {j : Nat} (hj : ¬ it (g 2) 24 (nI j) ≤ 0) : ∀ k, k ≤ 24 → j < k → (p_sp τ g one k).1 ≠ -1
  | 0, _, h => absurd h (Nat.not_lt_zero j)
  | k + 1, hk, h => by
    unfold p_sp
    rcases Nat.lt_or_ge j k with q | q
    · have ih := sp_some hj k (by omega) q
      by_cases c1 : it (g 2) 24 (nI k) ≤ 0
      · rw [if_pos c1]
        exact ih
      · rw [if_neg c1, if_neg ih]
        by_cases c3 : p_fl τ g one (nI k) ≤ (p_sp τ g one k).2
        · rw [if_pos c3]
          exact ih
        · rw [if_neg c3]
          exact nIm1 (by omega)
    · have e : j = k := by omega
      subst e
      rw [if_neg hj]
      by_cases c2 : (p_sp τ g one j).1 = -1
      · rw [if_pos c2]
        exact nIm1 (by omega)
      · rw [if_neg c2]
        by_cases c3 : p_fl τ g one (nI j) ≤ (p_sp τ g one j).2
        · rw [if_pos c3]
          exact c2
        · rw [if_neg c3]
          exact nIm1 (by omega)
theorem sp_ex {j : Nat} (hj : ¬ it (g 2) 24 (nI j) ≤ 0) (h : j < 24) : ∃ i, i < 24 ∧ p_sp τ g one 24 = (nI i, p_fl τ g one (nI i)) := by
  rcases p_sp_inv τ g one 24 with e | ⟨i, hi, e⟩
  · exact absurd (by rw [e]) (sp_some (τ := τ) (one := one) hj 24 (Nat.le_refl _) h)
  · exact ⟨i, hi, e⟩
theorem sp_none (h : ∀ k, k < 24 → it (g 2) 24 (nI k) ≤ 0) : ∀ k, k ≤ 24 → p_sp τ g one k = (-1, 0)
  | 0, _ => rfl
  | k + 1, hk => by
    unfold p_sp
    rw [if_pos (h k (by omega))]
    exact sp_none h k (by omega)
theorem sf_none (h : ∀ k, k < 24 → it (g 2) 24 (nI k) ≤ 0) : ∀ k, k ≤ 24 → p_sf g k = (-1, 0)
  | 0, _ => rfl
  | k + 1, hk => by
    unfold p_sf
    rw [sf_none h k (by omega), if_pos (h k (by omega))]
end SP
section JAR
variable {g : Nat → Nat → Int32} {L y : Nat} {a v : Nat → Nat}
theorem jar_pl (h : pw g L y a v) {k : Nat} (hk : k < 24) : it (g 2) 24 (nI k) = nI (v k) := by
  rw [it_nI _ hk (by decide), h.2.2.2.2.1 k hk]
theorem sm_0 {v : Nat → Nat} (h : smN v 24 = 0) {k : Nat} (hk : k < 24) : v k = 0 := by
  have := smN_le v 24 hk
  omega
/-- the jar of the road not gone by of the first life -/
theorem vy_mono (fl y : Nat) (a v : Nat → Nat) (j : Nat) : ∀ d k, vyN fl y a v k j ≤ vyN fl y a v (k + d) j
  | 0, _ => Nat.le_refl _
  | d + 1, k => by
    refine Nat.le_trans (vy_mono fl y a v j d k) ?_
    show vyN fl y a v (k + d) j ≤ upn (vyN fl y a v (k + d)) (2 * a (k + d) + 1 - rdN fl y (k + d) (a (k + d))) (vyN fl y a v (k + d) (2 * a (k + d) + 1 - rdN fl y (k + d) (a (k + d))) + 2) j
    unfold upn
    by_cases e : j = 2 * a (k + d) + 1 - rdN fl y (k + d) (a (k + d))
    · rw [if_pos e, ← e]
      omega
    · rw [if_neg e]
      exact Nat.le_refl _
theorem vy_jar (fl y : Nat) (a v : Nat → Nat) {L : Nat} (hL : 1 ≤ L) : v (2 * a 0 + 1 - rdN fl y 0 (a 0)) + 2 ≤ vyN fl y a v L (2 * a 0 + 1 - rdN fl y 0 (a 0)) := by
  have h := vy_mono fl y a v (2 * a 0 + 1 - rdN fl y 0 (a 0)) (L - 1) 1
  rw [show 1 + (L - 1) = L by omega] at h
  refine Nat.le_trans ?_ h
  show _ ≤ upn v (2 * a 0 + 1 - rdN fl y 0 (a 0)) (v (2 * a 0 + 1 - rdN fl y 0 (a 0)) + 2) (2 * a 0 + 1 - rdN fl y 0 (a 0))
  unfold upn
  rw [if_pos rfl]
  exact Nat.le_refl _
/-- a spoon of a plain life -/
theorem mood_pl (h : pw g L y a v) (hL : 1 ≤ L) {m : Nat} (hm : m ≤ 90) (e6 : g 6 0 = nI m) (x : Int32) : p_mood ta0 g (nI 0) x = nI (m + 5) := by
  unfold p_mood
  rw [fl_pl (by decide) (h.2.2.2.2.2 0 (by omega)).1 h.2.2.1, it_nI _ (by decide) (by decide), e6]
  have e : nI m + 5 = nI (m + 5) := nI_add m 5
  rw [e]
  exact hd_nI (b := 99) (by omega) (by decide) (by decide)
theorem eat_pl (h : pw g L y a v) (hL : 1 ≤ L) {m e k : Nat} (hm : m ≤ 90) (e6 : g 6 0 = nI m) (he : e ≤ 90) (e7 : g 7 0 = nI e) (hk : k < 24) (hv : 1 ≤ v k) : p_eat ta0 g (nI 0) (nI k) = gset (gset (gset g 6 (upd (g 6) 0 (nI (m + 5)))) 7 (upd (g 7) 0 (nI (e + 1)))) 2 (upd (g 2) k (nI (v k - 1))) := by
  unfold p_eat
  rw [mood_pl h hL hm e6, pu_nI _ _ (show 0 < 5 by decide) (by decide), pu_nI _ _ (show 0 < 5 by decide) (by decide), pu_nI _ _ hk (by decide), it_nI _ (show 0 < 5 by decide) (by decide), e7, jar_pl h hk]
  have e1 : p_min (nI e + 1) = nI (e + 1) := by
    rw [nI_1]
    unfold p_min
    rw [if_pos (show nI (e + 1) < 999 from nI_lt (b := 999) (by omega) (by decide))]
  rw [e1, show nI (v k) - 1 = nI (v k - 1) from pk_sub (b := 1) hv]
theorem pw_eat (h : pw g L y a v) {k x : Nat} {f6 f7 : Nat → Int32} : pw (gset (gset (gset g 6 f6) 7 f7) 2 (upd (g 2) k (nI x))) L y a (upn v k x) := by
  obtain ⟨h9, h10, h11, h1, h2, hp⟩ := h
  refine ⟨h9, h10, h11, h1, fun j hj => ?_, hp⟩
  show upd (g 2) k (nI x) j = nI (upn v k x j)
  unfold upd upn
  by_cases e : j = k
  · rw [if_pos e, if_pos e]
  · rw [if_neg e, if_neg e]
    exact h2 j hj
end JAR
/-! told -/
section TO
variable {g : Nat → Nat → Int32} {L y : Nat} {a v : Nat → Nat} {f : Nat → Int32}
theorem fo_all {τ : Int32 → Int32 → List Int32} {who : Int32} : ∀ e k, (∀ j, k ≤ j → j < k + e → it (yrs τ g (j + 1) 5) 5 who = f j) → fo τ g f who e k = -1
  | 0, _, _ => rfl
  | e + 1, k, h => by
    unfold fo
    rw [if_pos (h k (Nat.le_refl _) (by omega))]
    exact fo_all e (k + 1) (fun j h1 h2 => h j (by omega) (by omega))
theorem fo_pl (h : pw g L y a v) (hL : 1 ≤ L ∧ L ≤ 5) (hy : y ≤ 60) (hv : smN v 24 = 0) (hf : ∀ j, j < 9 → f j = nI (psN y 100 (j + 1) (a 0))) : fo ta0 g f (nI 0) 9 0 = -1 := by
  refine fo_all 9 0 (fun j _ hj => ?_)
  have b : 2 * L * (j + 1) ≤ 2 * 5 * 9 := Nat.mul_le_mul (by omega) (by omega)
  rw [at_yrs h hL (by omega) (by omega), hf j (by omega)]
theorem pw_sup4 (h : pw g L y a v) (x : Int32) : pw (sup g 4 0 x) L y a v := h
theorem pw_sup6 (h : pw g L y a v) (x : Int32) : pw (sup g 6 0 x) L y a v := h
theorem bA_all {F : Nat → Int32} : ∀ N, (∀ k, k < N → F k = -1) → bA F N = bA (fun _ => -1) N
  | 0, _ => rfl
  | N + 1, h => by
    unfold bA
    rw [bA_all N (fun k hk => h k (by omega)), h N (by omega)]
theorem cA_all {F : Nat → Int32} : ∀ N, (∀ k, k < N → F k = -1) → cA F N = N
  | 0, _ => rfl
  | N + 1, h => by
    unfold cA
    rw [cA_all N (fun k hk => h k (by omega)), h N (by omega), if_pos rfl]
def bN (F : Nat → Int32) : Nat → Nat
  | 0 => 0
  | k + 1 => bN F k + if F k = -1 then 2 ^ k else 0
theorem bN_lt (F : Nat → Int32) : ∀ k, bN F k < 2 ^ k
  | 0 => by
    show 0 < 1
    decide
  | k + 1 => by
    have := bN_lt F k
    unfold bN
    rw [Nat.pow_succ]
    split <;> omega
theorem or_bt : ∀ k, k < 12 → ∀ m, m < 2 ^ k → nI m ||| bt (nI k) = nI (m + 2 ^ k) := by decide +kernel
theorem bA_N (F : Nat → Int32) : ∀ k, k ≤ 12 → bA F k = nI (bN F k)
  | 0, _ => rfl
  | k + 1, hk => by
    unfold bA bN
    rw [bA_N F k (by omega)]
    by_cases c : F k = -1
    · rw [if_pos c, if_pos c]
      exact or_bt k (by omega) _ (bN_lt F k)
    · rw [if_neg c, if_neg c]
      rfl
theorem bN_bit {F : Nat → Int32} {c : Nat} (hc : F c = -1) : ∀ d, bN F (c + 1 + d) / 2 ^ c % 2 = 1
  | 0 => by
    have h := bN_lt F c
    show (bN F c + (if F c = -1 then 2 ^ c else 0)) / 2 ^ c % 2 = 1
    rw [if_pos hc, Nat.add_div_right _ (Nat.two_pow_pos c), Nat.div_eq_of_lt h]
  | d + 1 => by
    have ih := bN_bit hc d
    show (bN F (c + 1 + d) + (if F (c + 1 + d) = -1 then 2 ^ (c + 1 + d) else 0)) / 2 ^ c % 2 = 1
    split
    · have e : 2 ^ (c + 1 + d) = 2 ^ c * (2 * 2 ^ d) := by
        rw [Nat.pow_add, Nat.pow_add, Nat.mul_assoc]
      rw [e, Nat.add_mul_div_left _ _ (Nat.two_pow_pos c), Nat.add_mul_mod_self_left]
      exact ih
    · exact ih
theorem sm_k : ∀ c, c < 12 → ((nI c &&& 31).toBitVec.smod 32).toNat = c := by decide +kernel
theorem bit_1 {F : Nat → Int32} {c : Nat} (h : F c = -1) (hc : c < 12) : (bA F 12 >>> (nI c &&& 31)) &&& 1 = 1 := by
  have hb := bN_lt F 12
  have e12 : (2 : Nat) ^ 12 = 4096 := rfl
  rw [bA_N F 12 (Nat.le_refl _), pk_shrN (by omega) _ c (sm_k c hc)]
  have lt : bN F 12 / 2 ^ c ≤ bN F 12 := Nat.div_le_self _ _
  rw [pk_andN (m := 1) (by omega) 1 rfl]
  have := bN_bit h (11 - c)
  rw [show c + 1 + (11 - c) = 12 by omega] at this
  rw [show (2 : Nat) ^ 1 = 2 from rfl, this]
  rfl
theorem bit_0 {F : Nat → Int32} (h : F 0 = -1) : bA F 6 &&& 1 = 1 := by
  have hb := bN_lt F 6
  have e6 : (2 : Nat) ^ 6 = 64 := rfl
  rw [bA_N F 6 (by decide), pk_andN (m := 1) (by omega) 1 rfl]
  have := bN_bit h 5
  rw [show 0 + 1 + 5 = 6 from rfl, show (2 : Nat) ^ 0 = 1 from rfl, Nat.div_one] at this
  rw [show (2 : Nat) ^ 1 = 2 from rfl, this]
  rfl
theorem tells_0 (h : pw g L y a v) (hL : 1 ≤ L ∧ L ≤ 5) (hy : y ≤ 60) (hv : smN v 24 = 0) (hf : ∀ j, j < 9 → f j = nI (psN y 100 (j + 1) (a 0))) : p_tells ta0 g f 0 9 L 1 0 = -1 := by
  unfold p_tells
  rw [if_pos rfl]
  exact fo_pl h hL hy hv hf
theorem tells_2 (h : pw g L y a v) (hL : 1 ≤ L ∧ L ≤ 5) (hy : y ≤ 60) (hv : smN v 24 = 0) (hf : ∀ j, j < 9 → f j = nI (psN y 100 (j + 1) (a 0))) : p_tells ta0 g f 0 9 L 1 2 = 1023 := by
  rw [pt_2, bA_all (F := FF ta0 f 0 9 g 4 0 0) 10 (fun k _ => fo_pl (pw_sup4 h (nI k + 0)) hL hy hv hf)]
  decide
theorem tells_4 (h : pw g L y a v) (hL : 1 ≤ L ∧ L ≤ 5) (hy : y ≤ 60) (hv : smN v 24 = 0) (hf : ∀ j, j < 9 → f j = nI (psN y 100 (j + 1) (a 0))) : p_tells ta0 g f 0 9 L 1 4 = 199 := by
  rw [pt_4, cA_all (F := FF ta0 f 0 9 g 6 0 (-99)) 199 (fun k _ => fo_pl (pw_sup6 h (nI k + -99)) hL hy hv hf)]
  rfl
theorem tells_5 (h : pw g L y a v) (hL : 1 ≤ L ∧ L ≤ 5) (hy : y ≤ 60) (hv : smN v 24 = 0) (hf : ∀ j, j < 9 → f j = nI (psN y 100 (j + 1) (a 0))) : p_tells ta0 g f 0 9 L 1 5 = -99 := by
  rw [pt_5]
  unfold lf
  rw [if_pos (show FF ta0 f 0 9 g 6 0 (-99) 0 = -1 from fo_pl (pw_sup6 h (nI 0 + -99)) hL hy hv hf)]
  decide
theorem tells_1 (h : pw g L y a v) (hL : 1 ≤ L ∧ L ≤ 5) (hy : y ≤ 60) (hv : smN v 24 = 0) (hf : ∀ j, j < 9 → f j = nI (psN y 100 (j + 1) (a 0))) : p_tells ta0 g f 0 9 L 1 1 &&& 1 = 1 := by
  rw [pt_1]
  refine bit_0 ?_
  show fo ta0 (sup g 3 0 (nI 0 + 0)) f (nI 0) 9 0 = -1
  have e : sup g 3 0 (nI 0 + 0) = g := by
    have q := sup_self g 3 0
    rw [(h.2.2.2.2.2 0 (by omega)).1] at q
    exact q
  rw [e]
  exact fo_pl h hL hy hv hf
theorem tells_3 (h : pw g L y a v) (hL : 1 ≤ L ∧ L ≤ 5) (hy : y ≤ 60) (hv : smN v 24 = 0) (hf : ∀ j, j < 9 → f j = nI (psN y 100 (j + 1) (a 0))) : (p_tells ta0 g f 0 9 L 1 3 >>> (nI (a 0) &&& 31)) &&& 1 = 1 := by
  obtain ⟨_, e5, q5⟩ := h.2.2.2.2.2 0 (by omega)
  rw [pt_3]
  refine bit_1 ?_ q5
  show fo ta0 (sup g 5 0 (nI (a 0) + 0)) f (nI 0) 9 0 = -1
  have e : sup g 5 0 (nI (a 0) + 0) = g := by
    have q := sup_self g 5 0
    rw [e5] at q
    rw [Int32.add_zero]
    exact q
  rw [e]
  exact fo_pl h hL hy hv hf
end TO
