/-! in how many ways, by how few other turns: over the roads as they are at first -/
def plainTo (g : Nat → Nat → Int32) : Prop := ∀ k, k < 24 → g 1 k = nI (toN k)
theorem to_pl {g : Nat → Nat → Int32} (h : plainTo g) {k : Nat} (hk : k < 24) : p_to g k = toN k := by
  unfold p_to
  rw [h k hk, nI_clamp (by have : toN k < 12 := Nat.mod_lt _ (by decide); omega)]
def waN (v : Nat → Nat) : Nat → Nat → Nat
  | 0 => fun _ => 0
  | k + 1 => upn (waN v k) (toN k) (waN v k (toN k) + v (k / 2))
theorem wa_N {g : Nat → Nat → Int32} (h : plainTo g) (v : Nat → Nat) : ∀ k, k ≤ 24 → p_wa g v k = waN v k
  | 0, _ => rfl
  | k + 1, hk => by
    unfold p_wa waN
    rw [to_pl h (by omega), wa_N h v k (by omega)]
theorem waN_24 (v : Nat → Nat) : ∀ j, j < 12 → waN v 24 j = v ((j + 11) % 12) + v ((j + 10) % 12) := by
  intro j hj
  match j, hj with
  | 0, _ => show 0 + v 10 + v 11 = _; simp only [Nat.zero_add]; exact Nat.add_comm _ _
  | 1, _ => show 0 + v 0 + v 11 = _; simp only [Nat.zero_add]
  | 2, _ => show 0 + v 0 + v 1 = _; simp only [Nat.zero_add]; exact Nat.add_comm _ _
  | 3, _ => show 0 + v 1 + v 2 = _; simp only [Nat.zero_add]; exact Nat.add_comm _ _
  | 4, _ => show 0 + v 2 + v 3 = _; simp only [Nat.zero_add]; exact Nat.add_comm _ _
  | 5, _ => show 0 + v 3 + v 4 = _; simp only [Nat.zero_add]; exact Nat.add_comm _ _
  | 6, _ => show 0 + v 4 + v 5 = _; simp only [Nat.zero_add]; exact Nat.add_comm _ _
  | 7, _ => show 0 + v 5 + v 6 = _; simp only [Nat.zero_add]; exact Nat.add_comm _ _
  | 8, _ => show 0 + v 6 + v 7 = _; simp only [Nat.zero_add]; exact Nat.add_comm _ _
  | 9, _ => show 0 + v 7 + v 8 = _; simp only [Nat.zero_add]; exact Nat.add_comm _ _
  | 10, _ => show 0 + v 8 + v 9 = _; simp only [Nat.zero_add]; exact Nat.add_comm _ _
  | 11, _ => show 0 + v 9 + v 10 = _; simp only [Nat.zero_add]; exact Nat.add_comm _ _
  | j + 12, h => exact absurd h (by omega)
/-- so many things out of n, as the law counts them -/
def chs (n : Nat) : Nat → Nat
  | 0 => 1
  | s + 1 => chs n s * (n - s) / (s + 1)
theorem chs_pas : ∀ n, n < 31 → ∀ s, s < 33 → chs (n + 1) (s + 1) = chs n (s + 1) + chs n s := by decide +kernel
theorem chs_le : ∀ n, n < 31 → ∀ s, s < 33 → chs n s < 2 ^ 31 := by decide +kernel
theorem chs_0 : ∀ n, n < 32 → ∀ s, s < 34 → n < s → chs n s = 0 := by decide +kernel
/-- the ways with fewer than N twos -/
def wsN (n fr j : Nat) : Nat → Nat
  | 0 => 0
  | s + 1 => wsN n fr j s + if (fr + n + s) % 12 = j then chs n s else 0
theorem wsN_up {n fr j : Nat} (hn : n < 31) (hj : j < 12) : ∀ N, N ≤ 32 → wsN (n + 1) fr j (N + 1) = wsN n fr ((j + 11) % 12) (N + 1) + wsN n fr ((j + 10) % 12) N
  | 0, _ => by
    show 0 + (if (fr + (n + 1) + 0) % 12 = j then 1 else 0) = 0 + (if (fr + n + 0) % 12 = (j + 11) % 12 then 1 else 0) + 0
    by_cases c : (fr + (n + 1) + 0) % 12 = j
    · rw [if_pos c, if_pos (by omega)]
    · rw [if_neg c, if_neg (by omega)]
  | N + 1, h => by
    have ih := wsN_up (fr := fr) hn hj N (by omega)
    show wsN (n + 1) fr j (N + 1) + (if (fr + (n + 1) + (N + 1)) % 12 = j then chs (n + 1) (N + 1) else 0) = wsN n fr ((j + 11) % 12) (N + 1) + (if (fr + n + (N + 1)) % 12 = (j + 11) % 12 then chs n (N + 1) else 0) + (wsN n fr ((j + 10) % 12) N + (if (fr + n + N) % 12 = (j + 10) % 12 then chs n N else 0))
    rw [ih, chs_pas n hn N (by omega)]
    by_cases c : (fr + (n + 1) + (N + 1)) % 12 = j
    · rw [if_pos c, if_pos (by omega), if_pos (by omega)]
      omega
    · rw [if_neg c, if_neg (by omega), if_neg (by omega)]
      omega
theorem ws_N {g : Nat → Nat → Int32} (h : plainTo g) {fr : Nat} (hf : fr < 12) : ∀ n, n ≤ 30 → ∀ j, j < 12 → p_ws g fr n j = wsN n fr j (n + 1)
  | 0, _, j, hj => by
    show (if j = fr then 1 else 0) = 0 + (if (fr + 0 + 0) % 12 = j then 1 else 0)
    by_cases c : j = fr
    · rw [if_pos c, if_pos (by omega)]
    · rw [if_neg c, if_neg (by omega)]
  | n + 1, hn, j, hj => by
    have ih := ws_N h hf n (by omega)
    unfold p_ws
    rw [wa_N h _ 24 (Nat.le_refl _), waN_24 _ j hj, ih _ (Nat.mod_lt _ (by decide)), ih _ (Nat.mod_lt _ (by decide)), wsN_up (by omega) hj (n + 1) (by omega)]
    congr 1
    show _ = wsN n fr ((j + 11) % 12) (n + 1) + (if (fr + n + (n + 1)) % 12 = (j + 11) % 12 then chs n (n + 1) else 0)
    rw [chs_0 n (by omega) (n + 1) (by omega) (by omega)]
    split <;> rfl
theorem wsN_bd {n fr j : Nat} (hn : n < 31) : ∀ s, s ≤ 33 → wsN n fr j s ≤ s * 2 ^ 31
  | 0, _ => Nat.zero_le _
  | s + 1, h => by
    have ih := wsN_bd (fr := fr) (j := j) hn s (by omega)
    have h1 := chs_le n hn s (by omega)
    show wsN n fr j s + (if (fr + n + s) % 12 = j then chs n s else 0) ≤ (s + 1) * 2 ^ 31
    obtain ⟨B, hB⟩ : ∃ B, B = 2 ^ 31 := ⟨_, rfl⟩
    rw [← hB] at ih h1 ⊢
    rw [Nat.succ_mul]
    split <;> omega
theorem eu_dvd : ∀ f a b, ed f a b → eu f a b ∣ a ∧ eu f a b ∣ b
  | 0, a, b, h => by
    have h : b = 0 := h
    subst h
    exact ⟨Nat.dvd_refl a, Nat.dvd_zero a⟩
  | f + 1, a, b, h => by
    unfold eu
    by_cases c : b = 0
    · rw [if_pos c, c]
      exact ⟨Nat.dvd_refl a, Nat.dvd_zero a⟩
    · rw [if_neg c]
      have h : ed f b (a % b) := by
        rcases h with h | h
        · exact absurd h c
        · exact h
      obtain ⟨h1, h2⟩ := eu_dvd f b (a % b) h
      refine ⟨?_, h1⟩
      have e : b * (a / b) + a % b = a := Nat.div_add_mod a b
      have q : eu f b (a % b) ∣ b * (a / b) + a % b := Nat.dvd_add (Nat.dvd_trans h1 (Nat.dvd_mul_right b (a / b))) h2
      rw [e] at q
      exact q
/-! by how few other turns -/
def mjN (r v : Nat → Nat) : Nat → Nat → Nat
  | 0 => fun _ => 1000
  | k + 1 => les (mjN r v k) (toN k) (v (k / 2) + (if r (k / 2) = k % 2 then 0 else 1))
theorem mj_N {g : Nat → Nat → Int32} (h : plainTo g) (r v : Nat → Nat) : ∀ k, k ≤ 24 → p_mj g r v k = mjN r v k
  | 0, _ => rfl
  | k + 1, hk => by
    unfold p_mj mjN
    rw [to_pl h (by omega), mj_N h r v k (by omega)]
def mn3 (x y : Nat) : Nat := if y < (if x < 1000 then x else 1000) then y else (if x < 1000 then x else 1000)
theorem mn3_c (x y : Nat) : mn3 x y = mn3 y x := by
  unfold mn3
  (repeat' split) <;> omega
/-- by ROAD 0 from the one before, by ROAD 1 from the one before that -/
def w0r (r v : Nat → Nat) (c : Nat) : Nat := v c + (if r c = 0 then 0 else 1)
def w1r (r v : Nat → Nat) (c : Nat) : Nat := v c + (if r c = 1 then 0 else 1)
theorem mjN_24 (r v : Nat → Nat) : ∀ j, j < 12 → mjN r v 24 j = mn3 (w1r r v ((j + 10) % 12)) (w0r r v ((j + 11) % 12)) := by
  intro j hj
  match j, hj with
  | 0, _ => rfl
  | 1, _ => exact (show mjN r v 24 1 = mn3 (w0r r v 0) (w1r r v 11) from rfl).trans (mn3_c _ _)
  | 2, _ => rfl
  | 3, _ => rfl
  | 4, _ => rfl
  | 5, _ => rfl
  | 6, _ => rfl
  | 7, _ => rfl
  | 8, _ => rfl
  | 9, _ => rfl
  | 10, _ => rfl
  | 11, _ => rfl
  | j + 12, h => exact absurd h (by omega)
def rrN (y c : Nat) : Nat := (c + y) % 2
theorem rr_pl {g : Nat → Nat → Int32} {L y0 : Nat} {a v : Nat → Nat} (h : pw g L y0 a v) (hL : 1 ≤ L) {y c : Nat} (hc : c < 12) (hy : y ≤ 80) : p_rr ta0 g y 0 c = rrN y c := by
  unfold p_rr
  have e : p_tk ta0 (wld g y 0 c) (nI 0) = nI ((c + y) % 2) := tk_pl (by decide) (show g 3 0 = 0 from (h.2.2.2.2.2 0 (by omega)).1) (show upd (g 5) 0 (nI c) 0 = nI c from pk_us) (show upd (g 0) 10 (nI y) 10 = nI y from pk_us) (show upd (g 0) 10 (nI y) 11 = nI 0 by rw [pk_un (by decide)]; exact h.2.2.1) (by omega)
  rw [e, nI_clamp (by omega)]
  rfl
/-- where one is who goes always by a road, and how often one wouldn't by oneself -/
def cnN (road : Nat) (c0 : Nat) : Nat → Nat
  | 0 => c0
  | k + 1 => (cnN road c0 k + 1 + road) % 12
def otN (road y c0 : Nat) : Nat → Nat
  | 0 => 0
  | k + 1 => otN road y c0 k + if (cnN road c0 k + (y + k)) % 2 = road then 0 else 1
theorem otN_le (road y c0 : Nat) : ∀ k, otN road y c0 k ≤ k
  | 0 => Nat.le_refl _
  | k + 1 => by
    have ih := otN_le road y c0 k
    show otN road y c0 k + (if (cnN road c0 k + (y + k)) % 2 = road then 0 else 1) ≤ k + 1
    split <;> omega
theorem cnN_lt (road : Nat) {c0 : Nat} (h : c0 < 12) : ∀ k, cnN road c0 k < 12
  | 0 => h
  | _ + 1 => Nat.mod_lt _ (by decide)
theorem cnN_eq (road : Nat) {c0 : Nat} (h : c0 < 12) : ∀ k, cnN road c0 k = (c0 + k * (1 + road)) % 12
  | 0 => by
    show c0 = _
    omega
  | k + 1 => by
    show (cnN road c0 k + 1 + road) % 12 = _
    rw [cnN_eq road h k, Nat.succ_mul]
    omega
theorem mn3_l {x y : Nat} (hx : x ≤ 999) (hy : 1000 ≤ y) : mn3 x y = x := by
  unfold mn3
  rw [if_pos (show x < 1000 by omega), if_neg (by omega)]
theorem mn3_r {x y : Nat} (hx : 1000 ≤ x) (hy : y ≤ 999) : mn3 x y = y := by
  unfold mn3
  rw [if_neg (show ¬ x < 1000 by omega), if_pos (by omega)]
theorem mn3_o {x y : Nat} (hx : 1000 ≤ x) (hy : 1000 ≤ y) : mn3 x y = 1000 := by
  unfold mn3
  rw [if_neg (show ¬ x < 1000 by omega), if_neg (by omega)]
section FW
variable {g : Nat → Nat → Int32} {L y : Nat} {a v : Nat → Nat} {c0 : Nat}
theorem fw_s (h : pw g L y a v) (hL : 1 ≤ L) {t : Nat} (ht : t ≤ 30) (hy : y + t ≤ 80) {j : Nat} (hj : j < 12) : p_fw ta0 g y 0 c0 (t + 1) j = mn3 (w1r (p_rr ta0 g (y + t) 0) (p_fw ta0 g y 0 c0 t) ((j + 10) % 12)) (w0r (p_rr ta0 g (y + t) 0) (p_fw ta0 g y 0 c0 t) ((j + 11) % 12)) := by
  show p_mj g (p_rr ta0 g (y + t) 0) (p_fw ta0 g y 0 c0 t) 24 j = _
  rw [mj_N h.2.2.2.1 _ _ 24 (Nat.le_refl _), mjN_24 _ _ j hj]
/-- where one can't be yet -/
theorem fw_out (h : pw g L y a v) (hL : 1 ≤ L) (hc : c0 < 12) : ∀ t, t ≤ 10 → y + t ≤ 80 → ∀ j, j < 12 → t < (j + 24 - c0 - t) % 12 → p_fw ta0 g y 0 c0 t j = 1000
  | 0, _, _, j, hj, ho => by
    show (if j = c0 then 0 else 1000) = 1000
    rw [if_neg (by omega)]
  | t + 1, ht, hy, j, hj, ho => by
    rw [fw_s h hL (by omega) (by omega) hj]
    have i1 := fw_out h hL hc t (by omega) (by omega) ((j + 10) % 12) (Nat.mod_lt _ (by decide)) (by omega)
    have i0 := fw_out h hL hc t (by omega) (by omega) ((j + 11) % 12) (Nat.mod_lt _ (by decide)) (by omega)
    exact mn3_o (by unfold w1r; omega) (by unfold w0r; omega)
theorem fw_end (h : pw g L y a v) (hL : 1 ≤ L) (hc : c0 < 12) {road : Nat} (hr : road ≤ 1) : ∀ t, t ≤ 10 → y + t ≤ 80 → p_fw ta0 g y 0 c0 t (cnN road c0 t) = otN road y c0 t
  | 0, _, _ => by
    show (if c0 = c0 then 0 else 1000) = 0
    rw [if_pos rfl]
  | t + 1, ht, hy => by
    have ih := fw_end h hL hc hr t (by omega) (by omega)
    have lt := cnN_lt road hc t
    have le := otN_le road y c0 t
    have eq := cnN_eq road hc t
    have er := rr_pl h hL (y := y + t) lt (by omega)
    show p_fw ta0 g y 0 c0 (t + 1) ((cnN road c0 t + 1 + road) % 12) = otN road y c0 t + (if (cnN road c0 t + (y + t)) % 2 = road then 0 else 1)
    rw [fw_s h hL (by omega) (by omega) (Nat.mod_lt _ (by decide))]
    rcases (show road = 0 ∨ road = 1 by omega) with z | z
    · subst z
      have o := fw_out h hL hc t (by omega) (by omega) (((cnN 0 c0 t + 1 + 0) % 12 + 10) % 12) (Nat.mod_lt _ (by decide)) (by omega)
      have e : ((cnN 0 c0 t + 1 + 0) % 12 + 11) % 12 = cnN 0 c0 t := by omega
      rw [e]
      unfold w1r w0r
      rw [o, ih, er]
      exact mn3_r (by omega) (by split <;> omega)
    · subst z
      have o := fw_out h hL hc t (by omega) (by omega) (((cnN 1 c0 t + 1 + 1) % 12 + 11) % 12) (Nat.mod_lt _ (by decide)) (by omega)
      have e : ((cnN 1 c0 t + 1 + 1) % 12 + 10) % 12 = cnN 1 c0 t := by omega
      rw [e]
      unfold w1r w0r
      rw [o, ih, er]
      exact mn3_l (by split <;> omega) (by omega)
end FW
