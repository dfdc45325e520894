/-! the plain world: the roads as they are at first, plain lives, the rule that is there at first -/
def ta0 : Int32 → Int32 → List Int32 := fun _ b => if b = 0 then [-1, -4, -13] else if b = 1 then [2] else [5]
def toN (k : Nat) : Nat := (k / 2 + 1 + k % 2) % 12
theorem vl_0 (nm : Nat → Int32) : vl nm [-1, -4, -13] = nm 0 + nm 3 := rfl
theorem vl_1 (nm : Nat → Int32) : vl nm [2] = 2 := rfl
theorem vl_2 (nm : Nat → Int32) : vl nm [5] = 5 := rfl
theorem hd_nI {x b : Nat} {lo : Int32} (hx : x ≤ b) (hb : b < 2 ^ 31) (hlo : lo ≤ 0) : hd (nI x) lo (nI b) = nI x := by
  have h0 := Int32.le_iff_toInt_le.mp hlo
  have e0 : (0 : Int32).toInt = 0 := rfl
  have hab : lo ≤ nI b := Int32.le_trans hlo (nI_pos' hb)
  have h1 := hd_int (nI x) lo (nI b) hab
  rw [nI_toInt hb, nI_toInt (n := x) (by omega)] at h1
  apply Int32.toInt_inj.mp
  rw [h1, nI_toInt (n := x) (by omega)]
  split
  · omega
  · split <;> omega
section PL
variable {g : Nat → Nat → Int32} {p c y : Nat}
theorem tl_0 (hp : p < 5) (e5 : g 5 p = nI c) (e10 : g 0 10 = nI y) (hcy : c + y ≤ 99) (x : Int32) : tl ta0 (nI 0) 0 (p_nm g (nI p) x) = nI (c + y) := by
  have e : tl ta0 (nI 0) 0 (p_nm g (nI p) x) = hd (vl (p_nm g (nI p) x) [-1, -4, -13]) (-99) 99 := rfl
  rw [e, vl_0]
  have e1 : p_nm g (nI p) x 0 = nI c := by
    show it (g 5) 5 (nI p) = nI c
    rw [it_nI _ hp (by decide), e5]
  have e2 : p_nm g (nI p) x 3 = nI y := e10
  rw [e1, e2, nI_add]
  exact hd_nI (b := 99) hcy (by decide) (by decide)
theorem tl_1 (nm : Nat → Int32) : tl ta0 (nI 0) 1 nm = 2 := rfl
theorem tl_2 (nm : Nat → Int32) : tl ta0 (nI 0) 2 nm = 5 := rfl
theorem tk_pl (hp : p < 5) (e3 : g 3 p = 0) (e5 : g 5 p = nI c) (e10 : g 0 10 = nI y) (e11 : g 0 11 = nI 0) (hcy : c + y ≤ 99) : p_tk ta0 g (nI p) = nI ((c + y) % 2) := by
  unfold p_tk p_r2 p_r1
  rw [e11, tl_0 hp e5 e10 hcy, it_nI _ hp (by decide), e3]
  rw [if_neg (by decide), if_neg (fun h => absurd h.1 (by decide)), if_neg (by decide), if_neg (by decide), if_pos rfl]
  have e : nI (c + y) - nI (c + y) / 2 * 2 = nI ((c + y) % 2) := pk_rem (d := 2) (by omega) (by decide) (by decide)
  rw [e]
  rcases (show (c + y) % 2 = 0 ∨ (c + y) % 2 = 1 by omega) with h | h
  · rw [h, if_pos (show nI 0 = 0 from rfl)]
    rfl
  · rw [h, if_neg (show ¬ nI 1 = 0 by decide)]
    rfl
theorem pt_pl (hp : p < 5) (e3 : g 3 p = 0) (e11 : g 0 11 = nI 0) : p_pt ta0 g (nI p) = 2 := by
  unfold p_pt
  rw [e11, tl_1, it_nI _ hp (by decide), e3]
  rw [if_neg (by decide), if_neg (by decide), if_neg (by decide), if_neg (by decide), if_neg (by decide)]
  decide
theorem fl_pl (hp : p < 5) (e3 : g 3 p = 0) (e11 : g 0 11 = nI 0) (x : Int32) : p_fl ta0 g (nI p) x = 5 := by
  unfold p_fl p_fk
  rw [e11, tl_2, it_nI _ hp (by decide), e3]
  rw [if_neg (by decide), if_neg (by decide), if_neg (by decide), if_neg (by decide), if_neg (by decide)]
end PL
/-- a plain world: so many lives, the year, where they are, what the jars have -/
def pw (g : Nat → Nat → Int32) (L y : Nat) (a v : Nat → Nat) : Prop := g 0 9 = nI L ∧ g 0 10 = nI y ∧ g 0 11 = nI 0 ∧ (∀ k, k < 24 → g 1 k = nI (toN k)) ∧ (∀ k, k < 24 → g 2 k = nI (v k)) ∧ ∀ p, p < L → g 3 p = 0 ∧ g 5 p = nI (a p) ∧ a p < 12
/-- the road that a life takes; life 0 takes the other one where fl is 1 -/
def rdN (fl y p c : Nat) : Nat := if p = 0 ∧ fl = 1 then 1 - (c + y) % 2 else (c + y) % 2
def stN (fl y p c : Nat) : Nat := (c + 1 + rdN fl y p c) % 12
def vyN (fl y : Nat) (a v : Nat → Nat) : Nat → Nat → Nat
  | 0 => v
  | k + 1 => upn (vyN fl y a v k) (2 * a k + 1 - rdN fl y k (a k)) (vyN fl y a v k (2 * a k + 1 - rdN fl y k (a k)) + 2)
def flI (fl : Nat) : Int32 := if fl = 1 then 0 else -1
theorem rdN_le (fl y p c : Nat) : rdN fl y p c ≤ 1 := by
  unfold rdN
  split <;> omega
def smN (v : Nat → Nat) : Nat → Nat
  | 0 => 0
  | k + 1 => smN v k + v k
theorem smN_up (v : Nat → Nat) {j x : Nat} : ∀ n, smN (upn v j (v j + x)) n = smN v n + if j < n then x else 0
  | 0 => by simp [smN]
  | n + 1 => by
    have ih := smN_up v (j := j) (x := x) n
    unfold smN
    rw [ih]
    unfold upn
    by_cases e : n = j
    · subst e
      simp
      omega
    · rw [if_neg e]
      by_cases c : j < n
      · rw [if_pos c, if_pos (by omega)]
        omega
      · rw [if_neg c, if_neg (by omega)]
        omega
theorem smN_le (v : Nat → Nat) {j : Nat} : ∀ n, j < n → v j ≤ smN v n
  | 0, h => absurd h (Nat.not_lt_zero j)
  | n + 1, h => by
    unfold smN
    rcases Nat.lt_or_ge j n with q | q
    · have := smN_le v n q
      omega
    · have : j = n := by omega
      subst this
      omega
theorem vy_sum {fl y L : Nat} {a v : Nat → Nat} (ha : ∀ p, p < L → a p < 12) : ∀ k, k ≤ L → smN (vyN fl y a v k) 24 = smN v 24 + 2 * k
  | 0, _ => rfl
  | k + 1, hk => by
    unfold vyN
    rw [smN_up, vy_sum ha k (by omega)]
    have h1 := ha k (by omega)
    have h2 := rdN_le fl y k (a k)
    rw [if_pos (by omega)]
    omega
theorem sum_nI {f : Nat → Int32} {v : Nat → Nat} {n : Nat} (h : ∀ k, k < n → f k = nI (v k)) : ∀ k, k ≤ n → p_sum f k = nI (smN v k)
  | 0, _ => rfl
  | k + 1, hk => by
    unfold p_sum smN
    rw [sum_nI h k (by omega), h k (by omega), nI_add]
theorem all_pl {g : Nat → Nat → Int32} {L y : Nat} {a v : Nat → Nat} (h : pw g L y a v) : p_all g = nI (smN v 24) := sum_nI h.2.2.2.2.1 24 (Nat.le_refl _)
section YR
variable {g : Nat → Nat → Int32} {L y fl : Nat} {a v : Nat → Nat}
theorem rt_pl {G : Nat → Nat → Int32} {p c : Nat} (hfl : fl ≤ 1) (hp : p < 5) (e3 : G 3 p = 0) (e5 : G 5 p = nI c) (e10 : G 0 10 = nI y) (e11 : G 0 11 = nI 0) (hcy : c + y ≤ 99) : p_rt ta0 G (flI fl) (nI p) = nI (rdN fl y p c) := by
  unfold p_rt
  rw [tk_pl hp e3 e5 e10 e11 hcy]
  unfold rdN flI
  rcases (show fl = 0 ∨ fl = 1 by omega) with h | h
  · subst h
    rw [if_neg (by decide : ¬ (0 : Nat) = 1), if_neg (fun e => nI_pos (n := p) (by omega) (by rw [e]; decide)), if_neg (fun h => absurd h.2 (by decide))]
  · subst h
    rw [if_pos rfl]
    by_cases e : p = 0
    · subst e
      rw [if_pos (show nI 0 = 0 from rfl), if_pos ⟨rfl, rfl⟩]
      exact pk_sub (a := 1) (by omega)
    · rw [if_neg (show ¬ nI p = 0 from fun q => e (nI_inj (b := 0) (by omega) (by decide) q)), if_neg (fun h => e h.1)]
theorem yl_pl (h : pw g L y a v) (hL : L ≤ 5) (hfl : fl ≤ 1) (hy : y ≤ 80) (hv : smN v 24 + 2 * L ≤ 999) : ∀ k, k ≤ L →
    (∀ j, j < 24 → p_yl ta0 (flI fl) g k 2 j = nI (vyN fl y a v k j)) ∧ (∀ p, p < L → p_yl ta0 (flI fl) g k 5 p = nI (if p < k then stN fl y p (a p) else a p)) ∧ ∀ o, o ≠ 2 → o ≠ 5 → p_yl ta0 (flI fl) g k o = g o
  | 0, _ => ⟨h.2.2.2.2.1, fun p hp => by rw [if_neg (Nat.not_lt_zero p)]; exact (h.2.2.2.2.2 p hp).2.1, fun _ _ _ => rfl⟩
  | k + 1, hk => by
    obtain ⟨i2, i5, io⟩ := yl_pl h hL hfl hy hv k (by omega)
    obtain ⟨h9, h10, h11, h1, h2, hp⟩ := h
    have k5 : k < 5 := by omega
    obtain ⟨q3, q5, q12⟩ := hp k (by omega)
    have e5 := i5 k (by omega)
    rw [if_neg (Nat.lt_irrefl k)] at e5
    have e3 : p_yl ta0 (flI fl) g k 3 k = 0 := by rw [io 3 (by decide) (by decide)]; exact q3
    have e10 : p_yl ta0 (flI fl) g k 0 10 = nI y := by rw [io 0 (by decide) (by decide)]; exact h10
    have e11 : p_yl ta0 (flI fl) g k 0 11 = nI 0 := by rw [io 0 (by decide) (by decide)]; exact h11
    have er := rt_pl (G := p_yl ta0 (flI fl) g k) hfl k5 e3 e5 e10 e11 (by omega)
    have r1 := rdN_le fl y k (a k)
    have ept := pt_pl (g := p_yl ta0 (flI fl) g k) k5 e3 e11
    unfold p_yl p_y1
    rw [er, ept, it_nI _ k5 (by decide), e5, x2_1, pk_sub (by omega), x2_0, nI_add]
    have hj : 2 * a k + 1 - rdN fl y k (a k) < 24 := by omega
    rw [it_nI _ hj (by decide), i2 _ hj, pu_nI _ _ hj (by decide), pu_nI _ _ k5 (by decide), it_nI _ (show 2 * a k + rdN fl y k (a k) < 24 by omega) (by decide), io 1 (by decide) (by decide), h1 _ (by omega)]
    have es := vy_sum (fl := fl) (y := y) (v := v) (fun p hp' => (hp p hp').2.2) k (by omega)
    have le := smN_le (vyN fl y a v k) 24 hj
    have em : p_min (nI (vyN fl y a v k (2 * a k + 1 - rdN fl y k (a k))) + 2) = nI (vyN fl y a v k (2 * a k + 1 - rdN fl y k (a k)) + 2) := by
      have e : nI (vyN fl y a v k (2 * a k + 1 - rdN fl y k (a k))) + 2 = nI (vyN fl y a v k (2 * a k + 1 - rdN fl y k (a k)) + 2) := nI_add _ 2
      rw [e]
      unfold p_min
      rcases Nat.lt_or_ge (vyN fl y a v k (2 * a k + 1 - rdN fl y k (a k)) + 2) 999 with q | q
      · rw [if_pos (show nI (vyN fl y a v k (2 * a k + 1 - rdN fl y k (a k)) + 2) < 999 from nI_lt (b := 999) q (by decide))]
      · rw [if_neg (fun z => by
          have := (nI_ltI (b := 999) (by omega) (by decide)).mp z
          omega)]
        rw [show vyN fl y a v k (2 * a k + 1 - rdN fl y k (a k)) + 2 = 999 by omega]
        rfl
    rw [em]
    refine ⟨fun j hj2 => ?_, fun p hp2 => ?_, fun o ho2 ho5 => ?_⟩
    · rw [gset_o _ _ (by decide), gset_s]
      rw [show vyN fl y a v (k + 1) = upn (vyN fl y a v k) (2 * a k + 1 - rdN fl y k (a k)) (vyN fl y a v k (2 * a k + 1 - rdN fl y k (a k)) + 2) from rfl]
      unfold upd upn
      by_cases e : j = 2 * a k + 1 - rdN fl y k (a k)
      · rw [if_pos e, if_pos e]
      · rw [if_neg e, if_neg e]
        exact i2 j hj2
    · rw [gset_s]
      unfold upd
      by_cases e : p = k
      · subst e
        rw [if_pos rfl, if_pos (by omega)]
        unfold stN toN
        congr 1
        omega
      · rw [if_neg e, i5 p hp2]
        by_cases c : p < k
        · rw [if_pos c, if_pos (by omega)]
        · rw [if_neg c, if_neg (by omega)]
    · rw [gset_o _ _ ho5, gset_o _ _ ho2]
      exact io o ho2 ho5
theorem yr_pl (h : pw g L y a v) (hL : L ≤ 5) (hfl : fl ≤ 1) (hy : y ≤ 80) (hv : smN v 24 + 2 * L ≤ 999) : pw (p_yr ta0 (flI fl) g) L (y + 1) (fun p => stN fl y p (a p)) (vyN fl y a v L) ∧ ∀ o, o ≠ 0 → o ≠ 2 → o ≠ 5 → p_yr ta0 (flI fl) g o = g o := by
  obtain ⟨i2, i5, io⟩ := yl_pl h hL hfl hy hv L (Nat.le_refl _)
  obtain ⟨h9, h10, h11, h1, h2, hp⟩ := h
  have e : p_yr ta0 (flI fl) g = p_ny (p_yl ta0 (flI fl) g L) := by
    unfold p_yr
    rw [h9, nI_clamp (by omega)]
  rw [e]
  unfold p_ny
  have i0 := io 0 (by decide) (by decide)
  rw [i0]
  refine ⟨⟨?_, ?_, ?_, fun k hk => ?_, fun k hk => ?_, fun p hp2 => ⟨?_, ?_, ?_⟩⟩, fun o h0 h2 h5 => ?_⟩
  · rw [gset_s, pk_un (by decide)]
    exact h9
  · rw [gset_s, pk_us, h10, nI_1]
  · rw [gset_s, pk_un (by decide)]
    exact h11
  · rw [gset_o _ _ (by decide), io 1 (by decide) (by decide)]
    exact h1 k hk
  · rw [gset_o _ _ (by decide)]
    exact i2 k hk
  · rw [gset_o _ _ (by decide), io 3 (by decide) (by decide)]
    exact (hp p hp2).1
  · rw [gset_o _ _ (by decide), i5 p hp2, if_pos hp2]
  · exact Nat.mod_lt _ (by decide)
  · rw [gset_o _ _ h0]
    exact io o h2 h5
end YR
/-- where one is after k years, with the other road taken in the year numbered kk (none, if kk isn't below k) -/
def psN (y kk : Nat) : Nat → Nat → Nat
  | 0, c => c
  | k + 1, c => stN (if k = kk then 1 else 0) (y + k) 0 (psN y kk k c)
theorem psN_lt (y kk : Nat) {c : Nat} (hc : c < 12) : ∀ k, psN y kk k c < 12
  | 0 => hc
  | k + 1 => Nat.mod_lt _ (by decide)
section YS
variable {g : Nat → Nat → Int32} {L y : Nat} {a v : Nat → Nat}
theorem yro_pl (kk : Nat) (h : pw g L y a v) (hL : 1 ≤ L ∧ L ≤ 5) : ∀ k, y + k ≤ 80 → smN v 24 + 2 * L * k ≤ 999 → ∃ a' v', pw (yro ta0 g (nI 0) kk k) L (y + k) a' v' ∧ a' 0 = psN y kk k (a 0) ∧ smN v' 24 = smN v 24 + 2 * L * k
  | 0, _, _ => ⟨a, v, h, rfl, by omega⟩
  | k + 1, hy, hv => by
    have e1 : 2 * L * (k + 1) = 2 * L * k + 2 * L := by rw [Nat.mul_add, Nat.mul_one]
    obtain ⟨a', v', h', ea, es⟩ := yro_pl kk h hL k (by omega) (by omega)
    have et : p_t (nI 0) kk k = flI (if k = kk then 1 else 0) := by
      unfold p_t flI
      by_cases c : k = kk
      · rw [if_pos c, if_pos c]
        rfl
      · rw [if_neg c, if_neg c]
        rfl
    have q := (yr_pl (fl := if k = kk then 1 else 0) h' hL.2 (by split <;> omega) (by omega) (by omega)).1
    refine ⟨_, _, by unfold yro; rw [et]; exact q, ?_, ?_⟩
    · show stN _ (y + k) 0 (a' 0) = _
      rw [ea]
      rfl
    · rw [vy_sum (fun p hp => (h'.2.2.2.2.2 p hp).2.2) L (Nat.le_refl _), es]
      omega
theorem yrs_yro (g : Nat → Nat → Int32) (one : Int32) (kk : Nat) : ∀ k, k ≤ kk → yrs ta0 g k = yro ta0 g one kk k
  | 0, _ => rfl
  | k + 1, h => by
    unfold yrs yro
    rw [yrs_yro g one kk k (by omega)]
    unfold p_t
    rw [if_neg (by omega)]
theorem yrs_pl (h : pw g L y a v) (hL : 1 ≤ L ∧ L ≤ 5) {k : Nat} (hy : y + k ≤ 80) (hv : smN v 24 + 2 * L * k ≤ 999) : ∃ a' v', pw (yrs ta0 g k) L (y + k) a' v' ∧ a' 0 = psN y 100 k (a 0) ∧ smN v' 24 = smN v 24 + 2 * L * k := by
  rw [yrs_yro g (nI 0) 100 k (by omega)]
  exact yro_pl 100 h hL k hy hv
theorem at_yrs (h : pw g L y a v) (hL : 1 ≤ L ∧ L ≤ 5) {k : Nat} (hy : y + k ≤ 80) (hv : smN v 24 + 2 * L * k ≤ 999) : it (yrs ta0 g k 5) 5 (nI 0) = nI (psN y 100 k (a 0)) := by
  obtain ⟨a', v', h', ea, _⟩ := yrs_pl h hL hy hv
  rw [it_nI _ (by decide) (by decide), (h'.2.2.2.2.2 0 (by omega)).2.1, ea]
theorem at_yro (kk : Nat) (h : pw g L y a v) (hL : 1 ≤ L ∧ L ≤ 5) {k : Nat} (hy : y + k ≤ 80) (hv : smN v 24 + 2 * L * k ≤ 999) : it (yro ta0 g (nI 0) kk k 5) 5 (nI 0) = nI (psN y kk k (a 0)) := by
  obtain ⟨a', v', h', ea, _⟩ := yro_pl kk h hL k hy hv
  rw [it_nI _ (by decide) (by decide), (h'.2.2.2.2.2 0 (by omega)).2.1, ea]
theorem all_yrs (h : pw g L y a v) (hL : 1 ≤ L ∧ L ≤ 5) {k : Nat} (hy : y + k ≤ 80) (hv : smN v 24 + 2 * L * k ≤ 999) : p_all (yrs ta0 g k) = nI (smN v 24 + 2 * L * k) := by
  obtain ⟨a', v', h', _, es⟩ := yrs_pl h hL hy hv
  rw [all_pl h', es]
theorem bt_nI {c : Nat} (hc : c < 31) : bt (nI c) = (1 : Int32) <<< (nI c &&& 31) := by
  unfold bt
  rw [show wi (nI c) 31 = 1 from wi_1 (n := 31) hc (by decide), if_neg (by decide)]
def seN (y c : Nat) : Nat → Int32
  | 0 => (1 : Int32) <<< (nI c &&& 31)
  | k + 1 => seN y c k ||| (1 : Int32) <<< (nI (psN y 100 (k + 1) c) &&& 31)
theorem seen_pl (h : pw g L y a v) (hL : 1 ≤ L ∧ L ≤ 5) (h0 : a 0 < 12) : ∀ k, y + k ≤ 80 → smN v 24 + 2 * L * k ≤ 999 → p_seen ta0 g (nI 0) k = seN y (a 0) k
  | 0, _, _ => by
    unfold p_seen seN
    rw [it_nI _ (by decide) (by decide), (h.2.2.2.2.2 0 (by omega)).2.1, bt_nI (by omega)]
  | k + 1, hy, hv => by
    have e1 : 2 * L * (k + 1) = 2 * L * k + 2 * L := by rw [Nat.mul_add, Nat.mul_one]
    unfold p_seen seN
    rw [seen_pl h hL h0 k (by omega) (by omega), at_yrs h hL hy hv, bt_nI (by have := psN_lt y 100 h0 (k + 1); omega)]
end YS
