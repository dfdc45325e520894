/-! what holds between the calls -/
/-- a world as it may be -/
def gwd (T : Nat) (g : Nat → Nat → Int32) : Prop := gok g ∧ (∃ y, y ≤ 999 ∧ g 0 10 = nI y) ∧ ∃ r, r < T ∧ g 0 11 = nI r
/-! what each of these needs -/
section KEEP
variable {S S1 S' : ri_H} {X F : List Nat} {T : Nat} {τ : Int32 → Int32 → List Int32}
theorem lt8 {P : Nat → Prop} (h0 : P 0) (h1 : P 1) (h2 : P 2) (h3 : P 3) (h4 : P 4) (h5 : P 5) (h6 : P 6) (h7 : P 7) : ∀ o, o < 8 → P o
  | 0, _ => h0
  | 1, _ => h1
  | 2, _ => h2
  | 3, _ => h3
  | 4, _ => h4
  | 5, _ => h5
  | 6, _ => h6
  | 7, _ => h7
  | o + 8, h => absurd h (by omega)
def w8l (w : Nat) : List Nat := [w, w + 1, w + 2, w + 3, w + 4, w + 5, w + 6, w + 7]
theorem in8 {w : Nat} (hX : ∀ c, c ∈ w8l w → c ∉ X) : ∀ o, o < 8 → w + o ∉ X := fun o ho => hX (w + o) (by
  refine lt8 (P := fun o => w + o ∈ w8l w) ?_ ?_ ?_ ?_ ?_ ?_ ?_ ?_ o ho <;> simp [w8l])
end KEEP
/-! texts, as the worlds ask for them -/
section TX
variable {S : ri_H} {T : Nat} {τ : Int32 → Int32 → List Int32}
theorem k4i {a b : Nat} (ha : a < 6) (hb : b < 4) : nI a * 4 + nI b = nI (4 * a + b) := by
  have e : nI a * 4 = nI (a * 4) := pk_mul a 4
  rw [e, nI_add, Nat.mul_comm]
theorem app_len {c0 c1 c2 : List Int32} : (c0 ++ (c1 ++ c2)).length = c0.length + c1.length + c2.length := by
  simp [Nat.add_assoc]
theorem tcp_of {a : Nat} (ha : a < 6) {c0 c1 c2 : List Int32} (h : ttx S a c0 c1 c2) : tcp S c0 (nI a) 0 ∧ tcp S c1 (nI a) 1 ∧ tcp S c2 (nI a) 2 := by
  obtain ⟨h0, h1, h2, h3, hc, hl, w0, w1, w2⟩ := h
  rw [app_len] at hl hc
  have z : ∀ b, b < 4 → it (S.1 3) 24 (nI a * 4 + nI b) = S.1 3 (4 * a + b) := fun b hb => by
    rw [k4i ha hb, it_nI _ (by omega) (by decide)]
  have z1 : ∀ b, b < 3 → it (S.1 3) 24 (nI a * 4 + nI b + 1) = S.1 3 (4 * a + (b + 1)) := fun b hb => by
    rw [k4i ha (by omega), nI_1, it_nI _ (by omega) (by decide)]
    rfl
  refine ⟨⟨160 * a, 160 * a + c0.length, (z 0 (by decide)).trans h0, (z1 0 (by decide)).trans h1, fun j hj => ?_, rfl, by omega, by omega, w0⟩, ⟨160 * a + c0.length, 160 * a + c0.length + c1.length, (z 1 (by decide)).trans h1, (z1 1 (by decide)).trans h2, fun j hj => ?_, rfl, by omega, by omega, w1⟩, ⟨160 * a + c0.length + c1.length, 160 * a + c0.length + c1.length + c2.length, (z 2 (by decide)).trans h2, (z1 2 (by decide)).trans h3, fun j hj => ?_, rfl, by omega, by omega, w2⟩⟩
  · rw [hc j (by omega), getD_app1 hj]
  · rw [Nat.add_assoc, hc (c0.length + j) (by omega), getD_app2 (by omega), getD_app1 (by omega)]
    congr 1
    omega
  · rw [Nat.add_assoc, Nat.add_assoc, hc (c0.length + (c1.length + j)) (by omega), getD_app2 (by omega), getD_app2 (by omega)]
    congr 1
    omega
end TX
/-! the class alone: what holds between the calls -/
def gm (S : ri_H) : Nat → Nat → Int32 := gw S 10
def rW (T : Nat) (S : ri_H) : Prop := True ∧ gwd T (gm S)
def rT (T : Nat) (τ : Int32 → Int32 → List Int32) (S : ri_H) : Prop := 1 ≤ T ∧ T ≤ 6 ∧ S.1 1 3 = nI T ∧ True ∧ ∀ a, a < T → ttx S a (τ (nI a) 0) (τ (nI a) 1) (τ (nI a) 2) ∧ True
def R (T : Nat) (τ : Int32 → Int32 → List Int32) (S : ri_H) : Prop := rW T S ∧ rT T τ S ∧ True
def CX : List Nat := [4, 18, 19, 20, 21, 22, 23, 24, 25, 26, 27, 46, 47, 48, 49]
section CLASS
variable {S S1 S' : ri_H} {X : List Nat} {T : Nat} {τ : Int32 → Int32 → List Int32}
theorem rT_ag (h : rT T τ S) (a : ag X S S') (hX : ∀ c, c ∈ [1, 2, 3] → c ∉ X) : rT T τ S' := by
  unfold rT ttx at h ⊢
  rw [(a 1 (hX 1 (by decide))).1, (a 2 (hX 2 (by decide))).1, (a 3 (hX 3 (by decide))).1]
  exact h
theorem tc_of (h : rT T τ S) {a : Nat} (ha : a < T) : tc S τ (nI a) := by
  have hT := h.2.1
  exact tcp_of (by omega) (h.2.2.2.2 a ha).1
theorem R_L (h : R T τ S) : ∃ L, L ≤ 5 ∧ S.1 10 9 = nI L ∧ gm S 0 9 = nI L := by
  obtain ⟨L, hL, e⟩ := h.1.2.1.1
  refine ⟨L, hL, ?_, e⟩
  rw [gw_0 S 10 9 (by decide)]
  exact e
theorem R_w (_h : R T τ S) : gw S 10 = gm S := rfl
theorem R_ok (h : R T τ S) : gok (gm S) := h.1.2.1
theorem R_tc (h : R T τ S) : tc S τ (gw S 10 0 11) := by
  obtain ⟨r, hr, e⟩ := h.1.2.2.2
  rw [R_w h, e]
  exact tc_of h.2.1 hr
theorem c_gm (a : ag CX S S1) : gm S1 = gm S := gw_ag a (in8 (by decide))
theorem R_of (h : R T τ S) (a : ag X S S1) (hX : ∀ c, c ∈ [1, 2, 3] → c ∉ X) (hg : gwd T (gm S1)) : R T τ S1 := ⟨⟨trivial, hg⟩, rT_ag h.2.1 a hX, trivial⟩
theorem R_c (h : R T τ S) (a : ag CX S S1) : R T τ S1 := R_of h a (by decide) (by rw [c_gm a]; exact h.1.2)
end CLASS
