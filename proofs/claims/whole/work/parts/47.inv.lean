/-! what holds between the calls -/
def mtx (S : ri_H) (a : Nat) (c0 c1 c2 : List Int32) : Prop := ∃ (f : Nat → Int32) (n : Nat), n ≤ 160 ∧ S.1 52 a = nI n ∧ (∀ j, j < n → S.1 51 (160 * a + j) = f j ∧ 0 ≤ f j) ∧ ptx f n = .inr (c0, c1, c2)
def gmk (S : ri_H) : Nat → Nat → Int32 := fun o =>
  if o = 0 then (fun j => if j = 9 then S.1 50 36 else if j = 10 then S.1 50 37 else if j = 11 then S.1 50 38 else 0)
  else if o = 1 then nz 24 (S.1 63) else if o = 2 then nz 24 (S.1 64)
  else if o = 3 then nz 5 (fun p => S.1 65 (5 * p + 4)) else if o = 4 then nz 5 (fun p => S.1 65 (5 * p))
  else if o = 5 then nz 5 (fun p => S.1 65 (5 * p + 1)) else if o = 6 then nz 5 (fun p => S.1 65 (5 * p + 2))
  else if o = 7 then nz 5 (fun p => S.1 65 (5 * p + 3)) else fun _ => 0
/-- a world as it may be -/
def gwd (T : Nat) (g : Nat → Nat → Int32) : Prop := gok g ∧ (∃ y, y ≤ 999 ∧ g 0 10 = nI y) ∧ ∃ r, r < T ∧ g 0 11 = nI r
def rW (T : Nat) (S : ri_H) : Prop := gw S 10 = gm S ∧ gwd T (gm S)
def rT (T : Nat) (τ : Int32 → Int32 → List Int32) (S : ri_H) : Prop := 1 ≤ T ∧ T ≤ 6 ∧ S.1 1 3 = nI T ∧ S.1 50 3 = nI T ∧ ∀ a, a < T → ttx S a (τ (nI a) 0) (τ (nI a) 1) (τ (nI a) 2) ∧ mtx S a (τ (nI a) 0) (τ (nI a) 1) (τ (nI a) 2)
def rP (S : ri_H) : Prop := ∃ n, n ≤ 160 ∧ S.1 5 4 = nI n ∧ S.1 50 6 = nI n ∧ ∀ j, j < n → S.1 53 j = S.1 6 j ∧ 0 ≤ S.1 6 j
def rI (T : Nat) (S : ri_H) : Prop := (S.1 0 10 = 0 ∧ S.1 50 36 = -1) ∨ (S.1 0 10 = 1 ∧ gw S 28 = gmk S ∧ gwd T (gmk S))
def shr (S : ri_H) (s : Nat) : Prop := (S.1 (38 + 2 * s) 1 = -1 ∧ S.1 66 s = 0) ∨ ∃ t z, t < 3 ∧ z ≤ 40 ∧ S.1 (38 + 2 * s) 1 = nI t ∧ S.1 (38 + 2 * s) 2 = nI z ∧ S.1 66 s = 1 ∧ S.1 67 s = nI t ∧ S.1 68 s = nI z ∧ ∀ j, j < z → S.1 (39 + 2 * s) j = S.1 69 (40 * s + j)
def rS (S : ri_H) : Prop := ∀ s, s < 4 → shr S s
def R (T : Nat) (τ : Int32 → Int32 → List Int32) (S : ri_H) : Prop := rW T S ∧ rT T τ S ∧ rP S ∧ rI T S ∧ rS S
def RR (S : ri_H) : Prop := ∃ T τ, R T τ S
/-! what each of these needs -/
def kT (S S' : ri_H) : Prop := S'.1 1 3 = S.1 1 3 ∧ S'.1 2 = S.1 2 ∧ S'.1 3 = S.1 3 ∧ S'.1 50 3 = S.1 50 3 ∧ S'.1 51 = S.1 51 ∧ S'.1 52 = S.1 52
def kP (S S' : ri_H) : Prop := S'.1 5 4 = S.1 5 4 ∧ S'.1 50 6 = S.1 50 6 ∧ S'.1 6 = S.1 6 ∧ S'.1 53 = S.1 53
def kI (S S' : ri_H) : Prop := S'.1 0 10 = S.1 0 10 ∧ S'.1 50 36 = S.1 50 36 ∧ gw S' 28 = gw S 28 ∧ gmk S' = gmk S
def kS (S S' : ri_H) : Prop := (∀ c, 38 ≤ c → c ≤ 45 → S'.1 c = S.1 c) ∧ S'.1 66 = S.1 66 ∧ S'.1 67 = S.1 67 ∧ S'.1 68 = S.1 68 ∧ S'.1 69 = S.1 69
def kW (S S' : ri_H) : Prop := gw S' 10 = gw S 10 ∧ gm S' = gm S
section KEEP
variable {S S1 S' : ri_H} {X F : List Nat} {T : Nat} {τ : Int32 → Int32 → List Int32}
theorem kT_tr (h : kT S S1) (h2 : kT S1 S') : kT S S' := ⟨h2.1.trans h.1, h2.2.1.trans h.2.1, h2.2.2.1.trans h.2.2.1, h2.2.2.2.1.trans h.2.2.2.1, h2.2.2.2.2.1.trans h.2.2.2.2.1, h2.2.2.2.2.2.trans h.2.2.2.2.2⟩
theorem kP_tr (h : kP S S1) (h2 : kP S1 S') : kP S S' := ⟨h2.1.trans h.1, h2.2.1.trans h.2.1, h2.2.2.1.trans h.2.2.1, h2.2.2.2.trans h.2.2.2⟩
theorem kI_tr (h : kI S S1) (h2 : kI S1 S') : kI S S' := ⟨h2.1.trans h.1, h2.2.1.trans h.2.1, h2.2.2.1.trans h.2.2.1, h2.2.2.2.trans h.2.2.2⟩
theorem kS_tr (h : kS S S1) (h2 : kS S1 S') : kS S S' := ⟨fun c a b => (h2.1 c a b).trans (h.1 c a b), h2.2.1.trans h.2.1, h2.2.2.1.trans h.2.2.1, h2.2.2.2.1.trans h.2.2.2.1, h2.2.2.2.2.trans h.2.2.2.2⟩
theorem kW_tr (h : kW S S1) (h2 : kW S1 S') : kW S S' := ⟨h2.1.trans h.1, h2.2.trans h.2⟩
theorem kT_ag (h : ag X S S') (hX : ∀ c, c ∈ [1, 2, 3, 50, 51, 52] → c ∉ X) : kT S S' := by
  refine ⟨?_, (h 2 (hX 2 (by decide))).1, (h 3 (hX 3 (by decide))).1, ?_, (h 51 (hX 51 (by decide))).1, (h 52 (hX 52 (by decide))).1⟩
  · rw [(h 1 (hX 1 (by decide))).1]
  · rw [(h 50 (hX 50 (by decide))).1]
theorem kT_am (h : am X F S S') (hX : ∀ c, c ∈ [1, 2, 3, 51, 52] → c ∉ X) (h3 : 3 ∉ F) : kT S S' := by
  refine ⟨?_, (h.1 2 (hX 2 (by decide)) (by decide)).1, (h.1 3 (hX 3 (by decide)) (by decide)).1, (h.2 3 h3).1, (h.1 51 (hX 51 (by decide)) (by decide)).1, (h.1 52 (hX 52 (by decide)) (by decide)).1⟩
  rw [(h.1 1 (hX 1 (by decide)) (by decide)).1]
theorem kP_ag (h : ag X S S') (hX : ∀ c, c ∈ [5, 6, 50, 53] → c ∉ X) : kP S S' := by
  refine ⟨?_, ?_, (h 6 (hX 6 (by decide))).1, (h 53 (hX 53 (by decide))).1⟩
  · rw [(h 5 (hX 5 (by decide))).1]
  · rw [(h 50 (hX 50 (by decide))).1]
theorem kP_am (h : am X F S S') (hX : ∀ c, c ∈ [5, 6, 53] → c ∉ X) (h6 : 6 ∉ F) : kP S S' := by
  refine ⟨?_, (h.2 6 h6).1, (h.1 6 (hX 6 (by decide)) (by decide)).1, (h.1 53 (hX 53 (by decide)) (by decide)).1⟩
  rw [(h.1 5 (hX 5 (by decide)) (by decide)).1]
theorem gmk_ag (h : ag X S S') (hX : ∀ c, c ∈ [50, 63, 64, 65] → c ∉ X) : gmk S' = gmk S := by
  unfold gmk
  rw [(h 50 (hX 50 (by decide))).1, (h 63 (hX 63 (by decide))).1, (h 64 (hX 64 (by decide))).1, (h 65 (hX 65 (by decide))).1]
theorem gmk_am (h : am X F S S') (hX : ∀ c, c ∈ [63, 64, 65] → c ∉ X) (hF : ∀ c, c ∈ [36, 37, 38] → c ∉ F) : gmk S' = gmk S := by
  unfold gmk
  rw [(h.2 36 (hF 36 (by decide))).1, (h.2 37 (hF 37 (by decide))).1, (h.2 38 (hF 38 (by decide))).1, (h.1 63 (hX 63 (by decide)) (by decide)).1, (h.1 64 (hX 64 (by decide)) (by decide)).1, (h.1 65 (hX 65 (by decide)) (by decide)).1]
theorem gm_ag (h : ag X S S') (hX : ∀ c, c ∈ [50, 54, 55, 56] → c ∉ X) : gm S' = gm S := by
  unfold gm
  rw [(h 50 (hX 50 (by decide))).1, (h 54 (hX 54 (by decide))).1, (h 55 (hX 55 (by decide))).1, (h 56 (hX 56 (by decide))).1]
theorem gw_am {w : Nat} (hw : w + 8 ≤ 50) (h : am X F S S') (hX : ∀ o, o < 8 → w + o ∉ X) : gw S' w = gw S w := by
  funext o
  unfold gw
  by_cases h0 : o = 0
  · subst h0
    rw [if_pos rfl, if_pos rfl, (h.1 w (hX 0 (by omega)) (by omega)).1]
  · rw [if_neg h0, if_neg h0]
    by_cases h1 : o < 8
    · rw [(h.1 (w + o) (hX o h1) (by omega)).1]
    · have : gsz o = 0 := by
        unfold gsz
        rw [if_neg (by omega), if_neg (by omega), if_neg h1]
      rw [this]
      funext j
      unfold nz
      rw [if_neg (by omega), if_neg (by omega)]
theorem lt8 {P : Nat → Prop} (h0 : P 0) (h1 : P 1) (h2 : P 2) (h3 : P 3) (h4 : P 4) (h5 : P 5) (h6 : P 6) (h7 : P 7) : ∀ o, o < 8 → P o
  | 0, _ => h0
  | 1, _ => h1
  | 2, _ => h2
  | 3, _ => h3
  | 4, _ => h4
  | 5, _ => h5
  | 6, _ => h6
  | 7, _ => h7
  | o + 8, h => absurd h (by omega)
def w8l (w : Nat) : List Nat := [w, w + 1, w + 2, w + 3, w + 4, w + 5, w + 6, w + 7]
theorem in8 {w : Nat} (hX : ∀ c, c ∈ w8l w → c ∉ X) : ∀ o, o < 8 → w + o ∉ X := fun o ho => hX (w + o) (by
  refine lt8 (P := fun o => w + o ∈ w8l w) ?_ ?_ ?_ ?_ ?_ ?_ ?_ ?_ o ho <;> simp [w8l])
theorem kI_ag (h : ag X S S') (hX : ∀ c, c ∈ [0, 50, 63, 64, 65] → c ∉ X) (h28 : ∀ c, c ∈ w8l 28 → c ∉ X) : kI S S' := by
  refine ⟨?_, ?_, gw_ag h (in8 h28), gmk_ag h (fun c hc => hX c (List.mem_cons_of_mem _ hc))⟩
  · rw [(h 0 (hX 0 (by decide))).1]
  · rw [(h 50 (hX 50 (by decide))).1]
theorem kI_am (h : am X F S S') (hX : ∀ c, c ∈ [0, 63, 64, 65] → c ∉ X) (h28 : ∀ c, c ∈ w8l 28 → c ∉ X) (hF : ∀ c, c ∈ [36, 37, 38] → c ∉ F) : kI S S' := by
  refine ⟨?_, (h.2 36 (hF 36 (by decide))).1, gw_am (by decide) h (in8 h28), gmk_am h (fun c hc => hX c (List.mem_cons_of_mem _ hc)) hF⟩
  rw [(h.1 0 (hX 0 (by decide)) (by decide)).1]
theorem kS_ag (h : ag X S S') (hX : ∀ c, c ∈ [66, 67, 68, 69] → c ∉ X) (h38 : ∀ c, c ∈ w8l 38 → c ∉ X) : kS S S' := by
  refine ⟨fun c a b => ?_, (h 66 (hX 66 (by decide))).1, (h 67 (hX 67 (by decide))).1, (h 68 (hX 68 (by decide))).1, (h 69 (hX 69 (by decide))).1⟩
  have := in8 h38 (c - 38) (by omega)
  rw [show 38 + (c - 38) = c by omega] at this
  exact (h c this).1
theorem kS_am (h : am X F S S') (hX : ∀ c, c ∈ [66, 67, 68, 69] → c ∉ X) (h38 : ∀ c, c ∈ w8l 38 → c ∉ X) : kS S S' := by
  refine ⟨fun c a b => ?_, (h.1 66 (hX 66 (by decide)) (by decide)).1, (h.1 67 (hX 67 (by decide)) (by decide)).1, (h.1 68 (hX 68 (by decide)) (by decide)).1, (h.1 69 (hX 69 (by decide)) (by decide)).1⟩
  have := in8 h38 (c - 38) (by omega)
  rw [show 38 + (c - 38) = c by omega] at this
  exact (h.1 c this (by omega)).1
theorem kW_ag (h : ag X S S') (hX : ∀ c, c ∈ [50, 54, 55, 56] → c ∉ X) (h10 : ∀ c, c ∈ w8l 10 → c ∉ X) : kW S S' := ⟨gw_ag h (in8 h10), gm_ag h hX⟩
theorem rT_k (h : rT T τ S) (k : kT S S') : rT T τ S' := by
  unfold rT ttx mtx at h ⊢
  obtain ⟨k1, k2, k3, k4, k5, k6⟩ := k
  rw [k1, k2, k3, k4, k5, k6]
  exact h
theorem rP_k (h : rP S) (k : kP S S') : rP S' := by
  unfold rP at h ⊢
  obtain ⟨k1, k2, k3, k4⟩ := k
  rw [k1, k2, k3, k4]
  exact h
theorem rI_k (h : rI T S) (k : kI S S') : rI T S' := by
  unfold rI at h ⊢
  obtain ⟨k1, k2, k3, k4⟩ := k
  rw [k1, k2, k3, k4]
  exact h
theorem shr_k {s : Nat} (hs : s < 4) (h : shr S s) (k : kS S S') : shr S' s := by
  unfold shr at h ⊢
  obtain ⟨k1, k2, k3, k4, k5⟩ := k
  rw [k1 (38 + 2 * s) (by omega) (by omega), k1 (39 + 2 * s) (by omega) (by omega), k2, k3, k4, k5]
  exact h
theorem rS_k (h : rS S) (k : kS S S') : rS S' := fun s hs => shr_k hs (h s hs) k
theorem rW_k (h : rW T S) (k : kW S S') : rW T S' := by
  unfold rW at h ⊢
  rw [k.1, k.2]
  exact h
/-- the calls that change nothing of this -/
def CX : List Nat := [4, 18, 19, 20, 21, 22, 23, 24, 25, 26, 27, 46, 47, 48, 49]
def MX : List Nat := [54, 55, 56, 57, 58, 59, 60, 61, 62]
def MF : List Nat := 4 :: 7 :: F1
theorem R_q (h : R T τ S) (a : ag CX S S1) (b : am MX MF S1 S') (g : gm S' = gm S1) : R T τ S' := by
  obtain ⟨h1, h2, h3, h4, h5⟩ := h
  refine ⟨rW_k h1 ?_, rT_k h2 (kT_tr (kT_ag a (by decide)) (kT_am b (by decide) (by decide))), rP_k h3 (kP_tr (kP_ag a (by decide)) (kP_am b (by decide) (by decide))), rI_k h4 (kI_tr (kI_ag a (by decide) (by decide)) (kI_am b (by decide) (by decide) (by decide))), rS_k h5 (kS_tr (kS_ag a (by decide) (by decide)) (kS_am b (by decide) (by decide)))⟩
  exact kW_tr (kW_ag a (by decide) (by decide)) ⟨gw_am (by decide) b (in8 (by decide)), g⟩
theorem RR_q (h : RR S) (a : ag CX S S1) (b : am MX MF S1 S') (g : gm S' = gm S1) : RR S' := by
  obtain ⟨T, τ, h⟩ := h
  exact ⟨T, τ, R_q h a b g⟩
theorem RR_0 (h : RR S) (b : am MX MF S S') (g : gm S' = gm S) : RR S' := RR_q h (ag_refl _ _) b g
end KEEP
/-! texts, as the worlds ask for them -/
section TX
variable {S : ri_H} {T : Nat} {τ : Int32 → Int32 → List Int32}
theorem k4i {a b : Nat} (ha : a < 6) (hb : b < 4) : nI a * 4 + nI b = nI (4 * a + b) := by
  have e : nI a * 4 = nI (a * 4) := pk_mul a 4
  rw [e, nI_add, Nat.mul_comm]
theorem app_len {c0 c1 c2 : List Int32} : (c0 ++ (c1 ++ c2)).length = c0.length + c1.length + c2.length := by
  simp [Nat.add_assoc]
theorem tcp_of {a : Nat} (ha : a < 6) {c0 c1 c2 : List Int32} (h : ttx S a c0 c1 c2) : tcp S c0 (nI a) 0 ∧ tcp S c1 (nI a) 1 ∧ tcp S c2 (nI a) 2 := by
  obtain ⟨h0, h1, h2, h3, hc, hl, w0, w1, w2⟩ := h
  rw [app_len] at hl hc
  have z : ∀ b, b < 4 → it (S.1 3) 24 (nI a * 4 + nI b) = S.1 3 (4 * a + b) := fun b hb => by
    rw [k4i ha hb, it_nI _ (by omega) (by decide)]
  have z1 : ∀ b, b < 3 → it (S.1 3) 24 (nI a * 4 + nI b + 1) = S.1 3 (4 * a + (b + 1)) := fun b hb => by
    rw [k4i ha (by omega), nI_1, it_nI _ (by omega) (by decide)]
    rfl
  refine ⟨⟨160 * a, 160 * a + c0.length, (z 0 (by decide)).trans h0, (z1 0 (by decide)).trans h1, fun j hj => ?_, rfl, by omega, by omega, w0⟩, ⟨160 * a + c0.length, 160 * a + c0.length + c1.length, (z 1 (by decide)).trans h1, (z1 1 (by decide)).trans h2, fun j hj => ?_, rfl, by omega, by omega, w1⟩, ⟨160 * a + c0.length + c1.length, 160 * a + c0.length + c1.length + c2.length, (z 2 (by decide)).trans h2, (z1 2 (by decide)).trans h3, fun j hj => ?_, rfl, by omega, by omega, w2⟩⟩
  · rw [hc j (by omega), getD_app1 hj]
  · rw [Nat.add_assoc, hc (c0.length + j) (by omega), getD_app2 (by omega), getD_app1 (by omega)]
    congr 1
    omega
  · rw [Nat.add_assoc, Nat.add_assoc, hc (c0.length + (c1.length + j)) (by omega), getD_app2 (by omega), getD_app2 (by omega)]
    congr 1
    omega
theorem tc_of (h : rT T τ S) {a : Nat} (ha : a < T) : tc S τ (nI a) := by
  have hT := h.2.1
  exact tcp_of (by omega) (h.2.2.2.2 a ha).1
theorem mt_of_R (h : rT T τ S) {a : Nat} (ha : a < T) : mt S τ (nI a) := by
  have hT := h.2.1
  intro b hb S1 Q e1 e2 hQ
  obtain ⟨f, n, h1, h2, h3, h4⟩ := (h.2.2.2.2 a ha).2
  refine w161_ok (f := f) (n := n) (by omega) h1 ((congrFun e2 a).trans h2) (fun j hj => ?_) (fun x v S' e => ?_) (fun c0 c1 c2 S' e am' _ => ?_)
  · rw [e1]
    exact h3 j hj
  · rw [h4] at e
    cases e
  · rw [h4] at e
    cases e
    have := hQ S' am'
    unfold wpt
    rcases hb with rfl | rfl | rfl
    · exact this
    · exact this
    · exact this
end TX
