/-! years in thought -/
def yrs (τ : Int32 → Int32 → List Int32) (g : Nat → Nat → Int32) : Nat → Nat → Nat → Int32
  | 0 => g
  | k + 1 => p_yr τ (-1) (yrs τ g k)
theorem yrs_o (τ : Int32 → Int32 → List Int32) (g : Nat → Nat → Int32) {j : Nat} (h : j ≠ 10) : ∀ k, yrs τ g k 0 j = g 0 j
  | 0 => rfl
  | k + 1 => (yr_o τ (-1) (yrs τ g k) h).trans (yrs_o τ g h k)
theorem gok_yrs {τ : Int32 → Int32 → List Int32} {g : Nat → Nat → Int32} (hg : gok g) : ∀ k, gok (yrs τ g k)
  | 0 => hg
  | k + 1 => gok_yr (gok_yrs hg k)
section THOUGHT
variable {T : Nat} {τ : Int32 → Int32 → List Int32} {g0 : Nat → Nat → Int32} {S0 S : ri_H}
/-- the class, in thought -/
def tw (τ : Int32 → Int32 → List Int32) (g0 : Nat → Nat → Int32) (S0 S : ri_H) (k : Nat) : Prop := ag CX S0 S ∧ gw S 19 = yrs τ g0 k
theorem tc_ag2 (h : rT T τ S0) (a : ag CX S0 S) {r : Nat} (hr : r < T) : tc S τ (nI r) := tc_ag a (by decide) (by decide) (tc_of h hr)
theorem w39_t {Q : ri_H → Prop} {k : Nat} (h : rT T τ S0) (hg : gwd T g0) (ht : tw τ g0 S0 S k) (hQ : ∀ S', tw τ g0 S0 S' (k + 1) → Q S') : w39 19 (-1) S Q := by
  obtain ⟨⟨⟨L, hL, eL⟩, _⟩, _, r, hr, er⟩ := hg
  obtain ⟨a, e⟩ := ht
  have e9 : gw S 19 0 9 = nI L := by rw [e, yrs_o _ _ (by decide)]; exact eL
  have e11 : gw S 19 0 11 = nI r := by rw [e, yrs_o _ _ (by decide)]; exact er
  refine w39_ok (Or.inr rfl) e9 (by omega) (by rw [e11]; exact tc_ag2 h a hr) (fun S' a' e' => hQ S' ⟨ag_tr a (ag_mo a' (by decide)), ?_⟩)
  rw [e', e]
  rfl
theorem w33_t {Q : ri_H → Prop} (hQ : ∀ S', ag CX S S' → gw S' 19 = gw S 10 → Q S') : w33 19 10 S Q :=
  w33_ok (Or.inr (Or.inl ⟨rfl, rfl⟩)) (fun S' a e => hQ S' (ag_mo a (by decide)) e)
/-! the model: laid aside, laid back -/
end THOUGHT
/-! run -/
def p_seen (τ : Int32 → Int32 → List Int32) (g : Nat → Nat → Int32) (one : Int32) : Nat → Int32
  | 0 => bt (it (g 5) 5 one)
  | k + 1 => p_seen τ g one k ||| bt (it (yrs τ g (k + 1) 5) 5 one)
section RUN
variable {a b g : Int32} {S : ri_H} {T : Nat} {τ : Int32 → Int32 → List Int32}
def p_run (τ : Int32 → Int32 → List Int32) (g : Nat → Nat → Int32) (one : Int32) (n : Nat) (what : Int32) : Int32 :=
  if what = 0 then it (yrs τ g n 5) 5 one else if what = 1 then p_seen τ g one n else if what = 2 then p_all (yrs τ g n) else it (yrs τ g n 2) 24 (what - 10)
theorem l86_ok {Q : Int32 → ri_H → Prop} {g0 : Nat → Nat → Int32} {S0 : ri_H} {n : Nat} {one what : Int32} (hn : n ≤ 60) (h : rT T τ S0) (hg : gwd T g0) (hQ : ∀ S', ag CX S0 S' → Q (p_run τ g0 one n what) S') : ∀ d k S, k + d = n → tw τ g0 S0 S k → w56_l86 Q (d + 1) one (nI n) what (p_seen τ g0 one k) (nI k) S
  | 0, k, S, hk, ht => by
    have hk' : k = n := hk
    subst hk'
    unfold w56_l86
    have hq := hQ S ht.1
    unfold p_run at hq
    rw [gw_it S 19 2 24 rfl (by decide), gw_it S 19 5 5 rfl (by decide), ht.2]
    refine ⟨fun _ => ⟨fun c => ?_, fun c => ?_, fun c => ?_, fun c => w37_ok ?_⟩, fun c => absurd (nI_le (Nat.le_refl _) (by omega)) c⟩
    · rw [if_neg (fun e => not_out e (by decide) c), if_neg (fun e => not_out e (by decide) c), if_neg (fun e => not_out e (by decide) c)] at hq
      exact hq
    · rw [if_pos c] at hq
      exact hq
    · rw [c, if_neg (by decide), if_pos rfl] at hq
      exact hq
    · rw [c, if_neg (by decide), if_neg (by decide), if_pos rfl] at hq
      rw [ht.2]
      exact hq
  | d + 1, k, S, hk, ht => by
    unfold w56_l86
    rw [nI_1]
    refine ⟨fun c => absurd c (nI_ge (by omega) (by omega)), fun _ => w39_t h hg ht (fun S' ht' => ?_)⟩
    rw [gw_it S' 19 5 5 rfl (by decide), ht'.2]
    exact l86_ok hn h hg hQ d (k + 1) S' (by omega) ht'
end RUN
