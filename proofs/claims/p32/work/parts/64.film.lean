/-! film -/
section FILM
variable {a b g : Int32} {S S0 : ri_H} {T : Nat} {τ : Int32 → Int32 → List Int32}
/-- the flavour of one, after so many years in thought -/
def p_flm (τ : Int32 → Int32 → List Int32) (g : Nat → Nat → Int32) (p j : Nat) : Int32 := it (yrs τ g (j + 1) 5) 5 (nI p)
theorem nrw_c : ∀ c, c < 12 → nrw 0 (nI c) = nI c := by decide +kernel
theorem p_flm_nrw {g : Nat → Nat → Int32} (hg : gok g) {p : Nat} (hp : p < 5) (j : Nat) : nrw 0 (p_flm τ g p j) = p_flm τ g p j := by
  obtain ⟨c, hc, e⟩ := (gok_yrs (τ := τ) hg (j + 1)).2.2.2.2.2.1 p hp
  unfold p_flm
  rw [it_nI _ hp (by decide), e]
  exact nrw_c c hc
/-- the class on its way -/
def tf (τ : Int32 → Int32 → List Int32) (S0 S : ri_H) (s p n k : Nat) : Prop := ag (SX s) S0 S ∧ gw S 19 = yrs τ (gw S0 10) k ∧ S.1 (38 + 2 * s) 1 = nI 0 ∧ S.1 (38 + 2 * s) 2 = nI n ∧ ∀ j, j < k → S.1 (39 + 2 * s) j = p_flm τ (gw S0 10) p j
def fb (k : Nat) (K : Int32 → Int32 → Int32 → ri_H → Prop) (Q : Int32 → ri_H → Prop) (x2 x3 x5 : Int32) (S : ri_H) : Prop := ((x3 ≤ x5 → Q x3 S) ∧ (¬ (x3 ≤ x5) → w39 19 (-1 : Int32) S (fun (S3 : ri_H) => w25 k x5 (it (S3.1 24) 5 x2) S3 (fun (S4 : ri_H) => K x2 x3 (x5 + (1 : Int32)) S4))))
theorem sx_gw {s w : Nat} (hs : s < 4) (hw : w = 10 ∨ w = 19) : ∀ o, o < 8 → w + o ≠ 38 + 2 * s ∧ w + o ≠ 39 + 2 * s := by
  intro o ho
  rcases hw with rfl | rfl <;> omega
theorem fc_ok {Q : Int32 → ri_H → Prop} {s p n : Nat} (hs : s < 4) (hp : p < 5) (hn : n ≤ 30) (h : rT T τ S0) (hg : gwd T (gw S0 10)) {L : Nat → Int32 → Int32 → Int32 → ri_H → Prop} (hL : ∀ n x2 x3 x5 S, fb (38 + 2 * s) (L n) Q x2 x3 x5 S → L (n + 1) x2 x3 x5 S) (hQ : ∀ S', tf τ S0 S' s p n n → Q (nI n) S') : ∀ e k S, k + e = n → tf τ S0 S s p n k → L (e + 1) (nI p) (nI n) (nI k) S
  | 0, k, S, hk, ht => by
    have hk' : k = n := hk
    subst hk'
    exact hL _ _ _ _ _ ⟨fun _ => hQ S ht, fun c => absurd (nI_le (Nat.le_refl _) (by omega)) c⟩
  | e + 1, k, S, hk, ht => by
    refine hL _ _ _ _ _ ?_
    unfold fb
    rw [nI_1]
    obtain ⟨⟨⟨l, hl, el⟩, _⟩, _, r, hr, er⟩ := id hg
    obtain ⟨a, t1, t2, t3, t4⟩ := ht
    have e9 : gw S 19 0 9 = nI l := by rw [t1, yrs_o _ _ (by decide)]; exact el
    have e11 : gw S 19 0 11 = nI r := by rw [t1, yrs_o _ _ (by decide)]; exact er
    have s2 : 2 ∉ SX s := nin (l := [2, 3]) hs (by decide) 2 (by decide)
    have s3 : 3 ∉ SX s := nin (l := [2, 3]) hs (by decide) 3 (by decide)
    refine ⟨fun c => absurd c (nI_ge (by omega) (by omega)), fun _ => w39_ok (Or.inr rfl) e9 (by omega) (by rw [e11]; exact tc_ag a s2 s3 (tc_of h hr)) (fun S1 a1 g1 => ?_)⟩
    have y1 : gw S1 19 = yrs τ (gw S0 10) (k + 1) := by
      rw [g1, t1]
      rfl
    have m38 : ∀ c, 38 ≤ c → c ≤ 45 → S1.1 c = S.1 c := fun c h1 h2 => (a1 c (by simp; omega)).1
    refine w25_ok (t := 0) (by decide) (by omega) (by rw [m38 _ (by omega) (by omega)]; exact t2) ?_
    rw [gw_it S1 19 5 5 rfl (by decide), y1]
    have a2 : ag (SX s) S0 S1 := ag_tr a (fun c hc => a1 c (fun hx => hc (CX_SX c ((by decide : ∀ c, c ∈ [19 + 8, 4, 19 + 2, 19 + 5, 19] → c ∈ CX) c hx))))
    refine fc_ok hs hp hn h hg hL hQ e (k + 1) _ (by omega) ⟨ag_wr a2 SX_1, ?_, ?_, ?_, fun j hj => ?_⟩
    · rw [← y1]
      exact gw_ag (ag_wr (ag_refl [39 + 2 * s] _) List.mem_cons_self) (fun o ho => by
        have := sx_gw (w := 19) hs (Or.inr rfl) o ho
        simp
        omega)
    · rw [ri_wr_o _ _ (by omega), m38 _ (by omega) (by omega)]
      exact t2
    · rw [ri_wr_o _ _ (by omega), m38 _ (by omega) (by omega)]
      exact t3
    · rw [ri_wr_1]
      by_cases ej : j = k
      · subst ej
        rw [pk_us]
        exact p_flm_nrw hg.1 hp j
      · rw [pk_un ej, m38 _ (by omega) (by omega)]
        exact t4 j (by omega)
end FILM
