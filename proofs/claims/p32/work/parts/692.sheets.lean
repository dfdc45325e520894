/-! film, tells: what the class answers -/
section FT
variable {S : ri_H} {T : Nat} {τ : Int32 → Int32 → List Int32} {L p : Nat}
theorem c_film {Q : Int32 → ri_H → Prop} {n : Nat} (h : R T τ S) (l1 : S.1 10 9 = nI L) (hL : L ≤ 5) (hp : p < L) (hn : n ≤ 30) (hQ : ∀ S', tf τ S S' 0 p n n → Q (nI n) S') : w65 0 (nI p) (nI n) S Q := by
  unfold w65
  refine ⟨fun _ => ?_, fun c => absurd c (by decide), fun c => absurd c (by decide), fun c => absurd c (by decide), fun c => absurd c (by decide)⟩
  rw [l1, wi_1 hp (by omega)]
  refine ⟨fun c => absurd c (by decide), fun _ => ⟨fun c => absurd c (nI_pos (by omega)), fun _ => ⟨fun _ => ?_, fun c => absurd (nI_le (b := 30) (by omega) (by decide)) c⟩⟩⟩
  refine w24_ok (s := 0) (fun S1 a1 e1 e2 e3 => w33_t (fun S2 a2 g2 => ⟨n + 1, ?_⟩))
  have a12 : ag (SX 0) S S2 := ag_tr a1 (ag_mo a2 CX_SX)
  have n38 : ∀ c, 38 ≤ c → c ≤ 45 → S2.1 c = S1.1 c := fun c h1 h2 => (a2 c (by simp [CX]; omega)).1
  have g10 : gw S1 10 = gw S 10 := gw_ag a1 (in8 (by decide))
  refine fc_ok (T := T) (τ := τ) (S0 := S) (s := 0) (by decide) (by omega) hn h.2.1 h.1.2 (L := w65_l57 Q) (fun n x2 x3 x5 S hh => by
    unfold w65_l57
    exact hh) hQ n 0 S2 (by omega) ⟨a12, ?_, ?_, ?_, fun j hj => absurd hj (Nat.not_lt_zero j)⟩
  · rw [g2, g10]
    rfl
  · rw [n38 _ (by decide) (by decide)]
    exact e1
  · rw [n38 _ (by decide) (by decide)]
    exact e2
theorem c_tell {Q : Int32 → ri_H → Prop} {z w : Nat} (h : R T τ S) (l1 : S.1 10 9 = nI L) (hL : L ≤ 5) (hp : p < L) (hz : z ≤ 30) (e1 : S.1 38 1 = 0) (e2 : S.1 38 2 = nI z) (hw : w < 8) (hQ : ∀ S', ag CX S S' → Q (p_tells τ (gw S 10) (fun i => S.1 39 i) p z L T w) S') : w64 0 (nI p) (nI w) S Q := by
  unfold w64
  refine ⟨fun _ => ?_, fun c => absurd c (by decide), fun c => absurd c (by decide), fun c => absurd c (by decide), fun c => absurd c (by decide)⟩
  rw [l1, wi_1 hp (by omega), show wi (nI w) 8 = 1 from wi_1 (n := 8) hw (by decide)]
  refine ⟨fun c => absurd c (by decide), fun _ => ⟨fun _ => ?_, fun c => absurd (by decide) c⟩⟩
  refine w22_ok (fun _ => ⟨fun _ => ?_, fun c => absurd rfl c⟩) (fun c => absurd (e1.symm.trans c) (by decide))
  rw [e2]
  refine ⟨fun _ => ?_, fun c => absurd (nI_le (b := 30) (by omega) (by decide)) c⟩
  exact c_tells (T := T) (τ := τ) (s := 0) (by decide) hL l1 hp h (by omega) e2 hw hQ
end FT
