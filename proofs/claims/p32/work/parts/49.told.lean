/-! told -/
theorem w78_0 {S : ri_H} {Q : Int32 → ri_H → Prop} (hQ : Q 24 S) : w78 0 S Q := ⟨fun _ => hQ, fun c => absurd rfl c⟩
theorem w78_1 {S : ri_H} {Q : Int32 → ri_H → Prop} (hQ : Q 24 S) : w78 1 S Q := ⟨fun c => absurd c (by decide), fun _ => ⟨fun c => absurd rfl c, fun _ => hQ⟩⟩
theorem w78_n {S : ri_H} {Q : Int32 → ri_H → Prop} {a : Int32} (h0 : ¬ a = 0) (h1 : ¬ a = 1) (hQ : Q (S.1 10 9) S) : w78 a S Q := ⟨fun c => absurd c h0, fun _ => ⟨fun _ => hQ, fun c => absurd h1 c⟩⟩
theorem gw_at {S : ri_H} {w o j : Nat} (ho : o ≠ 0) (hj : j < gsz o) : S.1 (w + o) j = gw S w o j := by
  rw [gw_p _ _ ho]
  unfold nz
  rw [if_pos hj]
