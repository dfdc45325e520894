/-! the model: the next token -/
def mB (f : Nat → Int32) (n fr : Nat) (S : ri_H) : Prop := n ≤ 160 ∧ fr + n ≤ 960 ∧ S.1 50 18 = nI fr ∧ S.1 50 19 = nI n ∧ ∀ j, j < n → S.1 51 (fr + j) = f j ∧ 0 ≤ f j
theorem mB_am {f : Nat → Int32} {n fr : Nat} {X F : List Nat} {S S' : ri_H} (h : mB f n fr S) (ha : am X F S S') (h51 : 51 ∉ X) (h18 : 18 ∉ F) (h19 : 19 ∉ F) : mB f n fr S' := by
  obtain ⟨h1, h2, h3, h4, h5⟩ := h
  refine ⟨h1, h2, (ha.2 18 h18).1.trans h3, (ha.2 19 h19).1.trans h4, fun j hj => ?_⟩
  rw [(ha.1 51 h51 (by decide)).1]
  exact h5 j hj
def byt (f : Nat → Int32) (n i : Nat) : Int32 := if i < n then f i else -1
theorem wd_lt (a b : Int32) : a.toInt64 < b.toInt64 ↔ a < b := by
  rw [Int64.lt_iff_toInt_lt, Int32.lt_iff_toInt_lt, Int32.toInt_toInt64, Int32.toInt_toInt64]
theorem wd_eq (a b : Int32) : a.toInt64 = b.toInt64 ↔ a = b := by
  rw [← Int64.toInt_inj, ← Int32.toInt_inj, Int32.toInt_toInt64, Int32.toInt_toInt64]
section NEXT
variable {f : Nat → Int32} {n fr : Nat} {S : ri_H} {Q : Int32 → ri_H → Prop} {x : Int32}
theorem w116_ok {i : Nat} (hi : i < 2 ^ 31) (hB : mB f n fr S) (hQ : Q (byt f n i) S) : w116 (nI i) S Q := by
  unfold w116
  obtain ⟨h1, h2, h3, h4, h5⟩ := hB
  unfold byt at hQ
  rw [h3, h4, nI_add]
  refine ⟨fun c => ?_, fun c => ?_⟩
  · have c' := (nI_leI (by omega) (by omega)).mp c
    rw [if_neg (by omega)] at hQ
    exact hQ
  · have c' : i < n := by
      rcases Nat.lt_or_ge i n with q | q
      · exact q
      · exact absurd (nI_le q (by omega)) c
    rw [if_pos c'] at hQ
    rw [nI_clamp (by omega), (h5 i c').1]
    exact ⟨vp_in_nI (by omega) (by decide), hQ⟩
theorem w102_l (h1 : isl x = true → Q 1 S) (h0 : isl x = false → Q 0 S) : w102 x.toInt64 97 122 S Q := by
  unfold w102
  rw [lg_cmp_lt, lg_cmp_gt, show (97 : Int64) = (97 : Int32).toInt64 by decide, show (122 : Int64) = (122 : Int32).toInt64 by decide, wd_lt, wd_lt]
  unfold isl at h1 h0
  refine ⟨fun c => h0 ?_, fun c => ⟨fun c2 => h0 ?_, fun c2 => h1 ?_⟩⟩
  · rw [decide_eq_false (Int32.not_le.mpr c)]
    rfl
  · rw [decide_eq_false (p := x ≤ 122) (Int32.not_le.mpr c2), Bool.and_false]
  · rw [decide_eq_true (Int32.not_lt.mp c), decide_eq_true (Int32.not_lt.mp c2)]
    rfl
theorem w102_d (h1 : isd x = true → Q 1 S) (h0 : isd x = false → Q 0 S) : w102 x.toInt64 48 57 S Q := by
  unfold w102
  rw [lg_cmp_lt, lg_cmp_gt, show (48 : Int64) = (48 : Int32).toInt64 by decide, show (57 : Int64) = (57 : Int32).toInt64 by decide, wd_lt, wd_lt]
  unfold isd at h1 h0
  refine ⟨fun c => h0 ?_, fun c => ⟨fun c2 => h0 ?_, fun c2 => h1 ?_⟩⟩
  · rw [decide_eq_false (Int32.not_le.mpr c)]
    rfl
  · rw [decide_eq_false (p := x ≤ 57) (Int32.not_le.mpr c2), Bool.and_false]
  · rw [decide_eq_true (Int32.not_lt.mp c), decide_eq_true (Int32.not_lt.mp c2)]
    rfl
theorem ru_out (P : Int32 → Bool) {h : Nat} (c : ¬ h < n) : ∀ k, ru P f n k h = h
  | 0 => rfl
  | k + 1 => by
    unfold ru
    rw [if_neg c]
theorem ru_no (P : Int32 → Bool) {h : Nat} (c : P (f h) = false) : ∀ k, ru P f n k h = h
  | 0 => rfl
  | k + 1 => by
    unfold ru
    rw [c]
    split <;> rfl
theorem ru_yes (P : Int32 → Bool) {h : Nat} (c : h < n) (c2 : P (f h) = true) (k : Nat) : ru P f n (k + 1) h = ru P f n k (h + 1) := by
  show (if h < n then _ else h) = _
  rw [if_pos c, if_pos c2]
/-- enough turns -/
theorem ru_k (P : Int32 → Bool) : ∀ k h, n - h ≤ k → ru P f n k h = run P f n h
  | 0, h, hk => by
    unfold run
    rw [show n - h = 0 by omega]
  | k + 1, h, hk => by
    by_cases c : h < n
    · cases e : P (f h) with
      | true =>
        rw [ru_yes P c e, ru_k P k (h + 1) (by omega)]
        unfold run
        rw [show n - h = (n - (h + 1)) + 1 by omega, ru_yes P c e]
      | false =>
        unfold run
        rw [ru_no P e, ru_no P e]
    · unfold run
      rw [ru_out P c, ru_out P c]
end NEXT
theorem am_q {X F : List Nat} {S S1 S2 : ri_H} {G : List Nat} (h : am X F S S1) (h2 : am X G S1 S2) (hG : ∀ c, c ∈ G → c ∈ F) : am X F S S2 := am_tr h (am_mo h2 (fun _ hc => hc) hG)
section NEXT2
variable {f : Nat → Int32} {n fr : Nat} {Q : ri_H → Prop}
theorem l100_ok : ∀ k h S, n - h ≤ k → h ≤ n → mB f n fr S → S.1 50 20 = nI h → (∀ S', am [] [20] S S' → S'.1 50 20 = nI (run isl f n h) → Q S') → w117_l100 Q (k + 1) S
  | k, h, S, hk, hh, hB, e, hQ => by
    unfold w117_l100
    have hn := hB.1
    rw [e]
    refine w116_ok (by omega) hB (w102_l (fun hl => ⟨fun c => absurd c (by decide), fun _ => ?_⟩) (fun hl => ⟨fun _ => hQ S (am_refl _ _ _) ?_, fun c => absurd rfl c⟩))
    · unfold byt at hl
      by_cases c : h < n
      · rw [if_pos c] at hl
        cases k with
        | zero => omega
        | succ k =>
          rw [e, nI_1]
          have hr : run isl f n h = run isl f n (h + 1) := by
            rw [← ru_k isl (k + 1) h (by omega), ru_yes isl c hl, ru_k isl k (h + 1) (by omega)]
          refine l100_ok k (h + 1) _ (by omega) (by omega) (mB_am hB (am_f (am_refl [] [20] S) (by decide)) (by decide) (by decide) (by decide)) (by rw [ri_wi_1, pk_us]) (fun S' a1 a2 => hQ S' (am_q (am_f (am_refl [] [20] S) (by decide)) a1 (fun _ h => h)) (by rw [hr]; exact a2))
      · rw [if_neg c] at hl
        exact absurd hl (by decide)
    · rw [e]
      unfold byt at hl
      by_cases c : h < n
      · rw [if_pos c] at hl
        unfold run
        rw [ru_no isl hl]
      · unfold run
        rw [ru_out isl c]
theorem l160_ok {s : Nat} : ∀ k c S, n - (s + c) ≤ k → s + c ≤ n → mB f n fr S → S.1 50 20 = nI (s + c) → (∀ j, j < c → isd (f (s + j)) = true) → (c ≤ 4 → S.2 50 23 = lN (numN f s c)) → (∀ S' e, e = run isd f n (s + c) → am [] [20, 21, 23] S S' → S'.1 50 20 = nI e → (e - s ≤ 4 → S'.1 50 21 = 2 ∧ S'.2 50 23 = lN (numN f s (e - s))) → (¬ e - s ≤ 4 → S'.1 50 21 = 4) → Q S') → w117_l160 Q (k + 1) (nI c) S
  | k, c, S, hk, hh, hB, e, hd, hv, hQ => by
    unfold w117_l160
    have hn := hB.1
    rw [e]
    refine w116_ok (by omega) hB (w102_d (fun hl => ⟨fun c => absurd c (by decide), fun _ => ?_⟩) (fun hl => ⟨fun _ => ?_, fun c => absurd rfl c⟩))
    · unfold byt at hl
      by_cases ch : s + c < n
      · rw [if_pos ch] at hl
        cases k with
        | zero => omega
        | succ k =>
          have hr : run isd f n (s + c) = run isd f n (s + (c + 1)) := by
            rw [← ru_k isd (k + 1) (s + c) (by omega), ru_yes isd ch hl, ru_k isd k (s + c + 1) (by omega)]
            rfl
          have hd2 : ∀ j, j < c + 1 → isd (f (s + j)) = true := by
            intro j hj
            by_cases ej : j = c
            · subst ej
              exact hl
            · exact hd j (by omega)
          have go : ∀ t0 : Int64, (c + 1 ≤ 4 → t0 = lN (numN f s (c + 1))) → w117_b216 (fun x2 S => w117_l160 Q (k + 1) x2 S) Q (nI c) t0 S := by
            intro t0 ht
            unfold w117_b216
            rw [nI_1, e, nI_1]
            have a0 : am [] [20, 21, 23] S (ri_wi (ri_wl S 50 23 t0) 50 20 (nI (s + c + 1))) := am_f (am_fl (am_refl [] [20, 21, 23] S) (by decide)) (by decide)
            refine l160_ok k (c + 1) _ (by omega) (by omega) (mB_am hB a0 (by decide) (by decide) (by decide)) (by rw [ri_wi_1, pk_us]; rfl) hd2 (fun c4 => ?_) (fun S' e' he a1 a2 a3 a4 => hQ S' e' (he.trans hr.symm) (am_tr a0 a1) a2 a3 a4)
            show (ri_wl S 50 23 t0).2 50 23 = _
            rw [ri_wl_2, if_pos rfl]
            exact ht c4
          refine ⟨fun c4 => go _ (fun h4 => ?_), fun c4 => ?_⟩
          · have := (nI_leI (a := 4) (by decide) (by omega)).mp c4
            omega
          · rw [e]
            refine w116_ok (by omega) hB (go _ (fun h4 => ?_))
            rw [hv (by omega)]
            unfold byt
            rw [if_pos ch]
            obtain ⟨d, h9, ed⟩ := isd_nI hl
            have et : ((f (s + c)).toInt - 48).toNat = d := by
              rw [ed, nI_toInt (by omega)]
              omega
            show (10 : Int64) * lN (numN f s c) + (f (s + c)).toInt64 - 48 = lN (numN f s c * 10 + ((f (s + c)).toInt - 48).toNat)
            rw [et, ed, nI_l (by omega)]
            have m : (10 : Int64) * lN (numN f s c) = lN (10 * numN f s c) := lN_mul 10 _
            rw [m, lN_add]
            have m2 : lN (10 * numN f s c + (48 + d)) - 48 = lN (10 * numN f s c + (48 + d) - 48) := lN_sub (b := 48) (by omega)
            rw [m2]
            congr 1
            omega
      · rw [if_neg ch] at hl
        exact absurd hl (by decide)
    · have hr : run isd f n (s + c) = s + c := by
        unfold byt at hl
        unfold run
        by_cases ch : s + c < n
        · rw [if_pos ch] at hl
          rw [ru_no isd hl]
        · rw [ru_out isd ch]
      have ec : s + c - s = c := by omega
      unfold w117_b246
      refine ⟨fun c4 => hQ _ (s + c) hr.symm (am_f (am_refl _ _ _) (by decide)) ?_ (fun _ => ⟨?_, ?_⟩) (fun h => ?_), fun c4 => hQ _ (s + c) hr.symm (am_f (am_refl _ _ _) (by decide)) ?_ (fun h => ?_) (fun h => ?_)⟩
      · rw [ri_wi_1, pk_un (by decide)]
        exact e
      · rw [ri_wi_1, pk_us]
      · rw [ec]
        exact hv ((nI_leI (b := 4) (by omega) (by decide)).mp c4)
      · exact absurd ((nI_leI (b := 4) (by omega) (by decide)).mp c4) (by rw [ec] at h; exact h)
      · rw [ri_wi_1, pk_un (by decide)]
        exact e
      · exact absurd (nI_le (b := 4) (by rw [ec] at h; exact h) (by decide)) c4
      · rw [ri_wi_1, pk_us]
end NEXT2
/-- the token behind h is at hand in the model -/
def md (f : Nat → Int32) (n h : Nat) (S : ri_H) : Prop := S.1 50 22 = nI (ppl f n h) ∧ (n ≤ tkb f n h → S.1 50 21 = 0) ∧ (¬ n ≤ tkb f n h →
  (isl (f (tkb f n h)) = true → S.1 50 21 = 1 ∧ S.1 50 20 = nI (pen f n h)) ∧
  (isd (f (tkb f n h)) = true → S.1 50 20 = nI (pen f n h) ∧ (pen f n h - tkb f n h ≤ 4 → S.1 50 21 = 2 ∧ S.2 50 23 = lN (numN f (tkb f n h) (pen f n h - tkb f n h))) ∧ (¬ pen f n h - tkb f n h ≤ 4 → S.1 50 21 = 4)) ∧
  (isl (f (tkb f n h)) = false → isd (f (tkb f n h)) = false → (ssort (f (tkb f n h)) = 1 → S.1 50 21 = 4) ∧ (ssort (f (tkb f n h)) ≠ 1 → S.1 50 21 = 3 ∧ S.2 50 23 = (f (tkb f n h)).toInt64 ∧ S.1 50 20 = nI (pen f n h))))
theorem run_b {f : Nat → Int32} {n h : Nat} (c : h < n) (c2 : isb (f h) = true) : tkb f n (h + 1) = tkb f n h := by
  unfold tkb
  unfold run
  rw [show n - h = (n - (h + 1)) + 1 by omega, ru_yes isb c c2]
theorem md_eq {f : Nat → Int32} {n h h2 : Nat} {S : ri_H} (e : tkb f n h2 = tkb f n h) (hd : md f n h2 S) : md f n h S := by
  unfold md ppl pen tk at hd ⊢
  rw [e] at hd
  exact hd
section NEXT3
variable {f : Nat → Int32} {n fr : Nat} {Q : ri_H → Prop}
theorem b300_ok {x : Int32} {h : Nat} {S0 S : ri_H} (hQ : ∀ S', am [] [20, 21, 22, 23] S0 S' → S'.1 50 22 = S.1 50 22 → S'.1 50 21 = 3 → S'.1 50 20 = nI (h + 1) → S'.2 50 23 = x.toInt64 → Q S') (ha : am [] [20, 21, 22, 23] S0 S) (e : S.1 50 20 = nI h) : w117_b300 Q x S := by
  unfold w117_b300
  rw [e, nI_1]
  refine hQ _ (am_f (am_fl (am_f ha (by decide)) (by decide)) (by decide)) ?_ ?_ ?_ ?_
  · rw [ri_wi_1, pk_un (by decide)]
    show (ri_wi S 50 21 3).1 50 22 = _
    rw [ri_wi_1, pk_un (by decide)]
  · rw [ri_wi_1, pk_un (by decide)]
    show (ri_wi S 50 21 3).1 50 21 = _
    rw [ri_wi_1, pk_us]
  · rw [ri_wi_1, pk_us]
  · show (ri_wl (ri_wi S 50 21 3) 50 23 x.toInt64).2 50 23 = _
    rw [ri_wl_2, if_pos rfl]
theorem next_loop : ∀ k h S, n - h ≤ k → h ≤ n → mB f n fr S → S.1 50 20 = nI h → (∀ S', am [] [20, 21, 22, 23] S S' → md f n h S' → Q S') → w117_l0 Q (k + 1) S
  | k, h, S, hk, hh, hB, e, hQ => by
    have hn := hB.1
    unfold w117_l0
    have blank : h < n → isb (f h) = true → w117_b26 (fun S => w117_l0 Q k S) Q S := by
      intro c c2
      unfold w117_b26
      cases k with
      | zero => omega
      | succ k =>
        have a0 : am [] [20, 21, 22, 23] S (ri_wi S 50 20 (S.1 50 20 + 1)) := am_f (am_refl _ _ _) (by decide)
        refine next_loop k (h + 1) _ (by omega) (by omega) (mB_am hB a0 (by decide) (by decide) (by decide)) (by rw [ri_wi_1, pk_us, e, nI_1]) (fun S' a1 a2 => hQ S' (am_tr a0 a1) (md_eq (run_b c c2) a2))
    rw [e]
    refine w116_ok (by omega) hB ⟨fun c32 => ?_, fun c32 => ?_⟩
    · unfold byt at c32
      by_cases c : h < n
      · rw [if_pos c] at c32
        exact blank c (by unfold isb; rw [c32]; decide)
      · rw [if_neg c] at c32
        exact absurd c32 (by decide)
    · rw [e]
      refine w116_ok (by omega) hB ⟨fun c10 => ?_, fun c10 => ?_⟩
      · rw [e]
        have hnb : tkb f n h = h := by
          unfold tkb run
          by_cases c : h < n
          · refine ru_no isb ?_ _
            unfold byt at c10 c32
            rw [if_pos c] at c10 c32
            unfold isb
            rw [decide_eq_false c10, decide_eq_false c32]
            rfl
          · exact ru_out isb c _
        have a1 : am [] [20, 21, 22, 23] S (ri_wi S 50 22 (nI h)) := am_f (am_refl _ _ _) (by decide)
        have B1 := mB_am hB a1 (by decide) (by decide) (by decide)
        refine w116_ok (by omega) B1 ⟨fun c0 => ?_, fun c0 => ?_⟩
        · have c : h < n := by
            rcases Nat.lt_or_ge h n with q | q
            · exact q
            · unfold byt at c0
              rw [if_neg (by omega)] at c0
              exact absurd c0 (by decide)
          have cb : ¬ n ≤ tkb f n h := by omega
          obtain ⟨k1, k2, k3, k4⟩ := tk_in cb
          rw [hnb] at k2 k3
          have hby : byt f n h = f h := by
            unfold byt
            rw [if_pos c]
          rw [hby]
          have a2 : am [] [20, 21, 22, 23] S (ri_wi (ri_wi S 50 22 (nI h)) 50 21 4) := am_f a1 (by decide)
          have f22 : (ri_wi (ri_wi S 50 22 (nI h)) 50 21 4).1 50 22 = nI h := by
            rw [ri_wi_1, pk_un (by decide), ri_wi_1, pk_us]
          have f20 : (ri_wi (ri_wi S 50 22 (nI h)) 50 21 4).1 50 20 = nI h := by
            rw [ri_wi_1, pk_un (by decide), ri_wi_1, pk_un (by decide)]
            exact e
          have B2 := mB_am hB a2 (by decide) (by decide) (by decide)
          refine w102_l (fun hl => ⟨fun c => absurd c (by decide), fun _ => ?_⟩) (fun hl => ⟨fun _ => ?_, fun c => absurd rfl c⟩)
          · have a3 : am [] [20, 21, 22, 23] S (ri_wi (ri_wi (ri_wi S 50 22 (nI h)) 50 21 4) 50 21 1) := am_f a2 (by decide)
            refine ⟨n - h + 1, l100_ok (n - h) h _ (Nat.le_refl _) hh (mB_am hB a3 (by decide) (by decide) (by decide)) ?_ (fun S' b1 b2 => ?_)⟩
            · rw [ri_wi_1, pk_un (by decide)]
              exact f20
            · have ek : pen f n h = run isl f n h := by
                rw [k3]
                unfold tke
                rw [if_pos hl]
              refine hQ S' (am_q a3 b1 (by decide)) ⟨?_, fun q => absurd q cb, fun _ => ⟨fun _ => ⟨?_, ?_⟩, fun q => ?_, fun q => ?_⟩⟩
              · rw [(b1.2 22 (by decide)).1, ri_wi_1, pk_un (by decide), k2]
                exact f22
              · rw [(b1.2 21 (by decide)).1, ri_wi_1, pk_us]
              · rw [ek]
                exact b2
              · rw [hnb, isl_isd hl] at q
                exact absurd q (by decide)
              · rw [hnb, hl] at q
                exact absurd q (by decide)
          · refine w102_d (fun hd => ⟨fun c => absurd c (by decide), fun _ => ?_⟩) (fun hd => ⟨fun _ => ?_, fun c => absurd rfl c⟩)
            · have a3 : am [] [20, 21, 22, 23] S (ri_wl (ri_wi (ri_wi (ri_wi S 50 22 (nI h)) 50 21 4) 50 21 2) 50 23 0) := am_fl (am_f a2 (by decide)) (by decide)
              have ek : pen f n h = run isd f n h := by
                rw [k3]
                unfold tke
                rw [if_neg (by rw [hl]; decide), if_pos hd]
              refine ⟨n - h + 1, l160_ok (s := h) (n - h) 0 _ (by omega) (by omega) (mB_am hB a3 (by decide) (by decide) (by decide)) ?_ (fun j hj => absurd hj (Nat.not_lt_zero j)) (fun _ => ?_) (fun S' e' he b1 b2 b3 b4 => ?_)⟩
              · show (ri_wi (ri_wi (ri_wi S 50 22 (nI h)) 50 21 4) 50 21 2).1 50 20 = nI h
                rw [ri_wi_1, pk_un (by decide)]
                exact f20
              · rw [ri_wl_2, if_pos rfl]
                rfl
              · have he' : e' = pen f n h := by rw [he, ek]; rfl
                subst he'
                refine hQ S' (am_q a3 b1 (by decide)) ⟨?_, fun q => absurd q cb, fun _ => ⟨fun q => ?_, fun _ => ⟨b2, ?_, ?_⟩, fun q q2 => ?_⟩⟩
                · rw [(b1.2 22 (by decide)).1, k2]
                  show (ri_wi (ri_wi (ri_wi S 50 22 (nI h)) 50 21 4) 50 21 2).1 50 22 = nI h
                  rw [ri_wi_1, pk_un (by decide)]
                  exact f22
                · rw [hnb, hl] at q
                  exact absurd q (by decide)
                · rw [hnb]
                  exact b3
                · rw [hnb]
                  exact b4
                · rw [hnb, hd] at q2
                  exact absurd q2 (by decide)
            · have ek : pen f n h = h + 1 := by
                rw [k3]
                unfold tke
                rw [if_neg (by rw [hl]; decide), if_neg (by rw [hd]; decide)]
              have sign : ssort (f h) ≠ 1 → w117_b300 Q (f h) (ri_wi (ri_wi S 50 22 (nI h)) 50 21 4) := by
                intro hs1
                refine b300_ok (S0 := S) (h := h) (fun S' b1 b2 b3 b4 b5 => hQ S' b1 ⟨?_, fun q => absurd q cb, fun _ => ⟨fun q => ?_, fun q => ?_, fun _ _ => ⟨fun q => ?_, fun _ => ⟨b3, ?_, ?_⟩⟩⟩⟩) a2 f20
                · rw [b2, k2]
                  exact f22
                · rw [hnb, hl] at q
                  exact absurd q (by decide)
                · rw [hnb, hd] at q
                  exact absurd q (by decide)
                · rw [hnb] at q
                  exact absurd q hs1
                · rw [hnb]
                  exact b5
                · rw [ek]
                  exact b4
              refine ⟨fun q => sign (by rw [q]; decide), fun n1 => ⟨fun q => sign (by rw [q]; decide), fun n2 => ⟨fun q => sign (by rw [q]; decide), fun n3 => ⟨fun q => sign (by rw [q]; decide), fun n4 => ⟨fun q => sign (by rw [q]; decide), fun n5 => ⟨fun q => sign (by rw [q]; decide), fun n6 => ⟨fun q => sign (by rw [q]; decide), fun n7 => ⟨fun n8 => ?_, fun q => sign (by rw [Decidable.not_not.mp q]; decide)⟩⟩⟩⟩⟩⟩⟩⟩
              have hs1 : ssort (f h) = 1 := by
                unfold ssort
                rw [if_neg]
                intro q
                rcases q with q | q | q | q | q | q | q | q
                · exact n1 q
                · exact n2 q
                · exact n3 q
                · exact n4 q
                · exact n5 q
                · exact n6 q
                · exact n7 q
                · exact n8 q
              refine hQ _ a2 ⟨?_, fun q => absurd q cb, fun _ => ⟨fun q => ?_, fun q => ?_, fun _ _ => ⟨fun _ => ?_, fun q => ?_⟩⟩⟩
              · rw [k2]
                exact f22
              · rw [hnb, hl] at q
                exact absurd q (by decide)
              · rw [hnb, hd] at q
                exact absurd q (by decide)
              · rw [ri_wi_1, pk_us]
              · rw [hnb] at q
                exact absurd hs1 q
        · have c : ¬ h < n := by
            intro c
            unfold byt at c0
            rw [if_pos c] at c0
            exact c0 (hB.2.2.2.2 h c).2
          have cb : n ≤ tkb f n h := by omega
          obtain ⟨k1, k2, k3⟩ := tk_end cb
          refine hQ _ (am_f (am_f (am_f a1 (by decide)) (by decide)) (by decide)) ⟨?_, fun _ => ?_, fun q => absurd cb q⟩
          · rw [ri_wi_1, pk_us, k2]
            exact B1.2.2.2.1
          · rw [ri_wi_1, pk_un (by decide), ri_wi_1, pk_us]
      · have c10 := Decidable.not_not.mp c10
        unfold byt at c10
        by_cases c : h < n
        · rw [if_pos c] at c10
          exact blank c (by unfold isb; rw [c10]; decide)
        · rw [if_neg c] at c10
          exact absurd c10 (by decide)
theorem next_ok {h : Nat} {S : ri_H} (hh : h ≤ n) (hB : mB f n fr S) (e : S.1 50 20 = nI h) (hQ : ∀ S', am [] [20, 21, 22, 23] S S' → md f n h S' → Q S') : w117 S Q :=
  ⟨n - h + 1, next_loop (n - h) h S (Nat.le_refl _) hh hB e hQ⟩
end NEXT3
