/-! SOUND, 7: every run -/
theorem ri_mt_none : ri_mt 1000000 = none := by
  cases h : ri_mt 1000000 with
  | none => rfl
  | some t => exact absurd h (ri_mt_ne t)
theorem ri_run_stuck (E : ri_E) : ∀ (n d : Nat) (pc : Nat) (L : List (Option Value)) (st : List Value) (S : ri_H) (y : Nat × Option Value × ri_H), ¬ ri_run E n d (1000000, pc, L, st) S y := by
  intro n
  induction n with
  | zero => intro d pc L st S y h; exact h
  | succ n ih =>
    intro d pc L st S y h
    have e : ri_step E (1000000, pc, L, st) S = none := by
      show ri_stp E 1000000 pc L st S (ri_mt 1000000) = none
      rw [ri_mt_none]
      rfl
    unfold ri_run at h
    rw [e] at h
    rcases h with h | ⟨L', -, h⟩
    · exact h
    · exact ih d pc L' st S y h
theorem ri_lsb_get : ∀ (a b : List (Option Value)), ri_lsb a b → a.length = b.length ∧ ∀ i v, ri_get a i = some v → ri_get b i = some v
  | [], [], _ => ⟨rfl, fun i v h => h⟩
  | none :: a, x :: b, h => by
    obtain ⟨h1, h2⟩ := ri_lsb_get a b h
    refine ⟨by simp [h1], fun i v hv => ?_⟩
    cases i with
    | zero => cases hv
    | succ i => exact h2 i v hv
  | some w :: a, x :: b, h => by
    obtain ⟨hx, h⟩ := h
    obtain ⟨h1, h2⟩ := ri_lsb_get a b h
    refine ⟨by simp [h1], fun i v hv => ?_⟩
    cases i with
    | zero => cases hv; exact hx
    | succ i => exact h2 i v hv
  | [], x :: b, h => h.elim
  | none :: a, [], h => h.elim
  | some w :: a, [], h => h.elim
theorem ri_sl1_len {ad : Nat → Nat} {fz : Value} (hz : fz = .null ∨ ∃ a, fz = .ref a) : ∀ (As : List Value), (lg_sl (As.map (ri_cv ad fz))).length = (ri_sl1 As).length
  | [] => rfl
  | a :: As => by
    have ih := ri_sl1_len (ad := ad) hz As
    have one : ri_sl1 (a :: As) = some a :: ri_sl1 As → (ri_cv ad fz a).category = 1 → (lg_sl ((a :: As).map (ri_cv ad fz))).length = (ri_sl1 (a :: As)).length := by
      intro e ec
      rw [e]
      simp only [List.map_cons, lg_sl, List.flatMap_cons, List.length_append, List.length_cons]
      rw [if_neg (by rw [ec]; decide)]
      have : (lg_sl (As.map (ri_cv ad fz))).length = (ri_sl1 As).length := ih
      unfold lg_sl at this
      rw [this]
      simp only [List.length_cons, List.length_nil]
      omega
    have two : ri_sl1 (a :: As) = some a :: none :: ri_sl1 As → (ri_cv ad fz a).category = 2 → (lg_sl ((a :: As).map (ri_cv ad fz))).length = (ri_sl1 (a :: As)).length := by
      intro e ec
      rw [e]
      simp only [List.map_cons, lg_sl, List.flatMap_cons, List.length_append, List.length_cons]
      rw [if_pos ec]
      have : (lg_sl (As.map (ri_cv ad fz))).length = (ri_sl1 As).length := ih
      unfold lg_sl at this
      rw [this]
      simp only [List.length_cons, List.length_nil]
      omega
    cases a with
    | long y => exact two rfl rfl
    | double y => exact two rfl rfl
    | ref k => exact one rfl (ri_cat1_cv hz (v := .ref k) rfl)
    | int y => exact one rfl rfl
    | float y => exact one rfl rfl
    | null => exact one rfl rfl
    | retAddr y => exact one rfl rfl
section SEVEN
variable {l : Launch} {D : va_G} {tys : List (ClassId × FieldType)} {ad : Nat → Nat} {cA : Nat → ClassId} {fz : Value} {E : ri_E}
/-- what a run of n says of a walk -/
def ri_Snd (l : Launch) (D : va_G) (tys : List (ClassId × FieldType)) (ad : Nat → Nat) (cA : Nat → ClassId) (fz : Value) (E : ri_E) (n : Nat) : Prop := ∀ (d : Nat) (fr : ri_F) (S : ri_H) (pcr : Nat) (v : Option Value) (S' : ri_H), ri_run E n d fr S (pcr, v, S') →
  ∀ (p : Program) (e : Env) (R : Room) (s : State) (m : MethodId) (args : Array Value) (below : List Frame) (meth : Method) (c : Code) (cells slots : Nat) (Q : State → Prop) (A : Nat → Prop) (t : ri_MT), ri_mt fr.1 = some t → ri_Cx p s m args c t D tys ad fz E A → d + 1 ≤ R.frames → 64 * (d + 1) ≤ R.locals → cells ≤ R.cells → slots ≤ R.slots →
  (∀ (H : Heap) (locs : List Loc) (ls : Array Slot), va_P D ri_cls (ri_wld ad cA S') H → va_S A s.heap H locs → ri_rtok (ri_b t) pcr v → ri_rok fr.1 v = true → W p l e R s m args below meth c H locs cells slots Q (F0 m pcr ls (v.toList.map (ri_cv ad fz)))) →
  ri_T (ri_Wf p l e R s m args below meth c cells slots Q) m fr.1 (ri_ml0 t) D ad cA fz A s.heap fr S
/-- a method's contract out of its runs -/
theorem ri_met (ha : ri_Ad ad cA fz tys) {n : Nat} (hn : ri_Snd l D tys ad cA fz E n) {d j pcr : Nat} {As : List Value} {S S' : ri_H} {v : Option Value} {u : ri_MT} (hu : ri_mt j = some u) (hf : ri_flag u ≠ 2) (hr : ri_run E n d (ri_en j As) S (pcr, v, S')) : Met l (ri_y u) (ri_wsm u) (ri_rm d) (ri_Pc D tys ad cA fz E As S) (ri_Qc D ad cA fz v S') 0 0 (ri_Aw ad) := by
  obtain ⟨g1, g2, g3, g4, g5⟩ := ri_nf hu
  refine Met.ofW (cc := ri_b u) (maxL := ri_ml0 u) (ret := ri_ret u) g2 rfl ?_
  intro p e s m args below meth c s₁ B hml hv
  obtain ⟨rfl, hEF, hP⟩ := hv
  have hlen : Nat.ble (ri_sl1 As).length (ri_ml0 u) = true := by
    cases hb : Nat.ble (ri_sl1 As).length (ri_ml0 u) with
    | true => rfl
    | false =>
      exfalso
      have e : ri_en j As = (1000000, 0, [], []) := by
        unfold ri_en
        rw [hu]
        unfold ri_en1
        dsimp only
        rw [hb]
        rfl
      rw [e] at hr
      exact ri_run_stuck E n d _ _ _ _ _ hr
  have een : ri_en j As = (j, 0, ri_pad (ri_ml0 u) (ri_sl1 As), []) := by
    unfold ri_en
    rw [hu]
    unfold ri_en1
    dsimp only
    rw [hlen]
    rfl
  rw [een] at hr
  have hts := atoms_spec (ws := ri_wsm u) B.pre
  have hA : ∀ k, k < ri_K → ri_Aw ad (ad k) := fun k hk => ⟨k, hk, rfl⟩
  have key := hn d (j, 0, ri_pad (ri_ml0 u) (ri_sl1 As), []) S pcr v S' hr p e (headSpec (ri_wsm u) (ri_rm d)).room s m (As.map (ri_cv ad fz)).toArray below meth c 0 0 (MQ below (ri_Qc D ad cA fz v S') (As.map (ri_cv ad fz)).toArray s 0 0 (ri_Aw ad)) (ri_Aw ad) u hu ⟨B.exec, B.bytes, hml, findClass_of_methodNamed B.named, fun w hw => hts w (List.mem_cons_of_mem _ hw), hEF, hA⟩ (Nat.le_refl _) (Nat.le_refl _) (Nat.le_refl _) (Nat.le_refl _) ?_
  · rw [lg_entry_eq]
    have hl := Nat.le_of_ble_eq_true hlen
    rw [← ri_sl1_len (ad := ad) ha.2.1] at hl
    exact key.2 s.heap [] _ hP va_S.rf (ri_entry_lr ha.2.1 hl)
  · intro H locs ls hP' hS hrt hrk
    have hx := B.exec
    have hb := B.bytes
    have hret := B.returns
    have hlocks := B.notSynchronized
    unfold ri_rok ri_rok2 at hrk
    rw [hu] at hrk
    dsimp only at hrk
    unfold ri_rok1 at hrk
    split at hrk
    · rename_i e1
      rw [e1] at hret
      exact W.vret hx hb hret (fun t ht hW => ⟨rfl, by rw [ht]; exact hP', hS.F ht⟩) hS.2.2 hrt
    · rename_i y e1
      rw [e1] at hret
      exact W.iret (v := y) hx hb hret (fun t ht hW => ⟨rfl, by rw [ht]; exact hP', hS.F ht⟩) hS.2.2 hrt
    · rename_i y e1
      rw [e1] at hret
      exact W.zret (v := y) hx hb hret (of_decide_eq_true hrk) (fun t ht hW => ⟨rfl, by rw [ht]; exact hP', hS.F ht⟩) hS.2.2 hrt
    · rename_i y e1
      rw [e1] at hret
      exact W.zret (v := y) hx hb hret (of_decide_eq_true hrk) (fun t ht hW => ⟨rfl, by rw [ht]; exact hP', hS.F ht⟩) hS.2.2 hrt
    · rename_i y e1
      rw [e1] at hret
      exact W.zret (v := y) hx hb hret (of_decide_eq_true hrk) (fun t ht hW => ⟨rfl, by rw [ht]; exact hP', hS.F ht⟩) hS.2.2 hrt
    · rename_i y e1
      rw [e1] at hret
      exact W.lret (v := y) hx hb hret (fun t ht hW => ⟨rfl, by rw [ht]; exact hP', hS.F ht⟩) hS.2.2 hrt
    · rename_i nm k e1
      rw [e1] at hret
      have ek := ri_cv_ne (ad := ad) (fz := fz) hrt.2
      refine W.aret (v := ri_cv ad fz (.ref k)) hx hb hret (Or.inl ⟨_, rfl⟩) (by rw [ek]; exact Or.inr ⟨_, rfl⟩) (fun t ht hW => ⟨rfl, by rw [ht]; exact hP', hS.F ht⟩) hS.2.2 hrt.1
    · rename_i nm e1
      rw [e1] at hret
      exact W.aret (v := .null) hx hb hret (Or.inl ⟨_, rfl⟩) (Or.inl rfl) (fun t ht hW => ⟨rfl, by rw [ht]; exact hP', hS.F ht⟩) hS.2.2 hrt
    · rename_i nm k e1
      rw [e1] at hret
      have ek := ri_cv_ne (ad := ad) (fz := fz) hrt.2
      refine W.aret (v := ri_cv ad fz (.ref k)) hx hb hret (Or.inr ⟨_, rfl⟩) (by rw [ek]; exact Or.inr ⟨_, rfl⟩) (fun t ht hW => ⟨rfl, by rw [ht]; exact hP', hS.F ht⟩) hS.2.2 hrt.1
    · rename_i nm e1
      rw [e1] at hret
      exact W.aret (v := .null) hx hb hret (Or.inr ⟨_, rfl⟩) (Or.inl rfl) (fun t ht hW => ⟨rfl, by rw [ht]; exact hP', hS.F ht⟩) hS.2.2 hrt
    · cases hrk
theorem ri_sound (ha : ri_Ad ad cA fz tys) : ∀ n : Nat, ri_Snd l D tys ad cA fz E n := by
  intro n
  induction n with
  | zero => intro d fr S pcr v S' h; exact h.elim
  | succ n ih =>
    intro d fr S pcr v S' h p e R s m args below meth c cells slots Q A t ht cx hf hl hc hs kr
    obtain ⟨mi, pc, L, st⟩ := fr
    dsimp only at ht kr
    have hmi : mi ≠ 1000000 := by
      intro z
      rw [z, ri_mt_none] at ht
      cases ht
    have hR : 1 ≤ R.frames ∧ 64 ≤ R.locals := ⟨by omega, by omega⟩
    unfold ri_run at h
    rcases h with h | ⟨L', hL, h⟩
    · cases hst : ri_step E (mi, pc, L, st) S with
      | none => rw [hst] at h; exact h.elim
      | some x =>
        rw [hst] at h
        have hst2 : ri_stp E mi pc L st S (ri_mt mi) = some x := hst
        rw [ht] at hst2
        have hst3 : ri_st2' E (ri_mcl t) mi pc L st S (ri_ins (ri_cdt t) pc) = some x := hst2
        cases hi : ri_ins (ri_cdt t) pc with
        | none => rw [hi] at hst3; cases hst3
        | some q =>
          obtain ⟨i, ln, w⟩ := q
          rw [hi] at hst3
          have hex : ri_ex E (ri_mcl t) mi pc ln w L st S i = some x := hst3
          obtain ⟨hd, hck⟩ := ri_chk_use (ri_dk_ok ht) hi
          refine rs_ex (cells := cells) (slots := slots) (Q := Q) cx ha ht hmi ⟨hc, hs⟩ hR hd hck hex ?_
          rcases x with x | b | q | r
          · -- a plain step
            intro hm
            have := ih d x.1 x.2 pcr v S' h p e R s m args below meth c cells slots Q A t (by rw [hm]; exact ht) cx hf hl hc hs (by rw [hm]; exact kr)
            rw [hm] at this
            exact this
          · obtain ⟨bb, r1, r2⟩ := b
            refine ⟨fun e1 hm => ?_, fun e1 => ?_⟩
            · have e1 : bb = true := e1
              have hm : r1.1.1 = mi := hm
              rcases h with ⟨-, h2⟩ | ⟨g, -⟩
              · have := ih d r1.1 r1.2 pcr v S' h2 p e R s m args below meth c cells slots Q A t (by rw [hm]; exact ht) cx hf hl hc hs (by rw [hm]; exact kr)
                rw [hm] at this
                exact this
              · have g : bb = false := g
                rw [g] at e1
                cases e1
            · have e1 : bb = false := e1
              rcases h with ⟨g, -⟩ | ⟨-, h2⟩
              · have g : bb = true := g
                rw [g] at e1
                cases e1
              · refine ⟨fun z => ?_, fun hm => ?_⟩
                · obtain ⟨⟨a1, a2, a3, a4⟩, a5⟩ := r2
                  have z : a1 = 1000000 := z
                  subst z
                  exact ri_run_stuck E n d _ _ _ _ _ h2
                · have hm : r2.1.1 = mi := hm
                  have := ih d r2.1 r2.2 pcr v S' h2 p e R s m args below meth c cells slots Q A t (by rw [hm]; exact ht) cx hf hl hc hs (by rw [hm]; exact kr)
                  rw [hm] at this
                  exact this
          · intro u hu hfl
            obtain ⟨d', y, rfl, h1, h2⟩ := h
            obtain ⟨p9, v9, S9⟩ := y
            refine ⟨d', v9, S9, by omega, by omega, ri_met ha ih hu hfl h1, fun hm => ?_⟩
            have := ih (d' + 1) (ri_push q.2.2.1 v9) S9 pcr v S' h2 p e R s m args below meth c cells slots Q A t (by rw [hm]; exact ht) cx hf hl hc hs (by rw [hm]; exact kr)
            rw [hm] at this
            exact this
          · intro hm H locs ls hP hS hrt
            obtain ⟨hk, h2⟩ := h
            cases h2
            have hm : r.1 = mi := hm
            rw [hm] at hk
            exact kr H locs ls hP hS hrt hk
    · obtain ⟨g1, g2⟩ := ri_lsb_get L' L hL
      have := ih d (mi, pc, L', st) S pcr v S' h p e R s m args below meth c cells slots Q A t ht cx hf hl hc hs kr
      exact ⟨rfl, fun H locs ls hP hS hls => this.2 H locs ls hP hS ⟨hls.1, hls.2.1, by rw [← hls.2.2.1]; exact g1, fun i v hv => hls.2.2.2 i v (g2 i v hv)⟩⟩
end SEVEN
