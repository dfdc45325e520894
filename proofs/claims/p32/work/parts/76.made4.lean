/-! the making of the class -/
theorem dX4_init_0 : decode cX4_init 0 = .ok (.aload_n 0, 1) := by decide +kernel
theorem dX4_init_1 : decode cX4_init 1 = .ok (.invokespecial 1, 3) := by decide +kernel
theorem dX4_init_4 : decode cX4_init 4 = .ok (.aload_n 0, 1) := by decide +kernel
theorem dX4_init_5 : decode cX4_init 5 = .ok (.new 7, 3) := by decide +kernel
theorem dX4_init_8 : decode cX4_init 8 = .ok (.dup, 1) := by decide +kernel
theorem dX4_init_9 : decode cX4_init 9 = .ok (.invokespecial 9, 3) := by decide +kernel
theorem dX4_init_12 : decode cX4_init 12 = .ok (.putfield 10, 3) := by decide +kernel
theorem dX4_init_15 : decode cX4_init 15 = .ok (.aload_n 0, 1) := by decide +kernel
theorem dX4_init_16 : decode cX4_init 16 = .ok (.new 16, 3) := by decide +kernel
theorem dX4_init_19 : decode cX4_init 19 = .ok (.dup, 1) := by decide +kernel
theorem dX4_init_20 : decode cX4_init 20 = .ok (.aload_n 0, 1) := by decide +kernel
theorem dX4_init_21 : decode cX4_init 21 = .ok (.getfield 10, 3) := by decide +kernel
theorem dX4_init_24 : decode cX4_init 24 = .ok (.invokespecial 18, 3) := by decide +kernel
theorem dX4_init_27 : decode cX4_init 27 = .ok (.putfield 21, 3) := by decide +kernel
theorem dX4_init_30 : decode cX4_init 30 = .ok (.aload_n 0, 1) := by decide +kernel
theorem dX4_init_31 : decode cX4_init 31 = .ok (.new 25, 3) := by decide +kernel
theorem dX4_init_34 : decode cX4_init 34 = .ok (.dup, 1) := by decide +kernel
theorem dX4_init_35 : decode cX4_init 35 = .ok (.aload_n 0, 1) := by decide +kernel
theorem dX4_init_36 : decode cX4_init 36 = .ok (.getfield 10, 3) := by decide +kernel
theorem dX4_init_39 : decode cX4_init 39 = .ok (.invokespecial 27, 3) := by decide +kernel
theorem dX4_init_42 : decode cX4_init 42 = .ok (.putfield 28, 3) := by decide +kernel
theorem dX4_init_45 : decode cX4_init 45 = .ok (.aload_n 0, 1) := by decide +kernel
theorem dX4_init_46 : decode cX4_init 46 = .ok (.new 25, 3) := by decide +kernel
theorem dX4_init_49 : decode cX4_init 49 = .ok (.dup, 1) := by decide +kernel
theorem dX4_init_50 : decode cX4_init 50 = .ok (.aload_n 0, 1) := by decide +kernel
theorem dX4_init_51 : decode cX4_init 51 = .ok (.getfield 10, 3) := by decide +kernel
theorem dX4_init_54 : decode cX4_init 54 = .ok (.invokespecial 27, 3) := by decide +kernel
theorem dX4_init_57 : decode cX4_init 57 = .ok (.putfield 32, 3) := by decide +kernel
theorem dX4_init_60 : decode cX4_init 60 = .ok (.aload_n 0, 1) := by decide +kernel
theorem dX4_init_61 : decode cX4_init 61 = .ok (.new 25, 3) := by decide +kernel
theorem dX4_init_64 : decode cX4_init 64 = .ok (.dup, 1) := by decide +kernel
theorem dX4_init_65 : decode cX4_init 65 = .ok (.aload_n 0, 1) := by decide +kernel
theorem dX4_init_66 : decode cX4_init 66 = .ok (.getfield 10, 3) := by decide +kernel
theorem dX4_init_69 : decode cX4_init 69 = .ok (.invokespecial 27, 3) := by decide +kernel
theorem dX4_init_72 : decode cX4_init 72 = .ok (.putfield 35, 3) := by decide +kernel
theorem dX4_init_75 : decode cX4_init 75 = .ok (.aload_n 0, 1) := by decide +kernel
theorem dX4_init_76 : decode cX4_init 76 = .ok (.iconst 4, 1) := by decide +kernel
theorem dX4_init_77 : decode cX4_init 77 = .ok (.anewarray 38, 3) := by decide +kernel
theorem dX4_init_80 : decode cX4_init 80 = .ok (.putfield 40, 3) := by decide +kernel
theorem dX4_init_83 : decode cX4_init 83 = .ok (.aload_n 0, 1) := by decide +kernel
theorem dX4_init_84 : decode cX4_init 84 = .ok (.bipush 12, 2) := by decide +kernel
theorem dX4_init_86 : decode cX4_init 86 = .ok (.newarray .long, 2) := by decide +kernel
theorem dX4_init_88 : decode cX4_init 88 = .ok (.putfield 44, 3) := by decide +kernel
theorem dX4_init_91 : decode cX4_init 91 = .ok (.aload_n 0, 1) := by decide +kernel
theorem dX4_init_92 : decode cX4_init 92 = .ok (.bipush 12, 2) := by decide +kernel
theorem dX4_init_94 : decode cX4_init 94 = .ok (.newarray .long, 2) := by decide +kernel
theorem dX4_init_96 : decode cX4_init 96 = .ok (.putfield 48, 3) := by decide +kernel
theorem dX4_init_99 : decode cX4_init 99 = .ok (.aload_n 0, 1) := by decide +kernel
theorem dX4_init_100 : decode cX4_init 100 = .ok (.bipush 12, 2) := by decide +kernel
theorem dX4_init_102 : decode cX4_init 102 = .ok (.newarray .int, 2) := by decide +kernel
theorem dX4_init_104 : decode cX4_init 104 = .ok (.putfield 51, 3) := by decide +kernel
theorem dX4_init_107 : decode cX4_init 107 = .ok (.aload_n 0, 1) := by decide +kernel
theorem dX4_init_108 : decode cX4_init 108 = .ok (.bipush 12, 2) := by decide +kernel
theorem dX4_init_110 : decode cX4_init 110 = .ok (.newarray .int, 2) := by decide +kernel
theorem dX4_init_112 : decode cX4_init 112 = .ok (.putfield 55, 3) := by decide +kernel
theorem dX4_init_115 : decode cX4_init 115 = .ok (.aload_n 0, 1) := by decide +kernel
theorem dX4_init_116 : decode cX4_init 116 = .ok (.iconst 0, 1) := by decide +kernel
theorem dX4_init_117 : decode cX4_init 117 = .ok (.putfield 58, 3) := by decide +kernel
theorem dX4_init_120 : decode cX4_init 120 = .ok (.iconst 0, 1) := by decide +kernel
theorem dX4_init_121 : decode cX4_init 121 = .ok (.istore_n 1, 1) := by decide +kernel
theorem dX4_init_122 : decode cX4_init 122 = .ok (.iload_n 1, 1) := by decide +kernel
theorem dX4_init_123 : decode cX4_init 123 = .ok (.aload_n 0, 1) := by decide +kernel
theorem dX4_init_124 : decode cX4_init 124 = .ok (.getfield 40, 3) := by decide +kernel
theorem dX4_init_127 : decode cX4_init 127 = .ok (.arraylength, 1) := by decide +kernel
theorem dX4_init_128 : decode cX4_init 128 = .ok (.if_icmp .ge 22, 3) := by decide +kernel
theorem dX4_init_131 : decode cX4_init 131 = .ok (.aload_n 0, 1) := by decide +kernel
theorem dX4_init_132 : decode cX4_init 132 = .ok (.getfield 40, 3) := by decide +kernel
theorem dX4_init_135 : decode cX4_init 135 = .ok (.iload_n 1, 1) := by decide +kernel
theorem dX4_init_136 : decode cX4_init 136 = .ok (.new 38, 3) := by decide +kernel
theorem dX4_init_139 : decode cX4_init 139 = .ok (.dup, 1) := by decide +kernel
theorem dX4_init_140 : decode cX4_init 140 = .ok (.invokespecial 62, 3) := by decide +kernel
theorem dX4_init_143 : decode cX4_init 143 = .ok (.aastore, 1) := by decide +kernel
theorem dX4_init_144 : decode cX4_init 144 = .ok (.iinc 1 1, 3) := by decide +kernel
theorem dX4_init_147 : decode cX4_init 147 = .ok (.goto (-25), 3) := by decide +kernel
def wcX4_init : List Cond := .code yX4_init cX4_init 2 none :: lw_all
theorem tyA {x : ri_LK} {ty ty' : FieldType} {n n' : Nat} (h : x = .inr (.inl (ty, n))) (hx : x = .inr (.inl (ty', n'))) : ty' = ty := by
  rw [h] at hx
  cases hx
  rfl
theorem tyO {x : ri_LK} {l : Nat × List (Nat × Nat)} {y : (FieldType × Nat) ⊕ (String × List Nat)} (h : x = .inr y) (hx : x = .inl l) : False := by
  rw [h] at hx
  cases hx
theorem tyC {x : ri_LK} {z : FieldType × Nat} {y : String × List Nat} (h : x = .inr (.inl z)) (hx : x = .inr (.inr y)) : False := by
  rw [h] at hx
  cases hx
theorem tyR {x : ri_LK} {C C' : String} {l l' : List Nat} (h : x = .inr (.inr (C, l))) (hx : x = .inr (.inr (C', l'))) : C' = C := by
  rw [h] at hx
  cases hx
  rfl
def adL (l : List Nat) (ad0 : Nat → Nat) : Nat → Nat := fun k => l.getD k (ad0 k)
def cAL (l : List ClassId) (c0 : ClassId) : Nat → ClassId := fun k => l.getD k c0
/-- the heap of the class, as it is made, but for the first text -/
def S00 : ri_H := (fun k => if k = 5 then (fun j => if j = 7 then -1 else 0) else if k = 11 ∨ k = 20 ∨ k = 29 then ldr 24 else if k = 38 ∨ k = 40 ∨ k = 42 ∨ k = 44 then (fun j => if j = 1 then -1 else 0) else fun _ => 0, fun _ _ => 0)
set_option maxHeartbeats 4000000 in
set_option maxRecDepth 100000 in
theorem wld50 (ad0 : Nat → Nat) (h0 o5 q8_9 q16_9 q25_9 o16 q8_24 q17_24 q26_24 q35_24 o31 q7_39 q15_39 q22_39 q29_39 q36_39 q43_39 q50_39 q58_39 o46 q7_54 q15_54 q22_54 q29_54 q36_54 q43_54 q50_54 q58_54 o61 q7_69 q15_69 q22_69 q29_69 q36_69 q43_69 q50_69 q58_69 qsh o136_0 q7_140_0 o136_1 q7_140_1 o136_2 q7_140_2 o136_3 q7_140_3 q86 q94 q102 q110 : Nat) (c8_9 c16_9 c25_9 c8_24 c17_24 c26_24 c35_24 c7_39 c15_39 c22_39 c29_39 c36_39 c43_39 c50_39 c58_39 c7_54 c15_54 c22_54 c29_54 c36_54 c43_54 c50_54 c58_54 c7_69 c15_69 c22_69 c29_69 c36_69 c43_69 c50_69 c58_69 csh c7_140_0 c7_140_1 c7_140_2 c7_140_3 c86 c94 c102 c110 : ClassId) : j_ri_wld (adL [h0, o5, q8_9, q16_9, q25_9, o16, q8_24, q17_24, q26_24, q35_24, o31, q7_39, q15_39, q22_39, q29_39, q36_39, q43_39, q50_39, q58_39, o46, q7_54, q15_54, q22_54, q29_54, q36_54, q43_54, q50_54, q58_54, o61, q7_69, q15_69, q22_69, q29_69, q36_69, q43_69, q50_69, q58_69, qsh, o136_0, q7_140_0, o136_1, q7_140_1, o136_2, q7_140_2, o136_3, q7_140_3, q86, q94, q102, q110] ad0) (cAL [c8_9, c8_9, c8_9, c16_9, c25_9, c8_9, c8_24, c17_24, c26_24, c35_24, c8_9, c7_39, c15_39, c22_39, c29_39, c36_39, c43_39, c50_39, c58_39, c8_9, c7_54, c15_54, c22_54, c29_54, c36_54, c43_54, c50_54, c58_54, c8_9, c7_69, c15_69, c22_69, c29_69, c36_69, c43_69, c50_69, c58_69, csh, c8_9, c7_140_0, c8_9, c7_140_1, c8_9, c7_140_2, c8_9, c7_140_3, c86, c94, c102, c110] c8_9) S00 = [(h0, .inr (4, [.ref o5, .ref o16, .ref o31, .ref o46, .ref o61, .ref qsh, .ref q86, .ref q94, .ref q102, .ref q110, .int (0)])), (o5, .inr (2, [.ref q8_9, .ref q16_9, .ref q25_9, .int (0), .int (0)])), (q8_9, .inl (c8_9, 960, .inl (fun _ => 0))), (q16_9, .inl (c16_9, 24, .inl (fun _ => 0))), (q25_9, .inl (c25_9, 160, .inl (fun _ => 0))), (o16, .inr (0, [.ref q8_24, .ref q17_24, .ref q26_24, .ref q35_24, .int (0), .int (0), .int (0), .int (-1), .ref o5])), (q8_24, .inl (c8_24, 160, .inl (fun _ => 0))), (q17_24, .inl (c17_24, 161, .inl (fun _ => 0))), (q26_24, .inl (c26_24, 161, .inl (fun _ => 0))), (q35_24, .inl (c35_24, 161, .inl (fun _ => 0))), (o31, .inr (3, [.ref q7_39, .ref q15_39, .ref q22_39, .ref q29_39, .ref q36_39, .ref q43_39, .ref q50_39, .ref q58_39, .ref o5, .int (0), .int (0), .int (0)])), (q7_39, .inl (c7_39, 24, .inl (ldr 24))), (q15_39, .inl (c15_39, 24, .inl (fun _ => 0))), (q22_39, .inl (c22_39, 5, .inl (fun _ => 0))), (q29_39, .inl (c29_39, 5, .inl (fun _ => 0))), (q36_39, .inl (c36_39, 5, .inl (fun _ => 0))), (q43_39, .inl (c43_39, 5, .inl (fun _ => 0))), (q50_39, .inl (c50_39, 5, .inl (fun _ => 0))), (q58_39, .inl (c58_39, 6, .inl (fun _ => 0))), (o46, .inr (3, [.ref q7_54, .ref q15_54, .ref q22_54, .ref q29_54, .ref q36_54, .ref q43_54, .ref q50_54, .ref q58_54, .ref o5, .int (0), .int (0), .int (0)])), (q7_54, .inl (c7_54, 24, .inl (ldr 24))), (q15_54, .inl (c15_54, 24, .inl (fun _ => 0))), (q22_54, .inl (c22_54, 5, .inl (fun _ => 0))), (q29_54, .inl (c29_54, 5, .inl (fun _ => 0))), (q36_54, .inl (c36_54, 5, .inl (fun _ => 0))), (q43_54, .inl (c43_54, 5, .inl (fun _ => 0))), (q50_54, .inl (c50_54, 5, .inl (fun _ => 0))), (q58_54, .inl (c58_54, 6, .inl (fun _ => 0))), (o61, .inr (3, [.ref q7_69, .ref q15_69, .ref q22_69, .ref q29_69, .ref q36_69, .ref q43_69, .ref q50_69, .ref q58_69, .ref o5, .int (0), .int (0), .int (0)])), (q7_69, .inl (c7_69, 24, .inl (ldr 24))), (q15_69, .inl (c15_69, 24, .inl (fun _ => 0))), (q22_69, .inl (c22_69, 5, .inl (fun _ => 0))), (q29_69, .inl (c29_69, 5, .inl (fun _ => 0))), (q36_69, .inl (c36_69, 5, .inl (fun _ => 0))), (q43_69, .inl (c43_69, 5, .inl (fun _ => 0))), (q50_69, .inl (c50_69, 5, .inl (fun _ => 0))), (q58_69, .inl (c58_69, 6, .inl (fun _ => 0))), (qsh, .inl (csh, 4, .inr (.inr (.inr (.inr (fun j => (ri_nth [38, 40, 42, 44] j).map (adL [h0, o5, q8_9, q16_9, q25_9, o16, q8_24, q17_24, q26_24, q35_24, o31, q7_39, q15_39, q22_39, q29_39, q36_39, q43_39, q50_39, q58_39, o46, q7_54, q15_54, q22_54, q29_54, q36_54, q43_54, q50_54, q58_54, o61, q7_69, q15_69, q22_69, q29_69, q36_69, q43_69, q50_69, q58_69, qsh, o136_0, q7_140_0, o136_1, q7_140_1, o136_2, q7_140_2, o136_3, q7_140_3, q86, q94, q102, q110] ad0))))))), (o136_0, .inr (1, [.ref q7_140_0, .int (-1), .int (0)])), (q7_140_0, .inl (c7_140_0, 40, .inl (fun _ => 0))), (o136_1, .inr (1, [.ref q7_140_1, .int (-1), .int (0)])), (q7_140_1, .inl (c7_140_1, 40, .inl (fun _ => 0))), (o136_2, .inr (1, [.ref q7_140_2, .int (-1), .int (0)])), (q7_140_2, .inl (c7_140_2, 40, .inl (fun _ => 0))), (o136_3, .inr (1, [.ref q7_140_3, .int (-1), .int (0)])), (q7_140_3, .inl (c7_140_3, 40, .inl (fun _ => 0))), (q86, .inl (c86, 12, .inr (.inl (fun _ => 0)))), (q94, .inl (c94, 12, .inr (.inl (fun _ => 0)))), (q102, .inl (c102, 12, .inl (fun _ => 0))), (q110, .inl (c110, 12, .inl (fun _ => 0)))] := rfl
set_option maxHeartbeats 4000000 in
set_option maxRecDepth 100000 in
theorem ty50 (c8_9 c16_9 c25_9 c8_24 c17_24 c26_24 c35_24 c7_39 c15_39 c22_39 c29_39 c36_39 c43_39 c50_39 c58_39 c7_54 c15_54 c22_54 c29_54 c36_54 c43_54 c50_54 c58_54 c7_69 c15_69 c22_69 c29_69 c36_69 c43_69 c50_69 c58_69 csh c7_140_0 c7_140_1 c7_140_2 c7_140_3 c86 c94 c102 c110 : ClassId) : j_ri_Ty (cAL [c8_9, c8_9, c8_9, c16_9, c25_9, c8_9, c8_24, c17_24, c26_24, c35_24, c8_9, c7_39, c15_39, c22_39, c29_39, c36_39, c43_39, c50_39, c58_39, c8_9, c7_54, c15_54, c22_54, c29_54, c36_54, c43_54, c50_54, c58_54, c8_9, c7_69, c15_69, c22_69, c29_69, c36_69, c43_69, c50_69, c58_69, csh, c8_9, c7_140_0, c8_9, c7_140_1, c8_9, c7_140_2, c8_9, c7_140_3, c86, c94, c102, c110] c8_9) [(c8_9, .int), (c16_9, .int), (c25_9, .int), (c8_24, .int), (c17_24, .int), (c26_24, .int), (c35_24, .int), (c7_39, .int), (c15_39, .int), (c22_39, .int), (c29_39, .int), (c36_39, .int), (c43_39, .int), (c50_39, .int), (c58_39, .int), (c7_54, .int), (c15_54, .int), (c22_54, .int), (c29_54, .int), (c36_54, .int), (c43_54, .int), (c50_54, .int), (c58_54, .int), (c7_69, .int), (c15_69, .int), (c22_69, .int), (c29_69, .int), (c36_69, .int), (c43_69, .int), (c50_69, .int), (c58_69, .int), (csh, .object RX1), (c86, .long), (c94, .long), (c102, .int), (c110, .int), (c7_140_0, .int), (c7_140_1, .int), (c7_140_2, .int), (c7_140_3, .int)] := fun k hk => match k, hk with
  | 0, _ => ⟨fun _ _ h => (tyO h rfl).elim, fun _ _ h => (tyO h rfl).elim⟩
  | 1, _ => ⟨fun _ _ h => (tyO h rfl).elim, fun _ _ h => (tyO h rfl).elim⟩
  | 2, _ => ⟨fun _ _ h => ⟨0, tyA h rfl ▸ rfl⟩, fun _ _ h => (tyC rfl h).elim⟩
  | 3, _ => ⟨fun _ _ h => ⟨1, tyA h rfl ▸ rfl⟩, fun _ _ h => (tyC rfl h).elim⟩
  | 4, _ => ⟨fun _ _ h => ⟨2, tyA h rfl ▸ rfl⟩, fun _ _ h => (tyC rfl h).elim⟩
  | 5, _ => ⟨fun _ _ h => (tyO h rfl).elim, fun _ _ h => (tyO h rfl).elim⟩
  | 6, _ => ⟨fun _ _ h => ⟨3, tyA h rfl ▸ rfl⟩, fun _ _ h => (tyC rfl h).elim⟩
  | 7, _ => ⟨fun _ _ h => ⟨4, tyA h rfl ▸ rfl⟩, fun _ _ h => (tyC rfl h).elim⟩
  | 8, _ => ⟨fun _ _ h => ⟨5, tyA h rfl ▸ rfl⟩, fun _ _ h => (tyC rfl h).elim⟩
  | 9, _ => ⟨fun _ _ h => ⟨6, tyA h rfl ▸ rfl⟩, fun _ _ h => (tyC rfl h).elim⟩
  | 10, _ => ⟨fun _ _ h => (tyO h rfl).elim, fun _ _ h => (tyO h rfl).elim⟩
  | 11, _ => ⟨fun _ _ h => ⟨7, tyA h rfl ▸ rfl⟩, fun _ _ h => (tyC rfl h).elim⟩
  | 12, _ => ⟨fun _ _ h => ⟨8, tyA h rfl ▸ rfl⟩, fun _ _ h => (tyC rfl h).elim⟩
  | 13, _ => ⟨fun _ _ h => ⟨9, tyA h rfl ▸ rfl⟩, fun _ _ h => (tyC rfl h).elim⟩
  | 14, _ => ⟨fun _ _ h => ⟨10, tyA h rfl ▸ rfl⟩, fun _ _ h => (tyC rfl h).elim⟩
  | 15, _ => ⟨fun _ _ h => ⟨11, tyA h rfl ▸ rfl⟩, fun _ _ h => (tyC rfl h).elim⟩
  | 16, _ => ⟨fun _ _ h => ⟨12, tyA h rfl ▸ rfl⟩, fun _ _ h => (tyC rfl h).elim⟩
  | 17, _ => ⟨fun _ _ h => ⟨13, tyA h rfl ▸ rfl⟩, fun _ _ h => (tyC rfl h).elim⟩
  | 18, _ => ⟨fun _ _ h => ⟨14, tyA h rfl ▸ rfl⟩, fun _ _ h => (tyC rfl h).elim⟩
  | 19, _ => ⟨fun _ _ h => (tyO h rfl).elim, fun _ _ h => (tyO h rfl).elim⟩
  | 20, _ => ⟨fun _ _ h => ⟨15, tyA h rfl ▸ rfl⟩, fun _ _ h => (tyC rfl h).elim⟩
  | 21, _ => ⟨fun _ _ h => ⟨16, tyA h rfl ▸ rfl⟩, fun _ _ h => (tyC rfl h).elim⟩
  | 22, _ => ⟨fun _ _ h => ⟨17, tyA h rfl ▸ rfl⟩, fun _ _ h => (tyC rfl h).elim⟩
  | 23, _ => ⟨fun _ _ h => ⟨18, tyA h rfl ▸ rfl⟩, fun _ _ h => (tyC rfl h).elim⟩
  | 24, _ => ⟨fun _ _ h => ⟨19, tyA h rfl ▸ rfl⟩, fun _ _ h => (tyC rfl h).elim⟩
  | 25, _ => ⟨fun _ _ h => ⟨20, tyA h rfl ▸ rfl⟩, fun _ _ h => (tyC rfl h).elim⟩
  | 26, _ => ⟨fun _ _ h => ⟨21, tyA h rfl ▸ rfl⟩, fun _ _ h => (tyC rfl h).elim⟩
  | 27, _ => ⟨fun _ _ h => ⟨22, tyA h rfl ▸ rfl⟩, fun _ _ h => (tyC rfl h).elim⟩
  | 28, _ => ⟨fun _ _ h => (tyO h rfl).elim, fun _ _ h => (tyO h rfl).elim⟩
  | 29, _ => ⟨fun _ _ h => ⟨23, tyA h rfl ▸ rfl⟩, fun _ _ h => (tyC rfl h).elim⟩
  | 30, _ => ⟨fun _ _ h => ⟨24, tyA h rfl ▸ rfl⟩, fun _ _ h => (tyC rfl h).elim⟩
  | 31, _ => ⟨fun _ _ h => ⟨25, tyA h rfl ▸ rfl⟩, fun _ _ h => (tyC rfl h).elim⟩
  | 32, _ => ⟨fun _ _ h => ⟨26, tyA h rfl ▸ rfl⟩, fun _ _ h => (tyC rfl h).elim⟩
  | 33, _ => ⟨fun _ _ h => ⟨27, tyA h rfl ▸ rfl⟩, fun _ _ h => (tyC rfl h).elim⟩
  | 34, _ => ⟨fun _ _ h => ⟨28, tyA h rfl ▸ rfl⟩, fun _ _ h => (tyC rfl h).elim⟩
  | 35, _ => ⟨fun _ _ h => ⟨29, tyA h rfl ▸ rfl⟩, fun _ _ h => (tyC rfl h).elim⟩
  | 36, _ => ⟨fun _ _ h => ⟨30, tyA h rfl ▸ rfl⟩, fun _ _ h => (tyC rfl h).elim⟩
  | 37, _ => ⟨fun _ _ h => (tyC h rfl).elim, fun _ _ h => ⟨31, tyR h rfl ▸ rfl⟩⟩
  | 38, _ => ⟨fun _ _ h => (tyO h rfl).elim, fun _ _ h => (tyO h rfl).elim⟩
  | 39, _ => ⟨fun _ _ h => ⟨36, tyA h rfl ▸ rfl⟩, fun _ _ h => (tyC rfl h).elim⟩
  | 40, _ => ⟨fun _ _ h => (tyO h rfl).elim, fun _ _ h => (tyO h rfl).elim⟩
  | 41, _ => ⟨fun _ _ h => ⟨37, tyA h rfl ▸ rfl⟩, fun _ _ h => (tyC rfl h).elim⟩
  | 42, _ => ⟨fun _ _ h => (tyO h rfl).elim, fun _ _ h => (tyO h rfl).elim⟩
  | 43, _ => ⟨fun _ _ h => ⟨38, tyA h rfl ▸ rfl⟩, fun _ _ h => (tyC rfl h).elim⟩
  | 44, _ => ⟨fun _ _ h => (tyO h rfl).elim, fun _ _ h => (tyO h rfl).elim⟩
  | 45, _ => ⟨fun _ _ h => ⟨39, tyA h rfl ▸ rfl⟩, fun _ _ h => (tyC rfl h).elim⟩
  | 46, _ => ⟨fun _ _ h => ⟨32, tyA h rfl ▸ rfl⟩, fun _ _ h => (tyC rfl h).elim⟩
  | 47, _ => ⟨fun _ _ h => ⟨33, tyA h rfl ▸ rfl⟩, fun _ _ h => (tyC rfl h).elim⟩
  | 48, _ => ⟨fun _ _ h => ⟨34, tyA h rfl ▸ rfl⟩, fun _ _ h => (tyC rfl h).elim⟩
  | 49, _ => ⟨fun _ _ h => ⟨35, tyA h rfl ▸ rfl⟩, fun _ _ h => (tyC rfl h).elim⟩
  | k + 50, hk => absurd (show k + 50 < 50 from hk) (by omega)
