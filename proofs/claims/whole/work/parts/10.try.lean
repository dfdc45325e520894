theorem t1 : ri_mt 98 = some rm_98 := rfl
theorem t2 : ri_en mX4_item [.ref 12, .int 4] = (98, 0, [some (.ref 12), some (.int 4)], []) := rfl
theorem t3 : ri_ins rc_98 0 = some (.iload_n 1, 1, .null) := rfl
theorem t4 (E : ri_E) (S : ri_H) (i : Int32) : ri_ex E 4 98 0 1 .null [some (.ref 12), some (.int i)] [] S (.iload_n 1) = some (.inl ((98, 1, [some (.ref 12), some (.int i)], [.int i]), S)) := rfl
theorem t5 (E : ri_E) (S : ri_H) (i : Int32) : ri_step E (98, 0, [some (.ref 12), some (.int i)], []) S = some (.inl ((98, 1, [some (.ref 12), some (.int i)], [.int i]), S)) := rfl
theorem t6 (E : ri_E) (S : ri_H) (i : Int32) : ri_step E (98, 1, [some (.ref 12), some (.int i)], [.int i]) S = some (.inr (.inl (decide (i < 0), ((98, 16, [some (.ref 12), some (.int i)], []), S), ((98, 4, [some (.ref 12), some (.int i)], []), S)))) := rfl
theorem t7 (E : ri_E) (S : ri_H) (i : Int32) : ri_go E 2 (98, 0, [some (.ref 12), some (.int i)], []) S = some (.inr (.inl (decide (i < 0), ((98, 16, [some (.ref 12), some (.int i)], []), S), ((98, 4, [some (.ref 12), some (.int i)], []), S)))) := rfl
