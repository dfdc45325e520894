/-! the instructions of the methods, decoded -/
def ri_dk (t : ri_MT) : Prop := ri_chka (ri_ml0 t) (ri_b t) (ri_cdt t) = true
def ri_chp (ml : Nat) (b : ByteArray) (t : ri_CD) (q : Nat) : Bool := (List.range 64).all (fun j => ri_chk ml b t (64 * q + j))
theorem ri_chp_use {ml : Nat} {b : ByteArray} {t : ri_CD} (Q : Nat) (h : ∀ q, q < Q → ri_chp ml b t q = true) (hQ : 16 * t.length ≤ 64 * Q) : ri_chka ml b t = true := by
  refine List.all_eq_true.mpr fun pc hpc => ?_
  have h1 := List.mem_range.mp hpc
  have h2 := List.all_eq_true.mp (h (pc / 64) (by omega)) (pc % 64) (List.mem_range.mpr (by omega))
  rw [show 64 * (pc / 64) + pc % 64 = pc by omega] at h2
  exact h2
set_option maxRecDepth 100000 in
theorem rk_0 : ri_dk rm_0 := by
  show ri_chka (ri_ml0 rm_0) (ri_b rm_0) rc_0 = true
  decide +kernel
set_option maxRecDepth 100000 in
theorem rk_1 : ri_dk rm_1 := by
  show ri_chka (ri_ml0 rm_1) (ri_b rm_1) rc_1 = true
  decide +kernel
set_option maxRecDepth 100000 in
theorem rk_2 : ri_dk rm_2 := by
  show ri_chka (ri_ml0 rm_2) (ri_b rm_2) rc_2 = true
  decide +kernel
set_option maxRecDepth 100000 in
theorem rk_3 : ri_dk rm_3 := by
  show ri_chka (ri_ml0 rm_3) (ri_b rm_3) rc_3 = true
  decide +kernel
set_option maxRecDepth 100000 in
theorem rk_4 : ri_dk rm_4 := by
  show ri_chka (ri_ml0 rm_4) (ri_b rm_4) rc_4 = true
  decide +kernel
set_option maxRecDepth 100000 in
theorem rk_5 : ri_dk rm_5 := by
  show ri_chka (ri_ml0 rm_5) (ri_b rm_5) rc_5 = true
  decide +kernel
set_option maxRecDepth 100000 in
theorem rk_6 : ri_dk rm_6 := by
  show ri_chka (ri_ml0 rm_6) (ri_b rm_6) rc_6 = true
  decide +kernel
set_option maxRecDepth 100000 in
theorem rk_7 : ri_dk rm_7 := by
  show ri_chka (ri_ml0 rm_7) (ri_b rm_7) rc_7 = true
  decide +kernel
set_option maxRecDepth 100000 in
theorem rk_8 : ri_dk rm_8 := by
  show ri_chka (ri_ml0 rm_8) (ri_b rm_8) rc_8 = true
  decide +kernel
set_option maxRecDepth 100000 in
theorem rk_9 : ri_dk rm_9 := by
  show ri_chka (ri_ml0 rm_9) (ri_b rm_9) rc_9 = true
  decide +kernel
set_option maxRecDepth 100000 in
theorem rk_10 : ri_dk rm_10 := by
  show ri_chka (ri_ml0 rm_10) (ri_b rm_10) rc_10 = true
  decide +kernel
set_option maxRecDepth 100000 in
theorem rk_11 : ri_dk rm_11 := by
  show ri_chka (ri_ml0 rm_11) (ri_b rm_11) rc_11 = true
  decide +kernel
set_option maxRecDepth 100000 in
theorem rk_12 : ri_dk rm_12 := by
  show ri_chka (ri_ml0 rm_12) (ri_b rm_12) rc_12 = true
  decide +kernel
set_option maxRecDepth 100000 in
theorem rk_13 : ri_dk rm_13 := by
  show ri_chka (ri_ml0 rm_13) (ri_b rm_13) rc_13 = true
  decide +kernel
set_option maxRecDepth 100000 in
theorem rk_14 : ri_dk rm_14 := by
  show ri_chka (ri_ml0 rm_14) (ri_b rm_14) rc_14 = true
  decide +kernel
set_option maxRecDepth 100000 in
theorem rk_15 : ri_dk rm_15 := by
  show ri_chka (ri_ml0 rm_15) (ri_b rm_15) rc_15 = true
  decide +kernel
set_option maxRecDepth 100000 in
theorem rk_16 : ri_dk rm_16 := by
  show ri_chka (ri_ml0 rm_16) (ri_b rm_16) rc_16 = true
  decide +kernel
set_option maxRecDepth 100000 in
theorem rk_17 : ri_dk rm_17 := by
  show ri_chka (ri_ml0 rm_17) (ri_b rm_17) rc_17 = true
  decide +kernel
set_option maxRecDepth 100000 in
theorem rk_18 : ri_dk rm_18 := by
  show ri_chka (ri_ml0 rm_18) (ri_b rm_18) rc_18 = true
  decide +kernel
set_option maxRecDepth 100000 in
theorem rk_19 : ri_dk rm_19 := by
  show ri_chka (ri_ml0 rm_19) (ri_b rm_19) rc_19 = true
  decide +kernel
set_option maxRecDepth 100000 in
theorem rk_20 : ri_dk rm_20 := by
  show ri_chka (ri_ml0 rm_20) (ri_b rm_20) rc_20 = true
  decide +kernel
set_option maxRecDepth 100000 in
theorem rk_21 : ri_dk rm_21 := by
  show ri_chka (ri_ml0 rm_21) (ri_b rm_21) rc_21 = true
  decide +kernel
set_option maxRecDepth 100000 in
theorem rk_22 : ri_dk rm_22 := by
  show ri_chka (ri_ml0 rm_22) (ri_b rm_22) rc_22 = true
  decide +kernel
set_option maxRecDepth 100000 in
theorem rk_23 : ri_dk rm_23 := by
  show ri_chka (ri_ml0 rm_23) (ri_b rm_23) rc_23 = true
  decide +kernel
set_option maxRecDepth 100000 in
theorem rk_24 : ri_dk rm_24 := by
  show ri_chka (ri_ml0 rm_24) (ri_b rm_24) rc_24 = true
  decide +kernel
set_option maxRecDepth 100000 in
theorem rk_25 : ri_dk rm_25 := by
  show ri_chka (ri_ml0 rm_25) (ri_b rm_25) rc_25 = true
  decide +kernel
set_option maxRecDepth 100000 in
theorem rk_26 : ri_dk rm_26 := by
  show ri_chka (ri_ml0 rm_26) (ri_b rm_26) rc_26 = true
  decide +kernel
set_option maxRecDepth 100000 in
theorem rk_27 : ri_dk rm_27 := by
  show ri_chka (ri_ml0 rm_27) (ri_b rm_27) rc_27 = true
  decide +kernel
set_option maxRecDepth 100000 in
theorem rk_28 : ri_dk rm_28 := by
  show ri_chka (ri_ml0 rm_28) (ri_b rm_28) rc_28 = true
  decide +kernel
set_option maxRecDepth 100000 in
theorem rk_29 : ri_dk rm_29 := by
  show ri_chka (ri_ml0 rm_29) (ri_b rm_29) rc_29 = true
  decide +kernel
set_option maxRecDepth 100000 in
theorem rk_30 : ri_dk rm_30 := by
  show ri_chka (ri_ml0 rm_30) (ri_b rm_30) rc_30 = true
  decide +kernel
set_option maxRecDepth 100000 in
theorem rk_31 : ri_dk rm_31 := by
  show ri_chka (ri_ml0 rm_31) (ri_b rm_31) rc_31 = true
  decide +kernel
set_option maxRecDepth 100000 in
theorem rk_32 : ri_dk rm_32 := by
  show ri_chka (ri_ml0 rm_32) (ri_b rm_32) rc_32 = true
  decide +kernel
set_option maxRecDepth 100000 in
theorem rk_33 : ri_dk rm_33 := by
  show ri_chka (ri_ml0 rm_33) (ri_b rm_33) rc_33 = true
  decide +kernel
set_option maxRecDepth 100000 in
theorem rk_34 : ri_dk rm_34 := by
  show ri_chka (ri_ml0 rm_34) (ri_b rm_34) rc_34 = true
  decide +kernel
set_option maxRecDepth 100000 in
theorem rk_35 : ri_dk rm_35 := by
  show ri_chka (ri_ml0 rm_35) (ri_b rm_35) rc_35 = true
  decide +kernel
set_option maxRecDepth 100000 in
theorem rk_36 : ri_dk rm_36 := by
  show ri_chka (ri_ml0 rm_36) (ri_b rm_36) rc_36 = true
  decide +kernel
set_option maxRecDepth 100000 in
theorem rk_37 : ri_dk rm_37 := by
  show ri_chka (ri_ml0 rm_37) (ri_b rm_37) rc_37 = true
  decide +kernel
set_option maxRecDepth 100000 in
theorem rk_38 : ri_dk rm_38 := by
  show ri_chka (ri_ml0 rm_38) (ri_b rm_38) rc_38 = true
  decide +kernel
set_option maxRecDepth 100000 in
theorem rk_39 : ri_dk rm_39 := by
  show ri_chka (ri_ml0 rm_39) (ri_b rm_39) rc_39 = true
  decide +kernel
set_option maxRecDepth 100000 in
theorem rk_40 : ri_dk rm_40 := by
  show ri_chka (ri_ml0 rm_40) (ri_b rm_40) rc_40 = true
  decide +kernel
set_option maxRecDepth 100000 in
theorem rk_41 : ri_dk rm_41 := by
  show ri_chka (ri_ml0 rm_41) (ri_b rm_41) rc_41 = true
  decide +kernel
set_option maxRecDepth 100000 in
theorem rk_42 : ri_dk rm_42 := by
  show ri_chka (ri_ml0 rm_42) (ri_b rm_42) rc_42 = true
  decide +kernel
set_option maxRecDepth 100000 in
theorem rk_43 : ri_dk rm_43 := by
  show ri_chka (ri_ml0 rm_43) (ri_b rm_43) rc_43 = true
  decide +kernel
set_option maxRecDepth 100000 in
theorem rk_44 : ri_dk rm_44 := by
  show ri_chka (ri_ml0 rm_44) (ri_b rm_44) rc_44 = true
  decide +kernel
set_option maxRecDepth 100000 in
theorem rk_45 : ri_dk rm_45 := by
  show ri_chka (ri_ml0 rm_45) (ri_b rm_45) rc_45 = true
  decide +kernel
set_option maxRecDepth 100000 in
theorem rk_46 : ri_dk rm_46 := by
  show ri_chka (ri_ml0 rm_46) (ri_b rm_46) rc_46 = true
  decide +kernel
set_option maxRecDepth 100000 in
theorem rk_47 : ri_dk rm_47 := by
  show ri_chka (ri_ml0 rm_47) (ri_b rm_47) rc_47 = true
  decide +kernel
set_option maxRecDepth 100000 in
theorem rk_48 : ri_dk rm_48 := by
  show ri_chka (ri_ml0 rm_48) (ri_b rm_48) rc_48 = true
  decide +kernel
set_option maxRecDepth 100000 in
theorem rk_49 : ri_dk rm_49 := by
  show ri_chka (ri_ml0 rm_49) (ri_b rm_49) rc_49 = true
  decide +kernel
set_option maxRecDepth 100000 in
theorem rk_50 : ri_dk rm_50 := by
  show ri_chka (ri_ml0 rm_50) (ri_b rm_50) rc_50 = true
  decide +kernel
set_option maxRecDepth 100000 in
theorem rk_51 : ri_dk rm_51 := by
  show ri_chka (ri_ml0 rm_51) (ri_b rm_51) rc_51 = true
  decide +kernel
set_option maxRecDepth 100000 in
theorem rk_52 : ri_dk rm_52 := by
  show ri_chka (ri_ml0 rm_52) (ri_b rm_52) rc_52 = true
  decide +kernel
set_option maxRecDepth 100000 in
theorem rk_53 : ri_dk rm_53 := by
  show ri_chka (ri_ml0 rm_53) (ri_b rm_53) rc_53 = true
  decide +kernel
set_option maxRecDepth 100000 in
theorem rk_54 : ri_dk rm_54 := by
  show ri_chka (ri_ml0 rm_54) (ri_b rm_54) rc_54 = true
  decide +kernel
set_option maxRecDepth 100000 in
theorem rk_55 : ri_dk rm_55 := by
  show ri_chka (ri_ml0 rm_55) (ri_b rm_55) rc_55 = true
  decide +kernel
set_option maxRecDepth 100000 in
theorem rk_56 : ri_dk rm_56 := by
  show ri_chka (ri_ml0 rm_56) (ri_b rm_56) rc_56 = true
  decide +kernel
set_option maxRecDepth 100000 in
theorem rk_57 : ri_dk rm_57 := by
  show ri_chka (ri_ml0 rm_57) (ri_b rm_57) rc_57 = true
  decide +kernel
set_option maxRecDepth 100000 in
theorem rk_58 : ri_dk rm_58 := by
  show ri_chka (ri_ml0 rm_58) (ri_b rm_58) rc_58 = true
  decide +kernel
set_option maxRecDepth 100000 in
theorem rk_59 : ri_dk rm_59 := by
  show ri_chka (ri_ml0 rm_59) (ri_b rm_59) rc_59 = true
  decide +kernel
set_option maxRecDepth 100000 in
theorem rk_60 : ri_dk rm_60 := by
  show ri_chka (ri_ml0 rm_60) (ri_b rm_60) rc_60 = true
  decide +kernel
set_option maxRecDepth 100000 in
theorem rk_61 : ri_dk rm_61 := by
  show ri_chka (ri_ml0 rm_61) (ri_b rm_61) rc_61 = true
  decide +kernel
set_option maxRecDepth 100000 in
theorem rk_62 : ri_dk rm_62 := by
  show ri_chka (ri_ml0 rm_62) (ri_b rm_62) rc_62 = true
  decide +kernel
set_option maxRecDepth 100000 in
theorem rk_63 : ri_dk rm_63 := by
  show ri_chka (ri_ml0 rm_63) (ri_b rm_63) rc_63 = true
  decide +kernel
set_option maxRecDepth 100000 in
theorem rk_64 : ri_dk rm_64 := by
  show ri_chka (ri_ml0 rm_64) (ri_b rm_64) rc_64 = true
  decide +kernel
set_option maxRecDepth 100000 in
theorem rk_65 : ri_dk rm_65 := by
  show ri_chka (ri_ml0 rm_65) (ri_b rm_65) rc_65 = true
  decide +kernel
set_option maxRecDepth 100000 in
theorem rk_66 : ri_dk rm_66 := by
  show ri_chka (ri_ml0 rm_66) (ri_b rm_66) rc_66 = true
  decide +kernel
set_option maxRecDepth 100000 in
theorem rk_67 : ri_dk rm_67 := by
  show ri_chka (ri_ml0 rm_67) (ri_b rm_67) rc_67 = true
  decide +kernel
set_option maxRecDepth 100000 in
theorem rk_68 : ri_dk rm_68 := by
  show ri_chka (ri_ml0 rm_68) (ri_b rm_68) rc_68 = true
  decide +kernel
set_option maxRecDepth 100000 in
theorem rk_69 : ri_dk rm_69 := by
  show ri_chka (ri_ml0 rm_69) (ri_b rm_69) rc_69 = true
  decide +kernel
set_option maxRecDepth 100000 in
theorem rk_70 : ri_dk rm_70 := by
  show ri_chka (ri_ml0 rm_70) (ri_b rm_70) rc_70 = true
  decide +kernel
set_option maxRecDepth 100000 in
theorem rk_71 : ri_dk rm_71 := by
  show ri_chka (ri_ml0 rm_71) (ri_b rm_71) rc_71 = true
  decide +kernel
set_option maxRecDepth 100000 in
theorem rk_72 : ri_dk rm_72 := by
  show ri_chka (ri_ml0 rm_72) (ri_b rm_72) rc_72 = true
  decide +kernel
set_option maxRecDepth 100000 in
theorem rk_73 : ri_dk rm_73 := by
  show ri_chka (ri_ml0 rm_73) (ri_b rm_73) rc_73 = true
  decide +kernel
set_option maxRecDepth 100000 in
theorem rk_74 : ri_dk rm_74 := by
  show ri_chka (ri_ml0 rm_74) (ri_b rm_74) rc_74 = true
  decide +kernel
set_option maxRecDepth 100000 in
theorem rk_75 : ri_dk rm_75 := by
  show ri_chka (ri_ml0 rm_75) (ri_b rm_75) rc_75 = true
  decide +kernel
set_option maxRecDepth 100000 in
theorem rk_76 : ri_dk rm_76 := by
  show ri_chka (ri_ml0 rm_76) (ri_b rm_76) rc_76 = true
  decide +kernel
set_option maxRecDepth 100000 in
theorem rk_77 : ri_dk rm_77 := by
  show ri_chka (ri_ml0 rm_77) (ri_b rm_77) rc_77 = true
  decide +kernel
set_option maxRecDepth 100000 in
theorem rk_78 : ri_dk rm_78 := by
  show ri_chka (ri_ml0 rm_78) (ri_b rm_78) rc_78 = true
  decide +kernel
set_option maxRecDepth 100000 in
theorem rk_79 : ri_dk rm_79 := by
  show ri_chka (ri_ml0 rm_79) (ri_b rm_79) rc_79 = true
  decide +kernel
set_option maxRecDepth 100000 in
theorem rk_80 : ri_dk rm_80 := by
  show ri_chka (ri_ml0 rm_80) (ri_b rm_80) rc_80 = true
  decide +kernel
set_option maxRecDepth 100000 in
theorem rk_81 : ri_dk rm_81 := by
  show ri_chka (ri_ml0 rm_81) (ri_b rm_81) rc_81 = true
  decide +kernel
set_option maxRecDepth 100000 in
theorem rk_82 : ri_dk rm_82 := by
  show ri_chka (ri_ml0 rm_82) (ri_b rm_82) rc_82 = true
  decide +kernel
set_option maxRecDepth 100000 in
theorem rk_83 : ri_dk rm_83 := by
  show ri_chka (ri_ml0 rm_83) (ri_b rm_83) rc_83 = true
  decide +kernel
set_option maxRecDepth 100000 in
theorem rk_84 : ri_dk rm_84 := by
  show ri_chka (ri_ml0 rm_84) (ri_b rm_84) rc_84 = true
  decide +kernel
set_option maxRecDepth 100000 in
theorem rk_85 : ri_dk rm_85 := by
  show ri_chka (ri_ml0 rm_85) (ri_b rm_85) rc_85 = true
  decide +kernel
set_option maxRecDepth 100000 in
theorem rk_86 : ri_dk rm_86 := by
  show ri_chka (ri_ml0 rm_86) (ri_b rm_86) rc_86 = true
  decide +kernel
set_option maxRecDepth 100000 in
theorem rk_87 : ri_dk rm_87 := by
  show ri_chka (ri_ml0 rm_87) (ri_b rm_87) rc_87 = true
  decide +kernel
set_option maxRecDepth 100000 in
theorem rk_88 : ri_dk rm_88 := by
  show ri_chka (ri_ml0 rm_88) (ri_b rm_88) rc_88 = true
  decide +kernel
set_option maxRecDepth 100000 in
theorem rk_89 : ri_dk rm_89 := by
  show ri_chka (ri_ml0 rm_89) (ri_b rm_89) rc_89 = true
  decide +kernel
set_option maxRecDepth 100000 in
theorem rk_90 : ri_dk rm_90 := by
  show ri_chka (ri_ml0 rm_90) (ri_b rm_90) rc_90 = true
  decide +kernel
set_option maxRecDepth 100000 in
theorem rk_91 : ri_dk rm_91 := by
  show ri_chka (ri_ml0 rm_91) (ri_b rm_91) rc_91 = true
  decide +kernel
set_option maxRecDepth 100000 in
theorem rk_92 : ri_dk rm_92 := by
  show ri_chka (ri_ml0 rm_92) (ri_b rm_92) rc_92 = true
  decide +kernel
set_option maxRecDepth 100000 in
theorem rk_93 : ri_dk rm_93 := by
  show ri_chka (ri_ml0 rm_93) (ri_b rm_93) rc_93 = true
  decide +kernel
set_option maxRecDepth 100000 in
theorem rk_94 : ri_dk rm_94 := by
  show ri_chka (ri_ml0 rm_94) (ri_b rm_94) rc_94 = true
  decide +kernel
set_option maxRecDepth 100000 in
theorem rk_95 : ri_dk rm_95 := by
  show ri_chka (ri_ml0 rm_95) (ri_b rm_95) rc_95 = true
  decide +kernel
set_option maxRecDepth 100000 in
theorem rk_96 : ri_dk rm_96 := by
  show ri_chka (ri_ml0 rm_96) (ri_b rm_96) rc_96 = true
  decide +kernel
set_option maxRecDepth 100000 in
theorem rk_97 : ri_dk rm_97 := by
  show ri_chka (ri_ml0 rm_97) (ri_b rm_97) rc_97 = true
  decide +kernel
set_option maxRecDepth 100000 in
theorem rk_98 : ri_dk rm_98 := by
  show ri_chka (ri_ml0 rm_98) (ri_b rm_98) rc_98 = true
  decide +kernel
set_option maxRecDepth 100000 in
theorem rk_99 : ri_dk rm_99 := by
  show ri_chka (ri_ml0 rm_99) (ri_b rm_99) rc_99 = true
  decide +kernel
set_option maxRecDepth 100000 in
theorem rk_100 : ri_dk rm_100 := by
  show ri_chka (ri_ml0 rm_100) (ri_b rm_100) rc_100 = true
  decide +kernel
set_option maxRecDepth 100000 in
theorem rk_101 : ri_dk rm_101 := by
  show ri_chka (ri_ml0 rm_101) (ri_b rm_101) rc_101 = true
  decide +kernel
set_option maxRecDepth 100000 in
theorem rk_102 : ri_dk rm_102 := by
  show ri_chka (ri_ml0 rm_102) (ri_b rm_102) rc_102 = true
  decide +kernel
set_option maxRecDepth 100000 in
theorem rk_103 : ri_dk rm_103 := by
  show ri_chka (ri_ml0 rm_103) (ri_b rm_103) rc_103 = true
  decide +kernel
set_option maxRecDepth 100000 in
theorem rk_104 : ri_dk rm_104 := by
  show ri_chka (ri_ml0 rm_104) (ri_b rm_104) rc_104 = true
  decide +kernel
set_option maxRecDepth 100000 in
theorem rk_105 : ri_dk rm_105 := by
  show ri_chka (ri_ml0 rm_105) (ri_b rm_105) rc_105 = true
  decide +kernel
set_option maxRecDepth 100000 in
theorem rk_106 : ri_dk rm_106 := by
  show ri_chka (ri_ml0 rm_106) (ri_b rm_106) rc_106 = true
  decide +kernel
set_option maxRecDepth 100000 in
theorem rk_107 : ri_dk rm_107 := by
  show ri_chka (ri_ml0 rm_107) (ri_b rm_107) rc_107 = true
  decide +kernel
set_option maxRecDepth 100000 in
theorem rk_108 : ri_dk rm_108 := by
  show ri_chka (ri_ml0 rm_108) (ri_b rm_108) rc_108 = true
  decide +kernel
set_option maxRecDepth 100000 in
theorem rk_109 : ri_dk rm_109 := by
  show ri_chka (ri_ml0 rm_109) (ri_b rm_109) rc_109 = true
  decide +kernel
set_option maxRecDepth 100000 in
theorem rk_110 : ri_dk rm_110 := by
  show ri_chka (ri_ml0 rm_110) (ri_b rm_110) rc_110 = true
  decide +kernel
set_option maxRecDepth 100000 in
theorem rk_111 : ri_dk rm_111 := by
  show ri_chka (ri_ml0 rm_111) (ri_b rm_111) rc_111 = true
  decide +kernel
set_option maxRecDepth 100000 in
theorem rk_112 : ri_dk rm_112 := by
  show ri_chka (ri_ml0 rm_112) (ri_b rm_112) rc_112 = true
  decide +kernel
set_option maxRecDepth 100000 in
theorem rk_113 : ri_dk rm_113 := by
  show ri_chka (ri_ml0 rm_113) (ri_b rm_113) rc_113 = true
  decide +kernel
set_option maxRecDepth 100000 in
theorem rk_114 : ri_dk rm_114 := by
  show ri_chka (ri_ml0 rm_114) (ri_b rm_114) rc_114 = true
  decide +kernel
set_option maxRecDepth 100000 in
theorem rk_115 : ri_dk rm_115 := by
  show ri_chka (ri_ml0 rm_115) (ri_b rm_115) rc_115 = true
  decide +kernel
set_option maxRecDepth 100000 in
theorem rk_116 : ri_dk rm_116 := by
  show ri_chka (ri_ml0 rm_116) (ri_b rm_116) rc_116 = true
  decide +kernel
set_option maxRecDepth 100000 in
theorem rk_117 : ri_dk rm_117 := by
  show ri_chka (ri_ml0 rm_117) (ri_b rm_117) rc_117 = true
  decide +kernel
set_option maxRecDepth 100000 in
theorem rk_118 : ri_dk rm_118 := by
  show ri_chka (ri_ml0 rm_118) (ri_b rm_118) rc_118 = true
  decide +kernel
set_option maxRecDepth 100000 in
theorem rk_119 : ri_dk rm_119 := by
  show ri_chka (ri_ml0 rm_119) (ri_b rm_119) rc_119 = true
  decide +kernel
set_option maxRecDepth 100000 in
theorem rk_120 : ri_dk rm_120 := by
  show ri_chka (ri_ml0 rm_120) (ri_b rm_120) rc_120 = true
  decide +kernel
set_option maxRecDepth 100000 in
theorem rk_121 : ri_dk rm_121 := by
  show ri_chka (ri_ml0 rm_121) (ri_b rm_121) rc_121 = true
  decide +kernel
set_option maxRecDepth 100000 in
theorem rk_122 : ri_dk rm_122 := by
  show ri_chka (ri_ml0 rm_122) (ri_b rm_122) rc_122 = true
  decide +kernel
set_option maxRecDepth 100000 in
theorem rk_123 : ri_dk rm_123 := by
  show ri_chka (ri_ml0 rm_123) (ri_b rm_123) rc_123 = true
  decide +kernel
set_option maxRecDepth 100000 in
theorem rk_124 : ri_dk rm_124 := by
  show ri_chka (ri_ml0 rm_124) (ri_b rm_124) rc_124 = true
  decide +kernel
set_option maxRecDepth 100000 in
theorem rk_125 : ri_dk rm_125 := by
  show ri_chka (ri_ml0 rm_125) (ri_b rm_125) rc_125 = true
  decide +kernel
set_option maxRecDepth 100000 in
theorem rk_126 : ri_dk rm_126 := by
  show ri_chka (ri_ml0 rm_126) (ri_b rm_126) rc_126 = true
  decide +kernel
set_option maxRecDepth 100000 in
theorem rk_127 : ri_dk rm_127 := by
  show ri_chka (ri_ml0 rm_127) (ri_b rm_127) rc_127 = true
  decide +kernel
set_option maxRecDepth 100000 in
theorem rk_128 : ri_dk rm_128 := by
  show ri_chka (ri_ml0 rm_128) (ri_b rm_128) rc_128 = true
  decide +kernel
set_option maxRecDepth 100000 in
theorem rk_129 : ri_dk rm_129 := by
  show ri_chka (ri_ml0 rm_129) (ri_b rm_129) rc_129 = true
  decide +kernel
set_option maxRecDepth 100000 in
theorem rk_130 : ri_dk rm_130 := by
  show ri_chka (ri_ml0 rm_130) (ri_b rm_130) rc_130 = true
  decide +kernel
set_option maxRecDepth 100000 in
theorem rk_131 : ri_dk rm_131 := by
  show ri_chka (ri_ml0 rm_131) (ri_b rm_131) rc_131 = true
  decide +kernel
set_option maxRecDepth 100000 in
theorem rk_132 : ri_dk rm_132 := by
  show ri_chka (ri_ml0 rm_132) (ri_b rm_132) rc_132 = true
  decide +kernel
set_option maxRecDepth 100000 in
theorem rk_133 : ri_dk rm_133 := by
  show ri_chka (ri_ml0 rm_133) (ri_b rm_133) rc_133 = true
  decide +kernel
set_option maxRecDepth 100000 in
theorem rk_134 : ri_dk rm_134 := by
  show ri_chka (ri_ml0 rm_134) (ri_b rm_134) rc_134 = true
  decide +kernel
set_option maxRecDepth 100000 in
theorem rk_135 : ri_dk rm_135 := by
  show ri_chka (ri_ml0 rm_135) (ri_b rm_135) rc_135 = true
  decide +kernel
set_option maxRecDepth 100000 in
theorem rk_136 : ri_dk rm_136 := by
  show ri_chka (ri_ml0 rm_136) (ri_b rm_136) rc_136 = true
  decide +kernel
set_option maxRecDepth 100000 in
theorem rk_137 : ri_dk rm_137 := by
  show ri_chka (ri_ml0 rm_137) (ri_b rm_137) rc_137 = true
  decide +kernel
set_option maxRecDepth 100000 in
theorem rk_138 : ri_dk rm_138 := by
  show ri_chka (ri_ml0 rm_138) (ri_b rm_138) rc_138 = true
  decide +kernel
set_option maxRecDepth 100000 in
theorem rk_139 : ri_dk rm_139 := by
  show ri_chka (ri_ml0 rm_139) (ri_b rm_139) rc_139 = true
  decide +kernel
set_option maxRecDepth 100000 in
theorem rk_140 : ri_dk rm_140 := by
  show ri_chka (ri_ml0 rm_140) (ri_b rm_140) rc_140 = true
  decide +kernel
set_option maxRecDepth 100000 in
theorem rk_141 : ri_dk rm_141 := by
  show ri_chka (ri_ml0 rm_141) (ri_b rm_141) rc_141 = true
  decide +kernel
set_option maxRecDepth 100000 in
theorem rk_142 : ri_dk rm_142 := by
  show ri_chka (ri_ml0 rm_142) (ri_b rm_142) rc_142 = true
  decide +kernel
set_option maxRecDepth 100000 in
theorem rk_143 : ri_dk rm_143 := by
  show ri_chka (ri_ml0 rm_143) (ri_b rm_143) rc_143 = true
  decide +kernel
set_option maxRecDepth 100000 in
theorem rk_144 : ri_dk rm_144 := by
  show ri_chka (ri_ml0 rm_144) (ri_b rm_144) rc_144 = true
  decide +kernel
set_option maxRecDepth 100000 in
theorem rk_145 : ri_dk rm_145 := by
  show ri_chka (ri_ml0 rm_145) (ri_b rm_145) rc_145 = true
  decide +kernel
set_option maxRecDepth 100000 in
theorem rk_146 : ri_dk rm_146 := by
  show ri_chka (ri_ml0 rm_146) (ri_b rm_146) rc_146 = true
  decide +kernel
set_option maxRecDepth 100000 in
theorem rk_147 : ri_dk rm_147 := by
  show ri_chka (ri_ml0 rm_147) (ri_b rm_147) rc_147 = true
  decide +kernel
set_option maxRecDepth 100000 in
theorem rk_148 : ri_dk rm_148 := by
  show ri_chka (ri_ml0 rm_148) (ri_b rm_148) rc_148 = true
  decide +kernel
set_option maxRecDepth 100000 in
theorem rk_149 : ri_dk rm_149 := by
  show ri_chka (ri_ml0 rm_149) (ri_b rm_149) rc_149 = true
  decide +kernel
set_option maxRecDepth 100000 in
theorem rk_150 : ri_dk rm_150 := by
  show ri_chka (ri_ml0 rm_150) (ri_b rm_150) rc_150 = true
  decide +kernel
set_option maxRecDepth 100000 in
theorem rk_151 : ri_dk rm_151 := by
  show ri_chka (ri_ml0 rm_151) (ri_b rm_151) rc_151 = true
  decide +kernel
set_option maxRecDepth 100000 in
theorem rk_152 : ri_dk rm_152 := by
  show ri_chka (ri_ml0 rm_152) (ri_b rm_152) rc_152 = true
  decide +kernel
set_option maxRecDepth 100000 in
theorem rk_153 : ri_dk rm_153 := by
  show ri_chka (ri_ml0 rm_153) (ri_b rm_153) rc_153 = true
  decide +kernel
set_option maxRecDepth 100000 in
theorem rk_154 : ri_dk rm_154 := by
  show ri_chka (ri_ml0 rm_154) (ri_b rm_154) rc_154 = true
  decide +kernel
set_option maxRecDepth 100000 in
theorem rk_155 : ri_dk rm_155 := by
  show ri_chka (ri_ml0 rm_155) (ri_b rm_155) rc_155 = true
  decide +kernel
set_option maxRecDepth 100000 in
theorem rk_156 : ri_dk rm_156 := by
  show ri_chka (ri_ml0 rm_156) (ri_b rm_156) rc_156 = true
  decide +kernel
set_option maxRecDepth 100000 in
theorem rk_157 : ri_dk rm_157 := by
  show ri_chka (ri_ml0 rm_157) (ri_b rm_157) rc_157 = true
  decide +kernel
set_option maxRecDepth 100000 in
theorem rk_158 : ri_dk rm_158 := by
  show ri_chka (ri_ml0 rm_158) (ri_b rm_158) rc_158 = true
  decide +kernel
set_option maxRecDepth 100000 in
theorem rk_159 : ri_dk rm_159 := by
  show ri_chka (ri_ml0 rm_159) (ri_b rm_159) rc_159 = true
  decide +kernel
set_option maxRecDepth 100000 in
theorem rk_160 : ri_dk rm_160 := by
  show ri_chka (ri_ml0 rm_160) (ri_b rm_160) rc_160 = true
  decide +kernel
set_option maxRecDepth 100000 in
theorem rk_161 : ri_dk rm_161 := by
  show ri_chka (ri_ml0 rm_161) (ri_b rm_161) rc_161 = true
  decide +kernel
set_option maxRecDepth 100000 in
theorem rk_162 : ri_dk rm_162 := by
  show ri_chka (ri_ml0 rm_162) (ri_b rm_162) rc_162 = true
  decide +kernel
set_option maxRecDepth 100000 in
theorem rk_163 : ri_dk rm_163 := by
  show ri_chka (ri_ml0 rm_163) (ri_b rm_163) rc_163 = true
  decide +kernel
set_option maxRecDepth 100000 in
theorem rk_164 : ri_dk rm_164 := by
  show ri_chka (ri_ml0 rm_164) (ri_b rm_164) rc_164 = true
  decide +kernel
set_option maxRecDepth 100000 in
theorem rk_165 : ri_dk rm_165 := by
  show ri_chka (ri_ml0 rm_165) (ri_b rm_165) rc_165 = true
  decide +kernel
set_option maxRecDepth 100000 in
theorem rk_166 : ri_dk rm_166 := by
  show ri_chka (ri_ml0 rm_166) (ri_b rm_166) rc_166 = true
  decide +kernel
set_option maxRecDepth 100000 in
theorem rk_167 : ri_dk rm_167 := by
  show ri_chka (ri_ml0 rm_167) (ri_b rm_167) rc_167 = true
  decide +kernel
set_option maxRecDepth 100000 in
theorem rk_168 : ri_dk rm_168 := by
  show ri_chka (ri_ml0 rm_168) (ri_b rm_168) rc_168 = true
  decide +kernel
set_option maxRecDepth 100000 in
theorem rk_169 : ri_dk rm_169 := by
  show ri_chka (ri_ml0 rm_169) (ri_b rm_169) rc_169 = true
  decide +kernel
set_option maxRecDepth 100000 in
theorem rk_170 : ri_dk rm_170 := by
  show ri_chka (ri_ml0 rm_170) (ri_b rm_170) rc_170 = true
  decide +kernel
set_option maxRecDepth 100000 in
theorem rk_171 : ri_dk rm_171 := by
  show ri_chka (ri_ml0 rm_171) (ri_b rm_171) rc_171 = true
  decide +kernel
set_option maxRecDepth 100000 in
theorem rk_172 : ri_dk rm_172 := by
  show ri_chka (ri_ml0 rm_172) (ri_b rm_172) rc_172 = true
  decide +kernel
set_option maxRecDepth 100000 in
theorem rk_173 : ri_dk rm_173 := by
  show ri_chka (ri_ml0 rm_173) (ri_b rm_173) rc_173 = true
  decide +kernel
set_option maxRecDepth 100000 in
theorem rk_174 : ri_dk rm_174 := by
  show ri_chka (ri_ml0 rm_174) (ri_b rm_174) rc_174 = true
  decide +kernel
set_option maxRecDepth 100000 in
theorem rk_175 : ri_dk rm_175 := by
  show ri_chka (ri_ml0 rm_175) (ri_b rm_175) rc_175 = true
  decide +kernel
set_option maxRecDepth 100000 in
theorem rk_176 : ri_dk rm_176 := by
  show ri_chka (ri_ml0 rm_176) (ri_b rm_176) rc_176 = true
  decide +kernel
set_option maxRecDepth 100000 in
theorem rk_177 : ri_dk rm_177 := by
  show ri_chka (ri_ml0 rm_177) (ri_b rm_177) rc_177 = true
  decide +kernel
set_option maxRecDepth 100000 in
theorem rk_178 : ri_dk rm_178 := by
  show ri_chka (ri_ml0 rm_178) (ri_b rm_178) rc_178 = true
  decide +kernel
set_option maxRecDepth 100000 in
theorem rk_179 : ri_dk rm_179 := by
  show ri_chka (ri_ml0 rm_179) (ri_b rm_179) rc_179 = true
  decide +kernel
set_option maxRecDepth 100000 in
theorem rk_180 : ri_dk rm_180 := by
  show ri_chka (ri_ml0 rm_180) (ri_b rm_180) rc_180 = true
  decide +kernel
set_option maxRecDepth 100000 in
theorem rk_181 : ri_dk rm_181 := by
  show ri_chka (ri_ml0 rm_181) (ri_b rm_181) rc_181 = true
  decide +kernel
set_option maxRecDepth 100000 in
theorem rk_182 : ri_dk rm_182 := by
  show ri_chka (ri_ml0 rm_182) (ri_b rm_182) rc_182 = true
  decide +kernel
set_option maxRecDepth 100000 in
theorem rk_183 : ri_dk rm_183 := by
  show ri_chka (ri_ml0 rm_183) (ri_b rm_183) rc_183 = true
  decide +kernel
set_option maxRecDepth 100000 in
theorem rk_184 : ri_dk rm_184 := by
  show ri_chka (ri_ml0 rm_184) (ri_b rm_184) rc_184 = true
  decide +kernel
set_option maxRecDepth 100000 in
theorem rk_185 : ri_dk rm_185 := by
  show ri_chka (ri_ml0 rm_185) (ri_b rm_185) rc_185 = true
  decide +kernel
set_option maxRecDepth 100000 in
theorem rk_186 : ri_dk rm_186 := by
  show ri_chka (ri_ml0 rm_186) (ri_b rm_186) rc_186 = true
  decide +kernel
set_option maxRecDepth 100000 in
theorem rk_187 : ri_dk rm_187 := by
  show ri_chka (ri_ml0 rm_187) (ri_b rm_187) rc_187 = true
  decide +kernel
set_option maxRecDepth 100000 in
theorem rk_188 : ri_dk rm_188 := by
  show ri_chka (ri_ml0 rm_188) (ri_b rm_188) rc_188 = true
  decide +kernel
set_option maxRecDepth 100000 in
theorem rk_189 : ri_dk rm_189 := by
  show ri_chka (ri_ml0 rm_189) (ri_b rm_189) rc_189 = true
  decide +kernel
set_option maxRecDepth 100000 in
theorem rk_190 : ri_dk rm_190 := by
  show ri_chka (ri_ml0 rm_190) (ri_b rm_190) rc_190 = true
  decide +kernel
set_option maxRecDepth 100000 in
theorem rk_191 : ri_dk rm_191 := by
  show ri_chka (ri_ml0 rm_191) (ri_b rm_191) rc_191 = true
  decide +kernel
set_option maxRecDepth 100000 in
theorem rk_192 : ri_dk rm_192 := by
  show ri_chka (ri_ml0 rm_192) (ri_b rm_192) rc_192 = true
  decide +kernel
set_option maxRecDepth 100000 in
theorem rk_193 : ri_dk rm_193 := by
  show ri_chka (ri_ml0 rm_193) (ri_b rm_193) rc_193 = true
  decide +kernel
set_option maxRecDepth 100000 in
theorem rk_194 : ri_dk rm_194 := by
  show ri_chka (ri_ml0 rm_194) (ri_b rm_194) rc_194 = true
  decide +kernel
set_option maxRecDepth 100000 in
theorem rk_195 : ri_dk rm_195 := by
  show ri_chka (ri_ml0 rm_195) (ri_b rm_195) rc_195 = true
  decide +kernel
set_option maxRecDepth 100000 in
theorem rk_196 : ri_dk rm_196 := by
  show ri_chka (ri_ml0 rm_196) (ri_b rm_196) rc_196 = true
  decide +kernel
set_option maxRecDepth 100000 in
theorem rk_197 : ri_dk rm_197 := by
  show ri_chka (ri_ml0 rm_197) (ri_b rm_197) rc_197 = true
  decide +kernel
set_option maxRecDepth 100000 in
theorem rk_198 : ri_dk rm_198 := by
  show ri_chka (ri_ml0 rm_198) (ri_b rm_198) rc_198 = true
  decide +kernel
set_option maxRecDepth 100000 in
theorem rk_199 : ri_dk rm_199 := by
  show ri_chka (ri_ml0 rm_199) (ri_b rm_199) rc_199 = true
  decide +kernel
set_option maxRecDepth 100000 in
theorem rk_200 : ri_dk rm_200 := by
  show ri_chka (ri_ml0 rm_200) (ri_b rm_200) rc_200 = true
  decide +kernel
set_option maxRecDepth 100000 in
theorem rk_201 : ri_dk rm_201 := by
  show ri_chka (ri_ml0 rm_201) (ri_b rm_201) rc_201 = true
  decide +kernel
set_option maxRecDepth 100000 in
theorem rk_202 : ri_dk rm_202 := by
  show ri_chka (ri_ml0 rm_202) (ri_b rm_202) rc_202 = true
  decide +kernel
set_option maxRecDepth 100000 in
theorem rk_203 : ri_dk rm_203 := by
  show ri_chka (ri_ml0 rm_203) (ri_b rm_203) rc_203 = true
  decide +kernel
set_option maxRecDepth 100000 in
theorem rk_204 : ri_dk rm_204 := by
  show ri_chka (ri_ml0 rm_204) (ri_b rm_204) rc_204 = true
  decide +kernel
set_option maxRecDepth 100000 in
theorem rk_205 : ri_dk rm_205 := by
  show ri_chka (ri_ml0 rm_205) (ri_b rm_205) rc_205 = true
  decide +kernel
set_option maxRecDepth 100000 in
theorem rk_206 : ri_dk rm_206 := by
  show ri_chka (ri_ml0 rm_206) (ri_b rm_206) rc_206 = true
  decide +kernel
set_option maxRecDepth 100000 in
theorem rk_207 : ri_dk rm_207 := by
  show ri_chka (ri_ml0 rm_207) (ri_b rm_207) rc_207 = true
  decide +kernel
set_option maxRecDepth 100000 in
theorem rk_208 : ri_dk rm_208 := by
  show ri_chka (ri_ml0 rm_208) (ri_b rm_208) rc_208 = true
  decide +kernel
set_option maxRecDepth 100000 in
theorem rk_209 : ri_dk rm_209 := by
  show ri_chka (ri_ml0 rm_209) (ri_b rm_209) rc_209 = true
  decide +kernel
set_option maxRecDepth 100000 in
theorem rk_210 : ri_dk rm_210 := by
  show ri_chka (ri_ml0 rm_210) (ri_b rm_210) rc_210 = true
  decide +kernel
set_option maxRecDepth 100000 in
theorem rk_211 : ri_dk rm_211 := by
  show ri_chka (ri_ml0 rm_211) (ri_b rm_211) rc_211 = true
  decide +kernel
set_option maxRecDepth 100000 in
theorem rk_212 : ri_dk rm_212 := by
  show ri_chka (ri_ml0 rm_212) (ri_b rm_212) rc_212 = true
  decide +kernel
set_option maxRecDepth 100000 in
theorem rk_213_0 : ri_chp (ri_ml0 rm_213) (ri_b rm_213) rc_213 0 = true := by decide +kernel
set_option maxRecDepth 100000 in
theorem rk_213_1 : ri_chp (ri_ml0 rm_213) (ri_b rm_213) rc_213 1 = true := by decide +kernel
set_option maxRecDepth 100000 in
theorem rk_213_2 : ri_chp (ri_ml0 rm_213) (ri_b rm_213) rc_213 2 = true := by decide +kernel
set_option maxRecDepth 100000 in
theorem rk_213_3 : ri_chp (ri_ml0 rm_213) (ri_b rm_213) rc_213 3 = true := by decide +kernel
set_option maxRecDepth 100000 in
theorem rk_213_4 : ri_chp (ri_ml0 rm_213) (ri_b rm_213) rc_213 4 = true := by decide +kernel
set_option maxRecDepth 100000 in
theorem rk_213_5 : ri_chp (ri_ml0 rm_213) (ri_b rm_213) rc_213 5 = true := by decide +kernel
set_option maxRecDepth 100000 in
theorem rk_213_6 : ri_chp (ri_ml0 rm_213) (ri_b rm_213) rc_213 6 = true := by decide +kernel
set_option maxRecDepth 100000 in
theorem rk_213_7 : ri_chp (ri_ml0 rm_213) (ri_b rm_213) rc_213 7 = true := by decide +kernel
set_option maxRecDepth 100000 in
theorem rk_213_8 : ri_chp (ri_ml0 rm_213) (ri_b rm_213) rc_213 8 = true := by decide +kernel
set_option maxRecDepth 100000 in
theorem rk_213_9 : ri_chp (ri_ml0 rm_213) (ri_b rm_213) rc_213 9 = true := by decide +kernel
set_option maxRecDepth 100000 in
theorem rk_213_10 : ri_chp (ri_ml0 rm_213) (ri_b rm_213) rc_213 10 = true := by decide +kernel
set_option maxRecDepth 100000 in
theorem rk_213_11 : ri_chp (ri_ml0 rm_213) (ri_b rm_213) rc_213 11 = true := by decide +kernel
set_option maxRecDepth 100000 in
theorem rk_213_12 : ri_chp (ri_ml0 rm_213) (ri_b rm_213) rc_213 12 = true := by decide +kernel
set_option maxRecDepth 100000 in
theorem rk_213_13 : ri_chp (ri_ml0 rm_213) (ri_b rm_213) rc_213 13 = true := by decide +kernel
theorem rk_213 : ri_dk rm_213 := by
  refine ri_chp_use 14 (fun q hq => ?_) (by decide +kernel)
  match q, hq with
  | 0, _ => exact rk_213_0
  | 1, _ => exact rk_213_1
  | 2, _ => exact rk_213_2
  | 3, _ => exact rk_213_3
  | 4, _ => exact rk_213_4
  | 5, _ => exact rk_213_5
  | 6, _ => exact rk_213_6
  | 7, _ => exact rk_213_7
  | 8, _ => exact rk_213_8
  | 9, _ => exact rk_213_9
  | 10, _ => exact rk_213_10
  | 11, _ => exact rk_213_11
  | 12, _ => exact rk_213_12
  | 13, _ => exact rk_213_13
  | q + 14, h => exact absurd h (by omega)
set_option maxRecDepth 100000 in
theorem rk_214 : ri_dk rm_214 := by
  show ri_chka (ri_ml0 rm_214) (ri_b rm_214) rc_214 = true
  decide +kernel
set_option maxRecDepth 100000 in
theorem rk_215 : ri_dk rm_215 := by
  show ri_chka (ri_ml0 rm_215) (ri_b rm_215) rc_215 = true
  decide +kernel
set_option maxRecDepth 100000 in
theorem rk_216 : ri_dk rm_216 := by
  show ri_chka (ri_ml0 rm_216) (ri_b rm_216) rc_216 = true
  decide +kernel
theorem rk_c0 : ∀ t ∈ [rm_0, rm_1, rm_2, rm_3, rm_4, rm_5, rm_6, rm_7, rm_8, rm_9, rm_10, rm_11, rm_12, rm_13, rm_14, rm_15], ri_dk t := List.forall_mem_cons.mpr ⟨rk_0, List.forall_mem_cons.mpr ⟨rk_1, List.forall_mem_cons.mpr ⟨rk_2, List.forall_mem_cons.mpr ⟨rk_3, List.forall_mem_cons.mpr ⟨rk_4, List.forall_mem_cons.mpr ⟨rk_5, List.forall_mem_cons.mpr ⟨rk_6, List.forall_mem_cons.mpr ⟨rk_7, List.forall_mem_cons.mpr ⟨rk_8, List.forall_mem_cons.mpr ⟨rk_9, List.forall_mem_cons.mpr ⟨rk_10, List.forall_mem_cons.mpr ⟨rk_11, List.forall_mem_cons.mpr ⟨rk_12, List.forall_mem_cons.mpr ⟨rk_13, List.forall_mem_cons.mpr ⟨rk_14, List.forall_mem_cons.mpr ⟨rk_15, fun _ h => absurd h List.not_mem_nil⟩⟩⟩⟩⟩⟩⟩⟩⟩⟩⟩⟩⟩⟩⟩⟩
theorem rk_c1 : ∀ t ∈ [rm_16, rm_17, rm_18, rm_19, rm_20, rm_21, rm_22, rm_23, rm_24, rm_25, rm_26, rm_27, rm_28, rm_29, rm_30, rm_31], ri_dk t := List.forall_mem_cons.mpr ⟨rk_16, List.forall_mem_cons.mpr ⟨rk_17, List.forall_mem_cons.mpr ⟨rk_18, List.forall_mem_cons.mpr ⟨rk_19, List.forall_mem_cons.mpr ⟨rk_20, List.forall_mem_cons.mpr ⟨rk_21, List.forall_mem_cons.mpr ⟨rk_22, List.forall_mem_cons.mpr ⟨rk_23, List.forall_mem_cons.mpr ⟨rk_24, List.forall_mem_cons.mpr ⟨rk_25, List.forall_mem_cons.mpr ⟨rk_26, List.forall_mem_cons.mpr ⟨rk_27, List.forall_mem_cons.mpr ⟨rk_28, List.forall_mem_cons.mpr ⟨rk_29, List.forall_mem_cons.mpr ⟨rk_30, List.forall_mem_cons.mpr ⟨rk_31, fun _ h => absurd h List.not_mem_nil⟩⟩⟩⟩⟩⟩⟩⟩⟩⟩⟩⟩⟩⟩⟩⟩
theorem rk_c2 : ∀ t ∈ [rm_32, rm_33, rm_34, rm_35, rm_36, rm_37, rm_38, rm_39, rm_40, rm_41, rm_42, rm_43, rm_44, rm_45, rm_46, rm_47], ri_dk t := List.forall_mem_cons.mpr ⟨rk_32, List.forall_mem_cons.mpr ⟨rk_33, List.forall_mem_cons.mpr ⟨rk_34, List.forall_mem_cons.mpr ⟨rk_35, List.forall_mem_cons.mpr ⟨rk_36, List.forall_mem_cons.mpr ⟨rk_37, List.forall_mem_cons.mpr ⟨rk_38, List.forall_mem_cons.mpr ⟨rk_39, List.forall_mem_cons.mpr ⟨rk_40, List.forall_mem_cons.mpr ⟨rk_41, List.forall_mem_cons.mpr ⟨rk_42, List.forall_mem_cons.mpr ⟨rk_43, List.forall_mem_cons.mpr ⟨rk_44, List.forall_mem_cons.mpr ⟨rk_45, List.forall_mem_cons.mpr ⟨rk_46, List.forall_mem_cons.mpr ⟨rk_47, fun _ h => absurd h List.not_mem_nil⟩⟩⟩⟩⟩⟩⟩⟩⟩⟩⟩⟩⟩⟩⟩⟩
theorem rk_c3 : ∀ t ∈ [rm_48, rm_49, rm_50, rm_51, rm_52, rm_53, rm_54, rm_55, rm_56, rm_57, rm_58, rm_59, rm_60, rm_61, rm_62, rm_63], ri_dk t := List.forall_mem_cons.mpr ⟨rk_48, List.forall_mem_cons.mpr ⟨rk_49, List.forall_mem_cons.mpr ⟨rk_50, List.forall_mem_cons.mpr ⟨rk_51, List.forall_mem_cons.mpr ⟨rk_52, List.forall_mem_cons.mpr ⟨rk_53, List.forall_mem_cons.mpr ⟨rk_54, List.forall_mem_cons.mpr ⟨rk_55, List.forall_mem_cons.mpr ⟨rk_56, List.forall_mem_cons.mpr ⟨rk_57, List.forall_mem_cons.mpr ⟨rk_58, List.forall_mem_cons.mpr ⟨rk_59, List.forall_mem_cons.mpr ⟨rk_60, List.forall_mem_cons.mpr ⟨rk_61, List.forall_mem_cons.mpr ⟨rk_62, List.forall_mem_cons.mpr ⟨rk_63, fun _ h => absurd h List.not_mem_nil⟩⟩⟩⟩⟩⟩⟩⟩⟩⟩⟩⟩⟩⟩⟩⟩
theorem rk_c4 : ∀ t ∈ [rm_64, rm_65, rm_66, rm_67, rm_68, rm_69, rm_70, rm_71, rm_72, rm_73, rm_74, rm_75, rm_76, rm_77, rm_78, rm_79], ri_dk t := List.forall_mem_cons.mpr ⟨rk_64, List.forall_mem_cons.mpr ⟨rk_65, List.forall_mem_cons.mpr ⟨rk_66, List.forall_mem_cons.mpr ⟨rk_67, List.forall_mem_cons.mpr ⟨rk_68, List.forall_mem_cons.mpr ⟨rk_69, List.forall_mem_cons.mpr ⟨rk_70, List.forall_mem_cons.mpr ⟨rk_71, List.forall_mem_cons.mpr ⟨rk_72, List.forall_mem_cons.mpr ⟨rk_73, List.forall_mem_cons.mpr ⟨rk_74, List.forall_mem_cons.mpr ⟨rk_75, List.forall_mem_cons.mpr ⟨rk_76, List.forall_mem_cons.mpr ⟨rk_77, List.forall_mem_cons.mpr ⟨rk_78, List.forall_mem_cons.mpr ⟨rk_79, fun _ h => absurd h List.not_mem_nil⟩⟩⟩⟩⟩⟩⟩⟩⟩⟩⟩⟩⟩⟩⟩⟩
theorem rk_c5 : ∀ t ∈ [rm_80, rm_81, rm_82, rm_83, rm_84, rm_85, rm_86, rm_87, rm_88, rm_89, rm_90, rm_91, rm_92, rm_93, rm_94, rm_95], ri_dk t := List.forall_mem_cons.mpr ⟨rk_80, List.forall_mem_cons.mpr ⟨rk_81, List.forall_mem_cons.mpr ⟨rk_82, List.forall_mem_cons.mpr ⟨rk_83, List.forall_mem_cons.mpr ⟨rk_84, List.forall_mem_cons.mpr ⟨rk_85, List.forall_mem_cons.mpr ⟨rk_86, List.forall_mem_cons.mpr ⟨rk_87, List.forall_mem_cons.mpr ⟨rk_88, List.forall_mem_cons.mpr ⟨rk_89, List.forall_mem_cons.mpr ⟨rk_90, List.forall_mem_cons.mpr ⟨rk_91, List.forall_mem_cons.mpr ⟨rk_92, List.forall_mem_cons.mpr ⟨rk_93, List.forall_mem_cons.mpr ⟨rk_94, List.forall_mem_cons.mpr ⟨rk_95, fun _ h => absurd h List.not_mem_nil⟩⟩⟩⟩⟩⟩⟩⟩⟩⟩⟩⟩⟩⟩⟩⟩
theorem rk_c6 : ∀ t ∈ [rm_96, rm_97, rm_98, rm_99, rm_100, rm_101, rm_102, rm_103, rm_104, rm_105, rm_106, rm_107, rm_108, rm_109, rm_110, rm_111], ri_dk t := List.forall_mem_cons.mpr ⟨rk_96, List.forall_mem_cons.mpr ⟨rk_97, List.forall_mem_cons.mpr ⟨rk_98, List.forall_mem_cons.mpr ⟨rk_99, List.forall_mem_cons.mpr ⟨rk_100, List.forall_mem_cons.mpr ⟨rk_101, List.forall_mem_cons.mpr ⟨rk_102, List.forall_mem_cons.mpr ⟨rk_103, List.forall_mem_cons.mpr ⟨rk_104, List.forall_mem_cons.mpr ⟨rk_105, List.forall_mem_cons.mpr ⟨rk_106, List.forall_mem_cons.mpr ⟨rk_107, List.forall_mem_cons.mpr ⟨rk_108, List.forall_mem_cons.mpr ⟨rk_109, List.forall_mem_cons.mpr ⟨rk_110, List.forall_mem_cons.mpr ⟨rk_111, fun _ h => absurd h List.not_mem_nil⟩⟩⟩⟩⟩⟩⟩⟩⟩⟩⟩⟩⟩⟩⟩⟩
theorem rk_c7 : ∀ t ∈ [rm_112, rm_113, rm_114, rm_115, rm_116, rm_117, rm_118, rm_119, rm_120, rm_121, rm_122, rm_123, rm_124, rm_125, rm_126, rm_127], ri_dk t := List.forall_mem_cons.mpr ⟨rk_112, List.forall_mem_cons.mpr ⟨rk_113, List.forall_mem_cons.mpr ⟨rk_114, List.forall_mem_cons.mpr ⟨rk_115, List.forall_mem_cons.mpr ⟨rk_116, List.forall_mem_cons.mpr ⟨rk_117, List.forall_mem_cons.mpr ⟨rk_118, List.forall_mem_cons.mpr ⟨rk_119, List.forall_mem_cons.mpr ⟨rk_120, List.forall_mem_cons.mpr ⟨rk_121, List.forall_mem_cons.mpr ⟨rk_122, List.forall_mem_cons.mpr ⟨rk_123, List.forall_mem_cons.mpr ⟨rk_124, List.forall_mem_cons.mpr ⟨rk_125, List.forall_mem_cons.mpr ⟨rk_126, List.forall_mem_cons.mpr ⟨rk_127, fun _ h => absurd h List.not_mem_nil⟩⟩⟩⟩⟩⟩⟩⟩⟩⟩⟩⟩⟩⟩⟩⟩
theorem rk_c8 : ∀ t ∈ [rm_128, rm_129, rm_130, rm_131, rm_132, rm_133, rm_134, rm_135, rm_136, rm_137, rm_138, rm_139, rm_140, rm_141, rm_142, rm_143], ri_dk t := List.forall_mem_cons.mpr ⟨rk_128, List.forall_mem_cons.mpr ⟨rk_129, List.forall_mem_cons.mpr ⟨rk_130, List.forall_mem_cons.mpr ⟨rk_131, List.forall_mem_cons.mpr ⟨rk_132, List.forall_mem_cons.mpr ⟨rk_133, List.forall_mem_cons.mpr ⟨rk_134, List.forall_mem_cons.mpr ⟨rk_135, List.forall_mem_cons.mpr ⟨rk_136, List.forall_mem_cons.mpr ⟨rk_137, List.forall_mem_cons.mpr ⟨rk_138, List.forall_mem_cons.mpr ⟨rk_139, List.forall_mem_cons.mpr ⟨rk_140, List.forall_mem_cons.mpr ⟨rk_141, List.forall_mem_cons.mpr ⟨rk_142, List.forall_mem_cons.mpr ⟨rk_143, fun _ h => absurd h List.not_mem_nil⟩⟩⟩⟩⟩⟩⟩⟩⟩⟩⟩⟩⟩⟩⟩⟩
theorem rk_c9 : ∀ t ∈ [rm_144, rm_145, rm_146, rm_147, rm_148, rm_149, rm_150, rm_151, rm_152, rm_153, rm_154, rm_155, rm_156, rm_157, rm_158, rm_159], ri_dk t := List.forall_mem_cons.mpr ⟨rk_144, List.forall_mem_cons.mpr ⟨rk_145, List.forall_mem_cons.mpr ⟨rk_146, List.forall_mem_cons.mpr ⟨rk_147, List.forall_mem_cons.mpr ⟨rk_148, List.forall_mem_cons.mpr ⟨rk_149, List.forall_mem_cons.mpr ⟨rk_150, List.forall_mem_cons.mpr ⟨rk_151, List.forall_mem_cons.mpr ⟨rk_152, List.forall_mem_cons.mpr ⟨rk_153, List.forall_mem_cons.mpr ⟨rk_154, List.forall_mem_cons.mpr ⟨rk_155, List.forall_mem_cons.mpr ⟨rk_156, List.forall_mem_cons.mpr ⟨rk_157, List.forall_mem_cons.mpr ⟨rk_158, List.forall_mem_cons.mpr ⟨rk_159, fun _ h => absurd h List.not_mem_nil⟩⟩⟩⟩⟩⟩⟩⟩⟩⟩⟩⟩⟩⟩⟩⟩
theorem rk_c10 : ∀ t ∈ [rm_160, rm_161, rm_162, rm_163, rm_164, rm_165, rm_166, rm_167, rm_168, rm_169, rm_170, rm_171, rm_172, rm_173, rm_174, rm_175], ri_dk t := List.forall_mem_cons.mpr ⟨rk_160, List.forall_mem_cons.mpr ⟨rk_161, List.forall_mem_cons.mpr ⟨rk_162, List.forall_mem_cons.mpr ⟨rk_163, List.forall_mem_cons.mpr ⟨rk_164, List.forall_mem_cons.mpr ⟨rk_165, List.forall_mem_cons.mpr ⟨rk_166, List.forall_mem_cons.mpr ⟨rk_167, List.forall_mem_cons.mpr ⟨rk_168, List.forall_mem_cons.mpr ⟨rk_169, List.forall_mem_cons.mpr ⟨rk_170, List.forall_mem_cons.mpr ⟨rk_171, List.forall_mem_cons.mpr ⟨rk_172, List.forall_mem_cons.mpr ⟨rk_173, List.forall_mem_cons.mpr ⟨rk_174, List.forall_mem_cons.mpr ⟨rk_175, fun _ h => absurd h List.not_mem_nil⟩⟩⟩⟩⟩⟩⟩⟩⟩⟩⟩⟩⟩⟩⟩⟩
theorem rk_c11 : ∀ t ∈ [rm_176, rm_177, rm_178, rm_179, rm_180, rm_181, rm_182, rm_183, rm_184, rm_185, rm_186, rm_187, rm_188, rm_189, rm_190, rm_191], ri_dk t := List.forall_mem_cons.mpr ⟨rk_176, List.forall_mem_cons.mpr ⟨rk_177, List.forall_mem_cons.mpr ⟨rk_178, List.forall_mem_cons.mpr ⟨rk_179, List.forall_mem_cons.mpr ⟨rk_180, List.forall_mem_cons.mpr ⟨rk_181, List.forall_mem_cons.mpr ⟨rk_182, List.forall_mem_cons.mpr ⟨rk_183, List.forall_mem_cons.mpr ⟨rk_184, List.forall_mem_cons.mpr ⟨rk_185, List.forall_mem_cons.mpr ⟨rk_186, List.forall_mem_cons.mpr ⟨rk_187, List.forall_mem_cons.mpr ⟨rk_188, List.forall_mem_cons.mpr ⟨rk_189, List.forall_mem_cons.mpr ⟨rk_190, List.forall_mem_cons.mpr ⟨rk_191, fun _ h => absurd h List.not_mem_nil⟩⟩⟩⟩⟩⟩⟩⟩⟩⟩⟩⟩⟩⟩⟩⟩
theorem rk_c12 : ∀ t ∈ [rm_192, rm_193, rm_194, rm_195, rm_196, rm_197, rm_198, rm_199, rm_200, rm_201, rm_202, rm_203, rm_204, rm_205, rm_206, rm_207], ri_dk t := List.forall_mem_cons.mpr ⟨rk_192, List.forall_mem_cons.mpr ⟨rk_193, List.forall_mem_cons.mpr ⟨rk_194, List.forall_mem_cons.mpr ⟨rk_195, List.forall_mem_cons.mpr ⟨rk_196, List.forall_mem_cons.mpr ⟨rk_197, List.forall_mem_cons.mpr ⟨rk_198, List.forall_mem_cons.mpr ⟨rk_199, List.forall_mem_cons.mpr ⟨rk_200, List.forall_mem_cons.mpr ⟨rk_201, List.forall_mem_cons.mpr ⟨rk_202, List.forall_mem_cons.mpr ⟨rk_203, List.forall_mem_cons.mpr ⟨rk_204, List.forall_mem_cons.mpr ⟨rk_205, List.forall_mem_cons.mpr ⟨rk_206, List.forall_mem_cons.mpr ⟨rk_207, fun _ h => absurd h List.not_mem_nil⟩⟩⟩⟩⟩⟩⟩⟩⟩⟩⟩⟩⟩⟩⟩⟩
theorem rk_c13 : ∀ t ∈ [rm_208, rm_209, rm_210, rm_211, rm_212, rm_213, rm_214, rm_215, rm_216], ri_dk t := List.forall_mem_cons.mpr ⟨rk_208, List.forall_mem_cons.mpr ⟨rk_209, List.forall_mem_cons.mpr ⟨rk_210, List.forall_mem_cons.mpr ⟨rk_211, List.forall_mem_cons.mpr ⟨rk_212, List.forall_mem_cons.mpr ⟨rk_213, List.forall_mem_cons.mpr ⟨rk_214, List.forall_mem_cons.mpr ⟨rk_215, List.forall_mem_cons.mpr ⟨rk_216, fun _ h => absurd h List.not_mem_nil⟩⟩⟩⟩⟩⟩⟩⟩⟩
theorem rk_all : ∀ l ∈ ri_mtl, ∀ t ∈ l, ri_dk t := List.forall_mem_cons.mpr ⟨rk_c0, List.forall_mem_cons.mpr ⟨rk_c1, List.forall_mem_cons.mpr ⟨rk_c2, List.forall_mem_cons.mpr ⟨rk_c3, List.forall_mem_cons.mpr ⟨rk_c4, List.forall_mem_cons.mpr ⟨rk_c5, List.forall_mem_cons.mpr ⟨rk_c6, List.forall_mem_cons.mpr ⟨rk_c7, List.forall_mem_cons.mpr ⟨rk_c8, List.forall_mem_cons.mpr ⟨rk_c9, List.forall_mem_cons.mpr ⟨rk_c10, List.forall_mem_cons.mpr ⟨rk_c11, List.forall_mem_cons.mpr ⟨rk_c12, List.forall_mem_cons.mpr ⟨rk_c13, fun _ h => absurd h List.not_mem_nil⟩⟩⟩⟩⟩⟩⟩⟩⟩⟩⟩⟩⟩⟩
theorem ri_dk_ok {j : Nat} {t : ri_MT} (ht : ri_mt j = some t) : ri_dk t := by
  obtain ⟨l, h1, h2⟩ := ri_at_mem ht
  exact rk_all l h1 t h2
