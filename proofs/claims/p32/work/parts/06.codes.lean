/-! the code words of the methods, and their instructions: a row each -/
def ri_cw (t : ri_MT) : Prop := ri_flag t ≠ 2 → lw_tbl[(ri_pos t).getD 0 0]? = some (.code (ri_y t) (ri_b t) (ri_ml0 t) (ri_ret t))
set_option maxRecDepth 100000 in
theorem rw_0 : ri_cw rm_0 := fun _ => rfl
set_option maxRecDepth 100000 in
theorem rw_1 : ri_cw rm_1 := fun _ => rfl
set_option maxRecDepth 100000 in
theorem rw_2 : ri_cw rm_2 := fun _ => rfl
set_option maxRecDepth 100000 in
theorem rw_3 : ri_cw rm_3 := fun _ => rfl
set_option maxRecDepth 100000 in
theorem rw_4 : ri_cw rm_4 := fun _ => rfl
set_option maxRecDepth 100000 in
theorem rw_5 : ri_cw rm_5 := fun _ => rfl
set_option maxRecDepth 100000 in
theorem rw_6 : ri_cw rm_6 := fun _ => rfl
set_option maxRecDepth 100000 in
theorem rw_7 : ri_cw rm_7 := fun _ => rfl
set_option maxRecDepth 100000 in
theorem rw_8 : ri_cw rm_8 := fun _ => rfl
set_option maxRecDepth 100000 in
theorem rw_9 : ri_cw rm_9 := fun _ => rfl
set_option maxRecDepth 100000 in
theorem rw_10 : ri_cw rm_10 := fun _ => rfl
set_option maxRecDepth 100000 in
theorem rw_11 : ri_cw rm_11 := fun _ => rfl
set_option maxRecDepth 100000 in
theorem rw_12 : ri_cw rm_12 := fun _ => rfl
set_option maxRecDepth 100000 in
theorem rw_13 : ri_cw rm_13 := fun _ => rfl
set_option maxRecDepth 100000 in
theorem rw_14 : ri_cw rm_14 := fun _ => rfl
set_option maxRecDepth 100000 in
theorem rw_15 : ri_cw rm_15 := fun _ => rfl
set_option maxRecDepth 100000 in
theorem rw_16 : ri_cw rm_16 := fun _ => rfl
set_option maxRecDepth 100000 in
theorem rw_17 : ri_cw rm_17 := fun _ => rfl
set_option maxRecDepth 100000 in
theorem rw_18 : ri_cw rm_18 := fun _ => rfl
set_option maxRecDepth 100000 in
theorem rw_19 : ri_cw rm_19 := fun _ => rfl
set_option maxRecDepth 100000 in
theorem rw_20 : ri_cw rm_20 := fun _ => rfl
set_option maxRecDepth 100000 in
theorem rw_21 : ri_cw rm_21 := fun _ => rfl
set_option maxRecDepth 100000 in
theorem rw_22 : ri_cw rm_22 := fun _ => rfl
set_option maxRecDepth 100000 in
theorem rw_23 : ri_cw rm_23 := fun h => absurd rfl h
set_option maxRecDepth 100000 in
theorem rw_24 : ri_cw rm_24 := fun _ => rfl
set_option maxRecDepth 100000 in
theorem rw_25 : ri_cw rm_25 := fun _ => rfl
set_option maxRecDepth 100000 in
theorem rw_26 : ri_cw rm_26 := fun h => absurd rfl h
set_option maxRecDepth 100000 in
theorem rw_27 : ri_cw rm_27 := fun _ => rfl
set_option maxRecDepth 100000 in
theorem rw_28 : ri_cw rm_28 := fun _ => rfl
set_option maxRecDepth 100000 in
theorem rw_29 : ri_cw rm_29 := fun _ => rfl
set_option maxRecDepth 100000 in
theorem rw_30 : ri_cw rm_30 := fun _ => rfl
set_option maxRecDepth 100000 in
theorem rw_31 : ri_cw rm_31 := fun _ => rfl
set_option maxRecDepth 100000 in
theorem rw_32 : ri_cw rm_32 := fun _ => rfl
set_option maxRecDepth 100000 in
theorem rw_33 : ri_cw rm_33 := fun _ => rfl
set_option maxRecDepth 100000 in
theorem rw_34 : ri_cw rm_34 := fun _ => rfl
set_option maxRecDepth 100000 in
theorem rw_35 : ri_cw rm_35 := fun _ => rfl
set_option maxRecDepth 100000 in
theorem rw_36 : ri_cw rm_36 := fun _ => rfl
set_option maxRecDepth 100000 in
theorem rw_37 : ri_cw rm_37 := fun _ => rfl
set_option maxRecDepth 100000 in
theorem rw_38 : ri_cw rm_38 := fun h => absurd rfl h
set_option maxRecDepth 100000 in
theorem rw_39 : ri_cw rm_39 := fun _ => rfl
set_option maxRecDepth 100000 in
theorem rw_40 : ri_cw rm_40 := fun _ => rfl
set_option maxRecDepth 100000 in
theorem rw_41 : ri_cw rm_41 := fun _ => rfl
set_option maxRecDepth 100000 in
theorem rw_42 : ri_cw rm_42 := fun _ => rfl
set_option maxRecDepth 100000 in
theorem rw_43 : ri_cw rm_43 := fun _ => rfl
set_option maxRecDepth 100000 in
theorem rw_44 : ri_cw rm_44 := fun _ => rfl
set_option maxRecDepth 100000 in
theorem rw_45 : ri_cw rm_45 := fun _ => rfl
set_option maxRecDepth 100000 in
theorem rw_46 : ri_cw rm_46 := fun h => absurd rfl h
set_option maxRecDepth 100000 in
theorem rw_47 : ri_cw rm_47 := fun _ => rfl
set_option maxRecDepth 100000 in
theorem rw_48 : ri_cw rm_48 := fun _ => rfl
set_option maxRecDepth 100000 in
theorem rw_49 : ri_cw rm_49 := fun _ => rfl
set_option maxRecDepth 100000 in
theorem rw_50 : ri_cw rm_50 := fun h => absurd rfl h
set_option maxRecDepth 100000 in
theorem rw_51 : ri_cw rm_51 := fun h => absurd rfl h
set_option maxRecDepth 100000 in
theorem rw_52 : ri_cw rm_52 := fun h => absurd rfl h
set_option maxRecDepth 100000 in
theorem rw_53 : ri_cw rm_53 := fun h => absurd rfl h
set_option maxRecDepth 100000 in
theorem rw_54 : ri_cw rm_54 := fun _ => rfl
set_option maxRecDepth 100000 in
theorem rw_55 : ri_cw rm_55 := fun _ => rfl
set_option maxRecDepth 100000 in
theorem rw_56 : ri_cw rm_56 := fun _ => rfl
set_option maxRecDepth 100000 in
theorem rw_57 : ri_cw rm_57 := fun _ => rfl
set_option maxRecDepth 100000 in
theorem rw_58 : ri_cw rm_58 := fun _ => rfl
set_option maxRecDepth 100000 in
theorem rw_59 : ri_cw rm_59 := fun _ => rfl
set_option maxRecDepth 100000 in
theorem rw_60 : ri_cw rm_60 := fun _ => rfl
set_option maxRecDepth 100000 in
theorem rw_61 : ri_cw rm_61 := fun h => absurd rfl h
set_option maxRecDepth 100000 in
theorem rw_62 : ri_cw rm_62 := fun h => absurd rfl h
set_option maxRecDepth 100000 in
theorem rw_63 : ri_cw rm_63 := fun _ => rfl
set_option maxRecDepth 100000 in
theorem rw_64 : ri_cw rm_64 := fun _ => rfl
set_option maxRecDepth 100000 in
theorem rw_65 : ri_cw rm_65 := fun _ => rfl
set_option maxRecDepth 100000 in
theorem rw_66 : ri_cw rm_66 := fun h => absurd rfl h
set_option maxRecDepth 100000 in
theorem rw_67 : ri_cw rm_67 := fun h => absurd rfl h
set_option maxRecDepth 100000 in
theorem rw_68 : ri_cw rm_68 := fun _ => rfl
set_option maxRecDepth 100000 in
theorem rw_69 : ri_cw rm_69 := fun _ => rfl
set_option maxRecDepth 100000 in
theorem rw_70 : ri_cw rm_70 := fun _ => rfl
set_option maxRecDepth 100000 in
theorem rw_71 : ri_cw rm_71 := fun h => absurd rfl h
set_option maxRecDepth 100000 in
theorem rw_72 : ri_cw rm_72 := fun h => absurd rfl h
set_option maxRecDepth 100000 in
theorem rw_73 : ri_cw rm_73 := fun h => absurd rfl h
set_option maxRecDepth 100000 in
theorem rw_74 : ri_cw rm_74 := fun h => absurd rfl h
set_option maxRecDepth 100000 in
theorem rw_75 : ri_cw rm_75 := fun h => absurd rfl h
set_option maxRecDepth 100000 in
theorem rw_76 : ri_cw rm_76 := fun _ => rfl
set_option maxRecDepth 100000 in
theorem rw_77 : ri_cw rm_77 := fun _ => rfl
set_option maxRecDepth 100000 in
theorem rw_78 : ri_cw rm_78 := fun _ => rfl
set_option maxRecDepth 100000 in
theorem rw_79 : ri_cw rm_79 := fun _ => rfl
set_option maxRecDepth 100000 in
theorem rw_80 : ri_cw rm_80 := fun _ => rfl
set_option maxRecDepth 100000 in
theorem rw_81 : ri_cw rm_81 := fun _ => rfl
set_option maxRecDepth 100000 in
theorem rw_82 : ri_cw rm_82 := fun _ => rfl
set_option maxRecDepth 100000 in
theorem rw_83 : ri_cw rm_83 := fun _ => rfl
set_option maxRecDepth 100000 in
theorem rw_84 : ri_cw rm_84 := fun _ => rfl
set_option maxRecDepth 100000 in
theorem rw_85 : ri_cw rm_85 := fun _ => rfl
set_option maxRecDepth 100000 in
theorem rw_86 : ri_cw rm_86 := fun h => absurd rfl h
set_option maxRecDepth 100000 in
theorem rw_87 : ri_cw rm_87 := fun _ => rfl
set_option maxRecDepth 100000 in
theorem rw_88 : ri_cw rm_88 := fun _ => rfl
set_option maxRecDepth 100000 in
theorem rw_89 : ri_cw rm_89 := fun h => absurd rfl h
set_option maxRecDepth 100000 in
theorem rw_90 : ri_cw rm_90 := fun _ => rfl
set_option maxRecDepth 100000 in
theorem rw_91 : ri_cw rm_91 := fun _ => rfl
set_option maxRecDepth 100000 in
theorem rw_92 : ri_cw rm_92 := fun _ => rfl
set_option maxRecDepth 100000 in
theorem rw_93 : ri_cw rm_93 := fun _ => rfl
set_option maxRecDepth 100000 in
theorem rw_94 : ri_cw rm_94 := fun _ => rfl
set_option maxRecDepth 100000 in
theorem rw_95 : ri_cw rm_95 := fun _ => rfl
set_option maxRecDepth 100000 in
theorem rw_96 : ri_cw rm_96 := fun _ => rfl
set_option maxRecDepth 100000 in
theorem rw_97 : ri_cw rm_97 := fun _ => rfl
set_option maxRecDepth 100000 in
theorem rw_98 : ri_cw rm_98 := fun _ => rfl
set_option maxRecDepth 100000 in
theorem rw_99 : ri_cw rm_99 := fun _ => rfl
set_option maxRecDepth 100000 in
theorem rw_100 : ri_cw rm_100 := fun _ => rfl
set_option maxRecDepth 100000 in
theorem rw_101 : ri_cw rm_101 := fun _ => rfl
set_option maxRecDepth 100000 in
theorem rw_102 : ri_cw rm_102 := fun h => absurd rfl h
set_option maxRecDepth 100000 in
theorem rw_103 : ri_cw rm_103 := fun h => absurd rfl h
set_option maxRecDepth 100000 in
theorem rw_104 : ri_cw rm_104 := fun h => absurd rfl h
set_option maxRecDepth 100000 in
theorem rw_105 : ri_cw rm_105 := fun h => absurd rfl h
set_option maxRecDepth 100000 in
theorem rw_106 : ri_cw rm_106 := fun h => absurd rfl h
set_option maxRecDepth 100000 in
theorem rw_107 : ri_cw rm_107 := fun h => absurd rfl h
set_option maxRecDepth 100000 in
theorem rw_108 : ri_cw rm_108 := fun h => absurd rfl h
set_option maxRecDepth 100000 in
theorem rw_109 : ri_cw rm_109 := fun h => absurd rfl h
set_option maxRecDepth 100000 in
theorem rw_110 : ri_cw rm_110 := fun h => absurd rfl h
set_option maxRecDepth 100000 in
theorem rw_111 : ri_cw rm_111 := fun h => absurd rfl h
set_option maxRecDepth 100000 in
theorem rw_112 : ri_cw rm_112 := fun h => absurd rfl h
set_option maxRecDepth 100000 in
theorem rw_113 : ri_cw rm_113 := fun h => absurd rfl h
set_option maxRecDepth 100000 in
theorem rw_114 : ri_cw rm_114 := fun h => absurd rfl h
set_option maxRecDepth 100000 in
theorem rw_115 : ri_cw rm_115 := fun h => absurd rfl h
set_option maxRecDepth 100000 in
theorem rw_116 : ri_cw rm_116 := fun h => absurd rfl h
set_option maxRecDepth 100000 in
theorem rw_117 : ri_cw rm_117 := fun h => absurd rfl h
set_option maxRecDepth 100000 in
theorem rw_118 : ri_cw rm_118 := fun h => absurd rfl h
set_option maxRecDepth 100000 in
theorem rw_119 : ri_cw rm_119 := fun h => absurd rfl h
set_option maxRecDepth 100000 in
theorem rw_120 : ri_cw rm_120 := fun h => absurd rfl h
set_option maxRecDepth 100000 in
theorem rw_121 : ri_cw rm_121 := fun h => absurd rfl h
set_option maxRecDepth 100000 in
theorem rw_122 : ri_cw rm_122 := fun h => absurd rfl h
set_option maxRecDepth 100000 in
theorem rw_123 : ri_cw rm_123 := fun h => absurd rfl h
set_option maxRecDepth 100000 in
theorem rw_124 : ri_cw rm_124 := fun h => absurd rfl h
set_option maxRecDepth 100000 in
theorem rw_125 : ri_cw rm_125 := fun h => absurd rfl h
set_option maxRecDepth 100000 in
theorem rw_126 : ri_cw rm_126 := fun h => absurd rfl h
set_option maxRecDepth 100000 in
theorem rw_127 : ri_cw rm_127 := fun h => absurd rfl h
set_option maxRecDepth 100000 in
theorem rw_128 : ri_cw rm_128 := fun h => absurd rfl h
set_option maxRecDepth 100000 in
theorem rw_129 : ri_cw rm_129 := fun h => absurd rfl h
set_option maxRecDepth 100000 in
theorem rw_130 : ri_cw rm_130 := fun h => absurd rfl h
set_option maxRecDepth 100000 in
theorem rw_131 : ri_cw rm_131 := fun h => absurd rfl h
set_option maxRecDepth 100000 in
theorem rw_132 : ri_cw rm_132 := fun h => absurd rfl h
set_option maxRecDepth 100000 in
theorem rw_133 : ri_cw rm_133 := fun h => absurd rfl h
set_option maxRecDepth 100000 in
theorem rw_134 : ri_cw rm_134 := fun h => absurd rfl h
set_option maxRecDepth 100000 in
theorem rw_135 : ri_cw rm_135 := fun h => absurd rfl h
set_option maxRecDepth 100000 in
theorem rw_136 : ri_cw rm_136 := fun h => absurd rfl h
set_option maxRecDepth 100000 in
theorem rw_137 : ri_cw rm_137 := fun h => absurd rfl h
set_option maxRecDepth 100000 in
theorem rw_138 : ri_cw rm_138 := fun h => absurd rfl h
set_option maxRecDepth 100000 in
theorem rw_139 : ri_cw rm_139 := fun h => absurd rfl h
set_option maxRecDepth 100000 in
theorem rw_140 : ri_cw rm_140 := fun h => absurd rfl h
set_option maxRecDepth 100000 in
theorem rw_141 : ri_cw rm_141 := fun h => absurd rfl h
set_option maxRecDepth 100000 in
theorem rw_142 : ri_cw rm_142 := fun h => absurd rfl h
set_option maxRecDepth 100000 in
theorem rw_143 : ri_cw rm_143 := fun h => absurd rfl h
set_option maxRecDepth 100000 in
theorem rw_144 : ri_cw rm_144 := fun h => absurd rfl h
set_option maxRecDepth 100000 in
theorem rw_145 : ri_cw rm_145 := fun h => absurd rfl h
set_option maxRecDepth 100000 in
theorem rw_146 : ri_cw rm_146 := fun h => absurd rfl h
set_option maxRecDepth 100000 in
theorem rw_147 : ri_cw rm_147 := fun h => absurd rfl h
set_option maxRecDepth 100000 in
theorem rw_148 : ri_cw rm_148 := fun h => absurd rfl h
set_option maxRecDepth 100000 in
theorem rw_149 : ri_cw rm_149 := fun h => absurd rfl h
set_option maxRecDepth 100000 in
theorem rw_150 : ri_cw rm_150 := fun h => absurd rfl h
set_option maxRecDepth 100000 in
theorem rw_151 : ri_cw rm_151 := fun h => absurd rfl h
set_option maxRecDepth 100000 in
theorem rw_152 : ri_cw rm_152 := fun h => absurd rfl h
set_option maxRecDepth 100000 in
theorem rw_153 : ri_cw rm_153 := fun h => absurd rfl h
set_option maxRecDepth 100000 in
theorem rw_154 : ri_cw rm_154 := fun h => absurd rfl h
set_option maxRecDepth 100000 in
theorem rw_155 : ri_cw rm_155 := fun h => absurd rfl h
set_option maxRecDepth 100000 in
theorem rw_156 : ri_cw rm_156 := fun h => absurd rfl h
set_option maxRecDepth 100000 in
theorem rw_157 : ri_cw rm_157 := fun h => absurd rfl h
set_option maxRecDepth 100000 in
theorem rw_158 : ri_cw rm_158 := fun h => absurd rfl h
set_option maxRecDepth 100000 in
theorem rw_159 : ri_cw rm_159 := fun h => absurd rfl h
set_option maxRecDepth 100000 in
theorem rw_160 : ri_cw rm_160 := fun h => absurd rfl h
set_option maxRecDepth 100000 in
theorem rw_161 : ri_cw rm_161 := fun h => absurd rfl h
set_option maxRecDepth 100000 in
theorem rw_162 : ri_cw rm_162 := fun h => absurd rfl h
set_option maxRecDepth 100000 in
theorem rw_163 : ri_cw rm_163 := fun h => absurd rfl h
set_option maxRecDepth 100000 in
theorem rw_164 : ri_cw rm_164 := fun h => absurd rfl h
set_option maxRecDepth 100000 in
theorem rw_165 : ri_cw rm_165 := fun h => absurd rfl h
set_option maxRecDepth 100000 in
theorem rw_166 : ri_cw rm_166 := fun h => absurd rfl h
set_option maxRecDepth 100000 in
theorem rw_167 : ri_cw rm_167 := fun h => absurd rfl h
set_option maxRecDepth 100000 in
theorem rw_168 : ri_cw rm_168 := fun h => absurd rfl h
set_option maxRecDepth 100000 in
theorem rw_169 : ri_cw rm_169 := fun h => absurd rfl h
set_option maxRecDepth 100000 in
theorem rw_170 : ri_cw rm_170 := fun h => absurd rfl h
set_option maxRecDepth 100000 in
theorem rw_171 : ri_cw rm_171 := fun h => absurd rfl h
set_option maxRecDepth 100000 in
theorem rw_172 : ri_cw rm_172 := fun h => absurd rfl h
set_option maxRecDepth 100000 in
theorem rw_173 : ri_cw rm_173 := fun h => absurd rfl h
set_option maxRecDepth 100000 in
theorem rw_174 : ri_cw rm_174 := fun h => absurd rfl h
set_option maxRecDepth 100000 in
theorem rw_175 : ri_cw rm_175 := fun h => absurd rfl h
set_option maxRecDepth 100000 in
theorem rw_176 : ri_cw rm_176 := fun h => absurd rfl h
set_option maxRecDepth 100000 in
theorem rw_177 : ri_cw rm_177 := fun h => absurd rfl h
set_option maxRecDepth 100000 in
theorem rw_178 : ri_cw rm_178 := fun h => absurd rfl h
set_option maxRecDepth 100000 in
theorem rw_179 : ri_cw rm_179 := fun h => absurd rfl h
set_option maxRecDepth 100000 in
theorem rw_180 : ri_cw rm_180 := fun h => absurd rfl h
set_option maxRecDepth 100000 in
theorem rw_181 : ri_cw rm_181 := fun h => absurd rfl h
set_option maxRecDepth 100000 in
theorem rw_182 : ri_cw rm_182 := fun h => absurd rfl h
set_option maxRecDepth 100000 in
theorem rw_183 : ri_cw rm_183 := fun h => absurd rfl h
set_option maxRecDepth 100000 in
theorem rw_184 : ri_cw rm_184 := fun h => absurd rfl h
set_option maxRecDepth 100000 in
theorem rw_185 : ri_cw rm_185 := fun h => absurd rfl h
set_option maxRecDepth 100000 in
theorem rw_186 : ri_cw rm_186 := fun h => absurd rfl h
set_option maxRecDepth 100000 in
theorem rw_187 : ri_cw rm_187 := fun h => absurd rfl h
set_option maxRecDepth 100000 in
theorem rw_188 : ri_cw rm_188 := fun h => absurd rfl h
set_option maxRecDepth 100000 in
theorem rw_189 : ri_cw rm_189 := fun h => absurd rfl h
set_option maxRecDepth 100000 in
theorem rw_190 : ri_cw rm_190 := fun h => absurd rfl h
set_option maxRecDepth 100000 in
theorem rw_191 : ri_cw rm_191 := fun h => absurd rfl h
set_option maxRecDepth 100000 in
theorem rw_192 : ri_cw rm_192 := fun h => absurd rfl h
set_option maxRecDepth 100000 in
theorem rw_193 : ri_cw rm_193 := fun h => absurd rfl h
set_option maxRecDepth 100000 in
theorem rw_194 : ri_cw rm_194 := fun h => absurd rfl h
set_option maxRecDepth 100000 in
theorem rw_195 : ri_cw rm_195 := fun h => absurd rfl h
set_option maxRecDepth 100000 in
theorem rw_196 : ri_cw rm_196 := fun h => absurd rfl h
set_option maxRecDepth 100000 in
theorem rw_197 : ri_cw rm_197 := fun h => absurd rfl h
set_option maxRecDepth 100000 in
theorem rw_198 : ri_cw rm_198 := fun h => absurd rfl h
set_option maxRecDepth 100000 in
theorem rw_199 : ri_cw rm_199 := fun h => absurd rfl h
set_option maxRecDepth 100000 in
theorem rw_200 : ri_cw rm_200 := fun h => absurd rfl h
set_option maxRecDepth 100000 in
theorem rw_201 : ri_cw rm_201 := fun h => absurd rfl h
set_option maxRecDepth 100000 in
theorem rw_202 : ri_cw rm_202 := fun h => absurd rfl h
set_option maxRecDepth 100000 in
theorem rw_203 : ri_cw rm_203 := fun h => absurd rfl h
set_option maxRecDepth 100000 in
theorem rw_204 : ri_cw rm_204 := fun h => absurd rfl h
set_option maxRecDepth 100000 in
theorem rw_205 : ri_cw rm_205 := fun h => absurd rfl h
set_option maxRecDepth 100000 in
theorem rw_206 : ri_cw rm_206 := fun _ => rfl
set_option maxRecDepth 100000 in
theorem rw_207 : ri_cw rm_207 := fun _ => rfl
set_option maxRecDepth 100000 in
theorem rw_208 : ri_cw rm_208 := fun _ => rfl
set_option maxRecDepth 100000 in
theorem rw_209 : ri_cw rm_209 := fun _ => rfl
set_option maxRecDepth 100000 in
theorem rw_210 : ri_cw rm_210 := fun _ => rfl
set_option maxRecDepth 100000 in
theorem rw_211 : ri_cw rm_211 := fun _ => rfl
set_option maxRecDepth 100000 in
theorem rw_212 : ri_cw rm_212 := fun _ => rfl
set_option maxRecDepth 100000 in
theorem rw_213 : ri_cw rm_213 := fun h => absurd rfl h
set_option maxRecDepth 100000 in
theorem rw_214 : ri_cw rm_214 := fun _ => rfl
set_option maxRecDepth 100000 in
theorem rw_215 : ri_cw rm_215 := fun _ => rfl
set_option maxRecDepth 100000 in
theorem rw_216 : ri_cw rm_216 := fun _ => rfl
theorem rw_c0 : ∀ t ∈ [rm_0, rm_1, rm_2, rm_3, rm_4, rm_5, rm_6, rm_7, rm_8, rm_9, rm_10, rm_11, rm_12, rm_13, rm_14, rm_15], ri_cw t := List.forall_mem_cons.mpr ⟨rw_0, List.forall_mem_cons.mpr ⟨rw_1, List.forall_mem_cons.mpr ⟨rw_2, List.forall_mem_cons.mpr ⟨rw_3, List.forall_mem_cons.mpr ⟨rw_4, List.forall_mem_cons.mpr ⟨rw_5, List.forall_mem_cons.mpr ⟨rw_6, List.forall_mem_cons.mpr ⟨rw_7, List.forall_mem_cons.mpr ⟨rw_8, List.forall_mem_cons.mpr ⟨rw_9, List.forall_mem_cons.mpr ⟨rw_10, List.forall_mem_cons.mpr ⟨rw_11, List.forall_mem_cons.mpr ⟨rw_12, List.forall_mem_cons.mpr ⟨rw_13, List.forall_mem_cons.mpr ⟨rw_14, List.forall_mem_cons.mpr ⟨rw_15, fun _ h => absurd h List.not_mem_nil⟩⟩⟩⟩⟩⟩⟩⟩⟩⟩⟩⟩⟩⟩⟩⟩
theorem rw_c1 : ∀ t ∈ [rm_16, rm_17, rm_18, rm_19, rm_20, rm_21, rm_22, rm_23, rm_24, rm_25, rm_26, rm_27, rm_28, rm_29, rm_30, rm_31], ri_cw t := List.forall_mem_cons.mpr ⟨rw_16, List.forall_mem_cons.mpr ⟨rw_17, List.forall_mem_cons.mpr ⟨rw_18, List.forall_mem_cons.mpr ⟨rw_19, List.forall_mem_cons.mpr ⟨rw_20, List.forall_mem_cons.mpr ⟨rw_21, List.forall_mem_cons.mpr ⟨rw_22, List.forall_mem_cons.mpr ⟨rw_23, List.forall_mem_cons.mpr ⟨rw_24, List.forall_mem_cons.mpr ⟨rw_25, List.forall_mem_cons.mpr ⟨rw_26, List.forall_mem_cons.mpr ⟨rw_27, List.forall_mem_cons.mpr ⟨rw_28, List.forall_mem_cons.mpr ⟨rw_29, List.forall_mem_cons.mpr ⟨rw_30, List.forall_mem_cons.mpr ⟨rw_31, fun _ h => absurd h List.not_mem_nil⟩⟩⟩⟩⟩⟩⟩⟩⟩⟩⟩⟩⟩⟩⟩⟩
theorem rw_c2 : ∀ t ∈ [rm_32, rm_33, rm_34, rm_35, rm_36, rm_37, rm_38, rm_39, rm_40, rm_41, rm_42, rm_43, rm_44, rm_45, rm_46, rm_47], ri_cw t := List.forall_mem_cons.mpr ⟨rw_32, List.forall_mem_cons.mpr ⟨rw_33, List.forall_mem_cons.mpr ⟨rw_34, List.forall_mem_cons.mpr ⟨rw_35, List.forall_mem_cons.mpr ⟨rw_36, List.forall_mem_cons.mpr ⟨rw_37, List.forall_mem_cons.mpr ⟨rw_38, List.forall_mem_cons.mpr ⟨rw_39, List.forall_mem_cons.mpr ⟨rw_40, List.forall_mem_cons.mpr ⟨rw_41, List.forall_mem_cons.mpr ⟨rw_42, List.forall_mem_cons.mpr ⟨rw_43, List.forall_mem_cons.mpr ⟨rw_44, List.forall_mem_cons.mpr ⟨rw_45, List.forall_mem_cons.mpr ⟨rw_46, List.forall_mem_cons.mpr ⟨rw_47, fun _ h => absurd h List.not_mem_nil⟩⟩⟩⟩⟩⟩⟩⟩⟩⟩⟩⟩⟩⟩⟩⟩
theorem rw_c3 : ∀ t ∈ [rm_48, rm_49, rm_50, rm_51, rm_52, rm_53, rm_54, rm_55, rm_56, rm_57, rm_58, rm_59, rm_60, rm_61, rm_62, rm_63], ri_cw t := List.forall_mem_cons.mpr ⟨rw_48, List.forall_mem_cons.mpr ⟨rw_49, List.forall_mem_cons.mpr ⟨rw_50, List.forall_mem_cons.mpr ⟨rw_51, List.forall_mem_cons.mpr ⟨rw_52, List.forall_mem_cons.mpr ⟨rw_53, List.forall_mem_cons.mpr ⟨rw_54, List.forall_mem_cons.mpr ⟨rw_55, List.forall_mem_cons.mpr ⟨rw_56, List.forall_mem_cons.mpr ⟨rw_57, List.forall_mem_cons.mpr ⟨rw_58, List.forall_mem_cons.mpr ⟨rw_59, List.forall_mem_cons.mpr ⟨rw_60, List.forall_mem_cons.mpr ⟨rw_61, List.forall_mem_cons.mpr ⟨rw_62, List.forall_mem_cons.mpr ⟨rw_63, fun _ h => absurd h List.not_mem_nil⟩⟩⟩⟩⟩⟩⟩⟩⟩⟩⟩⟩⟩⟩⟩⟩
theorem rw_c4 : ∀ t ∈ [rm_64, rm_65, rm_66, rm_67, rm_68, rm_69, rm_70, rm_71, rm_72, rm_73, rm_74, rm_75, rm_76, rm_77, rm_78, rm_79], ri_cw t := List.forall_mem_cons.mpr ⟨rw_64, List.forall_mem_cons.mpr ⟨rw_65, List.forall_mem_cons.mpr ⟨rw_66, List.forall_mem_cons.mpr ⟨rw_67, List.forall_mem_cons.mpr ⟨rw_68, List.forall_mem_cons.mpr ⟨rw_69, List.forall_mem_cons.mpr ⟨rw_70, List.forall_mem_cons.mpr ⟨rw_71, List.forall_mem_cons.mpr ⟨rw_72, List.forall_mem_cons.mpr ⟨rw_73, List.forall_mem_cons.mpr ⟨rw_74, List.forall_mem_cons.mpr ⟨rw_75, List.forall_mem_cons.mpr ⟨rw_76, List.forall_mem_cons.mpr ⟨rw_77, List.forall_mem_cons.mpr ⟨rw_78, List.forall_mem_cons.mpr ⟨rw_79, fun _ h => absurd h List.not_mem_nil⟩⟩⟩⟩⟩⟩⟩⟩⟩⟩⟩⟩⟩⟩⟩⟩
theorem rw_c5 : ∀ t ∈ [rm_80, rm_81, rm_82, rm_83, rm_84, rm_85, rm_86, rm_87, rm_88, rm_89, rm_90, rm_91, rm_92, rm_93, rm_94, rm_95], ri_cw t := List.forall_mem_cons.mpr ⟨rw_80, List.forall_mem_cons.mpr ⟨rw_81, List.forall_mem_cons.mpr ⟨rw_82, List.forall_mem_cons.mpr ⟨rw_83, List.forall_mem_cons.mpr ⟨rw_84, List.forall_mem_cons.mpr ⟨rw_85, List.forall_mem_cons.mpr ⟨rw_86, List.forall_mem_cons.mpr ⟨rw_87, List.forall_mem_cons.mpr ⟨rw_88, List.forall_mem_cons.mpr ⟨rw_89, List.forall_mem_cons.mpr ⟨rw_90, List.forall_mem_cons.mpr ⟨rw_91, List.forall_mem_cons.mpr ⟨rw_92, List.forall_mem_cons.mpr ⟨rw_93, List.forall_mem_cons.mpr ⟨rw_94, List.forall_mem_cons.mpr ⟨rw_95, fun _ h => absurd h List.not_mem_nil⟩⟩⟩⟩⟩⟩⟩⟩⟩⟩⟩⟩⟩⟩⟩⟩
theorem rw_c6 : ∀ t ∈ [rm_96, rm_97, rm_98, rm_99, rm_100, rm_101, rm_102, rm_103, rm_104, rm_105, rm_106, rm_107, rm_108, rm_109, rm_110, rm_111], ri_cw t := List.forall_mem_cons.mpr ⟨rw_96, List.forall_mem_cons.mpr ⟨rw_97, List.forall_mem_cons.mpr ⟨rw_98, List.forall_mem_cons.mpr ⟨rw_99, List.forall_mem_cons.mpr ⟨rw_100, List.forall_mem_cons.mpr ⟨rw_101, List.forall_mem_cons.mpr ⟨rw_102, List.forall_mem_cons.mpr ⟨rw_103, List.forall_mem_cons.mpr ⟨rw_104, List.forall_mem_cons.mpr ⟨rw_105, List.forall_mem_cons.mpr ⟨rw_106, List.forall_mem_cons.mpr ⟨rw_107, List.forall_mem_cons.mpr ⟨rw_108, List.forall_mem_cons.mpr ⟨rw_109, List.forall_mem_cons.mpr ⟨rw_110, List.forall_mem_cons.mpr ⟨rw_111, fun _ h => absurd h List.not_mem_nil⟩⟩⟩⟩⟩⟩⟩⟩⟩⟩⟩⟩⟩⟩⟩⟩
theorem rw_c7 : ∀ t ∈ [rm_112, rm_113, rm_114, rm_115, rm_116, rm_117, rm_118, rm_119, rm_120, rm_121, rm_122, rm_123, rm_124, rm_125, rm_126, rm_127], ri_cw t := List.forall_mem_cons.mpr ⟨rw_112, List.forall_mem_cons.mpr ⟨rw_113, List.forall_mem_cons.mpr ⟨rw_114, List.forall_mem_cons.mpr ⟨rw_115, List.forall_mem_cons.mpr ⟨rw_116, List.forall_mem_cons.mpr ⟨rw_117, List.forall_mem_cons.mpr ⟨rw_118, List.forall_mem_cons.mpr ⟨rw_119, List.forall_mem_cons.mpr ⟨rw_120, List.forall_mem_cons.mpr ⟨rw_121, List.forall_mem_cons.mpr ⟨rw_122, List.forall_mem_cons.mpr ⟨rw_123, List.forall_mem_cons.mpr ⟨rw_124, List.forall_mem_cons.mpr ⟨rw_125, List.forall_mem_cons.mpr ⟨rw_126, List.forall_mem_cons.mpr ⟨rw_127, fun _ h => absurd h List.not_mem_nil⟩⟩⟩⟩⟩⟩⟩⟩⟩⟩⟩⟩⟩⟩⟩⟩
theorem rw_c8 : ∀ t ∈ [rm_128, rm_129, rm_130, rm_131, rm_132, rm_133, rm_134, rm_135, rm_136, rm_137, rm_138, rm_139, rm_140, rm_141, rm_142, rm_143], ri_cw t := List.forall_mem_cons.mpr ⟨rw_128, List.forall_mem_cons.mpr ⟨rw_129, List.forall_mem_cons.mpr ⟨rw_130, List.forall_mem_cons.mpr ⟨rw_131, List.forall_mem_cons.mpr ⟨rw_132, List.forall_mem_cons.mpr ⟨rw_133, List.forall_mem_cons.mpr ⟨rw_134, List.forall_mem_cons.mpr ⟨rw_135, List.forall_mem_cons.mpr ⟨rw_136, List.forall_mem_cons.mpr ⟨rw_137, List.forall_mem_cons.mpr ⟨rw_138, List.forall_mem_cons.mpr ⟨rw_139, List.forall_mem_cons.mpr ⟨rw_140, List.forall_mem_cons.mpr ⟨rw_141, List.forall_mem_cons.mpr ⟨rw_142, List.forall_mem_cons.mpr ⟨rw_143, fun _ h => absurd h List.not_mem_nil⟩⟩⟩⟩⟩⟩⟩⟩⟩⟩⟩⟩⟩⟩⟩⟩
theorem rw_c9 : ∀ t ∈ [rm_144, rm_145, rm_146, rm_147, rm_148, rm_149, rm_150, rm_151, rm_152, rm_153, rm_154, rm_155, rm_156, rm_157, rm_158, rm_159], ri_cw t := List.forall_mem_cons.mpr ⟨rw_144, List.forall_mem_cons.mpr ⟨rw_145, List.forall_mem_cons.mpr ⟨rw_146, List.forall_mem_cons.mpr ⟨rw_147, List.forall_mem_cons.mpr ⟨rw_148, List.forall_mem_cons.mpr ⟨rw_149, List.forall_mem_cons.mpr ⟨rw_150, List.forall_mem_cons.mpr ⟨rw_151, List.forall_mem_cons.mpr ⟨rw_152, List.forall_mem_cons.mpr ⟨rw_153, List.forall_mem_cons.mpr ⟨rw_154, List.forall_mem_cons.mpr ⟨rw_155, List.forall_mem_cons.mpr ⟨rw_156, List.forall_mem_cons.mpr ⟨rw_157, List.forall_mem_cons.mpr ⟨rw_158, List.forall_mem_cons.mpr ⟨rw_159, fun _ h => absurd h List.not_mem_nil⟩⟩⟩⟩⟩⟩⟩⟩⟩⟩⟩⟩⟩⟩⟩⟩
theorem rw_c10 : ∀ t ∈ [rm_160, rm_161, rm_162, rm_163, rm_164, rm_165, rm_166, rm_167, rm_168, rm_169, rm_170, rm_171, rm_172, rm_173, rm_174, rm_175], ri_cw t := List.forall_mem_cons.mpr ⟨rw_160, List.forall_mem_cons.mpr ⟨rw_161, List.forall_mem_cons.mpr ⟨rw_162, List.forall_mem_cons.mpr ⟨rw_163, List.forall_mem_cons.mpr ⟨rw_164, List.forall_mem_cons.mpr ⟨rw_165, List.forall_mem_cons.mpr ⟨rw_166, List.forall_mem_cons.mpr ⟨rw_167, List.forall_mem_cons.mpr ⟨rw_168, List.forall_mem_cons.mpr ⟨rw_169, List.forall_mem_cons.mpr ⟨rw_170, List.forall_mem_cons.mpr ⟨rw_171, List.forall_mem_cons.mpr ⟨rw_172, List.forall_mem_cons.mpr ⟨rw_173, List.forall_mem_cons.mpr ⟨rw_174, List.forall_mem_cons.mpr ⟨rw_175, fun _ h => absurd h List.not_mem_nil⟩⟩⟩⟩⟩⟩⟩⟩⟩⟩⟩⟩⟩⟩⟩⟩
theorem rw_c11 : ∀ t ∈ [rm_176, rm_177, rm_178, rm_179, rm_180, rm_181, rm_182, rm_183, rm_184, rm_185, rm_186, rm_187, rm_188, rm_189, rm_190, rm_191], ri_cw t := List.forall_mem_cons.mpr ⟨rw_176, List.forall_mem_cons.mpr ⟨rw_177, List.forall_mem_cons.mpr ⟨rw_178, List.forall_mem_cons.mpr ⟨rw_179, List.forall_mem_cons.mpr ⟨rw_180, List.forall_mem_cons.mpr ⟨rw_181, List.forall_mem_cons.mpr ⟨rw_182, List.forall_mem_cons.mpr ⟨rw_183, List.forall_mem_cons.mpr ⟨rw_184, List.forall_mem_cons.mpr ⟨rw_185, List.forall_mem_cons.mpr ⟨rw_186, List.forall_mem_cons.mpr ⟨rw_187, List.forall_mem_cons.mpr ⟨rw_188, List.forall_mem_cons.mpr ⟨rw_189, List.forall_mem_cons.mpr ⟨rw_190, List.forall_mem_cons.mpr ⟨rw_191, fun _ h => absurd h List.not_mem_nil⟩⟩⟩⟩⟩⟩⟩⟩⟩⟩⟩⟩⟩⟩⟩⟩
theorem rw_c12 : ∀ t ∈ [rm_192, rm_193, rm_194, rm_195, rm_196, rm_197, rm_198, rm_199, rm_200, rm_201, rm_202, rm_203, rm_204, rm_205, rm_206, rm_207], ri_cw t := List.forall_mem_cons.mpr ⟨rw_192, List.forall_mem_cons.mpr ⟨rw_193, List.forall_mem_cons.mpr ⟨rw_194, List.forall_mem_cons.mpr ⟨rw_195, List.forall_mem_cons.mpr ⟨rw_196, List.forall_mem_cons.mpr ⟨rw_197, List.forall_mem_cons.mpr ⟨rw_198, List.forall_mem_cons.mpr ⟨rw_199, List.forall_mem_cons.mpr ⟨rw_200, List.forall_mem_cons.mpr ⟨rw_201, List.forall_mem_cons.mpr ⟨rw_202, List.forall_mem_cons.mpr ⟨rw_203, List.forall_mem_cons.mpr ⟨rw_204, List.forall_mem_cons.mpr ⟨rw_205, List.forall_mem_cons.mpr ⟨rw_206, List.forall_mem_cons.mpr ⟨rw_207, fun _ h => absurd h List.not_mem_nil⟩⟩⟩⟩⟩⟩⟩⟩⟩⟩⟩⟩⟩⟩⟩⟩
theorem rw_c13 : ∀ t ∈ [rm_208, rm_209, rm_210, rm_211, rm_212, rm_213, rm_214, rm_215, rm_216], ri_cw t := List.forall_mem_cons.mpr ⟨rw_208, List.forall_mem_cons.mpr ⟨rw_209, List.forall_mem_cons.mpr ⟨rw_210, List.forall_mem_cons.mpr ⟨rw_211, List.forall_mem_cons.mpr ⟨rw_212, List.forall_mem_cons.mpr ⟨rw_213, List.forall_mem_cons.mpr ⟨rw_214, List.forall_mem_cons.mpr ⟨rw_215, List.forall_mem_cons.mpr ⟨rw_216, fun _ h => absurd h List.not_mem_nil⟩⟩⟩⟩⟩⟩⟩⟩⟩
theorem rw_all : ∀ l ∈ ri_mtl, ∀ t ∈ l, ri_cw t := List.forall_mem_cons.mpr ⟨rw_c0, List.forall_mem_cons.mpr ⟨rw_c1, List.forall_mem_cons.mpr ⟨rw_c2, List.forall_mem_cons.mpr ⟨rw_c3, List.forall_mem_cons.mpr ⟨rw_c4, List.forall_mem_cons.mpr ⟨rw_c5, List.forall_mem_cons.mpr ⟨rw_c6, List.forall_mem_cons.mpr ⟨rw_c7, List.forall_mem_cons.mpr ⟨rw_c8, List.forall_mem_cons.mpr ⟨rw_c9, List.forall_mem_cons.mpr ⟨rw_c10, List.forall_mem_cons.mpr ⟨rw_c11, List.forall_mem_cons.mpr ⟨rw_c12, List.forall_mem_cons.mpr ⟨rw_c13, fun _ h => absurd h List.not_mem_nil⟩⟩⟩⟩⟩⟩⟩⟩⟩⟩⟩⟩⟩⟩
theorem ri_cw_ok {j : Nat} {t : ri_MT} (ht : ri_mt j = some t) : ri_cw t := by
  obtain ⟨l, h1, h2⟩ := ri_at_mem ht
  exact rw_all l h1 t h2
