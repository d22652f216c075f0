theorem li_L_248 : mLink "ClothWithManLaw" 248 E_M_row := ⟨tw_8_107, tw_1_9, ⟨by decide, by decide⟩, by decide +kernel, Or.inl tw_8_104, (fun h => by cases h), (fun _ => ⟨tw_8_105, tw_8_106, TX12, 71, rfl⟩), (fun h => by cases h)⟩

theorem li_L_245 : mLink "ClothWithManLaw" 245 E_M_told := ⟨tw_8_103, tw_1_9, ⟨by decide, by decide⟩, by decide +kernel, Or.inl tw_8_100, (fun h => by cases h), (fun _ => ⟨tw_8_101, tw_8_102, TX12, 71, rfl⟩), (fun h => by cases h)⟩

theorem li_L_242 : mLink "ClothWithManLaw" 242 E_C_told := ⟨tw_5_73, tw_1_1, ⟨by decide, by decide⟩, by decide +kernel, Or.inl tw_5_70, (fun h => by cases h), (fun _ => ⟨tw_5_71, tw_5_72, TX11, 20, rfl⟩), (fun h => by cases h)⟩

theorem li_L_241 : mLink "ClothWithManLaw" 241 E_M_again := ⟨tw_8_99, tw_1_9, ⟨by decide, by decide⟩, by decide +kernel, Or.inl tw_8_96, (fun h => by cases h), (fun _ => ⟨tw_8_97, tw_8_98, TX12, 71, rfl⟩), (fun h => by cases h)⟩

theorem li_L_238 : mLink "ClothWithManLaw" 238 E_C_again := ⟨tw_5_69, tw_1_1, ⟨by decide, by decide⟩, by decide +kernel, Or.inl tw_5_66, (fun h => by cases h), (fun _ => ⟨tw_5_67, tw_5_68, TX11, 20, rfl⟩), (fun h => by cases h)⟩

theorem li_L_237 : mLink "ClothWithManLaw" 237 E_M_keep := ⟨tw_8_95, tw_1_9, ⟨by decide, by decide⟩, by decide +kernel, Or.inl tw_8_92, (fun h => by cases h), (fun _ => ⟨tw_8_93, tw_8_94, TX12, 71, rfl⟩), (fun h => by cases h)⟩

theorem li_L_234 : mLink "ClothWithManLaw" 234 E_C_keep := ⟨tw_5_42, tw_1_1, ⟨by decide, by decide⟩, by decide +kernel, Or.inl tw_5_39, (fun h => by cases h), (fun _ => ⟨tw_5_40, tw_5_41, TX11, 20, rfl⟩), (fun h => by cases h)⟩

theorem li_L_233 : mLink "ClothWithManLaw" 233 E_M_seed := ⟨tw_8_91, tw_1_9, ⟨by decide, by decide⟩, by decide +kernel, Or.inl tw_8_88, (fun h => by cases h), (fun _ => ⟨tw_8_89, tw_8_90, TX12, 71, rfl⟩), (fun h => by cases h)⟩

theorem li_L_230 : mLink "ClothWithManLaw" 230 E_C_seed := ⟨tw_5_38, tw_1_1, ⟨by decide, by decide⟩, by decide +kernel, Or.inl tw_5_35, (fun h => by cases h), (fun _ => ⟨tw_5_36, tw_5_37, TX11, 20, rfl⟩), (fun h => by cases h)⟩

theorem li_L_229 : mLink "ClothWithManLaw" 229 E_M_omits := ⟨tw_8_87, tw_1_9, ⟨by decide, by decide⟩, by decide +kernel, Or.inl tw_8_84, (fun h => by cases h), (fun _ => ⟨tw_8_85, tw_8_86, TX12, 71, rfl⟩), (fun h => by cases h)⟩

theorem li_L_226 : mLink "ClothWithManLaw" 226 E_C_omits := ⟨tw_5_26, tw_1_1, ⟨by decide, by decide⟩, by decide +kernel, Or.inl tw_5_23, (fun h => by cases h), (fun _ => ⟨tw_5_24, tw_5_25, TX11, 20, rfl⟩), (fun h => by cases h)⟩

theorem li_L_225 : mLink "ClothWithManLaw" 225 E_M_wanted := ⟨tw_8_83, tw_1_9, ⟨by decide, by decide⟩, by decide +kernel, Or.inl tw_8_80, (fun h => by cases h), (fun _ => ⟨tw_8_81, tw_8_82, TX12, 71, rfl⟩), (fun h => by cases h)⟩

theorem li_L_221 : mLink "ClothWithManLaw" 221 E_C_wanted := ⟨tw_5_4, tw_1_1, ⟨by decide, by decide⟩, by decide +kernel, Or.inl tw_5_1, (fun h => by cases h), (fun _ => ⟨tw_5_2, tw_5_3, TX11, 20, rfl⟩), (fun h => by cases h)⟩

theorem li_L_220 : mLink "ClothWithManLaw" 220 E_M_look := ⟨tw_8_79, tw_1_9, ⟨by decide, by decide⟩, by decide +kernel, Or.inl tw_8_76, (fun h => by cases h), (fun _ => ⟨tw_8_77, tw_8_78, TX12, 71, rfl⟩), (fun h => by cases h)⟩

theorem li_L_217 : mLink "ClothWithManLaw" 217 E_C_look := ⟨tw_5_0, tw_1_1, ⟨by decide, by decide⟩, by decide +kernel, Or.inl tw_4_237, (fun h => by cases h), (fun _ => ⟨tw_4_238, tw_4_239, TX11, 20, rfl⟩), (fun h => by cases h)⟩

theorem li_L_216 : mLink "ClothWithManLaw" 216 E_M_open := ⟨tw_8_68, tw_1_9, ⟨by decide, by decide⟩, by decide +kernel, Or.inl tw_8_65, (fun h => by cases h), (fun _ => ⟨tw_8_66, tw_8_67, TX12, 71, rfl⟩), (fun h => by cases h)⟩

theorem li_L_213 : mLink "ClothWithManLaw" 213 E_C_open := ⟨tw_4_224, tw_1_1, ⟨by decide, by decide⟩, by decide +kernel, Or.inl tw_4_221, (fun h => by cases h), (fun _ => ⟨tw_4_222, tw_4_223, TX11, 20, rfl⟩), (fun h => by cases h)⟩

theorem li_L_212 : mLink "ClothWithManLaw" 212 E_M_how := ⟨tw_8_64, tw_1_9, ⟨by decide, by decide⟩, by decide +kernel, Or.inl tw_8_61, (fun h => by cases h), (fun _ => ⟨tw_8_62, tw_8_63, TX12, 71, rfl⟩), (fun h => by cases h)⟩

theorem li_L_209 : mLink "ClothWithManLaw" 209 E_C_how := ⟨tw_4_205, tw_1_1, ⟨by decide, by decide⟩, by decide +kernel, Or.inl tw_4_202, (fun h => by cases h), (fun _ => ⟨tw_4_203, tw_4_204, TX11, 20, rfl⟩), (fun h => by cases h)⟩

theorem li_L_208 : mLink "ClothWithManLaw" 208 E_M_knew := ⟨tw_8_57, tw_1_9, ⟨by decide, by decide⟩, by decide +kernel, Or.inl tw_8_54, (fun h => by cases h), (fun _ => ⟨tw_8_55, tw_8_56, TX12, 71, rfl⟩), (fun h => by cases h)⟩

theorem li_L_205 : mLink "ClothWithManLaw" 205 E_C_knew := ⟨tw_4_201, tw_1_1, ⟨by decide, by decide⟩, by decide +kernel, Or.inl tw_4_198, (fun h => by cases h), (fun _ => ⟨tw_4_199, tw_4_200, TX11, 20, rfl⟩), (fun h => by cases h)⟩

theorem li_L_204 : mLink "ClothWithManLaw" 204 E_M_like := ⟨tw_8_53, tw_1_9, ⟨by decide, by decide⟩, by decide +kernel, Or.inl tw_8_50, (fun h => by cases h), (fun _ => ⟨tw_8_51, tw_8_52, TX12, 71, rfl⟩), (fun h => by cases h)⟩

theorem li_L_201 : mLink "ClothWithManLaw" 201 E_C_like := ⟨tw_4_193, tw_1_1, ⟨by decide, by decide⟩, by decide +kernel, Or.inl tw_4_190, (fun h => by cases h), (fun _ => ⟨tw_4_191, tw_4_192, TX11, 20, rfl⟩), (fun h => by cases h)⟩

theorem li_L_200 : mLink "ClothWithManLaw" 200 E_M_where := ⟨tw_8_49, tw_1_9, ⟨by decide, by decide⟩, by decide +kernel, Or.inl tw_8_46, (fun h => by cases h), (fun _ => ⟨tw_8_47, tw_8_48, TX12, 71, rfl⟩), (fun h => by cases h)⟩

theorem li_L_197 : mLink "ClothWithManLaw" 197 E_C_where := ⟨tw_4_185, tw_1_1, ⟨by decide, by decide⟩, by decide +kernel, Or.inl tw_4_182, (fun h => by cases h), (fun _ => ⟨tw_4_183, tw_4_184, TX11, 20, rfl⟩), (fun h => by cases h)⟩

theorem li_L_196 : mLink "ClothWithManLaw" 196 E_M_fewest := ⟨tw_8_45, tw_1_9, ⟨by decide, by decide⟩, by decide +kernel, Or.inl tw_8_42, (fun h => by cases h), (fun _ => ⟨tw_8_43, tw_8_44, TX12, 71, rfl⟩), (fun h => by cases h)⟩

theorem li_L_193 : mLink "ClothWithManLaw" 193 E_C_fewest := ⟨tw_4_173, tw_1_1, ⟨by decide, by decide⟩, by decide +kernel, Or.inl tw_4_170, (fun h => by cases h), (fun _ => ⟨tw_4_171, tw_4_172, TX11, 20, rfl⟩), (fun h => by cases h)⟩

theorem li_L_192 : mLink "ClothWithManLaw" 192 E_M_next := ⟨tw_8_41, tw_1_9, ⟨by decide, by decide⟩, by decide +kernel, Or.inl tw_8_38, (fun h => by cases h), (fun _ => ⟨tw_8_39, tw_8_40, TX12, 71, rfl⟩), (fun h => by cases h)⟩

theorem li_L_189 : mLink "ClothWithManLaw" 189 E_C_next := ⟨tw_4_169, tw_1_1, ⟨by decide, by decide⟩, by decide +kernel, Or.inl tw_4_166, (fun h => by cases h), (fun _ => ⟨tw_4_167, tw_4_168, TX11, 20, rfl⟩), (fun h => by cases h)⟩

theorem li_L_188 : mLink "ClothWithManLaw" 188 E_M_parts := ⟨tw_8_22, tw_1_9, ⟨by decide, by decide⟩, by decide +kernel, Or.inl tw_8_19, (fun h => by cases h), (fun _ => ⟨tw_8_20, tw_8_21, TX12, 71, rfl⟩), (fun h => by cases h)⟩

theorem li_L_185 : mLink "ClothWithManLaw" 185 E_C_parts := ⟨tw_4_149, tw_1_1, ⟨by decide, by decide⟩, by decide +kernel, Or.inl tw_4_146, (fun h => by cases h), (fun _ => ⟨tw_4_147, tw_4_148, TX11, 20, rfl⟩), (fun h => by cases h)⟩

theorem li_L_184 : mLink "ClothWithManLaw" 184 E_M_needs := ⟨tw_8_18, tw_1_9, ⟨by decide, by decide⟩, by decide +kernel, Or.inl tw_8_15, (fun h => by cases h), (fun _ => ⟨tw_8_16, tw_8_17, TX12, 71, rfl⟩), (fun h => by cases h)⟩

theorem li_L_181 : mLink "ClothWithManLaw" 181 E_C_needs := ⟨tw_4_145, tw_1_1, ⟨by decide, by decide⟩, by decide +kernel, Or.inl tw_4_142, (fun h => by cases h), (fun _ => ⟨tw_4_143, tw_4_144, TX11, 20, rfl⟩), (fun h => by cases h)⟩

theorem li_L_180 : mLink "ClothWithManLaw" 180 E_M_first := ⟨tw_8_14, tw_1_9, ⟨by decide, by decide⟩, by decide +kernel, Or.inl tw_8_11, (fun h => by cases h), (fun _ => ⟨tw_8_12, tw_8_13, TX12, 71, rfl⟩), (fun h => by cases h)⟩

theorem li_L_177 : mLink "ClothWithManLaw" 177 E_C_first := ⟨tw_4_141, tw_1_1, ⟨by decide, by decide⟩, by decide +kernel, Or.inl tw_4_138, (fun h => by cases h), (fun _ => ⟨tw_4_139, tw_4_140, TX11, 20, rfl⟩), (fun h => by cases h)⟩

theorem li_L_176 : mLink "ClothWithManLaw" 176 E_M_when := ⟨tw_8_10, tw_1_9, ⟨by decide, by decide⟩, by decide +kernel, Or.inl tw_8_7, (fun h => by cases h), (fun _ => ⟨tw_8_8, tw_8_9, TX12, 71, rfl⟩), (fun h => by cases h)⟩

theorem li_L_173 : mLink "ClothWithManLaw" 173 E_C_when := ⟨tw_4_137, tw_1_1, ⟨by decide, by decide⟩, by decide +kernel, Or.inl tw_4_134, (fun h => by cases h), (fun _ => ⟨tw_4_135, tw_4_136, TX11, 20, rfl⟩), (fun h => by cases h)⟩

theorem li_L_172 : mLink "ClothWithManLaw" 172 E_M_odds := ⟨tw_7_229, tw_1_9, ⟨by decide, by decide⟩, by decide +kernel, Or.inl tw_7_226, (fun h => by cases h), (fun _ => ⟨tw_7_227, tw_7_228, TX12, 71, rfl⟩), (fun h => by cases h)⟩

theorem li_L_169 : mLink "ClothWithManLaw" 169 E_C_odds := ⟨tw_4_79, tw_1_1, ⟨by decide, by decide⟩, by decide +kernel, Or.inl tw_4_76, (fun h => by cases h), (fun _ => ⟨tw_4_77, tw_4_78, TX11, 20, rfl⟩), (fun h => by cases h)⟩

theorem li_L_168 : mLink "ClothWithManLaw" 168 E_M_paper := ⟨tw_7_225, tw_1_9, ⟨by decide, by decide⟩, by decide +kernel, Or.inl tw_7_222, (fun h => by cases h), (fun _ => ⟨tw_7_223, tw_7_224, TX12, 71, rfl⟩), (fun h => by cases h)⟩

theorem li_L_164 : mLink "ClothWithManLaw" 164 E_C_paper := ⟨tw_4_59, tw_1_1, ⟨by decide, by decide⟩, by decide +kernel, Or.inl tw_4_56, (fun h => by cases h), (fun _ => ⟨tw_4_57, tw_4_58, TX11, 20, rfl⟩), (fun h => by cases h)⟩

theorem li_L_163 : mLink "ClothWithManLaw" 163 E_M_would := ⟨tw_7_209, tw_1_9, ⟨by decide, by decide⟩, by decide +kernel, Or.inl tw_7_206, (fun h => by cases h), (fun _ => ⟨tw_7_207, tw_7_208, TX12, 71, rfl⟩), (fun h => by cases h)⟩

theorem li_L_159 : mLink "ClothWithManLaw" 159 E_M_faith := ⟨tw_7_201, tw_1_9, ⟨by decide, by decide⟩, by decide +kernel, Or.inl tw_7_198, (fun h => by cases h), (fun _ => ⟨tw_7_199, tw_7_200, TX12, 71, rfl⟩), (fun h => by cases h)⟩

theorem li_L_156 : mLink "ClothWithManLaw" 156 E_C_faith := ⟨tw_4_47, tw_1_1, ⟨by decide, by decide⟩, by decide +kernel, Or.inl tw_4_44, (fun h => by cases h), (fun _ => ⟨tw_4_45, tw_4_46, TX11, 20, rfl⟩), (fun h => by cases h)⟩

theorem li_L_155 : mLink "ClothWithManLaw" 155 E_M_story := ⟨tw_7_189, tw_1_9, ⟨by decide, by decide⟩, by decide +kernel, Or.inl tw_7_186, (fun h => by cases h), (fun _ => ⟨tw_7_187, tw_7_188, TX12, 71, rfl⟩), (fun h => by cases h)⟩

theorem li_L_152 : mLink "ClothWithManLaw" 152 E_C_story := ⟨tw_3_214, tw_1_1, ⟨by decide, by decide⟩, by decide +kernel, Or.inl tw_3_211, (fun h => by cases h), (fun _ => ⟨tw_3_212, tw_3_213, TX11, 20, rfl⟩), (fun h => by cases h)⟩

theorem li_L_151 : mLink "ClothWithManLaw" 151 E_M_must := ⟨tw_7_185, tw_1_9, ⟨by decide, by decide⟩, by decide +kernel, Or.inl tw_7_182, (fun h => by cases h), (fun _ => ⟨tw_7_183, tw_7_184, TX12, 71, rfl⟩), (fun h => by cases h)⟩

theorem li_L_148 : mLink "ClothWithManLaw" 148 E_C_must := ⟨tw_3_210, tw_1_1, ⟨by decide, by decide⟩, by decide +kernel, Or.inl tw_3_207, (fun h => by cases h), (fun _ => ⟨tw_3_208, tw_3_209, TX11, 20, rfl⟩), (fun h => by cases h)⟩

theorem li_L_147 : mLink "ClothWithManLaw" 147 E_M_younger := ⟨tw_7_181, tw_1_9, ⟨by decide, by decide⟩, by decide +kernel, Or.inl tw_7_178, (fun h => by cases h), (fun _ => ⟨tw_7_179, tw_7_180, TX12, 71, rfl⟩), (fun h => by cases h)⟩

theorem li_L_144 : mLink "ClothWithManLaw" 144 E_C_younger := ⟨tw_3_205, tw_1_1, ⟨by decide, by decide⟩, by decide +kernel, Or.inl tw_3_202, (fun h => by cases h), (fun _ => ⟨tw_3_203, tw_3_204, TX11, 20, rfl⟩), (fun h => by cases h)⟩

theorem li_L_143 : mLink "ClothWithManLaw" 143 E_M_odd := ⟨tw_7_174, tw_1_9, ⟨by decide, by decide⟩, by decide +kernel, Or.inl tw_7_171, (fun h => by cases h), (fun _ => ⟨tw_7_172, tw_7_173, TX12, 71, rfl⟩), (fun h => by cases h)⟩

theorem li_L_140 : mLink "ClothWithManLaw" 140 E_C_odd := ⟨tw_3_201, tw_1_1, ⟨by decide, by decide⟩, by decide +kernel, Or.inl tw_3_198, (fun h => by cases h), (fun _ => ⟨tw_3_199, tw_3_200, TX11, 20, rfl⟩), (fun h => by cases h)⟩

theorem li_L_139 : mLink "ClothWithManLaw" 139 E_M_lot := ⟨tw_7_162, tw_1_9, ⟨by decide, by decide⟩, by decide +kernel, Or.inl tw_7_159, (fun h => by cases h), (fun _ => ⟨tw_7_160, tw_7_161, TX12, 71, rfl⟩), (fun h => by cases h)⟩

theorem li_L_136 : mLink "ClothWithManLaw" 136 E_C_lot := ⟨tw_3_197, tw_1_1, ⟨by decide, by decide⟩, by decide +kernel, Or.inl tw_3_194, (fun h => by cases h), (fun _ => ⟨tw_3_195, tw_3_196, TX11, 20, rfl⟩), (fun h => by cases h)⟩

theorem li_L_135 : mLink "ClothWithManLaw" 135 E_M_slope := ⟨tw_7_146, tw_1_9, ⟨by decide, by decide⟩, by decide +kernel, Or.inl tw_7_143, (fun h => by cases h), (fun _ => ⟨tw_7_144, tw_7_145, TX12, 71, rfl⟩), (fun h => by cases h)⟩

theorem li_L_132 : mLink "ClothWithManLaw" 132 E_C_slope := ⟨tw_3_178, tw_1_1, ⟨by decide, by decide⟩, by decide +kernel, Or.inl tw_3_175, (fun h => by cases h), (fun _ => ⟨tw_3_176, tw_3_177, TX11, 20, rfl⟩), (fun h => by cases h)⟩

theorem li_L_131 : mLink "ClothWithManLaw" 131 E_M_apart := ⟨tw_7_131, tw_1_9, ⟨by decide, by decide⟩, by decide +kernel, Or.inl tw_7_128, (fun h => by cases h), (fun _ => ⟨tw_7_129, tw_7_130, TX12, 71, rfl⟩), (fun h => by cases h)⟩

theorem li_L_128 : mLink "ClothWithManLaw" 128 E_C_apart := ⟨tw_3_157, tw_1_1, ⟨by decide, by decide⟩, by decide +kernel, Or.inl tw_3_154, (fun h => by cases h), (fun _ => ⟨tw_3_155, tw_3_156, TX11, 20, rfl⟩), (fun h => by cases h)⟩

theorem li_L_127 : mLink "ClothWithManLaw" 127 E_M_between := ⟨tw_7_127, tw_1_9, ⟨by decide, by decide⟩, by decide +kernel, Or.inl tw_7_124, (fun h => by cases h), (fun _ => ⟨tw_7_125, tw_7_126, TX12, 71, rfl⟩), (fun h => by cases h)⟩

theorem li_L_124 : mLink "ClothWithManLaw" 124 E_C_between := ⟨tw_3_153, tw_1_1, ⟨by decide, by decide⟩, by decide +kernel, Or.inl tw_3_150, (fun h => by cases h), (fun _ => ⟨tw_3_151, tw_3_152, TX11, 20, rfl⟩), (fun h => by cases h)⟩

theorem li_L_123 : mLink "ClothWithManLaw" 123 E_M_within := ⟨tw_7_122, tw_1_9, ⟨by decide, by decide⟩, by decide +kernel, Or.inl tw_7_119, (fun h => by cases h), (fun _ => ⟨tw_7_120, tw_7_121, TX12, 71, rfl⟩), (fun h => by cases h)⟩

theorem li_L_120 : mLink "ClothWithManLaw" 120 E_C_within := ⟨tw_3_144, tw_1_1, ⟨by decide, by decide⟩, by decide +kernel, Or.inl tw_3_141, (fun h => by cases h), (fun _ => ⟨tw_3_142, tw_3_143, TX11, 20, rfl⟩), (fun h => by cases h)⟩

theorem li_L_119 : mLink "ClothWithManLaw" 119 E_M_likely := ⟨tw_7_91, tw_1_9, ⟨by decide, by decide⟩, by decide +kernel, Or.inl tw_7_88, (fun h => by cases h), (fun _ => ⟨tw_7_89, tw_7_90, TX12, 71, rfl⟩), (fun h => by cases h)⟩

theorem li_L_116 : mLink "ClothWithManLaw" 116 E_C_likely := ⟨tw_3_93, tw_1_1, ⟨by decide, by decide⟩, by decide +kernel, Or.inl tw_3_90, (fun h => by cases h), (fun _ => ⟨tw_3_91, tw_3_92, TX11, 20, rfl⟩), (fun h => by cases h)⟩

theorem li_L_115 : mLink "ClothWithManLaw" 115 E_M_years := ⟨tw_7_83, tw_1_9, ⟨by decide, by decide⟩, by decide +kernel, Or.inl tw_7_80, (fun h => by cases h), (fun _ => ⟨tw_7_81, tw_7_82, TX12, 71, rfl⟩), (fun h => by cases h)⟩

theorem li_L_112 : mLink "ClothWithManLaw" 112 E_C_years := ⟨tw_3_73, tw_1_1, ⟨by decide, by decide⟩, by decide +kernel, Or.inl tw_3_70, (fun h => by cases h), (fun _ => ⟨tw_3_71, tw_3_72, TX11, 20, rfl⟩), (fun h => by cases h)⟩

theorem li_L_111 : mLink "ClothWithManLaw" 111 E_M_likeness := ⟨tw_7_73, tw_1_9, ⟨by decide, by decide⟩, by decide +kernel, Or.inl tw_7_70, (fun h => by cases h), (fun _ => ⟨tw_7_71, tw_7_72, TX12, 71, rfl⟩), (fun h => by cases h)⟩

theorem li_L_108 : mLink "ClothWithManLaw" 108 E_C_likeness := ⟨tw_3_57, tw_1_1, ⟨by decide, by decide⟩, by decide +kernel, Or.inl tw_3_54, (fun h => by cases h), (fun _ => ⟨tw_3_55, tw_3_56, TX11, 20, rfl⟩), (fun h => by cases h)⟩

theorem li_L_107 : mLink "ClothWithManLaw" 107 E_M_counted := ⟨tw_7_69, tw_1_9, ⟨by decide, by decide⟩, by decide +kernel, Or.inl tw_7_66, (fun h => by cases h), (fun _ => ⟨tw_7_67, tw_7_68, TX12, 71, rfl⟩), (fun h => by cases h)⟩

theorem li_L_104 : mLink "ClothWithManLaw" 104 E_M_draw := ⟨tw_7_60, tw_1_9, ⟨by decide, by decide⟩, by decide +kernel, Or.inl tw_7_57, (fun h => by cases h), (fun _ => ⟨tw_7_58, tw_7_59, TX12, 71, rfl⟩), (fun h => by cases h)⟩

theorem li_L_101 : mLink "ClothWithManLaw" 101 E_M_count := ⟨tw_7_52, tw_1_9, ⟨by decide, by decide⟩, by decide +kernel, Or.inl tw_7_49, (fun h => by cases h), (fun _ => ⟨tw_7_50, tw_7_51, TX12, 71, rfl⟩), (fun h => by cases h)⟩

theorem li_L_97 : mLink "ClothWithManLaw" 97 E_C_count := ⟨tw_3_40, tw_1_1, ⟨by decide, by decide⟩, by decide +kernel, Or.inl tw_3_37, (fun h => by cases h), (fun _ => ⟨tw_3_38, tw_3_39, TX11, 20, rfl⟩), (fun h => by cases h)⟩

theorem li_L_94 : mLink "ClothWithManLaw" 94 E_M_thrown := ⟨tw_6_171, tw_1_9, ⟨by decide, by decide⟩, by decide +kernel, Or.inl tw_6_168, (fun h => by cases h), (fun _ => ⟨tw_6_169, tw_6_170, TX12, 71, rfl⟩), (fun h => by cases h)⟩

theorem li_L_93 : mLink "ClothWithManLaw" 93 E_M_truth := ⟨tw_7_36, tw_1_9, ⟨by decide, by decide⟩, by decide +kernel, Or.inl tw_7_33, (fun h => by cases h), (fun _ => ⟨tw_7_34, tw_7_35, TX12, 71, rfl⟩), (fun h => by cases h)⟩

theorem li_L_87 : mLink "ClothWithManLaw" 87 E_M_piece := ⟨tw_7_32, tw_1_9, ⟨by decide, by decide⟩, by decide +kernel, Or.inl tw_7_29, (fun h => by cases h), (fun _ => ⟨tw_7_30, tw_7_31, TX12, 71, rfl⟩), (fun h => by cases h)⟩

theorem li_L_84 : mLink "ClothWithManLaw" 84 E_C_piece := ⟨tw_3_5, tw_1_1, ⟨by decide, by decide⟩, by decide +kernel, Or.inl tw_3_2, (fun h => by cases h), (fun _ => ⟨tw_3_3, tw_3_4, TX11, 20, rfl⟩), (fun h => by cases h)⟩

theorem li_L_83 : mLink "ClothWithManLaw" 83 E_M_thread := ⟨tw_7_13, tw_1_9, ⟨by decide, by decide⟩, by decide +kernel, Or.inl tw_7_10, (fun h => by cases h), (fun _ => ⟨tw_7_11, tw_7_12, TX12, 71, rfl⟩), (fun h => by cases h)⟩

theorem li_L_80 : mLink "ClothWithManLaw" 80 E_C_thread := ⟨tw_2_205, tw_1_1, ⟨by decide, by decide⟩, by decide +kernel, Or.inl tw_2_202, (fun h => by cases h), (fun _ => ⟨tw_2_203, tw_2_204, TX11, 20, rfl⟩), (fun h => by cases h)⟩

theorem li_L_79 : mLink "ClothWithManLaw" 79 E_M_sheet := ⟨tw_7_7, tw_1_9, ⟨by decide, by decide⟩, by decide +kernel, Or.inl tw_7_4, (fun h => by cases h), (fun _ => ⟨tw_7_5, tw_7_6, TX12, 71, rfl⟩), (fun h => by cases h)⟩

theorem li_L_75 : mLink "ClothWithManLaw" 75 E_C_sheet := ⟨tw_2_196, tw_1_1, ⟨by decide, by decide⟩, by decide +kernel, Or.inl tw_2_193, (fun h => by cases h), (fun _ => ⟨tw_2_194, tw_2_195, TX11, 20, rfl⟩), (fun h => by cases h)⟩

theorem li_L_74 : mLink "ClothWithManLaw" 74 E_M_house := ⟨tw_7_3, tw_1_9, ⟨by decide, by decide⟩, by decide +kernel, Or.inl tw_7_0, (fun h => by cases h), (fun _ => ⟨tw_7_1, tw_7_2, TX12, 71, rfl⟩), (fun h => by cases h)⟩

theorem li_L_70 : mLink "ClothWithManLaw" 70 E_C_house := ⟨tw_2_189, tw_1_1, ⟨by decide, by decide⟩, by decide +kernel, Or.inl tw_2_186, (fun h => by cases h), (fun _ => ⟨tw_2_187, tw_2_188, TX11, 20, rfl⟩), (fun h => by cases h)⟩

theorem li_L_69 : mLink "ClothWithManLaw" 69 E_M_way := ⟨tw_6_239, tw_1_9, ⟨by decide, by decide⟩, by decide +kernel, Or.inl tw_6_236, (fun h => by cases h), (fun _ => ⟨tw_6_237, tw_6_238, TX12, 71, rfl⟩), (fun h => by cases h)⟩

theorem li_L_65 : mLink "ClothWithManLaw" 65 E_C_way := ⟨tw_2_185, tw_1_1, ⟨by decide, by decide⟩, by decide +kernel, Or.inl tw_2_182, (fun h => by cases h), (fun _ => ⟨tw_2_183, tw_2_184, TX11, 20, rfl⟩), (fun h => by cases h)⟩

theorem li_L_64 : mLink "ClothWithManLaw" 64 E_M_stuff := ⟨tw_6_235, tw_1_9, ⟨by decide, by decide⟩, by decide +kernel, Or.inl tw_6_232, (fun h => by cases h), (fun _ => ⟨tw_6_233, tw_6_234, TX12, 71, rfl⟩), (fun h => by cases h)⟩

theorem li_L_60 : mLink "ClothWithManLaw" 60 E_C_stuff := ⟨tw_2_181, tw_1_1, ⟨by decide, by decide⟩, by decide +kernel, Or.inl tw_2_178, (fun h => by cases h), (fun _ => ⟨tw_2_179, tw_2_180, TX11, 20, rfl⟩), (fun h => by cases h)⟩

theorem li_L_59 : mLink "ClothWithManLaw" 59 E_M_mend := ⟨tw_6_225, tw_1_9, ⟨by decide, by decide⟩, by decide +kernel, Or.inl tw_6_222, (fun h => by cases h), (fun _ => ⟨tw_6_223, tw_6_224, TX12, 71, rfl⟩), (fun h => by cases h)⟩

theorem li_L_55 : mLink "ClothWithManLaw" 55 E_C_mend := ⟨tw_2_83, tw_1_1, ⟨by decide, by decide⟩, by decide +kernel, Or.inl tw_2_80, (fun h => by cases h), (fun _ => ⟨tw_2_81, tw_2_82, TX11, 20, rfl⟩), (fun h => by cases h)⟩

theorem li_L_54 : mLink "ClothWithManLaw" 54 E_M_woven := ⟨tw_6_221, tw_1_9, ⟨by decide, by decide⟩, by decide +kernel, Or.inl tw_6_218, (fun h => by cases h), (fun _ => ⟨tw_6_219, tw_6_220, TX12, 71, rfl⟩), (fun h => by cases h)⟩

theorem li_L_51 : mLink "ClothWithManLaw" 51 E_C_woven := ⟨tw_2_79, tw_1_1, ⟨by decide, by decide⟩, by decide +kernel, Or.inl tw_2_76, (fun h => by cases h), (fun _ => ⟨tw_2_77, tw_2_78, TX11, 20, rfl⟩), (fun h => by cases h)⟩

theorem li_L_50 : mLink "ClothWithManLaw" 50 E_M_value := ⟨tw_6_214, tw_1_9, ⟨by decide, by decide⟩, by decide +kernel, Or.inl tw_6_211, (fun h => by cases h), (fun _ => ⟨tw_6_212, tw_6_213, TX12, 71, rfl⟩), (fun h => by cases h)⟩

theorem li_L_47 : mLink "ClothWithManLaw" 47 E_C_value := ⟨tw_2_67, tw_1_1, ⟨by decide, by decide⟩, by decide +kernel, Or.inl tw_2_64, (fun h => by cases h), (fun _ => ⟨tw_2_65, tw_2_66, TX11, 20, rfl⟩), (fun h => by cases h)⟩

theorem li_L_46 : mLink "ClothWithManLaw" 46 E_M_curve := ⟨tw_6_186, tw_1_9, ⟨by decide, by decide⟩, by decide +kernel, Or.inl tw_6_183, (fun h => by cases h), (fun _ => ⟨tw_6_184, tw_6_185, TX12, 71, rfl⟩), (fun h => by cases h)⟩

theorem li_L_42 : mLink "ClothWithManLaw" 42 E_C_curve := ⟨tw_2_3, tw_1_1, ⟨by decide, by decide⟩, by decide +kernel, Or.inl tw_2_0, (fun h => by cases h), (fun _ => ⟨tw_2_1, tw_2_2, TX11, 20, rfl⟩), (fun h => by cases h)⟩

theorem li_L_41 : mLink "ClothWithManLaw" 41 E_M_end := ⟨tw_6_179, tw_1_9, ⟨by decide, by decide⟩, by decide +kernel, Or.inl tw_6_176, (fun h => by cases h), (fun _ => ⟨tw_6_177, tw_6_178, TX12, 71, rfl⟩), (fun h => by cases h)⟩

theorem li_L_37 : mLink "ClothWithManLaw" 37 E_C_end := ⟨tw_1_235, tw_1_1, ⟨by decide, by decide⟩, by decide +kernel, Or.inl tw_1_232, (fun h => by cases h), (fun _ => ⟨tw_1_233, tw_1_234, TX11, 20, rfl⟩), (fun h => by cases h)⟩

theorem li_L_36 : mLink "ClothWithManLaw" 36 E_M_sign := ⟨tw_6_175, tw_1_9, ⟨by decide, by decide⟩, by decide +kernel, Or.inl tw_6_172, (fun h => by cases h), (fun _ => ⟨tw_6_173, tw_6_174, TX12, 71, rfl⟩), (fun h => by cases h)⟩

theorem li_L_33 : mLink "ClothWithManLaw" 33 E_C_sign := ⟨tw_1_227, tw_1_1, ⟨by decide, by decide⟩, by decide +kernel, Or.inl tw_1_224, (fun h => by cases h), (fun _ => ⟨tw_1_225, tw_1_226, TX11, 20, rfl⟩), (fun h => by cases h)⟩

theorem li_L_29 : mLink "ClothWithManLaw" 29 E_C_init := ⟨tw_1_32, tw_1_1, ⟨by decide, by decide⟩, by decide +kernel, Or.inl tw_1_30, (fun h => by cases h), (fun h => by cases h), (fun _ => ⟨tw_1_31, rfl⟩)⟩
theorem li_L_32 : mLink "ClothWithManLaw" 32 E_M_init := ⟨tw_5_192, tw_1_9, ⟨by decide, by decide⟩, by decide +kernel, Or.inl tw_5_190, (fun h => by cases h), (fun h => by cases h), (fun _ => ⟨tw_5_191, rfl⟩)⟩
theorem fu_L (l : Launch) : ∀ pc en, pFus P_L pc = some en → ∀ x nx t, pCode P_L pc = some (.new x, nx, [t]) → mFusOK l "ClothWithManLaw" code pc t en := by
  intro pc en h2 x nx t h1
  have h3 := mLook_mem h2
  simp only [List.mem_cons, Prod.mk.injEq, List.not_mem_nil, or_false] at h3
  rcases h3 with ⟨rfl, rfl⟩ | ⟨rfl, rfl⟩
  · have e : T_L 0 = some (.new x, nx, [t]) := h1
    cases e
    exact fus_obj (kr := 112) (k := 12) (x := 8) (ix := 29) (ei := E_C_init) rfl rfl (by decide) (by decide +kernel) (by decide) (by decide) ⟨12, _, "ClothWithMan", TX11, rfl, by decide, rfl, tw_1_28, tw_1_29, tw_1_1, (lt_s (lt_s (lt_s (lt_s (lt_s (lt_s (lt_s (lt_s (lt_s (lt_s (lt_s (lt_s (lt_s (lt_s (lt_s (lt_s (lt_s (lt_s (lt_s (lt_s lt_0 ⟨(.object "ClothWithMan$Text"), by decide +kernel, Or.inr (Or.inr ⟨⟨10, rfl⟩, rfl⟩)⟩) ⟨(.object "ClothWithMan$Cloth"), by decide +kernel, Or.inr (Or.inr ⟨⟨1, rfl⟩, rfl⟩)⟩) ⟨(.array .int), by decide +kernel, Or.inr (Or.inr ⟨⟨20, rfl⟩, rfl⟩)⟩) ⟨(.array .int), by decide +kernel, Or.inr (Or.inr ⟨⟨21, rfl⟩, rfl⟩)⟩) ⟨(.object "java/util/ArrayList"), by decide +kernel, Or.inr (Or.inr ⟨⟨14, rfl⟩, rfl⟩)⟩) ⟨(.object "java/util/ArrayList"), by decide +kernel, Or.inr (Or.inr ⟨⟨15, rfl⟩, rfl⟩)⟩) ⟨(.object "java/util/ArrayList"), by decide +kernel, Or.inr (Or.inr ⟨⟨16, rfl⟩, rfl⟩)⟩) ⟨(.array .int), by decide +kernel, Or.inr (Or.inr ⟨⟨22, rfl⟩, rfl⟩)⟩) ⟨(.array (.object "ClothWithMan$How")), by decide +kernel, Or.inr (Or.inr ⟨⟨23, rfl⟩, rfl⟩)⟩) ⟨(.array (.object "ClothWithMan$Want")), by decide +kernel, Or.inr (Or.inr ⟨⟨24, rfl⟩, rfl⟩)⟩) ⟨(.array (.object "ClothWithMan$Kept")), by decide +kernel, Or.inr (Or.inr ⟨⟨25, rfl⟩, rfl⟩)⟩) ⟨(.object "ClothWithMan$Row"), by decide +kernel, Or.inr (Or.inr ⟨⟨8, rfl⟩, rfl⟩)⟩) ⟨.int, by decide +kernel, Or.inl ⟨rfl, rfl⟩⟩) ⟨(.array .long), by decide +kernel, Or.inr (Or.inr ⟨⟨26, rfl⟩, rfl⟩)⟩) ⟨(.array .boolean), by decide +kernel, Or.inr (Or.inr ⟨⟨27, rfl⟩, rfl⟩)⟩) ⟨(.array .long), by decide +kernel, Or.inr (Or.inr ⟨⟨28, rfl⟩, rfl⟩)⟩) ⟨(.array .int), by decide +kernel, Or.inr (Or.inr ⟨⟨29, rfl⟩, rfl⟩)⟩) ⟨(.array .int), by decide +kernel, Or.inr (Or.inr ⟨⟨30, rfl⟩, rfl⟩)⟩) ⟨(.array .int), by decide +kernel, Or.inr (Or.inr ⟨⟨31, rfl⟩, rfl⟩)⟩) ⟨(.array .int), by decide +kernel, Or.inr (Or.inr ⟨⟨32, rfl⟩, rfl⟩)⟩)⟩ (by decide +kernel) (by decide +kernel) (by decide +kernel) li_L_29 (c_C_init l) rfl rfl ⟨by decide, by decide, rfl, rfl⟩ h_newC
  · have e : T_L 8 = some (.new x, nx, [t]) := h1
    cases e
    exact fus_obj (kr := 113) (k := 13) (x := 30) (ix := 32) (ei := E_M_init) rfl rfl (by decide) (by decide +kernel) (by decide) (by decide) ⟨13, _, "ClothWithManModel", TX12, rfl, by decide, rfl, tw_5_188, tw_5_189, tw_1_9, (lt_s (lt_s (lt_s (lt_s (lt_s (lt_s (lt_s (lt_s (lt_s (lt_s (lt_s (lt_s (lt_s (lt_s (lt_s (lt_s (lt_s (lt_s (lt_s (lt_s (lt_s (lt_s (lt_s (lt_s (lt_s (lt_s (lt_s (lt_s (lt_s (lt_s (lt_s (lt_s (lt_s (lt_s (lt_s (lt_s (lt_s (lt_s (lt_s (lt_s (lt_s (lt_s (lt_s (lt_s (lt_s (lt_s (lt_s (lt_s (lt_s (lt_s (lt_s (lt_s (lt_s (lt_s (lt_s (lt_s (lt_s (lt_s (lt_s (lt_s (lt_s (lt_s (lt_s (lt_s (lt_s (lt_s (lt_s (lt_s (lt_s (lt_s (lt_s lt_0 ⟨(.array .int), by decide +kernel, Or.inr (Or.inr ⟨⟨41, rfl⟩, rfl⟩)⟩) ⟨.int, by decide +kernel, Or.inl ⟨rfl, rfl⟩⟩) ⟨.int, by decide +kernel, Or.inl ⟨rfl, rfl⟩⟩) ⟨.int, by decide +kernel, Or.inl ⟨rfl, rfl⟩⟩) ⟨(.array .int), by decide +kernel, Or.inr (Or.inr ⟨⟨42, rfl⟩, rfl⟩)⟩) ⟨.int, by decide +kernel, Or.inl ⟨rfl, rfl⟩⟩) ⟨(.array .int), by decide +kernel, Or.inr (Or.inr ⟨⟨43, rfl⟩, rfl⟩)⟩) ⟨(.array .int), by decide +kernel, Or.inr (Or.inr ⟨⟨44, rfl⟩, rfl⟩)⟩) ⟨(.array .int), by decide +kernel, Or.inr (Or.inr ⟨⟨45, rfl⟩, rfl⟩)⟩) ⟨(.array .int), by decide +kernel, Or.inr (Or.inr ⟨⟨46, rfl⟩, rfl⟩)⟩) ⟨.int, by decide +kernel, Or.inl ⟨rfl, rfl⟩⟩) ⟨(.array .int), by decide +kernel, Or.inr (Or.inr ⟨⟨47, rfl⟩, rfl⟩)⟩) ⟨(.array .int), by decide +kernel, Or.inr (Or.inr ⟨⟨48, rfl⟩, rfl⟩)⟩) ⟨(.array .int), by decide +kernel, Or.inr (Or.inr ⟨⟨49, rfl⟩, rfl⟩)⟩) ⟨(.array .int), by decide +kernel, Or.inr (Or.inr ⟨⟨50, rfl⟩, rfl⟩)⟩) ⟨.int, by decide +kernel, Or.inl ⟨rfl, rfl⟩⟩) ⟨(.array .int), by decide +kernel, Or.inr (Or.inr ⟨⟨51, rfl⟩, rfl⟩)⟩) ⟨.int, by decide +kernel, Or.inl ⟨rfl, rfl⟩⟩) ⟨(.array .int), by decide +kernel, Or.inr (Or.inr ⟨⟨52, rfl⟩, rfl⟩)⟩) ⟨(.array .int), by decide +kernel, Or.inr (Or.inr ⟨⟨53, rfl⟩, rfl⟩)⟩) ⟨(.array .int), by decide +kernel, Or.inr (Or.inr ⟨⟨54, rfl⟩, rfl⟩)⟩) ⟨(.array .int), by decide +kernel, Or.inr (Or.inr ⟨⟨55, rfl⟩, rfl⟩)⟩) ⟨(.array .int), by decide +kernel, Or.inr (Or.inr ⟨⟨56, rfl⟩, rfl⟩)⟩) ⟨(.array .int), by decide +kernel, Or.inr (Or.inr ⟨⟨57, rfl⟩, rfl⟩)⟩) ⟨(.array .int), by decide +kernel, Or.inr (Or.inr ⟨⟨58, rfl⟩, rfl⟩)⟩) ⟨(.array .int), by decide +kernel, Or.inr (Or.inr ⟨⟨59, rfl⟩, rfl⟩)⟩) ⟨(.array .int), by decide +kernel, Or.inr (Or.inr ⟨⟨60, rfl⟩, rfl⟩)⟩) ⟨.int, by decide +kernel, Or.inl ⟨rfl, rfl⟩⟩) ⟨(.array .int), by decide +kernel, Or.inr (Or.inr ⟨⟨61, rfl⟩, rfl⟩)⟩) ⟨(.array .boolean), by decide +kernel, Or.inr (Or.inr ⟨⟨62, rfl⟩, rfl⟩)⟩) ⟨(.array .int), by decide +kernel, Or.inr (Or.inr ⟨⟨63, rfl⟩, rfl⟩)⟩) ⟨.int, by decide +kernel, Or.inl ⟨rfl, rfl⟩⟩) ⟨(.array .int), by decide +kernel, Or.inr (Or.inr ⟨⟨64, rfl⟩, rfl⟩)⟩) ⟨.int, by decide +kernel, Or.inl ⟨rfl, rfl⟩⟩) ⟨(.array .int), by decide +kernel, Or.inr (Or.inr ⟨⟨65, rfl⟩, rfl⟩)⟩) ⟨(.array .int), by decide +kernel, Or.inr (Or.inr ⟨⟨66, rfl⟩, rfl⟩)⟩) ⟨.int, by decide +kernel, Or.inl ⟨rfl, rfl⟩⟩) ⟨(.array .int), by decide +kernel, Or.inr (Or.inr ⟨⟨67, rfl⟩, rfl⟩)⟩) ⟨(.array .int), by decide +kernel, Or.inr (Or.inr ⟨⟨68, rfl⟩, rfl⟩)⟩) ⟨(.array .int), by decide +kernel, Or.inr (Or.inr ⟨⟨69, rfl⟩, rfl⟩)⟩) ⟨.int, by decide +kernel, Or.inl ⟨rfl, rfl⟩⟩) ⟨(.array .boolean), by decide +kernel, Or.inr (Or.inr ⟨⟨70, rfl⟩, rfl⟩)⟩) ⟨(.array .int), by decide +kernel, Or.inr (Or.inr ⟨⟨71, rfl⟩, rfl⟩)⟩) ⟨(.array .int), by decide +kernel, Or.inr (Or.inr ⟨⟨72, rfl⟩, rfl⟩)⟩) ⟨(.array .int), by decide +kernel, Or.inr (Or.inr ⟨⟨73, rfl⟩, rfl⟩)⟩) ⟨(.array .int), by decide +kernel, Or.inr (Or.inr ⟨⟨74, rfl⟩, rfl⟩)⟩) ⟨(.array .int), by decide +kernel, Or.inr (Or.inr ⟨⟨75, rfl⟩, rfl⟩)⟩) ⟨(.array .int), by decide +kernel, Or.inr (Or.inr ⟨⟨76, rfl⟩, rfl⟩)⟩) ⟨(.array .byte), by decide +kernel, Or.inr (Or.inr ⟨⟨77, rfl⟩, rfl⟩)⟩) ⟨.int, by decide +kernel, Or.inl ⟨rfl, rfl⟩⟩) ⟨(.array .long), by decide +kernel, Or.inr (Or.inr ⟨⟨78, rfl⟩, rfl⟩)⟩) ⟨.int, by decide +kernel, Or.inl ⟨rfl, rfl⟩⟩) ⟨.int, by decide +kernel, Or.inl ⟨rfl, rfl⟩⟩) ⟨.int, by decide +kernel, Or.inl ⟨rfl, rfl⟩⟩) ⟨.int, by decide +kernel, Or.inl ⟨rfl, rfl⟩⟩) ⟨.int, by decide +kernel, Or.inl ⟨rfl, rfl⟩⟩) ⟨.int, by decide +kernel, Or.inl ⟨rfl, rfl⟩⟩) ⟨(.array .int), by decide +kernel, Or.inr (Or.inr ⟨⟨79, rfl⟩, rfl⟩)⟩) ⟨(.array .int), by decide +kernel, Or.inr (Or.inr ⟨⟨80, rfl⟩, rfl⟩)⟩) ⟨(.array .long), by decide +kernel, Or.inr (Or.inr ⟨⟨81, rfl⟩, rfl⟩)⟩) ⟨.long, by decide +kernel, Or.inr (Or.inl ⟨rfl, rfl⟩)⟩) ⟨(.array .boolean), by decide +kernel, Or.inr (Or.inr ⟨⟨82, rfl⟩, rfl⟩)⟩) ⟨.long, by decide +kernel, Or.inr (Or.inl ⟨rfl, rfl⟩)⟩) ⟨.long, by decide +kernel, Or.inr (Or.inl ⟨rfl, rfl⟩)⟩) ⟨(.array .int), by decide +kernel, Or.inr (Or.inr ⟨⟨83, rfl⟩, rfl⟩)⟩) ⟨(.array .int), by decide +kernel, Or.inr (Or.inr ⟨⟨84, rfl⟩, rfl⟩)⟩) ⟨.int, by decide +kernel, Or.inl ⟨rfl, rfl⟩⟩) ⟨.long, by decide +kernel, Or.inr (Or.inl ⟨rfl, rfl⟩)⟩) ⟨.int, by decide +kernel, Or.inl ⟨rfl, rfl⟩⟩) ⟨(.array .long), by decide +kernel, Or.inr (Or.inr ⟨⟨85, rfl⟩, rfl⟩)⟩) ⟨(.array .int), by decide +kernel, Or.inr (Or.inr ⟨⟨86, rfl⟩, rfl⟩)⟩)⟩ (by decide +kernel) (by decide +kernel) (by decide +kernel) li_L_32 (c_M_init l) rfl rfl ⟨by decide, by decide, rfl, rfl⟩ h_newM

theorem al_L : ∀ pc i nx tg kd, pCode P_L pc = some (i, nx, tg) → pAlc P_L pc = some kd → match i with
    | .new x => mAOK "ClothWithManLaw" x kd
    | .newarray t => mNAOK t kd
    | .anewarray x => mAAOK "ClothWithManLaw" x kd
    | .invokespecial x => Cond.methodLink "ClothWithManLaw" x Lib.objectInit ∈ lw_tbl
    | _ => True := by
  intro pc i nx tg kd h1 h2
  have h3 := mLook_mem h2
  simp only [List.mem_cons, Prod.mk.injEq, List.not_mem_nil, or_false] at h3
  rcases h3 with ⟨rfl, rfl⟩
  · have e : T_L 17 = some (i, nx, tg) := h1
    cases e
    exact ⟨.long, 1, rfl, rfl, tw_1_161, by decide⟩
set_option maxRecDepth 100000 in
theorem en_L (l : Launch) : ∀ x en, pEnv P_L x = some en → mLink "ClothWithManLaw" x en ∧ mCtr l en ∧ (en.1.1 = 2 → en.2.2.2.2.2.2 = none) := fun x en h => mLook_all (l := N_L) (Q := fun x en => mLink "ClothWithManLaw" x en ∧ mCtr l en ∧ (en.1.1 = 2 → en.2.2.2.2.2.2 = none)) (fcC ⟨li_L_33, c_C_sign l, (fun h => by cases h)⟩ (fcC ⟨li_L_36, c_M_sign l, (fun h => by cases h)⟩ (fcC ⟨li_L_37, c_C_end l, (fun h => by cases h)⟩ (fcC ⟨li_L_41, c_M_end l, (fun h => by cases h)⟩ (fcC ⟨li_L_42, c_C_curve l, (fun h => by cases h)⟩ (fcC ⟨li_L_46, c_M_curve l, (fun h => by cases h)⟩ (fcC ⟨li_L_47, c_C_value l, (fun h => by cases h)⟩ (fcC ⟨li_L_50, c_M_value l, (fun h => by cases h)⟩ (fcC ⟨li_L_51, c_C_woven l, (fun h => by cases h)⟩ (fcC ⟨li_L_54, c_M_woven l, (fun h => by cases h)⟩ (fcC ⟨li_L_55, c_C_mend l, (fun h => by cases h)⟩ (fcC ⟨li_L_59, c_M_mend l, (fun h => by cases h)⟩ (fcC ⟨li_L_60, c_C_stuff l, (fun h => by cases h)⟩ (fcC ⟨li_L_64, c_M_stuff l, (fun h => by cases h)⟩ (fcC ⟨li_L_65, c_C_way l, (fun h => by cases h)⟩ (fcC ⟨li_L_69, c_M_way l, (fun h => by cases h)⟩ (fcC ⟨li_L_70, c_C_house l, (fun h => by cases h)⟩ (fcC ⟨li_L_74, c_M_house l, (fun h => by cases h)⟩ (fcC ⟨li_L_75, c_C_sheet l, (fun h => by cases h)⟩ (fcC ⟨li_L_79, c_M_sheet l, (fun h => by cases h)⟩ (fcC ⟨li_L_80, c_C_thread l, (fun h => by cases h)⟩ (fcC ⟨li_L_83, c_M_thread l, (fun h => by cases h)⟩ (fcC ⟨li_L_84, c_C_piece l, (fun h => by cases h)⟩ (fcC ⟨li_L_87, c_M_piece l, (fun h => by cases h)⟩ (fcC ⟨li_L_93, c_M_truth l, (fun h => by cases h)⟩ (fcC ⟨li_L_94, c_M_thrown l, (fun h => by cases h)⟩ (fcC ⟨li_L_97, c_C_count l, (fun h => by cases h)⟩ (fcC ⟨li_L_101, c_M_count l, (fun h => by cases h)⟩ (fcC ⟨li_L_104, c_M_draw l, (fun h => by cases h)⟩ (fcC ⟨li_L_107, c_M_counted l, (fun h => by cases h)⟩ (fcC ⟨li_L_108, c_C_likeness l, (fun h => by cases h)⟩ (fcC ⟨li_L_111, c_M_likeness l, (fun h => by cases h)⟩ (fcC ⟨li_L_112, c_C_years l, (fun h => by cases h)⟩ (fcC ⟨li_L_115, c_M_years l, (fun h => by cases h)⟩ (fcC ⟨li_L_116, c_C_likely l, (fun h => by cases h)⟩ (fcC ⟨li_L_119, c_M_likely l, (fun h => by cases h)⟩ (fcC ⟨li_L_120, c_C_within l, (fun h => by cases h)⟩ (fcC ⟨li_L_123, c_M_within l, (fun h => by cases h)⟩ (fcC ⟨li_L_124, c_C_between l, (fun h => by cases h)⟩ (fcC ⟨li_L_127, c_M_between l, (fun h => by cases h)⟩ (fcC ⟨li_L_128, c_C_apart l, (fun h => by cases h)⟩ (fcC ⟨li_L_131, c_M_apart l, (fun h => by cases h)⟩ (fcC ⟨li_L_132, c_C_slope l, (fun h => by cases h)⟩ (fcC ⟨li_L_135, c_M_slope l, (fun h => by cases h)⟩ (fcC ⟨li_L_136, c_C_lot l, (fun h => by cases h)⟩ (fcC ⟨li_L_139, c_M_lot l, (fun h => by cases h)⟩ (fcC ⟨li_L_140, c_C_odd l, (fun h => by cases h)⟩ (fcC ⟨li_L_143, c_M_odd l, (fun h => by cases h)⟩ (fcC ⟨li_L_144, c_C_younger l, (fun h => by cases h)⟩ (fcC ⟨li_L_147, c_M_younger l, (fun h => by cases h)⟩ (fcC ⟨li_L_148, c_C_must l, (fun h => by cases h)⟩ (fcC ⟨li_L_151, c_M_must l, (fun h => by cases h)⟩ (fcC ⟨li_L_152, c_C_story l, (fun h => by cases h)⟩ (fcC ⟨li_L_155, c_M_story l, (fun h => by cases h)⟩ (fcC ⟨li_L_156, c_C_faith l, (fun h => by cases h)⟩ (fcC ⟨li_L_159, c_M_faith l, (fun h => by cases h)⟩ (fcC ⟨li_L_163, c_M_would l, (fun h => by cases h)⟩ (fcC ⟨li_L_164, c_C_paper l, (fun h => by cases h)⟩ (fcC ⟨li_L_168, c_M_paper l, (fun h => by cases h)⟩ (fcC ⟨li_L_169, c_C_odds l, (fun h => by cases h)⟩ (fcC ⟨li_L_172, c_M_odds l, (fun h => by cases h)⟩ (fcC ⟨li_L_173, c_C_when l, (fun h => by cases h)⟩ (fcC ⟨li_L_176, c_M_when l, (fun h => by cases h)⟩ (fcC ⟨li_L_177, c_C_first l, (fun h => by cases h)⟩ (fcC ⟨li_L_180, c_M_first l, (fun h => by cases h)⟩ (fcC ⟨li_L_181, c_C_needs l, (fun h => by cases h)⟩ (fcC ⟨li_L_184, c_M_needs l, (fun h => by cases h)⟩ (fcC ⟨li_L_185, c_C_parts l, (fun h => by cases h)⟩ (fcC ⟨li_L_188, c_M_parts l, (fun h => by cases h)⟩ (fcC ⟨li_L_189, c_C_next l, (fun h => by cases h)⟩ (fcC ⟨li_L_192, c_M_next l, (fun h => by cases h)⟩ (fcC ⟨li_L_193, c_C_fewest l, (fun h => by cases h)⟩ (fcC ⟨li_L_196, c_M_fewest l, (fun h => by cases h)⟩ (fcC ⟨li_L_197, c_C_where l, (fun h => by cases h)⟩ (fcC ⟨li_L_200, c_M_where l, (fun h => by cases h)⟩ (fcC ⟨li_L_201, c_C_like l, (fun h => by cases h)⟩ (fcC ⟨li_L_204, c_M_like l, (fun h => by cases h)⟩ (fcC ⟨li_L_205, c_C_knew l, (fun h => by cases h)⟩ (fcC ⟨li_L_208, c_M_knew l, (fun h => by cases h)⟩ (fcC ⟨li_L_209, c_C_how l, (fun h => by cases h)⟩ (fcC ⟨li_L_212, c_M_how l, (fun h => by cases h)⟩ (fcC ⟨li_L_213, c_C_open l, (fun h => by cases h)⟩ (fcC ⟨li_L_216, c_M_open l, (fun h => by cases h)⟩ (fcC ⟨li_L_217, c_C_look l, (fun h => by cases h)⟩ (fcC ⟨li_L_220, c_M_look l, (fun h => by cases h)⟩ (fcC ⟨li_L_221, c_C_wanted l, (fun h => by cases h)⟩ (fcC ⟨li_L_225, c_M_wanted l, (fun h => by cases h)⟩ (fcC ⟨li_L_226, c_C_omits l, (fun h => by cases h)⟩ (fcC ⟨li_L_229, c_M_omits l, (fun h => by cases h)⟩ (fcC ⟨li_L_230, c_C_seed l, (fun h => by cases h)⟩ (fcC ⟨li_L_233, c_M_seed l, (fun h => by cases h)⟩ (fcC ⟨li_L_234, c_C_keep l, (fun h => by cases h)⟩ (fcC ⟨li_L_237, c_M_keep l, (fun h => by cases h)⟩ (fcC ⟨li_L_238, c_C_again l, (fun h => by cases h)⟩ (fcC ⟨li_L_241, c_M_again l, (fun h => by cases h)⟩ (fcC ⟨li_L_242, c_C_told l, (fun h => by cases h)⟩ (fcC ⟨li_L_245, c_M_told l, (fun h => by cases h)⟩ (fcC ⟨li_L_248, c_M_row l, (fun h => by cases h)⟩ fcN)))))))))))))))))))))))))))))))))))))))))))))))))))))))))))))))))))))))))))))))))))))))))))))))))) x en h
theorem ok_L (l : Launch) : mPOK l "ClothWithManLaw" code P_L := by
  refine ⟨tk_L, fun _ _ _ _ _ h => (by cases h), fun _ => ⟨fun _ h => (by cases h), fun _ h => (by cases h)⟩, en_L l, al_L, fun _ _ h => (by cases h), fun _ _ h => (by cases h), fu_L l⟩


