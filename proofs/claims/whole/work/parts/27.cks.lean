theorem mj_chkF_of {y b t : Nat} {is : List mI} (h1 : (mj_pcs y)[b]? = some t) (h2 : (mj_code y)[b]? = some is) (h3 : mj_chkB (mj_o y) (mj_ini y) (mj_ret y) (mj_max y) (mj_pcs y) (mj_cod y) (b + 1) t is = true) : mj_chkF y b = true := by
  unfold mj_chkF
  rw [h1, h2]
  exact h3
theorem mj_ck_151 : mj_chkM 151 := lt_s lt_0 (mj_chkF_of (t := 0) (is := (mk_151_0 ++ (mk_151_1 ++ (mk_151_2 ++ (mk_151_3 ++ (mk_151_4 ++ (mk_151_5 ++ (mk_151_6 ++ (mk_151_7 ++ (mk_151_8 ++ (mk_151_9 ++ (mk_151_10 ++ (mk_151_11 ++ mk_151_12))))))))))))) rfl rfl (mj_chkB_app mk_151_0 0 mj_cp_0 (mj_chkB_app mk_151_1 116 mj_cp_1 (mj_chkB_app mk_151_2 224 mj_cp_2 (mj_chkB_app mk_151_3 332 mj_cp_3 (mj_chkB_app mk_151_4 438 mj_cp_4 (mj_chkB_app mk_151_5 545 mj_cp_5 (mj_chkB_app mk_151_6 657 mj_cp_6 (mj_chkB_app mk_151_7 767 mj_cp_7 (mj_chkB_app mk_151_8 917 mj_cp_8 (mj_chkB_app mk_151_9 1025 mj_cp_9 (mj_chkB_app mk_151_10 1135 mj_cp_10 (mj_chkB_app mk_151_11 1243 mj_cp_11 mj_cp_12)))))))))))))
theorem mj_cl_0 : mj_chkF 282 0 = true := by decide +kernel
theorem mj_cl_1 : mj_chkF 282 1 = true := by decide +kernel
theorem mj_cl_2 : mj_chkF 282 2 = true := by decide +kernel
theorem mj_cl_3 : mj_chkF 282 3 = true := by decide +kernel
theorem mj_cl_4 : mj_chkF 282 4 = true := by decide +kernel
theorem mj_cl_5 : mj_chkF 282 5 = true := by decide +kernel
theorem mj_cl_6 : mj_chkF 282 6 = true := by decide +kernel
theorem mj_cl_7 : mj_chkF 282 7 = true := by decide +kernel
theorem mj_cl_8 : mj_chkF 282 8 = true := by decide +kernel
theorem mj_cl_9 : mj_chkF 282 9 = true := by decide +kernel
theorem mj_cl_10 : mj_chkF 282 10 = true := by decide +kernel
theorem mj_cl_11 : mj_chkF 282 11 = true := by decide +kernel
theorem mj_cl_12 : mj_chkF 282 12 = true := by decide +kernel
theorem mj_cl_13 : mj_chkF 282 13 = true := by decide +kernel
theorem mj_cl_14 : mj_chkF 282 14 = true := by decide +kernel
theorem mj_cl_15 : mj_chkF 282 15 = true := by decide +kernel
theorem mj_cl_16 : mj_chkF 282 16 = true := by decide +kernel
theorem mj_cl_17 : mj_chkF 282 17 = true := by decide +kernel
theorem mj_cl_18 : mj_chkF 282 18 = true := by decide +kernel
theorem mj_cl_19 : mj_chkF 282 19 = true := by decide +kernel
theorem mj_cl_20 : mj_chkF 282 20 = true := by decide +kernel
theorem mj_cl_21 : mj_chkF 282 21 = true := by decide +kernel
theorem mj_cl_22 : mj_chkF 282 22 = true := by decide +kernel
theorem mj_cl_23 : mj_chkF 282 23 = true := by decide +kernel
theorem mj_cl_24 : mj_chkF 282 24 = true := by decide +kernel
theorem mj_cl_25 : mj_chkF 282 25 = true := by decide +kernel
theorem mj_cl_26 : mj_chkF 282 26 = true := by decide +kernel
theorem mj_cl_27 : mj_chkF 282 27 = true := by decide +kernel
theorem mj_cl_28 : mj_chkF 282 28 = true := by decide +kernel
theorem mj_cl_29 : mj_chkF 282 29 = true := by decide +kernel
theorem mj_cl_30 : mj_chkF 282 30 = true := by decide +kernel
theorem mj_cl_31 : mj_chkF 282 31 = true := by decide +kernel
theorem mj_cl_32 : mj_chkF 282 32 = true := by decide +kernel
theorem mj_cl_33 : mj_chkF 282 33 = true := by decide +kernel
theorem mj_cl_34 : mj_chkF 282 34 = true := by decide +kernel
theorem mj_cl_35 : mj_chkF 282 35 = true := by decide +kernel
theorem mj_ck_282 : mj_chkM 282 := lt_s (lt_s (lt_s (lt_s (lt_s (lt_s (lt_s (lt_s (lt_s (lt_s (lt_s (lt_s (lt_s (lt_s (lt_s (lt_s (lt_s (lt_s (lt_s (lt_s (lt_s (lt_s (lt_s (lt_s (lt_s (lt_s (lt_s (lt_s (lt_s (lt_s (lt_s (lt_s (lt_s (lt_s (lt_s (lt_s (lt_0) mj_cl_0) mj_cl_1) mj_cl_2) mj_cl_3) mj_cl_4) mj_cl_5) mj_cl_6) mj_cl_7) mj_cl_8) mj_cl_9) mj_cl_10) mj_cl_11) mj_cl_12) mj_cl_13) mj_cl_14) mj_cl_15) mj_cl_16) mj_cl_17) mj_cl_18) mj_cl_19) mj_cl_20) mj_cl_21) mj_cl_22) mj_cl_23) mj_cl_24) mj_cl_25) mj_cl_26) mj_cl_27) mj_cl_28) mj_cl_29) mj_cl_30) mj_cl_31) mj_cl_32) mj_cl_33) mj_cl_34) mj_cl_35
theorem mj_cks40 : ∀ y, y < 40 → mj_chkM y := lt_s (lt_s (lt_s (lt_s (lt_s (lt_s (lt_s (lt_s (lt_s (lt_s (lt_s (lt_s (lt_s (lt_s (lt_s (lt_s (lt_s (lt_s (lt_s (lt_s (lt_s (lt_s (lt_s (lt_s (lt_s (lt_s (lt_s (lt_s (lt_s (lt_s (lt_s (lt_s (lt_s (lt_s (lt_s (lt_s (lt_s (lt_s (lt_s (lt_s (lt_0) mj_ck_0) mj_ck_1) mj_ck_2) mj_ck_3) mj_ck_4) mj_ck_5) mj_ck_6) mj_ck_7) mj_ck_8) mj_ck_9) mj_ck_10) mj_ck_11) mj_ck_12) mj_ck_13) mj_ck_14) mj_ck_15) mj_ck_16) mj_ck_17) mj_ck_18) mj_ck_19) mj_ck_20) mj_ck_21) mj_ck_22) mj_ck_23) mj_ck_24) mj_ck_25) mj_ck_26) mj_ck_27) mj_ck_28) mj_ck_29) mj_ck_30) mj_ck_31) mj_ck_32) mj_ck_33) mj_ck_34) mj_ck_35) mj_ck_36) mj_ck_37) mj_ck_38) mj_ck_39
theorem mj_cks80 : ∀ y, y < 80 → mj_chkM y := lt_s (lt_s (lt_s (lt_s (lt_s (lt_s (lt_s (lt_s (lt_s (lt_s (lt_s (lt_s (lt_s (lt_s (lt_s (lt_s (lt_s (lt_s (lt_s (lt_s (lt_s (lt_s (lt_s (lt_s (lt_s (lt_s (lt_s (lt_s (lt_s (lt_s (lt_s (lt_s (lt_s (lt_s (lt_s (lt_s (lt_s (lt_s (lt_s (lt_s (mj_cks40) mj_ck_40) mj_ck_41) mj_ck_42) mj_ck_43) mj_ck_44) mj_ck_45) mj_ck_46) mj_ck_47) mj_ck_48) mj_ck_49) mj_ck_50) mj_ck_51) mj_ck_52) mj_ck_53) mj_ck_54) mj_ck_55) mj_ck_56) mj_ck_57) mj_ck_58) mj_ck_59) mj_ck_60) mj_ck_61) mj_ck_62) mj_ck_63) mj_ck_64) mj_ck_65) mj_ck_66) mj_ck_67) mj_ck_68) mj_ck_69) mj_ck_70) mj_ck_71) mj_ck_72) mj_ck_73) mj_ck_74) mj_ck_75) mj_ck_76) mj_ck_77) mj_ck_78) mj_ck_79
theorem mj_cks120 : ∀ y, y < 120 → mj_chkM y := lt_s (lt_s (lt_s (lt_s (lt_s (lt_s (lt_s (lt_s (lt_s (lt_s (lt_s (lt_s (lt_s (lt_s (lt_s (lt_s (lt_s (lt_s (lt_s (lt_s (lt_s (lt_s (lt_s (lt_s (lt_s (lt_s (lt_s (lt_s (lt_s (lt_s (lt_s (lt_s (lt_s (lt_s (lt_s (lt_s (lt_s (lt_s (lt_s (lt_s (mj_cks80) mj_ck_80) mj_ck_81) mj_ck_82) mj_ck_83) mj_ck_84) mj_ck_85) mj_ck_86) mj_ck_87) mj_ck_88) mj_ck_89) mj_ck_90) mj_ck_91) mj_ck_92) mj_ck_93) mj_ck_94) mj_ck_95) mj_ck_96) mj_ck_97) mj_ck_98) mj_ck_99) mj_ck_100) mj_ck_101) mj_ck_102) mj_ck_103) mj_ck_104) mj_ck_105) mj_ck_106) mj_ck_107) mj_ck_108) mj_ck_109) mj_ck_110) mj_ck_111) mj_ck_112) mj_ck_113) mj_ck_114) mj_ck_115) mj_ck_116) mj_ck_117) mj_ck_118) mj_ck_119
theorem mj_cks160 : ∀ y, y < 160 → mj_chkM y := lt_s (lt_s (lt_s (lt_s (lt_s (lt_s (lt_s (lt_s (lt_s (lt_s (lt_s (lt_s (lt_s (lt_s (lt_s (lt_s (lt_s (lt_s (lt_s (lt_s (lt_s (lt_s (lt_s (lt_s (lt_s (lt_s (lt_s (lt_s (lt_s (lt_s (lt_s (lt_s (lt_s (lt_s (lt_s (lt_s (lt_s (lt_s (lt_s (lt_s (mj_cks120) mj_ck_120) mj_ck_121) mj_ck_122) mj_ck_123) mj_ck_124) mj_ck_125) mj_ck_126) mj_ck_127) mj_ck_128) mj_ck_129) mj_ck_130) mj_ck_131) mj_ck_132) mj_ck_133) mj_ck_134) mj_ck_135) mj_ck_136) mj_ck_137) mj_ck_138) mj_ck_139) mj_ck_140) mj_ck_141) mj_ck_142) mj_ck_143) mj_ck_144) mj_ck_145) mj_ck_146) mj_ck_147) mj_ck_148) mj_ck_149) mj_ck_150) mj_ck_151) mj_ck_152) mj_ck_153) mj_ck_154) mj_ck_155) mj_ck_156) mj_ck_157) mj_ck_158) mj_ck_159
theorem mj_cks200 : ∀ y, y < 200 → mj_chkM y := lt_s (lt_s (lt_s (lt_s (lt_s (lt_s (lt_s (lt_s (lt_s (lt_s (lt_s (lt_s (lt_s (lt_s (lt_s (lt_s (lt_s (lt_s (lt_s (lt_s (lt_s (lt_s (lt_s (lt_s (lt_s (lt_s (lt_s (lt_s (lt_s (lt_s (lt_s (lt_s (lt_s (lt_s (lt_s (lt_s (lt_s (lt_s (lt_s (lt_s (mj_cks160) mj_ck_160) mj_ck_161) mj_ck_162) mj_ck_163) mj_ck_164) mj_ck_165) mj_ck_166) mj_ck_167) mj_ck_168) mj_ck_169) mj_ck_170) mj_ck_171) mj_ck_172) mj_ck_173) mj_ck_174) mj_ck_175) mj_ck_176) mj_ck_177) mj_ck_178) mj_ck_179) mj_ck_180) mj_ck_181) mj_ck_182) mj_ck_183) mj_ck_184) mj_ck_185) mj_ck_186) mj_ck_187) mj_ck_188) mj_ck_189) mj_ck_190) mj_ck_191) mj_ck_192) mj_ck_193) mj_ck_194) mj_ck_195) mj_ck_196) mj_ck_197) mj_ck_198) mj_ck_199
theorem mj_cks240 : ∀ y, y < 240 → mj_chkM y := lt_s (lt_s (lt_s (lt_s (lt_s (lt_s (lt_s (lt_s (lt_s (lt_s (lt_s (lt_s (lt_s (lt_s (lt_s (lt_s (lt_s (lt_s (lt_s (lt_s (lt_s (lt_s (lt_s (lt_s (lt_s (lt_s (lt_s (lt_s (lt_s (lt_s (lt_s (lt_s (lt_s (lt_s (lt_s (lt_s (lt_s (lt_s (lt_s (lt_s (mj_cks200) mj_ck_200) mj_ck_201) mj_ck_202) mj_ck_203) mj_ck_204) mj_ck_205) mj_ck_206) mj_ck_207) mj_ck_208) mj_ck_209) mj_ck_210) mj_ck_211) mj_ck_212) mj_ck_213) mj_ck_214) mj_ck_215) mj_ck_216) mj_ck_217) mj_ck_218) mj_ck_219) mj_ck_220) mj_ck_221) mj_ck_222) mj_ck_223) mj_ck_224) mj_ck_225) mj_ck_226) mj_ck_227) mj_ck_228) mj_ck_229) mj_ck_230) mj_ck_231) mj_ck_232) mj_ck_233) mj_ck_234) mj_ck_235) mj_ck_236) mj_ck_237) mj_ck_238) mj_ck_239
theorem mj_cks280 : ∀ y, y < 280 → mj_chkM y := lt_s (lt_s (lt_s (lt_s (lt_s (lt_s (lt_s (lt_s (lt_s (lt_s (lt_s (lt_s (lt_s (lt_s (lt_s (lt_s (lt_s (lt_s (lt_s (lt_s (lt_s (lt_s (lt_s (lt_s (lt_s (lt_s (lt_s (lt_s (lt_s (lt_s (lt_s (lt_s (lt_s (lt_s (lt_s (lt_s (lt_s (lt_s (lt_s (lt_s (mj_cks240) mj_ck_240) mj_ck_241) mj_ck_242) mj_ck_243) mj_ck_244) mj_ck_245) mj_ck_246) mj_ck_247) mj_ck_248) mj_ck_249) mj_ck_250) mj_ck_251) mj_ck_252) mj_ck_253) mj_ck_254) mj_ck_255) mj_ck_256) mj_ck_257) mj_ck_258) mj_ck_259) mj_ck_260) mj_ck_261) mj_ck_262) mj_ck_263) mj_ck_264) mj_ck_265) mj_ck_266) mj_ck_267) mj_ck_268) mj_ck_269) mj_ck_270) mj_ck_271) mj_ck_272) mj_ck_273) mj_ck_274) mj_ck_275) mj_ck_276) mj_ck_277) mj_ck_278) mj_ck_279
theorem mj_cks283 : ∀ y, y < 283 → mj_chkM y := lt_s (lt_s (lt_s (mj_cks280) mj_ck_280) mj_ck_281) mj_ck_282
theorem mj_ons : ∀ y, y < 283 → mj_on (mj_o y) = mj_own y := by decide +kernel
