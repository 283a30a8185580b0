/-! Written by wip/p2/py/gen22.py: all methods, exceptions, array classes. -/
set_option maxRecDepth 100000 in
theorem cz_allM_ok : cz_allM := by
  intro y M h
  have hm : M ∈ cz_ms := List.mem_of_getElem? h
  have hall : ∀ M ∈ cz_ms, cz_okM M := by
    show ∀ M ∈ [cm_0, cm_1, cm_2, cm_3, cm_4, cm_5, cm_6, cm_7, cm_8, cm_9, cm_10, cm_11, cm_12, cm_13, cm_14, cm_15, cm_16, cm_17, cm_18, cm_19, cm_20, cm_21, cm_22, cm_23, cm_24, cm_25, cm_26, cm_27, cm_28, cm_29, cm_30, cm_31, cm_32, cm_33, cm_34, cm_35, cm_36, cm_37, cm_38, cm_39, cm_40, cm_41, cm_42, cm_43, cm_44, cm_45, cm_46, cm_47, cm_48, cm_49, cm_50, cm_51, cm_52, cm_53, cm_54, cm_55, cm_56, cm_57, cm_58, cm_59, cm_60, cm_61, cm_62, cm_63, cm_64, cm_65, cm_66, cm_67, cm_68, cm_69, cm_70, cm_71, cm_72, cm_73, cm_74, cm_75, cm_76, cm_77, cm_78, cm_79, cm_80, cm_81, cm_82, cm_83, cm_84, cm_85, cm_86, cm_87, cm_88, cm_89, cm_90, cm_91, cm_92, cm_93, cm_94, cm_95, cm_96, cm_97, cm_98, cm_99, cm_100, cm_101, cm_102, cm_103, cm_104, cm_105, cm_106, cm_107, cm_108, cm_109, cm_110, cm_111, cm_112, cm_113, cm_114, cm_115, cm_116, cm_117, cm_118, cm_119, cm_120, cm_121, cm_122, cm_123, cm_124, cm_125, cm_126, cm_127, cm_128, cm_129, cm_130, cm_131, cm_132, cm_133, cm_134, cm_135, cm_136, cm_137, cm_138, cm_139, cm_140, cm_141, cm_142, cm_143, cm_144, cm_145, cm_146, cm_147, cm_148, cm_149, cm_150, cm_151, cm_152, cm_153, cm_154, cm_155, cm_156, cm_157, cm_158, cm_159, cm_160, cm_161, cm_162, cm_163, cm_164, cm_165, cm_166, cm_167, cm_168, cm_169, cm_170, cm_171, cm_172, cm_173, cm_174, cm_175, cm_176, cm_177, cm_178, cm_179, cm_180, cm_181, cm_182, cm_183, cm_184, cm_185, cm_186, cm_187, cm_188, cm_189, cm_190, cm_191, cm_192, cm_193, cm_194, cm_195, cm_196, cm_197, cm_198, cm_199, cm_200, cm_201, cm_202, cm_203, cm_204, cm_205, cm_206, cm_207, cm_208, cm_209, cm_210, cm_211, cm_212, cm_213, cm_214, cm_215, cm_216, cm_217, cm_218, cm_219, cm_220, cm_221, cm_222, cm_223, cm_224, cm_225, cm_226, cm_227, cm_228, cm_229, cm_230, cm_231, cm_232, cm_233, cm_234, cm_235, cm_236, cm_237, cm_238, cm_239, cm_240, cm_241, cm_242, cm_243, cm_244, cm_245, cm_246, cm_247, cm_248, cm_249, cm_250, cm_251, cm_252, cm_253, cm_254, cm_255, cm_256, cm_257, cm_258, cm_259, cm_260, cm_261, cm_262, cm_263, cm_264, cm_265, cm_266, cm_267, cm_268, cm_269, cm_270, cm_271, cm_272, cm_273, cm_274, cm_275, cm_276, cm_277, cm_278, cm_279, cm_280, cm_281, cm_282, cm_283, cm_284, cm_285, cm_286, cm_287, cm_288, cm_289, cm_290, cm_291, cm_292, cm_293, cm_294, cm_295, cm_296, cm_297, cm_298, cm_299, cm_300, cm_301, cm_302, cm_303, cm_304, cm_305, cm_306, cm_307, cm_308, cm_309, cm_310, cm_311, cm_312, cm_313, cm_314, cm_315, cm_316, cm_317, cm_318, cm_319, cm_320, cm_321, cm_322, cm_323, cm_324, cm_325, cm_326, cm_327, cm_328, cm_329, cm_330, cm_331, cm_332, cm_333, cm_334, cm_335, cm_336, cm_337, cm_338, cm_339], cz_okM M
    exact List.forall_mem_cons.mpr ⟨vO_0, List.forall_mem_cons.mpr ⟨vO_1, List.forall_mem_cons.mpr ⟨vO_2, List.forall_mem_cons.mpr ⟨vO_3, List.forall_mem_cons.mpr ⟨vO_4, List.forall_mem_cons.mpr ⟨vO_5, List.forall_mem_cons.mpr ⟨vO_6, List.forall_mem_cons.mpr ⟨vO_7, List.forall_mem_cons.mpr ⟨vO_8, List.forall_mem_cons.mpr ⟨vO_9, List.forall_mem_cons.mpr ⟨vO_10, List.forall_mem_cons.mpr ⟨vO_11, List.forall_mem_cons.mpr ⟨vO_12, List.forall_mem_cons.mpr ⟨vO_13, List.forall_mem_cons.mpr ⟨vO_14, List.forall_mem_cons.mpr ⟨vO_15, List.forall_mem_cons.mpr ⟨vO_16, List.forall_mem_cons.mpr ⟨vO_17, List.forall_mem_cons.mpr ⟨vO_18, List.forall_mem_cons.mpr ⟨vO_19, List.forall_mem_cons.mpr ⟨vO_20, List.forall_mem_cons.mpr ⟨vO_21, List.forall_mem_cons.mpr ⟨vO_22, List.forall_mem_cons.mpr ⟨vO_23, List.forall_mem_cons.mpr ⟨vO_24, List.forall_mem_cons.mpr ⟨vO_25, List.forall_mem_cons.mpr ⟨vO_26, List.forall_mem_cons.mpr ⟨vO_27, List.forall_mem_cons.mpr ⟨vO_28, List.forall_mem_cons.mpr ⟨vO_29, List.forall_mem_cons.mpr ⟨vO_30, List.forall_mem_cons.mpr ⟨vO_31, List.forall_mem_cons.mpr ⟨vO_32, List.forall_mem_cons.mpr ⟨vO_33, List.forall_mem_cons.mpr ⟨vO_34, List.forall_mem_cons.mpr ⟨vO_35, List.forall_mem_cons.mpr ⟨vO_36, List.forall_mem_cons.mpr ⟨vO_37, List.forall_mem_cons.mpr ⟨vO_38, List.forall_mem_cons.mpr ⟨vO_39, List.forall_mem_cons.mpr ⟨vO_40, List.forall_mem_cons.mpr ⟨vO_41, List.forall_mem_cons.mpr ⟨vO_42, List.forall_mem_cons.mpr ⟨vO_43, List.forall_mem_cons.mpr ⟨vO_44, List.forall_mem_cons.mpr ⟨vO_45, List.forall_mem_cons.mpr ⟨vO_46, List.forall_mem_cons.mpr ⟨vO_47, List.forall_mem_cons.mpr ⟨vO_48, List.forall_mem_cons.mpr ⟨vO_49, List.forall_mem_cons.mpr ⟨vO_50, List.forall_mem_cons.mpr ⟨vO_51, List.forall_mem_cons.mpr ⟨vO_52, List.forall_mem_cons.mpr ⟨vO_53, List.forall_mem_cons.mpr ⟨vO_54, List.forall_mem_cons.mpr ⟨vO_55, List.forall_mem_cons.mpr ⟨vO_56, List.forall_mem_cons.mpr ⟨vO_57, List.forall_mem_cons.mpr ⟨vO_58, List.forall_mem_cons.mpr ⟨vO_59, List.forall_mem_cons.mpr ⟨vO_60, List.forall_mem_cons.mpr ⟨vO_61, List.forall_mem_cons.mpr ⟨vO_62, List.forall_mem_cons.mpr ⟨vO_63, List.forall_mem_cons.mpr ⟨vO_64, List.forall_mem_cons.mpr ⟨vO_65, List.forall_mem_cons.mpr ⟨vO_66, List.forall_mem_cons.mpr ⟨vO_67, List.forall_mem_cons.mpr ⟨vO_68, List.forall_mem_cons.mpr ⟨vO_69, List.forall_mem_cons.mpr ⟨vO_70, List.forall_mem_cons.mpr ⟨vO_71, List.forall_mem_cons.mpr ⟨vO_72, List.forall_mem_cons.mpr ⟨vO_73, List.forall_mem_cons.mpr ⟨vO_74, List.forall_mem_cons.mpr ⟨vO_75, List.forall_mem_cons.mpr ⟨vO_76, List.forall_mem_cons.mpr ⟨vO_77, List.forall_mem_cons.mpr ⟨vO_78, List.forall_mem_cons.mpr ⟨vO_79, List.forall_mem_cons.mpr ⟨vO_80, List.forall_mem_cons.mpr ⟨vO_81, List.forall_mem_cons.mpr ⟨vO_82, List.forall_mem_cons.mpr ⟨vO_83, List.forall_mem_cons.mpr ⟨vO_84, List.forall_mem_cons.mpr ⟨vO_85, List.forall_mem_cons.mpr ⟨vO_86, List.forall_mem_cons.mpr ⟨vO_87, List.forall_mem_cons.mpr ⟨vO_88, List.forall_mem_cons.mpr ⟨vO_89, List.forall_mem_cons.mpr ⟨vO_90, List.forall_mem_cons.mpr ⟨vO_91, List.forall_mem_cons.mpr ⟨vO_92, List.forall_mem_cons.mpr ⟨vO_93, List.forall_mem_cons.mpr ⟨vO_94, List.forall_mem_cons.mpr ⟨vO_95, List.forall_mem_cons.mpr ⟨vO_96, List.forall_mem_cons.mpr ⟨vO_97, List.forall_mem_cons.mpr ⟨vO_98, List.forall_mem_cons.mpr ⟨vO_99, List.forall_mem_cons.mpr ⟨vO_100, List.forall_mem_cons.mpr ⟨vO_101, List.forall_mem_cons.mpr ⟨vO_102, List.forall_mem_cons.mpr ⟨vO_103, List.forall_mem_cons.mpr ⟨vO_104, List.forall_mem_cons.mpr ⟨vO_105, List.forall_mem_cons.mpr ⟨vO_106, List.forall_mem_cons.mpr ⟨vO_107, List.forall_mem_cons.mpr ⟨vO_108, List.forall_mem_cons.mpr ⟨vO_109, List.forall_mem_cons.mpr ⟨vO_110, List.forall_mem_cons.mpr ⟨vO_111, List.forall_mem_cons.mpr ⟨vO_112, List.forall_mem_cons.mpr ⟨vO_113, List.forall_mem_cons.mpr ⟨vO_114, List.forall_mem_cons.mpr ⟨vO_115, List.forall_mem_cons.mpr ⟨vO_116, List.forall_mem_cons.mpr ⟨vO_117, List.forall_mem_cons.mpr ⟨vO_118, List.forall_mem_cons.mpr ⟨vO_119, List.forall_mem_cons.mpr ⟨vO_120, List.forall_mem_cons.mpr ⟨vO_121, List.forall_mem_cons.mpr ⟨vO_122, List.forall_mem_cons.mpr ⟨vO_123, List.forall_mem_cons.mpr ⟨vO_124, List.forall_mem_cons.mpr ⟨vO_125, List.forall_mem_cons.mpr ⟨vO_126, List.forall_mem_cons.mpr ⟨vO_127, List.forall_mem_cons.mpr ⟨vO_128, List.forall_mem_cons.mpr ⟨vO_129, List.forall_mem_cons.mpr ⟨vO_130, List.forall_mem_cons.mpr ⟨vO_131, List.forall_mem_cons.mpr ⟨vO_132, List.forall_mem_cons.mpr ⟨vO_133, List.forall_mem_cons.mpr ⟨vO_134, List.forall_mem_cons.mpr ⟨vO_135, List.forall_mem_cons.mpr ⟨vO_136, List.forall_mem_cons.mpr ⟨vO_137, List.forall_mem_cons.mpr ⟨vO_138, List.forall_mem_cons.mpr ⟨vO_139, List.forall_mem_cons.mpr ⟨vO_140, List.forall_mem_cons.mpr ⟨vO_141, List.forall_mem_cons.mpr ⟨vO_142, List.forall_mem_cons.mpr ⟨vO_143, List.forall_mem_cons.mpr ⟨vO_144, List.forall_mem_cons.mpr ⟨vO_145, List.forall_mem_cons.mpr ⟨vO_146, List.forall_mem_cons.mpr ⟨vO_147, List.forall_mem_cons.mpr ⟨vO_148, List.forall_mem_cons.mpr ⟨vO_149, List.forall_mem_cons.mpr ⟨vO_150, List.forall_mem_cons.mpr ⟨vO_151, List.forall_mem_cons.mpr ⟨vO_152, List.forall_mem_cons.mpr ⟨vO_153, List.forall_mem_cons.mpr ⟨vO_154, List.forall_mem_cons.mpr ⟨vO_155, List.forall_mem_cons.mpr ⟨vO_156, List.forall_mem_cons.mpr ⟨vO_157, List.forall_mem_cons.mpr ⟨vO_158, List.forall_mem_cons.mpr ⟨vO_159, List.forall_mem_cons.mpr ⟨vO_160, List.forall_mem_cons.mpr ⟨vO_161, List.forall_mem_cons.mpr ⟨vO_162, List.forall_mem_cons.mpr ⟨vO_163, List.forall_mem_cons.mpr ⟨vO_164, List.forall_mem_cons.mpr ⟨vO_165, List.forall_mem_cons.mpr ⟨vO_166, List.forall_mem_cons.mpr ⟨vO_167, List.forall_mem_cons.mpr ⟨vO_168, List.forall_mem_cons.mpr ⟨vO_169, List.forall_mem_cons.mpr ⟨vO_170, List.forall_mem_cons.mpr ⟨vO_171, List.forall_mem_cons.mpr ⟨vO_172, List.forall_mem_cons.mpr ⟨vO_173, List.forall_mem_cons.mpr ⟨vO_174, List.forall_mem_cons.mpr ⟨vO_175, List.forall_mem_cons.mpr ⟨vO_176, List.forall_mem_cons.mpr ⟨vO_177, List.forall_mem_cons.mpr ⟨vO_178, List.forall_mem_cons.mpr ⟨vO_179, List.forall_mem_cons.mpr ⟨vO_180, List.forall_mem_cons.mpr ⟨vO_181, List.forall_mem_cons.mpr ⟨vO_182, List.forall_mem_cons.mpr ⟨vO_183, List.forall_mem_cons.mpr ⟨vO_184, List.forall_mem_cons.mpr ⟨vO_185, List.forall_mem_cons.mpr ⟨vO_186, List.forall_mem_cons.mpr ⟨vO_187, List.forall_mem_cons.mpr ⟨vO_188, List.forall_mem_cons.mpr ⟨vO_189, List.forall_mem_cons.mpr ⟨vO_190, List.forall_mem_cons.mpr ⟨vO_191, List.forall_mem_cons.mpr ⟨vO_192, List.forall_mem_cons.mpr ⟨vO_193, List.forall_mem_cons.mpr ⟨vO_194, List.forall_mem_cons.mpr ⟨vO_195, List.forall_mem_cons.mpr ⟨vO_196, List.forall_mem_cons.mpr ⟨vO_197, List.forall_mem_cons.mpr ⟨vO_198, List.forall_mem_cons.mpr ⟨vO_199, List.forall_mem_cons.mpr ⟨vO_200, List.forall_mem_cons.mpr ⟨vO_201, List.forall_mem_cons.mpr ⟨vO_202, List.forall_mem_cons.mpr ⟨vO_203, List.forall_mem_cons.mpr ⟨vO_204, List.forall_mem_cons.mpr ⟨vO_205, List.forall_mem_cons.mpr ⟨vO_206, List.forall_mem_cons.mpr ⟨vO_207, List.forall_mem_cons.mpr ⟨vO_208, List.forall_mem_cons.mpr ⟨vO_209, List.forall_mem_cons.mpr ⟨vO_210, List.forall_mem_cons.mpr ⟨vO_211, List.forall_mem_cons.mpr ⟨vO_212, List.forall_mem_cons.mpr ⟨vO_213, List.forall_mem_cons.mpr ⟨vO_214, List.forall_mem_cons.mpr ⟨vO_215, List.forall_mem_cons.mpr ⟨vO_216, List.forall_mem_cons.mpr ⟨vO_217, List.forall_mem_cons.mpr ⟨vO_218, List.forall_mem_cons.mpr ⟨vO_219, List.forall_mem_cons.mpr ⟨vO_220, List.forall_mem_cons.mpr ⟨vO_221, List.forall_mem_cons.mpr ⟨vO_222, List.forall_mem_cons.mpr ⟨vO_223, List.forall_mem_cons.mpr ⟨vO_224, List.forall_mem_cons.mpr ⟨vO_225, List.forall_mem_cons.mpr ⟨vO_226, List.forall_mem_cons.mpr ⟨vO_227, List.forall_mem_cons.mpr ⟨vO_228, List.forall_mem_cons.mpr ⟨vO_229, List.forall_mem_cons.mpr ⟨vO_230, List.forall_mem_cons.mpr ⟨vO_231, List.forall_mem_cons.mpr ⟨vO_232, List.forall_mem_cons.mpr ⟨vO_233, List.forall_mem_cons.mpr ⟨vO_234, List.forall_mem_cons.mpr ⟨vO_235, List.forall_mem_cons.mpr ⟨vO_236, List.forall_mem_cons.mpr ⟨vO_237, List.forall_mem_cons.mpr ⟨vO_238, List.forall_mem_cons.mpr ⟨vO_239, List.forall_mem_cons.mpr ⟨vO_240, List.forall_mem_cons.mpr ⟨vO_241, List.forall_mem_cons.mpr ⟨vO_242, List.forall_mem_cons.mpr ⟨vO_243, List.forall_mem_cons.mpr ⟨vO_244, List.forall_mem_cons.mpr ⟨vO_245, List.forall_mem_cons.mpr ⟨vO_246, List.forall_mem_cons.mpr ⟨vO_247, List.forall_mem_cons.mpr ⟨vO_248, List.forall_mem_cons.mpr ⟨vO_249, List.forall_mem_cons.mpr ⟨vO_250, List.forall_mem_cons.mpr ⟨vO_251, List.forall_mem_cons.mpr ⟨vO_252, List.forall_mem_cons.mpr ⟨vO_253, List.forall_mem_cons.mpr ⟨vO_254, List.forall_mem_cons.mpr ⟨vO_255, List.forall_mem_cons.mpr ⟨vO_256, List.forall_mem_cons.mpr ⟨vO_257, List.forall_mem_cons.mpr ⟨vO_258, List.forall_mem_cons.mpr ⟨vO_259, List.forall_mem_cons.mpr ⟨vO_260, List.forall_mem_cons.mpr ⟨vO_261, List.forall_mem_cons.mpr ⟨vO_262, List.forall_mem_cons.mpr ⟨vO_263, List.forall_mem_cons.mpr ⟨vO_264, List.forall_mem_cons.mpr ⟨vO_265, List.forall_mem_cons.mpr ⟨vO_266, List.forall_mem_cons.mpr ⟨vO_267, List.forall_mem_cons.mpr ⟨vO_268, List.forall_mem_cons.mpr ⟨vO_269, List.forall_mem_cons.mpr ⟨vO_270, List.forall_mem_cons.mpr ⟨vO_271, List.forall_mem_cons.mpr ⟨vO_272, List.forall_mem_cons.mpr ⟨vO_273, List.forall_mem_cons.mpr ⟨vO_274, List.forall_mem_cons.mpr ⟨vO_275, List.forall_mem_cons.mpr ⟨vO_276, List.forall_mem_cons.mpr ⟨vO_277, List.forall_mem_cons.mpr ⟨vO_278, List.forall_mem_cons.mpr ⟨vO_279, List.forall_mem_cons.mpr ⟨vO_280, List.forall_mem_cons.mpr ⟨vO_281, List.forall_mem_cons.mpr ⟨vO_282, List.forall_mem_cons.mpr ⟨vO_283, List.forall_mem_cons.mpr ⟨vO_284, List.forall_mem_cons.mpr ⟨vO_285, List.forall_mem_cons.mpr ⟨vO_286, List.forall_mem_cons.mpr ⟨vO_287, List.forall_mem_cons.mpr ⟨vO_288, List.forall_mem_cons.mpr ⟨vO_289, List.forall_mem_cons.mpr ⟨vO_290, List.forall_mem_cons.mpr ⟨vO_291, List.forall_mem_cons.mpr ⟨vO_292, List.forall_mem_cons.mpr ⟨vO_293, List.forall_mem_cons.mpr ⟨vO_294, List.forall_mem_cons.mpr ⟨vO_295, List.forall_mem_cons.mpr ⟨vO_296, List.forall_mem_cons.mpr ⟨vO_297, List.forall_mem_cons.mpr ⟨vO_298, List.forall_mem_cons.mpr ⟨vO_299, List.forall_mem_cons.mpr ⟨vO_300, List.forall_mem_cons.mpr ⟨vO_301, List.forall_mem_cons.mpr ⟨vO_302, List.forall_mem_cons.mpr ⟨vO_303, List.forall_mem_cons.mpr ⟨vO_304, List.forall_mem_cons.mpr ⟨vO_305, List.forall_mem_cons.mpr ⟨vO_306, List.forall_mem_cons.mpr ⟨vO_307, List.forall_mem_cons.mpr ⟨vO_308, List.forall_mem_cons.mpr ⟨vO_309, List.forall_mem_cons.mpr ⟨vO_310, List.forall_mem_cons.mpr ⟨vO_311, List.forall_mem_cons.mpr ⟨vO_312, List.forall_mem_cons.mpr ⟨vO_313, List.forall_mem_cons.mpr ⟨vO_314, List.forall_mem_cons.mpr ⟨vO_315, List.forall_mem_cons.mpr ⟨vO_316, List.forall_mem_cons.mpr ⟨vO_317, List.forall_mem_cons.mpr ⟨vO_318, List.forall_mem_cons.mpr ⟨vO_319, List.forall_mem_cons.mpr ⟨vO_320, List.forall_mem_cons.mpr ⟨vO_321, List.forall_mem_cons.mpr ⟨vO_322, List.forall_mem_cons.mpr ⟨vO_323, List.forall_mem_cons.mpr ⟨vO_324, List.forall_mem_cons.mpr ⟨vO_325, List.forall_mem_cons.mpr ⟨vO_326, List.forall_mem_cons.mpr ⟨vO_327, List.forall_mem_cons.mpr ⟨vO_328, List.forall_mem_cons.mpr ⟨vO_329, List.forall_mem_cons.mpr ⟨vO_330, List.forall_mem_cons.mpr ⟨vO_331, List.forall_mem_cons.mpr ⟨vO_332, List.forall_mem_cons.mpr ⟨vO_333, List.forall_mem_cons.mpr ⟨vO_334, List.forall_mem_cons.mpr ⟨vO_335, List.forall_mem_cons.mpr ⟨vO_336, List.forall_mem_cons.mpr ⟨vO_337, List.forall_mem_cons.mpr ⟨vO_338, List.forall_mem_cons.mpr ⟨vO_339, fun _ w => (by cases w)⟩⟩⟩⟩⟩⟩⟩⟩⟩⟩⟩⟩⟩⟩⟩⟩⟩⟩⟩⟩⟩⟩⟩⟩⟩⟩⟩⟩⟩⟩⟩⟩⟩⟩⟩⟩⟩⟩⟩⟩⟩⟩⟩⟩⟩⟩⟩⟩⟩⟩⟩⟩⟩⟩⟩⟩⟩⟩⟩⟩⟩⟩⟩⟩⟩⟩⟩⟩⟩⟩⟩⟩⟩⟩⟩⟩⟩⟩⟩⟩⟩⟩⟩⟩⟩⟩⟩⟩⟩⟩⟩⟩⟩⟩⟩⟩⟩⟩⟩⟩⟩⟩⟩⟩⟩⟩⟩⟩⟩⟩⟩⟩⟩⟩⟩⟩⟩⟩⟩⟩⟩⟩⟩⟩⟩⟩⟩⟩⟩⟩⟩⟩⟩⟩⟩⟩⟩⟩⟩⟩⟩⟩⟩⟩⟩⟩⟩⟩⟩⟩⟩⟩⟩⟩⟩⟩⟩⟩⟩⟩⟩⟩⟩⟩⟩⟩⟩⟩⟩⟩⟩⟩⟩⟩⟩⟩⟩⟩⟩⟩⟩⟩⟩⟩⟩⟩⟩⟩⟩⟩⟩⟩⟩⟩⟩⟩⟩⟩⟩⟩⟩⟩⟩⟩⟩⟩⟩⟩⟩⟩⟩⟩⟩⟩⟩⟩⟩⟩⟩⟩⟩⟩⟩⟩⟩⟩⟩⟩⟩⟩⟩⟩⟩⟩⟩⟩⟩⟩⟩⟩⟩⟩⟩⟩⟩⟩⟩⟩⟩⟩⟩⟩⟩⟩⟩⟩⟩⟩⟩⟩⟩⟩⟩⟩⟩⟩⟩⟩⟩⟩⟩⟩⟩⟩⟩⟩⟩⟩⟩⟩⟩⟩⟩⟩⟩⟩⟩⟩⟩⟩⟩⟩⟩⟩⟩⟩⟩⟩⟩⟩⟩⟩⟩⟩⟩⟩⟩⟩⟩⟩⟩⟩⟩⟩⟩⟩⟩⟩⟩⟩⟩⟩⟩⟩⟩⟩⟩⟩⟩⟩⟩⟩⟩⟩⟩⟩⟩⟩⟩⟩
  exact hall M hm
set_option maxRecDepth 100000 in
theorem vA_byte : px_in (.arrayClass .byte) := cz_w_ok (n := 1068) (by decide +kernel)
set_option maxRecDepth 100000 in
theorem vA_int : px_in (.arrayClass .int) := cz_w_ok (n := 1069) (by decide +kernel)
set_option maxRecDepth 100000 in
theorem vA_long : px_in (.arrayClass .long) := cz_w_ok (n := 1142) (by decide +kernel)
set_option maxRecDepth 100000 in
theorem vA_boolean : px_in (.arrayClass .boolean) := cz_w_ok (n := 2104) (by decide +kernel)
theorem cz_allA_ok : cz_allA := by
  intro t n h
  cases t <;> first | exact vA_byte | exact vA_int | exact vA_long | exact vA_boolean | cases h
/-! The law's start: the world as the Statement gives it. (Written by wip/p2/py/gen26.py.) -/
noncomputable def px_fl : List Cond := flatC (Jvm.Cond.and given_1 narrow_1)
noncomputable def px_f (n : Nat) (w : Cond) : Bool := decide (dz_nth px_fl n = some w)
theorem px_f_ok {n : Nat} {w : Cond} (h : px_f n w = true) {args : Array Value} {s : State} (hg : (Jvm.Cond.and given_1 narrow_1).before args s = true) : w.before args s = true := by
  simp only [px_f, decide_eq_true_eq] at h
  exact flat_of_before _ hg w (dz_nth_mem h)
noncomputable def px_dr (n : Nat) (l : List Cond) : List Cond := Nat.rec (motive := fun _ => List Cond → List Cond) (fun l => l) (fun _ ih l => ih l.tail) n l
theorem px_dr_mem : ∀ (n : Nat) (l : List Cond) (w : Cond), w ∈ px_dr n l → w ∈ l
  | 0, _, _, h => h
  | n + 1, l, w, h => List.mem_of_mem_tail (px_dr_mem n l.tail w h)
noncomputable def px_pre : List Cond → List Cond → Bool := fun ws => List.rec (motive := fun _ => List Cond → Bool) (fun _ => true) (fun w _ ih l => match l with
  | [] => false
  | f :: l => decide (f = w) && ih l) ws
theorem px_pre_ok : ∀ (ws l : List Cond), px_pre ws l = true → ∀ w ∈ ws, w ∈ l
  | [], _, _, w, hw => by cases hw
  | v :: ws, [], h, w, hw => by cases h
  | v :: ws, f :: l, h, w, hw => by
    have h : (decide (f = v) && px_pre ws l) = true := h
    simp only [Bool.and_eq_true, decide_eq_true_eq] at h
    rcases List.mem_cons.mp hw with e | e
    · rw [e, ← h.1]; exact List.mem_cons_self
    · exact List.mem_cons_of_mem _ (px_pre_ok ws l h.2 w e)
/-- the words of a string: what it is, its bytes -/
def px_sw (o : String) (k : Nat) (bs : List Int) : List Cond :=
  [.exactly (.string o k) "java/lang/String", .eq (.field (.string o k) "java/lang/String" "coder" "B") (.int 0), .arrayOf (.field (.string o k) "java/lang/String" "value" "[B") .byte, .eq (.length (.field (.string o k) "java/lang/String" "value" "[B")) (.int (Int32.ofNat bs.length))] ++
  (List.range bs.length).map (fun j => .eq (.elem (.field (.string o k) "java/lang/String" "value" "[B") (.int (Int32.ofNat j))) (.int (Int32.ofInt (bs.getD j 0))))
def px_sv (n : Nat) (o : String) (k : Nat) (bs : List Int) : Prop := px_pre (px_sw o k bs) (px_dr n px_fl) = true
theorem px_sv_ok {n : Nat} {o : String} {k : Nat} {bs : List Int} (h : px_sv n o k bs) {args : Array Value} {s : State} (hg : (Jvm.Cond.and given_1 narrow_1).before args s = true) : ∀ w ∈ px_sw o k bs, w.before args s = true := fun w hw => flat_of_before _ hg w (px_dr_mem _ _ _ (px_pre_ok _ _ h w hw))
set_option maxRecDepth 100000 in
theorem pf_U : px_f 4 (.isRef (.static px_tN "UNASSIGNED_STACK" "[Ljava/lang/StackTraceElement;")) = true := by decide +kernel
set_option maxRecDepth 100000 in
theorem pf_S : px_f 5 (.isRef (.static px_tN "SUPPRESSED_SENTINEL" "Ljava/util/List;")) = true := by decide +kernel
set_option maxRecDepth 100000 in
theorem pf_CS : px_f 6 (.eq (.static "java/lang/String" "COMPACT_STRINGS" "Z") (.int 1)) = true := by decide +kernel
set_option maxRecDepth 100000 in
theorem pf_SF : px_f 7 (.isRef (.static "jdk/internal/util/Preconditions" "SIOOBE_FORMATTER" "Ljava/util/function/BiFunction;")) = true := by decide +kernel
set_option maxRecDepth 100000 in
theorem pf_n01 : px_f 250 (.not (.castable "java/lang/IndexOutOfBoundsException" "java/lang/IllegalArgumentException")) = true := by decide +kernel
set_option maxRecDepth 100000 in
theorem pf_n21 : px_f 251 (.not (.castable "java/lang/IllegalStateException" "java/lang/IllegalArgumentException")) = true := by decide +kernel
set_option maxRecDepth 100000 in
theorem pf_n31 : px_f 254 (.not (.castable "java/lang/UnsupportedOperationException" "java/lang/IllegalArgumentException")) = true := by decide +kernel
set_option maxRecDepth 100000 in
theorem pf_n32 : px_f 275 (.not (.castable "java/lang/UnsupportedOperationException" "java/lang/IllegalStateException")) = true := by decide +kernel
set_option maxRecDepth 100000 in
theorem pf_n02 : px_f 271 (.not (.castable "java/lang/IndexOutOfBoundsException" "java/lang/IllegalStateException")) = true := by decide +kernel
set_option maxRecDepth 100000 in
theorem pf_n42 : px_f 279 (.not (.castable "java/lang/ArithmeticException" "java/lang/IllegalStateException")) = true := by decide +kernel
set_option maxRecDepth 100000 in
theorem pf_n03 : px_f 292 (.not (.castable "java/lang/IndexOutOfBoundsException" "java/lang/UnsupportedOperationException")) = true := by decide +kernel
set_option maxRecDepth 100000 in
theorem pf_y0 : px_in (.castable "java/lang/IndexOutOfBoundsException" "java/lang/IndexOutOfBoundsException") := cz_w_ok (n := 3003) (by decide +kernel)
set_option maxRecDepth 100000 in
theorem pf_y1 : px_in (.castable "java/lang/IllegalArgumentException" "java/lang/IllegalArgumentException") := cz_w_ok (n := 3084) (by decide +kernel)
set_option maxRecDepth 100000 in
theorem pf_y2 : px_in (.castable "java/lang/IllegalStateException" "java/lang/IllegalStateException") := cz_w_ok (n := 3112) (by decide +kernel)
set_option maxRecDepth 100000 in
theorem pf_y3 : px_in (.castable "java/lang/UnsupportedOperationException" "java/lang/UnsupportedOperationException") := cz_w_ok (n := 4169) (by decide +kernel)
set_option maxRecDepth 100000 in
theorem pf_y4 : px_in (.castable "java/lang/ArithmeticException" "java/lang/ArithmeticException") := cz_w_ok (n := 5034) (by decide +kernel)
set_option maxRecDepth 100000 in
theorem pf_o4 : px_in (.arrayOver (.object "TextAtlas$Text")) := cz_w_ok (n := 1045) (by decide +kernel)
set_option maxRecDepth 100000 in
theorem pf_o5 : px_in (.arrayOver (.object "TextAtlas$Span")) := cz_w_ok (n := 1077) (by decide +kernel)
set_option maxRecDepth 100000 in
theorem pf_o6 : px_in (.arrayOver (.object "TextAtlas$Entry")) := cz_w_ok (n := 1079) (by decide +kernel)
set_option maxRecDepth 100000 in
theorem pf_o7 : px_in (.arrayOver (.object "TextAtlas$Fact")) := cz_w_ok (n := 2024) (by decide +kernel)
set_option maxRecDepth 100000 in
theorem pf_o8 : px_in (.arrayOver (.object "TextAtlasModel$Line")) := cz_w_ok (n := 7063) (by decide +kernel)
set_option maxRecDepth 100000 in
theorem pf_o9 : px_in (.arrayOver (.object "java/lang/String")) := cz_w_ok (n := 7065) (by decide +kernel)
set_option maxRecDepth 100000 in
theorem pf_o10 : (Cond.arrayOver (.array .int)) ∈ lw_tbl := cz_ch_ok (k := 7) (dz_nth_mem (i := 61) (by decide +kernel))
set_option maxRecDepth 100000 in
theorem pf_sU : (Cond.laysStatic "java/lang/Throwable" "UNASSIGNED_STACK" "[Ljava/lang/StackTraceElement;") ∈ lw_tbl := cz_ch_ok (k := 3) (dz_nth_mem (i := 28) (by decide +kernel))
set_option maxRecDepth 100000 in
theorem pf_sS : (Cond.laysStatic "java/lang/Throwable" "SUPPRESSED_SENTINEL" "Ljava/util/List;") ∈ lw_tbl := cz_ch_ok (k := 3) (dz_nth_mem (i := 30) (by decide +kernel))
set_option maxRecDepth 100000 in
theorem pf_sC : (Cond.laysStatic "java/lang/String" "COMPACT_STRINGS" "Z") ∈ lw_tbl := cz_ch_ok (k := 4) (dz_nth_mem (i := 44) (by decide +kernel))
set_option maxRecDepth 100000 in
theorem pf_sF : (Cond.laysStatic "jdk/internal/util/Preconditions" "SIOOBE_FORMATTER" "Ljava/util/function/BiFunction;") ∈ lw_tbl := cz_ch_ok (k := 4) (dz_nth_mem (i := 60) (by decide +kernel))
set_option maxRecDepth 100000 in
theorem pf_iT : (Cond.initialized "java/lang/Throwable") ∈ lw_tbl := cz_ch_ok (k := 1) (dz_nth_mem (i := 13) (by decide +kernel))
set_option maxRecDepth 100000 in
theorem pf_iC : (Cond.initialized "java/lang/String") ∈ lw_tbl := cz_ch_ok (k := 1) (dz_nth_mem (i := 20) (by decide +kernel))
set_option maxRecDepth 100000 in
theorem pf_iF : (Cond.initialized "jdk/internal/util/Preconditions") ∈ lw_tbl := cz_ch_ok (k := 1) (dz_nth_mem (i := 22) (by decide +kernel))
set_option maxRecDepth 100000 in
theorem pS_0 : px_sv 322 "TextAtlas$Reader" 172 (yl 64) := by unfold px_sv; decide +kernel
set_option maxRecDepth 100000 in
theorem pR_0 : (Cond.stringRef "TextAtlas$Reader" 172 "tr az lt Final_Sigma After_Soft_Dotted More_Above Before_Dot Not_Before_Dot After_I") ∈ lw_tbl := cz_ch_ok (k := 4) (dz_nth_mem (i := 30) (by decide +kernel))
set_option maxRecDepth 100000 in
theorem pS_1 : px_sv 409 "TextAtlas$Reader" 182 (yl 65) := by unfold px_sv; decide +kernel
set_option maxRecDepth 100000 in
theorem pR_1 : (Cond.stringRef "TextAtlas$Reader" 182 "Composition_Exclusion Case_Ignorable Cased Soft_Dotted Extended_Pictographic Unified_Ideograph") ∈ lw_tbl := cz_ch_ok (k := 4) (dz_nth_mem (i := 107) (by decide +kernel))
set_option maxRecDepth 100000 in
theorem pS_2 : px_sv 507 "TextAtlas$Reader" 184 (yl 66) := by unfold px_sv; decide +kernel
set_option maxRecDepth 100000 in
theorem pR_2 : (Cond.stringRef "TextAtlas$Reader" 184 "GCB=") ∈ lw_tbl := cz_ch_ok (k := 4) (dz_nth_mem (i := 108) (by decide +kernel))
set_option maxRecDepth 100000 in
theorem pS_3 : px_sv 515 "TextAtlas$Reader" 190 (yl 67) := by unfold px_sv; decide +kernel
set_option maxRecDepth 100000 in
theorem pR_3 : (Cond.stringRef "TextAtlas$Reader" 190 "Other CR LF Control Extend ZWJ Regional_Indicator Prepend SpacingMark L V T LV LVT") ∈ lw_tbl := cz_ch_ok (k := 4) (dz_nth_mem (i := 113) (by decide +kernel))
set_option maxRecDepth 100000 in
theorem pS_4 : px_sv 601 "TextAtlas$Reader" 192 (yl 68) := by unfold px_sv; decide +kernel
set_option maxRecDepth 100000 in
theorem pR_4 : (Cond.stringRef "TextAtlas$Reader" 192 "WB=") ∈ lw_tbl := cz_ch_ok (k := 4) (dz_nth_mem (i := 114) (by decide +kernel))
set_option maxRecDepth 100000 in
theorem pS_5 : px_sv 608 "TextAtlas$Reader" 194 (yl 69) := by unfold px_sv; decide +kernel
set_option maxRecDepth 100000 in
theorem pR_5 : (Cond.stringRef "TextAtlas$Reader" 194 "Other CR LF Newline Extend ZWJ Regional_Indicator Format Katakana Hebrew_Letter ALetter MidLetter MidNum MidNumLet Single_Quote Double_Quote Numeric ExtendNumLet WSegSpace") ∈ lw_tbl := cz_ch_ok (k := 4) (dz_nth_mem (i := 115) (by decide +kernel))
set_option maxRecDepth 100000 in
theorem pS_6 : px_sv 783 "TextAtlasModel" 37 (yl 70) := by unfold px_sv; decide +kernel
set_option maxRecDepth 100000 in
theorem pR_6 : (Cond.stringRef "TextAtlasModel" 37 "tr") ∈ lw_tbl := cz_ch_ok (k := 7) (dz_nth_mem (i := 66) (by decide +kernel))
set_option maxRecDepth 100000 in
theorem pS_7 : px_sv 789 "TextAtlasModel" 39 (yl 71) := by unfold px_sv; decide +kernel
set_option maxRecDepth 100000 in
theorem pR_7 : (Cond.stringRef "TextAtlasModel" 39 "az") ∈ lw_tbl := cz_ch_ok (k := 7) (dz_nth_mem (i := 67) (by decide +kernel))
set_option maxRecDepth 100000 in
theorem pS_8 : px_sv 795 "TextAtlasModel" 41 (yl 72) := by unfold px_sv; decide +kernel
set_option maxRecDepth 100000 in
theorem pR_8 : (Cond.stringRef "TextAtlasModel" 41 "lt") ∈ lw_tbl := cz_ch_ok (k := 7) (dz_nth_mem (i := 68) (by decide +kernel))
set_option maxRecDepth 100000 in
theorem pS_9 : px_sv 801 "TextAtlasModel" 43 (yl 73) := by unfold px_sv; decide +kernel
set_option maxRecDepth 100000 in
theorem pR_9 : (Cond.stringRef "TextAtlasModel" 43 "Final_Sigma") ∈ lw_tbl := cz_ch_ok (k := 7) (dz_nth_mem (i := 69) (by decide +kernel))
set_option maxRecDepth 100000 in
theorem pS_10 : px_sv 816 "TextAtlasModel" 45 (yl 74) := by unfold px_sv; decide +kernel
set_option maxRecDepth 100000 in
theorem pR_10 : (Cond.stringRef "TextAtlasModel" 45 "After_Soft_Dotted") ∈ lw_tbl := cz_ch_ok (k := 7) (dz_nth_mem (i := 70) (by decide +kernel))
set_option maxRecDepth 100000 in
theorem pS_11 : px_sv 837 "TextAtlasModel" 47 (yl 75) := by unfold px_sv; decide +kernel
set_option maxRecDepth 100000 in
theorem pR_11 : (Cond.stringRef "TextAtlasModel" 47 "More_Above") ∈ lw_tbl := cz_ch_ok (k := 7) (dz_nth_mem (i := 71) (by decide +kernel))
set_option maxRecDepth 100000 in
theorem pS_12 : px_sv 851 "TextAtlasModel" 49 (yl 76) := by unfold px_sv; decide +kernel
set_option maxRecDepth 100000 in
theorem pR_12 : (Cond.stringRef "TextAtlasModel" 49 "Before_Dot") ∈ lw_tbl := cz_ch_ok (k := 7) (dz_nth_mem (i := 72) (by decide +kernel))
set_option maxRecDepth 100000 in
theorem pS_13 : px_sv 865 "TextAtlasModel" 51 (yl 77) := by unfold px_sv; decide +kernel
set_option maxRecDepth 100000 in
theorem pR_13 : (Cond.stringRef "TextAtlasModel" 51 "Not_Before_Dot") ∈ lw_tbl := cz_ch_ok (k := 7) (dz_nth_mem (i := 73) (by decide +kernel))
set_option maxRecDepth 100000 in
theorem pS_14 : px_sv 883 "TextAtlasModel" 53 (yl 78) := by unfold px_sv; decide +kernel
set_option maxRecDepth 100000 in
theorem pR_14 : (Cond.stringRef "TextAtlasModel" 53 "After_I") ∈ lw_tbl := cz_ch_ok (k := 7) (dz_nth_mem (i := 74) (by decide +kernel))
set_option maxRecDepth 100000 in
theorem pS_15 : px_sv 894 "TextAtlasModel" 59 (yl 79) := by unfold px_sv; decide +kernel
set_option maxRecDepth 100000 in
theorem pR_15 : (Cond.stringRef "TextAtlasModel" 59 "Composition_Exclusion") ∈ lw_tbl := cz_ch_ok (k := 7) (dz_nth_mem (i := 75) (by decide +kernel))
set_option maxRecDepth 100000 in
theorem pS_16 : px_sv 919 "TextAtlasModel" 61 (yl 80) := by unfold px_sv; decide +kernel
set_option maxRecDepth 100000 in
theorem pR_16 : (Cond.stringRef "TextAtlasModel" 61 "Case_Ignorable") ∈ lw_tbl := cz_ch_ok (k := 7) (dz_nth_mem (i := 76) (by decide +kernel))
set_option maxRecDepth 100000 in
theorem pS_17 : px_sv 937 "TextAtlasModel" 63 (yl 81) := by unfold px_sv; decide +kernel
set_option maxRecDepth 100000 in
theorem pR_17 : (Cond.stringRef "TextAtlasModel" 63 "Cased") ∈ lw_tbl := cz_ch_ok (k := 7) (dz_nth_mem (i := 77) (by decide +kernel))
set_option maxRecDepth 100000 in
theorem pS_18 : px_sv 946 "TextAtlasModel" 65 (yl 82) := by unfold px_sv; decide +kernel
set_option maxRecDepth 100000 in
theorem pR_18 : (Cond.stringRef "TextAtlasModel" 65 "Soft_Dotted") ∈ lw_tbl := cz_ch_ok (k := 7) (dz_nth_mem (i := 78) (by decide +kernel))
set_option maxRecDepth 100000 in
theorem pS_19 : px_sv 961 "TextAtlasModel" 67 (yl 83) := by unfold px_sv; decide +kernel
set_option maxRecDepth 100000 in
theorem pR_19 : (Cond.stringRef "TextAtlasModel" 67 "Extended_Pictographic") ∈ lw_tbl := cz_ch_ok (k := 7) (dz_nth_mem (i := 79) (by decide +kernel))
set_option maxRecDepth 100000 in
theorem pS_20 : px_sv 986 "TextAtlasModel" 69 (yl 84) := by unfold px_sv; decide +kernel
set_option maxRecDepth 100000 in
theorem pR_20 : (Cond.stringRef "TextAtlasModel" 69 "Unified_Ideograph") ∈ lw_tbl := cz_ch_ok (k := 7) (dz_nth_mem (i := 80) (by decide +kernel))
set_option maxRecDepth 100000 in
theorem pS_21 : px_sv 1007 "TextAtlasModel" 74 (yl 85) := by unfold px_sv; decide +kernel
set_option maxRecDepth 100000 in
theorem pR_21 : (Cond.stringRef "TextAtlasModel" 74 "Other") ∈ lw_tbl := cz_ch_ok (k := 7) (dz_nth_mem (i := 81) (by decide +kernel))
set_option maxRecDepth 100000 in
theorem pS_22 : px_sv 1016 "TextAtlasModel" 76 (yl 86) := by unfold px_sv; decide +kernel
set_option maxRecDepth 100000 in
theorem pR_22 : (Cond.stringRef "TextAtlasModel" 76 "CR") ∈ lw_tbl := cz_ch_ok (k := 7) (dz_nth_mem (i := 82) (by decide +kernel))
set_option maxRecDepth 100000 in
theorem pS_23 : px_sv 1022 "TextAtlasModel" 78 (yl 87) := by unfold px_sv; decide +kernel
set_option maxRecDepth 100000 in
theorem pR_23 : (Cond.stringRef "TextAtlasModel" 78 "LF") ∈ lw_tbl := cz_ch_ok (k := 7) (dz_nth_mem (i := 83) (by decide +kernel))
set_option maxRecDepth 100000 in
theorem pS_24 : px_sv 1028 "TextAtlasModel" 80 (yl 88) := by unfold px_sv; decide +kernel
set_option maxRecDepth 100000 in
theorem pR_24 : (Cond.stringRef "TextAtlasModel" 80 "Control") ∈ lw_tbl := cz_ch_ok (k := 7) (dz_nth_mem (i := 84) (by decide +kernel))
set_option maxRecDepth 100000 in
theorem pS_25 : px_sv 1039 "TextAtlasModel" 82 (yl 89) := by unfold px_sv; decide +kernel
set_option maxRecDepth 100000 in
theorem pR_25 : (Cond.stringRef "TextAtlasModel" 82 "Extend") ∈ lw_tbl := cz_ch_ok (k := 7) (dz_nth_mem (i := 85) (by decide +kernel))
set_option maxRecDepth 100000 in
theorem pS_26 : px_sv 1049 "TextAtlasModel" 84 (yl 90) := by unfold px_sv; decide +kernel
set_option maxRecDepth 100000 in
theorem pR_26 : (Cond.stringRef "TextAtlasModel" 84 "ZWJ") ∈ lw_tbl := cz_ch_ok (k := 7) (dz_nth_mem (i := 86) (by decide +kernel))
set_option maxRecDepth 100000 in
theorem pS_27 : px_sv 1056 "TextAtlasModel" 86 (yl 91) := by unfold px_sv; decide +kernel
set_option maxRecDepth 100000 in
theorem pR_27 : (Cond.stringRef "TextAtlasModel" 86 "Regional_Indicator") ∈ lw_tbl := cz_ch_ok (k := 7) (dz_nth_mem (i := 87) (by decide +kernel))
set_option maxRecDepth 100000 in
theorem pS_28 : px_sv 1078 "TextAtlasModel" 88 (yl 92) := by unfold px_sv; decide +kernel
set_option maxRecDepth 100000 in
theorem pR_28 : (Cond.stringRef "TextAtlasModel" 88 "Prepend") ∈ lw_tbl := cz_ch_ok (k := 7) (dz_nth_mem (i := 88) (by decide +kernel))
set_option maxRecDepth 100000 in
theorem pS_29 : px_sv 1089 "TextAtlasModel" 90 (yl 93) := by unfold px_sv; decide +kernel
set_option maxRecDepth 100000 in
theorem pR_29 : (Cond.stringRef "TextAtlasModel" 90 "SpacingMark") ∈ lw_tbl := cz_ch_ok (k := 7) (dz_nth_mem (i := 89) (by decide +kernel))
set_option maxRecDepth 100000 in
theorem pS_30 : px_sv 1104 "TextAtlasModel" 92 (yl 94) := by unfold px_sv; decide +kernel
set_option maxRecDepth 100000 in
theorem pR_30 : (Cond.stringRef "TextAtlasModel" 92 "L") ∈ lw_tbl := cz_ch_ok (k := 7) (dz_nth_mem (i := 90) (by decide +kernel))
set_option maxRecDepth 100000 in
theorem pS_31 : px_sv 1109 "TextAtlasModel" 94 (yl 95) := by unfold px_sv; decide +kernel
set_option maxRecDepth 100000 in
theorem pR_31 : (Cond.stringRef "TextAtlasModel" 94 "V") ∈ lw_tbl := cz_ch_ok (k := 7) (dz_nth_mem (i := 91) (by decide +kernel))
set_option maxRecDepth 100000 in
theorem pS_32 : px_sv 1114 "TextAtlasModel" 96 (yl 96) := by unfold px_sv; decide +kernel
set_option maxRecDepth 100000 in
theorem pR_32 : (Cond.stringRef "TextAtlasModel" 96 "T") ∈ lw_tbl := cz_ch_ok (k := 7) (dz_nth_mem (i := 92) (by decide +kernel))
set_option maxRecDepth 100000 in
theorem pS_33 : px_sv 1119 "TextAtlasModel" 98 (yl 97) := by unfold px_sv; decide +kernel
set_option maxRecDepth 100000 in
theorem pR_33 : (Cond.stringRef "TextAtlasModel" 98 "LV") ∈ lw_tbl := cz_ch_ok (k := 7) (dz_nth_mem (i := 93) (by decide +kernel))
set_option maxRecDepth 100000 in
theorem pS_34 : px_sv 1125 "TextAtlasModel" 100 (yl 98) := by unfold px_sv; decide +kernel
set_option maxRecDepth 100000 in
theorem pR_34 : (Cond.stringRef "TextAtlasModel" 100 "LVT") ∈ lw_tbl := cz_ch_ok (k := 7) (dz_nth_mem (i := 94) (by decide +kernel))
set_option maxRecDepth 100000 in
theorem pS_35 : px_sv 1132 "TextAtlasModel" 105 (yl 99) := by unfold px_sv; decide +kernel
set_option maxRecDepth 100000 in
theorem pR_35 : (Cond.stringRef "TextAtlasModel" 105 "Newline") ∈ lw_tbl := cz_ch_ok (k := 7) (dz_nth_mem (i := 95) (by decide +kernel))
set_option maxRecDepth 100000 in
theorem pS_36 : px_sv 1143 "TextAtlasModel" 107 (yl 100) := by unfold px_sv; decide +kernel
set_option maxRecDepth 100000 in
theorem pR_36 : (Cond.stringRef "TextAtlasModel" 107 "Format") ∈ lw_tbl := cz_ch_ok (k := 7) (dz_nth_mem (i := 96) (by decide +kernel))
set_option maxRecDepth 100000 in
theorem pS_37 : px_sv 1153 "TextAtlasModel" 109 (yl 101) := by unfold px_sv; decide +kernel
set_option maxRecDepth 100000 in
theorem pR_37 : (Cond.stringRef "TextAtlasModel" 109 "Katakana") ∈ lw_tbl := cz_ch_ok (k := 7) (dz_nth_mem (i := 97) (by decide +kernel))
set_option maxRecDepth 100000 in
theorem pS_38 : px_sv 1165 "TextAtlasModel" 111 (yl 102) := by unfold px_sv; decide +kernel
set_option maxRecDepth 100000 in
theorem pR_38 : (Cond.stringRef "TextAtlasModel" 111 "Hebrew_Letter") ∈ lw_tbl := cz_ch_ok (k := 7) (dz_nth_mem (i := 98) (by decide +kernel))
set_option maxRecDepth 100000 in
theorem pS_39 : px_sv 1182 "TextAtlasModel" 113 (yl 103) := by unfold px_sv; decide +kernel
set_option maxRecDepth 100000 in
theorem pR_39 : (Cond.stringRef "TextAtlasModel" 113 "ALetter") ∈ lw_tbl := cz_ch_ok (k := 7) (dz_nth_mem (i := 99) (by decide +kernel))
set_option maxRecDepth 100000 in
theorem pS_40 : px_sv 1193 "TextAtlasModel" 115 (yl 104) := by unfold px_sv; decide +kernel
set_option maxRecDepth 100000 in
theorem pR_40 : (Cond.stringRef "TextAtlasModel" 115 "MidLetter") ∈ lw_tbl := cz_ch_ok (k := 7) (dz_nth_mem (i := 100) (by decide +kernel))
set_option maxRecDepth 100000 in
theorem pS_41 : px_sv 1206 "TextAtlasModel" 117 (yl 105) := by unfold px_sv; decide +kernel
set_option maxRecDepth 100000 in
theorem pR_41 : (Cond.stringRef "TextAtlasModel" 117 "MidNum") ∈ lw_tbl := cz_ch_ok (k := 7) (dz_nth_mem (i := 101) (by decide +kernel))
set_option maxRecDepth 100000 in
theorem pS_42 : px_sv 1216 "TextAtlasModel" 119 (yl 106) := by unfold px_sv; decide +kernel
set_option maxRecDepth 100000 in
theorem pR_42 : (Cond.stringRef "TextAtlasModel" 119 "MidNumLet") ∈ lw_tbl := cz_ch_ok (k := 7) (dz_nth_mem (i := 102) (by decide +kernel))
set_option maxRecDepth 100000 in
theorem pS_43 : px_sv 1229 "TextAtlasModel" 121 (yl 107) := by unfold px_sv; decide +kernel
set_option maxRecDepth 100000 in
theorem pR_43 : (Cond.stringRef "TextAtlasModel" 121 "Single_Quote") ∈ lw_tbl := cz_ch_ok (k := 7) (dz_nth_mem (i := 103) (by decide +kernel))
set_option maxRecDepth 100000 in
theorem pS_44 : px_sv 1245 "TextAtlasModel" 123 (yl 108) := by unfold px_sv; decide +kernel
set_option maxRecDepth 100000 in
theorem pR_44 : (Cond.stringRef "TextAtlasModel" 123 "Double_Quote") ∈ lw_tbl := cz_ch_ok (k := 7) (dz_nth_mem (i := 104) (by decide +kernel))
set_option maxRecDepth 100000 in
theorem pS_45 : px_sv 1261 "TextAtlasModel" 125 (yl 109) := by unfold px_sv; decide +kernel
set_option maxRecDepth 100000 in
theorem pR_45 : (Cond.stringRef "TextAtlasModel" 125 "Numeric") ∈ lw_tbl := cz_ch_ok (k := 7) (dz_nth_mem (i := 105) (by decide +kernel))
set_option maxRecDepth 100000 in
theorem pS_46 : px_sv 1272 "TextAtlasModel" 127 (yl 110) := by unfold px_sv; decide +kernel
set_option maxRecDepth 100000 in
theorem pR_46 : (Cond.stringRef "TextAtlasModel" 127 "ExtendNumLet") ∈ lw_tbl := cz_ch_ok (k := 7) (dz_nth_mem (i := 106) (by decide +kernel))
set_option maxRecDepth 100000 in
theorem pS_47 : px_sv 1288 "TextAtlasModel" 129 (yl 111) := by unfold px_sv; decide +kernel
set_option maxRecDepth 100000 in
theorem pR_47 : (Cond.stringRef "TextAtlasModel" 129 "WSegSpace") ∈ lw_tbl := cz_ch_ok (k := 7) (dz_nth_mem (i := 107) (by decide +kernel))
set_option maxRecDepth 100000 in
theorem pS_48 : px_sv 1308 "TextAtlasModel" 300 (yl 112) := by unfold px_sv; decide +kernel
set_option maxRecDepth 100000 in
theorem pR_48 : (Cond.stringRef "TextAtlasModel" 300 "GCB=") ∈ lw_tbl := cz_ch_ok (k := 9) (dz_nth_mem (i := 135) (by decide +kernel))
set_option maxRecDepth 100000 in
theorem pS_49 : px_sv 1317 "TextAtlasModel" 309 (yl 113) := by unfold px_sv; decide +kernel
set_option maxRecDepth 100000 in
theorem pR_49 : (Cond.stringRef "TextAtlasModel" 309 "WB=") ∈ lw_tbl := cz_ch_ok (k := 9) (dz_nth_mem (i := 140) (by decide +kernel))
theorem pS_all : ∀ (r : Nat) (q : String × Nat × String), cz_str[r]? = some q → (Cond.stringRef q.1 q.2.1 q.2.2) ∈ lw_tbl ∧ ∃ n, px_sv n q.1 q.2.1 (yl (64 + r)) := by
  intro r q h
  have hlt : r < 50 := (List.getElem?_eq_some_iff.mp h).1
  have hs : r = 0 ∨ r = 1 ∨ r = 2 ∨ r = 3 ∨ r = 4 ∨ r = 5 ∨ r = 6 ∨ r = 7 ∨ r = 8 ∨ r = 9 ∨ r = 10 ∨ r = 11 ∨ r = 12 ∨ r = 13 ∨ r = 14 ∨ r = 15 ∨ r = 16 ∨ r = 17 ∨ r = 18 ∨ r = 19 ∨ r = 20 ∨ r = 21 ∨ r = 22 ∨ r = 23 ∨ r = 24 ∨ r = 25 ∨ r = 26 ∨ r = 27 ∨ r = 28 ∨ r = 29 ∨ r = 30 ∨ r = 31 ∨ r = 32 ∨ r = 33 ∨ r = 34 ∨ r = 35 ∨ r = 36 ∨ r = 37 ∨ r = 38 ∨ r = 39 ∨ r = 40 ∨ r = 41 ∨ r = 42 ∨ r = 43 ∨ r = 44 ∨ r = 45 ∨ r = 46 ∨ r = 47 ∨ r = 48 ∨ r = 49 := by omega
  rcases hs with rfl | rfl | rfl | rfl | rfl | rfl | rfl | rfl | rfl | rfl | rfl | rfl | rfl | rfl | rfl | rfl | rfl | rfl | rfl | rfl | rfl | rfl | rfl | rfl | rfl | rfl | rfl | rfl | rfl | rfl | rfl | rfl | rfl | rfl | rfl | rfl | rfl | rfl | rfl | rfl | rfl | rfl | rfl | rfl | rfl | rfl | rfl | rfl | rfl | rfl
  · cases h; exact ⟨pR_0, _, pS_0⟩
  · cases h; exact ⟨pR_1, _, pS_1⟩
  · cases h; exact ⟨pR_2, _, pS_2⟩
  · cases h; exact ⟨pR_3, _, pS_3⟩
  · cases h; exact ⟨pR_4, _, pS_4⟩
  · cases h; exact ⟨pR_5, _, pS_5⟩
  · cases h; exact ⟨pR_6, _, pS_6⟩
  · cases h; exact ⟨pR_7, _, pS_7⟩
  · cases h; exact ⟨pR_8, _, pS_8⟩
  · cases h; exact ⟨pR_9, _, pS_9⟩
  · cases h; exact ⟨pR_10, _, pS_10⟩
  · cases h; exact ⟨pR_11, _, pS_11⟩
  · cases h; exact ⟨pR_12, _, pS_12⟩
  · cases h; exact ⟨pR_13, _, pS_13⟩
  · cases h; exact ⟨pR_14, _, pS_14⟩
  · cases h; exact ⟨pR_15, _, pS_15⟩
  · cases h; exact ⟨pR_16, _, pS_16⟩
  · cases h; exact ⟨pR_17, _, pS_17⟩
  · cases h; exact ⟨pR_18, _, pS_18⟩
  · cases h; exact ⟨pR_19, _, pS_19⟩
  · cases h; exact ⟨pR_20, _, pS_20⟩
  · cases h; exact ⟨pR_21, _, pS_21⟩
  · cases h; exact ⟨pR_22, _, pS_22⟩
  · cases h; exact ⟨pR_23, _, pS_23⟩
  · cases h; exact ⟨pR_24, _, pS_24⟩
  · cases h; exact ⟨pR_25, _, pS_25⟩
  · cases h; exact ⟨pR_26, _, pS_26⟩
  · cases h; exact ⟨pR_27, _, pS_27⟩
  · cases h; exact ⟨pR_28, _, pS_28⟩
  · cases h; exact ⟨pR_29, _, pS_29⟩
  · cases h; exact ⟨pR_30, _, pS_30⟩
  · cases h; exact ⟨pR_31, _, pS_31⟩
  · cases h; exact ⟨pR_32, _, pS_32⟩
  · cases h; exact ⟨pR_33, _, pS_33⟩
  · cases h; exact ⟨pR_34, _, pS_34⟩
  · cases h; exact ⟨pR_35, _, pS_35⟩
  · cases h; exact ⟨pR_36, _, pS_36⟩
  · cases h; exact ⟨pR_37, _, pS_37⟩
  · cases h; exact ⟨pR_38, _, pS_38⟩
  · cases h; exact ⟨pR_39, _, pS_39⟩
  · cases h; exact ⟨pR_40, _, pS_40⟩
  · cases h; exact ⟨pR_41, _, pS_41⟩
  · cases h; exact ⟨pR_42, _, pS_42⟩
  · cases h; exact ⟨pR_43, _, pS_43⟩
  · cases h; exact ⟨pR_44, _, pS_44⟩
  · cases h; exact ⟨pR_45, _, pS_45⟩
  · cases h; exact ⟨pR_46, _, pS_46⟩
  · cases h; exact ⟨pR_47, _, pS_47⟩
  · cases h; exact ⟨pR_48, _, pS_48⟩
  · cases h; exact ⟨pR_49, _, pS_49⟩
set_option maxRecDepth 100000 in
theorem pX_0 : ((px_thw "java/lang/IndexOutOfBoundsException").zip [1013, 3023, 3032, 3038, 3041, 3043, 3024, 3025, 1041, 1042, 3026, 3031, 3039, 3056, 3013, 3057, 3015, 3058, 3017, 3027, 3029, 3019, 3045, 3046, 3047, 3048, 3004, 3048, 3049, 3050, 3051, 3006, 3051, 3052, 3053, 3024, 3008, 3002, 3010, 3011, 3012, 3014, 3016, 3054, 3021, 3020]).all (fun q => cz_w q.2 q.1) = true ∧ (px_thw "java/lang/IndexOutOfBoundsException").length = 46 := by decide +kernel
set_option maxRecDepth 100000 in
theorem pXi_0 : px_in (.initialized "java/lang/IndexOutOfBoundsException") := cz_w_ok (n := 1016) (by decide +kernel)
set_option maxRecDepth 100000 in
theorem pX_1 : ((px_thw "java/lang/IllegalArgumentException").zip [1013, 3023, 3032, 3038, 3041, 3043, 3024, 3025, 1041, 1042, 3026, 3031, 3039, 3056, 3013, 3057, 3015, 3058, 3017, 3027, 3029, 3019, 3092, 3093, 3094, 3048, 3004, 3048, 3049, 3050, 3051, 3006, 3051, 3052, 3053, 3024, 3008, 3083, 3085, 3035, 3086, 3087, 3088, 3054, 3021, 3090]).all (fun q => cz_w q.2 q.1) = true ∧ (px_thw "java/lang/IllegalArgumentException").length = 46 := by decide +kernel
set_option maxRecDepth 100000 in
theorem pXi_1 : px_in (.initialized "java/lang/IllegalArgumentException") := cz_w_ok (n := 1017) (by decide +kernel)
set_option maxRecDepth 100000 in
theorem pX_2 : ((px_thw "java/lang/IllegalStateException").zip [1013, 3023, 3032, 3038, 3041, 3043, 3024, 3025, 1041, 1042, 3026, 3031, 3039, 3056, 3013, 3057, 3015, 3058, 3017, 3027, 3029, 3019, 3120, 3121, 3122, 3048, 3004, 3048, 3049, 3050, 3051, 3006, 3051, 3052, 3053, 3024, 3008, 3111, 3113, 3036, 3114, 3115, 3116, 3054, 3021, 3118]).all (fun q => cz_w q.2 q.1) = true ∧ (px_thw "java/lang/IllegalStateException").length = 46 := by decide +kernel
set_option maxRecDepth 100000 in
theorem pXi_2 : px_in (.initialized "java/lang/IllegalStateException") := cz_w_ok (n := 1018) (by decide +kernel)
set_option maxRecDepth 100000 in
theorem pX_3 : ((px_thw "java/lang/UnsupportedOperationException").zip [1013, 3023, 3032, 3038, 3041, 3043, 3024, 3025, 1041, 1042, 3026, 3031, 3039, 3056, 3013, 3057, 3015, 3058, 3017, 3027, 3029, 3019, 4177, 4178, 4179, 3048, 3004, 3048, 3049, 3050, 3051, 3006, 3051, 3052, 3053, 3024, 3008, 4168, 4170, 3037, 4171, 4172, 4173, 3054, 3021, 4175]).all (fun q => cz_w q.2 q.1) = true ∧ (px_thw "java/lang/UnsupportedOperationException").length = 46 := by decide +kernel
set_option maxRecDepth 100000 in
theorem pXi_3 : px_in (.initialized "java/lang/UnsupportedOperationException") := cz_w_ok (n := 1025) (by decide +kernel)
set_option maxRecDepth 100000 in
theorem pX_4 : ((px_thw "java/lang/ArithmeticException").zip [1013, 3023, 3032, 3038, 3041, 3043, 3024, 3025, 1041, 1042, 3026, 3031, 3039, 3056, 3013, 3057, 3015, 3058, 3017, 3027, 3029, 3019, 5042, 5043, 5044, 3048, 3004, 3048, 3049, 3050, 3051, 3006, 3051, 3052, 3053, 3024, 3008, 5033, 5035, 3034, 5036, 5037, 5038, 3054, 3021, 5040]).all (fun q => cz_w q.2 q.1) = true ∧ (px_thw "java/lang/ArithmeticException").length = 46 := by decide +kernel
set_option maxRecDepth 100000 in
theorem pXi_4 : px_in (.initialized "java/lang/ArithmeticException") := cz_w_ok (n := 1034) (by decide +kernel)
theorem px_zip_ok {ws : List Cond} {ps : List Nat} (h : (ws.zip ps).all (fun q => cz_w q.2 q.1) = true) (hl : ws.length = ps.length) : ∀ w ∈ ws, px_in w := by
  intro w hw
  obtain ⟨i, hi⟩ := List.getElem?_of_mem hw
  have hlt : i < ps.length := by rw [← hl]; exact (List.getElem?_eq_some_iff.mp hi).1
  have h3 : (w, ps[i]) ∈ ws.zip ps := by
    refine List.mem_of_getElem? (i := i) ?_
    rw [List.getElem?_zip_eq_some]
    exact ⟨hi, List.getElem?_eq_getElem hlt⟩
  exact cz_w_ok (List.all_eq_true.mp h _ h3)
theorem px_allX_ok : px_allX := by
  intro k n h
  have hlt : k < 5 := (List.getElem?_eq_some_iff.mp h).1
  have hs : k = 0 ∨ k = 1 ∨ k = 2 ∨ k = 3 ∨ k = 4 := by omega
  rcases hs with rfl | rfl | rfl | rfl | rfl
  · cases h; exact ⟨px_zip_ok pX_0.1 pX_0.2, pXi_0, by decide +kernel⟩
  · cases h; exact ⟨px_zip_ok pX_1.1 pX_1.2, pXi_1, by decide +kernel⟩
  · cases h; exact ⟨px_zip_ok pX_2.1 pX_2.2, pXi_2, by decide +kernel⟩
  · cases h; exact ⟨px_zip_ok pX_3.1 pX_3.2, pXi_3, by decide +kernel⟩
  · cases h; exact ⟨px_zip_ok pX_4.1 pX_4.2, pXi_4, by decide +kernel⟩
