section
noncomputable def fx_w : ax_W := ([0, 1, 14, 15, 16, 17, 18, 19, 2, 20, 1, 14, 15, 16, 17, 18, 19, 3, 21, 22, 23, 24, 4, 25, 26, 27, 28, 29, 30, 31, 4, 25, 26, 27, 28, 29, 30, 31, 5, 32, 33, 34, 35, 6, 36, 37, 7, 38, 8, 9, 39, 10, 40, 41, 42, 43, 10, 40, 41, 42, 43, 10, 40, 41, 42, 43, 10, 40, 41, 42, 43, 10, 40, 41, 42, 43, 10, 40, 41, 42, 43, 10, 40, 41, 42, 43, 10, 40, 41, 42, 43, 10, 40, 41, 42, 43, 10, 40, 41, 42, 43, 10, 40, 41, 42, 43, 10, 40, 41, 42, 43, 10, 40, 41, 42, 43, 10, 40, 41, 42, 43, 10, 40, 41, 42, 43, 10, 40, 41, 42, 43, 10, 40, 41, 42, 43, 10, 40, 41, 42, 43, 10, 40, 41, 42, 43, 10, 40, 41, 42, 43, 10, 40, 41, 42, 43, 12, 13, 10, 40, 41, 42, 43, 10, 40, 41, 42, 43, 10, 40, 41, 42, 43, 11, 44, 45, 46, 47, 48, 49, 50, 51, 52, 53, 54, 55, 56, 57, 58, 59, 60, 61, 62, 63, 64, 65, 66, 67, 68, 69, 70, 71, 72, 73, 74],
  [(10, 14, []), (2, 12, []), (5, 12, []), (3, 5, []), (6, 12, []), (0, 5, []), (9, 3, []), (4, 5, []), (8, 3, []), (1, 4, []), (7, 9, []), (11, 58, []), (16, 2, []), (15, 2, []), (13, 40, []), (13, 40, []), (13, 11, []), (13, 40, []), (13, 80, []), (13, 80, []), (12, 800, []), (13, 10, []), (13, 10, []), (13, 10, []), (13, 80, []), (13, 200, []), (13, 200, []), (13, 40, []), (13, 40, []), (13, 40, []), (14, 20, []), (14, 20, []), (13, 100, []), (13, 10, []), (13, 10, []), (13, 20, []), (14, 10, []), (14, 40, []), (13, 20, []), (16, 20, []), (13, 12, []), (13, 12, []), (13, 12, []), (13, 12, []), (13, 103, []), (13, 2, []), (13, 2, []), (13, 2, []), (13, 2, []), (13, 2, []), (13, 2, []), (13, 80, []), (13, 200, []), (12, 800, []), (12, 46, []), (13, 100, []), (13, 10, []), (13, 10, []), (13, 20, []), (13, 100, []), (14, 40, []), (13, 200, []), (14, 20, []), (14, 20, []), (13, 200, []), (13, 40, []), (13, 40, []), (13, 103, []), (13, 20, []), (13, 10, []), (15, 20, []), (13, 20, []), (13, 2163, []), (13, 206, []), (15, 2, [])], [])
noncomputable def fx_FZ : List (List (Nat × Nat)) := [[(2, 3), (2, 41), (2, 42), (2, 43), (2, 44)],
  [(2, 52), (0, 0), (0, 0), (0, 0)],
  [(0, 0), (0, 0), (0, 0), (0, 0), (0, 0), (0, 0), (1, 1), (1, 2), (1, 3), (1, 4), (1, 5), (1, 6)],
  [(2, 3), (2, 20), (2, 21), (2, 22), (2, 23)],
  [(2, 3), (2, 45), (2, 49), (0, 0), (0, 0)],
  [(2, 11), (0, 0), (2, 12), (0, 0), (0, 0), (0, 0), (0, 0), (0, 0), (0, 0), (0, 0), (0, 0), (0, 0)],
  [(2, 3), (0, 0), (0, 0), (0, 0), (0, 0), (1, 1), (1, 2), (1, 3), (1, 4), (1, 5), (1, 6), (1, 7)],
  [(0, 0), (0, 0), (0, 0), (0, 0), (0, 0), (1, 1), (1, 2), (1, 3), (1, 4)],
  [(2, 3), (0, 0), (0, 0)],
  [(2, 3), (2, 46), (2, 47)],
  [(2, 3), (2, 10), (2, 19), (2, 24), (2, 32), (2, 40), (2, 45), (2, 48), (2, 50), (2, 51), (2, 153), (2, 158), (2, 159), (0, 0)],
  [(2, 176), (2, 177), (2, 178), (2, 179), (2, 180), (2, 181), (2, 182), (2, 183), (2, 184), (0, 0), (2, 185), (0, 0), (0, 0), (0, 0), (0, 0), (0, 0), (0, 0), (0, 0), (0, 0), (0, 0), (0, 0), (0, 0), (2, 186), (0, 0), (0, 0), (0, 0), (2, 187), (0, 0), (0, 0), (2, 188), (2, 189), (2, 190), (2, 191), (2, 192), (2, 193), (2, 194), (2, 195), (2, 196), (2, 197), (2, 198), (0, 0), (0, 0), (0, 0), (0, 0), (2, 199), (2, 200), (2, 201), (2, 202), (2, 203), (0, 0), (0, 0), (0, 0), (0, 0), (2, 204), (2, 205), (2, 206), (0, 0), (0, 0)]]
noncomputable def fx_SG : List (Nat × Nat × Nat) := [(2, 2, 5), (2, 1, 3), (2, 0, 6), (0, 0, 1), (2, 4, 4), (1, 1, 2), (2, 0, 3), (2, 0, 4), (0, 1, 1), (0, 1, 1), (0, 0, 1), (1, 2, 2), (1, 2, 2), (2, 2, 2), (2, 1, 3), (3, 1, 3), (2, 2, 3), (3, 1, 4), (1, 1, 2), (1, 1, 3), (1, 0, 3), (1, 2, 2), (3, 1, 4), (0, 0, 1), (2, 1, 3), (1, 1, 2), (3, 2, 4), (1, 2, 2), (3, 0, 5), (1, 1, 4), (1, 1, 4), (0, 1, 3), (0, 1, 2), (1, 2, 2), (1, 2, 2), (1, 1, 1), (0, 0, 1), (2, 3, 6), (2, 2, 3), (1, 1, 2), (1, 1, 2), (2, 1, 2), (1, 1, 1), (0, 0, 2), (1, 1, 4), (1, 0, 2), (0, 1, 1), (1, 1, 2), (3, 1, 3), (1, 0, 2), (1, 1, 2), (5, 1, 8), (0, 1, 2), (2, 2, 3), (1, 2, 2), (1, 2, 1), (3, 2, 3), (1, 2, 1), (2, 2, 4), (1, 2, 1), (1, 2, 2), (0, 0, 2), (2, 0, 3), (0, 1, 1), (0, 1, 1), (1, 1, 4), (0, 1, 3), (1, 0, 2), (0, 0, 2), (1, 1, 2), (1, 2, 2), (3, 1, 3), (0, 0, 3), (3, 1, 4), (1, 1, 1), (1, 0, 2), (3, 2, 9), (0, 1, 4), (5, 0, 10), (1, 4, 2), (1, 4, 3), (0, 0, 1), (1, 2, 2), (2, 2, 4), (0, 0, 4), (1, 0, 2), (1, 1, 4), (1, 0, 3), (1, 1, 5), (0, 1, 3), (2, 0, 3), (0, 0, 3), (1, 0, 2), (2, 1, 3), (2, 2, 7), (0, 1, 3), (0, 1, 4), (3, 2, 6), (0, 1, 4), (0, 0, 2), (1, 0, 2), (2, 1, 4), (1, 0, 2), (3, 1, 6), (1, 0, 2), (0, 2, 6), (1, 3, 6), (1, 3, 5), (1, 1, 2), (5, 1, 6), (0, 1, 4), (2, 1, 3), (1, 1, 4), (1, 1, 3), (0, 1, 1), (2, 1, 3), (0, 1, 3), (2, 1, 4), (1, 1, 3), (1, 2, 2), (1, 2, 2), (3, 2, 7), (1, 2, 2), (1, 2, 2), (1, 2, 2), (1, 0, 2), (2, 1, 3), (0, 2, 1), (0, 0, 1), (0, 0, 4), (0, 1, 3), (0, 0, 2), (0, 0, 2), (0, 2, 1), (3, 1, 6), (2, 2, 6), (1, 0, 3), (0, 0, 2), (1, 0, 2), (1, 0, 2), (2, 0, 4), (0, 0, 1), (2, 2, 3), (1, 2, 2), (2, 0, 6), (3, 1, 6), (2, 0, 5), (3, 1, 7), (1, 0, 5), (2, 0, 6), (3, 0, 5), (1, 1, 7), (3, 0, 9), (1, 1, 2), (1, 1, 2), (0, 2, 1), (0, 2, 1), (1, 1, 2), (2, 0, 4), (0, 1, 1), (2, 2, 3), (1, 0, 2), (1, 1, 2), (0, 1, 3), (1, 2, 2), (2, 0, 7), (2, 1, 3), (1, 1, 4), (1, 1, 2), (1, 1, 10), (0, 0, 2), (1, 1, 2), (1, 1, 2), (1, 1, 4), (3, 1, 7), (0, 2, 1), (2, 0, 5), (0, 0, 3), (1, 0, 4), (0, 0, 4), (2, 0, 4), (2, 0, 4), (0, 0, 2), (2, 1, 3), (1, 1, 2), (2, 1, 3), (1, 1, 2), (2, 1, 3), (2, 1, 3), (1, 1, 2), (0, 1, 3), (2, 1, 3), (1, 1, 2), (1, 1, 2), (1, 0, 2), (1, 1, 2), (0, 2, 2), (2, 2, 3), (1, 0, 2), (2, 1, 4), (2, 2, 6), (1, 1, 4), (2, 1, 3), (1, 1, 5), (1, 1, 5), (1, 2, 3), (1, 2, 4), (2, 1, 3), (3, 0, 8), (0, 2, 2), (3, 3, 9), (2, 3, 3), (2, 0, 3), (4, 1, 10), (3, 1, 4), (2, 1, 3), (1, 1, 4), (1, 1, 2), (2, 1, 3), (0, 1, 1), (2, 1, 4), (4, 2, 5), (1, 2, 2), (1, 0, 3), (0, 1, 4), (1, 0, 3), (1, 0, 4), (0, 1, 5), (3, 1, 4), (3, 1, 5), (2, 1, 4), (1, 1, 3), (1, 1, 2), (2, 1, 3), (3, 1, 4), (1, 0, 2), (0, 1, 3), (3, 3, 4), (2, 3, 3), (2, 1, 5), (2, 1, 4), (2, 2, 3), (2, 2, 3), (2, 1, 3), (1, 0, 3), (3, 1, 8), (1, 0, 2), (1, 1, 3), (1, 1, 6), (2, 1, 4), (0, 1, 2), (2, 1, 3), (2, 1, 3), (2, 1, 3), (1, 1, 2), (0, 1, 3), (2, 1, 3), (1, 2, 3), (2, 2, 5), (3, 2, 5), (1, 0, 6), (0, 0, 3), (1, 1, 3), (1, 0, 2), (0, 0, 2), (0, 0, 1), (0, 2, 3), (2, 0, 6), (0, 0, 2), (1, 0, 5), (3, 1, 6), (2, 1, 3), (0, 1, 2), (1, 1, 2), (0, 1, 3), (1, 2, 3), (3, 1, 5), (0, 0, 3), (0, 0, 5), (1, 1, 4), (3, 3, 7), (2, 3, 3), (0, 2, 1), (0, 1, 1), (3, 1, 4), (0, 1, 3), (0, 0, 4), (2, 1, 3), (1, 1, 2), (3, 1, 4), (2, 1, 4), (1, 2, 4), (0, 1, 5), (0, 1, 3), (0, 0, 5), (1, 1, 4), (1, 1, 2), (1, 1, 2), (2, 1, 4), (1, 2, 4), (1, 1, 6), (3, 1, 6), (2, 1, 4), (2, 1, 3), (1, 1, 2), (0, 1, 3), (1, 2, 4), (1, 1, 3), (1, 2, 4), (2, 1, 4), (2, 1, 3), (2, 1, 3), (1, 2, 4), (1, 2, 4), (1, 2, 4), (1, 2, 4), (1, 2, 4), (1, 2, 4), (1, 2, 4), (1, 2, 4), (1, 2, 4), (1, 2, 4), (1, 2, 4), (1, 2, 4), (1, 2, 4), (1, 2, 4), (1, 2, 4), (1, 2, 4), (1, 2, 4), (0, 2, 1), (0, 2, 2), (0, 1, 3)]
noncomputable def fx_IL : List Bool := [false, true, false, true, true, true, true, true, true, true, true, true, true, true, true, true, true, true, true, false, false, false, true, true, true, true, true, true, false, false, false, false, false, true, true, true, true, false, true, true, true, true, false, false, false, true, true, true, true, false, true, false, false, true, false, false, true, false, false, false, false, false, false, true, true, false, false, false, false, false, true, true, false, true, false, false, false, false, false, false, false, false, true, false, false, false, false, false, false, false, false, false, false, true, false, false, false, false, false, false, false, true, false, true, false, false, false, false, true, true, false, true, false, false, true, true, false, true, false, false, true, false, true, true, true, false, true, true, false, false, false, false, false, true, false, false, false, false, false, false, false, false, false, false, false, false, false, false, false, false, false, false, false, true, true, true, true, true, true, false, true, false, true, false, true, false, true, false, true, false, false, true, true, false, false, false, false, false, false, false, false, false, false, true, true, true, true, true, true, true, false, true, true, false, false, true, false, true, false, false, false, false, true, false, false, false, false, true, false, false, false, false, false, false, true, true, true, true, false, true, false, false, true, false, false, false, false, false, true, true, false, true, true, true, true, false, false, true, true, true, false, false, true, true, false, false, false, true, false, false, true, true, true, true, true, false, true, false, false, false, false, false, true, false, false, false, false, false, false, false, false, false, true, true, false, false, true, false, false, false, false, true, false, false, true, false, false, true, true, true, false, false, false, false, false, false, true, true, false, false, false, false, false, true, true, false, false, false, false, true, true, true, false, false, false, false, false, false, false, false, false, false, false, false, false, false, false, false, false, false, false, false]
noncomputable def fx_CV : List Bool := [true, true, true, true, true, true, true, true, true, true, true, true, true, true, true, true, true, true, true, true, true, true, true, true, true, true, true, true, true, true, true, true, true, true, true, true, true, true, true, true, true, true, true, true, true, true, true, true, true, true, true, true, true, true, true, true, true, true, true, true, true, true, true, true, true, true, true, true, true, true, true, true, true, true, true, false, true, true, true, true, true, false, true, true, true, false, true, true, true, true, false, true, false, true, true, true, true, true, true, false, true, true, false, true, false, true, true, true, true, true, true, true, true, true, true, true, true, true, true, true, true, true, true, true, true, true, true, true, true, true, true, true, true, true, true, true, true, false, true, true, true, false, true, true, true, true, true, true, true, true, true, true, true, true, true, true, true, true, true, true, true, true, true, true, true, true, true, true, true, true, true, true, true, true, true, true, true, true, true, true, true, true, false, true, true, true, true, true, true, true, true, true, true, true, true, true, true, true, true, true, true, true, true, true, true, true, true, true, true, true, true, true, true, true, true, true, true, true, true, true, true, true, true, true, true, true, true, true, true, true, true, true, true, true, true, true, true, true, true, true, true, true, true, true, true, true, true, true, true, true, true, true, true, true, true, true, true, true, true, true, true, true, true, true, true, false, true, true, true, true, true, true, true, true, true, true, true, true, true, true, true, true, true, true, true, true, true, true, true, true, true, true, true, true, true, true, true, true, true, true, true, true, true, true, true, true, true, true, true, true, true, true, true, true, true, true, true, true, true, true, true, true, true, true, true, true, true, true, true, true, true, true]
noncomputable def fx_AP : List (List (List ax_I)) := [axm_0, axm_1, axm_2, axm_3, axm_4, axm_5, axm_6, axm_7, axm_8, axm_9, axm_10, axm_11, axm_12, axm_13, axm_14, axm_15, axm_16, axm_17, axm_18, axm_19, axm_20, axm_21, axm_22, axm_23, axm_24, axm_25, axm_26, axm_27, axm_28, axm_29, axm_30, axm_31, axm_32, axm_33, axm_34, axm_35, axm_36, axm_37, axm_38, axm_39, axm_40, axm_41, axm_42, axm_43, axm_44, axm_45, axm_46, axm_47, axm_48, axm_49, axm_50, axm_51, axm_52, axm_53, axm_54, axm_55, axm_56, axm_57, axm_58, axm_59, axm_60, axm_61, axm_62, axm_63, axm_64, axm_65, axm_66, axm_67, axm_68, axm_69, axm_70, axm_71, axm_72, axm_73, axm_74, axm_75, axm_76, axm_77, axm_78, axm_79, axm_80, axm_81, axm_82, axm_83, axm_84, axm_85, axm_86, axm_87, axm_88, axm_89, axm_90, axm_91, axm_92, axm_93, axm_94, axm_95, axm_96, axm_97, axm_98, axm_99, axm_100, axm_101, axm_102, axm_103, axm_104, axm_105, axm_106, axm_107, axm_108, axm_109, axm_110, axm_111, axm_112, axm_113, axm_114, axm_115, axm_116, axm_117, axm_118, axm_119, axm_120, axm_121, axm_122, axm_123, axm_124, axm_125, axm_126, axm_127, axm_128, axm_129, axm_130, axm_131, axm_132, axm_133, axm_134, axm_135, axm_136, axm_137, axm_138, axm_139, axm_140, axm_141, axm_142, axm_143, axm_144, axm_145, axm_146, axm_147, axm_148, axm_149, axm_150, axm_151, axm_152, axm_153, axm_154, axm_155, axm_156, axm_157, axm_158, axm_159, axm_160, axm_161, axm_162, axm_163, axm_164, axm_165, axm_166, axm_167, axm_168, axm_169, axm_170, axm_171, axm_172, axm_173, axm_174, axm_175, axm_176, axm_177, axm_178, axm_179, axm_180, axm_181, axm_182, axm_183, axm_184, axm_185, axm_186, axm_187, axm_188, axm_189, axm_190, axm_191, axm_192, axm_193, axm_194, axm_195, axm_196, axm_197, axm_198, axm_199, axm_200, axm_201, axm_202, axm_203, axm_204, axm_205, axm_206, axm_207, axm_208, axm_209, axm_210, axm_211, axm_212, axm_213, axm_214, axm_215, axm_216, axm_217, axm_218, axm_219, axm_220, axm_221, axm_222, axm_223, axm_224, axm_225, axm_226, axm_227, axm_228, axm_229, axm_230, axm_231, axm_232, axm_233, axm_234, axm_235, axm_236, axm_237, axm_238, axm_239, axm_240, axm_241, axm_242, axm_243, axm_244, axm_245, axm_246, axm_247, axm_248, axm_249, axm_250, axm_251, axm_252, axm_253, axm_254, axm_255, axm_256, axm_257, axm_258, axm_259, axm_260, axm_261, axm_262, axm_263, axm_264, axm_265, axm_266, axm_267, axm_268, axm_269, axm_270, axm_271, axm_272, axm_273, axm_274, axm_275, axm_276, axm_277, axm_278, axm_279, axm_280, axm_281, axm_282, axm_283, axm_284, axm_285, axm_286, axm_287, axm_288, axm_289, axm_290, axm_291, axm_292, axm_293, axm_294, axm_295, axm_296, axm_297, axm_298, axm_299, axm_300, axm_301, axm_302, axm_303, axm_304, axm_305, axm_306, axm_307, axm_308, axm_309, axm_310, axm_311, axm_312, axm_313, axm_314, axm_315, axm_316, axm_317, axm_318, axm_319, axm_320, axm_321, axm_322, axm_323, axm_324, axm_325, axm_326, axm_327, axm_328, axm_329, axm_330, axm_331]
noncomputable abbrev fx_K : rx_K := (rx_DF, rx_FK)
noncomputable def Rn (n i pc : Nat) (lv st : List fx_V) (F : fx_F) (v : fx_V) (F' : fx_F) : Prop := fx_R fx_w fx_FZ rx_P fx_K n i pc lv st F v F'
noncomputable def Cl : fx_C := fx_E fx_w fx_FZ rx_P fx_K fx_SG
abbrev k_Gr_hasSpace : Nat := 0
abbrev k_Gr_hopsOf : Nat := 1
abbrev k_Gr_useRow : Nat := 2
abbrev k_Hi_clear : Nat := 3
abbrev k_Hi_exchange : Nat := 4
abbrev k_Hi_slotOf : Nat := 5
abbrev k_Net_addCode : Nat := 6
abbrev k_Net_addLink : Nat := 7
abbrev k_Net_allLinks : Nat := 8
abbrev k_Net_channels : Nat := 9
abbrev k_Net_clear : Nat := 10
abbrev k_Net_hasLink : Nat := 11
abbrev k_Net_hasSwitch : Nat := 12
abbrev k_Net_isUp : Nat := 13
abbrev k_Net_upEnd : Nat := 14
abbrev k_Or_combine : Nat := 15
abbrev k_Or_isAbove : Nat := 16
abbrev k_Or_leaf : Nat := 17
abbrev k_Pl_linksOf : Nat := 18
abbrev k_Pl_phaseOf : Nat := 19
abbrev k_Rd_append : Nat := 20
abbrev k_Rd_fail : Nat := 21
abbrev k_Ro_entryOf : Nat := 22
abbrev k_Ro_forget : Nat := 23
abbrev k_Ro_hopsOf : Nat := 24
abbrev k_Ro_placeBehind : Nat := 25
abbrev k_Ro_reach : Nat := 26
abbrev k_Ro_stands : Nat := 27
abbrev k_St_begin : Nat := 28
abbrev k_St_countAt : Nat := 29
abbrev k_St_countCameBy : Nat := 30
abbrev k_St_countPackets : Nat := 31
abbrev k_St_freePacket : Nat := 32
abbrev k_St_hasPacket : Nat := 33
abbrev k_St_stands : Nat := 34
abbrev k_Tr_draw : Nat := 35
abbrev k_Tr_startCount : Nat := 36
abbrev k_Tu_lawful : Nat := 37
abbrev k_Tu_leads : Nat := 38
abbrev k_T_end : Nat := 39
abbrev k_T_fault : Nat := 40
abbrev k_M_behind : Nat := 41
abbrev k_M_bindsBy : Nat := 42
abbrev k_M_bringBack : Nat := 43
abbrev k_M_cameBy : Nat := 44
abbrev k_M_clearBank : Nat := 45
abbrev k_M_draw : Nat := 46
abbrev k_M_end : Nat := 47
abbrev k_M_endAt : Nat := 48
abbrev k_M_fail : Nat := 49
abbrev k_M_fault : Nat := 50
abbrev k_M_feed : Nat := 51
abbrev k_M_freePacket : Nat := 52
abbrev k_M_isAbove : Nat := 53
abbrev k_M_isBlank : Nat := 54
abbrev k_M_isDigit : Nat := 55
abbrev k_M_isIn : Nat := 56
abbrev k_M_isLetter : Nat := 57
abbrev k_M_isSame : Nat := 58
abbrev k_M_isSign : Nat := 59
abbrev k_M_isWord : Nat := 60
abbrev k_M_keepAct : Nat := 61
abbrev k_M_lay : Nat := 62
abbrev k_M_linksNow : Nat := 63
abbrev k_M_nodesNow : Nat := 64
abbrev k_M_packetsAt : Nat := 65
abbrev k_M_packetsNow : Nat := 66
abbrev k_M_push : Nat := 67
abbrev k_M_putAside : Nat := 68
abbrev k_M_signAt : Nat := 69
abbrev k_M_stands : Nat := 70
abbrev k_M_stateAt : Nat := 71
abbrev k_M_swapAll : Nat := 72
abbrev k_M_work : Nat := 73
abbrev k_I_bitCount : Nat := 74
abbrev k_Gr_init : Nat := 75
abbrev k_Gr_findRow : Nat := 76
abbrev k_Gr_pairsWithout : Nat := 77
abbrev k_Gr_spread : Nat := 78
abbrev k_Hi_stepBack : Nat := 79
abbrev k_Hi_stepOn : Nat := 80
abbrev k_Net_init : Nat := 81
abbrev k_Net_hasChannel : Nat := 82
abbrev k_Net_joins : Nat := 83
abbrev k_Net_listChannels : Nat := 84
abbrev k_Or_init : Nat := 85
abbrev k_Or_countAbove : Nat := 86
abbrev k_Or_countLinks : Nat := 87
abbrev k_Or_evaluate : Nat := 88
abbrev k_Or_upEnds : Nat := 89
abbrev k_Pl_init : Nat := 90
abbrev k_Rd_advance : Nat := 91
abbrev k_Ro_init : Nat := 92
abbrev k_Ro_entryBehind : Nat := 93
abbrev k_Ro_growLevel : Nat := 94
abbrev k_Ro_heaviestChannel : Nat := 95
abbrev k_Ro_hopsTogether : Nat := 96
abbrev k_Ro_leadsOn : Nat := 97
abbrev k_Ro_pairsWithout : Nat := 98
abbrev k_St_init : Nat := 99
abbrev k_St_copyFrom : Nat := 100
abbrev k_St_put : Nat := 101
abbrev k_Tr_init : Nat := 102
abbrev k_Tr_nextChannel : Nat := 103
abbrev k_Tu_init : Nat := 104
abbrev k_Tu_haveRing : Nat := 105
abbrev k_Tu_ontoFrom : Nat := 106
abbrev k_Tu_upChannels : Nat := 107
abbrev k_T_about : Nat := 108
abbrev k_T_feed : Nat := 109
abbrev k_T_hopsWhereWays : Nat := 110
abbrev k_T_link : Nat := 111
abbrev k_M_aboveOf : Nat := 112
abbrev k_M_back : Nat := 113
abbrev k_M_channels : Nat := 114
abbrev k_M_endOf : Nat := 115
abbrev k_M_flips : Nat := 116
abbrev k_M_goSend : Nat := 117
abbrev k_M_image : Nat := 118
abbrev k_M_isAt : Nat := 119
abbrev k_M_isChannel : Nat := 120
abbrev k_M_isJoined : Nat := 121
abbrev k_M_isLink : Nat := 122
abbrev k_M_isNode : Nat := 123
abbrev k_M_isPacket : Nat := 124
abbrev k_M_layOpen : Nat := 125
abbrev k_M_lengthTo : Nat := 126
abbrev k_M_redo : Nat := 127
abbrev k_M_scanNumber : Nat := 128
abbrev k_M_scanWord : Nat := 129
abbrev k_M_standing : Nat := 130
abbrev k_M_takeOver : Nat := 131
abbrev k_M_turnTaken : Nat := 132
abbrev k_M_undo : Nat := 133
abbrev k_Gr_countApart : Nat := 134
abbrev k_Gr_parts : Nat := 135
abbrev k_Gr_see : Nat := 136
abbrev k_Hi_init : Nat := 137
abbrev k_Hi_keep : Nat := 138
abbrev k_Net_copyFrom : Nat := 139
abbrev k_Or_rate : Nat := 140
abbrev k_Rd_init : Nat := 141
abbrev k_Rd_readNumber : Nat := 142
abbrev k_Rd_readSign : Nat := 143
abbrev k_Ro_addOnward : Nat := 144
abbrev k_Ro_channelOnPath : Nat := 145
abbrev k_Ro_countPath : Nat := 146
abbrev k_Ro_leastUsed : Nat := 147
abbrev k_Ro_measure : Nat := 148
abbrev k_Ro_passArriving : Nat := 149
abbrev k_Tr_goOn : Nat := 150
abbrev k_Tu_shortestRing : Nat := 151
abbrev k_Tu_take : Nat := 152
abbrev k_T_back : Nat := 153
abbrev k_T_image : Nat := 154
abbrev k_T_redo : Nat := 155
abbrev k_T_undo : Nat := 156
abbrev k_M_about : Nat := 157
abbrev k_M_addPair : Nat := 158
abbrev k_M_binary : Nat := 159
abbrev k_M_canSend : Nat := 160
abbrev k_M_closeMinus : Nat := 161
abbrev k_M_fromOf : Nat := 162
abbrev k_M_heaviestNow : Nat := 163
abbrev k_M_isStanding : Nat := 164
abbrev k_M_layFar : Nat := 165
abbrev k_M_link : Nat := 166
abbrev k_M_linksOf : Nat := 167
abbrev k_M_mend : Nat := 168
abbrev k_M_roundOf : Nat := 169
abbrev k_M_scan : Nat := 170
abbrev k_M_toOf : Nat := 171
abbrev k_M_turn : Nat := 172
abbrev k_Gr_findPivots : Nat := 173
abbrev k_Pl_takeLinks : Nat := 174
abbrev k_Rd_closeLine : Nat := 175
abbrev k_Ro_countArriving : Nat := 176
abbrev k_Ro_countLoads : Nat := 177
abbrev k_Ro_countOnward : Nat := 178
abbrev k_Ro_fillTable : Nat := 179
abbrev k_Ro_see : Nat := 180
abbrev k_Tr_goStep : Nat := 181
abbrev k_T_init : Nat := 182
abbrev k_T_apart : Nat := 183
abbrev k_T_cut : Nat := 184
abbrev k_T_depends : Nat := 185
abbrev k_T_mend : Nat := 186
abbrev k_T_node : Nat := 187
abbrev k_T_plain : Nat := 188
abbrev k_T_ring : Nat := 189
abbrev k_T_rings : Nat := 190
abbrev k_T_send : Nat := 191
abbrev k_T_turn : Nat := 192
abbrev k_T_upEndsBy : Nat := 193
abbrev k_M_closeOne : Nat := 194
abbrev k_M_cut : Nat := 195
abbrev k_M_hasRing : Nat := 196
abbrev k_M_isUpBy : Nat := 197
abbrev k_M_need : Nat := 198
abbrev k_M_numeral : Nat := 199
abbrev k_M_oneMore : Nat := 200
abbrev k_M_pairsOf : Nat := 201
abbrev k_M_plain : Nat := 202
abbrev k_M_plainPairs : Nat := 203
abbrev k_M_rankOf : Nat := 204
abbrev k_M_readBinary : Nat := 205
abbrev k_M_readUnit : Nat := 206
abbrev k_M_send : Nat := 207
abbrev k_Pl_lay : Nat := 208
abbrev k_Rd_readLink : Nat := 209
abbrev k_Ro_countThrough : Nat := 210
abbrev k_Ro_countWays : Nat := 211
abbrev k_Ro_seeTable : Nat := 212
abbrev k_Tr_play : Nat := 213
abbrev k_T_around : Nat := 214
abbrev k_T_length : Nat := 215
abbrev k_T_orient : Nat := 216
abbrev k_T_pairs : Nat := 217
abbrev k_T_pairsWithoutWay : Nat := 218
abbrev k_T_pivots : Nat := 219
abbrev k_M_apart : Nat := 220
abbrev k_M_isTurn : Nat := 221
abbrev k_M_isUp : Nat := 222
abbrev k_M_layRanks : Nat := 223
abbrev k_M_pivots : Nat := 224
abbrev k_M_readLink : Nat := 225
abbrev k_M_readRule : Nat := 226
abbrev k_T_dearest : Nat := 227
abbrev k_T_entry : Nat := 228
abbrev k_T_game : Nat := 229
abbrev k_T_goSteps : Nat := 230
abbrev k_T_heaviest : Nat := 231
abbrev k_T_load : Nat := 232
abbrev k_T_packet : Nat := 233
abbrev k_T_path : Nat := 234
abbrev k_T_planFor : Nat := 235
abbrev k_T_runEmpty : Nat := 236
abbrev k_T_through : Nat := 237
abbrev k_T_ways : Nat := 238
abbrev k_T_without : Nat := 239
abbrev k_T_worthOf : Nat := 240
abbrev k_M_isLawful : Nat := 241
abbrev k_M_isOpen : Nat := 242
abbrev k_M_node : Nat := 243
abbrev k_M_orientBy : Nat := 244
abbrev k_M_pathAt : Nat := 245
abbrev k_M_readLine : Nat := 246
abbrev k_M_wayOf : Nat := 247
abbrev k_T_best : Nat := 248
abbrev k_T_change : Nat := 249
abbrev k_T_drains : Nat := 250
abbrev k_T_phase : Nat := 251
abbrev k_T_plan : Nat := 252
abbrev k_T_rooted : Nat := 253
abbrev k_T_steps : Nat := 254
abbrev k_T_stuck : Nat := 255
abbrev k_M_depends : Nat := 256
abbrev k_M_goPacket : Nat := 257
abbrev k_M_isEither : Nat := 258
abbrev k_M_isNext : Nat := 259
abbrev k_M_layGoal : Nat := 260
abbrev k_M_layTurns : Nat := 261
abbrev k_M_orient : Nat := 262
abbrev k_M_readAll : Nat := 263
abbrev k_M_startAnew : Nat := 264
abbrev k_M_init : Nat := 265
abbrev k_M_isSafe : Nat := 266
abbrev k_M_layCome : Nat := 267
abbrev k_M_layGoals : Nat := 268
abbrev k_M_layOnward : Nat := 269
abbrev k_M_leastUsed : Nat := 270
abbrev k_M_length : Nat := 271
abbrev k_M_net : Nat := 272
abbrev k_M_ring : Nat := 273
abbrev k_M_rings : Nat := 274
abbrev k_Rd_isWord : Nat := 275
abbrev k_M_around : Nat := 276
abbrev k_M_layPairs : Nat := 277
abbrev k_M_layTable : Nat := 278
abbrev k_M_takePhase : Nat := 279
abbrev k_M_through : Nat := 280
abbrev k_M_ways : Nat := 281
abbrev k_Rd_readSwitches : Nat := 282
abbrev k_Rd_unitKind : Nat := 283
abbrev k_M_entry : Nat := 284
abbrev k_M_goStep : Nat := 285
abbrev k_M_layLoads : Nat := 286
abbrev k_M_packet : Nat := 287
abbrev k_M_pairs : Nat := 288
abbrev k_M_path : Nat := 289
abbrev k_M_without : Nat := 290
abbrev k_Rd_readUnit6 : Nat := 291
abbrev k_M_dearest : Nat := 292
abbrev k_M_drains : Nat := 293
abbrev k_M_gameOnce : Nat := 294
abbrev k_M_goSteps : Nat := 295
abbrev k_M_heaviest : Nat := 296
abbrev k_M_load : Nat := 297
abbrev k_M_rootedBy : Nat := 298
abbrev k_Rd_readProduct6 : Nat := 299
abbrev k_M_best : Nat := 300
abbrev k_M_game : Nat := 301
abbrev k_M_goPhases : Nat := 302
abbrev k_M_rooted : Nat := 303
abbrev k_M_steps : Nat := 304
abbrev k_M_stuck : Nat := 305
abbrev k_Rd_readSum6 : Nat := 306
abbrev k_M_planFor : Nat := 307
abbrev k_Rd_readUnit5 : Nat := 308
abbrev k_M_change : Nat := 309
abbrev k_M_phase : Nat := 310
abbrev k_M_plan : Nat := 311
abbrev k_Rd_readProduct5 : Nat := 312
abbrev k_Rd_readSum5 : Nat := 313
abbrev k_Rd_readUnit4 : Nat := 314
abbrev k_Rd_readProduct4 : Nat := 315
abbrev k_Rd_readSum4 : Nat := 316
abbrev k_Rd_readUnit3 : Nat := 317
abbrev k_Rd_readProduct3 : Nat := 318
abbrev k_Rd_readSum3 : Nat := 319
abbrev k_Rd_readUnit2 : Nat := 320
abbrev k_Rd_readProduct2 : Nat := 321
abbrev k_Rd_readSum2 : Nat := 322
abbrev k_Rd_readUnit1 : Nat := 323
abbrev k_Rd_readProduct1 : Nat := 324
abbrev k_Rd_readSum1 : Nat := 325
abbrev k_Rd_readUnit0 : Nat := 326
abbrev k_Rd_readProduct0 : Nat := 327
abbrev k_Rd_readSum0 : Nat := 328
abbrev k_Rd_readLine : Nat := 329
abbrev k_Rd_readText : Nat := 330
abbrev k_T_net : Nat := 331
theorem cv_0 : rx_nth fx_CV 0 = some true := by decide +kernel
theorem ap_0 : rx_nth fx_AP 0 = some axm_0 := rfl
theorem sg_0 : rx_nth fx_SG 0 = some (2, 2, 5) := rfl
theorem cv_1 : rx_nth fx_CV 1 = some true := by decide +kernel
theorem ap_1 : rx_nth fx_AP 1 = some axm_1 := rfl
theorem sg_1 : rx_nth fx_SG 1 = some (2, 1, 3) := rfl
theorem cv_2 : rx_nth fx_CV 2 = some true := by decide +kernel
theorem ap_2 : rx_nth fx_AP 2 = some axm_2 := rfl
theorem sg_2 : rx_nth fx_SG 2 = some (2, 0, 6) := rfl
theorem cv_3 : rx_nth fx_CV 3 = some true := by decide +kernel
theorem ap_3 : rx_nth fx_AP 3 = some axm_3 := rfl
theorem sg_3 : rx_nth fx_SG 3 = some (0, 0, 1) := rfl
theorem cv_4 : rx_nth fx_CV 4 = some true := by decide +kernel
theorem ap_4 : rx_nth fx_AP 4 = some axm_4 := rfl
theorem sg_4 : rx_nth fx_SG 4 = some (2, 4, 4) := rfl
theorem cv_5 : rx_nth fx_CV 5 = some true := by decide +kernel
theorem ap_5 : rx_nth fx_AP 5 = some axm_5 := rfl
theorem sg_5 : rx_nth fx_SG 5 = some (1, 1, 2) := rfl
theorem cv_6 : rx_nth fx_CV 6 = some true := by decide +kernel
theorem ap_6 : rx_nth fx_AP 6 = some axm_6 := rfl
theorem sg_6 : rx_nth fx_SG 6 = some (2, 0, 3) := rfl
theorem cv_7 : rx_nth fx_CV 7 = some true := by decide +kernel
theorem ap_7 : rx_nth fx_AP 7 = some axm_7 := rfl
theorem sg_7 : rx_nth fx_SG 7 = some (2, 0, 4) := rfl
theorem cv_8 : rx_nth fx_CV 8 = some true := by decide +kernel
theorem ap_8 : rx_nth fx_AP 8 = some axm_8 := rfl
theorem sg_8 : rx_nth fx_SG 8 = some (0, 1, 1) := rfl
theorem cv_9 : rx_nth fx_CV 9 = some true := by decide +kernel
theorem ap_9 : rx_nth fx_AP 9 = some axm_9 := rfl
theorem sg_9 : rx_nth fx_SG 9 = some (0, 1, 1) := rfl
theorem cv_10 : rx_nth fx_CV 10 = some true := by decide +kernel
theorem ap_10 : rx_nth fx_AP 10 = some axm_10 := rfl
theorem sg_10 : rx_nth fx_SG 10 = some (0, 0, 1) := rfl
theorem cv_11 : rx_nth fx_CV 11 = some true := by decide +kernel
theorem ap_11 : rx_nth fx_AP 11 = some axm_11 := rfl
theorem sg_11 : rx_nth fx_SG 11 = some (1, 2, 2) := rfl
theorem cv_12 : rx_nth fx_CV 12 = some true := by decide +kernel
theorem ap_12 : rx_nth fx_AP 12 = some axm_12 := rfl
theorem sg_12 : rx_nth fx_SG 12 = some (1, 2, 2) := rfl
theorem cv_13 : rx_nth fx_CV 13 = some true := by decide +kernel
theorem ap_13 : rx_nth fx_AP 13 = some axm_13 := rfl
theorem sg_13 : rx_nth fx_SG 13 = some (2, 2, 2) := rfl
theorem cv_14 : rx_nth fx_CV 14 = some true := by decide +kernel
theorem ap_14 : rx_nth fx_AP 14 = some axm_14 := rfl
theorem sg_14 : rx_nth fx_SG 14 = some (2, 1, 3) := rfl
theorem cv_15 : rx_nth fx_CV 15 = some true := by decide +kernel
theorem ap_15 : rx_nth fx_AP 15 = some axm_15 := rfl
theorem sg_15 : rx_nth fx_SG 15 = some (3, 1, 3) := rfl
theorem cv_16 : rx_nth fx_CV 16 = some true := by decide +kernel
theorem ap_16 : rx_nth fx_AP 16 = some axm_16 := rfl
theorem sg_16 : rx_nth fx_SG 16 = some (2, 2, 3) := rfl
theorem cv_17 : rx_nth fx_CV 17 = some true := by decide +kernel
theorem ap_17 : rx_nth fx_AP 17 = some axm_17 := rfl
theorem sg_17 : rx_nth fx_SG 17 = some (3, 1, 4) := rfl
theorem cv_18 : rx_nth fx_CV 18 = some true := by decide +kernel
theorem ap_18 : rx_nth fx_AP 18 = some axm_18 := rfl
theorem sg_18 : rx_nth fx_SG 18 = some (1, 1, 2) := rfl
theorem cv_19 : rx_nth fx_CV 19 = some true := by decide +kernel
theorem ap_19 : rx_nth fx_AP 19 = some axm_19 := rfl
theorem sg_19 : rx_nth fx_SG 19 = some (1, 1, 3) := rfl
theorem cv_20 : rx_nth fx_CV 20 = some true := by decide +kernel
theorem ap_20 : rx_nth fx_AP 20 = some axm_20 := rfl
theorem sg_20 : rx_nth fx_SG 20 = some (1, 0, 3) := rfl
theorem cv_21 : rx_nth fx_CV 21 = some true := by decide +kernel
theorem ap_21 : rx_nth fx_AP 21 = some axm_21 := rfl
theorem sg_21 : rx_nth fx_SG 21 = some (1, 2, 2) := rfl
theorem cv_22 : rx_nth fx_CV 22 = some true := by decide +kernel
theorem ap_22 : rx_nth fx_AP 22 = some axm_22 := rfl
theorem sg_22 : rx_nth fx_SG 22 = some (3, 1, 4) := rfl
theorem cv_23 : rx_nth fx_CV 23 = some true := by decide +kernel
theorem ap_23 : rx_nth fx_AP 23 = some axm_23 := rfl
theorem sg_23 : rx_nth fx_SG 23 = some (0, 0, 1) := rfl
theorem cv_24 : rx_nth fx_CV 24 = some true := by decide +kernel
theorem ap_24 : rx_nth fx_AP 24 = some axm_24 := rfl
theorem sg_24 : rx_nth fx_SG 24 = some (2, 1, 3) := rfl
theorem cv_25 : rx_nth fx_CV 25 = some true := by decide +kernel
theorem ap_25 : rx_nth fx_AP 25 = some axm_25 := rfl
theorem sg_25 : rx_nth fx_SG 25 = some (1, 1, 2) := rfl
theorem cv_26 : rx_nth fx_CV 26 = some true := by decide +kernel
theorem ap_26 : rx_nth fx_AP 26 = some axm_26 := rfl
theorem sg_26 : rx_nth fx_SG 26 = some (3, 2, 4) := rfl
theorem cv_27 : rx_nth fx_CV 27 = some true := by decide +kernel
theorem ap_27 : rx_nth fx_AP 27 = some axm_27 := rfl
theorem sg_27 : rx_nth fx_SG 27 = some (1, 2, 2) := rfl
theorem cv_28 : rx_nth fx_CV 28 = some true := by decide +kernel
theorem ap_28 : rx_nth fx_AP 28 = some axm_28 := rfl
theorem sg_28 : rx_nth fx_SG 28 = some (3, 0, 5) := rfl
theorem cv_29 : rx_nth fx_CV 29 = some true := by decide +kernel
theorem ap_29 : rx_nth fx_AP 29 = some axm_29 := rfl
theorem sg_29 : rx_nth fx_SG 29 = some (1, 1, 4) := rfl
theorem cv_30 : rx_nth fx_CV 30 = some true := by decide +kernel
theorem ap_30 : rx_nth fx_AP 30 = some axm_30 := rfl
theorem sg_30 : rx_nth fx_SG 30 = some (1, 1, 4) := rfl
theorem cv_31 : rx_nth fx_CV 31 = some true := by decide +kernel
theorem ap_31 : rx_nth fx_AP 31 = some axm_31 := rfl
theorem sg_31 : rx_nth fx_SG 31 = some (0, 1, 3) := rfl
theorem cv_32 : rx_nth fx_CV 32 = some true := by decide +kernel
theorem ap_32 : rx_nth fx_AP 32 = some axm_32 := rfl
theorem sg_32 : rx_nth fx_SG 32 = some (0, 1, 2) := rfl
theorem cv_33 : rx_nth fx_CV 33 = some true := by decide +kernel
theorem ap_33 : rx_nth fx_AP 33 = some axm_33 := rfl
theorem sg_33 : rx_nth fx_SG 33 = some (1, 2, 2) := rfl
theorem cv_34 : rx_nth fx_CV 34 = some true := by decide +kernel
theorem ap_34 : rx_nth fx_AP 34 = some axm_34 := rfl
theorem sg_34 : rx_nth fx_SG 34 = some (1, 2, 2) := rfl
theorem cv_35 : rx_nth fx_CV 35 = some true := by decide +kernel
theorem ap_35 : rx_nth fx_AP 35 = some axm_35 := rfl
theorem sg_35 : rx_nth fx_SG 35 = some (1, 1, 1) := rfl
theorem cv_36 : rx_nth fx_CV 36 = some true := by decide +kernel
theorem ap_36 : rx_nth fx_AP 36 = some axm_36 := rfl
theorem sg_36 : rx_nth fx_SG 36 = some (0, 0, 1) := rfl
theorem cv_37 : rx_nth fx_CV 37 = some true := by decide +kernel
theorem ap_37 : rx_nth fx_AP 37 = some axm_37 := rfl
theorem sg_37 : rx_nth fx_SG 37 = some (2, 3, 6) := rfl
theorem cv_38 : rx_nth fx_CV 38 = some true := by decide +kernel
theorem ap_38 : rx_nth fx_AP 38 = some axm_38 := rfl
theorem sg_38 : rx_nth fx_SG 38 = some (2, 2, 3) := rfl
theorem cv_39 : rx_nth fx_CV 39 = some true := by decide +kernel
theorem ap_39 : rx_nth fx_AP 39 = some axm_39 := rfl
theorem sg_39 : rx_nth fx_SG 39 = some (1, 1, 2) := rfl
theorem cv_40 : rx_nth fx_CV 40 = some true := by decide +kernel
theorem ap_40 : rx_nth fx_AP 40 = some axm_40 := rfl
theorem sg_40 : rx_nth fx_SG 40 = some (1, 1, 2) := rfl
theorem cv_41 : rx_nth fx_CV 41 = some true := by decide +kernel
theorem ap_41 : rx_nth fx_AP 41 = some axm_41 := rfl
theorem sg_41 : rx_nth fx_SG 41 = some (2, 1, 2) := rfl
theorem cv_42 : rx_nth fx_CV 42 = some true := by decide +kernel
theorem ap_42 : rx_nth fx_AP 42 = some axm_42 := rfl
theorem sg_42 : rx_nth fx_SG 42 = some (1, 1, 1) := rfl
theorem cv_43 : rx_nth fx_CV 43 = some true := by decide +kernel
theorem ap_43 : rx_nth fx_AP 43 = some axm_43 := rfl
theorem sg_43 : rx_nth fx_SG 43 = some (0, 0, 2) := rfl
theorem cv_44 : rx_nth fx_CV 44 = some true := by decide +kernel
theorem ap_44 : rx_nth fx_AP 44 = some axm_44 := rfl
theorem sg_44 : rx_nth fx_SG 44 = some (1, 1, 4) := rfl
theorem cv_45 : rx_nth fx_CV 45 = some true := by decide +kernel
theorem ap_45 : rx_nth fx_AP 45 = some axm_45 := rfl
theorem sg_45 : rx_nth fx_SG 45 = some (1, 0, 2) := rfl
theorem cv_46 : rx_nth fx_CV 46 = some true := by decide +kernel
theorem ap_46 : rx_nth fx_AP 46 = some axm_46 := rfl
theorem sg_46 : rx_nth fx_SG 46 = some (0, 1, 1) := rfl
theorem cv_47 : rx_nth fx_CV 47 = some true := by decide +kernel
theorem ap_47 : rx_nth fx_AP 47 = some axm_47 := rfl
theorem sg_47 : rx_nth fx_SG 47 = some (1, 1, 2) := rfl
theorem cv_48 : rx_nth fx_CV 48 = some true := by decide +kernel
theorem ap_48 : rx_nth fx_AP 48 = some axm_48 := rfl
theorem sg_48 : rx_nth fx_SG 48 = some (3, 1, 3) := rfl
theorem cv_49 : rx_nth fx_CV 49 = some true := by decide +kernel
theorem ap_49 : rx_nth fx_AP 49 = some axm_49 := rfl
theorem sg_49 : rx_nth fx_SG 49 = some (1, 0, 2) := rfl
theorem cv_50 : rx_nth fx_CV 50 = some true := by decide +kernel
theorem ap_50 : rx_nth fx_AP 50 = some axm_50 := rfl
theorem sg_50 : rx_nth fx_SG 50 = some (1, 1, 2) := rfl
theorem cv_51 : rx_nth fx_CV 51 = some true := by decide +kernel
theorem ap_51 : rx_nth fx_AP 51 = some axm_51 := rfl
theorem sg_51 : rx_nth fx_SG 51 = some (5, 1, 8) := rfl
theorem cv_52 : rx_nth fx_CV 52 = some true := by decide +kernel
theorem ap_52 : rx_nth fx_AP 52 = some axm_52 := rfl
theorem sg_52 : rx_nth fx_SG 52 = some (0, 1, 2) := rfl
theorem cv_53 : rx_nth fx_CV 53 = some true := by decide +kernel
theorem ap_53 : rx_nth fx_AP 53 = some axm_53 := rfl
theorem sg_53 : rx_nth fx_SG 53 = some (2, 2, 3) := rfl
theorem cv_54 : rx_nth fx_CV 54 = some true := by decide +kernel
theorem ap_54 : rx_nth fx_AP 54 = some axm_54 := rfl
theorem sg_54 : rx_nth fx_SG 54 = some (1, 2, 2) := rfl
theorem cv_55 : rx_nth fx_CV 55 = some true := by decide +kernel
theorem ap_55 : rx_nth fx_AP 55 = some axm_55 := rfl
theorem sg_55 : rx_nth fx_SG 55 = some (1, 2, 1) := rfl
theorem cv_56 : rx_nth fx_CV 56 = some true := by decide +kernel
theorem ap_56 : rx_nth fx_AP 56 = some axm_56 := rfl
theorem sg_56 : rx_nth fx_SG 56 = some (3, 2, 3) := rfl
theorem cv_57 : rx_nth fx_CV 57 = some true := by decide +kernel
theorem ap_57 : rx_nth fx_AP 57 = some axm_57 := rfl
theorem sg_57 : rx_nth fx_SG 57 = some (1, 2, 1) := rfl
theorem cv_58 : rx_nth fx_CV 58 = some true := by decide +kernel
theorem ap_58 : rx_nth fx_AP 58 = some axm_58 := rfl
theorem sg_58 : rx_nth fx_SG 58 = some (2, 2, 4) := rfl
theorem cv_59 : rx_nth fx_CV 59 = some true := by decide +kernel
theorem ap_59 : rx_nth fx_AP 59 = some axm_59 := rfl
theorem sg_59 : rx_nth fx_SG 59 = some (1, 2, 1) := rfl
theorem cv_60 : rx_nth fx_CV 60 = some true := by decide +kernel
theorem ap_60 : rx_nth fx_AP 60 = some axm_60 := rfl
theorem sg_60 : rx_nth fx_SG 60 = some (1, 2, 2) := rfl
theorem cv_61 : rx_nth fx_CV 61 = some true := by decide +kernel
theorem ap_61 : rx_nth fx_AP 61 = some axm_61 := rfl
theorem sg_61 : rx_nth fx_SG 61 = some (0, 0, 2) := rfl
theorem cv_62 : rx_nth fx_CV 62 = some true := by decide +kernel
theorem ap_62 : rx_nth fx_AP 62 = some axm_62 := rfl
theorem sg_62 : rx_nth fx_SG 62 = some (2, 0, 3) := rfl
theorem cv_63 : rx_nth fx_CV 63 = some true := by decide +kernel
theorem ap_63 : rx_nth fx_AP 63 = some axm_63 := rfl
theorem sg_63 : rx_nth fx_SG 63 = some (0, 1, 1) := rfl
theorem cv_64 : rx_nth fx_CV 64 = some true := by decide +kernel
theorem ap_64 : rx_nth fx_AP 64 = some axm_64 := rfl
theorem sg_64 : rx_nth fx_SG 64 = some (0, 1, 1) := rfl
theorem cv_65 : rx_nth fx_CV 65 = some true := by decide +kernel
theorem ap_65 : rx_nth fx_AP 65 = some axm_65 := rfl
theorem sg_65 : rx_nth fx_SG 65 = some (1, 1, 4) := rfl
theorem cv_66 : rx_nth fx_CV 66 = some true := by decide +kernel
theorem ap_66 : rx_nth fx_AP 66 = some axm_66 := rfl
theorem sg_66 : rx_nth fx_SG 66 = some (0, 1, 3) := rfl
theorem cv_67 : rx_nth fx_CV 67 = some true := by decide +kernel
theorem ap_67 : rx_nth fx_AP 67 = some axm_67 := rfl
theorem sg_67 : rx_nth fx_SG 67 = some (1, 0, 2) := rfl
theorem cv_68 : rx_nth fx_CV 68 = some true := by decide +kernel
theorem ap_68 : rx_nth fx_AP 68 = some axm_68 := rfl
theorem sg_68 : rx_nth fx_SG 68 = some (0, 0, 2) := rfl
theorem cv_69 : rx_nth fx_CV 69 = some true := by decide +kernel
theorem ap_69 : rx_nth fx_AP 69 = some axm_69 := rfl
theorem sg_69 : rx_nth fx_SG 69 = some (1, 1, 2) := rfl
theorem cv_70 : rx_nth fx_CV 70 = some true := by decide +kernel
theorem ap_70 : rx_nth fx_AP 70 = some axm_70 := rfl
theorem sg_70 : rx_nth fx_SG 70 = some (1, 2, 2) := rfl
theorem cv_71 : rx_nth fx_CV 71 = some true := by decide +kernel
theorem ap_71 : rx_nth fx_AP 71 = some axm_71 := rfl
theorem sg_71 : rx_nth fx_SG 71 = some (3, 1, 3) := rfl
theorem cv_72 : rx_nth fx_CV 72 = some true := by decide +kernel
theorem ap_72 : rx_nth fx_AP 72 = some axm_72 := rfl
theorem sg_72 : rx_nth fx_SG 72 = some (0, 0, 3) := rfl
theorem cv_73 : rx_nth fx_CV 73 = some true := by decide +kernel
theorem ap_73 : rx_nth fx_AP 73 = some axm_73 := rfl
theorem sg_73 : rx_nth fx_SG 73 = some (3, 1, 4) := rfl
theorem cv_74 : rx_nth fx_CV 74 = some true := by decide +kernel
theorem ap_74 : rx_nth fx_AP 74 = some axm_74 := rfl
theorem sg_74 : rx_nth fx_SG 74 = some (1, 1, 1) := rfl
theorem cv_76 : rx_nth fx_CV 76 = some true := by decide +kernel
theorem ap_76 : rx_nth fx_AP 76 = some axm_76 := rfl
theorem sg_76 : rx_nth fx_SG 76 = some (3, 2, 9) := rfl
theorem cv_77 : rx_nth fx_CV 77 = some true := by decide +kernel
theorem ap_77 : rx_nth fx_AP 77 = some axm_77 := rfl
theorem sg_77 : rx_nth fx_SG 77 = some (0, 1, 4) := rfl
theorem cv_78 : rx_nth fx_CV 78 = some true := by decide +kernel
theorem ap_78 : rx_nth fx_AP 78 = some axm_78 := rfl
theorem sg_78 : rx_nth fx_SG 78 = some (5, 0, 10) := rfl
theorem cv_79 : rx_nth fx_CV 79 = some true := by decide +kernel
theorem ap_79 : rx_nth fx_AP 79 = some axm_79 := rfl
theorem sg_79 : rx_nth fx_SG 79 = some (1, 4, 2) := rfl
theorem cv_80 : rx_nth fx_CV 80 = some true := by decide +kernel
theorem ap_80 : rx_nth fx_AP 80 = some axm_80 := rfl
theorem sg_80 : rx_nth fx_SG 80 = some (1, 4, 3) := rfl
theorem cv_82 : rx_nth fx_CV 82 = some true := by decide +kernel
theorem ap_82 : rx_nth fx_AP 82 = some axm_82 := rfl
theorem sg_82 : rx_nth fx_SG 82 = some (1, 2, 2) := rfl
theorem cv_83 : rx_nth fx_CV 83 = some true := by decide +kernel
theorem ap_83 : rx_nth fx_AP 83 = some axm_83 := rfl
theorem sg_83 : rx_nth fx_SG 83 = some (2, 2, 4) := rfl
theorem cv_84 : rx_nth fx_CV 84 = some true := by decide +kernel
theorem ap_84 : rx_nth fx_AP 84 = some axm_84 := rfl
theorem sg_84 : rx_nth fx_SG 84 = some (0, 0, 4) := rfl
theorem cv_86 : rx_nth fx_CV 86 = some true := by decide +kernel
theorem ap_86 : rx_nth fx_AP 86 = some axm_86 := rfl
theorem sg_86 : rx_nth fx_SG 86 = some (1, 1, 4) := rfl
theorem cv_87 : rx_nth fx_CV 87 = some true := by decide +kernel
theorem ap_87 : rx_nth fx_AP 87 = some axm_87 := rfl
theorem sg_87 : rx_nth fx_SG 87 = some (1, 0, 3) := rfl
theorem cv_88 : rx_nth fx_CV 88 = some true := by decide +kernel
theorem ap_88 : rx_nth fx_AP 88 = some axm_88 := rfl
theorem sg_88 : rx_nth fx_SG 88 = some (1, 1, 5) := rfl
theorem cv_89 : rx_nth fx_CV 89 = some true := by decide +kernel
theorem ap_89 : rx_nth fx_AP 89 = some axm_89 := rfl
theorem sg_89 : rx_nth fx_SG 89 = some (0, 1, 3) := rfl
theorem cv_91 : rx_nth fx_CV 91 = some true := by decide +kernel
theorem ap_91 : rx_nth fx_AP 91 = some axm_91 := rfl
theorem sg_91 : rx_nth fx_SG 91 = some (0, 0, 3) := rfl
theorem cv_93 : rx_nth fx_CV 93 = some true := by decide +kernel
theorem ap_93 : rx_nth fx_AP 93 = some axm_93 := rfl
theorem sg_93 : rx_nth fx_SG 93 = some (2, 1, 3) := rfl
theorem cv_94 : rx_nth fx_CV 94 = some true := by decide +kernel
theorem ap_94 : rx_nth fx_AP 94 = some axm_94 := rfl
theorem sg_94 : rx_nth fx_SG 94 = some (2, 2, 7) := rfl
theorem cv_95 : rx_nth fx_CV 95 = some true := by decide +kernel
theorem ap_95 : rx_nth fx_AP 95 = some axm_95 := rfl
theorem sg_95 : rx_nth fx_SG 95 = some (0, 1, 3) := rfl
theorem cv_96 : rx_nth fx_CV 96 = some true := by decide +kernel
theorem ap_96 : rx_nth fx_AP 96 = some axm_96 := rfl
theorem sg_96 : rx_nth fx_SG 96 = some (0, 1, 4) := rfl
theorem cv_97 : rx_nth fx_CV 97 = some true := by decide +kernel
theorem ap_97 : rx_nth fx_AP 97 = some axm_97 := rfl
theorem sg_97 : rx_nth fx_SG 97 = some (3, 2, 6) := rfl
theorem cv_98 : rx_nth fx_CV 98 = some true := by decide +kernel
theorem ap_98 : rx_nth fx_AP 98 = some axm_98 := rfl
theorem sg_98 : rx_nth fx_SG 98 = some (0, 1, 4) := rfl
theorem cv_100 : rx_nth fx_CV 100 = some true := by decide +kernel
theorem ap_100 : rx_nth fx_AP 100 = some axm_100 := rfl
theorem sg_100 : rx_nth fx_SG 100 = some (1, 0, 2) := rfl
theorem cv_101 : rx_nth fx_CV 101 = some true := by decide +kernel
theorem ap_101 : rx_nth fx_AP 101 = some axm_101 := rfl
theorem sg_101 : rx_nth fx_SG 101 = some (2, 1, 4) := rfl
theorem cv_103 : rx_nth fx_CV 103 = some true := by decide +kernel
theorem ap_103 : rx_nth fx_AP 103 = some axm_103 := rfl
theorem sg_103 : rx_nth fx_SG 103 = some (3, 1, 6) := rfl
theorem cv_105 : rx_nth fx_CV 105 = some true := by decide +kernel
theorem ap_105 : rx_nth fx_AP 105 = some axm_105 := rfl
theorem sg_105 : rx_nth fx_SG 105 = some (0, 2, 6) := rfl
theorem cv_106 : rx_nth fx_CV 106 = some true := by decide +kernel
theorem ap_106 : rx_nth fx_AP 106 = some axm_106 := rfl
theorem sg_106 : rx_nth fx_SG 106 = some (1, 3, 6) := rfl
theorem cv_107 : rx_nth fx_CV 107 = some true := by decide +kernel
theorem ap_107 : rx_nth fx_AP 107 = some axm_107 := rfl
theorem sg_107 : rx_nth fx_SG 107 = some (1, 3, 5) := rfl
theorem cv_108 : rx_nth fx_CV 108 = some true := by decide +kernel
theorem ap_108 : rx_nth fx_AP 108 = some axm_108 := rfl
theorem sg_108 : rx_nth fx_SG 108 = some (1, 1, 2) := rfl
theorem cv_109 : rx_nth fx_CV 109 = some true := by decide +kernel
theorem ap_109 : rx_nth fx_AP 109 = some axm_109 := rfl
theorem sg_109 : rx_nth fx_SG 109 = some (5, 1, 6) := rfl
theorem cv_110 : rx_nth fx_CV 110 = some true := by decide +kernel
theorem ap_110 : rx_nth fx_AP 110 = some axm_110 := rfl
theorem sg_110 : rx_nth fx_SG 110 = some (0, 1, 4) := rfl
theorem cv_111 : rx_nth fx_CV 111 = some true := by decide +kernel
theorem ap_111 : rx_nth fx_AP 111 = some axm_111 := rfl
theorem sg_111 : rx_nth fx_SG 111 = some (2, 1, 3) := rfl
theorem cv_112 : rx_nth fx_CV 112 = some true := by decide +kernel
theorem ap_112 : rx_nth fx_AP 112 = some axm_112 := rfl
theorem sg_112 : rx_nth fx_SG 112 = some (1, 1, 4) := rfl
theorem cv_113 : rx_nth fx_CV 113 = some true := by decide +kernel
theorem ap_113 : rx_nth fx_AP 113 = some axm_113 := rfl
theorem sg_113 : rx_nth fx_SG 113 = some (1, 1, 3) := rfl
theorem cv_114 : rx_nth fx_CV 114 = some true := by decide +kernel
theorem ap_114 : rx_nth fx_AP 114 = some axm_114 := rfl
theorem sg_114 : rx_nth fx_SG 114 = some (0, 1, 1) := rfl
theorem cv_115 : rx_nth fx_CV 115 = some true := by decide +kernel
theorem ap_115 : rx_nth fx_AP 115 = some axm_115 := rfl
theorem sg_115 : rx_nth fx_SG 115 = some (2, 1, 3) := rfl
theorem cv_116 : rx_nth fx_CV 116 = some true := by decide +kernel
theorem ap_116 : rx_nth fx_AP 116 = some axm_116 := rfl
theorem sg_116 : rx_nth fx_SG 116 = some (0, 1, 3) := rfl
theorem cv_117 : rx_nth fx_CV 117 = some true := by decide +kernel
theorem ap_117 : rx_nth fx_AP 117 = some axm_117 := rfl
theorem sg_117 : rx_nth fx_SG 117 = some (2, 1, 4) := rfl
theorem cv_118 : rx_nth fx_CV 118 = some true := by decide +kernel
theorem ap_118 : rx_nth fx_AP 118 = some axm_118 := rfl
theorem sg_118 : rx_nth fx_SG 118 = some (1, 1, 3) := rfl
theorem cv_119 : rx_nth fx_CV 119 = some true := by decide +kernel
theorem ap_119 : rx_nth fx_AP 119 = some axm_119 := rfl
theorem sg_119 : rx_nth fx_SG 119 = some (1, 2, 2) := rfl
theorem cv_120 : rx_nth fx_CV 120 = some true := by decide +kernel
theorem ap_120 : rx_nth fx_AP 120 = some axm_120 := rfl
theorem sg_120 : rx_nth fx_SG 120 = some (1, 2, 2) := rfl
theorem cv_121 : rx_nth fx_CV 121 = some true := by decide +kernel
theorem ap_121 : rx_nth fx_AP 121 = some axm_121 := rfl
theorem sg_121 : rx_nth fx_SG 121 = some (3, 2, 7) := rfl
theorem cv_122 : rx_nth fx_CV 122 = some true := by decide +kernel
theorem ap_122 : rx_nth fx_AP 122 = some axm_122 := rfl
theorem sg_122 : rx_nth fx_SG 122 = some (1, 2, 2) := rfl
theorem cv_123 : rx_nth fx_CV 123 = some true := by decide +kernel
theorem ap_123 : rx_nth fx_AP 123 = some axm_123 := rfl
theorem sg_123 : rx_nth fx_SG 123 = some (1, 2, 2) := rfl
theorem cv_124 : rx_nth fx_CV 124 = some true := by decide +kernel
theorem ap_124 : rx_nth fx_AP 124 = some axm_124 := rfl
theorem sg_124 : rx_nth fx_SG 124 = some (1, 2, 2) := rfl
theorem cv_125 : rx_nth fx_CV 125 = some true := by decide +kernel
theorem ap_125 : rx_nth fx_AP 125 = some axm_125 := rfl
theorem sg_125 : rx_nth fx_SG 125 = some (1, 0, 2) := rfl
theorem cv_126 : rx_nth fx_CV 126 = some true := by decide +kernel
theorem ap_126 : rx_nth fx_AP 126 = some axm_126 := rfl
theorem sg_126 : rx_nth fx_SG 126 = some (2, 1, 3) := rfl
theorem cv_127 : rx_nth fx_CV 127 = some true := by decide +kernel
theorem ap_127 : rx_nth fx_AP 127 = some axm_127 := rfl
theorem sg_127 : rx_nth fx_SG 127 = some (0, 2, 1) := rfl
theorem cv_128 : rx_nth fx_CV 128 = some true := by decide +kernel
theorem ap_128 : rx_nth fx_AP 128 = some axm_128 := rfl
theorem sg_128 : rx_nth fx_SG 128 = some (0, 0, 1) := rfl
theorem cv_129 : rx_nth fx_CV 129 = some true := by decide +kernel
theorem ap_129 : rx_nth fx_AP 129 = some axm_129 := rfl
theorem sg_129 : rx_nth fx_SG 129 = some (0, 0, 4) := rfl
theorem cv_130 : rx_nth fx_CV 130 = some true := by decide +kernel
theorem ap_130 : rx_nth fx_AP 130 = some axm_130 := rfl
theorem sg_130 : rx_nth fx_SG 130 = some (0, 1, 3) := rfl
theorem cv_131 : rx_nth fx_CV 131 = some true := by decide +kernel
theorem ap_131 : rx_nth fx_AP 131 = some axm_131 := rfl
theorem sg_131 : rx_nth fx_SG 131 = some (0, 0, 2) := rfl
theorem cv_132 : rx_nth fx_CV 132 = some true := by decide +kernel
theorem ap_132 : rx_nth fx_AP 132 = some axm_132 := rfl
theorem sg_132 : rx_nth fx_SG 132 = some (0, 0, 2) := rfl
theorem cv_133 : rx_nth fx_CV 133 = some true := by decide +kernel
theorem ap_133 : rx_nth fx_AP 133 = some axm_133 := rfl
theorem sg_133 : rx_nth fx_SG 133 = some (0, 2, 1) := rfl
theorem cv_134 : rx_nth fx_CV 134 = some true := by decide +kernel
theorem ap_134 : rx_nth fx_AP 134 = some axm_134 := rfl
theorem sg_134 : rx_nth fx_SG 134 = some (3, 1, 6) := rfl
theorem cv_135 : rx_nth fx_CV 135 = some true := by decide +kernel
theorem ap_135 : rx_nth fx_AP 135 = some axm_135 := rfl
theorem sg_135 : rx_nth fx_SG 135 = some (2, 2, 6) := rfl
theorem cv_136 : rx_nth fx_CV 136 = some true := by decide +kernel
theorem ap_136 : rx_nth fx_AP 136 = some axm_136 := rfl
theorem sg_136 : rx_nth fx_SG 136 = some (1, 0, 3) := rfl
theorem cv_138 : rx_nth fx_CV 138 = some true := by decide +kernel
theorem ap_138 : rx_nth fx_AP 138 = some axm_138 := rfl
theorem sg_138 : rx_nth fx_SG 138 = some (1, 0, 2) := rfl
theorem cv_139 : rx_nth fx_CV 139 = some true := by decide +kernel
theorem ap_139 : rx_nth fx_AP 139 = some axm_139 := rfl
theorem sg_139 : rx_nth fx_SG 139 = some (1, 0, 2) := rfl
theorem cv_140 : rx_nth fx_CV 140 = some true := by decide +kernel
theorem ap_140 : rx_nth fx_AP 140 = some axm_140 := rfl
theorem sg_140 : rx_nth fx_SG 140 = some (2, 0, 4) := rfl
theorem cv_142 : rx_nth fx_CV 142 = some true := by decide +kernel
theorem ap_142 : rx_nth fx_AP 142 = some axm_142 := rfl
theorem sg_142 : rx_nth fx_SG 142 = some (2, 2, 3) := rfl
theorem cv_143 : rx_nth fx_CV 143 = some true := by decide +kernel
theorem ap_143 : rx_nth fx_AP 143 = some axm_143 := rfl
theorem sg_143 : rx_nth fx_SG 143 = some (1, 2, 2) := rfl
theorem cv_144 : rx_nth fx_CV 144 = some true := by decide +kernel
theorem ap_144 : rx_nth fx_AP 144 = some axm_144 := rfl
theorem sg_144 : rx_nth fx_SG 144 = some (2, 0, 6) := rfl
theorem cv_145 : rx_nth fx_CV 145 = some true := by decide +kernel
theorem ap_145 : rx_nth fx_AP 145 = some axm_145 := rfl
theorem sg_145 : rx_nth fx_SG 145 = some (3, 1, 6) := rfl
theorem cv_146 : rx_nth fx_CV 146 = some true := by decide +kernel
theorem ap_146 : rx_nth fx_AP 146 = some axm_146 := rfl
theorem sg_146 : rx_nth fx_SG 146 = some (2, 0, 5) := rfl
theorem cv_147 : rx_nth fx_CV 147 = some true := by decide +kernel
theorem ap_147 : rx_nth fx_AP 147 = some axm_147 := rfl
theorem sg_147 : rx_nth fx_SG 147 = some (3, 1, 7) := rfl
theorem cv_148 : rx_nth fx_CV 148 = some true := by decide +kernel
theorem ap_148 : rx_nth fx_AP 148 = some axm_148 := rfl
theorem sg_148 : rx_nth fx_SG 148 = some (1, 0, 5) := rfl
theorem cv_149 : rx_nth fx_CV 149 = some true := by decide +kernel
theorem ap_149 : rx_nth fx_AP 149 = some axm_149 := rfl
theorem sg_149 : rx_nth fx_SG 149 = some (2, 0, 6) := rfl
theorem cv_150 : rx_nth fx_CV 150 = some true := by decide +kernel
theorem ap_150 : rx_nth fx_AP 150 = some axm_150 := rfl
theorem sg_150 : rx_nth fx_SG 150 = some (3, 0, 5) := rfl
theorem cv_151 : rx_nth fx_CV 151 = some true := by decide +kernel
theorem ap_151 : rx_nth fx_AP 151 = some axm_151 := rfl
theorem sg_151 : rx_nth fx_SG 151 = some (1, 1, 7) := rfl
theorem cv_152 : rx_nth fx_CV 152 = some true := by decide +kernel
theorem ap_152 : rx_nth fx_AP 152 = some axm_152 := rfl
theorem sg_152 : rx_nth fx_SG 152 = some (3, 0, 9) := rfl
theorem cv_153 : rx_nth fx_CV 153 = some true := by decide +kernel
theorem ap_153 : rx_nth fx_AP 153 = some axm_153 := rfl
theorem sg_153 : rx_nth fx_SG 153 = some (1, 1, 2) := rfl
theorem cv_154 : rx_nth fx_CV 154 = some true := by decide +kernel
theorem ap_154 : rx_nth fx_AP 154 = some axm_154 := rfl
theorem sg_154 : rx_nth fx_SG 154 = some (1, 1, 2) := rfl
theorem cv_155 : rx_nth fx_CV 155 = some true := by decide +kernel
theorem ap_155 : rx_nth fx_AP 155 = some axm_155 := rfl
theorem sg_155 : rx_nth fx_SG 155 = some (0, 2, 1) := rfl
theorem cv_156 : rx_nth fx_CV 156 = some true := by decide +kernel
theorem ap_156 : rx_nth fx_AP 156 = some axm_156 := rfl
theorem sg_156 : rx_nth fx_SG 156 = some (0, 2, 1) := rfl
theorem cv_157 : rx_nth fx_CV 157 = some true := by decide +kernel
theorem ap_157 : rx_nth fx_AP 157 = some axm_157 := rfl
theorem sg_157 : rx_nth fx_SG 157 = some (1, 1, 2) := rfl
theorem cv_158 : rx_nth fx_CV 158 = some true := by decide +kernel
theorem ap_158 : rx_nth fx_AP 158 = some axm_158 := rfl
theorem sg_158 : rx_nth fx_SG 158 = some (2, 0, 4) := rfl
theorem cv_159 : rx_nth fx_CV 159 = some true := by decide +kernel
theorem ap_159 : rx_nth fx_AP 159 = some axm_159 := rfl
theorem sg_159 : rx_nth fx_SG 159 = some (0, 1, 1) := rfl
theorem cv_160 : rx_nth fx_CV 160 = some true := by decide +kernel
theorem ap_160 : rx_nth fx_AP 160 = some axm_160 := rfl
theorem sg_160 : rx_nth fx_SG 160 = some (2, 2, 3) := rfl
theorem cv_161 : rx_nth fx_CV 161 = some true := by decide +kernel
theorem ap_161 : rx_nth fx_AP 161 = some axm_161 := rfl
theorem sg_161 : rx_nth fx_SG 161 = some (1, 0, 2) := rfl
theorem cv_162 : rx_nth fx_CV 162 = some true := by decide +kernel
theorem ap_162 : rx_nth fx_AP 162 = some axm_162 := rfl
theorem sg_162 : rx_nth fx_SG 162 = some (1, 1, 2) := rfl
theorem cv_163 : rx_nth fx_CV 163 = some true := by decide +kernel
theorem ap_163 : rx_nth fx_AP 163 = some axm_163 := rfl
theorem sg_163 : rx_nth fx_SG 163 = some (0, 1, 3) := rfl
theorem cv_164 : rx_nth fx_CV 164 = some true := by decide +kernel
theorem ap_164 : rx_nth fx_AP 164 = some axm_164 := rfl
theorem sg_164 : rx_nth fx_SG 164 = some (1, 2, 2) := rfl
theorem cv_165 : rx_nth fx_CV 165 = some true := by decide +kernel
theorem ap_165 : rx_nth fx_AP 165 = some axm_165 := rfl
theorem sg_165 : rx_nth fx_SG 165 = some (2, 0, 7) := rfl
theorem cv_166 : rx_nth fx_CV 166 = some true := by decide +kernel
theorem ap_166 : rx_nth fx_AP 166 = some axm_166 := rfl
theorem sg_166 : rx_nth fx_SG 166 = some (2, 1, 3) := rfl
theorem cv_167 : rx_nth fx_CV 167 = some true := by decide +kernel
theorem ap_167 : rx_nth fx_AP 167 = some axm_167 := rfl
theorem sg_167 : rx_nth fx_SG 167 = some (1, 1, 4) := rfl
theorem cv_168 : rx_nth fx_CV 168 = some true := by decide +kernel
theorem ap_168 : rx_nth fx_AP 168 = some axm_168 := rfl
theorem sg_168 : rx_nth fx_SG 168 = some (1, 1, 2) := rfl
theorem cv_169 : rx_nth fx_CV 169 = some true := by decide +kernel
theorem ap_169 : rx_nth fx_AP 169 = some axm_169 := rfl
theorem sg_169 : rx_nth fx_SG 169 = some (1, 1, 10) := rfl
theorem cv_170 : rx_nth fx_CV 170 = some true := by decide +kernel
theorem ap_170 : rx_nth fx_AP 170 = some axm_170 := rfl
theorem sg_170 : rx_nth fx_SG 170 = some (0, 0, 2) := rfl
theorem cv_171 : rx_nth fx_CV 171 = some true := by decide +kernel
theorem ap_171 : rx_nth fx_AP 171 = some axm_171 := rfl
theorem sg_171 : rx_nth fx_SG 171 = some (1, 1, 2) := rfl
theorem cv_172 : rx_nth fx_CV 172 = some true := by decide +kernel
theorem ap_172 : rx_nth fx_AP 172 = some axm_172 := rfl
theorem sg_172 : rx_nth fx_SG 172 = some (1, 1, 2) := rfl
theorem cv_173 : rx_nth fx_CV 173 = some true := by decide +kernel
theorem ap_173 : rx_nth fx_AP 173 = some axm_173 := rfl
theorem sg_173 : rx_nth fx_SG 173 = some (1, 1, 4) := rfl
theorem cv_174 : rx_nth fx_CV 174 = some true := by decide +kernel
theorem ap_174 : rx_nth fx_AP 174 = some axm_174 := rfl
theorem sg_174 : rx_nth fx_SG 174 = some (3, 1, 7) := rfl
theorem cv_175 : rx_nth fx_CV 175 = some true := by decide +kernel
theorem ap_175 : rx_nth fx_AP 175 = some axm_175 := rfl
theorem sg_175 : rx_nth fx_SG 175 = some (0, 2, 1) := rfl
theorem cv_176 : rx_nth fx_CV 176 = some true := by decide +kernel
theorem ap_176 : rx_nth fx_AP 176 = some axm_176 := rfl
theorem sg_176 : rx_nth fx_SG 176 = some (2, 0, 5) := rfl
theorem cv_177 : rx_nth fx_CV 177 = some true := by decide +kernel
theorem ap_177 : rx_nth fx_AP 177 = some axm_177 := rfl
theorem sg_177 : rx_nth fx_SG 177 = some (0, 0, 3) := rfl
theorem cv_178 : rx_nth fx_CV 178 = some true := by decide +kernel
theorem ap_178 : rx_nth fx_AP 178 = some axm_178 := rfl
theorem sg_178 : rx_nth fx_SG 178 = some (1, 0, 4) := rfl
theorem cv_179 : rx_nth fx_CV 179 = some true := by decide +kernel
theorem ap_179 : rx_nth fx_AP 179 = some axm_179 := rfl
theorem sg_179 : rx_nth fx_SG 179 = some (0, 0, 4) := rfl
theorem cv_180 : rx_nth fx_CV 180 = some true := by decide +kernel
theorem ap_180 : rx_nth fx_AP 180 = some axm_180 := rfl
theorem sg_180 : rx_nth fx_SG 180 = some (2, 0, 4) := rfl
theorem cv_181 : rx_nth fx_CV 181 = some true := by decide +kernel
theorem ap_181 : rx_nth fx_AP 181 = some axm_181 := rfl
theorem sg_181 : rx_nth fx_SG 181 = some (2, 0, 4) := rfl
theorem cv_183 : rx_nth fx_CV 183 = some true := by decide +kernel
theorem ap_183 : rx_nth fx_AP 183 = some axm_183 := rfl
theorem sg_183 : rx_nth fx_SG 183 = some (2, 1, 3) := rfl
theorem cv_184 : rx_nth fx_CV 184 = some true := by decide +kernel
theorem ap_184 : rx_nth fx_AP 184 = some axm_184 := rfl
theorem sg_184 : rx_nth fx_SG 184 = some (1, 1, 2) := rfl
theorem cv_185 : rx_nth fx_CV 185 = some true := by decide +kernel
theorem ap_185 : rx_nth fx_AP 185 = some axm_185 := rfl
theorem sg_185 : rx_nth fx_SG 185 = some (2, 1, 3) := rfl
theorem cv_186 : rx_nth fx_CV 186 = some true := by decide +kernel
theorem ap_186 : rx_nth fx_AP 186 = some axm_186 := rfl
theorem sg_186 : rx_nth fx_SG 186 = some (1, 1, 2) := rfl
theorem cv_187 : rx_nth fx_CV 187 = some true := by decide +kernel
theorem ap_187 : rx_nth fx_AP 187 = some axm_187 := rfl
theorem sg_187 : rx_nth fx_SG 187 = some (2, 1, 3) := rfl
theorem cv_188 : rx_nth fx_CV 188 = some true := by decide +kernel
theorem ap_188 : rx_nth fx_AP 188 = some axm_188 := rfl
theorem sg_188 : rx_nth fx_SG 188 = some (2, 1, 3) := rfl
theorem cv_189 : rx_nth fx_CV 189 = some true := by decide +kernel
theorem ap_189 : rx_nth fx_AP 189 = some axm_189 := rfl
theorem sg_189 : rx_nth fx_SG 189 = some (1, 1, 2) := rfl
theorem cv_190 : rx_nth fx_CV 190 = some true := by decide +kernel
theorem ap_190 : rx_nth fx_AP 190 = some axm_190 := rfl
theorem sg_190 : rx_nth fx_SG 190 = some (0, 1, 3) := rfl
theorem cv_191 : rx_nth fx_CV 191 = some true := by decide +kernel
theorem ap_191 : rx_nth fx_AP 191 = some axm_191 := rfl
theorem sg_191 : rx_nth fx_SG 191 = some (2, 1, 3) := rfl
theorem cv_192 : rx_nth fx_CV 192 = some true := by decide +kernel
theorem ap_192 : rx_nth fx_AP 192 = some axm_192 := rfl
theorem sg_192 : rx_nth fx_SG 192 = some (1, 1, 2) := rfl
theorem cv_193 : rx_nth fx_CV 193 = some true := by decide +kernel
theorem ap_193 : rx_nth fx_AP 193 = some axm_193 := rfl
theorem sg_193 : rx_nth fx_SG 193 = some (1, 1, 2) := rfl
theorem cv_194 : rx_nth fx_CV 194 = some true := by decide +kernel
theorem ap_194 : rx_nth fx_AP 194 = some axm_194 := rfl
theorem sg_194 : rx_nth fx_SG 194 = some (1, 0, 2) := rfl
theorem cv_195 : rx_nth fx_CV 195 = some true := by decide +kernel
theorem ap_195 : rx_nth fx_AP 195 = some axm_195 := rfl
theorem sg_195 : rx_nth fx_SG 195 = some (1, 1, 2) := rfl
theorem cv_196 : rx_nth fx_CV 196 = some true := by decide +kernel
theorem ap_196 : rx_nth fx_AP 196 = some axm_196 := rfl
theorem sg_196 : rx_nth fx_SG 196 = some (0, 2, 2) := rfl
theorem cv_197 : rx_nth fx_CV 197 = some true := by decide +kernel
theorem ap_197 : rx_nth fx_AP 197 = some axm_197 := rfl
theorem sg_197 : rx_nth fx_SG 197 = some (2, 2, 3) := rfl
theorem cv_198 : rx_nth fx_CV 198 = some true := by decide +kernel
theorem ap_198 : rx_nth fx_AP 198 = some axm_198 := rfl
theorem sg_198 : rx_nth fx_SG 198 = some (1, 0, 2) := rfl
theorem cv_199 : rx_nth fx_CV 199 = some true := by decide +kernel
theorem ap_199 : rx_nth fx_AP 199 = some axm_199 := rfl
theorem sg_199 : rx_nth fx_SG 199 = some (2, 1, 4) := rfl
theorem cv_200 : rx_nth fx_CV 200 = some true := by decide +kernel
theorem ap_200 : rx_nth fx_AP 200 = some axm_200 := rfl
theorem sg_200 : rx_nth fx_SG 200 = some (2, 2, 6) := rfl
theorem cv_201 : rx_nth fx_CV 201 = some true := by decide +kernel
theorem ap_201 : rx_nth fx_AP 201 = some axm_201 := rfl
theorem sg_201 : rx_nth fx_SG 201 = some (1, 1, 4) := rfl
theorem cv_202 : rx_nth fx_CV 202 = some true := by decide +kernel
theorem ap_202 : rx_nth fx_AP 202 = some axm_202 := rfl
theorem sg_202 : rx_nth fx_SG 202 = some (2, 1, 3) := rfl
theorem cv_203 : rx_nth fx_CV 203 = some true := by decide +kernel
theorem ap_203 : rx_nth fx_AP 203 = some axm_203 := rfl
theorem sg_203 : rx_nth fx_SG 203 = some (1, 1, 5) := rfl
theorem cv_204 : rx_nth fx_CV 204 = some true := by decide +kernel
theorem ap_204 : rx_nth fx_AP 204 = some axm_204 := rfl
theorem sg_204 : rx_nth fx_SG 204 = some (1, 1, 5) := rfl
theorem cv_205 : rx_nth fx_CV 205 = some true := by decide +kernel
theorem ap_205 : rx_nth fx_AP 205 = some axm_205 := rfl
theorem sg_205 : rx_nth fx_SG 205 = some (1, 2, 3) := rfl
theorem cv_206 : rx_nth fx_CV 206 = some true := by decide +kernel
theorem ap_206 : rx_nth fx_AP 206 = some axm_206 := rfl
theorem sg_206 : rx_nth fx_SG 206 = some (1, 2, 4) := rfl
theorem cv_207 : rx_nth fx_CV 207 = some true := by decide +kernel
theorem ap_207 : rx_nth fx_AP 207 = some axm_207 := rfl
theorem sg_207 : rx_nth fx_SG 207 = some (2, 1, 3) := rfl
theorem cv_208 : rx_nth fx_CV 208 = some true := by decide +kernel
theorem ap_208 : rx_nth fx_AP 208 = some axm_208 := rfl
theorem sg_208 : rx_nth fx_SG 208 = some (3, 0, 8) := rfl
theorem cv_209 : rx_nth fx_CV 209 = some true := by decide +kernel
theorem ap_209 : rx_nth fx_AP 209 = some axm_209 := rfl
theorem sg_209 : rx_nth fx_SG 209 = some (0, 2, 2) := rfl
theorem cv_210 : rx_nth fx_CV 210 = some true := by decide +kernel
theorem ap_210 : rx_nth fx_AP 210 = some axm_210 := rfl
theorem sg_210 : rx_nth fx_SG 210 = some (3, 3, 9) := rfl
theorem cv_211 : rx_nth fx_CV 211 = some true := by decide +kernel
theorem ap_211 : rx_nth fx_AP 211 = some axm_211 := rfl
theorem sg_211 : rx_nth fx_SG 211 = some (2, 3, 3) := rfl
theorem cv_212 : rx_nth fx_CV 212 = some true := by decide +kernel
theorem ap_212 : rx_nth fx_AP 212 = some axm_212 := rfl
theorem sg_212 : rx_nth fx_SG 212 = some (2, 0, 3) := rfl
theorem cv_213 : rx_nth fx_CV 213 = some true := by decide +kernel
theorem ap_213 : rx_nth fx_AP 213 = some axm_213 := rfl
theorem sg_213 : rx_nth fx_SG 213 = some (4, 1, 10) := rfl
theorem cv_214 : rx_nth fx_CV 214 = some true := by decide +kernel
theorem ap_214 : rx_nth fx_AP 214 = some axm_214 := rfl
theorem sg_214 : rx_nth fx_SG 214 = some (3, 1, 4) := rfl
theorem cv_215 : rx_nth fx_CV 215 = some true := by decide +kernel
theorem ap_215 : rx_nth fx_AP 215 = some axm_215 := rfl
theorem sg_215 : rx_nth fx_SG 215 = some (2, 1, 3) := rfl
theorem cv_216 : rx_nth fx_CV 216 = some true := by decide +kernel
theorem ap_216 : rx_nth fx_AP 216 = some axm_216 := rfl
theorem sg_216 : rx_nth fx_SG 216 = some (1, 1, 4) := rfl
theorem cv_217 : rx_nth fx_CV 217 = some true := by decide +kernel
theorem ap_217 : rx_nth fx_AP 217 = some axm_217 := rfl
theorem sg_217 : rx_nth fx_SG 217 = some (1, 1, 2) := rfl
theorem cv_218 : rx_nth fx_CV 218 = some true := by decide +kernel
theorem ap_218 : rx_nth fx_AP 218 = some axm_218 := rfl
theorem sg_218 : rx_nth fx_SG 218 = some (2, 1, 3) := rfl
theorem cv_219 : rx_nth fx_CV 219 = some true := by decide +kernel
theorem ap_219 : rx_nth fx_AP 219 = some axm_219 := rfl
theorem sg_219 : rx_nth fx_SG 219 = some (0, 1, 1) := rfl
theorem cv_220 : rx_nth fx_CV 220 = some true := by decide +kernel
theorem ap_220 : rx_nth fx_AP 220 = some axm_220 := rfl
theorem sg_220 : rx_nth fx_SG 220 = some (2, 1, 4) := rfl
theorem cv_221 : rx_nth fx_CV 221 = some true := by decide +kernel
theorem ap_221 : rx_nth fx_AP 221 = some axm_221 := rfl
theorem sg_221 : rx_nth fx_SG 221 = some (4, 2, 5) := rfl
theorem cv_222 : rx_nth fx_CV 222 = some true := by decide +kernel
theorem ap_222 : rx_nth fx_AP 222 = some axm_222 := rfl
theorem sg_222 : rx_nth fx_SG 222 = some (1, 2, 2) := rfl
theorem cv_223 : rx_nth fx_CV 223 = some true := by decide +kernel
theorem ap_223 : rx_nth fx_AP 223 = some axm_223 := rfl
theorem sg_223 : rx_nth fx_SG 223 = some (1, 0, 3) := rfl
theorem cv_224 : rx_nth fx_CV 224 = some true := by decide +kernel
theorem ap_224 : rx_nth fx_AP 224 = some axm_224 := rfl
theorem sg_224 : rx_nth fx_SG 224 = some (0, 1, 4) := rfl
theorem cv_225 : rx_nth fx_CV 225 = some true := by decide +kernel
theorem ap_225 : rx_nth fx_AP 225 = some axm_225 := rfl
theorem sg_225 : rx_nth fx_SG 225 = some (1, 0, 3) := rfl
theorem cv_226 : rx_nth fx_CV 226 = some true := by decide +kernel
theorem ap_226 : rx_nth fx_AP 226 = some axm_226 := rfl
theorem sg_226 : rx_nth fx_SG 226 = some (1, 0, 4) := rfl
theorem cv_227 : rx_nth fx_CV 227 = some true := by decide +kernel
theorem ap_227 : rx_nth fx_AP 227 = some axm_227 := rfl
theorem sg_227 : rx_nth fx_SG 227 = some (0, 1, 5) := rfl
theorem cv_228 : rx_nth fx_CV 228 = some true := by decide +kernel
theorem ap_228 : rx_nth fx_AP 228 = some axm_228 := rfl
theorem sg_228 : rx_nth fx_SG 228 = some (3, 1, 4) := rfl
theorem cv_229 : rx_nth fx_CV 229 = some true := by decide +kernel
theorem ap_229 : rx_nth fx_AP 229 = some axm_229 := rfl
theorem sg_229 : rx_nth fx_SG 229 = some (3, 1, 5) := rfl
theorem cv_230 : rx_nth fx_CV 230 = some true := by decide +kernel
theorem ap_230 : rx_nth fx_AP 230 = some axm_230 := rfl
theorem sg_230 : rx_nth fx_SG 230 = some (2, 1, 4) := rfl
theorem cv_231 : rx_nth fx_CV 231 = some true := by decide +kernel
theorem ap_231 : rx_nth fx_AP 231 = some axm_231 := rfl
theorem sg_231 : rx_nth fx_SG 231 = some (1, 1, 3) := rfl
theorem cv_232 : rx_nth fx_CV 232 = some true := by decide +kernel
theorem ap_232 : rx_nth fx_AP 232 = some axm_232 := rfl
theorem sg_232 : rx_nth fx_SG 232 = some (1, 1, 2) := rfl
theorem cv_233 : rx_nth fx_CV 233 = some true := by decide +kernel
theorem ap_233 : rx_nth fx_AP 233 = some axm_233 := rfl
theorem sg_233 : rx_nth fx_SG 233 = some (2, 1, 3) := rfl
theorem cv_234 : rx_nth fx_CV 234 = some true := by decide +kernel
theorem ap_234 : rx_nth fx_AP 234 = some axm_234 := rfl
theorem sg_234 : rx_nth fx_SG 234 = some (3, 1, 4) := rfl
theorem cv_235 : rx_nth fx_CV 235 = some true := by decide +kernel
theorem ap_235 : rx_nth fx_AP 235 = some axm_235 := rfl
theorem sg_235 : rx_nth fx_SG 235 = some (1, 0, 2) := rfl
theorem cv_236 : rx_nth fx_CV 236 = some true := by decide +kernel
theorem ap_236 : rx_nth fx_AP 236 = some axm_236 := rfl
theorem sg_236 : rx_nth fx_SG 236 = some (0, 1, 3) := rfl
theorem cv_237 : rx_nth fx_CV 237 = some true := by decide +kernel
theorem ap_237 : rx_nth fx_AP 237 = some axm_237 := rfl
theorem sg_237 : rx_nth fx_SG 237 = some (3, 3, 4) := rfl
theorem cv_238 : rx_nth fx_CV 238 = some true := by decide +kernel
theorem ap_238 : rx_nth fx_AP 238 = some axm_238 := rfl
theorem sg_238 : rx_nth fx_SG 238 = some (2, 3, 3) := rfl
theorem cv_239 : rx_nth fx_CV 239 = some true := by decide +kernel
theorem ap_239 : rx_nth fx_AP 239 = some axm_239 := rfl
theorem sg_239 : rx_nth fx_SG 239 = some (2, 1, 5) := rfl
theorem cv_240 : rx_nth fx_CV 240 = some true := by decide +kernel
theorem ap_240 : rx_nth fx_AP 240 = some axm_240 := rfl
theorem sg_240 : rx_nth fx_SG 240 = some (2, 1, 4) := rfl
theorem cv_241 : rx_nth fx_CV 241 = some true := by decide +kernel
theorem ap_241 : rx_nth fx_AP 241 = some axm_241 := rfl
theorem sg_241 : rx_nth fx_SG 241 = some (2, 2, 3) := rfl
theorem cv_242 : rx_nth fx_CV 242 = some true := by decide +kernel
theorem ap_242 : rx_nth fx_AP 242 = some axm_242 := rfl
theorem sg_242 : rx_nth fx_SG 242 = some (2, 2, 3) := rfl
theorem cv_243 : rx_nth fx_CV 243 = some true := by decide +kernel
theorem ap_243 : rx_nth fx_AP 243 = some axm_243 := rfl
theorem sg_243 : rx_nth fx_SG 243 = some (2, 1, 3) := rfl
theorem cv_244 : rx_nth fx_CV 244 = some true := by decide +kernel
theorem ap_244 : rx_nth fx_AP 244 = some axm_244 := rfl
theorem sg_244 : rx_nth fx_SG 244 = some (1, 0, 3) := rfl
theorem cv_245 : rx_nth fx_CV 245 = some true := by decide +kernel
theorem ap_245 : rx_nth fx_AP 245 = some axm_245 := rfl
theorem sg_245 : rx_nth fx_SG 245 = some (3, 1, 8) := rfl
theorem cv_246 : rx_nth fx_CV 246 = some true := by decide +kernel
theorem ap_246 : rx_nth fx_AP 246 = some axm_246 := rfl
theorem sg_246 : rx_nth fx_SG 246 = some (1, 0, 2) := rfl
theorem cv_247 : rx_nth fx_CV 247 = some true := by decide +kernel
theorem ap_247 : rx_nth fx_AP 247 = some axm_247 := rfl
theorem sg_247 : rx_nth fx_SG 247 = some (1, 1, 3) := rfl
theorem cv_248 : rx_nth fx_CV 248 = some true := by decide +kernel
theorem ap_248 : rx_nth fx_AP 248 = some axm_248 := rfl
theorem sg_248 : rx_nth fx_SG 248 = some (1, 1, 6) := rfl
theorem cv_249 : rx_nth fx_CV 249 = some true := by decide +kernel
theorem ap_249 : rx_nth fx_AP 249 = some axm_249 := rfl
theorem sg_249 : rx_nth fx_SG 249 = some (2, 1, 4) := rfl
theorem cv_250 : rx_nth fx_CV 250 = some true := by decide +kernel
theorem ap_250 : rx_nth fx_AP 250 = some axm_250 := rfl
theorem sg_250 : rx_nth fx_SG 250 = some (0, 1, 2) := rfl
theorem cv_251 : rx_nth fx_CV 251 = some true := by decide +kernel
theorem ap_251 : rx_nth fx_AP 251 = some axm_251 := rfl
theorem sg_251 : rx_nth fx_SG 251 = some (2, 1, 3) := rfl
theorem cv_252 : rx_nth fx_CV 252 = some true := by decide +kernel
theorem ap_252 : rx_nth fx_AP 252 = some axm_252 := rfl
theorem sg_252 : rx_nth fx_SG 252 = some (2, 1, 3) := rfl
theorem cv_253 : rx_nth fx_CV 253 = some true := by decide +kernel
theorem ap_253 : rx_nth fx_AP 253 = some axm_253 := rfl
theorem sg_253 : rx_nth fx_SG 253 = some (2, 1, 3) := rfl
theorem cv_254 : rx_nth fx_CV 254 = some true := by decide +kernel
theorem ap_254 : rx_nth fx_AP 254 = some axm_254 := rfl
theorem sg_254 : rx_nth fx_SG 254 = some (1, 1, 2) := rfl
theorem cv_255 : rx_nth fx_CV 255 = some true := by decide +kernel
theorem ap_255 : rx_nth fx_AP 255 = some axm_255 := rfl
theorem sg_255 : rx_nth fx_SG 255 = some (0, 1, 3) := rfl
theorem cv_256 : rx_nth fx_CV 256 = some true := by decide +kernel
theorem ap_256 : rx_nth fx_AP 256 = some axm_256 := rfl
theorem sg_256 : rx_nth fx_SG 256 = some (2, 1, 3) := rfl
theorem cv_257 : rx_nth fx_CV 257 = some true := by decide +kernel
theorem ap_257 : rx_nth fx_AP 257 = some axm_257 := rfl
theorem sg_257 : rx_nth fx_SG 257 = some (1, 2, 3) := rfl
theorem cv_258 : rx_nth fx_CV 258 = some true := by decide +kernel
theorem ap_258 : rx_nth fx_AP 258 = some axm_258 := rfl
theorem sg_258 : rx_nth fx_SG 258 = some (2, 2, 5) := rfl
theorem cv_259 : rx_nth fx_CV 259 = some true := by decide +kernel
theorem ap_259 : rx_nth fx_AP 259 = some axm_259 := rfl
theorem sg_259 : rx_nth fx_SG 259 = some (3, 2, 5) := rfl
theorem cv_260 : rx_nth fx_CV 260 = some true := by decide +kernel
theorem ap_260 : rx_nth fx_AP 260 = some axm_260 := rfl
theorem sg_260 : rx_nth fx_SG 260 = some (1, 0, 6) := rfl
theorem cv_261 : rx_nth fx_CV 261 = some true := by decide +kernel
theorem ap_261 : rx_nth fx_AP 261 = some axm_261 := rfl
theorem sg_261 : rx_nth fx_SG 261 = some (0, 0, 3) := rfl
theorem cv_262 : rx_nth fx_CV 262 = some true := by decide +kernel
theorem ap_262 : rx_nth fx_AP 262 = some axm_262 := rfl
theorem sg_262 : rx_nth fx_SG 262 = some (1, 1, 3) := rfl
theorem cv_263 : rx_nth fx_CV 263 = some true := by decide +kernel
theorem ap_263 : rx_nth fx_AP 263 = some axm_263 := rfl
theorem sg_263 : rx_nth fx_SG 263 = some (1, 0, 2) := rfl
theorem cv_264 : rx_nth fx_CV 264 = some true := by decide +kernel
theorem ap_264 : rx_nth fx_AP 264 = some axm_264 := rfl
theorem sg_264 : rx_nth fx_SG 264 = some (0, 0, 2) := rfl
theorem cv_266 : rx_nth fx_CV 266 = some true := by decide +kernel
theorem ap_266 : rx_nth fx_AP 266 = some axm_266 := rfl
theorem sg_266 : rx_nth fx_SG 266 = some (0, 2, 3) := rfl
theorem cv_267 : rx_nth fx_CV 267 = some true := by decide +kernel
theorem ap_267 : rx_nth fx_AP 267 = some axm_267 := rfl
theorem sg_267 : rx_nth fx_SG 267 = some (2, 0, 6) := rfl
theorem cv_268 : rx_nth fx_CV 268 = some true := by decide +kernel
theorem ap_268 : rx_nth fx_AP 268 = some axm_268 := rfl
theorem sg_268 : rx_nth fx_SG 268 = some (0, 0, 2) := rfl
theorem cv_269 : rx_nth fx_CV 269 = some true := by decide +kernel
theorem ap_269 : rx_nth fx_AP 269 = some axm_269 := rfl
theorem sg_269 : rx_nth fx_SG 269 = some (1, 0, 5) := rfl
theorem cv_270 : rx_nth fx_CV 270 = some true := by decide +kernel
theorem ap_270 : rx_nth fx_AP 270 = some axm_270 := rfl
theorem sg_270 : rx_nth fx_SG 270 = some (3, 1, 6) := rfl
theorem cv_271 : rx_nth fx_CV 271 = some true := by decide +kernel
theorem ap_271 : rx_nth fx_AP 271 = some axm_271 := rfl
theorem sg_271 : rx_nth fx_SG 271 = some (2, 1, 3) := rfl
theorem cv_272 : rx_nth fx_CV 272 = some true := by decide +kernel
theorem ap_272 : rx_nth fx_AP 272 = some axm_272 := rfl
theorem sg_272 : rx_nth fx_SG 272 = some (0, 1, 2) := rfl
theorem cv_273 : rx_nth fx_CV 273 = some true := by decide +kernel
theorem ap_273 : rx_nth fx_AP 273 = some axm_273 := rfl
theorem sg_273 : rx_nth fx_SG 273 = some (1, 1, 2) := rfl
theorem cv_274 : rx_nth fx_CV 274 = some true := by decide +kernel
theorem ap_274 : rx_nth fx_AP 274 = some axm_274 := rfl
theorem sg_274 : rx_nth fx_SG 274 = some (0, 1, 3) := rfl
theorem cv_275 : rx_nth fx_CV 275 = some true := by decide +kernel
theorem ap_275 : rx_nth fx_AP 275 = some axm_275 := rfl
theorem sg_275 : rx_nth fx_SG 275 = some (1, 2, 3) := rfl
theorem cv_276 : rx_nth fx_CV 276 = some true := by decide +kernel
theorem ap_276 : rx_nth fx_AP 276 = some axm_276 := rfl
theorem sg_276 : rx_nth fx_SG 276 = some (3, 1, 5) := rfl
theorem cv_277 : rx_nth fx_CV 277 = some true := by decide +kernel
theorem ap_277 : rx_nth fx_AP 277 = some axm_277 := rfl
theorem sg_277 : rx_nth fx_SG 277 = some (0, 0, 3) := rfl
theorem cv_278 : rx_nth fx_CV 278 = some true := by decide +kernel
theorem ap_278 : rx_nth fx_AP 278 = some axm_278 := rfl
theorem sg_278 : rx_nth fx_SG 278 = some (0, 0, 5) := rfl
theorem cv_279 : rx_nth fx_CV 279 = some true := by decide +kernel
theorem ap_279 : rx_nth fx_AP 279 = some axm_279 := rfl
theorem sg_279 : rx_nth fx_SG 279 = some (1, 1, 4) := rfl
theorem cv_280 : rx_nth fx_CV 280 = some true := by decide +kernel
theorem ap_280 : rx_nth fx_AP 280 = some axm_280 := rfl
theorem sg_280 : rx_nth fx_SG 280 = some (3, 3, 7) := rfl
theorem cv_281 : rx_nth fx_CV 281 = some true := by decide +kernel
theorem ap_281 : rx_nth fx_AP 281 = some axm_281 := rfl
theorem sg_281 : rx_nth fx_SG 281 = some (2, 3, 3) := rfl
theorem cv_282 : rx_nth fx_CV 282 = some true := by decide +kernel
theorem ap_282 : rx_nth fx_AP 282 = some axm_282 := rfl
theorem sg_282 : rx_nth fx_SG 282 = some (0, 2, 1) := rfl
theorem cv_283 : rx_nth fx_CV 283 = some true := by decide +kernel
theorem ap_283 : rx_nth fx_AP 283 = some axm_283 := rfl
theorem sg_283 : rx_nth fx_SG 283 = some (0, 1, 1) := rfl
theorem cv_284 : rx_nth fx_CV 284 = some true := by decide +kernel
theorem ap_284 : rx_nth fx_AP 284 = some axm_284 := rfl
theorem sg_284 : rx_nth fx_SG 284 = some (3, 1, 4) := rfl
theorem cv_285 : rx_nth fx_CV 285 = some true := by decide +kernel
theorem ap_285 : rx_nth fx_AP 285 = some axm_285 := rfl
theorem sg_285 : rx_nth fx_SG 285 = some (0, 1, 3) := rfl
theorem cv_286 : rx_nth fx_CV 286 = some true := by decide +kernel
theorem ap_286 : rx_nth fx_AP 286 = some axm_286 := rfl
theorem sg_286 : rx_nth fx_SG 286 = some (0, 0, 4) := rfl
theorem cv_287 : rx_nth fx_CV 287 = some true := by decide +kernel
theorem ap_287 : rx_nth fx_AP 287 = some axm_287 := rfl
theorem sg_287 : rx_nth fx_SG 287 = some (2, 1, 3) := rfl
theorem cv_288 : rx_nth fx_CV 288 = some true := by decide +kernel
theorem ap_288 : rx_nth fx_AP 288 = some axm_288 := rfl
theorem sg_288 : rx_nth fx_SG 288 = some (1, 1, 2) := rfl
theorem cv_289 : rx_nth fx_CV 289 = some true := by decide +kernel
theorem ap_289 : rx_nth fx_AP 289 = some axm_289 := rfl
theorem sg_289 : rx_nth fx_SG 289 = some (3, 1, 4) := rfl
theorem cv_290 : rx_nth fx_CV 290 = some true := by decide +kernel
theorem ap_290 : rx_nth fx_AP 290 = some axm_290 := rfl
theorem sg_290 : rx_nth fx_SG 290 = some (2, 1, 4) := rfl
theorem cv_291 : rx_nth fx_CV 291 = some true := by decide +kernel
theorem ap_291 : rx_nth fx_AP 291 = some axm_291 := rfl
theorem sg_291 : rx_nth fx_SG 291 = some (1, 2, 4) := rfl
theorem cv_292 : rx_nth fx_CV 292 = some true := by decide +kernel
theorem ap_292 : rx_nth fx_AP 292 = some axm_292 := rfl
theorem sg_292 : rx_nth fx_SG 292 = some (0, 1, 5) := rfl
theorem cv_293 : rx_nth fx_CV 293 = some true := by decide +kernel
theorem ap_293 : rx_nth fx_AP 293 = some axm_293 := rfl
theorem sg_293 : rx_nth fx_SG 293 = some (0, 1, 3) := rfl
theorem cv_294 : rx_nth fx_CV 294 = some true := by decide +kernel
theorem ap_294 : rx_nth fx_AP 294 = some axm_294 := rfl
theorem sg_294 : rx_nth fx_SG 294 = some (0, 0, 5) := rfl
theorem cv_295 : rx_nth fx_CV 295 = some true := by decide +kernel
theorem ap_295 : rx_nth fx_AP 295 = some axm_295 := rfl
theorem sg_295 : rx_nth fx_SG 295 = some (1, 1, 4) := rfl
theorem cv_296 : rx_nth fx_CV 296 = some true := by decide +kernel
theorem ap_296 : rx_nth fx_AP 296 = some axm_296 := rfl
theorem sg_296 : rx_nth fx_SG 296 = some (1, 1, 2) := rfl
theorem cv_297 : rx_nth fx_CV 297 = some true := by decide +kernel
theorem ap_297 : rx_nth fx_AP 297 = some axm_297 := rfl
theorem sg_297 : rx_nth fx_SG 297 = some (1, 1, 2) := rfl
theorem cv_298 : rx_nth fx_CV 298 = some true := by decide +kernel
theorem ap_298 : rx_nth fx_AP 298 = some axm_298 := rfl
theorem sg_298 : rx_nth fx_SG 298 = some (2, 1, 4) := rfl
theorem cv_299 : rx_nth fx_CV 299 = some true := by decide +kernel
theorem ap_299 : rx_nth fx_AP 299 = some axm_299 := rfl
theorem sg_299 : rx_nth fx_SG 299 = some (1, 2, 4) := rfl
theorem cv_300 : rx_nth fx_CV 300 = some true := by decide +kernel
theorem ap_300 : rx_nth fx_AP 300 = some axm_300 := rfl
theorem sg_300 : rx_nth fx_SG 300 = some (1, 1, 6) := rfl
theorem cv_301 : rx_nth fx_CV 301 = some true := by decide +kernel
theorem ap_301 : rx_nth fx_AP 301 = some axm_301 := rfl
theorem sg_301 : rx_nth fx_SG 301 = some (3, 1, 6) := rfl
theorem cv_302 : rx_nth fx_CV 302 = some true := by decide +kernel
theorem ap_302 : rx_nth fx_AP 302 = some axm_302 := rfl
theorem sg_302 : rx_nth fx_SG 302 = some (2, 1, 4) := rfl
theorem cv_303 : rx_nth fx_CV 303 = some true := by decide +kernel
theorem ap_303 : rx_nth fx_AP 303 = some axm_303 := rfl
theorem sg_303 : rx_nth fx_SG 303 = some (2, 1, 3) := rfl
theorem cv_304 : rx_nth fx_CV 304 = some true := by decide +kernel
theorem ap_304 : rx_nth fx_AP 304 = some axm_304 := rfl
theorem sg_304 : rx_nth fx_SG 304 = some (1, 1, 2) := rfl
theorem cv_305 : rx_nth fx_CV 305 = some true := by decide +kernel
theorem ap_305 : rx_nth fx_AP 305 = some axm_305 := rfl
theorem sg_305 : rx_nth fx_SG 305 = some (0, 1, 3) := rfl
theorem cv_306 : rx_nth fx_CV 306 = some true := by decide +kernel
theorem ap_306 : rx_nth fx_AP 306 = some axm_306 := rfl
theorem sg_306 : rx_nth fx_SG 306 = some (1, 2, 4) := rfl
theorem cv_307 : rx_nth fx_CV 307 = some true := by decide +kernel
theorem ap_307 : rx_nth fx_AP 307 = some axm_307 := rfl
theorem sg_307 : rx_nth fx_SG 307 = some (1, 1, 3) := rfl
theorem cv_308 : rx_nth fx_CV 308 = some true := by decide +kernel
theorem ap_308 : rx_nth fx_AP 308 = some axm_308 := rfl
theorem sg_308 : rx_nth fx_SG 308 = some (1, 2, 4) := rfl
theorem cv_309 : rx_nth fx_CV 309 = some true := by decide +kernel
theorem ap_309 : rx_nth fx_AP 309 = some axm_309 := rfl
theorem sg_309 : rx_nth fx_SG 309 = some (2, 1, 4) := rfl
theorem cv_310 : rx_nth fx_CV 310 = some true := by decide +kernel
theorem ap_310 : rx_nth fx_AP 310 = some axm_310 := rfl
theorem sg_310 : rx_nth fx_SG 310 = some (2, 1, 3) := rfl
theorem cv_311 : rx_nth fx_CV 311 = some true := by decide +kernel
theorem ap_311 : rx_nth fx_AP 311 = some axm_311 := rfl
theorem sg_311 : rx_nth fx_SG 311 = some (2, 1, 3) := rfl
theorem cv_312 : rx_nth fx_CV 312 = some true := by decide +kernel
theorem ap_312 : rx_nth fx_AP 312 = some axm_312 := rfl
theorem sg_312 : rx_nth fx_SG 312 = some (1, 2, 4) := rfl
theorem cv_313 : rx_nth fx_CV 313 = some true := by decide +kernel
theorem ap_313 : rx_nth fx_AP 313 = some axm_313 := rfl
theorem sg_313 : rx_nth fx_SG 313 = some (1, 2, 4) := rfl
theorem cv_314 : rx_nth fx_CV 314 = some true := by decide +kernel
theorem ap_314 : rx_nth fx_AP 314 = some axm_314 := rfl
theorem sg_314 : rx_nth fx_SG 314 = some (1, 2, 4) := rfl
theorem cv_315 : rx_nth fx_CV 315 = some true := by decide +kernel
theorem ap_315 : rx_nth fx_AP 315 = some axm_315 := rfl
theorem sg_315 : rx_nth fx_SG 315 = some (1, 2, 4) := rfl
theorem cv_316 : rx_nth fx_CV 316 = some true := by decide +kernel
theorem ap_316 : rx_nth fx_AP 316 = some axm_316 := rfl
theorem sg_316 : rx_nth fx_SG 316 = some (1, 2, 4) := rfl
theorem cv_317 : rx_nth fx_CV 317 = some true := by decide +kernel
theorem ap_317 : rx_nth fx_AP 317 = some axm_317 := rfl
theorem sg_317 : rx_nth fx_SG 317 = some (1, 2, 4) := rfl
theorem cv_318 : rx_nth fx_CV 318 = some true := by decide +kernel
theorem ap_318 : rx_nth fx_AP 318 = some axm_318 := rfl
theorem sg_318 : rx_nth fx_SG 318 = some (1, 2, 4) := rfl
theorem cv_319 : rx_nth fx_CV 319 = some true := by decide +kernel
theorem ap_319 : rx_nth fx_AP 319 = some axm_319 := rfl
theorem sg_319 : rx_nth fx_SG 319 = some (1, 2, 4) := rfl
theorem cv_320 : rx_nth fx_CV 320 = some true := by decide +kernel
theorem ap_320 : rx_nth fx_AP 320 = some axm_320 := rfl
theorem sg_320 : rx_nth fx_SG 320 = some (1, 2, 4) := rfl
theorem cv_321 : rx_nth fx_CV 321 = some true := by decide +kernel
theorem ap_321 : rx_nth fx_AP 321 = some axm_321 := rfl
theorem sg_321 : rx_nth fx_SG 321 = some (1, 2, 4) := rfl
theorem cv_322 : rx_nth fx_CV 322 = some true := by decide +kernel
theorem ap_322 : rx_nth fx_AP 322 = some axm_322 := rfl
theorem sg_322 : rx_nth fx_SG 322 = some (1, 2, 4) := rfl
theorem cv_323 : rx_nth fx_CV 323 = some true := by decide +kernel
theorem ap_323 : rx_nth fx_AP 323 = some axm_323 := rfl
theorem sg_323 : rx_nth fx_SG 323 = some (1, 2, 4) := rfl
theorem cv_324 : rx_nth fx_CV 324 = some true := by decide +kernel
theorem ap_324 : rx_nth fx_AP 324 = some axm_324 := rfl
theorem sg_324 : rx_nth fx_SG 324 = some (1, 2, 4) := rfl
theorem cv_325 : rx_nth fx_CV 325 = some true := by decide +kernel
theorem ap_325 : rx_nth fx_AP 325 = some axm_325 := rfl
theorem sg_325 : rx_nth fx_SG 325 = some (1, 2, 4) := rfl
theorem cv_326 : rx_nth fx_CV 326 = some true := by decide +kernel
theorem ap_326 : rx_nth fx_AP 326 = some axm_326 := rfl
theorem sg_326 : rx_nth fx_SG 326 = some (1, 2, 4) := rfl
theorem cv_327 : rx_nth fx_CV 327 = some true := by decide +kernel
theorem ap_327 : rx_nth fx_AP 327 = some axm_327 := rfl
theorem sg_327 : rx_nth fx_SG 327 = some (1, 2, 4) := rfl
theorem cv_328 : rx_nth fx_CV 328 = some true := by decide +kernel
theorem ap_328 : rx_nth fx_AP 328 = some axm_328 := rfl
theorem sg_328 : rx_nth fx_SG 328 = some (1, 2, 4) := rfl
theorem cv_329 : rx_nth fx_CV 329 = some true := by decide +kernel
theorem ap_329 : rx_nth fx_AP 329 = some axm_329 := rfl
theorem sg_329 : rx_nth fx_SG 329 = some (0, 2, 1) := rfl
theorem cv_330 : rx_nth fx_CV 330 = some true := by decide +kernel
theorem ap_330 : rx_nth fx_AP 330 = some axm_330 := rfl
theorem sg_330 : rx_nth fx_SG 330 = some (0, 2, 2) := rfl
theorem cv_331 : rx_nth fx_CV 331 = some true := by decide +kernel
theorem ap_331 : rx_nth fx_AP 331 = some axm_331 := rfl
theorem sg_331 : rx_nth fx_SG 331 = some (0, 1, 3) := rfl
end
section
theorem rx_sm_aload_n (k : Fin 4) : rx_sem (.aload_n k) = rx_h_ld rx_isR k.val 1 := rfl
theorem rx_sm_iload_n (k : Fin 4) : rx_sem (.iload_n k) = rx_h_ld rx_isI k.val 1 := rfl
theorem rx_sm_lload_n (k : Fin 4) : rx_sem (.lload_n k) = rx_h_ld rx_isJ k.val 1 := rfl
theorem rx_sm_iload (i : Nat) : rx_sem (.iload i) = rx_h_ld rx_isI i 2 := rfl
theorem rx_sm_istore_n (k : Fin 4) : rx_sem (.istore_n k) = rx_h_sto rx_isI k.val 1 := rfl
theorem rx_sm_astore_n (k : Fin 4) : rx_sem (.astore_n k) = rx_h_sto rx_isR k.val 1 := rfl
theorem rx_sm_istore (i : Nat) : rx_sem (.istore i) = rx_h_sto rx_isI i 2 := rfl
theorem rx_sm_lstore_n (k : Fin 4) : rx_sem (.lstore_n k) = rx_h_stJ k.val 1 := rfl
theorem rx_sm_lstore (i : Nat) : rx_sem (.lstore i) = rx_h_stJ i 2 := rfl
theorem rx_sm_iinc (i : Nat) (x1 : Int) : rx_sem (.iinc i x1) = rx_h_inc i := rfl
theorem rx_sm_iconst (x0 : Int) : rx_sem (.iconst x0) = rx_h_psh 1 := rfl
theorem rx_sm_bipush (x0 : Int) : rx_sem (.bipush x0) = rx_h_psh 2 := rfl
theorem rx_sm_sipush (x0 : Int) : rx_sem (.sipush x0) = rx_h_psh 3 := rfl
theorem rx_sm_lconst (x0 : Fin 2) : rx_sem (.lconst x0) = rx_h_pshJ 1 := rfl
theorem rx_sm_ldc_w (x0 : Nat) : rx_sem (.ldc_w x0) = rx_h_psh 3 := rfl
theorem rx_sm_ldc2_w (x0 : Nat) : rx_sem (.ldc2_w x0) = rx_h_pshJ 3 := rfl
theorem rx_sm_iadd : rx_sem (.iadd) = rx_h_ar rx_f_add rx_g32 := rfl
theorem rx_sm_isub : rx_sem (.isub) = rx_h_ar rx_f_sub rx_g32 := rfl
theorem rx_sm_imul : rx_sem (.imul) = rx_h_ar rx_f_mul rx_g32 := rfl
theorem rx_sm_iand : rx_sem (.iand) = rx_h_ar rx_f_and rx_gand := rfl
theorem rx_sm_ishl : rx_sem (.ishl) = rx_h_ar rx_f_shl rx_g32 := rfl
theorem rx_sm_ishr : rx_sem (.ishr) = rx_h_ark rx_f_shr := rfl
theorem rx_sm_iushr : rx_sem (.iushr) = rx_h_ar rx_f_ushr rx_g32 := rfl
theorem rx_sm_i2b : rx_sem (.i2b) = rx_h_un rx_f_i2b := rfl
theorem rx_sm_ineg : rx_sem (.ineg) = rx_h_un rx_f_neg := rfl
theorem rx_sm_ior : rx_sem (.ior) = rx_h_ark rx_f_or := rfl
theorem rx_sm_ixor : rx_sem (.ixor) = rx_h_ark rx_f_xor := rfl
theorem rx_sm_idiv : rx_sem (.idiv) = rx_h_ark rx_f_div := rfl
theorem rx_sm_irem : rx_sem (.irem) = rx_h_ark rx_f_rem := rfl
theorem rx_sm_ladd : rx_sem (.ladd) = rx_h_arJ rx_j_add := rfl
theorem rx_sm_lsub : rx_sem (.lsub) = rx_h_arJ rx_j_sub := rfl
theorem rx_sm_lmul : rx_sem (.lmul) = rx_h_arJ rx_j_mul := rfl
theorem rx_sm_land : rx_sem (.land) = rx_h_arJ rx_j_and := rfl
theorem rx_sm_lor : rx_sem (.lor) = rx_h_arJ rx_j_or := rfl
theorem rx_sm_lxor : rx_sem (.lxor) = rx_h_arJ rx_j_xor := rfl
theorem rx_sm_lshl : rx_sem (.lshl) = rx_h_shJ rx_j_shl := rfl
theorem rx_sm_lshr : rx_sem (.lshr) = rx_h_shJ rx_j_shr := rfl
theorem rx_sm_lload (i : Nat) : rx_sem (.lload i) = rx_h_ld rx_isJ i 2 := rfl
theorem rx_sm_laload : rx_sem (.laload) = rx_h_ald (fun t => Nat.beq t 14) := rfl
theorem rx_sm_lastore : rx_sem (.lastore) = rx_h_last := rfl
theorem rx_sm_lcmp : rx_sem (.lcmp) = rx_h_lcmp := rfl
theorem rx_sm_dup : rx_sem (.dup) = rx_h_dup := rfl
theorem rx_sm_pop : rx_sem (.pop) = rx_h_pop := rfl
theorem rx_sm_dup2 : rx_sem (.dup2) = rx_h_dup2 := rfl
theorem rx_sm_pop2 : rx_sem (.pop2) = rx_h_pop2 := rfl
theorem rx_sm_ldc (x0 : Nat) : rx_sem (.ldc x0) = rx_h_ldc := rfl
theorem rx_sm_goto (x0 : Int) : rx_sem (.goto x0) = rx_h_goto := rfl
theorem rx_sm_ifCond (k : Jvm.ClassFile.Cond) (x1 : Int) : rx_sem (.ifCond k x1) = rx_h_if k := rfl
theorem rx_sm_if_icmp (k : Jvm.ClassFile.Cond) (x1 : Int) : rx_sem (.if_icmp k x1) = rx_h_icmp k := rfl
theorem rx_sm_tableswitch (x0 : Int) (lo : Int) (hi : Int) (offs : Array Int) : rx_sem (.tableswitch x0 lo hi offs) = rx_h_tsw lo hi offs := rfl
theorem rx_sm_getfield (x0 : Nat) : rx_sem (.getfield x0) = rx_h_gf := rfl
theorem rx_sm_putfield (x0 : Nat) : rx_sem (.putfield x0) = rx_h_pf := rfl
theorem rx_sm_iaload : rx_sem (.iaload) = rx_h_ald (fun t => Nat.beq t 13) := rfl
theorem rx_sm_baload : rx_sem (.baload) = rx_h_ald (fun t => Nat.beq t 12 || Nat.beq t 15) := rfl
theorem rx_sm_aaload : rx_sem (.aaload) = rx_h_ald (fun t => Nat.beq t 16) := rfl
theorem rx_sm_iastore : rx_sem (.iastore) = rx_h_iast := rfl
theorem rx_sm_bastore : rx_sem (.bastore) = rx_h_bast := rfl
theorem rx_sm_aastore : rx_sem (.aastore) = rx_h_aast := rfl
theorem rx_sm_arraylength : rx_sem (.arraylength) = rx_h_alen := rfl
theorem rx_sm_newarray (t : Jvm.ClassFile.ArrayType) : rx_sem (.newarray t) = rx_h_newa t := rfl
theorem rx_sm_anewarray (x0 : Nat) : rx_sem (.anewarray x0) = rx_h_anew := rfl
theorem rx_sm_new (x0 : Nat) : rx_sem (.new x0) = rx_h_new := rfl
def rx_Hl (l : List rx_E) : Prop := List.rec (motive := fun _ => Prop) True (fun x _ ih => (x.2.1 = 0 → x.2.2.1 = rx_sem x.2.2.2.1) ∧ ih) l
def rx_Hc (c : List (List rx_E)) : Prop := List.rec (motive := fun _ => Prop) True (fun l _ ih => rx_Hl l ∧ ih) c
theorem rx_Hl_ok : ∀ {l : List rx_E}, rx_Hl l → ∀ x ∈ l, x.2.1 = 0 → x.2.2.1 = rx_sem x.2.2.2.1
  | [], _, x, hx => absurd hx List.not_mem_nil
  | _ :: _, h, x, hx => (List.mem_cons.mp hx).elim (fun e => by rw [e]; exact h.1) (fun hx => rx_Hl_ok h.2 x hx)
theorem rx_Hc_ok : ∀ {c : List (List rx_E)}, rx_Hc c → ∀ ch ∈ c, ∀ x ∈ ch, x.2.1 = 0 → x.2.2.1 = rx_sem x.2.2.2.1
  | [], _, x, hx => absurd hx List.not_mem_nil
  | _ :: _, h, x, hx => (List.mem_cons.mp hx).elim (fun e => by rw [e]; exact rx_Hl_ok h.1) (fun hx => rx_Hc_ok h.2 x hx)
theorem rx_nz {n : Nat} {p : Prop} (h : Nat.beq n 0 = false) (z : n = 0) : p := by
  rw [z] at h
  exact Bool.noConfusion h
noncomputable def rx_hasN (w : Nat × Nat) (own : String) (i : Nat) (y : MethodName) (host : String) : Bool := match rx_nth (rx_tb w.1) w.2 with
  | some z => decide (z = Jvm.Cond.methodLinkNest own i y host)
  | none => false
theorem rx_hasN_ok {w : Nat × Nat} {own : String} {i : Nat} {y : MethodName} {host : String} (h : rx_hasN w own i y host = true) : Jvm.Cond.methodLinkNest own i y host ∈ lw_nest := by
  unfold rx_hasN at h
  rw [rx_nth_eq] at h
  cases e : (rx_tb w.1)[w.2]? with
  | none => rw [e] at h; cases h
  | some z =>
    rw [e] at h
    have e2 : z = _ := of_decide_eq_true h
    subst e2
    exact List.mem_filter.mpr ⟨rx_tb_in (List.mem_of_getElem? e), rfl⟩
/-- what the tables say of a class -/
noncomputable def rx_CL (K : rx_K) (na : Nat) : Prop := ∃ (C : String) (T : u_T) (Nf : Nat) (ty0 : Nat → FieldType) (fs : List Value) (l : List Nat), vwCl[na]? = some (C, T, Nf) ∧ (∀ k, k < Nf → parseFieldDescriptor (T k).2.2.1 = some (ty0 k)) ∧ (∀ a, a < Nf → ∀ b, b < Nf → a ≠ b → (T a).2.1 ≠ (T b).2.1) ∧ (∀ w ∈ u_ws C T Nf, w ∈ lw_G) ∧ (∀ nb ks k, nb < Nf → rx_nth K.2 na = some ks → rx_nth ks nb = some k → rx_fkt k (ty0 nb)) ∧
  rx_nth K.1 na = some l ∧ l.length = Nf ∧ (∀ b ad en, l.map (rx_cv b ad en) = fs.map some) ∧ (∀ j, j < Nf → defaultValue (ty0 j) = vp_V fs j) ∧ Jvm.Cond.instantiable C Nf ∈ lw_G ∧ Jvm.Cond.initialized C ∈ lw_G
noncomputable def rx_wI (q : rx_M) : Nat × Nat := q.2.2.2.2.1
noncomputable def rx_wS (q : rx_M) : Nat × Nat := q.2.2.2.2.2.1
noncomputable def rx_wC (q : rx_M) : Nat × Nat := q.2.2.2.1
noncomputable def rx_wN (q : rx_M) : Nat × Nat := q.2.2.2.2.2.2
abbrev rx_XT : Type := (Nat × Nat) × (Nat × Nat) × (Nat × Nat) × (Nat × Nat) × (Nat × Nat) × (Nat × Nat) × (Nat × Nat) × (Nat × Nat) × (Nat × Nat) × (Nat × Nat)
/-- the notes of an instruction, by program; X: where five words of the JDK stand -/
noncomputable def rx_cw (X : rx_XT) (P : List rx_M) (own mn : String) (pc na nb : Nat) (w : Nat × Nat) (ins : Instr) : Bool := match ins with
  | .iinc _ n => decide (Int32.ofInt n = Int32.ofNat na)
  | .iconst n => decide (Int32.ofInt n = Int32.ofNat na)
  | .bipush n => decide ((Int8.ofInt n).toInt32 = Int32.ofNat na)
  | .sipush n => decide ((Int16.ofInt n).toInt32 = Int32.ofNat na)
  | .lconst n => decide (Int64.ofNat n.val = Int64.ofNat na)
  | .ldc_w i => rx_has w (.constant own i (Int32.ofNat na))
  | .ldc i => bif Nat.beq (rx_tk na) 0 then rx_has w (.constant own i (Int32.ofNat (rx_pl na))) else rx_isW na && (decide (own = "TurnNet$Reader") && decide (i = rx_sidx.getD (Nat.sub (rx_pl na) 1000) 0))
  | .ldc2_w i => rx_has w (.constantLong own i (Int64.ofNat na))
  | .goto off => decide ((pc : Int) + off = (na : Int))
  | .ifCond _ off => decide ((pc : Int) + off = (na : Int))
  | .if_icmp _ off => decide ((pc : Int) + off = (na : Int))
  | .tableswitch d _ _ _ => decide ((pc : Int) + d = (na : Int))
  | .getfield i => (match rx_nth vwCl na with
    | some q => Nat.blt na 12 && (Nat.blt nb q.2.2 && rx_has w (.fieldLink own i (q.2.1 nb).1 (q.2.1 nb).2.1 (q.2.1 nb).2.2.1))
    | none => false)
  | .putfield i => (match rx_nth vwCl na with
    | some q => Nat.blt na 12 && (Nat.blt nb q.2.2 && (rx_has w (.fieldLink own i (q.2.1 nb).1 (q.2.1 nb).2.1 (q.2.1 nb).2.2.1) && (decide ((q.2.1 nb).2.2.2 = false) || (decide ((q.2.1 nb).2.2.2 = true) && (decide (mn = "<init>") && decide ((q.2.1 nb).1 = own))))))
    | none => false)
  | .newarray t => rx_has w (.arrayClass (newarray.typeOf t))
  | .anewarray i => rx_has w (.classLink own i "TurnNet$State")
  | .new i => (match rx_nth vwCl na with
    | some q => Nat.blt na 12 && rx_has w (.classLink own i q.1)
    | none => false)
  | .invokevirtual i => bif Nat.beq nb 13 then rx_has w (.methodLink own i yJ0_length_8abf5) else bif Nat.beq nb 17 then rx_has w (.methodLink own i yJ0_charAt_5068e) else (match rx_nth P na with
    | some q => decide (nb ≠ 1) && (decide (nb ≠ 2 ∧ nb % 4 ≠ 1) && (rx_has w (.methodLink own i (rx_y q)) && (rx_has (rx_wI q) (.instanceMethod (rx_y q)) && (rx_has (rx_wS q) (.selects (rx_y q).cls (rx_y q) (rx_y q)) && (Nat.blt (nb / 4) 12 && (match rx_nth vwCl (nb / 4) with
      | some z => decide (z.1 = (rx_y q).cls)
      | none => false))))))
    | none => false)
  | .invokespecial i => bif Nat.beq nb 1 then rx_has w (.methodLink own i objectInit) && (rx_has X.1 (.instanceMethod objectInit) && rx_has X.2.1 (.code objectInit ⟨#[0xb1]⟩ 1 none)) else (match rx_nth P na with
    | some q => decide (nb ≠ 1) && (decide (nb ≠ 2 ∧ nb % 4 ≠ 1) && (decide ((rx_y q).name = "<init>") && (decide (rx_rt q = none) && (rx_has (rx_wI q) (.instanceMethod (rx_y q)) && (rx_has w (.methodLink own i (rx_y q)) || rx_hasN w own i (rx_y q) "TurnNet")))))
    | none => false)
  | .invokestatic i => bif Nat.beq nb 2 then rx_has w (.methodLink own i arraycopyName) && (rx_has X.2.2.1 (.native arraycopyName) && (rx_has X.2.2.2.1 (.static arraycopyName) && rx_has X.2.2.2.2.1 (.initialized "java/lang/System"))) else bif Nat.beq nb 5 then rx_has w (.methodLink own i Lib.Math.max.name) && (rx_has X.2.2.2.2.2.2.1 (.static Lib.Math.max.name) && (rx_has X.2.2.2.2.2.1 (.initialized "java/lang/Math") && rx_has X.2.2.2.2.2.2.2.1 (.code Lib.Math.max.name Lib.Math.max.code 2 (some .int)))) else bif Nat.beq nb 9 then rx_has w (.methodLink own i Lib.Math.min.name) && (rx_has X.2.2.2.2.2.2.2.2.1 (.static Lib.Math.min.name) && (rx_has X.2.2.2.2.2.1 (.initialized "java/lang/Math") && rx_has X.2.2.2.2.2.2.2.2.2 (.code Lib.Math.min.name Lib.Math.min.code 2 (some .int)))) else (match rx_nth P na with
    | some q => decide (nb ≠ 1) && (decide (nb ≠ 2 ∧ nb % 4 ≠ 1) && (rx_has w (.methodLink own i (rx_y q)) && rx_has (rx_wI q) (.static (rx_y q))))
    | none => false)
  | _ => true
/-- the bytes from a place on -/
noncomputable def rxe_dr (l : List UInt8) : Nat → List UInt8 := List.rec (motive := fun _ => Nat → List UInt8) (fun _ => []) (fun x t ih i => Nat.casesOn i (x :: t) (fun j => ih j)) l
theorem rxe_dr_eq : ∀ (l : List UInt8) (n : Nat), rxe_dr l n = l.drop n
  | [], 0 => rfl
  | [], _ + 1 => rfl
  | _ :: _, 0 => rfl
  | _ :: t, n + 1 => rxe_dr_eq t n
def rxe_at (code : ByteArray) (p : Nat) (b : UInt8) : Prop := ∃ hp : p < code.size, code[p] = b
theorem rxe_dr_at {code : ByteArray} {p : Nat} {b : UInt8} {r : List UInt8} (h : code.data.toList.drop p = b :: r) : rxe_at code p b ∧ code.data.toList.drop (p + 1) = r := by
  obtain ⟨⟨l⟩⟩ := code
  have h : l.drop p = b :: r := h
  have hl : p < l.length := by
    rcases Nat.lt_or_ge p l.length with q | q
    · exact q
    · rw [List.drop_eq_nil_of_le q] at h; cases h
  rw [List.drop_eq_getElem_cons hl] at h
  exact ⟨⟨hl, (List.cons.inj h).1⟩, (List.cons.inj h).2⟩
theorem rxe_u1 {code : ByteArray} {p : Nat} {b : UInt8} (h : rxe_at code p b) : (Jvm.ClassFile.Reader.u1 : Jvm.ClassFile.Decoder Nat) code p = .ok (b.toNat, p + 1) := by
  obtain ⟨hp, hb⟩ := h
  subst hb
  show (dite (p < code.size) (fun q => (do set (p + 1); Pure.pure (code[p]'q).toNat : Jvm.ClassFile.Decoder Nat)) (fun _ => throw (Jvm.ClassFile.HasTruncated.truncated p)) : Jvm.ClassFile.Decoder Nat) code p = _
  rw [dif_pos hp]
  rfl
theorem rxe_bd {α β : Type} {r : Jvm.ClassFile.Decoder α} {f : α → Jvm.ClassFile.Decoder β} {code : ByteArray} {p s : Nat} {a : α} (h : r code p = .ok (a, s)) : (r >>= f) code p = f a code s := by
  show (do let (a, s) ← r code p; f a code s : Except Jvm.ClassFile.DecodeError (β × Nat)) = _
  rw [h]
  rfl
theorem rxe_mp {α β : Type} {r : Jvm.ClassFile.Decoder α} {g : α → β} {code : ByteArray} {p s : Nat} {a : α} (h : r code p = .ok (a, s)) : (g <$> r) code p = .ok (g a, s) := by
  show (do let (a, s) ← r code p; Pure.pure (g a, s) : Except Jvm.ClassFile.DecodeError (β × Nat)) = _
  rw [h]
  rfl
theorem rxe_u2 {code : ByteArray} {p : Nat} {b c : UInt8} (h : rxe_at code p b) (h2 : rxe_at code (p + 1) c) : (Jvm.ClassFile.Reader.u2 : Jvm.ClassFile.Decoder Nat) code p = .ok (b.toNat * 256 + c.toNat, p + 2) := by
  show ((Jvm.ClassFile.Reader.u1 : Jvm.ClassFile.Decoder Nat) >>= fun x => (Jvm.ClassFile.Reader.u1 : Jvm.ClassFile.Decoder Nat) >>= fun y => (Pure.pure (x * 256 + y) : Jvm.ClassFile.Decoder Nat)) code p = _
  rw [rxe_bd (rxe_u1 h), rxe_bd (rxe_u1 h2)]
  rfl
theorem rxe_dk {code : ByteArray} {pc n : Nat} {ins : Instr} (h : (Jvm.ClassFile.Decoder.instr pc) code pc = .ok (ins, pc + n)) : decode code pc = .ok (ins, n) := by
  show (do let (i, nx) ← (Jvm.ClassFile.Decoder.instr pc) code pc; Pure.pure (i, nx - pc) : Except Jvm.ClassFile.DecodeError (Instr × Nat)) = _
  rw [h]
  show Except.ok (ins, pc + n - pc) = _
  rw [Nat.add_sub_cancel_left]
/-- how instr goes on behind the opcode -/
def rxe_F (pc : Nat) (f : Nat → Jvm.ClassFile.Decoder Instr) : Prop := Jvm.ClassFile.Decoder.instr pc = ((Jvm.ClassFile.Reader.u1 : Jvm.ClassFile.Decoder Nat) >>= f)
theorem rxe_A {code : ByteArray} {pc op : Nat} {f : Nat → Jvm.ClassFile.Decoder Instr} {b : UInt8} {r : List UInt8} {ins : Instr} (hf : rxe_F pc f) (h : code.data.toList.drop pc = b :: r) (hb : b.toNat = op) (hi : f op = Pure.pure ins) : decode code pc = .ok (ins, 1) := by
  refine rxe_dk ?_
  rw [show Jvm.ClassFile.Decoder.instr pc = _ from hf, rxe_bd (rxe_u1 (rxe_dr_at h).1), hb, hi]
  rfl
theorem rxe_B {code : ByteArray} {pc op : Nat} {f : Nat → Jvm.ClassFile.Decoder Instr} {b c : UInt8} {r : List UInt8} {g : Nat → Instr} (hf : rxe_F pc f) (h : code.data.toList.drop pc = b :: c :: r) (hb : b.toNat = op) (hi : f op = ((Jvm.ClassFile.Reader.u1 : Jvm.ClassFile.Decoder Nat) >>= fun a => Pure.pure (g a))) : decode code pc = .ok (g c.toNat, 2) := by
  obtain ⟨a1, h2⟩ := rxe_dr_at h
  refine rxe_dk ?_
  rw [show Jvm.ClassFile.Decoder.instr pc = _ from hf, rxe_bd (rxe_u1 a1), hb, hi, rxe_bd (rxe_u1 (rxe_dr_at h2).1)]
  rfl
theorem rxe_C {code : ByteArray} {pc op : Nat} {f : Nat → Jvm.ClassFile.Decoder Instr} {b c d : UInt8} {r : List UInt8} {g : Nat → Instr} (hf : rxe_F pc f) (h : code.data.toList.drop pc = b :: c :: d :: r) (hb : b.toNat = op) (hi : f op = ((Jvm.ClassFile.Reader.u2 : Jvm.ClassFile.Decoder Nat) >>= fun a => Pure.pure (g a))) : decode code pc = .ok (g (c.toNat * 256 + d.toNat), 3) := by
  obtain ⟨a1, h2⟩ := rxe_dr_at h
  obtain ⟨a2, h3⟩ := rxe_dr_at h2
  refine rxe_dk ?_
  rw [show Jvm.ClassFile.Decoder.instr pc = _ from hf, rxe_bd (rxe_u1 a1), hb, hi, rxe_bd (rxe_u2 a2 (rxe_dr_at h3).1)]
  rfl
theorem rxe_S {code : ByteArray} {pc op : Nat} {f : Nat → Jvm.ClassFile.Decoder Instr} {b c : UInt8} {r : List UInt8} {g : Int → Instr} (hf : rxe_F pc f) (h : code.data.toList.drop pc = b :: c :: r) (hb : b.toNat = op) (hi : f op = ((Jvm.ClassFile.Reader.s1 : Jvm.ClassFile.Decoder Int) >>= fun a => Pure.pure (g a))) : decode code pc = .ok (g (Jvm.ClassFile.Reader.signed 8 c.toNat), 2) := by
  obtain ⟨a1, h2⟩ := rxe_dr_at h
  have e : (Jvm.ClassFile.Reader.s1 : Jvm.ClassFile.Decoder Int) code (pc + 1) = .ok (Jvm.ClassFile.Reader.signed 8 c.toNat, pc + 1 + 1) := rxe_mp (rxe_u1 (rxe_dr_at h2).1)
  refine rxe_dk ?_
  rw [show Jvm.ClassFile.Decoder.instr pc = _ from hf, rxe_bd (rxe_u1 a1), hb, hi, rxe_bd e]
  rfl
theorem rxe_T {code : ByteArray} {pc op : Nat} {f : Nat → Jvm.ClassFile.Decoder Instr} {b c d : UInt8} {r : List UInt8} {g : Int → Instr} (hf : rxe_F pc f) (h : code.data.toList.drop pc = b :: c :: d :: r) (hb : b.toNat = op) (hi : f op = ((Jvm.ClassFile.Reader.s2 : Jvm.ClassFile.Decoder Int) >>= fun a => Pure.pure (g a))) : decode code pc = .ok (g (Jvm.ClassFile.Reader.signed 16 (c.toNat * 256 + d.toNat)), 3) := by
  obtain ⟨a1, h2⟩ := rxe_dr_at h
  obtain ⟨a2, h3⟩ := rxe_dr_at h2
  have e : (Jvm.ClassFile.Reader.s2 : Jvm.ClassFile.Decoder Int) code (pc + 1) = .ok (Jvm.ClassFile.Reader.signed 16 (c.toNat * 256 + d.toNat), pc + 1 + 2) := rxe_mp (rxe_u2 a2 (rxe_dr_at h3).1)
  refine rxe_dk ?_
  rw [show Jvm.ClassFile.Decoder.instr pc = _ from hf, rxe_bd (rxe_u1 a1), hb, hi, rxe_bd e]
  rfl
theorem rxe_I {code : ByteArray} {pc op : Nat} {f : Nat → Jvm.ClassFile.Decoder Instr} {b c d : UInt8} {r : List UInt8} {g : Nat → Int → Instr} (hf : rxe_F pc f) (h : code.data.toList.drop pc = b :: c :: d :: r) (hb : b.toNat = op) (hi : f op = ((Jvm.ClassFile.Reader.u1 : Jvm.ClassFile.Decoder Nat) >>= fun x => (Jvm.ClassFile.Reader.s1 : Jvm.ClassFile.Decoder Int) >>= fun y => Pure.pure (g x y))) : decode code pc = .ok (g c.toNat (Jvm.ClassFile.Reader.signed 8 d.toNat), 3) := by
  obtain ⟨a1, h2⟩ := rxe_dr_at h
  obtain ⟨a2, h3⟩ := rxe_dr_at h2
  have e : (Jvm.ClassFile.Reader.s1 : Jvm.ClassFile.Decoder Int) code (pc + 1 + 1) = .ok (Jvm.ClassFile.Reader.signed 8 d.toNat, pc + 1 + 1 + 1) := rxe_mp (rxe_u1 (rxe_dr_at h3).1)
  refine rxe_dk ?_
  rw [show Jvm.ClassFile.Decoder.instr pc = _ from hf, rxe_bd (rxe_u1 a1), hb, hi, rxe_bd (rxe_u1 a2), rxe_bd e]
  rfl
noncomputable def rxe_1 (r : List UInt8) (i : Nat) : Bool := match r with | c :: _ => Nat.beq c.toNat i | _ => false
noncomputable def rxe_2 (r : List UInt8) (i : Nat) : Bool := match r with | c :: d :: _ => Nat.beq (c.toNat * 256 + d.toNat) i | _ => false
noncomputable def rxe_s (r : List UInt8) (i : Int) : Bool := match r with | c :: _ => decide (Jvm.ClassFile.Reader.signed 8 c.toNat = i) | _ => false
noncomputable def rxe_t (r : List UInt8) (i : Int) : Bool := match r with | c :: d :: _ => decide (Jvm.ClassFile.Reader.signed 16 (c.toNat * 256 + d.toNat) = i) | _ => false
theorem rxe_1_ok {r : List UInt8} {i : Nat} (h : rxe_1 r i = true) : ∃ c t, r = c :: t ∧ c.toNat = i := by
  cases r with
  | nil => cases h
  | cons c t => exact ⟨c, t, rfl, rx_beq.mp h⟩
theorem rxe_2_ok {r : List UInt8} {i : Nat} (h : rxe_2 r i = true) : ∃ c d t, r = c :: d :: t ∧ c.toNat * 256 + d.toNat = i := by
  cases r with
  | nil => cases h
  | cons c t =>
    cases t with
    | nil => cases h
    | cons d t => exact ⟨c, d, t, rfl, rx_beq.mp h⟩
theorem rxe_s_ok {r : List UInt8} {i : Int} (h : rxe_s r i = true) : ∃ c t, r = c :: t ∧ Jvm.ClassFile.Reader.signed 8 c.toNat = i := by
  cases r with
  | nil => cases h
  | cons c t => exact ⟨c, t, rfl, of_decide_eq_true h⟩
theorem rxe_t_ok {r : List UInt8} {i : Int} (h : rxe_t r i = true) : ∃ c d t, r = c :: d :: t ∧ Jvm.ClassFile.Reader.signed 16 (c.toNat * 256 + d.toNat) = i := by
  cases r with
  | nil => cases h
  | cons c t =>
    cases t with
    | nil => cases h
    | cons d t => exact ⟨c, d, t, rfl, of_decide_eq_true h⟩
noncomputable def rxe_c (c : Jvm.ClassFile.Cond) : Nat := match c with | .eq => 0 | .ne => 1 | .lt => 2 | .ge => 3 | .gt => 4 | .le => 5
noncomputable def rxe_e (op : Nat) (r : List UInt8) (len : Nat) (ins : Instr) : Bool := match ins with
  | .aload_n n => Nat.beq op (42 + n.val) && Nat.beq len 1
  | .iload_n n => Nat.beq op (26 + n.val) && Nat.beq len 1
  | .lload_n n => Nat.beq op (30 + n.val) && Nat.beq len 1
  | .istore_n n => Nat.beq op (59 + n.val) && Nat.beq len 1
  | .lstore_n n => Nat.beq op (63 + n.val) && Nat.beq len 1
  | .astore_n n => Nat.beq op (75 + n.val) && Nat.beq len 1
  | .iconst i => (match i with | .ofNat k => Nat.beq op (k + 3) && (Nat.ble k 5 && Nat.beq len 1) | .negSucc k => Nat.beq op 2 && (Nat.beq k 0 && Nat.beq len 1))
  | .lconst l => Nat.beq op (9 + l.val) && Nat.beq len 1
  | .iaload => Nat.beq op 46 && Nat.beq len 1
  | .laload => Nat.beq op 47 && Nat.beq len 1
  | .aaload => Nat.beq op 50 && Nat.beq len 1
  | .baload => Nat.beq op 51 && Nat.beq len 1
  | .iastore => Nat.beq op 79 && Nat.beq len 1
  | .lastore => Nat.beq op 80 && Nat.beq len 1
  | .aastore => Nat.beq op 83 && Nat.beq len 1
  | .bastore => Nat.beq op 84 && Nat.beq len 1
  | .pop => Nat.beq op 87 && Nat.beq len 1
  | .pop2 => Nat.beq op 88 && Nat.beq len 1
  | .dup => Nat.beq op 89 && Nat.beq len 1
  | .dup2 => Nat.beq op 92 && Nat.beq len 1
  | .iadd => Nat.beq op 96 && Nat.beq len 1
  | .ladd => Nat.beq op 97 && Nat.beq len 1
  | .isub => Nat.beq op 100 && Nat.beq len 1
  | .lsub => Nat.beq op 101 && Nat.beq len 1
  | .imul => Nat.beq op 104 && Nat.beq len 1
  | .lmul => Nat.beq op 105 && Nat.beq len 1
  | .idiv => Nat.beq op 108 && Nat.beq len 1
  | .ldiv => Nat.beq op 109 && Nat.beq len 1
  | .irem => Nat.beq op 112 && Nat.beq len 1
  | .ineg => Nat.beq op 116 && Nat.beq len 1
  | .ishl => Nat.beq op 120 && Nat.beq len 1
  | .lshl => Nat.beq op 121 && Nat.beq len 1
  | .ishr => Nat.beq op 122 && Nat.beq len 1
  | .lshr => Nat.beq op 123 && Nat.beq len 1
  | .iushr => Nat.beq op 124 && Nat.beq len 1
  | .iand => Nat.beq op 126 && Nat.beq len 1
  | .land => Nat.beq op 127 && Nat.beq len 1
  | .ior => Nat.beq op 128 && Nat.beq len 1
  | .lor => Nat.beq op 129 && Nat.beq len 1
  | .ixor => Nat.beq op 130 && Nat.beq len 1
  | .lxor => Nat.beq op 131 && Nat.beq len 1
  | .i2l => Nat.beq op 133 && Nat.beq len 1
  | .l2i => Nat.beq op 136 && Nat.beq len 1
  | .i2b => Nat.beq op 145 && Nat.beq len 1
  | .lcmp => Nat.beq op 148 && Nat.beq len 1
  | .ireturn => Nat.beq op 172 && Nat.beq len 1
  | .lreturn => Nat.beq op 173 && Nat.beq len 1
  | .areturn => Nat.beq op 176 && Nat.beq len 1
  | .return_ => Nat.beq op 177 && Nat.beq len 1
  | .arraylength => Nat.beq op 190 && Nat.beq len 1
  | .athrow => Nat.beq op 191 && Nat.beq len 1
  | .ldc i => Nat.beq op 18 && (Nat.beq len 2 && rxe_1 r i)
  | .iload i => Nat.beq op 21 && (Nat.beq len 2 && rxe_1 r i)
  | .lload i => Nat.beq op 22 && (Nat.beq len 2 && rxe_1 r i)
  | .aload i => Nat.beq op 25 && (Nat.beq len 2 && rxe_1 r i)
  | .istore i => Nat.beq op 54 && (Nat.beq len 2 && rxe_1 r i)
  | .lstore i => Nat.beq op 55 && (Nat.beq len 2 && rxe_1 r i)
  | .astore i => Nat.beq op 58 && (Nat.beq len 2 && rxe_1 r i)
  | .ldc_w i => Nat.beq op 19 && (Nat.beq len 3 && rxe_2 r i)
  | .ldc2_w i => Nat.beq op 20 && (Nat.beq len 3 && rxe_2 r i)
  | .getfield i => Nat.beq op 180 && (Nat.beq len 3 && rxe_2 r i)
  | .putfield i => Nat.beq op 181 && (Nat.beq len 3 && rxe_2 r i)
  | .invokevirtual i => Nat.beq op 182 && (Nat.beq len 3 && rxe_2 r i)
  | .invokespecial i => Nat.beq op 183 && (Nat.beq len 3 && rxe_2 r i)
  | .invokestatic i => Nat.beq op 184 && (Nat.beq len 3 && rxe_2 r i)
  | .new i => Nat.beq op 187 && (Nat.beq len 3 && rxe_2 r i)
  | .anewarray i => Nat.beq op 189 && (Nat.beq len 3 && rxe_2 r i)
  | .bipush i => Nat.beq op 16 && (Nat.beq len 2 && rxe_s r i)
  | .sipush i => Nat.beq op 17 && (Nat.beq len 3 && rxe_t r i)
  | .goto i => Nat.beq op 167 && (Nat.beq len 3 && rxe_t r i)
  | .ifCond c i => Nat.beq op (153 + rxe_c c) && (Nat.beq len 3 && rxe_t r i)
  | .if_icmp c i => Nat.beq op (159 + rxe_c c) && (Nat.beq len 3 && rxe_t r i)
  | .iinc i d => Nat.beq op 132 && (Nat.beq len 3 && (rxe_1 r i && rxe_s r.tail d))
  | _ => false
noncomputable def rxe_k (bytes : ByteArray) (pc len : Nat) (ins : Instr) : Bool := match rxe_dr bytes.data.toList pc with
  | [] => false
  | o :: r => rxe_e o.toNat r len ins
/-- what instr does behind each of the opcodes used -/
theorem rxe_fs (pc : Nat) : ∃ f, rxe_F pc f ∧ f 42 = (Pure.pure (Instr.aload_n 0)) ∧ f 43 = (Pure.pure (Instr.aload_n 1)) ∧ f 44 = (Pure.pure (Instr.aload_n 2)) ∧ f 45 = (Pure.pure (Instr.aload_n 3)) ∧ f 26 = (Pure.pure (Instr.iload_n 0)) ∧ f 27 = (Pure.pure (Instr.iload_n 1)) ∧ f 28 = (Pure.pure (Instr.iload_n 2)) ∧ f 29 = (Pure.pure (Instr.iload_n 3)) ∧ f 30 = (Pure.pure (Instr.lload_n 0)) ∧ f 31 = (Pure.pure (Instr.lload_n 1)) ∧ f 32 = (Pure.pure (Instr.lload_n 2)) ∧ f 33 = (Pure.pure (Instr.lload_n 3)) ∧ f 59 = (Pure.pure (Instr.istore_n 0)) ∧ f 60 = (Pure.pure (Instr.istore_n 1)) ∧ f 61 = (Pure.pure (Instr.istore_n 2)) ∧ f 62 = (Pure.pure (Instr.istore_n 3)) ∧ f 63 = (Pure.pure (Instr.lstore_n 0)) ∧ f 64 = (Pure.pure (Instr.lstore_n 1)) ∧ f 65 = (Pure.pure (Instr.lstore_n 2)) ∧ f 66 = (Pure.pure (Instr.lstore_n 3)) ∧ f 75 = (Pure.pure (Instr.astore_n 0)) ∧ f 76 = (Pure.pure (Instr.astore_n 1)) ∧ f 77 = (Pure.pure (Instr.astore_n 2)) ∧ f 78 = (Pure.pure (Instr.astore_n 3)) ∧ f 2 = (Pure.pure (Instr.iconst (-1))) ∧ f 3 = (Pure.pure (Instr.iconst 0)) ∧ f 4 = (Pure.pure (Instr.iconst 1)) ∧ f 5 = (Pure.pure (Instr.iconst 2)) ∧ f 6 = (Pure.pure (Instr.iconst 3)) ∧ f 7 = (Pure.pure (Instr.iconst 4)) ∧ f 8 = (Pure.pure (Instr.iconst 5)) ∧ f 9 = (Pure.pure (Instr.lconst 0)) ∧ f 10 = (Pure.pure (Instr.lconst 1)) ∧ f 46 = (Pure.pure Instr.iaload) ∧ f 47 = (Pure.pure Instr.laload) ∧ f 50 = (Pure.pure Instr.aaload) ∧ f 51 = (Pure.pure Instr.baload) ∧ f 79 = (Pure.pure Instr.iastore) ∧ f 80 = (Pure.pure Instr.lastore) ∧ f 83 = (Pure.pure Instr.aastore) ∧ f 84 = (Pure.pure Instr.bastore) ∧ f 87 = (Pure.pure Instr.pop) ∧ f 88 = (Pure.pure Instr.pop2) ∧ f 89 = (Pure.pure Instr.dup) ∧ f 92 = (Pure.pure Instr.dup2) ∧ f 96 = (Pure.pure Instr.iadd) ∧ f 97 = (Pure.pure Instr.ladd) ∧ f 100 = (Pure.pure Instr.isub) ∧ f 101 = (Pure.pure Instr.lsub) ∧ f 104 = (Pure.pure Instr.imul) ∧ f 105 = (Pure.pure Instr.lmul) ∧ f 108 = (Pure.pure Instr.idiv) ∧ f 109 = (Pure.pure Instr.ldiv) ∧ f 112 = (Pure.pure Instr.irem) ∧ f 116 = (Pure.pure Instr.ineg) ∧ f 120 = (Pure.pure Instr.ishl) ∧ f 121 = (Pure.pure Instr.lshl) ∧ f 122 = (Pure.pure Instr.ishr) ∧ f 123 = (Pure.pure Instr.lshr) ∧ f 124 = (Pure.pure Instr.iushr) ∧ f 126 = (Pure.pure Instr.iand) ∧ f 127 = (Pure.pure Instr.land) ∧ f 128 = (Pure.pure Instr.ior) ∧ f 129 = (Pure.pure Instr.lor) ∧ f 130 = (Pure.pure Instr.ixor) ∧ f 131 = (Pure.pure Instr.lxor) ∧ f 133 = (Pure.pure Instr.i2l) ∧ f 136 = (Pure.pure Instr.l2i) ∧ f 145 = (Pure.pure Instr.i2b) ∧ f 148 = (Pure.pure Instr.lcmp) ∧ f 172 = (Pure.pure Instr.ireturn) ∧ f 173 = (Pure.pure Instr.lreturn) ∧ f 176 = (Pure.pure Instr.areturn) ∧ f 177 = (Pure.pure Instr.return_) ∧ f 190 = (Pure.pure Instr.arraylength) ∧ f 191 = (Pure.pure Instr.athrow) ∧ f 18 = ((Jvm.ClassFile.Reader.u1 : Jvm.ClassFile.Decoder Nat) >>= fun a => Pure.pure (Instr.ldc a)) ∧ f 21 = ((Jvm.ClassFile.Reader.u1 : Jvm.ClassFile.Decoder Nat) >>= fun a => Pure.pure (Instr.iload a)) ∧ f 22 = ((Jvm.ClassFile.Reader.u1 : Jvm.ClassFile.Decoder Nat) >>= fun a => Pure.pure (Instr.lload a)) ∧ f 25 = ((Jvm.ClassFile.Reader.u1 : Jvm.ClassFile.Decoder Nat) >>= fun a => Pure.pure (Instr.aload a)) ∧ f 54 = ((Jvm.ClassFile.Reader.u1 : Jvm.ClassFile.Decoder Nat) >>= fun a => Pure.pure (Instr.istore a)) ∧ f 55 = ((Jvm.ClassFile.Reader.u1 : Jvm.ClassFile.Decoder Nat) >>= fun a => Pure.pure (Instr.lstore a)) ∧ f 58 = ((Jvm.ClassFile.Reader.u1 : Jvm.ClassFile.Decoder Nat) >>= fun a => Pure.pure (Instr.astore a)) ∧ f 19 = ((Jvm.ClassFile.Reader.u2 : Jvm.ClassFile.Decoder Nat) >>= fun a => Pure.pure (Instr.ldc_w a)) ∧ f 20 = ((Jvm.ClassFile.Reader.u2 : Jvm.ClassFile.Decoder Nat) >>= fun a => Pure.pure (Instr.ldc2_w a)) ∧ f 180 = ((Jvm.ClassFile.Reader.u2 : Jvm.ClassFile.Decoder Nat) >>= fun a => Pure.pure (Instr.getfield a)) ∧ f 181 = ((Jvm.ClassFile.Reader.u2 : Jvm.ClassFile.Decoder Nat) >>= fun a => Pure.pure (Instr.putfield a)) ∧ f 182 = ((Jvm.ClassFile.Reader.u2 : Jvm.ClassFile.Decoder Nat) >>= fun a => Pure.pure (Instr.invokevirtual a)) ∧ f 183 = ((Jvm.ClassFile.Reader.u2 : Jvm.ClassFile.Decoder Nat) >>= fun a => Pure.pure (Instr.invokespecial a)) ∧ f 184 = ((Jvm.ClassFile.Reader.u2 : Jvm.ClassFile.Decoder Nat) >>= fun a => Pure.pure (Instr.invokestatic a)) ∧ f 187 = ((Jvm.ClassFile.Reader.u2 : Jvm.ClassFile.Decoder Nat) >>= fun a => Pure.pure (Instr.new a)) ∧ f 189 = ((Jvm.ClassFile.Reader.u2 : Jvm.ClassFile.Decoder Nat) >>= fun a => Pure.pure (Instr.anewarray a)) ∧ f 16 = ((Jvm.ClassFile.Reader.s1 : Jvm.ClassFile.Decoder Int) >>= fun a => Pure.pure (Instr.bipush a)) ∧ f 17 = ((Jvm.ClassFile.Reader.s2 : Jvm.ClassFile.Decoder Int) >>= fun a => Pure.pure (Instr.sipush a)) ∧ f 167 = ((Jvm.ClassFile.Reader.s2 : Jvm.ClassFile.Decoder Int) >>= fun a => Pure.pure (Instr.goto a)) ∧ f 153 = ((Jvm.ClassFile.Reader.s2 : Jvm.ClassFile.Decoder Int) >>= fun a => Pure.pure (Instr.ifCond .eq a)) ∧ f 159 = ((Jvm.ClassFile.Reader.s2 : Jvm.ClassFile.Decoder Int) >>= fun a => Pure.pure (Instr.if_icmp .eq a)) ∧ f 154 = ((Jvm.ClassFile.Reader.s2 : Jvm.ClassFile.Decoder Int) >>= fun a => Pure.pure (Instr.ifCond .ne a)) ∧ f 160 = ((Jvm.ClassFile.Reader.s2 : Jvm.ClassFile.Decoder Int) >>= fun a => Pure.pure (Instr.if_icmp .ne a)) ∧ f 155 = ((Jvm.ClassFile.Reader.s2 : Jvm.ClassFile.Decoder Int) >>= fun a => Pure.pure (Instr.ifCond .lt a)) ∧ f 161 = ((Jvm.ClassFile.Reader.s2 : Jvm.ClassFile.Decoder Int) >>= fun a => Pure.pure (Instr.if_icmp .lt a)) ∧ f 156 = ((Jvm.ClassFile.Reader.s2 : Jvm.ClassFile.Decoder Int) >>= fun a => Pure.pure (Instr.ifCond .ge a)) ∧ f 162 = ((Jvm.ClassFile.Reader.s2 : Jvm.ClassFile.Decoder Int) >>= fun a => Pure.pure (Instr.if_icmp .ge a)) ∧ f 157 = ((Jvm.ClassFile.Reader.s2 : Jvm.ClassFile.Decoder Int) >>= fun a => Pure.pure (Instr.ifCond .gt a)) ∧ f 163 = ((Jvm.ClassFile.Reader.s2 : Jvm.ClassFile.Decoder Int) >>= fun a => Pure.pure (Instr.if_icmp .gt a)) ∧ f 158 = ((Jvm.ClassFile.Reader.s2 : Jvm.ClassFile.Decoder Int) >>= fun a => Pure.pure (Instr.ifCond .le a)) ∧ f 164 = ((Jvm.ClassFile.Reader.s2 : Jvm.ClassFile.Decoder Int) >>= fun a => Pure.pure (Instr.if_icmp .le a)) ∧ f 132 = ((Jvm.ClassFile.Reader.u1 : Jvm.ClassFile.Decoder Nat) >>= fun x => (Jvm.ClassFile.Reader.s1 : Jvm.ClassFile.Decoder Int) >>= fun y => Pure.pure (Instr.iinc x y)) :=
  ⟨_, rfl, rfl, rfl, rfl, rfl, rfl, rfl, rfl, rfl, rfl, rfl, rfl, rfl, rfl, rfl, rfl, rfl, rfl, rfl, rfl, rfl, rfl, rfl, rfl, rfl, rfl, rfl, rfl, rfl, rfl, rfl, rfl, rfl, rfl, rfl, rfl, rfl, rfl, rfl, rfl, rfl, rfl, rfl, rfl, rfl, rfl, rfl, rfl, rfl, rfl, rfl, rfl, rfl, rfl, rfl, rfl, rfl, rfl, rfl, rfl, rfl, rfl, rfl, rfl, rfl, rfl, rfl, rfl, rfl, rfl, rfl, rfl, rfl, rfl, rfl, rfl, rfl, rfl, rfl, rfl, rfl, rfl, rfl, rfl, rfl, rfl, rfl, rfl, rfl, rfl, rfl, rfl, rfl, rfl, rfl, rfl, rfl, rfl, rfl, rfl, rfl, rfl, rfl, rfl, rfl, rfl, rfl, rfl, rfl⟩
theorem rxe_k_ok {code : ByteArray} {pc len : Nat} {ins : Instr} (h : rxe_k code pc len ins = true) : decode code pc = .ok (ins, len) := by
  obtain ⟨f, hf, f42, f43, f44, f45, f26, f27, f28, f29, f30, f31, f32, f33, f59, f60, f61, f62, f63, f64, f65, f66, f75, f76, f77, f78, f2, f3, f4, f5, f6, f7, f8, f9, f10, f46, f47, f50, f51, f79, f80, f83, f84, f87, f88, f89, f92, f96, f97, f100, f101, f104, f105, f108, f109, f112, f116, f120, f121, f122, f123, f124, f126, f127, f128, f129, f130, f131, f133, f136, f145, f148, f172, f173, f176, f177, f190, f191, f18, f21, f22, f25, f54, f55, f58, f19, f20, f180, f181, f182, f183, f184, f187, f189, f16, f17, f167, f153, f159, f154, f160, f155, f161, f156, f162, f157, f163, f158, f164, f132⟩ := rxe_fs pc
  unfold rxe_k at h
  rw [rxe_dr_eq] at h
  cases hd : code.data.toList.drop pc with
  | nil => rw [hd] at h; cases h
  | cons o r =>
    rw [hd] at h
    have h : rxe_e o.toNat r len ins = true := h
    cases ins with
    | aload_n n =>
      obtain ⟨h1, h2⟩ := rx_and2.mp h
      have h2 := rx_beq.mp h2
      subst h2
      have h1 := rx_beq.mp h1
      obtain ⟨n, hn⟩ := n
      match n, hn, h1 with
      | 0, _, h1 => exact rxe_A hf hd h1 f42
      | 1, _, h1 => exact rxe_A hf hd h1 f43
      | 2, _, h1 => exact rxe_A hf hd h1 f44
      | 3, _, h1 => exact rxe_A hf hd h1 f45
      | k + 4, hn, _ => omega
    | iload_n n =>
      obtain ⟨h1, h2⟩ := rx_and2.mp h
      have h2 := rx_beq.mp h2
      subst h2
      have h1 := rx_beq.mp h1
      obtain ⟨n, hn⟩ := n
      match n, hn, h1 with
      | 0, _, h1 => exact rxe_A hf hd h1 f26
      | 1, _, h1 => exact rxe_A hf hd h1 f27
      | 2, _, h1 => exact rxe_A hf hd h1 f28
      | 3, _, h1 => exact rxe_A hf hd h1 f29
      | k + 4, hn, _ => omega
    | lload_n n =>
      obtain ⟨h1, h2⟩ := rx_and2.mp h
      have h2 := rx_beq.mp h2
      subst h2
      have h1 := rx_beq.mp h1
      obtain ⟨n, hn⟩ := n
      match n, hn, h1 with
      | 0, _, h1 => exact rxe_A hf hd h1 f30
      | 1, _, h1 => exact rxe_A hf hd h1 f31
      | 2, _, h1 => exact rxe_A hf hd h1 f32
      | 3, _, h1 => exact rxe_A hf hd h1 f33
      | k + 4, hn, _ => omega
    | istore_n n =>
      obtain ⟨h1, h2⟩ := rx_and2.mp h
      have h2 := rx_beq.mp h2
      subst h2
      have h1 := rx_beq.mp h1
      obtain ⟨n, hn⟩ := n
      match n, hn, h1 with
      | 0, _, h1 => exact rxe_A hf hd h1 f59
      | 1, _, h1 => exact rxe_A hf hd h1 f60
      | 2, _, h1 => exact rxe_A hf hd h1 f61
      | 3, _, h1 => exact rxe_A hf hd h1 f62
      | k + 4, hn, _ => omega
    | lstore_n n =>
      obtain ⟨h1, h2⟩ := rx_and2.mp h
      have h2 := rx_beq.mp h2
      subst h2
      have h1 := rx_beq.mp h1
      obtain ⟨n, hn⟩ := n
      match n, hn, h1 with
      | 0, _, h1 => exact rxe_A hf hd h1 f63
      | 1, _, h1 => exact rxe_A hf hd h1 f64
      | 2, _, h1 => exact rxe_A hf hd h1 f65
      | 3, _, h1 => exact rxe_A hf hd h1 f66
      | k + 4, hn, _ => omega
    | astore_n n =>
      obtain ⟨h1, h2⟩ := rx_and2.mp h
      have h2 := rx_beq.mp h2
      subst h2
      have h1 := rx_beq.mp h1
      obtain ⟨n, hn⟩ := n
      match n, hn, h1 with
      | 0, _, h1 => exact rxe_A hf hd h1 f75
      | 1, _, h1 => exact rxe_A hf hd h1 f76
      | 2, _, h1 => exact rxe_A hf hd h1 f77
      | 3, _, h1 => exact rxe_A hf hd h1 f78
      | k + 4, hn, _ => omega
    | iconst i =>
      cases i with
      | ofNat k =>
        obtain ⟨h1, k3⟩ := rx_and2.mp h
        obtain ⟨h3, h2⟩ := rx_and2.mp k3
        have h2 := rx_beq.mp h2
        subst h2
        have h1 := rx_beq.mp h1
        have h3 := rx_ble.mp h3
        match k, h1, h3 with
        | 0, h1, _ => exact rxe_A hf hd h1 f3
        | 1, h1, _ => exact rxe_A hf hd h1 f4
        | 2, h1, _ => exact rxe_A hf hd h1 f5
        | 3, h1, _ => exact rxe_A hf hd h1 f6
        | 4, h1, _ => exact rxe_A hf hd h1 f7
        | 5, h1, _ => exact rxe_A hf hd h1 f8
        | k + 6, _, h3 => omega
      | negSucc k =>
        obtain ⟨h1, k3⟩ := rx_and2.mp h
        obtain ⟨h3, h2⟩ := rx_and2.mp k3
        have h2 := rx_beq.mp h2
        subst h2
        have h1 := rx_beq.mp h1
        have h3 := rx_beq.mp h3
        subst h3
        exact rxe_A hf hd h1 f2
    | lconst n =>
      obtain ⟨h1, h2⟩ := rx_and2.mp h
      have h2 := rx_beq.mp h2
      subst h2
      have h1 := rx_beq.mp h1
      obtain ⟨n, hn⟩ := n
      match n, hn, h1 with
      | 0, _, h1 => exact rxe_A hf hd h1 f9
      | 1, _, h1 => exact rxe_A hf hd h1 f10
      | k + 2, hn, _ => omega
    | iaload =>
      obtain ⟨h1, h2⟩ := rx_and2.mp h
      have h2 := rx_beq.mp h2
      subst h2
      exact rxe_A hf hd (rx_beq.mp h1) f46
    | laload =>
      obtain ⟨h1, h2⟩ := rx_and2.mp h
      have h2 := rx_beq.mp h2
      subst h2
      exact rxe_A hf hd (rx_beq.mp h1) f47
    | aaload =>
      obtain ⟨h1, h2⟩ := rx_and2.mp h
      have h2 := rx_beq.mp h2
      subst h2
      exact rxe_A hf hd (rx_beq.mp h1) f50
    | baload =>
      obtain ⟨h1, h2⟩ := rx_and2.mp h
      have h2 := rx_beq.mp h2
      subst h2
      exact rxe_A hf hd (rx_beq.mp h1) f51
    | iastore =>
      obtain ⟨h1, h2⟩ := rx_and2.mp h
      have h2 := rx_beq.mp h2
      subst h2
      exact rxe_A hf hd (rx_beq.mp h1) f79
    | lastore =>
      obtain ⟨h1, h2⟩ := rx_and2.mp h
      have h2 := rx_beq.mp h2
      subst h2
      exact rxe_A hf hd (rx_beq.mp h1) f80
    | aastore =>
      obtain ⟨h1, h2⟩ := rx_and2.mp h
      have h2 := rx_beq.mp h2
      subst h2
      exact rxe_A hf hd (rx_beq.mp h1) f83
    | bastore =>
      obtain ⟨h1, h2⟩ := rx_and2.mp h
      have h2 := rx_beq.mp h2
      subst h2
      exact rxe_A hf hd (rx_beq.mp h1) f84
    | pop =>
      obtain ⟨h1, h2⟩ := rx_and2.mp h
      have h2 := rx_beq.mp h2
      subst h2
      exact rxe_A hf hd (rx_beq.mp h1) f87
    | pop2 =>
      obtain ⟨h1, h2⟩ := rx_and2.mp h
      have h2 := rx_beq.mp h2
      subst h2
      exact rxe_A hf hd (rx_beq.mp h1) f88
    | dup =>
      obtain ⟨h1, h2⟩ := rx_and2.mp h
      have h2 := rx_beq.mp h2
      subst h2
      exact rxe_A hf hd (rx_beq.mp h1) f89
    | dup2 =>
      obtain ⟨h1, h2⟩ := rx_and2.mp h
      have h2 := rx_beq.mp h2
      subst h2
      exact rxe_A hf hd (rx_beq.mp h1) f92
    | iadd =>
      obtain ⟨h1, h2⟩ := rx_and2.mp h
      have h2 := rx_beq.mp h2
      subst h2
      exact rxe_A hf hd (rx_beq.mp h1) f96
    | ladd =>
      obtain ⟨h1, h2⟩ := rx_and2.mp h
      have h2 := rx_beq.mp h2
      subst h2
      exact rxe_A hf hd (rx_beq.mp h1) f97
    | isub =>
      obtain ⟨h1, h2⟩ := rx_and2.mp h
      have h2 := rx_beq.mp h2
      subst h2
      exact rxe_A hf hd (rx_beq.mp h1) f100
    | lsub =>
      obtain ⟨h1, h2⟩ := rx_and2.mp h
      have h2 := rx_beq.mp h2
      subst h2
      exact rxe_A hf hd (rx_beq.mp h1) f101
    | imul =>
      obtain ⟨h1, h2⟩ := rx_and2.mp h
      have h2 := rx_beq.mp h2
      subst h2
      exact rxe_A hf hd (rx_beq.mp h1) f104
    | lmul =>
      obtain ⟨h1, h2⟩ := rx_and2.mp h
      have h2 := rx_beq.mp h2
      subst h2
      exact rxe_A hf hd (rx_beq.mp h1) f105
    | idiv =>
      obtain ⟨h1, h2⟩ := rx_and2.mp h
      have h2 := rx_beq.mp h2
      subst h2
      exact rxe_A hf hd (rx_beq.mp h1) f108
    | ldiv =>
      obtain ⟨h1, h2⟩ := rx_and2.mp h
      have h2 := rx_beq.mp h2
      subst h2
      exact rxe_A hf hd (rx_beq.mp h1) f109
    | irem =>
      obtain ⟨h1, h2⟩ := rx_and2.mp h
      have h2 := rx_beq.mp h2
      subst h2
      exact rxe_A hf hd (rx_beq.mp h1) f112
    | ineg =>
      obtain ⟨h1, h2⟩ := rx_and2.mp h
      have h2 := rx_beq.mp h2
      subst h2
      exact rxe_A hf hd (rx_beq.mp h1) f116
    | ishl =>
      obtain ⟨h1, h2⟩ := rx_and2.mp h
      have h2 := rx_beq.mp h2
      subst h2
      exact rxe_A hf hd (rx_beq.mp h1) f120
    | lshl =>
      obtain ⟨h1, h2⟩ := rx_and2.mp h
      have h2 := rx_beq.mp h2
      subst h2
      exact rxe_A hf hd (rx_beq.mp h1) f121
    | ishr =>
      obtain ⟨h1, h2⟩ := rx_and2.mp h
      have h2 := rx_beq.mp h2
      subst h2
      exact rxe_A hf hd (rx_beq.mp h1) f122
    | lshr =>
      obtain ⟨h1, h2⟩ := rx_and2.mp h
      have h2 := rx_beq.mp h2
      subst h2
      exact rxe_A hf hd (rx_beq.mp h1) f123
    | iushr =>
      obtain ⟨h1, h2⟩ := rx_and2.mp h
      have h2 := rx_beq.mp h2
      subst h2
      exact rxe_A hf hd (rx_beq.mp h1) f124
    | iand =>
      obtain ⟨h1, h2⟩ := rx_and2.mp h
      have h2 := rx_beq.mp h2
      subst h2
      exact rxe_A hf hd (rx_beq.mp h1) f126
    | land =>
      obtain ⟨h1, h2⟩ := rx_and2.mp h
      have h2 := rx_beq.mp h2
      subst h2
      exact rxe_A hf hd (rx_beq.mp h1) f127
    | ior =>
      obtain ⟨h1, h2⟩ := rx_and2.mp h
      have h2 := rx_beq.mp h2
      subst h2
      exact rxe_A hf hd (rx_beq.mp h1) f128
    | lor =>
      obtain ⟨h1, h2⟩ := rx_and2.mp h
      have h2 := rx_beq.mp h2
      subst h2
      exact rxe_A hf hd (rx_beq.mp h1) f129
    | ixor =>
      obtain ⟨h1, h2⟩ := rx_and2.mp h
      have h2 := rx_beq.mp h2
      subst h2
      exact rxe_A hf hd (rx_beq.mp h1) f130
    | lxor =>
      obtain ⟨h1, h2⟩ := rx_and2.mp h
      have h2 := rx_beq.mp h2
      subst h2
      exact rxe_A hf hd (rx_beq.mp h1) f131
    | i2l =>
      obtain ⟨h1, h2⟩ := rx_and2.mp h
      have h2 := rx_beq.mp h2
      subst h2
      exact rxe_A hf hd (rx_beq.mp h1) f133
    | l2i =>
      obtain ⟨h1, h2⟩ := rx_and2.mp h
      have h2 := rx_beq.mp h2
      subst h2
      exact rxe_A hf hd (rx_beq.mp h1) f136
    | i2b =>
      obtain ⟨h1, h2⟩ := rx_and2.mp h
      have h2 := rx_beq.mp h2
      subst h2
      exact rxe_A hf hd (rx_beq.mp h1) f145
    | lcmp =>
      obtain ⟨h1, h2⟩ := rx_and2.mp h
      have h2 := rx_beq.mp h2
      subst h2
      exact rxe_A hf hd (rx_beq.mp h1) f148
    | ireturn =>
      obtain ⟨h1, h2⟩ := rx_and2.mp h
      have h2 := rx_beq.mp h2
      subst h2
      exact rxe_A hf hd (rx_beq.mp h1) f172
    | lreturn =>
      obtain ⟨h1, h2⟩ := rx_and2.mp h
      have h2 := rx_beq.mp h2
      subst h2
      exact rxe_A hf hd (rx_beq.mp h1) f173
    | areturn =>
      obtain ⟨h1, h2⟩ := rx_and2.mp h
      have h2 := rx_beq.mp h2
      subst h2
      exact rxe_A hf hd (rx_beq.mp h1) f176
    | return_ =>
      obtain ⟨h1, h2⟩ := rx_and2.mp h
      have h2 := rx_beq.mp h2
      subst h2
      exact rxe_A hf hd (rx_beq.mp h1) f177
    | arraylength =>
      obtain ⟨h1, h2⟩ := rx_and2.mp h
      have h2 := rx_beq.mp h2
      subst h2
      exact rxe_A hf hd (rx_beq.mp h1) f190
    | athrow =>
      obtain ⟨h1, h2⟩ := rx_and2.mp h
      have h2 := rx_beq.mp h2
      subst h2
      exact rxe_A hf hd (rx_beq.mp h1) f191
    | ldc i =>
      obtain ⟨h1, k3⟩ := rx_and2.mp h
      obtain ⟨h2, h3⟩ := rx_and2.mp k3
      have h2 := rx_beq.mp h2
      subst h2
      have h1 := rx_beq.mp h1
      obtain ⟨c, t, e, e2⟩ := rxe_1_ok h3
      subst e
      subst e2
      exact rxe_B (g := fun a => Instr.ldc a) hf hd h1 f18
    | iload i =>
      obtain ⟨h1, k3⟩ := rx_and2.mp h
      obtain ⟨h2, h3⟩ := rx_and2.mp k3
      have h2 := rx_beq.mp h2
      subst h2
      have h1 := rx_beq.mp h1
      obtain ⟨c, t, e, e2⟩ := rxe_1_ok h3
      subst e
      subst e2
      exact rxe_B (g := fun a => Instr.iload a) hf hd h1 f21
    | lload i =>
      obtain ⟨h1, k3⟩ := rx_and2.mp h
      obtain ⟨h2, h3⟩ := rx_and2.mp k3
      have h2 := rx_beq.mp h2
      subst h2
      have h1 := rx_beq.mp h1
      obtain ⟨c, t, e, e2⟩ := rxe_1_ok h3
      subst e
      subst e2
      exact rxe_B (g := fun a => Instr.lload a) hf hd h1 f22
    | aload i =>
      obtain ⟨h1, k3⟩ := rx_and2.mp h
      obtain ⟨h2, h3⟩ := rx_and2.mp k3
      have h2 := rx_beq.mp h2
      subst h2
      have h1 := rx_beq.mp h1
      obtain ⟨c, t, e, e2⟩ := rxe_1_ok h3
      subst e
      subst e2
      exact rxe_B (g := fun a => Instr.aload a) hf hd h1 f25
    | istore i =>
      obtain ⟨h1, k3⟩ := rx_and2.mp h
      obtain ⟨h2, h3⟩ := rx_and2.mp k3
      have h2 := rx_beq.mp h2
      subst h2
      have h1 := rx_beq.mp h1
      obtain ⟨c, t, e, e2⟩ := rxe_1_ok h3
      subst e
      subst e2
      exact rxe_B (g := fun a => Instr.istore a) hf hd h1 f54
    | lstore i =>
      obtain ⟨h1, k3⟩ := rx_and2.mp h
      obtain ⟨h2, h3⟩ := rx_and2.mp k3
      have h2 := rx_beq.mp h2
      subst h2
      have h1 := rx_beq.mp h1
      obtain ⟨c, t, e, e2⟩ := rxe_1_ok h3
      subst e
      subst e2
      exact rxe_B (g := fun a => Instr.lstore a) hf hd h1 f55
    | astore i =>
      obtain ⟨h1, k3⟩ := rx_and2.mp h
      obtain ⟨h2, h3⟩ := rx_and2.mp k3
      have h2 := rx_beq.mp h2
      subst h2
      have h1 := rx_beq.mp h1
      obtain ⟨c, t, e, e2⟩ := rxe_1_ok h3
      subst e
      subst e2
      exact rxe_B (g := fun a => Instr.astore a) hf hd h1 f58
    | ldc_w i =>
      obtain ⟨h1, k3⟩ := rx_and2.mp h
      obtain ⟨h2, h3⟩ := rx_and2.mp k3
      have h2 := rx_beq.mp h2
      subst h2
      have h1 := rx_beq.mp h1
      obtain ⟨c, d, t, e, e2⟩ := rxe_2_ok h3
      subst e
      subst e2
      exact rxe_C (g := fun a => Instr.ldc_w a) hf hd h1 f19
    | ldc2_w i =>
      obtain ⟨h1, k3⟩ := rx_and2.mp h
      obtain ⟨h2, h3⟩ := rx_and2.mp k3
      have h2 := rx_beq.mp h2
      subst h2
      have h1 := rx_beq.mp h1
      obtain ⟨c, d, t, e, e2⟩ := rxe_2_ok h3
      subst e
      subst e2
      exact rxe_C (g := fun a => Instr.ldc2_w a) hf hd h1 f20
    | getfield i =>
      obtain ⟨h1, k3⟩ := rx_and2.mp h
      obtain ⟨h2, h3⟩ := rx_and2.mp k3
      have h2 := rx_beq.mp h2
      subst h2
      have h1 := rx_beq.mp h1
      obtain ⟨c, d, t, e, e2⟩ := rxe_2_ok h3
      subst e
      subst e2
      exact rxe_C (g := fun a => Instr.getfield a) hf hd h1 f180
    | putfield i =>
      obtain ⟨h1, k3⟩ := rx_and2.mp h
      obtain ⟨h2, h3⟩ := rx_and2.mp k3
      have h2 := rx_beq.mp h2
      subst h2
      have h1 := rx_beq.mp h1
      obtain ⟨c, d, t, e, e2⟩ := rxe_2_ok h3
      subst e
      subst e2
      exact rxe_C (g := fun a => Instr.putfield a) hf hd h1 f181
    | invokevirtual i =>
      obtain ⟨h1, k3⟩ := rx_and2.mp h
      obtain ⟨h2, h3⟩ := rx_and2.mp k3
      have h2 := rx_beq.mp h2
      subst h2
      have h1 := rx_beq.mp h1
      obtain ⟨c, d, t, e, e2⟩ := rxe_2_ok h3
      subst e
      subst e2
      exact rxe_C (g := fun a => Instr.invokevirtual a) hf hd h1 f182
    | invokespecial i =>
      obtain ⟨h1, k3⟩ := rx_and2.mp h
      obtain ⟨h2, h3⟩ := rx_and2.mp k3
      have h2 := rx_beq.mp h2
      subst h2
      have h1 := rx_beq.mp h1
      obtain ⟨c, d, t, e, e2⟩ := rxe_2_ok h3
      subst e
      subst e2
      exact rxe_C (g := fun a => Instr.invokespecial a) hf hd h1 f183
    | invokestatic i =>
      obtain ⟨h1, k3⟩ := rx_and2.mp h
      obtain ⟨h2, h3⟩ := rx_and2.mp k3
      have h2 := rx_beq.mp h2
      subst h2
      have h1 := rx_beq.mp h1
      obtain ⟨c, d, t, e, e2⟩ := rxe_2_ok h3
      subst e
      subst e2
      exact rxe_C (g := fun a => Instr.invokestatic a) hf hd h1 f184
    | new i =>
      obtain ⟨h1, k3⟩ := rx_and2.mp h
      obtain ⟨h2, h3⟩ := rx_and2.mp k3
      have h2 := rx_beq.mp h2
      subst h2
      have h1 := rx_beq.mp h1
      obtain ⟨c, d, t, e, e2⟩ := rxe_2_ok h3
      subst e
      subst e2
      exact rxe_C (g := fun a => Instr.new a) hf hd h1 f187
    | anewarray i =>
      obtain ⟨h1, k3⟩ := rx_and2.mp h
      obtain ⟨h2, h3⟩ := rx_and2.mp k3
      have h2 := rx_beq.mp h2
      subst h2
      have h1 := rx_beq.mp h1
      obtain ⟨c, d, t, e, e2⟩ := rxe_2_ok h3
      subst e
      subst e2
      exact rxe_C (g := fun a => Instr.anewarray a) hf hd h1 f189
    | bipush i =>
      obtain ⟨h1, k3⟩ := rx_and2.mp h
      obtain ⟨h2, h3⟩ := rx_and2.mp k3
      have h2 := rx_beq.mp h2
      subst h2
      have h1 := rx_beq.mp h1
      obtain ⟨c, t, e, e2⟩ := rxe_s_ok h3
      subst e
      subst e2
      exact rxe_S (g := fun a => Instr.bipush a) hf hd h1 f16
    | sipush i =>
      obtain ⟨h1, k3⟩ := rx_and2.mp h
      obtain ⟨h2, h3⟩ := rx_and2.mp k3
      have h2 := rx_beq.mp h2
      subst h2
      have h1 := rx_beq.mp h1
      obtain ⟨c, d, t, e, e2⟩ := rxe_t_ok h3
      subst e
      subst e2
      exact rxe_T (g := fun a => Instr.sipush a) hf hd h1 f17
    | goto i =>
      obtain ⟨h1, k3⟩ := rx_and2.mp h
      obtain ⟨h2, h3⟩ := rx_and2.mp k3
      have h2 := rx_beq.mp h2
      subst h2
      have h1 := rx_beq.mp h1
      obtain ⟨c, d, t, e, e2⟩ := rxe_t_ok h3
      subst e
      subst e2
      exact rxe_T (g := fun a => Instr.goto a) hf hd h1 f167
    | ifCond c i =>
      obtain ⟨h1, k3⟩ := rx_and2.mp h
      obtain ⟨h2, h3⟩ := rx_and2.mp k3
      have h2 := rx_beq.mp h2
      subst h2
      have h1 := rx_beq.mp h1
      obtain ⟨x, d, t, e, e2⟩ := rxe_t_ok h3
      subst e
      subst e2
      cases c with
      | eq => exact rxe_T (g := fun a => Instr.ifCond .eq a) hf hd h1 f153
      | ne => exact rxe_T (g := fun a => Instr.ifCond .ne a) hf hd h1 f154
      | lt => exact rxe_T (g := fun a => Instr.ifCond .lt a) hf hd h1 f155
      | ge => exact rxe_T (g := fun a => Instr.ifCond .ge a) hf hd h1 f156
      | gt => exact rxe_T (g := fun a => Instr.ifCond .gt a) hf hd h1 f157
      | le => exact rxe_T (g := fun a => Instr.ifCond .le a) hf hd h1 f158
    | if_icmp c i =>
      obtain ⟨h1, k3⟩ := rx_and2.mp h
      obtain ⟨h2, h3⟩ := rx_and2.mp k3
      have h2 := rx_beq.mp h2
      subst h2
      have h1 := rx_beq.mp h1
      obtain ⟨x, d, t, e, e2⟩ := rxe_t_ok h3
      subst e
      subst e2
      cases c with
      | eq => exact rxe_T (g := fun a => Instr.if_icmp .eq a) hf hd h1 f159
      | ne => exact rxe_T (g := fun a => Instr.if_icmp .ne a) hf hd h1 f160
      | lt => exact rxe_T (g := fun a => Instr.if_icmp .lt a) hf hd h1 f161
      | ge => exact rxe_T (g := fun a => Instr.if_icmp .ge a) hf hd h1 f162
      | gt => exact rxe_T (g := fun a => Instr.if_icmp .gt a) hf hd h1 f163
      | le => exact rxe_T (g := fun a => Instr.if_icmp .le a) hf hd h1 f164
    | iinc i d =>
      obtain ⟨h1, k3⟩ := rx_and2.mp h
      obtain ⟨h2, h3⟩ := rx_and2.mp k3
      have h2 := rx_beq.mp h2
      subst h2
      have h1 := rx_beq.mp h1
      obtain ⟨h5, h4⟩ := rx_and2.mp h3
      obtain ⟨c, t, e, e2⟩ := rxe_1_ok h5
      subst e
      obtain ⟨x, t2, e4, e3⟩ := rxe_s_ok h4
      have e4 : t = x :: t2 := e4
      subst e4
      subst e2
      subst e3
      exact rxe_I (g := fun a b => Instr.iinc a b) hf hd h1 f132
    | _ => exact Bool.noConfusion (show false = true from h)
noncomputable def rx_cd1 (bytes : ByteArray) (pc len : Nat) (ins : Instr) : Bool := (rxe_k bytes pc len ins || decide (decode bytes pc = .ok (ins, len))) && (match ins with
  | .tableswitch _ _ _ _ => true
  | i => Nat.beq len (rx_ln i))
theorem rx_cd1_ok {bytes : ByteArray} {pc len : Nat} {ins : Instr} (h : rx_cd1 bytes pc len ins = true) : rx_dec bytes pc ins := by
  obtain ⟨h1, h2⟩ := rx_and2.mp h
  have h1 : decode bytes pc = .ok (ins, len) := ((Bool.or_eq_true _ _).mp h1).elim rxe_k_ok of_decide_eq_true
  cases ins with
  | tableswitch d lo hi offs => exact ⟨len, h1⟩
  | _ => have h2 := rx_beq.mp h2; rw [h2] at h1; exact h1
theorem rx_cw_wd {X : rx_XT} {P : List rx_M} {K : rx_K} (hCL : ∀ na, na < 12 → rx_CL K na) {own mn : String} {pc na nb : Nat} {w : Nat × Nat} {ins : Instr} (h : rx_cw X P own mn pc na nb w ins = true) : rx_wd K own mn pc na nb ins := by
  cases ins with
  | iinc i n => exact (show Int32.ofInt n = Int32.ofNat na from of_decide_eq_true h)
  | iconst n => exact (show Int32.ofInt n = Int32.ofNat na from of_decide_eq_true h)
  | bipush n => exact (show (Int8.ofInt n).toInt32 = Int32.ofNat na from of_decide_eq_true h)
  | sipush n => exact (show (Int16.ofInt n).toInt32 = Int32.ofNat na from of_decide_eq_true h)
  | lconst n => exact (show Int64.ofNat n.val = Int64.ofNat na from of_decide_eq_true h)
  | ldc_w i => exact rx_has_ok h
  | ldc i =>
    replace h : (bif Nat.beq (rx_tk na) 0 then rx_has w (.constant own i (Int32.ofNat (rx_pl na))) else rx_isW na && (decide (own = "TurnNet$Reader") && decide (i = rx_sidx.getD (Nat.sub (rx_pl na) 1000) 0))) = true := h
    cases hb : Nat.beq (rx_tk na) 0 with
    | true =>
      rw [hb, cond_true] at h
      have h0 : na % 4 = 0 := rx_beq.mp hb
      exact Or.inl ⟨na / 4, by omega, rx_has_ok h⟩
    | false =>
      rw [hb, cond_false] at h
      obtain ⟨d1, h⟩ := rx_and2.mp h
      obtain ⟨d2, d3⟩ := rx_and2.mp h
      obtain ⟨e1, d1⟩ := rx_and2.mp d1
      obtain ⟨e2, e3⟩ := rx_and2.mp d1
      have e1 : na % 4 = 2 := rx_beq.mp e1
      have e2 : 1000 ≤ na / 4 := rx_ble.mp e2
      have e3 : na / 4 < 1008 := rx_blt.mp e3
      exact Or.inr ⟨na / 4 - 1000, by omega, by omega, of_decide_eq_true d2, of_decide_eq_true d3⟩
  | ldc2_w i => exact rx_has_ok h
  | goto off => exact (show (pc : Int) + off = (na : Int) from of_decide_eq_true h)
  | ifCond k off => exact (show (pc : Int) + off = (na : Int) from of_decide_eq_true h)
  | if_icmp k off => exact (show (pc : Int) + off = (na : Int) from of_decide_eq_true h)
  | tableswitch d lo hi offs => exact (show (pc : Int) + d = (na : Int) from of_decide_eq_true h)
  | getfield i =>
    replace h : (match rx_nth vwCl na with
      | some q => Nat.blt na 12 && (Nat.blt nb q.2.2 && rx_has w (.fieldLink own i (q.2.1 nb).1 (q.2.1 nb).2.1 (q.2.1 nb).2.2.1))
      | none => false) = true := h
    rw [rx_nth_eq] at h
    cases e : vwCl[na]? with
    | none => rw [e] at h; cases h
    | some q =>
      rw [e] at h
      obtain ⟨d1, h⟩ := rx_and2.mp h
      obtain ⟨d2, d3⟩ := rx_and2.mp h
      obtain ⟨C, T, Nf, ty0, fs, l, q1, q2, q3, q4, q5, q6, q7, q8, q9, q10, q11⟩ := hCL na (rx_blt.mp d1)
      cases e.symm.trans q1
      exact ⟨C, T, Nf, e, rx_blt.mp d1, rx_blt.mp d2, rx_has_ok d3, q4⟩
  | putfield i =>
    replace h : (match rx_nth vwCl na with
      | some q => Nat.blt na 12 && (Nat.blt nb q.2.2 && (rx_has w (.fieldLink own i (q.2.1 nb).1 (q.2.1 nb).2.1 (q.2.1 nb).2.2.1) && (decide ((q.2.1 nb).2.2.2 = false) || (decide ((q.2.1 nb).2.2.2 = true) && (decide (mn = "<init>") && decide ((q.2.1 nb).1 = own))))))
      | none => false) = true := h
    rw [rx_nth_eq] at h
    cases e : vwCl[na]? with
    | none => rw [e] at h; cases h
    | some q =>
      rw [e] at h
      obtain ⟨d1, h⟩ := rx_and2.mp h
      obtain ⟨d2, h⟩ := rx_and2.mp h
      obtain ⟨d3, d4⟩ := rx_and2.mp h
      obtain ⟨C, T, Nf, ty0, fs, l, q1, q2, q3, q4, q5, q6, q7, q8, q9, q10, q11⟩ := hCL na (rx_blt.mp d1)
      cases e.symm.trans q1
      refine ⟨C, T, Nf, ty0, e, rx_blt.mp d1, rx_blt.mp d2, rx_has_ok d3, q4, q2, q3, ?_, fun ks k hks hk => q5 nb ks k (rx_blt.mp d2) hks hk⟩
      rcases rx_or2.mp d4 with d | d
      · exact Or.inl (of_decide_eq_true d)
      · obtain ⟨e1, d⟩ := rx_and2.mp d
        obtain ⟨e2, e3⟩ := rx_and2.mp d
        exact Or.inr ⟨of_decide_eq_true e1, of_decide_eq_true e2, of_decide_eq_true e3⟩
  | newarray t => exact rx_has_ok h
  | anewarray i => exact rx_has_ok h
  | new i =>
    replace h : (match rx_nth vwCl na with
      | some q => Nat.blt na 12 && rx_has w (.classLink own i q.1)
      | none => false) = true := h
    rw [rx_nth_eq] at h
    cases e : vwCl[na]? with
    | none => rw [e] at h; cases h
    | some q =>
      rw [e] at h
      obtain ⟨d1, d2⟩ := rx_and2.mp h
      obtain ⟨C, T, Nf, ty0, fs, l, q1, q2, q3, q4, q5, q6, q7, q8, q9, q10, q11⟩ := hCL na (rx_blt.mp d1)
      cases e.symm.trans q1
      exact ⟨C, T, Nf, ty0, fs, l, e, rx_blt.mp d1, q6, q7, q8, q9, q2, q4, rx_has_ok d2, q10, q11⟩
  | _ => trivial
theorem rx_cw_site {X : rx_XT} {P : List rx_M} {own mn : String} {pc na nb : Nat} {w : Nat × Nat} {ins : Instr} (h : rx_cw X P own mn pc na nb w ins = true) : rx_site P own na nb ins := by
  cases ins with
  | invokevirtual i =>
    replace h : (bif Nat.beq nb 13 then rx_has w (.methodLink own i yJ0_length_8abf5) else bif Nat.beq nb 17 then rx_has w (.methodLink own i yJ0_charAt_5068e) else (match rx_nth P na with
      | some q => decide (nb ≠ 1) && (decide (nb ≠ 2 ∧ nb % 4 ≠ 1) && (rx_has w (.methodLink own i (rx_y q)) && (rx_has (rx_wI q) (.instanceMethod (rx_y q)) && (rx_has (rx_wS q) (.selects (rx_y q).cls (rx_y q) (rx_y q)) && (Nat.blt (nb / 4) 12 && (match rx_nth vwCl (nb / 4) with
        | some z => decide (z.1 = (rx_y q).cls)
        | none => false))))))
      | none => false)) = true := h
    cases hb13 : Nat.beq nb 13 with
    | true =>
      rw [hb13, cond_true] at h
      exact Or.inl ⟨rx_beq.mp hb13, rx_has_ok h⟩
    | false =>
      rw [hb13, cond_false] at h
      cases hb17 : Nat.beq nb 17 with
      | true =>
        rw [hb17, cond_true] at h
        exact Or.inr (Or.inl ⟨rx_beq.mp hb17, rx_has_ok h⟩)
      | false =>
        rw [hb17, cond_false] at h
        cases e : rx_nth P na with
        | none => rw [e] at h; cases h
        | some q =>
          rw [e] at h
          obtain ⟨d1, h⟩ := rx_and2.mp h
          obtain ⟨d2, h⟩ := rx_and2.mp h
          obtain ⟨d3, h⟩ := rx_and2.mp h
          obtain ⟨d4, h⟩ := rx_and2.mp h
          obtain ⟨d5, h⟩ := rx_and2.mp h
          obtain ⟨d6, h⟩ := rx_and2.mp h
          rw [rx_nth_eq] at h
          cases e2 : vwCl[nb / 4]? with
          | none => rw [e2] at h; cases h
          | some z =>
            rw [e2] at h
            obtain ⟨z1, z2, z3⟩ := z
            have hz : z1 = (rx_y q).cls := of_decide_eq_true h
            subst hz
            exact Or.inr (Or.inr ⟨of_decide_eq_true d1, (of_decide_eq_true d2).1, (of_decide_eq_true d2).2, q, e, rx_has_ok d3, rx_has_ok d4, rx_has_ok d5, ⟨z2, z3, e2⟩, rx_blt.mp d6⟩)
  | invokespecial i =>
    replace h : (bif Nat.beq nb 1 then rx_has w (.methodLink own i objectInit) && (rx_has X.1 (.instanceMethod objectInit) && rx_has X.2.1 (.code objectInit ⟨#[0xb1]⟩ 1 none)) else (match rx_nth P na with
      | some q => decide (nb ≠ 1) && (decide (nb ≠ 2 ∧ nb % 4 ≠ 1) && (decide ((rx_y q).name = "<init>") && (decide (rx_rt q = none) && (rx_has (rx_wI q) (.instanceMethod (rx_y q)) && (rx_has w (.methodLink own i (rx_y q)) || rx_hasN w own i (rx_y q) "TurnNet")))))
      | none => false)) = true := h
    cases hb : Nat.beq nb 1 with
    | true =>
      rw [hb, cond_true] at h
      obtain ⟨d1, h⟩ := rx_and2.mp h
      obtain ⟨d2, d3⟩ := rx_and2.mp h
      exact Or.inl ⟨rx_beq.mp hb, rx_has_ok d1, rx_has_ok d2, rx_has_ok d3⟩
    | false =>
      rw [hb, cond_false] at h
      cases e : rx_nth P na with
      | none => rw [e] at h; cases h
      | some q =>
        rw [e] at h
        obtain ⟨d1, h⟩ := rx_and2.mp h
        obtain ⟨d2, h⟩ := rx_and2.mp h
        obtain ⟨d3, h⟩ := rx_and2.mp h
        obtain ⟨d4, h⟩ := rx_and2.mp h
        obtain ⟨d5, h⟩ := rx_and2.mp h
        refine Or.inr ⟨of_decide_eq_true d1, (of_decide_eq_true d2).1, (of_decide_eq_true d2).2, q, e, of_decide_eq_true d3, of_decide_eq_true d4, rx_has_ok d5, ?_⟩
        rcases rx_or2.mp h with h | h
        · exact Or.inl (rx_has_ok h)
        · exact Or.inr ⟨_, rx_hasN_ok h⟩
  | invokestatic i =>
    replace h : (bif Nat.beq nb 2 then rx_has w (.methodLink own i arraycopyName) && (rx_has X.2.2.1 (.native arraycopyName) && (rx_has X.2.2.2.1 (.static arraycopyName) && rx_has X.2.2.2.2.1 (.initialized "java/lang/System"))) else bif Nat.beq nb 5 then rx_has w (.methodLink own i Lib.Math.max.name) && (rx_has X.2.2.2.2.2.2.1 (.static Lib.Math.max.name) && (rx_has X.2.2.2.2.2.1 (.initialized "java/lang/Math") && rx_has X.2.2.2.2.2.2.2.1 (.code Lib.Math.max.name Lib.Math.max.code 2 (some .int)))) else bif Nat.beq nb 9 then rx_has w (.methodLink own i Lib.Math.min.name) && (rx_has X.2.2.2.2.2.2.2.2.1 (.static Lib.Math.min.name) && (rx_has X.2.2.2.2.2.1 (.initialized "java/lang/Math") && rx_has X.2.2.2.2.2.2.2.2.2 (.code Lib.Math.min.name Lib.Math.min.code 2 (some .int)))) else (match rx_nth P na with
      | some q => decide (nb ≠ 1) && (decide (nb ≠ 2 ∧ nb % 4 ≠ 1) && (rx_has w (.methodLink own i (rx_y q)) && rx_has (rx_wI q) (.static (rx_y q))))
      | none => false)) = true := h
    cases hb : Nat.beq nb 2 with
    | true =>
      rw [hb, cond_true] at h
      obtain ⟨d1, h⟩ := rx_and2.mp h
      obtain ⟨d2, h⟩ := rx_and2.mp h
      obtain ⟨d3, d4⟩ := rx_and2.mp h
      exact Or.inl ⟨rx_beq.mp hb, rx_has_ok d1, rx_has_ok d2, rx_has_ok d3, rx_has_ok d4⟩
    | false =>
      rw [hb, cond_false] at h
      cases hb5 : Nat.beq nb 5 with
      | true =>
        rw [hb5, cond_true] at h
        obtain ⟨d1, h⟩ := rx_and2.mp h
        obtain ⟨d2, h⟩ := rx_and2.mp h
        obtain ⟨d3, d4⟩ := rx_and2.mp h
        exact Or.inr (Or.inr (Or.inl ⟨rx_beq.mp hb5, rx_has_ok d1, rx_has_ok d2, rx_has_ok d3, rx_has_ok d4⟩))
      | false =>
        rw [hb5, cond_false] at h
        cases hb9 : Nat.beq nb 9 with
        | true =>
          rw [hb9, cond_true] at h
          obtain ⟨d1, h⟩ := rx_and2.mp h
          obtain ⟨d2, h⟩ := rx_and2.mp h
          obtain ⟨d3, d4⟩ := rx_and2.mp h
          exact Or.inr (Or.inr (Or.inr ⟨rx_beq.mp hb9, rx_has_ok d1, rx_has_ok d2, rx_has_ok d3, rx_has_ok d4⟩))
        | false =>
          rw [hb9, cond_false] at h
          cases e : rx_nth P na with
          | none => rw [e] at h; cases h
          | some q =>
            rw [e] at h
            obtain ⟨d1, h⟩ := rx_and2.mp h
            obtain ⟨d2, h⟩ := rx_and2.mp h
            obtain ⟨d3, d4⟩ := rx_and2.mp h
            exact Or.inr (Or.inl ⟨of_decide_eq_true d1, (of_decide_eq_true d2).1, (of_decide_eq_true d2).2, q, e, rx_has_ok d3, rx_has_ok d4⟩)
  | _ => trivial
/-- a method's code, by program (but for what its steps do: that is by rfl) -/
noncomputable def rx_cm (X : rx_XT) (P : List rx_M) (r : rx_M) : Bool := (rx_cd r).all (fun ch => ch.all (fun x => rx_cd1 (rx_b r) x.1 x.2.2.2.2.1 x.2.2.2.1 && (Nat.beq x.2.1 (rx_kd x.2.2.2.1) && rx_cw X P (rx_y r).cls (rx_y r).name x.1 x.2.2.2.2.2.1 x.2.2.2.2.2.2.1 (x.2.2.2.2.2.2.2.1, x.2.2.2.2.2.2.2.2) x.2.2.2.1)))
theorem rx_cm_ok {X : rx_XT} {P : List rx_M} {K : rx_K} {r : rx_M} (hCL : ∀ na, na < 12 → rx_CL K na) (h : rx_cm X P r = true) (hh : ∀ ch ∈ rx_cd r, ∀ x ∈ ch, x.2.1 = 0 → x.2.2.1 = rx_sem x.2.2.2.1) : rx_ST P K r := by
  intro ch hch x hx
  have h1 := List.all_eq_true.mp (List.all_eq_true.mp h ch hch) x hx
  obtain ⟨d1, h1⟩ := rx_and2.mp h1
  obtain ⟨d2, d3⟩ := rx_and2.mp h1
  exact ⟨rx_cd1_ok d1, rx_beq.mp d2, hh ch hch x hx, rx_cw_wd hCL d3, rx_cw_site d3⟩
/-- a method that is called, by program -/
noncomputable def rx_cq (q : rx_M) : Bool := plainName (rx_y q).cls && (rx_has (rx_wC q) (.code (rx_y q) (rx_b q) (rx_mL (rx_n q)) (rx_rt q)) && (rx_has (rx_wN q) (.initialized (rx_y q).cls) && (decide ((rx_y q).cls ≠ "java/lang/invoke/MethodHandle") && (decide ((rx_y q).cls ≠ "java/lang/invoke/VarHandle") && (decide ((parseMethodDescriptor (rx_y q).desc).map (fun d => d.parameters.length) = some (rx_np (rx_n q))) && (Nat.beq (rx_sl (rx_n q)) 0 &&
  ((Nat.beq (rx_rk (rx_n q)) 0 && decide (rx_rt q = none)) || ((Nat.beq (rx_rk (rx_n q)) 1 && decide (rx_rt q = some .int)) || ((Nat.beq (rx_rk (rx_n q)) 2 && decide (rx_rt q = some .boolean)) || ((Nat.beq (rx_rk (rx_n q)) 3 && decide (rx_rt q = some .long)) || (Nat.beq (rx_rk (rx_n q)) 4 && decide (rx_rt q = some (.object "TurnNet$State")))))))))))))
theorem rx_cq_ok {q : rx_M} (h : rx_cq q = true) : rx_QW q := by
  obtain ⟨d1, h⟩ := rx_and2.mp h
  obtain ⟨d2, h⟩ := rx_and2.mp h
  obtain ⟨d3, h⟩ := rx_and2.mp h
  obtain ⟨d4, h⟩ := rx_and2.mp h
  obtain ⟨d5, h⟩ := rx_and2.mp h
  obtain ⟨d6, h⟩ := rx_and2.mp h
  obtain ⟨d7, h⟩ := rx_and2.mp h
  refine ⟨d1, rx_has_ok d2, rx_has_ok d3, of_decide_eq_true d4, of_decide_eq_true d5, of_decide_eq_true d6, rx_beq.mp d7, ?_⟩
  rcases rx_or2.mp h with h | h
  · obtain ⟨a, b⟩ := rx_and2.mp h
    exact Or.inl ⟨rx_beq.mp a, of_decide_eq_true b⟩
  rcases rx_or2.mp h with h | h
  · obtain ⟨a, b⟩ := rx_and2.mp h
    exact Or.inr (Or.inl ⟨rx_beq.mp a, of_decide_eq_true b⟩)
  rcases rx_or2.mp h with h | h
  · obtain ⟨a, b⟩ := rx_and2.mp h
    exact Or.inr (Or.inr (Or.inl ⟨rx_beq.mp a, of_decide_eq_true b⟩))
  rcases rx_or2.mp h with h | h
  · obtain ⟨a, b⟩ := rx_and2.mp h
    exact Or.inr (Or.inr (Or.inr (Or.inl ⟨rx_beq.mp a, of_decide_eq_true b⟩)))
  · obtain ⟨a, b⟩ := rx_and2.mp h
    exact Or.inr (Or.inr (Or.inr (Or.inr ⟨rx_beq.mp a, _, of_decide_eq_true b⟩)))
noncomputable def rx_cr (q : rx_M) : Bool := plainName (rx_y q).cls && (rx_has (rx_wN q) (.initialized (rx_y q).cls) && (decide ((rx_y q).cls ≠ "java/lang/invoke/MethodHandle") && (decide ((rx_y q).cls ≠ "java/lang/invoke/VarHandle") && (decide ((parseMethodDescriptor (rx_y q).desc).map (fun d => d.parameters.length) = some (rx_np (rx_n q))) && (Nat.beq (rx_sl (rx_n q)) 0 &&
  ((Nat.beq (rx_rk (rx_n q)) 0 && decide (rx_rt q = none)) || ((Nat.beq (rx_rk (rx_n q)) 1 && decide (rx_rt q = some .int)) || ((Nat.beq (rx_rk (rx_n q)) 2 && decide (rx_rt q = some .boolean)) || ((Nat.beq (rx_rk (rx_n q)) 3 && decide (rx_rt q = some .long)) || (Nat.beq (rx_rk (rx_n q)) 4 && decide (rx_rt q = some (.object "TurnNet$State"))))))))))))
theorem rx_cr_ok {q : rx_M} {a b : Nat} (hc : rx_nth (rx_tb a) b = some (.code (rx_y q) (rx_b q) (rx_mL (rx_n q)) (rx_rt q))) (hg : goodWord (.code (rx_y q) (rx_b q) (rx_mL (rx_n q)) (rx_rt q)) = true) (h : rx_cr q = true) : rx_QW q := by
  rw [rx_nth_eq] at hc
  obtain ⟨d1, h⟩ := rx_and2.mp h
  obtain ⟨d3, h⟩ := rx_and2.mp h
  obtain ⟨d4, h⟩ := rx_and2.mp h
  obtain ⟨d5, h⟩ := rx_and2.mp h
  obtain ⟨d6, h⟩ := rx_and2.mp h
  obtain ⟨d7, h⟩ := rx_and2.mp h
  refine ⟨d1, lw_G_of (rx_tb_in (List.mem_of_getElem? hc)) hg, rx_has_ok d3, of_decide_eq_true d4, of_decide_eq_true d5, of_decide_eq_true d6, rx_beq.mp d7, ?_⟩
  rcases rx_or2.mp h with h | h
  · obtain ⟨a, b⟩ := rx_and2.mp h
    exact Or.inl ⟨rx_beq.mp a, of_decide_eq_true b⟩
  rcases rx_or2.mp h with h | h
  · obtain ⟨a, b⟩ := rx_and2.mp h
    exact Or.inr (Or.inl ⟨rx_beq.mp a, of_decide_eq_true b⟩)
  rcases rx_or2.mp h with h | h
  · obtain ⟨a, b⟩ := rx_and2.mp h
    exact Or.inr (Or.inr (Or.inl ⟨rx_beq.mp a, of_decide_eq_true b⟩))
  rcases rx_or2.mp h with h | h
  · obtain ⟨a, b⟩ := rx_and2.mp h
    exact Or.inr (Or.inr (Or.inr (Or.inl ⟨rx_beq.mp a, of_decide_eq_true b⟩)))
  · obtain ⟨a, b⟩ := rx_and2.mp h
    exact Or.inr (Or.inr (Or.inr (Or.inr ⟨rx_beq.mp a, _, of_decide_eq_true b⟩)))
end
section
noncomputable def rx_dv (v : Nat) : Value := if v = 0 then .int 0 else if v = 1 then .long 0 else .null
theorem rx_dv_ok (b : Nat → Nat) (ad : List Nat) (en : List Int32) : ∀ (l : List Nat), l.all (fun v => Nat.ble v 2) = true → l.map (rx_cv b ad en) = (l.map rx_dv).map some
  | [], _ => rfl
  | v :: l, h => by
    rw [List.all_cons] at h
    obtain ⟨h1, h2⟩ := rx_and2.mp h
    have h1 : v ≤ 2 := rx_ble.mp h1
    simp only [List.map_cons, List.cons.injEq]
    refine ⟨?_, rx_dv_ok b ad en l h2⟩
    rcases (show v = 0 ∨ v = 1 ∨ v = 2 by omega) with rfl | rfl | rfl <;> rfl
noncomputable def rx_fktB (k : Nat) (ty : FieldType) : Bool := match ty with
  | .int => Nat.beq k 0 | .boolean => Nat.beq k 1 | .object _ => Nat.beq k 2 | .array _ => Nat.beq k 2 | _ => false
theorem rx_fktB_ok {k : Nat} {ty : FieldType} (h : rx_fktB k ty = true) : rx_fkt k ty := by
  cases ty with
  | int => exact Or.inl ⟨rx_beq.mp h, rfl⟩
  | boolean => exact Or.inr (Or.inl ⟨rx_beq.mp h, rfl⟩)
  | object n => exact Or.inr (Or.inr ⟨rx_beq.mp h, Or.inl ⟨n, rfl⟩⟩)
  | array n => exact Or.inr (Or.inr ⟨rx_beq.mp h, Or.inr ⟨n, rfl⟩⟩)
  | _ => cases h
/-- a class, by program: its layout's words, its fields' kinds, its default contents -/
noncomputable def rx_cc (K : rx_K) (na : Nat) (C : String) (T : u_T) (Nf : Nat) (ty : Nat → FieldType) (l : List Nat) (pls : List (Nat × Nat)) (wi wn : Nat × Nat) : Bool :=
  (List.range Nf).all (fun i => match rx_nth pls i with | some w => rx_has w (u_lay C T i) | none => false) &&
  ((match rx_nth K.2 na with | some ks => (List.range Nf).all (fun i => match rx_nth ks i with | some k => rx_fktB k (ty i) | none => false) | none => false) &&
  (l.all (fun v => Nat.ble v 2) && ((List.range Nf).all (fun j => decide (defaultValue (ty j) = vp_V (l.map rx_dv) j)) && (rx_has wi (.instantiable C Nf) && rx_has wn (.initialized C)))))
theorem rx_cc_ok {K : rx_K} {na : Nat} {C : String} {T : u_T} {Nf : Nat} {ty : Nat → FieldType} {l : List Nat} {pls : List (Nat × Nat)} {wi wn : Nat × Nat} (h : rx_cc K na C T Nf ty l pls wi wn = true) (h1 : vwCl[na]? = some (C, T, Nf)) (h2 : ∀ k, k < Nf → parseFieldDescriptor (T k).2.2.1 = some (ty k)) (h3 : ∀ a, a < Nf → ∀ b, b < Nf → a ≠ b → (T a).2.1 ≠ (T b).2.1) (h4 : rx_nth K.1 na = some l) (h5 : l.length = Nf) : rx_CL K na := by
  obtain ⟨d1, h⟩ := rx_and2.mp h
  obtain ⟨d2, h⟩ := rx_and2.mp h
  obtain ⟨d3, h⟩ := rx_and2.mp h
  obtain ⟨d4, h⟩ := rx_and2.mp h
  obtain ⟨d5, d6⟩ := rx_and2.mp h
  refine ⟨C, T, Nf, ty, l.map rx_dv, l, h1, h2, h3, ?_, ?_, h4, h5, fun b ad en => rx_dv_ok b ad en l d3, ?_, rx_has_ok d5, rx_has_ok d6⟩
  · intro w hw
    obtain ⟨i, hi, rfl⟩ := List.mem_map.mp hw
    have := List.all_eq_true.mp d1 i hi
    cases e : rx_nth pls i with
    | none => rw [e] at this; cases this
    | some z => rw [e] at this; exact rx_has_ok this
  · intro nb ks k hnb hks hk
    rw [hks] at d2
    have := List.all_eq_true.mp d2 nb (List.mem_range.mpr hnb)
    rw [hk] at this
    exact rx_fktB_ok this
  · intro j hj
    exact of_decide_eq_true (List.all_eq_true.mp d4 j (List.mem_range.mpr hj))
theorem rx_co_12 {p : Nat → Prop} (h0 : p 0) (h1 : p 1) (h2 : p 2) (h3 : p 3) (h4 : p 4) (h5 : p 5) (h6 : p 6) (h7 : p 7) (h8 : p 8) (h9 : p 9) (h10 : p 10) (h11 : p 11) : ∀ n, n < 12 → p n := by
  intro n hn
  match n, hn with
  | 0, _ => exact h0
  | 1, _ => exact h1
  | 2, _ => exact h2
  | 3, _ => exact h3
  | 4, _ => exact h4
  | 5, _ => exact h5
  | 6, _ => exact h6
  | 7, _ => exact h7
  | 8, _ => exact h8
  | 9, _ => exact h9
  | 10, _ => exact h10
  | 11, _ => exact h11
  | n + 12, h => exact absurd h (by omega)
/-- a stretch of a method's code, by program -/
noncomputable def rx_cmA (X : rx_XT) (P : List rx_M) (r : rx_M) (ch : List rx_E) : Bool := ch.all (fun x => rx_cd1 (rx_b r) x.1 x.2.2.2.2.1 x.2.2.2.1 && (Nat.beq x.2.1 (rx_kd x.2.2.2.1) && rx_cw X P (rx_y r).cls (rx_y r).name x.1 x.2.2.2.2.2.1 x.2.2.2.2.2.2.1 (x.2.2.2.2.2.2.2.1, x.2.2.2.2.2.2.2.2) x.2.2.2.1))
theorem rx_cmA_ok {X : rx_XT} {P : List rx_M} {K : rx_K} {r : rx_M} {ch : List rx_E} (hCL : ∀ na, na < 12 → rx_CL K na) (h : rx_cmA X P r ch = true) (hh : ∀ x ∈ ch, x.2.1 = 0 → x.2.2.1 = rx_sem x.2.2.2.1) : ∀ x ∈ ch, rx_OK P K r x := by
  intro x hx
  have h1 := List.all_eq_true.mp h x hx
  obtain ⟨d1, h1⟩ := rx_and2.mp h1
  obtain ⟨d2, d3⟩ := rx_and2.mp h1
  exact ⟨rx_cd1_ok d1, rx_beq.mp d2, hh x hx, rx_cw_wd hCL d3, rx_cw_site d3⟩
end
section
theorem rxc_0 : rx_CL (rx_DF, rx_FK) 0 := rx_cc_ok (C := RX0) (T := TX0) (Nf := 5) (ty := tyX0) (l := [2, 2, 2, 2, 2]) (pls := [(1, 238), (2, 0), (2, 2), (2, 4), (2, 6)]) (wi := (1, 228)) (wn := (1, 6)) (by decide +kernel) rfl tyX0_ok nmX0 rfl rfl
theorem rxc_1 : rx_CL (rx_DF, rx_FK) 1 := rx_cc_ok (C := RX1) (T := TX1) (Nf := 4) (ty := tyX1) (l := [2, 0, 0, 0]) (pls := [(2, 130), (2, 132), (2, 134), (2, 136)]) (wi := (2, 68)) (wn := (1, 10)) (by decide +kernel) rfl tyX1_ok nmX1 rfl rfl
theorem rxc_2 : rx_CL (rx_DF, rx_FK) 2 := rx_cc_ok (C := RX2) (T := TX2) (Nf := 12) (ty := tyX2) (l := [0, 0, 0, 0, 0, 0, 2, 2, 2, 2, 2, 2]) (pls := [(1, 81), (1, 83), (1, 85), (1, 87), (1, 89), (1, 91), (1, 93), (1, 95), (1, 97), (1, 99), (1, 101), (1, 103)]) (wi := (1, 29)) (wn := (1, 2)) (by decide +kernel) rfl tyX2_ok nmX2 rfl rfl
theorem rxc_3 : rx_CL (rx_DF, rx_FK) 3 := rx_cc_ok (C := RX3) (T := TX3) (Nf := 5) (ty := tyX3) (l := [2, 2, 2, 2, 2]) (pls := [(1, 171), (1, 173), (1, 175), (1, 177), (1, 179)]) (wi := (1, 158)) (wn := (1, 4)) (by decide +kernel) rfl tyX3_ok nmX3 rfl rfl
theorem rxc_4 : rx_CL (rx_DF, rx_FK) 4 := rx_cc_ok (C := RX4) (T := TX4) (Nf := 5) (ty := tyX4) (l := [2, 2, 2, 0, 0]) (pls := [(2, 38), (2, 40), (2, 42), (2, 44), (2, 46)]) (wi := (2, 26)) (wn := (1, 8)) (by decide +kernel) rfl tyX4_ok nmX4 rfl rfl
theorem rxc_5 : rx_CL (rx_DF, rx_FK) 5 := rx_cc_ok (C := RX5) (T := TX5) (Nf := 12) (ty := tyX5) (l := [2, 0, 2, 0, 0, 0, 0, 0, 0, 0, 0, 0]) (pls := [(1, 131), (1, 133), (1, 135), (1, 137), (1, 139), (1, 141), (1, 143), (1, 145), (1, 147), (1, 149), (1, 151), (1, 153)]) (wi := (1, 108)) (wn := (1, 3)) (by decide +kernel) rfl tyX5_ok nmX5 rfl rfl
theorem rxc_6 : rx_CL (rx_DF, rx_FK) 6 := rx_cc_ok (C := RX6) (T := TX6) (Nf := 12) (ty := tyX6) (l := [2, 0, 0, 0, 0, 2, 2, 2, 2, 2, 2, 2]) (pls := [(1, 201), (1, 203), (1, 205), (1, 207), (1, 209), (1, 211), (1, 213), (1, 215), (1, 217), (1, 219), (1, 221), (1, 223)]) (wi := (1, 183)) (wn := (1, 5)) (by decide +kernel) rfl tyX6_ok nmX6 rfl rfl
theorem rxc_7 : rx_CL (rx_DF, rx_FK) 7 := rx_cc_ok (C := RX7) (T := TX7) (Nf := 9) (ty := tyX7) (l := [0, 0, 0, 0, 0, 2, 2, 2, 2]) (pls := [(2, 105), (2, 107), (2, 109), (2, 111), (2, 113), (2, 115), (2, 117), (2, 119), (2, 121)]) (wi := (2, 75)) (wn := (1, 11)) (by decide +kernel) rfl tyX7_ok nmX7 rfl rfl
theorem rxc_8 : rx_CL (rx_DF, rx_FK) 8 := rx_cc_ok (C := RX8) (T := TX8) (Nf := 3) (ty := tyX8) (l := [2, 0, 0]) (pls := [(2, 60), (2, 62), (2, 64)]) (wi := (2, 50)) (wn := (1, 9)) (by decide +kernel) rfl tyX8_ok nmX8 rfl rfl
theorem rxc_9 : rx_CL (rx_DF, rx_FK) 9 := rx_cc_ok (C := RX9) (T := TX9) (Nf := 3) (ty := tyX9) (l := [2, 2, 2]) (pls := [(2, 18), (2, 20), (2, 22)]) (wi := (2, 10)) (wn := (1, 7)) (by decide +kernel) rfl tyX9_ok nmX9 rfl rfl
theorem rxc_10 : rx_CL (rx_DF, rx_FK) 10 := rx_cc_ok (C := RX10) (T := TX10) (Nf := 14) (ty := tyX10) (l := [2, 2, 2, 2, 2, 2, 2, 2, 2, 2, 2, 2, 2, 2]) (pls := [(2, 155), (2, 157), (2, 159), (2, 161), (2, 163), (2, 165), (2, 167), (2, 169), (2, 171), (2, 173), (2, 175), (2, 177), (2, 179), (2, 181)]) (wi := (1, 21)) (wn := (1, 1)) (by decide +kernel) rfl tyX10_ok nmX10 rfl rfl
theorem rxc_11 : rx_CL (rx_DF, rx_FK) 11 := rx_cc_ok (C := RX11) (T := TX11) (Nf := 58) (ty := tyX11) (l := [2, 2, 2, 2, 2, 2, 2, 2, 2, 0, 2, 0, 0, 0, 0, 0, 0, 0, 0, 0, 0, 0, 2, 0, 0, 0, 2, 0, 0, 2, 2, 2, 2, 2, 2, 2, 2, 2, 2, 2, 0, 0, 0, 0, 2, 2, 2, 2, 2, 0, 0, 0, 0, 2, 2, 2, 0, 0]) (pls := [(6, 62), (6, 64), (6, 66), (6, 68), (6, 70), (6, 72), (6, 74), (6, 76), (6, 78), (6, 80), (6, 82), (6, 84), (6, 86), (6, 88), (6, 90), (6, 92), (6, 94), (6, 96), (6, 98), (6, 100), (6, 102), (6, 104), (6, 106), (6, 108), (6, 110), (6, 112), (6, 114), (6, 116), (6, 118), (6, 120), (6, 122), (6, 124), (6, 126), (6, 128), (6, 130), (6, 132), (6, 134), (6, 136), (6, 138), (6, 140), (6, 142), (6, 144), (6, 146), (6, 148), (6, 150), (6, 152), (6, 154), (6, 156), (6, 158), (6, 160), (6, 162), (6, 164), (6, 166), (6, 168), (6, 170), (6, 172), (6, 174), (6, 176)]) (wi := (5, 177)) (wn := (1, 12)) (by decide +kernel) rfl tyX11_ok nmX11 rfl rfl
theorem rxc_all : ∀ na, na < 12 → rx_CL (rx_DF, rx_FK) na := rx_co_12 rxc_0 rxc_1 rxc_2 rxc_3 rxc_4 rxc_5 rxc_6 rxc_7 rxc_8 rxc_9 rxc_10 rxc_11
noncomputable def rx_X : rx_XT := ((1, 26), (1, 27), (3, 103), (3, 102), (1, 18), (1, 13), (5, 17), (5, 18), (2, 215), (2, 216))
end
