noncomputable def fx_w : ax_W := ([0, 1, 14, 15, 16, 17, 18, 19, 2, 20, 1, 14, 15, 16, 17, 18, 19, 3, 21, 22, 23, 24, 4, 25, 26, 27, 28, 29, 30, 31, 4, 25, 26, 27, 28, 29, 30, 31, 5, 32, 33, 34, 35, 6, 36, 37, 7, 38, 8, 9, 39, 10, 40, 41, 42, 43, 10, 40, 41, 42, 43, 10, 40, 41, 42, 43, 10, 40, 41, 42, 43, 10, 40, 41, 42, 43, 10, 40, 41, 42, 43, 10, 40, 41, 42, 43, 10, 40, 41, 42, 43, 10, 40, 41, 42, 43, 10, 40, 41, 42, 43, 10, 40, 41, 42, 43, 10, 40, 41, 42, 43, 10, 40, 41, 42, 43, 10, 40, 41, 42, 43, 10, 40, 41, 42, 43, 10, 40, 41, 42, 43, 10, 40, 41, 42, 43, 10, 40, 41, 42, 43, 10, 40, 41, 42, 43, 10, 40, 41, 42, 43, 10, 40, 41, 42, 43, 12, 13, 10, 40, 41, 42, 43, 10, 40, 41, 42, 43, 10, 40, 41, 42, 43, 11, 44, 45, 46, 47, 48, 49, 50, 51, 52, 53, 54, 55, 56, 57, 58, 59, 60, 61, 62, 63, 64, 65, 66, 67, 68, 69, 70, 71, 72, 73, 74],
  [(10, 14, []), (2, 12, []), (5, 12, []), (3, 5, []), (6, 12, []), (0, 5, []), (9, 3, []), (4, 5, []), (8, 3, []), (1, 4, []), (7, 9, []), (11, 58, []), (16, 2, []), (15, 2, []), (13, 40, []), (13, 40, []), (13, 11, []), (13, 40, []), (13, 80, []), (13, 80, []), (12, 800, []), (13, 10, []), (13, 10, []), (13, 10, []), (13, 80, []), (13, 200, []), (13, 200, []), (13, 40, []), (13, 40, []), (13, 40, []), (14, 20, []), (14, 20, []), (13, 100, []), (13, 10, []), (13, 10, []), (13, 20, []), (14, 10, []), (14, 40, []), (13, 20, []), (16, 20, []), (13, 12, []), (13, 12, []), (13, 12, []), (13, 12, []), (13, 103, []), (13, 2, []), (13, 2, []), (13, 2, []), (13, 2, []), (13, 2, []), (13, 2, []), (13, 80, []), (13, 200, []), (12, 800, []), (12, 46, []), (13, 100, []), (13, 10, []), (13, 10, []), (13, 20, []), (13, 100, []), (14, 40, []), (13, 200, []), (14, 20, []), (14, 20, []), (13, 200, []), (13, 40, []), (13, 40, []), (13, 103, []), (13, 20, []), (13, 10, []), (15, 20, []), (13, 20, []), (13, 2163, []), (13, 206, []), (15, 2, [])], [])
noncomputable def fx_FZ : List (List (Nat × Nat)) := [[(2, 3), (2, 41), (2, 42), (2, 43), (2, 44)],
  [(2, 52), (0, 0), (0, 0), (0, 0)],
  [(0, 0), (0, 0), (0, 0), (0, 0), (0, 0), (0, 0), (1, 1), (1, 2), (1, 3), (1, 4), (1, 5), (1, 6)],
  [(2, 3), (2, 20), (2, 21), (2, 22), (2, 23)],
  [(2, 3), (2, 45), (2, 49), (0, 0), (0, 0)],
  [(2, 11), (0, 0), (2, 12), (0, 0), (0, 0), (0, 0), (0, 0), (0, 0), (0, 0), (0, 0), (0, 0), (0, 0)],
  [(2, 3), (0, 0), (0, 0), (0, 0), (0, 0), (1, 1), (1, 2), (1, 3), (1, 4), (1, 5), (1, 6), (1, 7)],
  [(0, 0), (0, 0), (0, 0), (0, 0), (0, 0), (1, 1), (1, 2), (1, 3), (1, 4)],
  [(2, 3), (0, 0), (0, 0)],
  [(2, 3), (2, 46), (2, 47)],
  [(2, 3), (2, 10), (2, 19), (2, 24), (2, 32), (2, 40), (2, 45), (2, 48), (2, 50), (2, 51), (2, 153), (2, 158), (2, 159), (0, 0)],
  [(2, 176), (2, 177), (2, 178), (2, 179), (2, 180), (2, 181), (2, 182), (2, 183), (2, 184), (0, 0), (2, 185), (0, 0), (0, 0), (0, 0), (0, 0), (0, 0), (0, 0), (0, 0), (0, 0), (0, 0), (0, 0), (0, 0), (2, 186), (0, 0), (0, 0), (0, 0), (2, 187), (0, 0), (0, 0), (2, 188), (2, 189), (2, 190), (2, 191), (2, 192), (2, 193), (2, 194), (2, 195), (2, 196), (2, 197), (2, 198), (0, 0), (0, 0), (0, 0), (0, 0), (2, 199), (2, 200), (2, 201), (2, 202), (2, 203), (0, 0), (0, 0), (0, 0), (0, 0), (2, 204), (2, 205), (2, 206), (0, 0), (0, 0)]]
noncomputable def fx_SG : List (Nat × Nat × Nat) := [(2, 2, 5), (2, 1, 3), (2, 0, 6), (0, 0, 1), (2, 4, 4), (1, 1, 2), (2, 0, 3), (2, 0, 4), (0, 1, 1), (0, 1, 1), (0, 0, 1), (1, 2, 2), (1, 2, 2), (2, 2, 2), (2, 1, 3), (3, 1, 3), (2, 2, 3), (3, 1, 4), (1, 1, 2), (1, 1, 3), (1, 0, 3), (1, 2, 2), (3, 1, 4), (0, 0, 1), (2, 1, 3), (1, 1, 2), (3, 2, 4), (1, 2, 2), (3, 0, 5), (1, 1, 4), (1, 1, 4), (0, 1, 3), (0, 1, 2), (1, 2, 2), (1, 2, 2), (1, 1, 1), (0, 0, 1), (2, 3, 6), (2, 2, 3), (1, 1, 2), (1, 1, 2), (2, 1, 2), (1, 1, 1), (0, 0, 2), (1, 1, 4), (1, 0, 2), (0, 1, 1), (1, 1, 2), (3, 1, 3), (1, 0, 2), (1, 1, 2), (5, 1, 8), (0, 1, 2), (2, 2, 3), (1, 2, 2), (1, 2, 1), (3, 2, 3), (1, 2, 1), (2, 2, 4), (1, 2, 1), (1, 2, 2), (0, 0, 2), (2, 0, 3), (0, 1, 1), (0, 1, 1), (1, 1, 4), (0, 1, 3), (1, 0, 2), (0, 0, 2), (1, 1, 2), (1, 2, 2), (3, 1, 3), (0, 0, 3), (3, 1, 4), (1, 1, 1), (1, 0, 2), (3, 2, 9), (0, 1, 4), (5, 0, 10), (1, 4, 2), (1, 4, 3), (0, 0, 1), (1, 2, 2), (2, 2, 4), (0, 0, 4), (1, 0, 2), (1, 1, 4), (1, 0, 3), (1, 1, 5), (0, 1, 3), (2, 0, 3), (0, 0, 3), (1, 0, 2), (2, 1, 3), (2, 2, 7), (0, 1, 3), (0, 1, 4), (3, 2, 6), (0, 1, 4), (0, 0, 2), (1, 0, 2), (2, 1, 4), (1, 0, 2), (3, 1, 6), (1, 0, 2), (0, 2, 6), (1, 3, 6), (1, 3, 5), (1, 1, 2), (5, 1, 6), (0, 1, 4), (2, 1, 3), (1, 1, 4), (1, 1, 3), (0, 1, 1), (2, 1, 3), (0, 1, 3), (2, 1, 4), (1, 1, 3), (1, 2, 2), (1, 2, 2), (3, 2, 7), (1, 2, 2), (1, 2, 2), (1, 2, 2), (1, 0, 2), (2, 1, 3), (0, 2, 1), (0, 0, 1), (0, 0, 4), (0, 1, 3), (0, 0, 2), (0, 0, 2), (0, 2, 1), (3, 1, 6), (2, 2, 6), (1, 0, 3), (0, 0, 2), (1, 0, 2), (1, 0, 2), (2, 0, 4), (0, 0, 1), (2, 2, 3), (1, 2, 2), (2, 0, 6), (3, 1, 6), (2, 0, 5), (3, 1, 7), (1, 0, 5), (2, 0, 6), (3, 0, 5), (1, 1, 7), (3, 0, 9), (1, 1, 2), (1, 1, 2), (0, 2, 1), (0, 2, 1), (1, 1, 2), (2, 0, 4), (0, 1, 1), (2, 2, 3), (1, 0, 2), (1, 1, 2), (0, 1, 3), (1, 2, 2), (2, 0, 7), (2, 1, 3), (1, 1, 4), (1, 1, 2), (1, 1, 10), (0, 0, 2), (1, 1, 2), (1, 1, 2), (1, 1, 4), (3, 1, 7), (0, 2, 1), (2, 0, 5), (0, 0, 3), (1, 0, 4), (0, 0, 4), (2, 0, 4), (2, 0, 4), (0, 0, 2), (2, 1, 3), (1, 1, 2), (2, 1, 3), (1, 1, 2), (2, 1, 3), (2, 1, 3), (1, 1, 2), (0, 1, 3), (2, 1, 3), (1, 1, 2), (1, 1, 2), (1, 0, 2), (1, 1, 2), (0, 2, 2), (2, 2, 3), (1, 0, 2), (2, 1, 4), (2, 2, 6), (1, 1, 4), (2, 1, 3), (1, 1, 5), (1, 1, 5), (1, 2, 3), (1, 2, 4), (2, 1, 3), (3, 0, 8), (0, 2, 2), (3, 3, 9), (2, 3, 3), (2, 0, 3), (4, 1, 10), (3, 1, 4), (2, 1, 3), (1, 1, 4), (1, 1, 2), (2, 1, 3), (0, 1, 1), (2, 1, 4), (4, 2, 5), (1, 2, 2), (1, 0, 3), (0, 1, 4), (1, 0, 3), (1, 0, 4), (0, 1, 5), (3, 1, 4), (3, 1, 5), (2, 1, 4), (1, 1, 3), (1, 1, 2), (2, 1, 3), (3, 1, 4), (1, 0, 2), (0, 1, 3), (3, 3, 4), (2, 3, 3), (2, 1, 5), (2, 1, 4), (2, 2, 3), (2, 2, 3), (2, 1, 3), (1, 0, 3), (3, 1, 8), (1, 0, 2), (1, 1, 3), (1, 1, 6), (2, 1, 4), (0, 1, 2), (2, 1, 3), (2, 1, 3), (2, 1, 3), (1, 1, 2), (0, 1, 3), (2, 1, 3), (1, 2, 3), (2, 2, 5), (3, 2, 5), (1, 0, 6), (0, 0, 3), (1, 1, 3), (1, 0, 2), (0, 0, 2), (0, 0, 1), (0, 2, 3), (2, 0, 6), (0, 0, 2), (1, 0, 5), (3, 1, 6), (2, 1, 3), (0, 1, 2), (1, 1, 2), (0, 1, 3), (1, 2, 3), (3, 1, 5), (0, 0, 3), (0, 0, 5), (1, 1, 4), (3, 3, 7), (2, 3, 3), (0, 2, 1), (0, 1, 1), (3, 1, 4), (0, 1, 3), (0, 0, 4), (2, 1, 3), (1, 1, 2), (3, 1, 4), (2, 1, 4), (1, 2, 4), (0, 1, 5), (0, 1, 3), (0, 0, 5), (1, 1, 4), (1, 1, 2), (1, 1, 2), (2, 1, 4), (1, 2, 4), (1, 1, 6), (3, 1, 6), (2, 1, 4), (2, 1, 3), (1, 1, 2), (0, 1, 3), (1, 2, 4), (1, 1, 3), (1, 2, 4), (2, 1, 4), (2, 1, 3), (2, 1, 3), (1, 2, 4), (1, 2, 4), (1, 2, 4), (1, 2, 4), (1, 2, 4), (1, 2, 4), (1, 2, 4), (1, 2, 4), (1, 2, 4), (1, 2, 4), (1, 2, 4), (1, 2, 4), (1, 2, 4), (1, 2, 4), (1, 2, 4), (1, 2, 4), (1, 2, 4), (0, 2, 1), (0, 2, 2), (0, 1, 3)]
noncomputable def fx_IL : List Bool := [false, true, false, true, true, true, true, true, true, true, true, true, true, true, true, true, true, true, true, false, false, false, true, true, true, true, true, true, false, false, false, false, false, true, true, true, true, false, true, true, true, true, false, false, false, true, true, true, true, false, true, false, false, true, false, false, true, false, false, false, false, false, false, true, true, false, false, false, false, false, true, true, false, true, false, false, false, false, false, false, false, false, true, false, false, false, false, false, false, false, false, false, false, true, false, false, false, false, false, false, false, true, false, true, false, false, false, false, true, true, false, true, false, false, true, true, false, true, false, false, true, false, true, true, true, false, true, true, false, false, false, false, false, true, false, false, false, false, false, false, false, false, false, false, false, false, false, false, false, false, false, false, false, true, true, true, true, true, true, false, true, false, true, false, true, false, true, false, true, false, false, true, true, false, false, false, false, false, false, false, false, false, false, true, true, true, true, true, true, true, false, true, true, false, false, true, false, true, false, false, false, false, true, false, false, false, false, true, false, false, false, false, false, false, true, true, true, true, false, true, false, false, true, false, false, false, false, false, true, true, false, true, true, true, true, false, false, true, true, true, false, false, true, true, false, false, false, true, false, false, true, true, true, true, true, false, true, false, false, false, false, false, true, false, false, false, false, false, false, false, false, false, true, true, false, false, true, false, false, false, false, true, false, false, true, false, false, true, true, true, false, false, false, false, false, false, true, true, false, false, false, false, false, true, true, false, false, false, false, true, true, true, false, false, false, false, false, false, false, false, false, false, false, false, false, false, false, false, false, false, false, false]
noncomputable def fx_CV : List Bool := [true, true, true, true, true, true, true, true, true, true, true, true, true, true, true, true, true, true, true, true, true, true, true, true, true, true, true, true, true, true, true, true, true, true, true, true, true, true, true, true, true, true, true, true, true, true, true, true, true, true, true, true, true, true, true, true, true, true, true, true, true, true, true, true, true, true, true, true, true, true, true, true, true, true, true, false, true, true, true, true, true, false, true, true, true, false, true, true, true, true, false, true, false, true, true, true, true, true, true, false, true, true, false, true, false, true, true, true, true, true, true, true, true, true, true, true, true, true, true, true, true, true, true, true, true, true, true, true, true, true, true, true, true, true, true, true, true, false, true, true, true, false, true, true, true, true, true, true, true, true, true, true, true, true, true, true, true, true, true, true, true, true, true, true, true, true, true, true, true, true, true, true, true, true, true, true, true, true, true, true, true, true, false, true, true, true, true, true, true, true, true, true, true, true, true, true, true, true, true, true, true, true, true, true, true, true, true, true, true, true, true, true, true, true, true, true, true, true, true, true, true, true, true, true, true, true, true, true, true, true, true, true, true, true, true, true, true, true, true, true, true, true, true, true, true, true, true, true, true, true, true, true, true, true, true, true, true, true, true, true, true, true, true, true, true, false, true, true, true, true, true, true, true, true, true, true, true, true, true, true, true, true, true, true, true, true, true, true, true, true, true, true, true, true, true, true, true, true, true, true, true, true, true, true, true, true, true, true, true, true, true, true, true, true, true, true, true, true, true, true, true, true, true, true, true, true, true, true, true, true, true, true]
noncomputable def fx_AP : List (List (List ax_I)) := [axm_0, axm_1, axm_2, axm_3, axm_4, axm_5, axm_6, axm_7, axm_8, axm_9, axm_10, axm_11, axm_12, axm_13, axm_14, axm_15, axm_16, axm_17, axm_18, axm_19, axm_20, axm_21, axm_22, axm_23, axm_24, axm_25, axm_26, axm_27, axm_28, axm_29, axm_30, axm_31, axm_32, axm_33, axm_34, axm_35, axm_36, axm_37, axm_38, axm_39, axm_40, axm_41, axm_42, axm_43, axm_44, axm_45, axm_46, axm_47, axm_48, axm_49, axm_50, axm_51, axm_52, axm_53, axm_54, axm_55, axm_56, axm_57, axm_58, axm_59, axm_60, axm_61, axm_62, axm_63, axm_64, axm_65, axm_66, axm_67, axm_68, axm_69, axm_70, axm_71, axm_72, axm_73, axm_74, axm_75, axm_76, axm_77, axm_78, axm_79, axm_80, axm_81, axm_82, axm_83, axm_84, axm_85, axm_86, axm_87, axm_88, axm_89, axm_90, axm_91, axm_92, axm_93, axm_94, axm_95, axm_96, axm_97, axm_98, axm_99, axm_100, axm_101, axm_102, axm_103, axm_104, axm_105, axm_106, axm_107, axm_108, axm_109, axm_110, axm_111, axm_112, axm_113, axm_114, axm_115, axm_116, axm_117, axm_118, axm_119, axm_120, axm_121, axm_122, axm_123, axm_124, axm_125, axm_126, axm_127, axm_128, axm_129, axm_130, axm_131, axm_132, axm_133, axm_134, axm_135, axm_136, axm_137, axm_138, axm_139, axm_140, axm_141, axm_142, axm_143, axm_144, axm_145, axm_146, axm_147, axm_148, axm_149, axm_150, axm_151, axm_152, axm_153, axm_154, axm_155, axm_156, axm_157, axm_158, axm_159, axm_160, axm_161, axm_162, axm_163, axm_164, axm_165, axm_166, axm_167, axm_168, axm_169, axm_170, axm_171, axm_172, axm_173, axm_174, axm_175, axm_176, axm_177, axm_178, axm_179, axm_180, axm_181, axm_182, axm_183, axm_184, axm_185, axm_186, axm_187, axm_188, axm_189, axm_190, axm_191, axm_192, axm_193, axm_194, axm_195, axm_196, axm_197, axm_198, axm_199, axm_200, axm_201, axm_202, axm_203, axm_204, axm_205, axm_206, axm_207, axm_208, axm_209, axm_210, axm_211, axm_212, axm_213, axm_214, axm_215, axm_216, axm_217, axm_218, axm_219, axm_220, axm_221, axm_222, axm_223, axm_224, axm_225, axm_226, axm_227, axm_228, axm_229, axm_230, axm_231, axm_232, axm_233, axm_234, axm_235, axm_236, axm_237, axm_238, axm_239, axm_240, axm_241, axm_242, axm_243, axm_244, axm_245, axm_246, axm_247, axm_248, axm_249, axm_250, axm_251, axm_252, axm_253, axm_254, axm_255, axm_256, axm_257, axm_258, axm_259, axm_260, axm_261, axm_262, axm_263, axm_264, axm_265, axm_266, axm_267, axm_268, axm_269, axm_270, axm_271, axm_272, axm_273, axm_274, axm_275, axm_276, axm_277, axm_278, axm_279, axm_280, axm_281, axm_282, axm_283, axm_284, axm_285, axm_286, axm_287, axm_288, axm_289, axm_290, axm_291, axm_292, axm_293, axm_294, axm_295, axm_296, axm_297, axm_298, axm_299, axm_300, axm_301, axm_302, axm_303, axm_304, axm_305, axm_306, axm_307, axm_308, axm_309, axm_310, axm_311, axm_312, axm_313, axm_314, axm_315, axm_316, axm_317, axm_318, axm_319, axm_320, axm_321, axm_322, axm_323, axm_324, axm_325, axm_326, axm_327, axm_328, axm_329, axm_330, axm_331]
noncomputable abbrev fx_K : rx_K := (rx_DF, rx_FK)
noncomputable def Rn (n i pc : Nat) (lv st : List fx_V) (F : fx_F) (v : fx_V) (F' : fx_F) : Prop := fx_R fx_w fx_FZ rx_P fx_K n i pc lv st F v F'
noncomputable def Cl : fx_C := fx_E fx_w fx_FZ rx_P fx_K fx_SG
abbrev k_Gr_hasSpace : Nat := 0
abbrev k_Gr_hopsOf : Nat := 1
abbrev k_Gr_useRow : Nat := 2
abbrev k_Hi_clear : Nat := 3
abbrev k_Hi_exchange : Nat := 4
abbrev k_Hi_slotOf : Nat := 5
abbrev k_Net_addCode : Nat := 6
abbrev k_Net_addLink : Nat := 7
abbrev k_Net_allLinks : Nat := 8
abbrev k_Net_channels : Nat := 9
abbrev k_Net_clear : Nat := 10
abbrev k_Net_hasLink : Nat := 11
abbrev k_Net_hasSwitch : Nat := 12
abbrev k_Net_isUp : Nat := 13
abbrev k_Net_upEnd : Nat := 14
abbrev k_Or_combine : Nat := 15
abbrev k_Or_isAbove : Nat := 16
abbrev k_Or_leaf : Nat := 17
abbrev k_Pl_linksOf : Nat := 18
abbrev k_Pl_phaseOf : Nat := 19
abbrev k_Rd_append : Nat := 20
abbrev k_Rd_fail : Nat := 21
abbrev k_Ro_entryOf : Nat := 22
abbrev k_Ro_forget : Nat := 23
abbrev k_Ro_hopsOf : Nat := 24
abbrev k_Ro_placeBehind : Nat := 25
abbrev k_Ro_reach : Nat := 26
abbrev k_Ro_stands : Nat := 27
abbrev k_St_begin : Nat := 28
abbrev k_St_countAt : Nat := 29
abbrev k_St_countCameBy : Nat := 30
abbrev k_St_countPackets : Nat := 31
abbrev k_St_freePacket : Nat := 32
abbrev k_St_hasPacket : Nat := 33
abbrev k_St_stands : Nat := 34
abbrev k_Tr_draw : Nat := 35
abbrev k_Tr_startCount : Nat := 36
abbrev k_Tu_lawful : Nat := 37
abbrev k_Tu_leads : Nat := 38
abbrev k_T_end : Nat := 39
abbrev k_T_fault : Nat := 40
abbrev k_M_behind : Nat := 41
abbrev k_M_bindsBy : Nat := 42
abbrev k_M_bringBack : Nat := 43
abbrev k_M_cameBy : Nat := 44
abbrev k_M_clearBank : Nat := 45
abbrev k_M_draw : Nat := 46
abbrev k_M_end : Nat := 47
abbrev k_M_endAt : Nat := 48
abbrev k_M_fail : Nat := 49
abbrev k_M_fault : Nat := 50
abbrev k_M_feed : Nat := 51
abbrev k_M_freePacket : Nat := 52
abbrev k_M_isAbove : Nat := 53
abbrev k_M_isBlank : Nat := 54
abbrev k_M_isDigit : Nat := 55
abbrev k_M_isIn : Nat := 56
abbrev k_M_isLetter : Nat := 57
abbrev k_M_isSame : Nat := 58
abbrev k_M_isSign : Nat := 59
abbrev k_M_isWord : Nat := 60
abbrev k_M_keepAct : Nat := 61
abbrev k_M_lay : Nat := 62
abbrev k_M_linksNow : Nat := 63
abbrev k_M_nodesNow : Nat := 64
abbrev k_M_packetsAt : Nat := 65
abbrev k_M_packetsNow : Nat := 66
abbrev k_M_push : Nat := 67
abbrev k_M_putAside : Nat := 68
abbrev k_M_signAt : Nat := 69
abbrev k_M_stands : Nat := 70
abbrev k_M_stateAt : Nat := 71
abbrev k_M_swapAll : Nat := 72
abbrev k_M_work : Nat := 73
abbrev k_I_bitCount : Nat := 74
abbrev k_Gr_init : Nat := 75
abbrev k_Gr_findRow : Nat := 76
abbrev k_Gr_pairsWithout : Nat := 77
abbrev k_Gr_spread : Nat := 78
abbrev k_Hi_stepBack : Nat := 79
abbrev k_Hi_stepOn : Nat := 80
abbrev k_Net_init : Nat := 81
abbrev k_Net_hasChannel : Nat := 82
abbrev k_Net_joins : Nat := 83
abbrev k_Net_listChannels : Nat := 84
abbrev k_Or_init : Nat := 85
abbrev k_Or_countAbove : Nat := 86
abbrev k_Or_countLinks : Nat := 87
abbrev k_Or_evaluate : Nat := 88
abbrev k_Or_upEnds : Nat := 89
abbrev k_Pl_init : Nat := 90
abbrev k_Rd_advance : Nat := 91
abbrev k_Ro_init : Nat := 92
abbrev k_Ro_entryBehind : Nat := 93
abbrev k_Ro_growLevel : Nat := 94
abbrev k_Ro_heaviestChannel : Nat := 95
abbrev k_Ro_hopsTogether : Nat := 96
abbrev k_Ro_leadsOn : Nat := 97
abbrev k_Ro_pairsWithout : Nat := 98
abbrev k_St_init : Nat := 99
abbrev k_St_copyFrom : Nat := 100
abbrev k_St_put : Nat := 101
abbrev k_Tr_init : Nat := 102
abbrev k_Tr_nextChannel : Nat := 103
abbrev k_Tu_init : Nat := 104
abbrev k_Tu_haveRing : Nat := 105
abbrev k_Tu_ontoFrom : Nat := 106
abbrev k_Tu_upChannels : Nat := 107
abbrev k_T_about : Nat := 108
abbrev k_T_feed : Nat := 109
abbrev k_T_hopsWhereWays : Nat := 110
abbrev k_T_link : Nat := 111
abbrev k_M_aboveOf : Nat := 112
abbrev k_M_back : Nat := 113
abbrev k_M_channels : Nat := 114
abbrev k_M_endOf : Nat := 115
abbrev k_M_flips : Nat := 116
abbrev k_M_goSend : Nat := 117
abbrev k_M_image : Nat := 118
abbrev k_M_isAt : Nat := 119
abbrev k_M_isChannel : Nat := 120
abbrev k_M_isJoined : Nat := 121
abbrev k_M_isLink : Nat := 122
abbrev k_M_isNode : Nat := 123
abbrev k_M_isPacket : Nat := 124
abbrev k_M_layOpen : Nat := 125
abbrev k_M_lengthTo : Nat := 126
abbrev k_M_redo : Nat := 127
abbrev k_M_scanNumber : Nat := 128
abbrev k_M_scanWord : Nat := 129
abbrev k_M_standing : Nat := 130
abbrev k_M_takeOver : Nat := 131
abbrev k_M_turnTaken : Nat := 132
abbrev k_M_undo : Nat := 133
abbrev k_Gr_countApart : Nat := 134
abbrev k_Gr_parts : Nat := 135
abbrev k_Gr_see : Nat := 136
abbrev k_Hi_init : Nat := 137
abbrev k_Hi_keep : Nat := 138
abbrev k_Net_copyFrom : Nat := 139
abbrev k_Or_rate : Nat := 140
abbrev k_Rd_init : Nat := 141
abbrev k_Rd_readNumber : Nat := 142
abbrev k_Rd_readSign : Nat := 143
abbrev k_Ro_addOnward : Nat := 144
abbrev k_Ro_channelOnPath : Nat := 145
abbrev k_Ro_countPath : Nat := 146
abbrev k_Ro_leastUsed : Nat := 147
abbrev k_Ro_measure : Nat := 148
abbrev k_Ro_passArriving : Nat := 149
abbrev k_Tr_goOn : Nat := 150
abbrev k_Tu_shortestRing : Nat := 151
abbrev k_Tu_take : Nat := 152
abbrev k_T_back : Nat := 153
abbrev k_T_image : Nat := 154
abbrev k_T_redo : Nat := 155
abbrev k_T_undo : Nat := 156
abbrev k_M_about : Nat := 157
abbrev k_M_addPair : Nat := 158
abbrev k_M_binary : Nat := 159
abbrev k_M_canSend : Nat := 160
abbrev k_M_closeMinus : Nat := 161
abbrev k_M_fromOf : Nat := 162
abbrev k_M_heaviestNow : Nat := 163
abbrev k_M_isStanding : Nat := 164
abbrev k_M_layFar : Nat := 165
abbrev k_M_link : Nat := 166
abbrev k_M_linksOf : Nat := 167
abbrev k_M_mend : Nat := 168
abbrev k_M_roundOf : Nat := 169
abbrev k_M_scan : Nat := 170
abbrev k_M_toOf : Nat := 171
abbrev k_M_turn : Nat := 172
abbrev k_Gr_findPivots : Nat := 173
abbrev k_Pl_takeLinks : Nat := 174
abbrev k_Rd_closeLine : Nat := 175
abbrev k_Ro_countArriving : Nat := 176
abbrev k_Ro_countLoads : Nat := 177
abbrev k_Ro_countOnward : Nat := 178
abbrev k_Ro_fillTable : Nat := 179
abbrev k_Ro_see : Nat := 180
abbrev k_Tr_goStep : Nat := 181
abbrev k_T_init : Nat := 182
abbrev k_T_apart : Nat := 183
abbrev k_T_cut : Nat := 184
abbrev k_T_depends : Nat := 185
abbrev k_T_mend : Nat := 186
abbrev k_T_node : Nat := 187
abbrev k_T_plain : Nat := 188
abbrev k_T_ring : Nat := 189
abbrev k_T_rings : Nat := 190
abbrev k_T_send : Nat := 191
abbrev k_T_turn : Nat := 192
abbrev k_T_upEndsBy : Nat := 193
abbrev k_M_closeOne : Nat := 194
abbrev k_M_cut : Nat := 195
abbrev k_M_hasRing : Nat := 196
abbrev k_M_isUpBy : Nat := 197
abbrev k_M_need : Nat := 198
abbrev k_M_numeral : Nat := 199
abbrev k_M_oneMore : Nat := 200
abbrev k_M_pairsOf : Nat := 201
abbrev k_M_plain : Nat := 202
abbrev k_M_plainPairs : Nat := 203
abbrev k_M_rankOf : Nat := 204
abbrev k_M_readBinary : Nat := 205
abbrev k_M_readUnit : Nat := 206
abbrev k_M_send : Nat := 207
abbrev k_Pl_lay : Nat := 208
abbrev k_Rd_readLink : Nat := 209
abbrev k_Ro_countThrough : Nat := 210
abbrev k_Ro_countWays : Nat := 211
abbrev k_Ro_seeTable : Nat := 212
abbrev k_Tr_play : Nat := 213
abbrev k_T_around : Nat := 214
abbrev k_T_length : Nat := 215
abbrev k_T_orient : Nat := 216
abbrev k_T_pairs : Nat := 217
abbrev k_T_pairsWithoutWay : Nat := 218
abbrev k_T_pivots : Nat := 219
abbrev k_M_apart : Nat := 220
abbrev k_M_isTurn : Nat := 221
abbrev k_M_isUp : Nat := 222
abbrev k_M_layRanks : Nat := 223
abbrev k_M_pivots : Nat := 224
abbrev k_M_readLink : Nat := 225
abbrev k_M_readRule : Nat := 226
abbrev k_T_dearest : Nat := 227
abbrev k_T_entry : Nat := 228
abbrev k_T_game : Nat := 229
abbrev k_T_goSteps : Nat := 230
abbrev k_T_heaviest : Nat := 231
abbrev k_T_load : Nat := 232
abbrev k_T_packet : Nat := 233
abbrev k_T_path : Nat := 234
abbrev k_T_planFor : Nat := 235
abbrev k_T_runEmpty : Nat := 236
abbrev k_T_through : Nat := 237
abbrev k_T_ways : Nat := 238
abbrev k_T_without : Nat := 239
abbrev k_T_worthOf : Nat := 240
abbrev k_M_isLawful : Nat := 241
abbrev k_M_isOpen : Nat := 242
abbrev k_M_node : Nat := 243
abbrev k_M_orientBy : Nat := 244
abbrev k_M_pathAt : Nat := 245
abbrev k_M_readLine : Nat := 246
abbrev k_M_wayOf : Nat := 247
abbrev k_T_best : Nat := 248
abbrev k_T_change : Nat := 249
abbrev k_T_drains : Nat := 250
abbrev k_T_phase : Nat := 251
abbrev k_T_plan : Nat := 252
abbrev k_T_rooted : Nat := 253
abbrev k_T_steps : Nat := 254
abbrev k_T_stuck : Nat := 255
abbrev k_M_depends : Nat := 256
abbrev k_M_goPacket : Nat := 257
abbrev k_M_isEither : Nat := 258
abbrev k_M_isNext : Nat := 259
abbrev k_M_layGoal : Nat := 260
abbrev k_M_layTurns : Nat := 261
abbrev k_M_orient : Nat := 262
abbrev k_M_readAll : Nat := 263
abbrev k_M_startAnew : Nat := 264
abbrev k_M_init : Nat := 265
abbrev k_M_isSafe : Nat := 266
abbrev k_M_layCome : Nat := 267
abbrev k_M_layGoals : Nat := 268
abbrev k_M_layOnward : Nat := 269
abbrev k_M_leastUsed : Nat := 270
abbrev k_M_length : Nat := 271
abbrev k_M_net : Nat := 272
abbrev k_M_ring : Nat := 273
abbrev k_M_rings : Nat := 274
abbrev k_Rd_isWord : Nat := 275
abbrev k_M_around : Nat := 276
abbrev k_M_layPairs : Nat := 277
abbrev k_M_layTable : Nat := 278
abbrev k_M_takePhase : Nat := 279
abbrev k_M_through : Nat := 280
abbrev k_M_ways : Nat := 281
abbrev k_Rd_readSwitches : Nat := 282
abbrev k_Rd_unitKind : Nat := 283
abbrev k_M_entry : Nat := 284
abbrev k_M_goStep : Nat := 285
abbrev k_M_layLoads : Nat := 286
abbrev k_M_packet : Nat := 287
abbrev k_M_pairs : Nat := 288
abbrev k_M_path : Nat := 289
abbrev k_M_without : Nat := 290
abbrev k_Rd_readUnit6 : Nat := 291
abbrev k_M_dearest : Nat := 292
abbrev k_M_drains : Nat := 293
abbrev k_M_gameOnce : Nat := 294
abbrev k_M_goSteps : Nat := 295
abbrev k_M_heaviest : Nat := 296
abbrev k_M_load : Nat := 297
abbrev k_M_rootedBy : Nat := 298
abbrev k_Rd_readProduct6 : Nat := 299
abbrev k_M_best : Nat := 300
abbrev k_M_game : Nat := 301
abbrev k_M_goPhases : Nat := 302
abbrev k_M_rooted : Nat := 303
abbrev k_M_steps : Nat := 304
abbrev k_M_stuck : Nat := 305
abbrev k_Rd_readSum6 : Nat := 306
abbrev k_M_planFor : Nat := 307
abbrev k_Rd_readUnit5 : Nat := 308
abbrev k_M_change : Nat := 309
abbrev k_M_phase : Nat := 310
abbrev k_M_plan : Nat := 311
abbrev k_Rd_readProduct5 : Nat := 312
abbrev k_Rd_readSum5 : Nat := 313
abbrev k_Rd_readUnit4 : Nat := 314
abbrev k_Rd_readProduct4 : Nat := 315
abbrev k_Rd_readSum4 : Nat := 316
abbrev k_Rd_readUnit3 : Nat := 317
abbrev k_Rd_readProduct3 : Nat := 318
abbrev k_Rd_readSum3 : Nat := 319
abbrev k_Rd_readUnit2 : Nat := 320
abbrev k_Rd_readProduct2 : Nat := 321
abbrev k_Rd_readSum2 : Nat := 322
abbrev k_Rd_readUnit1 : Nat := 323
abbrev k_Rd_readProduct1 : Nat := 324
abbrev k_Rd_readSum1 : Nat := 325
abbrev k_Rd_readUnit0 : Nat := 326
abbrev k_Rd_readProduct0 : Nat := 327
abbrev k_Rd_readSum0 : Nat := 328
abbrev k_Rd_readLine : Nat := 329
abbrev k_Rd_readText : Nat := 330
abbrev k_T_net : Nat := 331
theorem cv_0 : rx_nth fx_CV 0 = some true := by decide +kernel
theorem ap_0 : rx_nth fx_AP 0 = some axm_0 := rfl
theorem sg_0 : rx_nth fx_SG 0 = some (2, 2, 5) := rfl
theorem cv_1 : rx_nth fx_CV 1 = some true := by decide +kernel
theorem ap_1 : rx_nth fx_AP 1 = some axm_1 := rfl
theorem sg_1 : rx_nth fx_SG 1 = some (2, 1, 3) := rfl
theorem cv_2 : rx_nth fx_CV 2 = some true := by decide +kernel
theorem ap_2 : rx_nth fx_AP 2 = some axm_2 := rfl
theorem sg_2 : rx_nth fx_SG 2 = some (2, 0, 6) := rfl
theorem cv_3 : rx_nth fx_CV 3 = some true := by decide +kernel
theorem ap_3 : rx_nth fx_AP 3 = some axm_3 := rfl
theorem sg_3 : rx_nth fx_SG 3 = some (0, 0, 1) := rfl
theorem cv_4 : rx_nth fx_CV 4 = some true := by decide +kernel
theorem ap_4 : rx_nth fx_AP 4 = some axm_4 := rfl
theorem sg_4 : rx_nth fx_SG 4 = some (2, 4, 4) := rfl
theorem cv_5 : rx_nth fx_CV 5 = some true := by decide +kernel
theorem ap_5 : rx_nth fx_AP 5 = some axm_5 := rfl
theorem sg_5 : rx_nth fx_SG 5 = some (1, 1, 2) := rfl
theorem cv_6 : rx_nth fx_CV 6 = some true := by decide +kernel
theorem ap_6 : rx_nth fx_AP 6 = some axm_6 := rfl
theorem sg_6 : rx_nth fx_SG 6 = some (2, 0, 3) := rfl
theorem cv_7 : rx_nth fx_CV 7 = some true := by decide +kernel
theorem ap_7 : rx_nth fx_AP 7 = some axm_7 := rfl
theorem sg_7 : rx_nth fx_SG 7 = some (2, 0, 4) := rfl
theorem cv_8 : rx_nth fx_CV 8 = some true := by decide +kernel
theorem ap_8 : rx_nth fx_AP 8 = some axm_8 := rfl
theorem sg_8 : rx_nth fx_SG 8 = some (0, 1, 1) := rfl
theorem cv_9 : rx_nth fx_CV 9 = some true := by decide +kernel
theorem ap_9 : rx_nth fx_AP 9 = some axm_9 := rfl
theorem sg_9 : rx_nth fx_SG 9 = some (0, 1, 1) := rfl
theorem cv_10 : rx_nth fx_CV 10 = some true := by decide +kernel
theorem ap_10 : rx_nth fx_AP 10 = some axm_10 := rfl
theorem sg_10 : rx_nth fx_SG 10 = some (0, 0, 1) := rfl
theorem cv_11 : rx_nth fx_CV 11 = some true := by decide +kernel
theorem ap_11 : rx_nth fx_AP 11 = some axm_11 := rfl
theorem sg_11 : rx_nth fx_SG 11 = some (1, 2, 2) := rfl
theorem cv_12 : rx_nth fx_CV 12 = some true := by decide +kernel
theorem ap_12 : rx_nth fx_AP 12 = some axm_12 := rfl
theorem sg_12 : rx_nth fx_SG 12 = some (1, 2, 2) := rfl
theorem cv_13 : rx_nth fx_CV 13 = some true := by decide +kernel
theorem ap_13 : rx_nth fx_AP 13 = some axm_13 := rfl
theorem sg_13 : rx_nth fx_SG 13 = some (2, 2, 2) := rfl
theorem cv_14 : rx_nth fx_CV 14 = some true := by decide +kernel
theorem ap_14 : rx_nth fx_AP 14 = some axm_14 := rfl
theorem sg_14 : rx_nth fx_SG 14 = some (2, 1, 3) := rfl
theorem cv_15 : rx_nth fx_CV 15 = some true := by decide +kernel
theorem ap_15 : rx_nth fx_AP 15 = some axm_15 := rfl
theorem sg_15 : rx_nth fx_SG 15 = some (3, 1, 3) := rfl
theorem cv_16 : rx_nth fx_CV 16 = some true := by decide +kernel
theorem ap_16 : rx_nth fx_AP 16 = some axm_16 := rfl
theorem sg_16 : rx_nth fx_SG 16 = some (2, 2, 3) := rfl
theorem cv_17 : rx_nth fx_CV 17 = some true := by decide +kernel
theorem ap_17 : rx_nth fx_AP 17 = some axm_17 := rfl
theorem sg_17 : rx_nth fx_SG 17 = some (3, 1, 4) := rfl
theorem cv_18 : rx_nth fx_CV 18 = some true := by decide +kernel
theorem ap_18 : rx_nth fx_AP 18 = some axm_18 := rfl
theorem sg_18 : rx_nth fx_SG 18 = some (1, 1, 2) := rfl
theorem cv_19 : rx_nth fx_CV 19 = some true := by decide +kernel
theorem ap_19 : rx_nth fx_AP 19 = some axm_19 := rfl
theorem sg_19 : rx_nth fx_SG 19 = some (1, 1, 3) := rfl
theorem cv_20 : rx_nth fx_CV 20 = some true := by decide +kernel
theorem ap_20 : rx_nth fx_AP 20 = some axm_20 := rfl
theorem sg_20 : rx_nth fx_SG 20 = some (1, 0, 3) := rfl
theorem cv_21 : rx_nth fx_CV 21 = some true := by decide +kernel
theorem ap_21 : rx_nth fx_AP 21 = some axm_21 := rfl
theorem sg_21 : rx_nth fx_SG 21 = some (1, 2, 2) := rfl
theorem cv_22 : rx_nth fx_CV 22 = some true := by decide +kernel
theorem ap_22 : rx_nth fx_AP 22 = some axm_22 := rfl
theorem sg_22 : rx_nth fx_SG 22 = some (3, 1, 4) := rfl
theorem cv_23 : rx_nth fx_CV 23 = some true := by decide +kernel
theorem ap_23 : rx_nth fx_AP 23 = some axm_23 := rfl
theorem sg_23 : rx_nth fx_SG 23 = some (0, 0, 1) := rfl
theorem cv_24 : rx_nth fx_CV 24 = some true := by decide +kernel
theorem ap_24 : rx_nth fx_AP 24 = some axm_24 := rfl
theorem sg_24 : rx_nth fx_SG 24 = some (2, 1, 3) := rfl
theorem cv_25 : rx_nth fx_CV 25 = some true := by decide +kernel
theorem ap_25 : rx_nth fx_AP 25 = some axm_25 := rfl
theorem sg_25 : rx_nth fx_SG 25 = some (1, 1, 2) := rfl
theorem cv_26 : rx_nth fx_CV 26 = some true := by decide +kernel
theorem ap_26 : rx_nth fx_AP 26 = some axm_26 := rfl
theorem sg_26 : rx_nth fx_SG 26 = some (3, 2, 4) := rfl
theorem cv_27 : rx_nth fx_CV 27 = some true := by decide +kernel
theorem ap_27 : rx_nth fx_AP 27 = some axm_27 := rfl
theorem sg_27 : rx_nth fx_SG 27 = some (1, 2, 2) := rfl
theorem cv_28 : rx_nth fx_CV 28 = some true := by decide +kernel
theorem ap_28 : rx_nth fx_AP 28 = some axm_28 := rfl
theorem sg_28 : rx_nth fx_SG 28 = some (3, 0, 5) := rfl
theorem cv_29 : rx_nth fx_CV 29 = some true := by decide +kernel
theorem ap_29 : rx_nth fx_AP 29 = some axm_29 := rfl
theorem sg_29 : rx_nth fx_SG 29 = some (1, 1, 4) := rfl
theorem cv_30 : rx_nth fx_CV 30 = some true := by decide +kernel
theorem ap_30 : rx_nth fx_AP 30 = some axm_30 := rfl
theorem sg_30 : rx_nth fx_SG 30 = some (1, 1, 4) := rfl
theorem cv_31 : rx_nth fx_CV 31 = some true := by decide +kernel
theorem ap_31 : rx_nth fx_AP 31 = some axm_31 := rfl
theorem sg_31 : rx_nth fx_SG 31 = some (0, 1, 3) := rfl
theorem cv_32 : rx_nth fx_CV 32 = some true := by decide +kernel
theorem ap_32 : rx_nth fx_AP 32 = some axm_32 := rfl
theorem sg_32 : rx_nth fx_SG 32 = some (0, 1, 2) := rfl
theorem cv_33 : rx_nth fx_CV 33 = some true := by decide +kernel
theorem ap_33 : rx_nth fx_AP 33 = some axm_33 := rfl
theorem sg_33 : rx_nth fx_SG 33 = some (1, 2, 2) := rfl
theorem cv_34 : rx_nth fx_CV 34 = some true := by decide +kernel
theorem ap_34 : rx_nth fx_AP 34 = some axm_34 := rfl
theorem sg_34 : rx_nth fx_SG 34 = some (1, 2, 2) := rfl
theorem cv_35 : rx_nth fx_CV 35 = some true := by decide +kernel
theorem ap_35 : rx_nth fx_AP 35 = some axm_35 := rfl
theorem sg_35 : rx_nth fx_SG 35 = some (1, 1, 1) := rfl
theorem cv_36 : rx_nth fx_CV 36 = some true := by decide +kernel
theorem ap_36 : rx_nth fx_AP 36 = some axm_36 := rfl
theorem sg_36 : rx_nth fx_SG 36 = some (0, 0, 1) := rfl
theorem cv_37 : rx_nth fx_CV 37 = some true := by decide +kernel
theorem ap_37 : rx_nth fx_AP 37 = some axm_37 := rfl
theorem sg_37 : rx_nth fx_SG 37 = some (2, 3, 6) := rfl
theorem cv_38 : rx_nth fx_CV 38 = some true := by decide +kernel
theorem ap_38 : rx_nth fx_AP 38 = some axm_38 := rfl
theorem sg_38 : rx_nth fx_SG 38 = some (2, 2, 3) := rfl
theorem cv_39 : rx_nth fx_CV 39 = some true := by decide +kernel
theorem ap_39 : rx_nth fx_AP 39 = some axm_39 := rfl
theorem sg_39 : rx_nth fx_SG 39 = some (1, 1, 2) := rfl
theorem cv_40 : rx_nth fx_CV 40 = some true := by decide +kernel
theorem ap_40 : rx_nth fx_AP 40 = some axm_40 := rfl
theorem sg_40 : rx_nth fx_SG 40 = some (1, 1, 2) := rfl
theorem cv_41 : rx_nth fx_CV 41 = some true := by decide +kernel
theorem ap_41 : rx_nth fx_AP 41 = some axm_41 := rfl
theorem sg_41 : rx_nth fx_SG 41 = some (2, 1, 2) := rfl
theorem cv_42 : rx_nth fx_CV 42 = some true := by decide +kernel
theorem ap_42 : rx_nth fx_AP 42 = some axm_42 := rfl
theorem sg_42 : rx_nth fx_SG 42 = some (1, 1, 1) := rfl
theorem cv_43 : rx_nth fx_CV 43 = some true := by decide +kernel
theorem ap_43 : rx_nth fx_AP 43 = some axm_43 := rfl
theorem sg_43 : rx_nth fx_SG 43 = some (0, 0, 2) := rfl
theorem cv_44 : rx_nth fx_CV 44 = some true := by decide +kernel
theorem ap_44 : rx_nth fx_AP 44 = some axm_44 := rfl
theorem sg_44 : rx_nth fx_SG 44 = some (1, 1, 4) := rfl
theorem cv_45 : rx_nth fx_CV 45 = some true := by decide +kernel
theorem ap_45 : rx_nth fx_AP 45 = some axm_45 := rfl
theorem sg_45 : rx_nth fx_SG 45 = some (1, 0, 2) := rfl
theorem cv_46 : rx_nth fx_CV 46 = some true := by decide +kernel
theorem ap_46 : rx_nth fx_AP 46 = some axm_46 := rfl
theorem sg_46 : rx_nth fx_SG 46 = some (0, 1, 1) := rfl
theorem cv_47 : rx_nth fx_CV 47 = some true := by decide +kernel
theorem ap_47 : rx_nth fx_AP 47 = some axm_47 := rfl
theorem sg_47 : rx_nth fx_SG 47 = some (1, 1, 2) := rfl
theorem cv_48 : rx_nth fx_CV 48 = some true := by decide +kernel
theorem ap_48 : rx_nth fx_AP 48 = some axm_48 := rfl
theorem sg_48 : rx_nth fx_SG 48 = some (3, 1, 3) := rfl
theorem cv_49 : rx_nth fx_CV 49 = some true := by decide +kernel
theorem ap_49 : rx_nth fx_AP 49 = some axm_49 := rfl
theorem sg_49 : rx_nth fx_SG 49 = some (1, 0, 2) := rfl
theorem cv_50 : rx_nth fx_CV 50 = some true := by decide +kernel
theorem ap_50 : rx_nth fx_AP 50 = some axm_50 := rfl
theorem sg_50 : rx_nth fx_SG 50 = some (1, 1, 2) := rfl
theorem cv_51 : rx_nth fx_CV 51 = some true := by decide +kernel
theorem ap_51 : rx_nth fx_AP 51 = some axm_51 := rfl
theorem sg_51 : rx_nth fx_SG 51 = some (5, 1, 8) := rfl
theorem cv_52 : rx_nth fx_CV 52 = some true := by decide +kernel
theorem ap_52 : rx_nth fx_AP 52 = some axm_52 := rfl
theorem sg_52 : rx_nth fx_SG 52 = some (0, 1, 2) := rfl
theorem cv_53 : rx_nth fx_CV 53 = some true := by decide +kernel
theorem ap_53 : rx_nth fx_AP 53 = some axm_53 := rfl
theorem sg_53 : rx_nth fx_SG 53 = some (2, 2, 3) := rfl
theorem cv_54 : rx_nth fx_CV 54 = some true := by decide +kernel
theorem ap_54 : rx_nth fx_AP 54 = some axm_54 := rfl
theorem sg_54 : rx_nth fx_SG 54 = some (1, 2, 2) := rfl
theorem cv_55 : rx_nth fx_CV 55 = some true := by decide +kernel
theorem ap_55 : rx_nth fx_AP 55 = some axm_55 := rfl
theorem sg_55 : rx_nth fx_SG 55 = some (1, 2, 1) := rfl
theorem cv_56 : rx_nth fx_CV 56 = some true := by decide +kernel
theorem ap_56 : rx_nth fx_AP 56 = some axm_56 := rfl
theorem sg_56 : rx_nth fx_SG 56 = some (3, 2, 3) := rfl
theorem cv_57 : rx_nth fx_CV 57 = some true := by decide +kernel
theorem ap_57 : rx_nth fx_AP 57 = some axm_57 := rfl
theorem sg_57 : rx_nth fx_SG 57 = some (1, 2, 1) := rfl
theorem cv_58 : rx_nth fx_CV 58 = some true := by decide +kernel
theorem ap_58 : rx_nth fx_AP 58 = some axm_58 := rfl
theorem sg_58 : rx_nth fx_SG 58 = some (2, 2, 4) := rfl
theorem cv_59 : rx_nth fx_CV 59 = some true := by decide +kernel
theorem ap_59 : rx_nth fx_AP 59 = some axm_59 := rfl
theorem sg_59 : rx_nth fx_SG 59 = some (1, 2, 1) := rfl
theorem cv_60 : rx_nth fx_CV 60 = some true := by decide +kernel
theorem ap_60 : rx_nth fx_AP 60 = some axm_60 := rfl
theorem sg_60 : rx_nth fx_SG 60 = some (1, 2, 2) := rfl
theorem cv_61 : rx_nth fx_CV 61 = some true := by decide +kernel
theorem ap_61 : rx_nth fx_AP 61 = some axm_61 := rfl
theorem sg_61 : rx_nth fx_SG 61 = some (0, 0, 2) := rfl
theorem cv_62 : rx_nth fx_CV 62 = some true := by decide +kernel
theorem ap_62 : rx_nth fx_AP 62 = some axm_62 := rfl
theorem sg_62 : rx_nth fx_SG 62 = some (2, 0, 3) := rfl
theorem cv_63 : rx_nth fx_CV 63 = some true := by decide +kernel
theorem ap_63 : rx_nth fx_AP 63 = some axm_63 := rfl
theorem sg_63 : rx_nth fx_SG 63 = some (0, 1, 1) := rfl
theorem cv_64 : rx_nth fx_CV 64 = some true := by decide +kernel
theorem ap_64 : rx_nth fx_AP 64 = some axm_64 := rfl
theorem sg_64 : rx_nth fx_SG 64 = some (0, 1, 1) := rfl
theorem cv_65 : rx_nth fx_CV 65 = some true := by decide +kernel
theorem ap_65 : rx_nth fx_AP 65 = some axm_65 := rfl
theorem sg_65 : rx_nth fx_SG 65 = some (1, 1, 4) := rfl
theorem cv_66 : rx_nth fx_CV 66 = some true := by decide +kernel
theorem ap_66 : rx_nth fx_AP 66 = some axm_66 := rfl
theorem sg_66 : rx_nth fx_SG 66 = some (0, 1, 3) := rfl
theorem cv_67 : rx_nth fx_CV 67 = some true := by decide +kernel
theorem ap_67 : rx_nth fx_AP 67 = some axm_67 := rfl
theorem sg_67 : rx_nth fx_SG 67 = some (1, 0, 2) := rfl
theorem cv_68 : rx_nth fx_CV 68 = some true := by decide +kernel
theorem ap_68 : rx_nth fx_AP 68 = some axm_68 := rfl
theorem sg_68 : rx_nth fx_SG 68 = some (0, 0, 2) := rfl
theorem cv_69 : rx_nth fx_CV 69 = some true := by decide +kernel
theorem ap_69 : rx_nth fx_AP 69 = some axm_69 := rfl
theorem sg_69 : rx_nth fx_SG 69 = some (1, 1, 2) := rfl
theorem cv_70 : rx_nth fx_CV 70 = some true := by decide +kernel
theorem ap_70 : rx_nth fx_AP 70 = some axm_70 := rfl
theorem sg_70 : rx_nth fx_SG 70 = some (1, 2, 2) := rfl
theorem cv_71 : rx_nth fx_CV 71 = some true := by decide +kernel
theorem ap_71 : rx_nth fx_AP 71 = some axm_71 := rfl
theorem sg_71 : rx_nth fx_SG 71 = some (3, 1, 3) := rfl
theorem cv_72 : rx_nth fx_CV 72 = some true := by decide +kernel
theorem ap_72 : rx_nth fx_AP 72 = some axm_72 := rfl
theorem sg_72 : rx_nth fx_SG 72 = some (0, 0, 3) := rfl
theorem cv_73 : rx_nth fx_CV 73 = some true := by decide +kernel
theorem ap_73 : rx_nth fx_AP 73 = some axm_73 := rfl
theorem sg_73 : rx_nth fx_SG 73 = some (3, 1, 4) := rfl
theorem cv_74 : rx_nth fx_CV 74 = some true := by decide +kernel
theorem ap_74 : rx_nth fx_AP 74 = some axm_74 := rfl
theorem sg_74 : rx_nth fx_SG 74 = some (1, 1, 1) := rfl
theorem cv_76 : rx_nth fx_CV 76 = some true := by decide +kernel
theorem ap_76 : rx_nth fx_AP 76 = some axm_76 := rfl
theorem sg_76 : rx_nth fx_SG 76 = some (3, 2, 9) := rfl
theorem cv_77 : rx_nth fx_CV 77 = some true := by decide +kernel
theorem ap_77 : rx_nth fx_AP 77 = some axm_77 := rfl
theorem sg_77 : rx_nth fx_SG 77 = some (0, 1, 4) := rfl
theorem cv_78 : rx_nth fx_CV 78 = some true := by decide +kernel
theorem ap_78 : rx_nth fx_AP 78 = some axm_78 := rfl
theorem sg_78 : rx_nth fx_SG 78 = some (5, 0, 10) := rfl
theorem cv_79 : rx_nth fx_CV 79 = some true := by decide +kernel
theorem ap_79 : rx_nth fx_AP 79 = some axm_79 := rfl
theorem sg_79 : rx_nth fx_SG 79 = some (1, 4, 2) := rfl
theorem cv_80 : rx_nth fx_CV 80 = some true := by decide +kernel
theorem ap_80 : rx_nth fx_AP 80 = some axm_80 := rfl
theorem sg_80 : rx_nth fx_SG 80 = some (1, 4, 3) := rfl
theorem cv_82 : rx_nth fx_CV 82 = some true := by decide +kernel
theorem ap_82 : rx_nth fx_AP 82 = some axm_82 := rfl
theorem sg_82 : rx_nth fx_SG 82 = some (1, 2, 2) := rfl
theorem cv_83 : rx_nth fx_CV 83 = some true := by decide +kernel
theorem ap_83 : rx_nth fx_AP 83 = some axm_83 := rfl
theorem sg_83 : rx_nth fx_SG 83 = some (2, 2, 4) := rfl
theorem cv_84 : rx_nth fx_CV 84 = some true := by decide +kernel
theorem ap_84 : rx_nth fx_AP 84 = some axm_84 := rfl
theorem sg_84 : rx_nth fx_SG 84 = some (0, 0, 4) := rfl
theorem cv_86 : rx_nth fx_CV 86 = some true := by decide +kernel
theorem ap_86 : rx_nth fx_AP 86 = some axm_86 := rfl
theorem sg_86 : rx_nth fx_SG 86 = some (1, 1, 4) := rfl
theorem cv_87 : rx_nth fx_CV 87 = some true := by decide +kernel
theorem ap_87 : rx_nth fx_AP 87 = some axm_87 := rfl
theorem sg_87 : rx_nth fx_SG 87 = some (1, 0, 3) := rfl
theorem cv_88 : rx_nth fx_CV 88 = some true := by decide +kernel
theorem ap_88 : rx_nth fx_AP 88 = some axm_88 := rfl
theorem sg_88 : rx_nth fx_SG 88 = some (1, 1, 5) := rfl
theorem cv_89 : rx_nth fx_CV 89 = some true := by decide +kernel
theorem ap_89 : rx_nth fx_AP 89 = some axm_89 := rfl
theorem sg_89 : rx_nth fx_SG 89 = some (0, 1, 3) := rfl
theorem cv_91 : rx_nth fx_CV 91 = some true := by decide +kernel
theorem ap_91 : rx_nth fx_AP 91 = some axm_91 := rfl
theorem sg_91 : rx_nth fx_SG 91 = some (0, 0, 3) := rfl
theorem cv_93 : rx_nth fx_CV 93 = some true := by decide +kernel
theorem ap_93 : rx_nth fx_AP 93 = some axm_93 := rfl
theorem sg_93 : rx_nth fx_SG 93 = some (2, 1, 3) := rfl
theorem cv_94 : rx_nth fx_CV 94 = some true := by decide +kernel
theorem ap_94 : rx_nth fx_AP 94 = some axm_94 := rfl
theorem sg_94 : rx_nth fx_SG 94 = some (2, 2, 7) := rfl
theorem cv_95 : rx_nth fx_CV 95 = some true := by decide +kernel
theorem ap_95 : rx_nth fx_AP 95 = some axm_95 := rfl
theorem sg_95 : rx_nth fx_SG 95 = some (0, 1, 3) := rfl
theorem cv_96 : rx_nth fx_CV 96 = some true := by decide +kernel
theorem ap_96 : rx_nth fx_AP 96 = some axm_96 := rfl
theorem sg_96 : rx_nth fx_SG 96 = some (0, 1, 4) := rfl
theorem cv_97 : rx_nth fx_CV 97 = some true := by decide +kernel
theorem ap_97 : rx_nth fx_AP 97 = some axm_97 := rfl
theorem sg_97 : rx_nth fx_SG 97 = some (3, 2, 6) := rfl
theorem cv_98 : rx_nth fx_CV 98 = some true := by decide +kernel
theorem ap_98 : rx_nth fx_AP 98 = some axm_98 := rfl
theorem sg_98 : rx_nth fx_SG 98 = some (0, 1, 4) := rfl
theorem cv_100 : rx_nth fx_CV 100 = some true := by decide +kernel
theorem ap_100 : rx_nth fx_AP 100 = some axm_100 := rfl
theorem sg_100 : rx_nth fx_SG 100 = some (1, 0, 2) := rfl
theorem cv_101 : rx_nth fx_CV 101 = some true := by decide +kernel
theorem ap_101 : rx_nth fx_AP 101 = some axm_101 := rfl
theorem sg_101 : rx_nth fx_SG 101 = some (2, 1, 4) := rfl
theorem cv_103 : rx_nth fx_CV 103 = some true := by decide +kernel
theorem ap_103 : rx_nth fx_AP 103 = some axm_103 := rfl
theorem sg_103 : rx_nth fx_SG 103 = some (3, 1, 6) := rfl
theorem cv_105 : rx_nth fx_CV 105 = some true := by decide +kernel
theorem ap_105 : rx_nth fx_AP 105 = some axm_105 := rfl
theorem sg_105 : rx_nth fx_SG 105 = some (0, 2, 6) := rfl
theorem cv_106 : rx_nth fx_CV 106 = some true := by decide +kernel
theorem ap_106 : rx_nth fx_AP 106 = some axm_106 := rfl
theorem sg_106 : rx_nth fx_SG 106 = some (1, 3, 6) := rfl
theorem cv_107 : rx_nth fx_CV 107 = some true := by decide +kernel
theorem ap_107 : rx_nth fx_AP 107 = some axm_107 := rfl
theorem sg_107 : rx_nth fx_SG 107 = some (1, 3, 5) := rfl
theorem cv_108 : rx_nth fx_CV 108 = some true := by decide +kernel
theorem ap_108 : rx_nth fx_AP 108 = some axm_108 := rfl
theorem sg_108 : rx_nth fx_SG 108 = some (1, 1, 2) := rfl
theorem cv_109 : rx_nth fx_CV 109 = some true := by decide +kernel
theorem ap_109 : rx_nth fx_AP 109 = some axm_109 := rfl
theorem sg_109 : rx_nth fx_SG 109 = some (5, 1, 6) := rfl
theorem cv_110 : rx_nth fx_CV 110 = some true := by decide +kernel
theorem ap_110 : rx_nth fx_AP 110 = some axm_110 := rfl
theorem sg_110 : rx_nth fx_SG 110 = some (0, 1, 4) := rfl
theorem cv_111 : rx_nth fx_CV 111 = some true := by decide +kernel
theorem ap_111 : rx_nth fx_AP 111 = some axm_111 := rfl
theorem sg_111 : rx_nth fx_SG 111 = some (2, 1, 3) := rfl
theorem cv_112 : rx_nth fx_CV 112 = some true := by decide +kernel
theorem ap_112 : rx_nth fx_AP 112 = some axm_112 := rfl
theorem sg_112 : rx_nth fx_SG 112 = some (1, 1, 4) := rfl
theorem cv_113 : rx_nth fx_CV 113 = some true := by decide +kernel
theorem ap_113 : rx_nth fx_AP 113 = some axm_113 := rfl
theorem sg_113 : rx_nth fx_SG 113 = some (1, 1, 3) := rfl
theorem cv_114 : rx_nth fx_CV 114 = some true := by decide +kernel
theorem ap_114 : rx_nth fx_AP 114 = some axm_114 := rfl
theorem sg_114 : rx_nth fx_SG 114 = some (0, 1, 1) := rfl
theorem cv_115 : rx_nth fx_CV 115 = some true := by decide +kernel
theorem ap_115 : rx_nth fx_AP 115 = some axm_115 := rfl
theorem sg_115 : rx_nth fx_SG 115 = some (2, 1, 3) := rfl
theorem cv_116 : rx_nth fx_CV 116 = some true := by decide +kernel
theorem ap_116 : rx_nth fx_AP 116 = some axm_116 := rfl
theorem sg_116 : rx_nth fx_SG 116 = some (0, 1, 3) := rfl
theorem cv_117 : rx_nth fx_CV 117 = some true := by decide +kernel
theorem ap_117 : rx_nth fx_AP 117 = some axm_117 := rfl
theorem sg_117 : rx_nth fx_SG 117 = some (2, 1, 4) := rfl
theorem cv_118 : rx_nth fx_CV 118 = some true := by decide +kernel
theorem ap_118 : rx_nth fx_AP 118 = some axm_118 := rfl
theorem sg_118 : rx_nth fx_SG 118 = some (1, 1, 3) := rfl
theorem cv_119 : rx_nth fx_CV 119 = some true := by decide +kernel
theorem ap_119 : rx_nth fx_AP 119 = some axm_119 := rfl
theorem sg_119 : rx_nth fx_SG 119 = some (1, 2, 2) := rfl
theorem cv_120 : rx_nth fx_CV 120 = some true := by decide +kernel
theorem ap_120 : rx_nth fx_AP 120 = some axm_120 := rfl
theorem sg_120 : rx_nth fx_SG 120 = some (1, 2, 2) := rfl
theorem cv_121 : rx_nth fx_CV 121 = some true := by decide +kernel
theorem ap_121 : rx_nth fx_AP 121 = some axm_121 := rfl
theorem sg_121 : rx_nth fx_SG 121 = some (3, 2, 7) := rfl
theorem cv_122 : rx_nth fx_CV 122 = some true := by decide +kernel
theorem ap_122 : rx_nth fx_AP 122 = some axm_122 := rfl
theorem sg_122 : rx_nth fx_SG 122 = some (1, 2, 2) := rfl
theorem cv_123 : rx_nth fx_CV 123 = some true := by decide +kernel
theorem ap_123 : rx_nth fx_AP 123 = some axm_123 := rfl
theorem sg_123 : rx_nth fx_SG 123 = some (1, 2, 2) := rfl
theorem cv_124 : rx_nth fx_CV 124 = some true := by decide +kernel
theorem ap_124 : rx_nth fx_AP 124 = some axm_124 := rfl
theorem sg_124 : rx_nth fx_SG 124 = some (1, 2, 2) := rfl
theorem cv_125 : rx_nth fx_CV 125 = some true := by decide +kernel
theorem ap_125 : rx_nth fx_AP 125 = some axm_125 := rfl
theorem sg_125 : rx_nth fx_SG 125 = some (1, 0, 2) := rfl
theorem cv_126 : rx_nth fx_CV 126 = some true := by decide +kernel
theorem ap_126 : rx_nth fx_AP 126 = some axm_126 := rfl
theorem sg_126 : rx_nth fx_SG 126 = some (2, 1, 3) := rfl
theorem cv_127 : rx_nth fx_CV 127 = some true := by decide +kernel
theorem ap_127 : rx_nth fx_AP 127 = some axm_127 := rfl
theorem sg_127 : rx_nth fx_SG 127 = some (0, 2, 1) := rfl
theorem cv_128 : rx_nth fx_CV 128 = some true := by decide +kernel
theorem ap_128 : rx_nth fx_AP 128 = some axm_128 := rfl
theorem sg_128 : rx_nth fx_SG 128 = some (0, 0, 1) := rfl
theorem cv_129 : rx_nth fx_CV 129 = some true := by decide +kernel
theorem ap_129 : rx_nth fx_AP 129 = some axm_129 := rfl
theorem sg_129 : rx_nth fx_SG 129 = some (0, 0, 4) := rfl
theorem cv_130 : rx_nth fx_CV 130 = some true := by decide +kernel
theorem ap_130 : rx_nth fx_AP 130 = some axm_130 := rfl
theorem sg_130 : rx_nth fx_SG 130 = some (0, 1, 3) := rfl
theorem cv_131 : rx_nth fx_CV 131 = some true := by decide +kernel
theorem ap_131 : rx_nth fx_AP 131 = some axm_131 := rfl
theorem sg_131 : rx_nth fx_SG 131 = some (0, 0, 2) := rfl
theorem cv_132 : rx_nth fx_CV 132 = some true := by decide +kernel
theorem ap_132 : rx_nth fx_AP 132 = some axm_132 := rfl
theorem sg_132 : rx_nth fx_SG 132 = some (0, 0, 2) := rfl
theorem cv_133 : rx_nth fx_CV 133 = some true := by decide +kernel
theorem ap_133 : rx_nth fx_AP 133 = some axm_133 := rfl
theorem sg_133 : rx_nth fx_SG 133 = some (0, 2, 1) := rfl
theorem cv_134 : rx_nth fx_CV 134 = some true := by decide +kernel
theorem ap_134 : rx_nth fx_AP 134 = some axm_134 := rfl
theorem sg_134 : rx_nth fx_SG 134 = some (3, 1, 6) := rfl
theorem cv_135 : rx_nth fx_CV 135 = some true := by decide +kernel
theorem ap_135 : rx_nth fx_AP 135 = some axm_135 := rfl
theorem sg_135 : rx_nth fx_SG 135 = some (2, 2, 6) := rfl
theorem cv_136 : rx_nth fx_CV 136 = some true := by decide +kernel
theorem ap_136 : rx_nth fx_AP 136 = some axm_136 := rfl
theorem sg_136 : rx_nth fx_SG 136 = some (1, 0, 3) := rfl
theorem cv_138 : rx_nth fx_CV 138 = some true := by decide +kernel
theorem ap_138 : rx_nth fx_AP 138 = some axm_138 := rfl
theorem sg_138 : rx_nth fx_SG 138 = some (1, 0, 2) := rfl
theorem cv_139 : rx_nth fx_CV 139 = some true := by decide +kernel
theorem ap_139 : rx_nth fx_AP 139 = some axm_139 := rfl
theorem sg_139 : rx_nth fx_SG 139 = some (1, 0, 2) := rfl
theorem cv_140 : rx_nth fx_CV 140 = some true := by decide +kernel
theorem ap_140 : rx_nth fx_AP 140 = some axm_140 := rfl
theorem sg_140 : rx_nth fx_SG 140 = some (2, 0, 4) := rfl
theorem cv_142 : rx_nth fx_CV 142 = some true := by decide +kernel
theorem ap_142 : rx_nth fx_AP 142 = some axm_142 := rfl
theorem sg_142 : rx_nth fx_SG 142 = some (2, 2, 3) := rfl
theorem cv_143 : rx_nth fx_CV 143 = some true := by decide +kernel
theorem ap_143 : rx_nth fx_AP 143 = some axm_143 := rfl
theorem sg_143 : rx_nth fx_SG 143 = some (1, 2, 2) := rfl
theorem cv_144 : rx_nth fx_CV 144 = some true := by decide +kernel
theorem ap_144 : rx_nth fx_AP 144 = some axm_144 := rfl
theorem sg_144 : rx_nth fx_SG 144 = some (2, 0, 6) := rfl
theorem cv_145 : rx_nth fx_CV 145 = some true := by decide +kernel
theorem ap_145 : rx_nth fx_AP 145 = some axm_145 := rfl
theorem sg_145 : rx_nth fx_SG 145 = some (3, 1, 6) := rfl
theorem cv_146 : rx_nth fx_CV 146 = some true := by decide +kernel
theorem ap_146 : rx_nth fx_AP 146 = some axm_146 := rfl
theorem sg_146 : rx_nth fx_SG 146 = some (2, 0, 5) := rfl
theorem cv_147 : rx_nth fx_CV 147 = some true := by decide +kernel
theorem ap_147 : rx_nth fx_AP 147 = some axm_147 := rfl
theorem sg_147 : rx_nth fx_SG 147 = some (3, 1, 7) := rfl
theorem cv_148 : rx_nth fx_CV 148 = some true := by decide +kernel
theorem ap_148 : rx_nth fx_AP 148 = some axm_148 := rfl
theorem sg_148 : rx_nth fx_SG 148 = some (1, 0, 5) := rfl
theorem cv_149 : rx_nth fx_CV 149 = some true := by decide +kernel
theorem ap_149 : rx_nth fx_AP 149 = some axm_149 := rfl
theorem sg_149 : rx_nth fx_SG 149 = some (2, 0, 6) := rfl
theorem cv_150 : rx_nth fx_CV 150 = some true := by decide +kernel
theorem ap_150 : rx_nth fx_AP 150 = some axm_150 := rfl
theorem sg_150 : rx_nth fx_SG 150 = some (3, 0, 5) := rfl
theorem cv_151 : rx_nth fx_CV 151 = some true := by decide +kernel
theorem ap_151 : rx_nth fx_AP 151 = some axm_151 := rfl
theorem sg_151 : rx_nth fx_SG 151 = some (1, 1, 7) := rfl
theorem cv_152 : rx_nth fx_CV 152 = some true := by decide +kernel
theorem ap_152 : rx_nth fx_AP 152 = some axm_152 := rfl
theorem sg_152 : rx_nth fx_SG 152 = some (3, 0, 9) := rfl
theorem cv_153 : rx_nth fx_CV 153 = some true := by decide +kernel
theorem ap_153 : rx_nth fx_AP 153 = some axm_153 := rfl
theorem sg_153 : rx_nth fx_SG 153 = some (1, 1, 2) := rfl
theorem cv_154 : rx_nth fx_CV 154 = some true := by decide +kernel
theorem ap_154 : rx_nth fx_AP 154 = some axm_154 := rfl
theorem sg_154 : rx_nth fx_SG 154 = some (1, 1, 2) := rfl
theorem cv_155 : rx_nth fx_CV 155 = some true := by decide +kernel
theorem ap_155 : rx_nth fx_AP 155 = some axm_155 := rfl
theorem sg_155 : rx_nth fx_SG 155 = some (0, 2, 1) := rfl
theorem cv_156 : rx_nth fx_CV 156 = some true := by decide +kernel
theorem ap_156 : rx_nth fx_AP 156 = some axm_156 := rfl
theorem sg_156 : rx_nth fx_SG 156 = some (0, 2, 1) := rfl
theorem cv_157 : rx_nth fx_CV 157 = some true := by decide +kernel
theorem ap_157 : rx_nth fx_AP 157 = some axm_157 := rfl
theorem sg_157 : rx_nth fx_SG 157 = some (1, 1, 2) := rfl
theorem cv_158 : rx_nth fx_CV 158 = some true := by decide +kernel
theorem ap_158 : rx_nth fx_AP 158 = some axm_158 := rfl
theorem sg_158 : rx_nth fx_SG 158 = some (2, 0, 4) := rfl
theorem cv_159 : rx_nth fx_CV 159 = some true := by decide +kernel
theorem ap_159 : rx_nth fx_AP 159 = some axm_159 := rfl
theorem sg_159 : rx_nth fx_SG 159 = some (0, 1, 1) := rfl
theorem cv_160 : rx_nth fx_CV 160 = some true := by decide +kernel
theorem ap_160 : rx_nth fx_AP 160 = some axm_160 := rfl
theorem sg_160 : rx_nth fx_SG 160 = some (2, 2, 3) := rfl
theorem cv_161 : rx_nth fx_CV 161 = some true := by decide +kernel
theorem ap_161 : rx_nth fx_AP 161 = some axm_161 := rfl
theorem sg_161 : rx_nth fx_SG 161 = some (1, 0, 2) := rfl
theorem cv_162 : rx_nth fx_CV 162 = some true := by decide +kernel
theorem ap_162 : rx_nth fx_AP 162 = some axm_162 := rfl
theorem sg_162 : rx_nth fx_SG 162 = some (1, 1, 2) := rfl
theorem cv_163 : rx_nth fx_CV 163 = some true := by decide +kernel
theorem ap_163 : rx_nth fx_AP 163 = some axm_163 := rfl
theorem sg_163 : rx_nth fx_SG 163 = some (0, 1, 3) := rfl
theorem cv_164 : rx_nth fx_CV 164 = some true := by decide +kernel
theorem ap_164 : rx_nth fx_AP 164 = some axm_164 := rfl
theorem sg_164 : rx_nth fx_SG 164 = some (1, 2, 2) := rfl
theorem cv_165 : rx_nth fx_CV 165 = some true := by decide +kernel
theorem ap_165 : rx_nth fx_AP 165 = some axm_165 := rfl
theorem sg_165 : rx_nth fx_SG 165 = some (2, 0, 7) := rfl
theorem cv_166 : rx_nth fx_CV 166 = some true := by decide +kernel
theorem ap_166 : rx_nth fx_AP 166 = some axm_166 := rfl
theorem sg_166 : rx_nth fx_SG 166 = some (2, 1, 3) := rfl
theorem cv_167 : rx_nth fx_CV 167 = some true := by decide +kernel
theorem ap_167 : rx_nth fx_AP 167 = some axm_167 := rfl
theorem sg_167 : rx_nth fx_SG 167 = some (1, 1, 4) := rfl
theorem cv_168 : rx_nth fx_CV 168 = some true := by decide +kernel
theorem ap_168 : rx_nth fx_AP 168 = some axm_168 := rfl
theorem sg_168 : rx_nth fx_SG 168 = some (1, 1, 2) := rfl
theorem cv_169 : rx_nth fx_CV 169 = some true := by decide +kernel
theorem ap_169 : rx_nth fx_AP 169 = some axm_169 := rfl
theorem sg_169 : rx_nth fx_SG 169 = some (1, 1, 10) := rfl
theorem cv_170 : rx_nth fx_CV 170 = some true := by decide +kernel
theorem ap_170 : rx_nth fx_AP 170 = some axm_170 := rfl
theorem sg_170 : rx_nth fx_SG 170 = some (0, 0, 2) := rfl
theorem cv_171 : rx_nth fx_CV 171 = some true := by decide +kernel
theorem ap_171 : rx_nth fx_AP 171 = some axm_171 := rfl
theorem sg_171 : rx_nth fx_SG 171 = some (1, 1, 2) := rfl
theorem cv_172 : rx_nth fx_CV 172 = some true := by decide +kernel
theorem ap_172 : rx_nth fx_AP 172 = some axm_172 := rfl
theorem sg_172 : rx_nth fx_SG 172 = some (1, 1, 2) := rfl
theorem cv_173 : rx_nth fx_CV 173 = some true := by decide +kernel
theorem ap_173 : rx_nth fx_AP 173 = some axm_173 := rfl
theorem sg_173 : rx_nth fx_SG 173 = some (1, 1, 4) := rfl
theorem cv_174 : rx_nth fx_CV 174 = some true := by decide +kernel
theorem ap_174 : rx_nth fx_AP 174 = some axm_174 := rfl
theorem sg_174 : rx_nth fx_SG 174 = some (3, 1, 7) := rfl
theorem cv_175 : rx_nth fx_CV 175 = some true := by decide +kernel
theorem ap_175 : rx_nth fx_AP 175 = some axm_175 := rfl
theorem sg_175 : rx_nth fx_SG 175 = some (0, 2, 1) := rfl
theorem cv_176 : rx_nth fx_CV 176 = some true := by decide +kernel
theorem ap_176 : rx_nth fx_AP 176 = some axm_176 := rfl
theorem sg_176 : rx_nth fx_SG 176 = some (2, 0, 5) := rfl
theorem cv_177 : rx_nth fx_CV 177 = some true := by decide +kernel
theorem ap_177 : rx_nth fx_AP 177 = some axm_177 := rfl
theorem sg_177 : rx_nth fx_SG 177 = some (0, 0, 3) := rfl
theorem cv_178 : rx_nth fx_CV 178 = some true := by decide +kernel
theorem ap_178 : rx_nth fx_AP 178 = some axm_178 := rfl
theorem sg_178 : rx_nth fx_SG 178 = some (1, 0, 4) := rfl
theorem cv_179 : rx_nth fx_CV 179 = some true := by decide +kernel
theorem ap_179 : rx_nth fx_AP 179 = some axm_179 := rfl
theorem sg_179 : rx_nth fx_SG 179 = some (0, 0, 4) := rfl
theorem cv_180 : rx_nth fx_CV 180 = some true := by decide +kernel
theorem ap_180 : rx_nth fx_AP 180 = some axm_180 := rfl
theorem sg_180 : rx_nth fx_SG 180 = some (2, 0, 4) := rfl
theorem cv_181 : rx_nth fx_CV 181 = some true := by decide +kernel
theorem ap_181 : rx_nth fx_AP 181 = some axm_181 := rfl
theorem sg_181 : rx_nth fx_SG 181 = some (2, 0, 4) := rfl
theorem cv_183 : rx_nth fx_CV 183 = some true := by decide +kernel
theorem ap_183 : rx_nth fx_AP 183 = some axm_183 := rfl
theorem sg_183 : rx_nth fx_SG 183 = some (2, 1, 3) := rfl
theorem cv_184 : rx_nth fx_CV 184 = some true := by decide +kernel
theorem ap_184 : rx_nth fx_AP 184 = some axm_184 := rfl
theorem sg_184 : rx_nth fx_SG 184 = some (1, 1, 2) := rfl
theorem cv_185 : rx_nth fx_CV 185 = some true := by decide +kernel
theorem ap_185 : rx_nth fx_AP 185 = some axm_185 := rfl
theorem sg_185 : rx_nth fx_SG 185 = some (2, 1, 3) := rfl
theorem cv_186 : rx_nth fx_CV 186 = some true := by decide +kernel
theorem ap_186 : rx_nth fx_AP 186 = some axm_186 := rfl
theorem sg_186 : rx_nth fx_SG 186 = some (1, 1, 2) := rfl
theorem cv_187 : rx_nth fx_CV 187 = some true := by decide +kernel
theorem ap_187 : rx_nth fx_AP 187 = some axm_187 := rfl
theorem sg_187 : rx_nth fx_SG 187 = some (2, 1, 3) := rfl
theorem cv_188 : rx_nth fx_CV 188 = some true := by decide +kernel
theorem ap_188 : rx_nth fx_AP 188 = some axm_188 := rfl
theorem sg_188 : rx_nth fx_SG 188 = some (2, 1, 3) := rfl
theorem cv_189 : rx_nth fx_CV 189 = some true := by decide +kernel
theorem ap_189 : rx_nth fx_AP 189 = some axm_189 := rfl
theorem sg_189 : rx_nth fx_SG 189 = some (1, 1, 2) := rfl
theorem cv_190 : rx_nth fx_CV 190 = some true := by decide +kernel
theorem ap_190 : rx_nth fx_AP 190 = some axm_190 := rfl
theorem sg_190 : rx_nth fx_SG 190 = some (0, 1, 3) := rfl
theorem cv_191 : rx_nth fx_CV 191 = some true := by decide +kernel
theorem ap_191 : rx_nth fx_AP 191 = some axm_191 := rfl
theorem sg_191 : rx_nth fx_SG 191 = some (2, 1, 3) := rfl
theorem cv_192 : rx_nth fx_CV 192 = some true := by decide +kernel
theorem ap_192 : rx_nth fx_AP 192 = some axm_192 := rfl
theorem sg_192 : rx_nth fx_SG 192 = some (1, 1, 2) := rfl
theorem cv_193 : rx_nth fx_CV 193 = some true := by decide +kernel
theorem ap_193 : rx_nth fx_AP 193 = some axm_193 := rfl
theorem sg_193 : rx_nth fx_SG 193 = some (1, 1, 2) := rfl
theorem cv_194 : rx_nth fx_CV 194 = some true := by decide +kernel
theorem ap_194 : rx_nth fx_AP 194 = some axm_194 := rfl
theorem sg_194 : rx_nth fx_SG 194 = some (1, 0, 2) := rfl
theorem cv_195 : rx_nth fx_CV 195 = some true := by decide +kernel
theorem ap_195 : rx_nth fx_AP 195 = some axm_195 := rfl
theorem sg_195 : rx_nth fx_SG 195 = some (1, 1, 2) := rfl
theorem cv_196 : rx_nth fx_CV 196 = some true := by decide +kernel
theorem ap_196 : rx_nth fx_AP 196 = some axm_196 := rfl
theorem sg_196 : rx_nth fx_SG 196 = some (0, 2, 2) := rfl
theorem cv_197 : rx_nth fx_CV 197 = some true := by decide +kernel
theorem ap_197 : rx_nth fx_AP 197 = some axm_197 := rfl
theorem sg_197 : rx_nth fx_SG 197 = some (2, 2, 3) := rfl
theorem cv_198 : rx_nth fx_CV 198 = some true := by decide +kernel
theorem ap_198 : rx_nth fx_AP 198 = some axm_198 := rfl
theorem sg_198 : rx_nth fx_SG 198 = some (1, 0, 2) := rfl
theorem cv_199 : rx_nth fx_CV 199 = some true := by decide +kernel
theorem ap_199 : rx_nth fx_AP 199 = some axm_199 := rfl
theorem sg_199 : rx_nth fx_SG 199 = some (2, 1, 4) := rfl
theorem cv_200 : rx_nth fx_CV 200 = some true := by decide +kernel
theorem ap_200 : rx_nth fx_AP 200 = some axm_200 := rfl
theorem sg_200 : rx_nth fx_SG 200 = some (2, 2, 6) := rfl
theorem cv_201 : rx_nth fx_CV 201 = some true := by decide +kernel
theorem ap_201 : rx_nth fx_AP 201 = some axm_201 := rfl
theorem sg_201 : rx_nth fx_SG 201 = some (1, 1, 4) := rfl
theorem cv_202 : rx_nth fx_CV 202 = some true := by decide +kernel
theorem ap_202 : rx_nth fx_AP 202 = some axm_202 := rfl
theorem sg_202 : rx_nth fx_SG 202 = some (2, 1, 3) := rfl
theorem cv_203 : rx_nth fx_CV 203 = some true := by decide +kernel
theorem ap_203 : rx_nth fx_AP 203 = some axm_203 := rfl
theorem sg_203 : rx_nth fx_SG 203 = some (1, 1, 5) := rfl
theorem cv_204 : rx_nth fx_CV 204 = some true := by decide +kernel
theorem ap_204 : rx_nth fx_AP 204 = some axm_204 := rfl
theorem sg_204 : rx_nth fx_SG 204 = some (1, 1, 5) := rfl
theorem cv_205 : rx_nth fx_CV 205 = some true := by decide +kernel
theorem ap_205 : rx_nth fx_AP 205 = some axm_205 := rfl
theorem sg_205 : rx_nth fx_SG 205 = some (1, 2, 3) := rfl
theorem cv_206 : rx_nth fx_CV 206 = some true := by decide +kernel
theorem ap_206 : rx_nth fx_AP 206 = some axm_206 := rfl
theorem sg_206 : rx_nth fx_SG 206 = some (1, 2, 4) := rfl
theorem cv_207 : rx_nth fx_CV 207 = some true := by decide +kernel
theorem ap_207 : rx_nth fx_AP 207 = some axm_207 := rfl
theorem sg_207 : rx_nth fx_SG 207 = some (2, 1, 3) := rfl
theorem cv_208 : rx_nth fx_CV 208 = some true := by decide +kernel
theorem ap_208 : rx_nth fx_AP 208 = some axm_208 := rfl
theorem sg_208 : rx_nth fx_SG 208 = some (3, 0, 8) := rfl
theorem cv_209 : rx_nth fx_CV 209 = some true := by decide +kernel
theorem ap_209 : rx_nth fx_AP 209 = some axm_209 := rfl
theorem sg_209 : rx_nth fx_SG 209 = some (0, 2, 2) := rfl
theorem cv_210 : rx_nth fx_CV 210 = some true := by decide +kernel
theorem ap_210 : rx_nth fx_AP 210 = some axm_210 := rfl
theorem sg_210 : rx_nth fx_SG 210 = some (3, 3, 9) := rfl
theorem cv_211 : rx_nth fx_CV 211 = some true := by decide +kernel
theorem ap_211 : rx_nth fx_AP 211 = some axm_211 := rfl
theorem sg_211 : rx_nth fx_SG 211 = some (2, 3, 3) := rfl
theorem cv_212 : rx_nth fx_CV 212 = some true := by decide +kernel
theorem ap_212 : rx_nth fx_AP 212 = some axm_212 := rfl
theorem sg_212 : rx_nth fx_SG 212 = some (2, 0, 3) := rfl
theorem cv_213 : rx_nth fx_CV 213 = some true := by decide +kernel
theorem ap_213 : rx_nth fx_AP 213 = some axm_213 := rfl
theorem sg_213 : rx_nth fx_SG 213 = some (4, 1, 10) := rfl
theorem cv_214 : rx_nth fx_CV 214 = some true := by decide +kernel
theorem ap_214 : rx_nth fx_AP 214 = some axm_214 := rfl
theorem sg_214 : rx_nth fx_SG 214 = some (3, 1, 4) := rfl
theorem cv_215 : rx_nth fx_CV 215 = some true := by decide +kernel
theorem ap_215 : rx_nth fx_AP 215 = some axm_215 := rfl
theorem sg_215 : rx_nth fx_SG 215 = some (2, 1, 3) := rfl
theorem cv_216 : rx_nth fx_CV 216 = some true := by decide +kernel
theorem ap_216 : rx_nth fx_AP 216 = some axm_216 := rfl
theorem sg_216 : rx_nth fx_SG 216 = some (1, 1, 4) := rfl
theorem cv_217 : rx_nth fx_CV 217 = some true := by decide +kernel
theorem ap_217 : rx_nth fx_AP 217 = some axm_217 := rfl
theorem sg_217 : rx_nth fx_SG 217 = some (1, 1, 2) := rfl
theorem cv_218 : rx_nth fx_CV 218 = some true := by decide +kernel
theorem ap_218 : rx_nth fx_AP 218 = some axm_218 := rfl
theorem sg_218 : rx_nth fx_SG 218 = some (2, 1, 3) := rfl
theorem cv_219 : rx_nth fx_CV 219 = some true := by decide +kernel
theorem ap_219 : rx_nth fx_AP 219 = some axm_219 := rfl
theorem sg_219 : rx_nth fx_SG 219 = some (0, 1, 1) := rfl
theorem cv_220 : rx_nth fx_CV 220 = some true := by decide +kernel
theorem ap_220 : rx_nth fx_AP 220 = some axm_220 := rfl
theorem sg_220 : rx_nth fx_SG 220 = some (2, 1, 4) := rfl
theorem cv_221 : rx_nth fx_CV 221 = some true := by decide +kernel
theorem ap_221 : rx_nth fx_AP 221 = some axm_221 := rfl
theorem sg_221 : rx_nth fx_SG 221 = some (4, 2, 5) := rfl
theorem cv_222 : rx_nth fx_CV 222 = some true := by decide +kernel
theorem ap_222 : rx_nth fx_AP 222 = some axm_222 := rfl
theorem sg_222 : rx_nth fx_SG 222 = some (1, 2, 2) := rfl
theorem cv_223 : rx_nth fx_CV 223 = some true := by decide +kernel
theorem ap_223 : rx_nth fx_AP 223 = some axm_223 := rfl
theorem sg_223 : rx_nth fx_SG 223 = some (1, 0, 3) := rfl
theorem cv_224 : rx_nth fx_CV 224 = some true := by decide +kernel
theorem ap_224 : rx_nth fx_AP 224 = some axm_224 := rfl
theorem sg_224 : rx_nth fx_SG 224 = some (0, 1, 4) := rfl
theorem cv_225 : rx_nth fx_CV 225 = some true := by decide +kernel
theorem ap_225 : rx_nth fx_AP 225 = some axm_225 := rfl
theorem sg_225 : rx_nth fx_SG 225 = some (1, 0, 3) := rfl
theorem cv_226 : rx_nth fx_CV 226 = some true := by decide +kernel
theorem ap_226 : rx_nth fx_AP 226 = some axm_226 := rfl
theorem sg_226 : rx_nth fx_SG 226 = some (1, 0, 4) := rfl
theorem cv_227 : rx_nth fx_CV 227 = some true := by decide +kernel
theorem ap_227 : rx_nth fx_AP 227 = some axm_227 := rfl
theorem sg_227 : rx_nth fx_SG 227 = some (0, 1, 5) := rfl
theorem cv_228 : rx_nth fx_CV 228 = some true := by decide +kernel
theorem ap_228 : rx_nth fx_AP 228 = some axm_228 := rfl
theorem sg_228 : rx_nth fx_SG 228 = some (3, 1, 4) := rfl
theorem cv_229 : rx_nth fx_CV 229 = some true := by decide +kernel
theorem ap_229 : rx_nth fx_AP 229 = some axm_229 := rfl
theorem sg_229 : rx_nth fx_SG 229 = some (3, 1, 5) := rfl
theorem cv_230 : rx_nth fx_CV 230 = some true := by decide +kernel
theorem ap_230 : rx_nth fx_AP 230 = some axm_230 := rfl
theorem sg_230 : rx_nth fx_SG 230 = some (2, 1, 4) := rfl
theorem cv_231 : rx_nth fx_CV 231 = some true := by decide +kernel
theorem ap_231 : rx_nth fx_AP 231 = some axm_231 := rfl
theorem sg_231 : rx_nth fx_SG 231 = some (1, 1, 3) := rfl
theorem cv_232 : rx_nth fx_CV 232 = some true := by decide +kernel
theorem ap_232 : rx_nth fx_AP 232 = some axm_232 := rfl
theorem sg_232 : rx_nth fx_SG 232 = some (1, 1, 2) := rfl
theorem cv_233 : rx_nth fx_CV 233 = some true := by decide +kernel
theorem ap_233 : rx_nth fx_AP 233 = some axm_233 := rfl
theorem sg_233 : rx_nth fx_SG 233 = some (2, 1, 3) := rfl
theorem cv_234 : rx_nth fx_CV 234 = some true := by decide +kernel
theorem ap_234 : rx_nth fx_AP 234 = some axm_234 := rfl
theorem sg_234 : rx_nth fx_SG 234 = some (3, 1, 4) := rfl
theorem cv_235 : rx_nth fx_CV 235 = some true := by decide +kernel
theorem ap_235 : rx_nth fx_AP 235 = some axm_235 := rfl
theorem sg_235 : rx_nth fx_SG 235 = some (1, 0, 2) := rfl
theorem cv_236 : rx_nth fx_CV 236 = some true := by decide +kernel
theorem ap_236 : rx_nth fx_AP 236 = some axm_236 := rfl
theorem sg_236 : rx_nth fx_SG 236 = some (0, 1, 3) := rfl
theorem cv_237 : rx_nth fx_CV 237 = some true := by decide +kernel
theorem ap_237 : rx_nth fx_AP 237 = some axm_237 := rfl
theorem sg_237 : rx_nth fx_SG 237 = some (3, 3, 4) := rfl
theorem cv_238 : rx_nth fx_CV 238 = some true := by decide +kernel
theorem ap_238 : rx_nth fx_AP 238 = some axm_238 := rfl
theorem sg_238 : rx_nth fx_SG 238 = some (2, 3, 3) := rfl
theorem cv_239 : rx_nth fx_CV 239 = some true := by decide +kernel
theorem ap_239 : rx_nth fx_AP 239 = some axm_239 := rfl
theorem sg_239 : rx_nth fx_SG 239 = some (2, 1, 5) := rfl
theorem cv_240 : rx_nth fx_CV 240 = some true := by decide +kernel
theorem ap_240 : rx_nth fx_AP 240 = some axm_240 := rfl
theorem sg_240 : rx_nth fx_SG 240 = some (2, 1, 4) := rfl
theorem cv_241 : rx_nth fx_CV 241 = some true := by decide +kernel
theorem ap_241 : rx_nth fx_AP 241 = some axm_241 := rfl
theorem sg_241 : rx_nth fx_SG 241 = some (2, 2, 3) := rfl
theorem cv_242 : rx_nth fx_CV 242 = some true := by decide +kernel
theorem ap_242 : rx_nth fx_AP 242 = some axm_242 := rfl
theorem sg_242 : rx_nth fx_SG 242 = some (2, 2, 3) := rfl
theorem cv_243 : rx_nth fx_CV 243 = some true := by decide +kernel
theorem ap_243 : rx_nth fx_AP 243 = some axm_243 := rfl
theorem sg_243 : rx_nth fx_SG 243 = some (2, 1, 3) := rfl
theorem cv_244 : rx_nth fx_CV 244 = some true := by decide +kernel
theorem ap_244 : rx_nth fx_AP 244 = some axm_244 := rfl
theorem sg_244 : rx_nth fx_SG 244 = some (1, 0, 3) := rfl
theorem cv_245 : rx_nth fx_CV 245 = some true := by decide +kernel
theorem ap_245 : rx_nth fx_AP 245 = some axm_245 := rfl
theorem sg_245 : rx_nth fx_SG 245 = some (3, 1, 8) := rfl
theorem cv_246 : rx_nth fx_CV 246 = some true := by decide +kernel
theorem ap_246 : rx_nth fx_AP 246 = some axm_246 := rfl
theorem sg_246 : rx_nth fx_SG 246 = some (1, 0, 2) := rfl
theorem cv_247 : rx_nth fx_CV 247 = some true := by decide +kernel
theorem ap_247 : rx_nth fx_AP 247 = some axm_247 := rfl
theorem sg_247 : rx_nth fx_SG 247 = some (1, 1, 3) := rfl
theorem cv_248 : rx_nth fx_CV 248 = some true := by decide +kernel
theorem ap_248 : rx_nth fx_AP 248 = some axm_248 := rfl
theorem sg_248 : rx_nth fx_SG 248 = some (1, 1, 6) := rfl
theorem cv_249 : rx_nth fx_CV 249 = some true := by decide +kernel
theorem ap_249 : rx_nth fx_AP 249 = some axm_249 := rfl
theorem sg_249 : rx_nth fx_SG 249 = some (2, 1, 4) := rfl
theorem cv_250 : rx_nth fx_CV 250 = some true := by decide +kernel
theorem ap_250 : rx_nth fx_AP 250 = some axm_250 := rfl
theorem sg_250 : rx_nth fx_SG 250 = some (0, 1, 2) := rfl
theorem cv_251 : rx_nth fx_CV 251 = some true := by decide +kernel
theorem ap_251 : rx_nth fx_AP 251 = some axm_251 := rfl
theorem sg_251 : rx_nth fx_SG 251 = some (2, 1, 3) := rfl
theorem cv_252 : rx_nth fx_CV 252 = some true := by decide +kernel
theorem ap_252 : rx_nth fx_AP 252 = some axm_252 := rfl
theorem sg_252 : rx_nth fx_SG 252 = some (2, 1, 3) := rfl
theorem cv_253 : rx_nth fx_CV 253 = some true := by decide +kernel
theorem ap_253 : rx_nth fx_AP 253 = some axm_253 := rfl
theorem sg_253 : rx_nth fx_SG 253 = some (2, 1, 3) := rfl
theorem cv_254 : rx_nth fx_CV 254 = some true := by decide +kernel
theorem ap_254 : rx_nth fx_AP 254 = some axm_254 := rfl
theorem sg_254 : rx_nth fx_SG 254 = some (1, 1, 2) := rfl
theorem cv_255 : rx_nth fx_CV 255 = some true := by decide +kernel
theorem ap_255 : rx_nth fx_AP 255 = some axm_255 := rfl
theorem sg_255 : rx_nth fx_SG 255 = some (0, 1, 3) := rfl
theorem cv_256 : rx_nth fx_CV 256 = some true := by decide +kernel
theorem ap_256 : rx_nth fx_AP 256 = some axm_256 := rfl
theorem sg_256 : rx_nth fx_SG 256 = some (2, 1, 3) := rfl
theorem cv_257 : rx_nth fx_CV 257 = some true := by decide +kernel
theorem ap_257 : rx_nth fx_AP 257 = some axm_257 := rfl
theorem sg_257 : rx_nth fx_SG 257 = some (1, 2, 3) := rfl
theorem cv_258 : rx_nth fx_CV 258 = some true := by decide +kernel
theorem ap_258 : rx_nth fx_AP 258 = some axm_258 := rfl
theorem sg_258 : rx_nth fx_SG 258 = some (2, 2, 5) := rfl
theorem cv_259 : rx_nth fx_CV 259 = some true := by decide +kernel
theorem ap_259 : rx_nth fx_AP 259 = some axm_259 := rfl
theorem sg_259 : rx_nth fx_SG 259 = some (3, 2, 5) := rfl
theorem cv_260 : rx_nth fx_CV 260 = some true := by decide +kernel
theorem ap_260 : rx_nth fx_AP 260 = some axm_260 := rfl
theorem sg_260 : rx_nth fx_SG 260 = some (1, 0, 6) := rfl
theorem cv_261 : rx_nth fx_CV 261 = some true := by decide +kernel
theorem ap_261 : rx_nth fx_AP 261 = some axm_261 := rfl
theorem sg_261 : rx_nth fx_SG 261 = some (0, 0, 3) := rfl
theorem cv_262 : rx_nth fx_CV 262 = some true := by decide +kernel
theorem ap_262 : rx_nth fx_AP 262 = some axm_262 := rfl
theorem sg_262 : rx_nth fx_SG 262 = some (1, 1, 3) := rfl
theorem cv_263 : rx_nth fx_CV 263 = some true := by decide +kernel
theorem ap_263 : rx_nth fx_AP 263 = some axm_263 := rfl
theorem sg_263 : rx_nth fx_SG 263 = some (1, 0, 2) := rfl
theorem cv_264 : rx_nth fx_CV 264 = some true := by decide +kernel
theorem ap_264 : rx_nth fx_AP 264 = some axm_264 := rfl
theorem sg_264 : rx_nth fx_SG 264 = some (0, 0, 2) := rfl
theorem cv_266 : rx_nth fx_CV 266 = some true := by decide +kernel
theorem ap_266 : rx_nth fx_AP 266 = some axm_266 := rfl
theorem sg_266 : rx_nth fx_SG 266 = some (0, 2, 3) := rfl
theorem cv_267 : rx_nth fx_CV 267 = some true := by decide +kernel
theorem ap_267 : rx_nth fx_AP 267 = some axm_267 := rfl
theorem sg_267 : rx_nth fx_SG 267 = some (2, 0, 6) := rfl
theorem cv_268 : rx_nth fx_CV 268 = some true := by decide +kernel
theorem ap_268 : rx_nth fx_AP 268 = some axm_268 := rfl
theorem sg_268 : rx_nth fx_SG 268 = some (0, 0, 2) := rfl
theorem cv_269 : rx_nth fx_CV 269 = some true := by decide +kernel
theorem ap_269 : rx_nth fx_AP 269 = some axm_269 := rfl
theorem sg_269 : rx_nth fx_SG 269 = some (1, 0, 5) := rfl
theorem cv_270 : rx_nth fx_CV 270 = some true := by decide +kernel
theorem ap_270 : rx_nth fx_AP 270 = some axm_270 := rfl
theorem sg_270 : rx_nth fx_SG 270 = some (3, 1, 6) := rfl
theorem cv_271 : rx_nth fx_CV 271 = some true := by decide +kernel
theorem ap_271 : rx_nth fx_AP 271 = some axm_271 := rfl
theorem sg_271 : rx_nth fx_SG 271 = some (2, 1, 3) := rfl
theorem cv_272 : rx_nth fx_CV 272 = some true := by decide +kernel
theorem ap_272 : rx_nth fx_AP 272 = some axm_272 := rfl
theorem sg_272 : rx_nth fx_SG 272 = some (0, 1, 2) := rfl
theorem cv_273 : rx_nth fx_CV 273 = some true := by decide +kernel
theorem ap_273 : rx_nth fx_AP 273 = some axm_273 := rfl
theorem sg_273 : rx_nth fx_SG 273 = some (1, 1, 2) := rfl
theorem cv_274 : rx_nth fx_CV 274 = some true := by decide +kernel
theorem ap_274 : rx_nth fx_AP 274 = some axm_274 := rfl
theorem sg_274 : rx_nth fx_SG 274 = some (0, 1, 3) := rfl
theorem cv_275 : rx_nth fx_CV 275 = some true := by decide +kernel
theorem ap_275 : rx_nth fx_AP 275 = some axm_275 := rfl
theorem sg_275 : rx_nth fx_SG 275 = some (1, 2, 3) := rfl
theorem cv_276 : rx_nth fx_CV 276 = some true := by decide +kernel
theorem ap_276 : rx_nth fx_AP 276 = some axm_276 := rfl
theorem sg_276 : rx_nth fx_SG 276 = some (3, 1, 5) := rfl
theorem cv_277 : rx_nth fx_CV 277 = some true := by decide +kernel
theorem ap_277 : rx_nth fx_AP 277 = some axm_277 := rfl
theorem sg_277 : rx_nth fx_SG 277 = some (0, 0, 3) := rfl
theorem cv_278 : rx_nth fx_CV 278 = some true := by decide +kernel
theorem ap_278 : rx_nth fx_AP 278 = some axm_278 := rfl
theorem sg_278 : rx_nth fx_SG 278 = some (0, 0, 5) := rfl
theorem cv_279 : rx_nth fx_CV 279 = some true := by decide +kernel
theorem ap_279 : rx_nth fx_AP 279 = some axm_279 := rfl
theorem sg_279 : rx_nth fx_SG 279 = some (1, 1, 4) := rfl
theorem cv_280 : rx_nth fx_CV 280 = some true := by decide +kernel
theorem ap_280 : rx_nth fx_AP 280 = some axm_280 := rfl
theorem sg_280 : rx_nth fx_SG 280 = some (3, 3, 7) := rfl
theorem cv_281 : rx_nth fx_CV 281 = some true := by decide +kernel
theorem ap_281 : rx_nth fx_AP 281 = some axm_281 := rfl
theorem sg_281 : rx_nth fx_SG 281 = some (2, 3, 3) := rfl
theorem cv_282 : rx_nth fx_CV 282 = some true := by decide +kernel
theorem ap_282 : rx_nth fx_AP 282 = some axm_282 := rfl
theorem sg_282 : rx_nth fx_SG 282 = some (0, 2, 1) := rfl
theorem cv_283 : rx_nth fx_CV 283 = some true := by decide +kernel
theorem ap_283 : rx_nth fx_AP 283 = some axm_283 := rfl
theorem sg_283 : rx_nth fx_SG 283 = some (0, 1, 1) := rfl
theorem cv_284 : rx_nth fx_CV 284 = some true := by decide +kernel
theorem ap_284 : rx_nth fx_AP 284 = some axm_284 := rfl
theorem sg_284 : rx_nth fx_SG 284 = some (3, 1, 4) := rfl
theorem cv_285 : rx_nth fx_CV 285 = some true := by decide +kernel
theorem ap_285 : rx_nth fx_AP 285 = some axm_285 := rfl
theorem sg_285 : rx_nth fx_SG 285 = some (0, 1, 3) := rfl
theorem cv_286 : rx_nth fx_CV 286 = some true := by decide +kernel
theorem ap_286 : rx_nth fx_AP 286 = some axm_286 := rfl
theorem sg_286 : rx_nth fx_SG 286 = some (0, 0, 4) := rfl
theorem cv_287 : rx_nth fx_CV 287 = some true := by decide +kernel
theorem ap_287 : rx_nth fx_AP 287 = some axm_287 := rfl
theorem sg_287 : rx_nth fx_SG 287 = some (2, 1, 3) := rfl
theorem cv_288 : rx_nth fx_CV 288 = some true := by decide +kernel
theorem ap_288 : rx_nth fx_AP 288 = some axm_288 := rfl
theorem sg_288 : rx_nth fx_SG 288 = some (1, 1, 2) := rfl
theorem cv_289 : rx_nth fx_CV 289 = some true := by decide +kernel
theorem ap_289 : rx_nth fx_AP 289 = some axm_289 := rfl
theorem sg_289 : rx_nth fx_SG 289 = some (3, 1, 4) := rfl
theorem cv_290 : rx_nth fx_CV 290 = some true := by decide +kernel
theorem ap_290 : rx_nth fx_AP 290 = some axm_290 := rfl
theorem sg_290 : rx_nth fx_SG 290 = some (2, 1, 4) := rfl
theorem cv_291 : rx_nth fx_CV 291 = some true := by decide +kernel
theorem ap_291 : rx_nth fx_AP 291 = some axm_291 := rfl
theorem sg_291 : rx_nth fx_SG 291 = some (1, 2, 4) := rfl
theorem cv_292 : rx_nth fx_CV 292 = some true := by decide +kernel
theorem ap_292 : rx_nth fx_AP 292 = some axm_292 := rfl
theorem sg_292 : rx_nth fx_SG 292 = some (0, 1, 5) := rfl
theorem cv_293 : rx_nth fx_CV 293 = some true := by decide +kernel
theorem ap_293 : rx_nth fx_AP 293 = some axm_293 := rfl
theorem sg_293 : rx_nth fx_SG 293 = some (0, 1, 3) := rfl
theorem cv_294 : rx_nth fx_CV 294 = some true := by decide +kernel
theorem ap_294 : rx_nth fx_AP 294 = some axm_294 := rfl
theorem sg_294 : rx_nth fx_SG 294 = some (0, 0, 5) := rfl
theorem cv_295 : rx_nth fx_CV 295 = some true := by decide +kernel
theorem ap_295 : rx_nth fx_AP 295 = some axm_295 := rfl
theorem sg_295 : rx_nth fx_SG 295 = some (1, 1, 4) := rfl
theorem cv_296 : rx_nth fx_CV 296 = some true := by decide +kernel
theorem ap_296 : rx_nth fx_AP 296 = some axm_296 := rfl
theorem sg_296 : rx_nth fx_SG 296 = some (1, 1, 2) := rfl
theorem cv_297 : rx_nth fx_CV 297 = some true := by decide +kernel
theorem ap_297 : rx_nth fx_AP 297 = some axm_297 := rfl
theorem sg_297 : rx_nth fx_SG 297 = some (1, 1, 2) := rfl
theorem cv_298 : rx_nth fx_CV 298 = some true := by decide +kernel
theorem ap_298 : rx_nth fx_AP 298 = some axm_298 := rfl
theorem sg_298 : rx_nth fx_SG 298 = some (2, 1, 4) := rfl
theorem cv_299 : rx_nth fx_CV 299 = some true := by decide +kernel
theorem ap_299 : rx_nth fx_AP 299 = some axm_299 := rfl
theorem sg_299 : rx_nth fx_SG 299 = some (1, 2, 4) := rfl
theorem cv_300 : rx_nth fx_CV 300 = some true := by decide +kernel
theorem ap_300 : rx_nth fx_AP 300 = some axm_300 := rfl
theorem sg_300 : rx_nth fx_SG 300 = some (1, 1, 6) := rfl
theorem cv_301 : rx_nth fx_CV 301 = some true := by decide +kernel
theorem ap_301 : rx_nth fx_AP 301 = some axm_301 := rfl
theorem sg_301 : rx_nth fx_SG 301 = some (3, 1, 6) := rfl
theorem cv_302 : rx_nth fx_CV 302 = some true := by decide +kernel
theorem ap_302 : rx_nth fx_AP 302 = some axm_302 := rfl
theorem sg_302 : rx_nth fx_SG 302 = some (2, 1, 4) := rfl
theorem cv_303 : rx_nth fx_CV 303 = some true := by decide +kernel
theorem ap_303 : rx_nth fx_AP 303 = some axm_303 := rfl
theorem sg_303 : rx_nth fx_SG 303 = some (2, 1, 3) := rfl
theorem cv_304 : rx_nth fx_CV 304 = some true := by decide +kernel
theorem ap_304 : rx_nth fx_AP 304 = some axm_304 := rfl
theorem sg_304 : rx_nth fx_SG 304 = some (1, 1, 2) := rfl
theorem cv_305 : rx_nth fx_CV 305 = some true := by decide +kernel
theorem ap_305 : rx_nth fx_AP 305 = some axm_305 := rfl
theorem sg_305 : rx_nth fx_SG 305 = some (0, 1, 3) := rfl
theorem cv_306 : rx_nth fx_CV 306 = some true := by decide +kernel
theorem ap_306 : rx_nth fx_AP 306 = some axm_306 := rfl
theorem sg_306 : rx_nth fx_SG 306 = some (1, 2, 4) := rfl
theorem cv_307 : rx_nth fx_CV 307 = some true := by decide +kernel
theorem ap_307 : rx_nth fx_AP 307 = some axm_307 := rfl
theorem sg_307 : rx_nth fx_SG 307 = some (1, 1, 3) := rfl
theorem cv_308 : rx_nth fx_CV 308 = some true := by decide +kernel
theorem ap_308 : rx_nth fx_AP 308 = some axm_308 := rfl
theorem sg_308 : rx_nth fx_SG 308 = some (1, 2, 4) := rfl
theorem cv_309 : rx_nth fx_CV 309 = some true := by decide +kernel
theorem ap_309 : rx_nth fx_AP 309 = some axm_309 := rfl
theorem sg_309 : rx_nth fx_SG 309 = some (2, 1, 4) := rfl
theorem cv_310 : rx_nth fx_CV 310 = some true := by decide +kernel
theorem ap_310 : rx_nth fx_AP 310 = some axm_310 := rfl
theorem sg_310 : rx_nth fx_SG 310 = some (2, 1, 3) := rfl
theorem cv_311 : rx_nth fx_CV 311 = some true := by decide +kernel
theorem ap_311 : rx_nth fx_AP 311 = some axm_311 := rfl
theorem sg_311 : rx_nth fx_SG 311 = some (2, 1, 3) := rfl
theorem cv_312 : rx_nth fx_CV 312 = some true := by decide +kernel
theorem ap_312 : rx_nth fx_AP 312 = some axm_312 := rfl
theorem sg_312 : rx_nth fx_SG 312 = some (1, 2, 4) := rfl
theorem cv_313 : rx_nth fx_CV 313 = some true := by decide +kernel
theorem ap_313 : rx_nth fx_AP 313 = some axm_313 := rfl
theorem sg_313 : rx_nth fx_SG 313 = some (1, 2, 4) := rfl
theorem cv_314 : rx_nth fx_CV 314 = some true := by decide +kernel
theorem ap_314 : rx_nth fx_AP 314 = some axm_314 := rfl
theorem sg_314 : rx_nth fx_SG 314 = some (1, 2, 4) := rfl
theorem cv_315 : rx_nth fx_CV 315 = some true := by decide +kernel
theorem ap_315 : rx_nth fx_AP 315 = some axm_315 := rfl
theorem sg_315 : rx_nth fx_SG 315 = some (1, 2, 4) := rfl
theorem cv_316 : rx_nth fx_CV 316 = some true := by decide +kernel
theorem ap_316 : rx_nth fx_AP 316 = some axm_316 := rfl
theorem sg_316 : rx_nth fx_SG 316 = some (1, 2, 4) := rfl
theorem cv_317 : rx_nth fx_CV 317 = some true := by decide +kernel
theorem ap_317 : rx_nth fx_AP 317 = some axm_317 := rfl
theorem sg_317 : rx_nth fx_SG 317 = some (1, 2, 4) := rfl
theorem cv_318 : rx_nth fx_CV 318 = some true := by decide +kernel
theorem ap_318 : rx_nth fx_AP 318 = some axm_318 := rfl
theorem sg_318 : rx_nth fx_SG 318 = some (1, 2, 4) := rfl
theorem cv_319 : rx_nth fx_CV 319 = some true := by decide +kernel
theorem ap_319 : rx_nth fx_AP 319 = some axm_319 := rfl
theorem sg_319 : rx_nth fx_SG 319 = some (1, 2, 4) := rfl
theorem cv_320 : rx_nth fx_CV 320 = some true := by decide +kernel
theorem ap_320 : rx_nth fx_AP 320 = some axm_320 := rfl
theorem sg_320 : rx_nth fx_SG 320 = some (1, 2, 4) := rfl
theorem cv_321 : rx_nth fx_CV 321 = some true := by decide +kernel
theorem ap_321 : rx_nth fx_AP 321 = some axm_321 := rfl
theorem sg_321 : rx_nth fx_SG 321 = some (1, 2, 4) := rfl
theorem cv_322 : rx_nth fx_CV 322 = some true := by decide +kernel
theorem ap_322 : rx_nth fx_AP 322 = some axm_322 := rfl
theorem sg_322 : rx_nth fx_SG 322 = some (1, 2, 4) := rfl
theorem cv_323 : rx_nth fx_CV 323 = some true := by decide +kernel
theorem ap_323 : rx_nth fx_AP 323 = some axm_323 := rfl
theorem sg_323 : rx_nth fx_SG 323 = some (1, 2, 4) := rfl
theorem cv_324 : rx_nth fx_CV 324 = some true := by decide +kernel
theorem ap_324 : rx_nth fx_AP 324 = some axm_324 := rfl
theorem sg_324 : rx_nth fx_SG 324 = some (1, 2, 4) := rfl
theorem cv_325 : rx_nth fx_CV 325 = some true := by decide +kernel
theorem ap_325 : rx_nth fx_AP 325 = some axm_325 := rfl
theorem sg_325 : rx_nth fx_SG 325 = some (1, 2, 4) := rfl
theorem cv_326 : rx_nth fx_CV 326 = some true := by decide +kernel
theorem ap_326 : rx_nth fx_AP 326 = some axm_326 := rfl
theorem sg_326 : rx_nth fx_SG 326 = some (1, 2, 4) := rfl
theorem cv_327 : rx_nth fx_CV 327 = some true := by decide +kernel
theorem ap_327 : rx_nth fx_AP 327 = some axm_327 := rfl
theorem sg_327 : rx_nth fx_SG 327 = some (1, 2, 4) := rfl
theorem cv_328 : rx_nth fx_CV 328 = some true := by decide +kernel
theorem ap_328 : rx_nth fx_AP 328 = some axm_328 := rfl
theorem sg_328 : rx_nth fx_SG 328 = some (1, 2, 4) := rfl
theorem cv_329 : rx_nth fx_CV 329 = some true := by decide +kernel
theorem ap_329 : rx_nth fx_AP 329 = some axm_329 := rfl
theorem sg_329 : rx_nth fx_SG 329 = some (0, 2, 1) := rfl
theorem cv_330 : rx_nth fx_CV 330 = some true := by decide +kernel
theorem ap_330 : rx_nth fx_AP 330 = some axm_330 := rfl
theorem sg_330 : rx_nth fx_SG 330 = some (0, 2, 2) := rfl
theorem cv_331 : rx_nth fx_CV 331 = some true := by decide +kernel
theorem ap_331 : rx_nth fx_AP 331 = some axm_331 := rfl
theorem sg_331 : rx_nth fx_SG 331 = some (0, 1, 3) := rfl
