/-! THE MODEL: working out a node with all its parts -/
section MWORKS2
variable {d k a b c e K : Nat} {h h1 h2 : AH}
set_option maxRecDepth 100000 in
set_option maxHeartbeats 300000 in
theorem w_leaf (hS : SH h) (hk : k < 310) (hK : K ≤ 1) (kd : ai h 81 k = nI K) (t1 : ai h 82 k = nI a) (t2 : ai h 83 k = nI b) : aCall (d + 1) 213 [.ref 78, .int (nI k)] h = wk d k a b h := by
  rw [aCall_go 200, x213]
  unfold wk
  simp (maxSteps := 2000000) (disch := first | ((repeat' first | assumption | apply SH_wi | apply SH_wj | apply SH_wAI | apply SH_wAJ); done) | omega | (apply in_n <;> omega) | exact Or.inl rfl | exact Or.inr rfl | exact bi_01 _ | ((simp only [gi_wAI, gi_wAJ, gi_wj, gi_wr, gj_wi, gj_wr, gj_wAI, gj_wAJ, gr_wi, gr_wj, gr_wAI, gr_wAJ, ai_wi, ai_wj, ai_wr, ai_wAJ, aj_wi, aj_wj, aj_wr, aj_wAI, ar_wi, ar_wj, ar_wr, ar_wAI, ar_wAJ, gi_wi_n, gj_wj_n, gr_wr_n, ai_wAI_n, aj_wAJ_n, SH_wi, SH_wj, SH_wAI, SH_wAJ, bi_01, and_false, false_and, ne_eq, if_true, if_false, true_and, and_true, not_true_eq_false, not_false_eq_true, Nat.reduceEqDiff, reduceCtorEq, or_true, true_or]); first | done | assumption)) only [lg_cmp_ge, lg_cmp_le, lg_cmp_gt, lg_cmp_lt, lg_cmp_eq, ↓ob, ↓pI, ↓pJ, ↓pR, ↓pV, ↓gO, ↓gI, ↓gJ, ↓gR, ↓gL, ↓gT, ↓lI, ↓lJ, ↓lR, psh, isRf, layA, padL, trimO, trimB, ld, ss1, ss2, killL, cmpB, popN, isR, putOk, e_ag, e_agn, List.set_cons_zero, List.set_cons_succ, List.getElem?_cons_zero, List.getElem?_cons_succ, List.length_cons, List.length_nil, Value.category, decide_eq_true_eq, reduceIte, Nat.reduceAdd, Nat.reduceEqDiff, Nat.reduceLeDiff, reduceCtorEq, and_self, and_true, true_and, not_true_eq_false, not_false_eq_true, or_false, false_or, or_true, true_or, beq_self_eq_true, Nat.reduceBEq, Bool.false_eq_true, false_implies, forall_const, ↓s213_0, ↓s213_1, ↓s213_4, ↓s213_5, ↓s213_6, ↓s213_7, ↓s213_8, ↓s213_11, ↓s213_12, ↓s213_13, ↓s213_14, ↓s213_15, ↓s213_18, ↓s213_19, ↓s213_20, ↓s213_21, ↓s213_24, ↓s213_25, ↓s213_26, ↓s213_29, ↓s213_30, ↓s213_33, ↓s213_34, ↓s213_35, ↓s213_36, ↓s213_39, ↓s213_40, ↓s213_43, ↓s213_44, ↓s213_45, ↓s213_46, ↓s213_49, ↓s213_50, ↓s213_53, ↓s213_54, ↓s213_55, ↓s213_57, ↓s213_60, ↓s213_61, ↓s213_64, ↓s213_65, ↓s213_66, ↓s213_68, ↓s213_71, ↓s213_72, ↓s213_73, ↓l213_76, ↓s213_77, ↓s213_80, ↓s213_81, ↓s213_82, ↓s213_128, ↓s213_129, ↓s213_130, ↓s213_131, ↓s213_132, ↓s213_133, ↓s213_134, ↓s213_137, ↓s213_138, ↓s213_139, ↓s213_140, ↓s213_141, ↓s213_142, ↓s213_145, ↓s213_146, ↓s213_147, ↓s213_148, ↓s213_149, ↓s213_152, ↓s213_153, ↓s213_154, ↓s213_155, ↓s213_158, ↓s213_159, ↓s213_160, ↓s213_163, ↓s213_164, ↓s213_165, ↓s213_166, ↓s213_169, ↓s213_172, ↓s213_175, ↓s213_176, ↓s213_177, ↓s213_180, ↓s213_183, ↓s213_186, ↓s213_187, ↓s213_188, ↓s213_191, ↓s213_192, ↓s213_193, ↓s213_194, ↓s213_195, ↓s213_198, ↓s213_199, ↓s213_200, ↓s213_201, ↓s213_202, ↓s213_205, ↓s213_206, ↓s213_207, ↓s213_208, ↓s213_211, ↓s213_212, ↓s213_213, ↓s213_214, ↓s213_217, ↓s213_218, ↓s213_219, ↓s213_220, ↓s213_221, ↓s213_224, ↓s213_225, ↓s213_226, ↓s213_227, ↓s213_228, ↓s213_231, ↓s213_232, ↓s213_233, ↓s213_236, ↓s213_237, ↓s213_238, ↓s213_239, ↓s213_240, ↓s213_243, ↓s213_244, ↓s213_245, ↓s213_246, ↓s213_247, ↓s213_250, ↓s213_251, ↓s213_252, ↓s213_253, ↓s213_256, ↓s213_257, ↓s213_258, ↓s213_259, ↓s213_260, ↓s213_263, ↓s213_264, ↓s213_265, ↓s213_266, ↓s213_269, ↓s213_270, ↓s213_271, ↓s213_272, ↓s213_275, ↓s213_276, ↓s213_277, ↓s213_278, ↓s213_281, ↓s213_282, ↓s213_283, ↓s213_284, ↓s213_287, ↓s213_288, ↓s213_289, ↓s213_290, ↓s213_291, ↓s213_294, ↓s213_295, ↓s213_296, ↓s213_297, ↓s213_300, ↓s213_301, ↓s213_302, ↓s213_303, ↓s213_304, ↓s213_307, ↓s213_308, ↓s213_309, ↓s213_312, ↓s213_313, ↓s213_316, ↓s213_317, ↓s213_318, ↓s213_321, ↓s213_322, ↓s213_325, ↓s213_326, ↓s213_329, ↓s213_330, ↓s213_331, ↓s213_332, ↓s213_333, ↓s213_336, ↓s213_337, ↓s213_338, ↓s213_339, ↓s213_342, ↓s213_343, ↓s213_344, ↓s213_345, ↓s213_346, ↓s213_349, ↓s213_350, ↓s213_351, ↓s213_352, ↓s213_355, ↓s213_356, ↓s213_357, ↓s213_358, ↓s213_361, ↓s213_362, ↓s213_363, ↓s213_364, ↓s213_367, ↓s213_368, ↓s213_369, ↓s213_370, ↓s213_373, ↓s213_374, ↓s213_375, ↓s213_376, ↓s213_377, ↓s213_380, ↓s213_381, ↓s213_382, ↓s213_383, ↓s213_386, ↓s213_387, ↓s213_388, ↓s213_389, ↓s213_390, ↓s213_393, ↓s213_394, ↓s213_395, ↓s213_398, ↓s213_399, ↓s213_402, ↓s213_403, ↓s213_404, ↓s213_407, ↓s213_408, ↓s213_411, ↓s213_412, ↓s213_415, ↓s213_416, ↓s213_417, ↓s213_418, ↓s213_419, ↓s213_420, ↓s213_423, ↓s213_424, ↓s213_425, ↓s213_426, ↓s213_427, ↓s213_430, ↓s213_431, ↓s213_432, ↓s213_433, ↓s213_434, ↓s213_437, ↓s213_438, ↓s213_441, ↓s213_442, ↓s213_443, ↓s213_444, ↓s213_445, ↓s213_448, ↓s213_451, ↓s213_452, ↓s213_453, ↓s213_454, ↓s213_457, ↓s213_458, ↓s213_459, ↓s213_460, ↓s213_461, ↓s213_464, ↓s213_465, ↓s213_468, ↓s213_469, ↓s213_470, ↓s213_471, ↓s213_472, ↓s213_475, ↓s213_476, ↓s213_479, ↓s213_480, ↓s213_481, ↓s213_484, ↓s213_485, ↓s213_486, ↓s213_487, ↓s213_488, ↓s213_489, ↓s213_492, x190, x210, x211, x213, x214, x215, x216, x293, nlit4, nlit5, nlit6, nlit8, gi_wAI, gi_wAJ, gi_wj, gi_wr, gj_wi, gj_wr, gj_wAI, gj_wAJ, gr_wi, gr_wj, gr_wAI, gr_wAJ, ai_wi, ai_wj, ai_wr, ai_wAJ, aj_wi, aj_wj, aj_wr, aj_wAI, ar_wi, ar_wj, ar_wr, ar_wAI, ar_wAJ, gi_wi_n, gj_wj_n, gr_wr_n, ai_wAI_n, aj_wAJ_n, SH_wi, SH_wj, SH_wAI, SH_wAJ, bi_01, and_false, false_and, ne_eq, if_true, if_false, true_and, and_true, not_true_eq_false, not_false_eq_true, Nat.reduceEqDiff, reduceCtorEq, or_true, true_or, ltT, ltF, leT, leF, eqF, lt0F, le0T, eq0F, lt0T, le0F, nle1T, nle1F, n1leT, n1leF, nlt1T, nlt1F, n1ltT, n1ltF, neq1F, neq1T, neq0T, nle0T, n0ltF, n_add, n_succ, n_sub, n_sub1, n_mul, ↓n_rem, cl_n, bi_0, bi_ok, bi_i8, narb, bi0, bi1, nar0, nar1, one0, zer1, ↓kont_go 200, ↓O78, ↓G78_0, g78_0, ↓U78_0, ↓G78_1, ↓G78_2, g78_2, ↓U78_2, ↓G78_3, g78_3, ↓U78_3, ↓G78_4, g78_4, ↓U78_4, ↓G78_5, g78_5, ↓U78_5, ↓G78_6, g78_6, ↓U78_6, ↓G78_7, g78_7, ↓U78_7, ↓G78_8, ↓G78_9, ↓G78_10, ↓G78_11, ↓G78_12, ↓G78_13, ↓G78_14, ↓G78_15, ↓G78_16, ↓G78_17, ↓G78_18, g78_18, ↓U78_18, ↓G78_19, ↓G78_20, g78_20, ↓U78_20, ↓G78_21, ↓G78_22, ↓G78_23, ↓G78_24, ↓G78_25, ↓G78_26, ↓G78_27, g78_27, ↓U78_27, ↓G78_28, g78_28, ↓U78_28, ↓G78_29, g78_29, ↓U78_29, ↓G78_30, g78_30, ↓U78_30, ↓G78_31, g78_31, ↓U78_31, ↓G78_32, g78_32, ↓U78_32, ↓G78_33, g78_33, ↓U78_33, ↓G78_34, g78_34, ↓U78_34, ↓G78_35, ↓G78_36, g78_36, ↓U78_36, ↓G78_37, g78_37, ↓U78_37, ↓G78_38, g78_38, ↓U78_38, ↓G78_39, g78_39, ↓U78_39, ↓G78_40, g78_40, ↓U78_40, ↓G78_41, g78_41, ↓U78_41, ↓G78_42, g78_42, ↓U78_42, ↓G78_43, g78_43, ↓U78_43, ↓G78_44, ↓G78_45, ↓G78_46, ↓G78_47, ↓G78_48, ↓G78_49, ↓G78_50, ↓G78_51, g78_51, ↓U78_51, ↓G78_52, g78_52, ↓U78_52, ↓G78_53, g78_53, ↓U78_53, ↓G78_54, g78_54, ↓U78_54, ↓G78_55, g78_55, ↓U78_55, ↓G78_56, ↓G78_57, g78_57, ↓U78_57, ↓G78_58, g78_58, ↓U78_58, ↓G78_59, g78_59, ↓U78_59, ↓G78_60, g78_60, ↓U78_60, ↓G78_61, g78_61, ↓U78_61, ↓G78_62, ↓G78_63, ↓G78_64, ↓G78_65, ↓G78_66, ↓G78_67, ↓G78_68, ↓G78_69, ↓G78_70, ↓G78_71, g78_71, ↓U78_71, ↓G78_72, ↓G78_73, ↓E81, a81, ↓I81, ↓W81, ↓E82, a82, ↓I82, ↓W82, ↓E83, a83, ↓I83, ↓W83, kd, t1, t2]
set_option maxRecDepth 100000 in
set_option maxHeartbeats 300000 in
theorem w_un (hS : SH h) (hk : k < 310) (hK : 1 < K ∧ K < 9 ∧ K ≠ 4 ∧ K ≠ 5 ∧ K ≠ 6 ∧ K ≠ 8) (kd : ai h 81 k = nI K) (t1 : ai h 82 k = nI a) (t2 : ai h 83 k = nI b) (e1 : aCall d 213 [.ref 78, .int (nI a)] h = some (none, h1)) (S1 : SH h1) (kd1 : ai h1 81 k = nI K) : aCall (d + 1) 213 [.ref 78, .int (nI k)] h = wk d k a b h1 := by
  rw [aCall_go 200, x213]
  unfold wk
  simp (maxSteps := 2000000) (disch := first | ((repeat' first | assumption | apply SH_wi | apply SH_wj | apply SH_wAI | apply SH_wAJ); done) | omega | (apply in_n <;> omega) | exact Or.inl rfl | exact Or.inr rfl | exact bi_01 _ | ((simp only [gi_wAI, gi_wAJ, gi_wj, gi_wr, gj_wi, gj_wr, gj_wAI, gj_wAJ, gr_wi, gr_wj, gr_wAI, gr_wAJ, ai_wi, ai_wj, ai_wr, ai_wAJ, aj_wi, aj_wj, aj_wr, aj_wAI, ar_wi, ar_wj, ar_wr, ar_wAI, ar_wAJ, gi_wi_n, gj_wj_n, gr_wr_n, ai_wAI_n, aj_wAJ_n, SH_wi, SH_wj, SH_wAI, SH_wAJ, bi_01, and_false, false_and, ne_eq, if_true, if_false, true_and, and_true, not_true_eq_false, not_false_eq_true, Nat.reduceEqDiff, reduceCtorEq, or_true, true_or]); first | done | assumption)) only [lg_cmp_ge, lg_cmp_le, lg_cmp_gt, lg_cmp_lt, lg_cmp_eq, ↓ob, ↓pI, ↓pJ, ↓pR, ↓pV, ↓gO, ↓gI, ↓gJ, ↓gR, ↓gL, ↓gT, ↓lI, ↓lJ, ↓lR, psh, isRf, layA, padL, trimO, trimB, ld, ss1, ss2, killL, cmpB, popN, isR, putOk, e_ag, e_agn, List.set_cons_zero, List.set_cons_succ, List.getElem?_cons_zero, List.getElem?_cons_succ, List.length_cons, List.length_nil, Value.category, decide_eq_true_eq, reduceIte, Nat.reduceAdd, Nat.reduceEqDiff, Nat.reduceLeDiff, reduceCtorEq, and_self, and_true, true_and, not_true_eq_false, not_false_eq_true, or_false, false_or, or_true, true_or, beq_self_eq_true, Nat.reduceBEq, Bool.false_eq_true, false_implies, forall_const, ↓s213_0, ↓s213_1, ↓s213_4, ↓s213_5, ↓s213_6, ↓s213_7, ↓s213_8, ↓s213_11, ↓s213_12, ↓s213_13, ↓s213_14, ↓s213_15, ↓s213_18, ↓s213_19, ↓s213_20, ↓s213_21, ↓s213_24, ↓s213_25, ↓s213_26, ↓s213_29, ↓s213_30, ↓s213_33, ↓s213_34, ↓s213_35, ↓s213_36, ↓s213_39, ↓s213_40, ↓s213_43, ↓s213_44, ↓s213_45, ↓s213_46, ↓s213_49, ↓s213_50, ↓s213_53, ↓s213_54, ↓s213_55, ↓s213_57, ↓s213_60, ↓s213_61, ↓s213_64, ↓s213_65, ↓s213_66, ↓s213_68, ↓s213_71, ↓s213_72, ↓s213_73, ↓l213_76, ↓s213_77, ↓s213_80, ↓s213_81, ↓s213_82, ↓s213_128, ↓s213_129, ↓s213_130, ↓s213_131, ↓s213_132, ↓s213_133, ↓s213_134, ↓s213_137, ↓s213_138, ↓s213_139, ↓s213_140, ↓s213_141, ↓s213_142, ↓s213_145, ↓s213_146, ↓s213_147, ↓s213_148, ↓s213_149, ↓s213_152, ↓s213_153, ↓s213_154, ↓s213_155, ↓s213_158, ↓s213_159, ↓s213_160, ↓s213_163, ↓s213_164, ↓s213_165, ↓s213_166, ↓s213_169, ↓s213_172, ↓s213_175, ↓s213_176, ↓s213_177, ↓s213_180, ↓s213_183, ↓s213_186, ↓s213_187, ↓s213_188, ↓s213_191, ↓s213_192, ↓s213_193, ↓s213_194, ↓s213_195, ↓s213_198, ↓s213_199, ↓s213_200, ↓s213_201, ↓s213_202, ↓s213_205, ↓s213_206, ↓s213_207, ↓s213_208, ↓s213_211, ↓s213_212, ↓s213_213, ↓s213_214, ↓s213_217, ↓s213_218, ↓s213_219, ↓s213_220, ↓s213_221, ↓s213_224, ↓s213_225, ↓s213_226, ↓s213_227, ↓s213_228, ↓s213_231, ↓s213_232, ↓s213_233, ↓s213_236, ↓s213_237, ↓s213_238, ↓s213_239, ↓s213_240, ↓s213_243, ↓s213_244, ↓s213_245, ↓s213_246, ↓s213_247, ↓s213_250, ↓s213_251, ↓s213_252, ↓s213_253, ↓s213_256, ↓s213_257, ↓s213_258, ↓s213_259, ↓s213_260, ↓s213_263, ↓s213_264, ↓s213_265, ↓s213_266, ↓s213_269, ↓s213_270, ↓s213_271, ↓s213_272, ↓s213_275, ↓s213_276, ↓s213_277, ↓s213_278, ↓s213_281, ↓s213_282, ↓s213_283, ↓s213_284, ↓s213_287, ↓s213_288, ↓s213_289, ↓s213_290, ↓s213_291, ↓s213_294, ↓s213_295, ↓s213_296, ↓s213_297, ↓s213_300, ↓s213_301, ↓s213_302, ↓s213_303, ↓s213_304, ↓s213_307, ↓s213_308, ↓s213_309, ↓s213_312, ↓s213_313, ↓s213_316, ↓s213_317, ↓s213_318, ↓s213_321, ↓s213_322, ↓s213_325, ↓s213_326, ↓s213_329, ↓s213_330, ↓s213_331, ↓s213_332, ↓s213_333, ↓s213_336, ↓s213_337, ↓s213_338, ↓s213_339, ↓s213_342, ↓s213_343, ↓s213_344, ↓s213_345, ↓s213_346, ↓s213_349, ↓s213_350, ↓s213_351, ↓s213_352, ↓s213_355, ↓s213_356, ↓s213_357, ↓s213_358, ↓s213_361, ↓s213_362, ↓s213_363, ↓s213_364, ↓s213_367, ↓s213_368, ↓s213_369, ↓s213_370, ↓s213_373, ↓s213_374, ↓s213_375, ↓s213_376, ↓s213_377, ↓s213_380, ↓s213_381, ↓s213_382, ↓s213_383, ↓s213_386, ↓s213_387, ↓s213_388, ↓s213_389, ↓s213_390, ↓s213_393, ↓s213_394, ↓s213_395, ↓s213_398, ↓s213_399, ↓s213_402, ↓s213_403, ↓s213_404, ↓s213_407, ↓s213_408, ↓s213_411, ↓s213_412, ↓s213_415, ↓s213_416, ↓s213_417, ↓s213_418, ↓s213_419, ↓s213_420, ↓s213_423, ↓s213_424, ↓s213_425, ↓s213_426, ↓s213_427, ↓s213_430, ↓s213_431, ↓s213_432, ↓s213_433, ↓s213_434, ↓s213_437, ↓s213_438, ↓s213_441, ↓s213_442, ↓s213_443, ↓s213_444, ↓s213_445, ↓s213_448, ↓s213_451, ↓s213_452, ↓s213_453, ↓s213_454, ↓s213_457, ↓s213_458, ↓s213_459, ↓s213_460, ↓s213_461, ↓s213_464, ↓s213_465, ↓s213_468, ↓s213_469, ↓s213_470, ↓s213_471, ↓s213_472, ↓s213_475, ↓s213_476, ↓s213_479, ↓s213_480, ↓s213_481, ↓s213_484, ↓s213_485, ↓s213_486, ↓s213_487, ↓s213_488, ↓s213_489, ↓s213_492, x190, x210, x211, x213, x214, x215, x216, x293, nlit4, nlit5, nlit6, nlit8, gi_wAI, gi_wAJ, gi_wj, gi_wr, gj_wi, gj_wr, gj_wAI, gj_wAJ, gr_wi, gr_wj, gr_wAI, gr_wAJ, ai_wi, ai_wj, ai_wr, ai_wAJ, aj_wi, aj_wj, aj_wr, aj_wAI, ar_wi, ar_wj, ar_wr, ar_wAI, ar_wAJ, gi_wi_n, gj_wj_n, gr_wr_n, ai_wAI_n, aj_wAJ_n, SH_wi, SH_wj, SH_wAI, SH_wAJ, bi_01, and_false, false_and, ne_eq, if_true, if_false, true_and, and_true, not_true_eq_false, not_false_eq_true, Nat.reduceEqDiff, reduceCtorEq, or_true, true_or, ltT, ltF, leT, leF, eqF, lt0F, le0T, eq0F, lt0T, le0F, nle1T, nle1F, n1leT, n1leF, nlt1T, nlt1F, n1ltT, n1ltF, neq1F, neq1T, neq0T, nle0T, n0ltF, n_add, n_succ, n_sub, n_sub1, n_mul, ↓n_rem, cl_n, bi_0, bi_ok, bi_i8, narb, bi0, bi1, nar0, nar1, one0, zer1, ↓kont_go 200, ↓O78, ↓G78_0, g78_0, ↓U78_0, ↓G78_1, ↓G78_2, g78_2, ↓U78_2, ↓G78_3, g78_3, ↓U78_3, ↓G78_4, g78_4, ↓U78_4, ↓G78_5, g78_5, ↓U78_5, ↓G78_6, g78_6, ↓U78_6, ↓G78_7, g78_7, ↓U78_7, ↓G78_8, ↓G78_9, ↓G78_10, ↓G78_11, ↓G78_12, ↓G78_13, ↓G78_14, ↓G78_15, ↓G78_16, ↓G78_17, ↓G78_18, g78_18, ↓U78_18, ↓G78_19, ↓G78_20, g78_20, ↓U78_20, ↓G78_21, ↓G78_22, ↓G78_23, ↓G78_24, ↓G78_25, ↓G78_26, ↓G78_27, g78_27, ↓U78_27, ↓G78_28, g78_28, ↓U78_28, ↓G78_29, g78_29, ↓U78_29, ↓G78_30, g78_30, ↓U78_30, ↓G78_31, g78_31, ↓U78_31, ↓G78_32, g78_32, ↓U78_32, ↓G78_33, g78_33, ↓U78_33, ↓G78_34, g78_34, ↓U78_34, ↓G78_35, ↓G78_36, g78_36, ↓U78_36, ↓G78_37, g78_37, ↓U78_37, ↓G78_38, g78_38, ↓U78_38, ↓G78_39, g78_39, ↓U78_39, ↓G78_40, g78_40, ↓U78_40, ↓G78_41, g78_41, ↓U78_41, ↓G78_42, g78_42, ↓U78_42, ↓G78_43, g78_43, ↓U78_43, ↓G78_44, ↓G78_45, ↓G78_46, ↓G78_47, ↓G78_48, ↓G78_49, ↓G78_50, ↓G78_51, g78_51, ↓U78_51, ↓G78_52, g78_52, ↓U78_52, ↓G78_53, g78_53, ↓U78_53, ↓G78_54, g78_54, ↓U78_54, ↓G78_55, g78_55, ↓U78_55, ↓G78_56, ↓G78_57, g78_57, ↓U78_57, ↓G78_58, g78_58, ↓U78_58, ↓G78_59, g78_59, ↓U78_59, ↓G78_60, g78_60, ↓U78_60, ↓G78_61, g78_61, ↓U78_61, ↓G78_62, ↓G78_63, ↓G78_64, ↓G78_65, ↓G78_66, ↓G78_67, ↓G78_68, ↓G78_69, ↓G78_70, ↓G78_71, g78_71, ↓U78_71, ↓G78_72, ↓G78_73, ↓E81, a81, ↓I81, ↓W81, ↓E82, a82, ↓I82, ↓W82, ↓E83, a83, ↓I83, ↓W83, kd, kd1, t1, t2, e1]
set_option maxRecDepth 100000 in
set_option maxHeartbeats 300000 in
theorem w_bin (hS : SH h) (hk : k < 310) (hK : K = 4 ∨ K = 5 ∨ K = 6 ∨ K = 8) (kd : ai h 81 k = nI K) (t1 : ai h 82 k = nI a) (t2 : ai h 83 k = nI b) (e1 : aCall d 213 [.ref 78, .int (nI a)] h = some (none, h1)) (S1 : SH h1) (kd1 : ai h1 81 k = nI K) (e2 : aCall d 213 [.ref 78, .int (nI b)] h1 = some (none, h2)) : aCall (d + 1) 213 [.ref 78, .int (nI k)] h = wk d k a b h2 := by
  rw [aCall_go 200, x213]
  unfold wk
  rcases hK with rfl | rfl | rfl | rfl <;> simp (maxSteps := 2000000) (disch := first | ((repeat' first | assumption | apply SH_wi | apply SH_wj | apply SH_wAI | apply SH_wAJ); done) | omega | (apply in_n <;> omega) | exact Or.inl rfl | exact Or.inr rfl | exact bi_01 _ | ((simp only [gi_wAI, gi_wAJ, gi_wj, gi_wr, gj_wi, gj_wr, gj_wAI, gj_wAJ, gr_wi, gr_wj, gr_wAI, gr_wAJ, ai_wi, ai_wj, ai_wr, ai_wAJ, aj_wi, aj_wj, aj_wr, aj_wAI, ar_wi, ar_wj, ar_wr, ar_wAI, ar_wAJ, gi_wi_n, gj_wj_n, gr_wr_n, ai_wAI_n, aj_wAJ_n, SH_wi, SH_wj, SH_wAI, SH_wAJ, bi_01, and_false, false_and, ne_eq, if_true, if_false, true_and, and_true, not_true_eq_false, not_false_eq_true, Nat.reduceEqDiff, reduceCtorEq, or_true, true_or]); first | done | assumption)) only [lg_cmp_ge, lg_cmp_le, lg_cmp_gt, lg_cmp_lt, lg_cmp_eq, ↓ob, ↓pI, ↓pJ, ↓pR, ↓pV, ↓gO, ↓gI, ↓gJ, ↓gR, ↓gL, ↓gT, ↓lI, ↓lJ, ↓lR, psh, isRf, layA, padL, trimO, trimB, ld, ss1, ss2, killL, cmpB, popN, isR, putOk, e_ag, e_agn, List.set_cons_zero, List.set_cons_succ, List.getElem?_cons_zero, List.getElem?_cons_succ, List.length_cons, List.length_nil, Value.category, decide_eq_true_eq, reduceIte, Nat.reduceAdd, Nat.reduceEqDiff, Nat.reduceLeDiff, reduceCtorEq, and_self, and_true, true_and, not_true_eq_false, not_false_eq_true, or_false, false_or, or_true, true_or, beq_self_eq_true, Nat.reduceBEq, Bool.false_eq_true, false_implies, forall_const, ↓s213_0, ↓s213_1, ↓s213_4, ↓s213_5, ↓s213_6, ↓s213_7, ↓s213_8, ↓s213_11, ↓s213_12, ↓s213_13, ↓s213_14, ↓s213_15, ↓s213_18, ↓s213_19, ↓s213_20, ↓s213_21, ↓s213_24, ↓s213_25, ↓s213_26, ↓s213_29, ↓s213_30, ↓s213_33, ↓s213_34, ↓s213_35, ↓s213_36, ↓s213_39, ↓s213_40, ↓s213_43, ↓s213_44, ↓s213_45, ↓s213_46, ↓s213_49, ↓s213_50, ↓s213_53, ↓s213_54, ↓s213_55, ↓s213_57, ↓s213_60, ↓s213_61, ↓s213_64, ↓s213_65, ↓s213_66, ↓s213_68, ↓s213_71, ↓s213_72, ↓s213_73, ↓l213_76, ↓s213_77, ↓s213_80, ↓s213_81, ↓s213_82, ↓s213_128, ↓s213_129, ↓s213_130, ↓s213_131, ↓s213_132, ↓s213_133, ↓s213_134, ↓s213_137, ↓s213_138, ↓s213_139, ↓s213_140, ↓s213_141, ↓s213_142, ↓s213_145, ↓s213_146, ↓s213_147, ↓s213_148, ↓s213_149, ↓s213_152, ↓s213_153, ↓s213_154, ↓s213_155, ↓s213_158, ↓s213_159, ↓s213_160, ↓s213_163, ↓s213_164, ↓s213_165, ↓s213_166, ↓s213_169, ↓s213_172, ↓s213_175, ↓s213_176, ↓s213_177, ↓s213_180, ↓s213_183, ↓s213_186, ↓s213_187, ↓s213_188, ↓s213_191, ↓s213_192, ↓s213_193, ↓s213_194, ↓s213_195, ↓s213_198, ↓s213_199, ↓s213_200, ↓s213_201, ↓s213_202, ↓s213_205, ↓s213_206, ↓s213_207, ↓s213_208, ↓s213_211, ↓s213_212, ↓s213_213, ↓s213_214, ↓s213_217, ↓s213_218, ↓s213_219, ↓s213_220, ↓s213_221, ↓s213_224, ↓s213_225, ↓s213_226, ↓s213_227, ↓s213_228, ↓s213_231, ↓s213_232, ↓s213_233, ↓s213_236, ↓s213_237, ↓s213_238, ↓s213_239, ↓s213_240, ↓s213_243, ↓s213_244, ↓s213_245, ↓s213_246, ↓s213_247, ↓s213_250, ↓s213_251, ↓s213_252, ↓s213_253, ↓s213_256, ↓s213_257, ↓s213_258, ↓s213_259, ↓s213_260, ↓s213_263, ↓s213_264, ↓s213_265, ↓s213_266, ↓s213_269, ↓s213_270, ↓s213_271, ↓s213_272, ↓s213_275, ↓s213_276, ↓s213_277, ↓s213_278, ↓s213_281, ↓s213_282, ↓s213_283, ↓s213_284, ↓s213_287, ↓s213_288, ↓s213_289, ↓s213_290, ↓s213_291, ↓s213_294, ↓s213_295, ↓s213_296, ↓s213_297, ↓s213_300, ↓s213_301, ↓s213_302, ↓s213_303, ↓s213_304, ↓s213_307, ↓s213_308, ↓s213_309, ↓s213_312, ↓s213_313, ↓s213_316, ↓s213_317, ↓s213_318, ↓s213_321, ↓s213_322, ↓s213_325, ↓s213_326, ↓s213_329, ↓s213_330, ↓s213_331, ↓s213_332, ↓s213_333, ↓s213_336, ↓s213_337, ↓s213_338, ↓s213_339, ↓s213_342, ↓s213_343, ↓s213_344, ↓s213_345, ↓s213_346, ↓s213_349, ↓s213_350, ↓s213_351, ↓s213_352, ↓s213_355, ↓s213_356, ↓s213_357, ↓s213_358, ↓s213_361, ↓s213_362, ↓s213_363, ↓s213_364, ↓s213_367, ↓s213_368, ↓s213_369, ↓s213_370, ↓s213_373, ↓s213_374, ↓s213_375, ↓s213_376, ↓s213_377, ↓s213_380, ↓s213_381, ↓s213_382, ↓s213_383, ↓s213_386, ↓s213_387, ↓s213_388, ↓s213_389, ↓s213_390, ↓s213_393, ↓s213_394, ↓s213_395, ↓s213_398, ↓s213_399, ↓s213_402, ↓s213_403, ↓s213_404, ↓s213_407, ↓s213_408, ↓s213_411, ↓s213_412, ↓s213_415, ↓s213_416, ↓s213_417, ↓s213_418, ↓s213_419, ↓s213_420, ↓s213_423, ↓s213_424, ↓s213_425, ↓s213_426, ↓s213_427, ↓s213_430, ↓s213_431, ↓s213_432, ↓s213_433, ↓s213_434, ↓s213_437, ↓s213_438, ↓s213_441, ↓s213_442, ↓s213_443, ↓s213_444, ↓s213_445, ↓s213_448, ↓s213_451, ↓s213_452, ↓s213_453, ↓s213_454, ↓s213_457, ↓s213_458, ↓s213_459, ↓s213_460, ↓s213_461, ↓s213_464, ↓s213_465, ↓s213_468, ↓s213_469, ↓s213_470, ↓s213_471, ↓s213_472, ↓s213_475, ↓s213_476, ↓s213_479, ↓s213_480, ↓s213_481, ↓s213_484, ↓s213_485, ↓s213_486, ↓s213_487, ↓s213_488, ↓s213_489, ↓s213_492, x190, x210, x211, x213, x214, x215, x216, x293, nlit4, nlit5, nlit6, nlit8, gi_wAI, gi_wAJ, gi_wj, gi_wr, gj_wi, gj_wr, gj_wAI, gj_wAJ, gr_wi, gr_wj, gr_wAI, gr_wAJ, ai_wi, ai_wj, ai_wr, ai_wAJ, aj_wi, aj_wj, aj_wr, aj_wAI, ar_wi, ar_wj, ar_wr, ar_wAI, ar_wAJ, gi_wi_n, gj_wj_n, gr_wr_n, ai_wAI_n, aj_wAJ_n, SH_wi, SH_wj, SH_wAI, SH_wAJ, bi_01, and_false, false_and, ne_eq, if_true, if_false, true_and, and_true, not_true_eq_false, not_false_eq_true, Nat.reduceEqDiff, reduceCtorEq, or_true, true_or, ltT, ltF, leT, leF, eqF, lt0F, le0T, eq0F, lt0T, le0F, nle1T, nle1F, n1leT, n1leF, nlt1T, nlt1F, n1ltT, n1ltF, neq1F, neq1T, neq0T, nle0T, n0ltF, n_add, n_succ, n_sub, n_sub1, n_mul, ↓n_rem, cl_n, bi_0, bi_ok, bi_i8, narb, bi0, bi1, nar0, nar1, one0, zer1, ↓kont_go 200, ↓O78, ↓G78_0, g78_0, ↓U78_0, ↓G78_1, ↓G78_2, g78_2, ↓U78_2, ↓G78_3, g78_3, ↓U78_3, ↓G78_4, g78_4, ↓U78_4, ↓G78_5, g78_5, ↓U78_5, ↓G78_6, g78_6, ↓U78_6, ↓G78_7, g78_7, ↓U78_7, ↓G78_8, ↓G78_9, ↓G78_10, ↓G78_11, ↓G78_12, ↓G78_13, ↓G78_14, ↓G78_15, ↓G78_16, ↓G78_17, ↓G78_18, g78_18, ↓U78_18, ↓G78_19, ↓G78_20, g78_20, ↓U78_20, ↓G78_21, ↓G78_22, ↓G78_23, ↓G78_24, ↓G78_25, ↓G78_26, ↓G78_27, g78_27, ↓U78_27, ↓G78_28, g78_28, ↓U78_28, ↓G78_29, g78_29, ↓U78_29, ↓G78_30, g78_30, ↓U78_30, ↓G78_31, g78_31, ↓U78_31, ↓G78_32, g78_32, ↓U78_32, ↓G78_33, g78_33, ↓U78_33, ↓G78_34, g78_34, ↓U78_34, ↓G78_35, ↓G78_36, g78_36, ↓U78_36, ↓G78_37, g78_37, ↓U78_37, ↓G78_38, g78_38, ↓U78_38, ↓G78_39, g78_39, ↓U78_39, ↓G78_40, g78_40, ↓U78_40, ↓G78_41, g78_41, ↓U78_41, ↓G78_42, g78_42, ↓U78_42, ↓G78_43, g78_43, ↓U78_43, ↓G78_44, ↓G78_45, ↓G78_46, ↓G78_47, ↓G78_48, ↓G78_49, ↓G78_50, ↓G78_51, g78_51, ↓U78_51, ↓G78_52, g78_52, ↓U78_52, ↓G78_53, g78_53, ↓U78_53, ↓G78_54, g78_54, ↓U78_54, ↓G78_55, g78_55, ↓U78_55, ↓G78_56, ↓G78_57, g78_57, ↓U78_57, ↓G78_58, g78_58, ↓U78_58, ↓G78_59, g78_59, ↓U78_59, ↓G78_60, g78_60, ↓U78_60, ↓G78_61, g78_61, ↓U78_61, ↓G78_62, ↓G78_63, ↓G78_64, ↓G78_65, ↓G78_66, ↓G78_67, ↓G78_68, ↓G78_69, ↓G78_70, ↓G78_71, g78_71, ↓U78_71, ↓G78_72, ↓G78_73, ↓E81, a81, ↓I81, ↓W81, ↓E82, a82, ↓I82, ↓W82, ↓E83, a83, ↓I83, ↓W83, kd, kd1, t1, t2, e1, e2, eq_self]
theorem TabIs.keep {T : NT} {j : Nat} {L S : List Nat} (t : TabIs h T j) (F : FM L S h h1) (hl : ∀ x, x ∈ [81, 82, 83, 84, 85] → x ∉ L) : TabIs h1 T j := by
  obtain ⟨t1, t2, t3, t4, t5⟩ := t
  refine ⟨?_, ?_, ?_, ?_, ?_⟩
  · rw [F.ai (hl _ (by decide))]; exact t1
  · rw [F.ai (hl _ (by decide))]; exact t2
  · rw [F.ai (hl _ (by decide))]; exact t3
  · rw [F.ai (hl _ (by decide))]; exact t4
  · rw [F.ai (hl _ (by decide))]; exact t5
theorem MLet.keep {E : LE} {L S : List Nat} (t : MLet h E) (F : FM L S h h1) (hl : ∀ x, x ∈ [88, 89] → x ∉ L) : MLet h1 E := by
  intro x hx
  rw [F.aj (hl 88 (by decide)), F.aj (hl 89 (by decide))]
  exact t x hx
theorem WR.of_leaf {r : VV} (N : NodeR h h1 k r) : WR h h1 k k (r, 0) := ⟨N.1, N.2.1, fun j hj => N.2.2.1 j (by omega), by rw [N.2.2.2]; exact (Int32.add_zero _).symm⟩
theorem WR.un {s : Nat} {r : VV × Nat} {w : VV} (R : WR h h1 s a r) (hs : s ≤ a) (ha : a < k) (N : NodeR h1 h2 k w) : WR h h2 s k (w, r.2) := ⟨R.1.trans N.1, N.2.1, fun j hj => (R.2.2.1 j (by omega)).trans (N.2.2.1 j (by omega)), by rw [N.2.2.2, R.2.2.2]⟩
theorem WR.bi {s t : Nat} {r q : VV × Nat} {w : VV} {h3 : AH} (R : WR h h1 s a r) (Q : WR h1 h2 t b q) (hs : s ≤ a) (ht : a < t) (hb : t ≤ b) (hk : b < k) (N : NodeR h2 h3 k w) : WR h h3 s k (w, r.2 + q.2) := ⟨(R.1.trans Q.1).trans N.1, N.2.1, fun j hj => ((R.2.2.1 j (by omega)).trans (Q.2.2.1 j (by omega))).trans (N.2.2.1 j (by omega)), by rw [N.2.2.2, Q.2.2.2, R.2.2.2, Int32.add_assoc, n_add]⟩
theorem m_works {T : NT} {E : LE} (hE : LEB E) : ∀ (n D k s : Nat), 2 * n + 8 ≤ D → trN T n k s → k < 310 → ∀ h, SH h → MLet h E → (∀ j, s ≤ j → j ≤ k → TabIs h T j) → ∃ h', aCall D 213 [.ref 78, .int (nI k)] h = some (none, h') ∧ WR h h' s k (evN T E n k) := by
  intro n
  induction n with
  | zero => intro D k s _ t; exact t.elim
  | succ n ih =>
    intro D k s hD t hk h hS L tab
    obtain ⟨D, rfl⟩ : ∃ D', D = D' + 8 := ⟨D - 8, by omega⟩
    have hsk := trN_le _ _ _ t
    obtain ⟨k1, k2, k3, k4, k5⟩ := tab k hsk (Nat.le_refl _)
    unfold trN at t
    unfold evN
    split at t
    · rename_i a w ee
      rw [ee] at k1 k2 k3 ⊢
      obtain ⟨rfl, hv⟩ := t
      obtain ⟨h', e1, N⟩ := p_num (d := D + 3) (b := w.1) hS hk k1 hv
      exact ⟨h', by rw [w_leaf (d := D + 7) hS hk (by dsimp only; omega) k1 k2 k3]; exact e1, WR.of_leaf N⟩
    · rename_i a w ee
      rw [ee] at k1 k2 k3 ⊢
      obtain ⟨rfl, ha⟩ := t
      obtain ⟨h', e1, N⟩ := p_let (d := D + 3) (b := w.1) hS hk k1 ha L (hE a).1 (hE a).2
      exact ⟨h', by rw [w_leaf (d := D + 7) hS hk (by dsimp only; omega) k1 k2 k3]; exact e1, WR.of_leaf N⟩
    · rename_i a w ee
      rw [ee] at k1 k2 k3 ⊢
      obtain ⟨ea, ta⟩ := t
      have sa := trN_le _ _ _ ta
      obtain ⟨h1, e1, R1⟩ := ih (D + 7) a s (by omega) ta (by omega) h hS L (fun j q1 q2 => tab j q1 (by omega))
      have f81 := R1.1.ai (b := 81) (by decide)
      obtain ⟨h', e2, N⟩ := p_neg (d := D + 3) (b := w.1) R1.1.s hk (by rw [f81]; exact k1) (by omega) R1.2.1
      exact ⟨h', by rw [w_un (d := D + 7) hS hk (by dsimp only; omega) k1 k2 k3 e1 R1.1.s (by rw [f81]; exact k1)]; exact e2, R1.un sa (by omega) N⟩
    · rename_i a w ee
      rw [ee] at k1 k2 k3 ⊢
      obtain ⟨ea, ta⟩ := t
      have sa := trN_le _ _ _ ta
      obtain ⟨h1, e1, R1⟩ := ih (D + 7) a s (by omega) ta (by omega) h hS L (fun j q1 q2 => tab j q1 (by omega))
      have f81 := R1.1.ai (b := 81) (by decide)
      obtain ⟨h', e2, N⟩ := p_abs (d := D + 1) (b := w.1) R1.1.s hk (by rw [f81]; exact k1) (by omega) R1.2.1
      exact ⟨h', by rw [w_un (d := D + 7) hS hk (by dsimp only; omega) k1 k2 k3 e1 R1.1.s (by rw [f81]; exact k1)]; exact e2, R1.un sa (by omega) N⟩
    · rename_i a b w ee
      rw [ee] at k1 k2 k3 ⊢
      obtain ⟨eb, r, tb, ea, ta⟩ := t
      have sa := trN_le _ _ _ ta
      have sb := trN_le _ _ _ tb
      obtain ⟨h1, e1, R1⟩ := ih (D + 7) a s (by omega) ta (by omega) h hS L (fun j q1 q2 => tab j q1 (by omega))
      obtain ⟨h2, e2, R2⟩ := ih (D + 7) b r (by omega) tb (by omega) h1 R1.1.s (L.keep R1.1 (by decide)) (fun j q1 q2 => (tab j (by omega) (by omega)).keep R1.1 (by decide))
      have f1 := R1.1.ai (b := 81) (by decide)
      have f2 := R2.1.ai (b := 81) (by decide)
      obtain ⟨h', e3, N⟩ := p_sum (d := D + 3) R2.1.s hk (by rw [f2, f1]; exact k1) (by omega) (by omega) ((R2.2.2.1 a (by omega)).vn R1.2.1) R2.2.1
      exact ⟨h', by rw [w_bin (d := D + 7) hS hk (by dsimp only; omega) k1 k2 k3 e1 R1.1.s (by rw [f1]; exact k1) e2]; exact e3, R1.bi R2 sa (by omega) sb (by omega) N⟩
    · rename_i a b w ee
      rw [ee] at k1 k2 k3 ⊢
      obtain ⟨eb, r, tb, ea, ta⟩ := t
      have sa := trN_le _ _ _ ta
      have sb := trN_le _ _ _ tb
      obtain ⟨h1, e1, R1⟩ := ih (D + 7) a s (by omega) ta (by omega) h hS L (fun j q1 q2 => tab j q1 (by omega))
      obtain ⟨h2, e2, R2⟩ := ih (D + 7) b r (by omega) tb (by omega) h1 R1.1.s (L.keep R1.1 (by decide)) (fun j q1 q2 => (tab j (by omega) (by omega)).keep R1.1 (by decide))
      have f1 := R1.1.ai (b := 81) (by decide)
      have f2 := R2.1.ai (b := 81) (by decide)
      obtain ⟨h', e3, N⟩ := p_dif (d := D + 3) R2.1.s hk (by rw [f2, f1]; exact k1) (by omega) (by omega) ((R2.2.2.1 a (by omega)).vn R1.2.1) R2.2.1
      exact ⟨h', by rw [w_bin (d := D + 7) hS hk (by dsimp only; omega) k1 k2 k3 e1 R1.1.s (by rw [f1]; exact k1) e2]; exact e3, R1.bi R2 sa (by omega) sb (by omega) N⟩
    · rename_i a b w ee
      rw [ee] at k1 k2 k3 ⊢
      obtain ⟨eb, r, tb, ea, ta⟩ := t
      have sa := trN_le _ _ _ ta
      have sb := trN_le _ _ _ tb
      obtain ⟨h1, e1, R1⟩ := ih (D + 7) a s (by omega) ta (by omega) h hS L (fun j q1 q2 => tab j q1 (by omega))
      obtain ⟨h2, e2, R2⟩ := ih (D + 7) b r (by omega) tb (by omega) h1 R1.1.s (L.keep R1.1 (by decide)) (fun j q1 q2 => (tab j (by omega) (by omega)).keep R1.1 (by decide))
      have f1 := R1.1.ai (b := 81) (by decide)
      have f2 := R2.1.ai (b := 81) (by decide)
      obtain ⟨h', e3, N⟩ := p_pro (d := D + 1) R2.1.s hk (by rw [f2, f1]; exact k1) (by omega) (by omega) ((R2.2.2.1 a (by omega)).vn R1.2.1) R2.2.1
      exact ⟨h', by rw [w_bin (d := D + 7) hS hk (by dsimp only; omega) k1 k2 k3 e1 R1.1.s (by rw [f1]; exact k1) e2]; exact e3, R1.bi R2 sa (by omega) sb (by omega) N⟩
    · rename_i a b w ee
      rw [ee] at k1 k2 k3 ⊢
      obtain ⟨ea, hb1, hb2, ta⟩ := t
      have sa := trN_le _ _ _ ta
      obtain ⟨h1, e1, R1⟩ := ih (D + 7) a s (by omega) ta (by omega) h hS L (fun j q1 q2 => tab j q1 (by omega))
      have f81 := R1.1.ai (b := 81) (by decide)
      obtain ⟨h', e2, N⟩ := p_div (d := D + 3) (b := b) R1.1.s hk (by rw [f81]; exact k1) (by omega) hb1 hb2 R1.2.1
      exact ⟨h', by rw [w_un (d := D + 7) hS hk (by dsimp only; omega) k1 k2 k3 e1 R1.1.s (by rw [f81]; exact k1)]; exact e2, R1.un sa (by omega) N⟩
    · rename_i a b c e ee
      rw [ee] at k1 k2 k3 k4 k5 ⊢
      obtain ⟨hek, r, t, u, te, hcu, tc, hbt, tb, har, ta⟩ := t
      have sa := trN_le _ _ _ ta
      have sb := trN_le _ _ _ tb
      have sc := trN_le _ _ _ tc
      have se := trN_le _ _ _ te
      obtain ⟨h1, e1, R1⟩ := ih (D + 7) a s (by omega) ta (by omega) h hS L (fun j q1 q2 => tab j q1 (by omega))
      obtain ⟨h2, e2, R2⟩ := ih (D + 7) b r (by omega) tb (by omega) h1 R1.1.s (L.keep R1.1 (by decide)) (fun j q1 q2 => (tab j (by omega) (by omega)).keep R1.1 (by decide))
      have F2 := R1.1.trans R2.1
      have L2 := L.keep F2 (by decide)
      have T2 : ∀ j, s ≤ j → j ≤ k → TabIs h2 T j := fun j q1 q2 => (tab j q1 q2).keep F2 (by decide)
      have VA := (R2.2.2.1 a (by omega)).vn R1.2.1
      have VB := R2.2.1
      obtain ⟨x1, x2, x3, x4, x5⟩ := T2 k hsk (Nat.le_refl _)
      rw [ee] at x1 x2 x3 x4 x5
      have x4 : ai h2 84 k = nI c := x4
      have x5 : ai h2 85 k = nI e := x5
      have W : aCall (D + 8) 213 [.ref 78, .int (nI k)] h = wk (D + 7) k a b h2 := w_bin (d := D + 7) hS hk (by dsimp only; omega) k1 k2 k3 e1 R1.1.s (by rw [R1.1.ai (b := 81) (by decide)]; exact k1) e2
      show ∃ h', aCall (D + 8) 213 [.ref 78, .int (nI k)] h = some (none, h') ∧ WR h h' s k (tstV (evN T E n a) (evN T E n b) (evN T E n c) (evN T E n e))
      unfold tstV
      by_cases c1 : (evN T E n a).1.2.1 < (evN T E n b).1.1
      · rw [if_pos c1]
        obtain ⟨h3, e3, R3⟩ := ih (D + 6) c t (by omega) tc (by omega) h2 F2.s L2 (fun j q1 q2 => T2 j (by omega) (by omega))
        obtain ⟨h', e4, N⟩ := p_tst1 (d := D + 1) F2.s hk x1 (by omega) (by omega) VA VB c1 x4 (by omega) e3 R3.1.s (by rw [R3.1.ai (b := 84) (by decide)]; exact x4) R3.2.1
        refine ⟨h', by rw [W]; exact e4, (F2.trans R3.1).trans N.1, N.2.1, fun j hj => (((R1.2.2.1 j (by omega)).trans (R2.2.2.1 j (by omega))).trans (R3.2.2.1 j (by omega))).trans (N.2.2.1 j (by omega)), ?_⟩
        rw [N.2.2.2, R3.2.2.2, R2.2.2.2, R1.2.2.2, Int32.add_assoc, Int32.add_assoc, n_add, n_add, Nat.add_assoc]
      · rw [if_neg c1]
        by_cases c2 : (evN T E n b).1.2.1 ≤ (evN T E n a).1.1
        · rw [if_pos c2]
          obtain ⟨h3, e3, R3⟩ := ih (D + 6) e u (by omega) te (by omega) h2 F2.s L2 (fun j q1 q2 => T2 j (by omega) (by omega))
          obtain ⟨h', e4, N⟩ := p_tst2 (d := D + 1) F2.s hk x1 (by omega) (by omega) VA VB c1 c2 x5 (by omega) e3 R3.1.s (by rw [R3.1.ai (b := 85) (by decide)]; exact x5) R3.2.1
          refine ⟨h', by rw [W]; exact e4, (F2.trans R3.1).trans N.1, N.2.1, fun j hj => (((R1.2.2.1 j (by omega)).trans (R2.2.2.1 j (by omega))).trans (R3.2.2.1 j (by omega))).trans (N.2.2.1 j (by omega)), ?_⟩
          rw [N.2.2.2, R3.2.2.2, R2.2.2.2, R1.2.2.2, Int32.add_assoc, Int32.add_assoc, n_add, n_add, Nat.add_assoc]
        · rw [if_neg c2]
          have Fw : FM VL VF h2 (wi h2 78 27 (gi h2 78 27 + 1)) := (FM.rf F2.s _ _).swi (by decide) (by decide)
          have gw : gi (wi h2 78 27 (gi h2 78 27 + 1)) 78 27 = gi h2 78 27 + 1 := g78_27 F2.s
          have sw : ∀ j, sameN h2 (wi h2 78 27 (gi h2 78 27 + 1)) j := fun j => ⟨by rw [aj_wi], by rw [aj_wi], by rw [aj_wi], by rw [aj_wi], by rw [ai_wi]⟩
          obtain ⟨h3, e3, R3⟩ := ih (D + 6) c t (by omega) tc (by omega) _ Fw.s (L2.keep Fw (by decide)) (fun j q1 q2 => (T2 j (by omega) (by omega)).keep Fw (by decide))
          obtain ⟨h4, e4, R4⟩ := ih (D + 6) e u (by omega) te (by omega) h3 R3.1.s ((L2.keep Fw (by decide)).keep R3.1 (by decide)) (fun j q1 q2 => ((T2 j (by omega) (by omega)).keep Fw (by decide)).keep R3.1 (by decide))
          obtain ⟨h', e5, N⟩ := p_tst3 (d := D + 1) F2.s hk x1 (by omega) (by omega) VA VB c1 c2 x4 x5 (by omega) (by omega) e3 R3.1.s e4 R4.1.s ((R4.2.2.1 c (by omega)).vn R3.2.1) R4.2.1
          refine ⟨h', by rw [W]; exact e5, (((F2.trans Fw).trans R3.1).trans R4.1).trans N.1, N.2.1, fun j hj => (((((R1.2.2.1 j (by omega)).trans (R2.2.2.1 j (by omega))).trans (sw j)).trans (R3.2.2.1 j (by omega))).trans (R4.2.2.1 j (by omega))).trans (N.2.2.1 j (by omega)), ?_⟩
          rw [N.2.2.2, R4.2.2.2, R3.2.2.2, gw, R2.2.2.2, R1.2.2.2, show (1 : Int32) = nI 1 from rfl]
          simp only [Int32.add_assoc, n_add]
    · exact t.elim
end MWORKS2
