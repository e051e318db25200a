/-! THE JDK'S OWN -/
set_option maxRecDepth 100000 in
theorem c_floorDiv (d : Nat) {a b : Int} (ha : r64 a) (hb : 0 < b) (hb2 : r64 b) (h : AH) : aCall (d + 1) 293 [.long (J a), .long (J b)] h = some (some (.long (J (a / b))), h) := by
  rw [aCall_go 60, x293]
  simp only [lg_cmp_ge, lg_cmp_le, lg_cmp_gt, lg_cmp_lt, lg_cmp_eq, ↓ob, ↓pI, ↓pJ, ↓pR, ↓pV, ↓gO, ↓gI, ↓gJ, ↓gR, ↓gL, ↓gT, ↓lI, ↓lJ, ↓lR, psh, isRf, layA, padL, trimO, trimB, ld, ss1, ss2, killL, cmpB, popN, isO, isR, putOk, e_ag, e_agn, List.set_cons_zero, List.set_cons_succ, List.getElem?_cons_zero, List.getElem?_cons_succ, List.length_cons, List.length_nil, Value.category, decide_eq_true_eq, reduceIte, Nat.reduceAdd, Nat.reduceEqDiff, Nat.reduceLeDiff, reduceCtorEq, and_self, and_true, true_and, not_true_eq_false, not_false_eq_true, or_false, false_or, or_true, true_or, beq_self_eq_true, Nat.reduceBEq, Bool.false_eq_true, false_implies, forall_const, ↓s293_0, ↓s293_1, ↓s293_2, ↓s293_3, ↓s293_5, ↓s293_6, ↓s293_7, ↓s293_8, ↓s293_9, ↓s293_10, ↓s293_13, ↓s293_15, ↓s293_16, ↓s293_17, ↓s293_18, ↓s293_19, ↓s293_22, ↓s293_24, ↓s293_25, ↓s293_26, ↓s293_27, ↓s293_29]
  have h0 : r64 0 := by constructor <;> omega
  have z : (0 : Int64) = J 0 := rfl
  have hq : r64 (a.tdiv b * b) := by
    have e1 := Int.mul_tdiv_add_tmod a b
    have hp : b * a.tdiv b = a.tdiv b * b := Int.mul_comm _ _
    have h3 := ha.1
    have h4 := ha.2
    by_cases hn : 0 ≤ a
    · have h1 := Int.tmod_nonneg (a := a) b hn
      have h5 : 0 ≤ a.tdiv b * b := Int.mul_nonneg (Int.tdiv_nonneg hn (by omega)) (by omega)
      constructor <;> omega
    · have h1 : a.tmod b ≤ 0 := by
        have := Int.tmod_nonneg (a := -a) b (by omega)
        rw [Int.neg_tmod] at this
        omega
      have h5 : 0 ≤ (-a).tdiv b * b := Int.mul_nonneg (Int.tdiv_nonneg (by omega) (by omega)) (by omega)
      rw [Int.neg_tdiv, Int.neg_mul] at h5
      constructor <;> omega
  have hbn : ¬ J b = 0 := by rw [z, J_eq hb2 h0]; omega
  have hb3 : (0 : Int64) ≤ J b := by rw [z, J_le h0 hb2]; omega
  rw [if_pos hbn, ← fdiv_t hb, J_div ha hb hb2, J_mul]
  have hx : (0 ≤ J a ^^^ J b) ↔ 0 ≤ a := by
    rw [← Int64.not_lt, xor_neg _ _ hb3, z, J_lt ha h0, Int.not_lt]
  by_cases hn : 0 ≤ a
  · rw [if_pos (hx.mpr hn), if_neg (by omega)]
  · rw [if_neg (fun q => hn (hx.mp q))]
    by_cases hz : a.tdiv b * b = a
    · rw [if_pos (by rw [hz]), if_neg (fun q => q.2 hz)]
    · rw [if_neg (fun q => hz ((J_eq hq ha).mp q)), if_pos ⟨by omega, hz⟩]
      rw [show (1 : Int64) = J 1 from rfl, J_sub]
set_option maxRecDepth 100000 in
theorem c_maxJ (d : Nat) {a b : Int} (ha : r64 a) (hb : r64 b) (h : AH) : aCall (d + 1) 296 [.long (J a), .long (J b)] h = some (some (.long (J (max a b))), h) := by
  rw [aCall_go 60, x296]
  simp only [lg_cmp_ge, lg_cmp_le, lg_cmp_gt, lg_cmp_lt, lg_cmp_eq, ↓ob, ↓pI, ↓pJ, ↓pR, ↓pV, ↓gO, ↓gI, ↓gJ, ↓gR, ↓gL, ↓gT, ↓lI, ↓lJ, ↓lR, psh, isRf, layA, padL, trimO, trimB, ld, ss1, ss2, killL, cmpB, popN, isO, isR, putOk, e_ag, e_agn, List.set_cons_zero, List.set_cons_succ, List.getElem?_cons_zero, List.getElem?_cons_succ, List.length_cons, List.length_nil, Value.category, decide_eq_true_eq, reduceIte, Nat.reduceAdd, Nat.reduceEqDiff, Nat.reduceLeDiff, reduceCtorEq, and_self, and_true, true_and, not_true_eq_false, not_false_eq_true, or_false, false_or, or_true, true_or, beq_self_eq_true, Nat.reduceBEq, Bool.false_eq_true, false_implies, forall_const, ↓s296_0, ↓s296_1, ↓s296_2, ↓s296_3, ↓s296_6, ↓s296_7, ↓s296_10, ↓s296_11]
  rw [Int.max_def]
  by_cases hl : a ≤ b
  · rw [if_pos hl]
    by_cases hl2 : b ≤ a
    · rw [show a = b by omega]; simp
    · simp [J_le ha hb, J_le hb ha, J_lt ha hb, J_lt hb ha, hl, hl2, show ¬ b < a by omega]
  · simp [J_le ha hb, J_le hb ha, J_lt ha hb, J_lt hb ha, hl, show b ≤ a by omega, show b < a by omega, show ¬ a < b by omega]
set_option maxRecDepth 100000 in
theorem c_minJ (d : Nat) {a b : Int} (ha : r64 a) (hb : r64 b) (h : AH) : aCall (d + 1) 298 [.long (J a), .long (J b)] h = some (some (.long (J (min a b))), h) := by
  rw [aCall_go 60, x298]
  simp only [lg_cmp_ge, lg_cmp_le, lg_cmp_gt, lg_cmp_lt, lg_cmp_eq, ↓ob, ↓pI, ↓pJ, ↓pR, ↓pV, ↓gO, ↓gI, ↓gJ, ↓gR, ↓gL, ↓gT, ↓lI, ↓lJ, ↓lR, psh, isRf, layA, padL, trimO, trimB, ld, ss1, ss2, killL, cmpB, popN, isO, isR, putOk, e_ag, e_agn, List.set_cons_zero, List.set_cons_succ, List.getElem?_cons_zero, List.getElem?_cons_succ, List.length_cons, List.length_nil, Value.category, decide_eq_true_eq, reduceIte, Nat.reduceAdd, Nat.reduceEqDiff, Nat.reduceLeDiff, reduceCtorEq, and_self, and_true, true_and, not_true_eq_false, not_false_eq_true, or_false, false_or, or_true, true_or, beq_self_eq_true, Nat.reduceBEq, Bool.false_eq_true, false_implies, forall_const, ↓s298_0, ↓s298_1, ↓s298_2, ↓s298_3, ↓s298_6, ↓s298_7, ↓s298_10, ↓s298_11]
  rw [Int.min_def]
  by_cases hl : a ≤ b
  · rw [if_pos hl]
    by_cases hl2 : b ≤ a
    · rw [show a = b by omega]; simp
    · simp [J_le ha hb, J_le hb ha, J_lt ha hb, J_lt hb ha, hl, hl2, show ¬ b < a by omega]
  · simp [J_le ha hb, J_le hb ha, J_lt ha hb, J_lt hb ha, hl, show b ≤ a by omega, show b < a by omega, show ¬ a < b by omega]
set_option maxRecDepth 100000 in
theorem c_maxI (d : Nat) {a b : Int} (ha : r32 a) (hb : r32 b) (h : AH) : aCall (d + 1) 295 [.int (I a), .int (I b)] h = some (some (.int (I (max a b))), h) := by
  rw [aCall_go 60, x295]
  simp only [lg_cmp_ge, lg_cmp_le, lg_cmp_gt, lg_cmp_lt, lg_cmp_eq, ↓ob, ↓pI, ↓pJ, ↓pR, ↓pV, ↓gO, ↓gI, ↓gJ, ↓gR, ↓gL, ↓gT, ↓lI, ↓lJ, ↓lR, psh, isRf, layA, padL, trimO, trimB, ld, ss1, ss2, killL, cmpB, popN, isO, isR, putOk, e_ag, e_agn, List.set_cons_zero, List.set_cons_succ, List.getElem?_cons_zero, List.getElem?_cons_succ, List.length_cons, List.length_nil, Value.category, decide_eq_true_eq, reduceIte, Nat.reduceAdd, Nat.reduceEqDiff, Nat.reduceLeDiff, reduceCtorEq, and_self, and_true, true_and, not_true_eq_false, not_false_eq_true, or_false, false_or, or_true, true_or, beq_self_eq_true, Nat.reduceBEq, Bool.false_eq_true, false_implies, forall_const, ↓s295_0, ↓s295_1, ↓s295_2, ↓s295_5, ↓s295_6, ↓s295_9, ↓s295_10]
  rw [Int.max_def]
  by_cases hl : a ≤ b
  · rw [if_pos hl]
    by_cases hl2 : b ≤ a
    · rw [show a = b by omega]; simp
    · simp [I_le ha hb, I_le hb ha, I_lt ha hb, I_lt hb ha, hl, hl2, show ¬ b < a by omega]
  · simp [I_le ha hb, I_le hb ha, I_lt ha hb, I_lt hb ha, hl, show b ≤ a by omega, show b < a by omega, show ¬ a < b by omega]
set_option maxRecDepth 100000 in
theorem c_minI (d : Nat) {a b : Int} (ha : r32 a) (hb : r32 b) (h : AH) : aCall (d + 1) 297 [.int (I a), .int (I b)] h = some (some (.int (I (min a b))), h) := by
  rw [aCall_go 60, x297]
  simp only [lg_cmp_ge, lg_cmp_le, lg_cmp_gt, lg_cmp_lt, lg_cmp_eq, ↓ob, ↓pI, ↓pJ, ↓pR, ↓pV, ↓gO, ↓gI, ↓gJ, ↓gR, ↓gL, ↓gT, ↓lI, ↓lJ, ↓lR, psh, isRf, layA, padL, trimO, trimB, ld, ss1, ss2, killL, cmpB, popN, isO, isR, putOk, e_ag, e_agn, List.set_cons_zero, List.set_cons_succ, List.getElem?_cons_zero, List.getElem?_cons_succ, List.length_cons, List.length_nil, Value.category, decide_eq_true_eq, reduceIte, Nat.reduceAdd, Nat.reduceEqDiff, Nat.reduceLeDiff, reduceCtorEq, and_self, and_true, true_and, not_true_eq_false, not_false_eq_true, or_false, false_or, or_true, true_or, beq_self_eq_true, Nat.reduceBEq, Bool.false_eq_true, false_implies, forall_const, ↓s297_0, ↓s297_1, ↓s297_2, ↓s297_5, ↓s297_6, ↓s297_9, ↓s297_10]
  rw [Int.min_def]
  by_cases hl : a ≤ b
  · rw [if_pos hl]
    by_cases hl2 : b ≤ a
    · rw [show a = b by omega]; simp
    · simp [I_le ha hb, I_le hb ha, I_lt ha hb, I_lt hb ha, hl, hl2, show ¬ b < a by omega]
  · simp [I_le ha hb, I_le hb ha, I_lt ha hb, I_lt hb ha, hl, show b ≤ a by omega, show b < a by omega, show ¬ a < b by omega]
set_option maxRecDepth 100000 in
theorem c_abs (d : Nat) {a : Int} (ha : r32 a) (hn : r32 (-a)) (h : AH) : aCall (d + 1) 294 [.int (I a)] h = some (some (.int (I (if a < 0 then -a else a))), h) := by
  rw [aCall_go 60, x294]
  simp only [lg_cmp_ge, lg_cmp_le, lg_cmp_gt, lg_cmp_lt, lg_cmp_eq, ↓ob, ↓pI, ↓pJ, ↓pR, ↓pV, ↓gO, ↓gI, ↓gJ, ↓gR, ↓gL, ↓gT, ↓lI, ↓lJ, ↓lR, psh, isRf, layA, padL, trimO, trimB, ld, ss1, ss2, killL, cmpB, popN, isO, isR, putOk, e_ag, e_agn, List.set_cons_zero, List.set_cons_succ, List.getElem?_cons_zero, List.getElem?_cons_succ, List.length_cons, List.length_nil, Value.category, decide_eq_true_eq, reduceIte, Nat.reduceAdd, Nat.reduceEqDiff, Nat.reduceLeDiff, reduceCtorEq, and_self, and_true, true_and, not_true_eq_false, not_false_eq_true, or_false, false_or, or_true, true_or, beq_self_eq_true, Nat.reduceBEq, Bool.false_eq_true, false_implies, forall_const, ↓s294_0, ↓s294_1, ↓s294_4, ↓s294_5, ↓s294_6, ↓s294_9, ↓s294_10]
  have h0 : r32 0 := by constructor <;> omega
  rw [show (0 : Int32) = I 0 from rfl]
  by_cases hl : a < 0
  · simp [I_lt ha h0, I_le h0 ha, hl, I_neg, show ¬ 0 ≤ a by omega]
  · simp [I_lt ha h0, I_le h0 ha, hl, show 0 ≤ a by omega]
set_option maxRecDepth 100000 in
theorem c_bitCount (d : Nat) (x : Int64) (h : AH) : aCall (d + 1) 292 [.long x] h = some (some (.int (nI (cntB (fun k => x.toBitVec.getLsbD k) 64))), h) := by
  rw [aCall_go 60, x292]
  simp only [lg_cmp_ge, lg_cmp_le, lg_cmp_gt, lg_cmp_lt, lg_cmp_eq, ↓ob, ↓pI, ↓pJ, ↓pR, ↓pV, ↓gO, ↓gI, ↓gJ, ↓gR, ↓gL, ↓gT, ↓lI, ↓lJ, ↓lR, psh, isRf, layA, padL, trimO, trimB, ld, ss1, ss2, killL, cmpB, popN, isO, isR, putOk, e_ag, e_agn, List.set_cons_zero, List.set_cons_succ, List.getElem?_cons_zero, List.getElem?_cons_succ, List.length_cons, List.length_nil, Value.category, decide_eq_true_eq, reduceIte, Nat.reduceAdd, Nat.reduceEqDiff, Nat.reduceLeDiff, reduceCtorEq, and_self, and_true, true_and, not_true_eq_false, not_false_eq_true, or_false, false_or, or_true, true_or, beq_self_eq_true, Nat.reduceBEq, Bool.false_eq_true, false_implies, forall_const, ↓s292_0, ↓s292_1, ↓s292_2, ↓s292_3, ↓s292_4, ↓s292_7, ↓s292_8, ↓s292_9, ↓s292_10, ↓s292_11, ↓s292_14, ↓s292_15, ↓s292_16, ↓s292_17, ↓s292_18, ↓s292_21, ↓s292_22, ↓s292_23, ↓s292_24, ↓s292_25, ↓s292_26, ↓s292_27, ↓s292_28, ↓s292_29, ↓s292_32, ↓s292_33, ↓s292_34, ↓s292_35, ↓s292_36, ↓s292_38, ↓s292_39, ↓s292_40, ↓s292_41, ↓s292_42, ↓s292_43, ↓s292_45, ↓s292_46, ↓s292_47, ↓s292_48, ↓s292_49, ↓s292_50, ↓s292_52, ↓s292_53, ↓s292_54, ↓s292_55, ↓s292_56, ↓s292_57, ↓s292_59, ↓s292_60]
  rw [← bitCount_ok x]
  rfl
