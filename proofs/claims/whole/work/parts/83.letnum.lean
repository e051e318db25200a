/-! Reckoner.lettersAreNumbers -/
def numE (E : LE) : Bool := decide ((E 2).1 = (E 2).2) && decide ((E 3).1 = (E 3).2) && decide ((E 5).1 = (E 5).2)
set_option maxRecDepth 100000 in
theorem c_letNum {d : Nat} {h : AH} (hS : SH h) {E : LE} (L : LetIs h E) (hE : LEB E) : aCall (d + 1) 81 [.ref 6] h = some (some (.int (bi (numE E))), h) := by
  rw [aCall_go 60, x81]
  have i2 : vp_in 2 6 := in6 (i := 2) (by decide)
  have i3 : vp_in 3 6 := in6 (i := 3) (by decide)
  have i5 : vp_in 5 6 := in6 (i := 5) (by decide)
  have l2 : cl 2 = 2 := rfl
  have l3 : cl 3 = 3 := rfl
  have l5 : cl 5 = 5 := rfl
  obtain ⟨a2, b2⟩ := L 2 (by decide)
  obtain ⟨a3, b3⟩ := L 3 (by decide)
  obtain ⟨a5, b5⟩ := L 5 (by decide)
  have q2 : (J (E 2).1 = J (E 2).2) = ((E 2).1 = (E 2).2) := propext (J_eq (hE 2).1.r (hE 2).2.r)
  have q3 : (J (E 3).1 = J (E 3).2) = ((E 3).1 = (E 3).2) := propext (J_eq (hE 3).1.r (hE 3).2.r)
  have q5 : (J (E 5).1 = J (E 5).2) = ((E 5).1 = (E 5).2) := propext (J_eq (hE 5).1.r (hE 5).2.r)
  simp (maxDischargeDepth := 60) only [lg_cmp_ge, lg_cmp_le, lg_cmp_gt, lg_cmp_lt, lg_cmp_eq, ↓ob, ↓pI, ↓pJ, ↓pR, ↓pV, ↓gO, ↓gI, ↓gJ, ↓gR, ↓gL, ↓gT, ↓lI, ↓lJ, ↓lR, psh, isRf, layA, padL, trimO, trimB, ld, ss1, ss2, killL, cmpB, popN, isO, isR, putOk, e_ag, e_agn, List.set_cons_zero, List.set_cons_succ, List.getElem?_cons_zero, List.getElem?_cons_succ, List.length_cons, List.length_nil, Value.category, decide_eq_true_eq, reduceIte, Nat.reduceAdd, Nat.reduceEqDiff, Nat.reduceLeDiff, reduceCtorEq, and_self, and_true, true_and, not_true_eq_false, not_false_eq_true, or_false, false_or, or_true, true_or, beq_self_eq_true, Nat.reduceBEq, Bool.false_eq_true, false_implies, forall_const, ↓s81_0, ↓s81_1, ↓s81_4, ↓s81_5, ↓s81_6, ↓s81_7, ↓s81_10, ↓s81_11, ↓s81_12, ↓s81_13, ↓s81_16, ↓s81_17, ↓s81_20, ↓s81_21, ↓s81_22, ↓s81_23, ↓s81_26, ↓s81_27, ↓s81_28, ↓s81_29, ↓s81_32, ↓s81_33, ↓s81_36, ↓s81_37, ↓s81_38, ↓s81_39, ↓s81_42, ↓s81_43, ↓s81_44, ↓s81_45, ↓s81_48, ↓s81_49, ↓s81_52, ↓s81_53, gi_wAI, gi_wAJ, gi_wj, gi_wr, gj_wi, gj_wr, gj_wAI, gj_wAJ, gr_wi, gr_wj, gr_wAI, gr_wAJ, ai_wi, ai_wj, ai_wr, ai_wAJ, aj_wi, aj_wj, aj_wr, aj_wAI, ar_wi, ar_wj, ar_wr, ar_wAI, ar_wAJ, gi_wi_n, gj_wj_n, gr_wr_n, ai_wAI_n, aj_wAJ_n, SH_wi, SH_wj, SH_wAI, SH_wAJ, bi_01, and_false, false_and, ne_eq, true_and, and_true, not_true_eq_false, not_false_eq_true, Nat.reduceEqDiff, reduceCtorEq, or_true, true_or, ↓O6, ↓G6_0, ↓G6_1, ↓G6_2, ↓G6_3, ↓G6_4, g6_4, ↓U6_4, ↓G6_5, g6_5, ↓U6_5, ↓G6_6, ↓G6_7, ↓G6_8, ↓G6_9, ↓G6_10, g6_10, ↓U6_10, ↓G6_11, g6_11, ↓U6_11, ↓G6_12, g6_12, ↓U6_12, ↓G6_13, g6_13, ↓U6_13, ↓G6_14, g6_14, ↓U6_14, ↓G6_15, g6_15, ↓U6_15, ↓G6_16, g6_16, ↓U6_16, ↓G6_17, g6_17, ↓U6_17, ↓E7, a7, ↓I7, ↓W7, ↓E8, a8, ↓I8, ↓W8, hS, i2, i3, i5, l2, l3, l5, a2, b2, a3, b3, a5, b5, q2, q3, q5]
  unfold numE
  by_cases c2 : (E 2).1 = (E 2).2 <;> by_cases c3 : (E 3).1 = (E 3).2 <;> by_cases c5 : (E 5).1 = (E 5).2 <;> simp [c2, c3, c5, bi]
