set_option maxRecDepth 100000 in
set_option maxHeartbeats 4000000 in
theorem t_holds (d c : Nat) (lo hi : Int64) (i : Int32) (h : AH) (hc : ag h c = some (cO 2 [.long lo, .long hi])) :
    aCall (d + 1) 14 [.ref c, .int i] h = some (some (.int (if i < 0 then 0 else if 128 ≤ i then 0 else 1)), h) := by
  rw [aCall_go 60, x14]
  simp only [↓ob, ↓pI, ↓pJ, ↓pR, ↓pV, ↓gO, ↓gI, ↓gJ, ↓gR, ↓gL, ↓gT, ↓lI, ↓lJ, ↓lR, psh, isRf, layA, padL, trimO, trimB, ld, ss1, ss2, killL, cmpB, popN, isO, isR, putOk, e_ag, e_agn, List.set_cons_zero, List.set_cons_succ, List.getElem?_cons_zero, List.getElem?_cons_succ, List.length_cons, List.length_nil, Value.category, decide_eq_true_eq, reduceIte, Nat.reduceAdd, Nat.reduceEqDiff, Nat.reduceLeDiff, reduceCtorEq, and_self, and_true, true_and, not_true_eq_false, not_false_eq_true, or_false, false_or, or_true, true_or, beq_self_eq_true, Nat.reduceBEq, Bool.false_eq_true, false_implies, forall_const, ↓s14_0, ↓s14_1, ↓s14_4, ↓s14_5, ↓s14_8, ↓s14_11, ↓s14_12, ↓s14_14, ↓s14_17, ↓s14_18, ↓s14_21, ↓s14_24, ↓s14_25, ↓s14_28, ↓s14_29, ↓s14_31, ↓s14_32, ↓s14_33, ↓s14_34, ↓s14_35, ↓s14_36, ↓s14_37, ↓s14_40, ↓s14_41, ↓s14_44, ↓s14_45, hc]
  trace_state
  sorry
