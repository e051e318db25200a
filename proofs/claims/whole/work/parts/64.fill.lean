/-! CELLS: fill -/
theorem n_succ (i : Nat) : nI i + 1 = nI (i + 1) := n_add i 1
theorem OC {h : AH} {c : Nat} {t : List Value} (hS : SH h) (hc : isCl c) : isO h 2 (.ref c :: t) = true := L_isO hS hc
section FILL
variable {d c : Nat}
set_option maxRecDepth 100000 in
theorem fill_loop (hc : isCl c) {n : Nat} (hn : n ≤ 128) : ∀ (k i : Nat) (h : AH), i + k = n → SH h → ∃ h', aAt (d + 1) 18 6 [some (.ref c), some (.int (nI n)), some (.int (nI i))] [] h = some (none, h') ∧ Fr [c] h h' ∧ ∀ j, j < 128 → hasC h' c j = if i ≤ j ∧ j < n then true else hasC h c j := by
  intro k
  induction k with
  | zero =>
    intro i h e hS
    rw [u18_6 60]
    simp only [lg_cmp_ge, lg_cmp_le, lg_cmp_gt, lg_cmp_lt, lg_cmp_eq, ↓ob, ↓pI, ↓pJ, ↓pR, ↓pV, ↓gO, ↓gI, ↓gJ, ↓gR, ↓gL, ↓gT, ↓lI, ↓lJ, ↓lR, psh, isRf, layA, padL, trimO, trimB, ld, ss1, ss2, killL, cmpB, popN, isO, isR, putOk, e_ag, e_agn, List.set_cons_zero, List.set_cons_succ, List.getElem?_cons_zero, List.getElem?_cons_succ, List.length_cons, List.length_nil, Value.category, decide_eq_true_eq, reduceIte, Nat.reduceAdd, Nat.reduceEqDiff, Nat.reduceLeDiff, reduceCtorEq, and_self, and_true, true_and, not_true_eq_false, not_false_eq_true, or_false, false_or, or_true, true_or, beq_self_eq_true, Nat.reduceBEq, Bool.false_eq_true, false_implies, forall_const, ↓s18_0, ↓s18_1, ↓s18_4, ↓s18_5, ↓l18_6, ↓s18_7, ↓s18_8, ↓s18_11, ↓s18_12, ↓s18_13, ↓s18_14, ↓s18_17, ↓s18_20, ↓s18_23, x15, x17, ↓OC hS hc]
    rw [if_pos ((n_le (by omega) (by omega)).mpr (by omega))]
    exact ⟨h, rfl, Fr.rf hS _, fun j hj => by rw [if_neg (by omega)]⟩
  | succ k ih =>
    intro i h e hS
    rw [u18_6 60]
    obtain ⟨h1, e1, f1, g1⟩ := c_setN (d := d) hS hc (k := i) (by omega) true
    have e1 : aCall (d + 1) 15 [.ref c, .int (nI i), .int 1] h = some (none, h1) := e1
    simp only [lg_cmp_ge, lg_cmp_le, lg_cmp_gt, lg_cmp_lt, lg_cmp_eq, ↓ob, ↓pI, ↓pJ, ↓pR, ↓pV, ↓gO, ↓gI, ↓gJ, ↓gR, ↓gL, ↓gT, ↓lI, ↓lJ, ↓lR, psh, isRf, layA, padL, trimO, trimB, ld, ss1, ss2, killL, cmpB, popN, isO, isR, putOk, e_ag, e_agn, List.set_cons_zero, List.set_cons_succ, List.getElem?_cons_zero, List.getElem?_cons_succ, List.length_cons, List.length_nil, Value.category, decide_eq_true_eq, reduceIte, Nat.reduceAdd, Nat.reduceEqDiff, Nat.reduceLeDiff, reduceCtorEq, and_self, and_true, true_and, not_true_eq_false, not_false_eq_true, or_false, false_or, or_true, true_or, beq_self_eq_true, Nat.reduceBEq, Bool.false_eq_true, false_implies, forall_const, ↓s18_0, ↓s18_1, ↓s18_4, ↓s18_5, ↓l18_6, ↓s18_7, ↓s18_8, ↓s18_11, ↓s18_12, ↓s18_13, ↓s18_14, ↓s18_17, ↓s18_20, ↓s18_23, x15, x17, ↓OC hS hc, e1, ↓kont_go 60, n_succ]
    rw [if_neg (by rw [n_le (by omega) (by omega)]; omega)]
    obtain ⟨h2, e2, f2, g2⟩ := ih (i + 1) h1 (by omega) f1.1
    refine ⟨h2, e2, f1.trans f2, fun j hj => ?_⟩
    rw [g2 j hj, g1 j hj]
    by_cases q : j = i
    · rw [if_neg (by omega), if_pos q, if_pos (by omega)]
    · by_cases q2 : i + 1 ≤ j ∧ j < n
      · rw [if_pos q2, if_pos (by omega)]
      · rw [if_neg q2, if_neg q, if_neg (by omega)]
set_option maxRecDepth 100000 in
theorem c_fill (hc : isCl c) {n : Nat} (hn : n ≤ 128) {h : AH} (hS : SH h) : ∃ h', aCall (d + 2) 18 [.ref c, .int (nI n)] h = some (none, h') ∧ Fr [c] h h' ∧ ∀ j, j < 128 → hasC h' c j = decide (j < n) := by
  rw [aCall_go 60, x18]
  obtain ⟨h1, e1, f1, g1⟩ := c_cclear (d := d) hS hc
  simp only [lg_cmp_ge, lg_cmp_le, lg_cmp_gt, lg_cmp_lt, lg_cmp_eq, ↓ob, ↓pI, ↓pJ, ↓pR, ↓pV, ↓gO, ↓gI, ↓gJ, ↓gR, ↓gL, ↓gT, ↓lI, ↓lJ, ↓lR, psh, isRf, layA, padL, trimO, trimB, ld, ss1, ss2, killL, cmpB, popN, isO, isR, putOk, e_ag, e_agn, List.set_cons_zero, List.set_cons_succ, List.getElem?_cons_zero, List.getElem?_cons_succ, List.length_cons, List.length_nil, Value.category, decide_eq_true_eq, reduceIte, Nat.reduceAdd, Nat.reduceEqDiff, Nat.reduceLeDiff, reduceCtorEq, and_self, and_true, true_and, not_true_eq_false, not_false_eq_true, or_false, false_or, or_true, true_or, beq_self_eq_true, Nat.reduceBEq, Bool.false_eq_true, false_implies, forall_const, ↓s18_0, ↓s18_1, ↓s18_4, ↓s18_5, ↓l18_6, ↓s18_7, ↓s18_8, ↓s18_11, ↓s18_12, ↓s18_13, ↓s18_14, ↓s18_17, ↓s18_20, ↓s18_23, x15, x17, ↓OC hS hc, e1, ↓kont_go 60]
  obtain ⟨h2, e2, f2, g2⟩ := fill_loop (d := d) hc hn n 0 h1 (by omega) f1.1
  refine ⟨h2, e2, f1.trans f2, fun j hj => ?_⟩
  rw [g2 j hj, g1 j hj]
  by_cases q : j < n
  · rw [if_pos ⟨Nat.zero_le _, q⟩, decide_eq_true q]
  · rw [if_neg (fun z => q z.2), decide_eq_false q]
end FILL
