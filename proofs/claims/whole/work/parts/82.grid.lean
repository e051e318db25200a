/-! THE GRID -/
def GrIs (h : AH) (x w : Int) (n : Nat) (y v : Int) (m : Nat) : Prop := AxIs h 19 x w n ∧ AxB x w n ∧ AxIs h 20 y v m ∧ AxB y v m ∧ n * m ≤ 128
theorem ax19 : isAx 19 := rfl
theorem ax20 : isAx 20 := rfl
section GRID
variable {d : Nat} {h : AH} {x w y v : Int} {n m : Nat}
set_option maxRecDepth 100000 in
theorem c_gsize (hS : SH h) (G : GrIs h x w n y v m) : aCall (d + 1) 24 [.ref 18] h = some (some (.int (nI (n * m))), h) := by
  rw [aCall_go 60, x24]
  have e1 := G.1.2.2
  have e2 := G.2.2.1.2.2
  have e3 : nI n * nI m = nI (n * m) := by rw [← I_nI, ← I_nI, I_mul, ← I_nI, Int.natCast_mul]
  simp (maxDischargeDepth := 60) only [lg_cmp_ge, lg_cmp_le, lg_cmp_gt, lg_cmp_lt, lg_cmp_eq, ↓ob, ↓pI, ↓pJ, ↓pR, ↓pV, ↓gO, ↓gI, ↓gJ, ↓gR, ↓gL, ↓gT, ↓lI, ↓lJ, ↓lR, psh, isRf, layA, padL, trimO, trimB, ld, ss1, ss2, killL, cmpB, popN, isO, isR, putOk, e_ag, e_agn, List.set_cons_zero, List.set_cons_succ, List.getElem?_cons_zero, List.getElem?_cons_succ, List.length_cons, List.length_nil, Value.category, decide_eq_true_eq, reduceIte, Nat.reduceAdd, Nat.reduceEqDiff, Nat.reduceLeDiff, reduceCtorEq, and_self, and_true, true_and, not_true_eq_false, not_false_eq_true, or_false, false_or, or_true, true_or, beq_self_eq_true, Nat.reduceBEq, Bool.false_eq_true, false_implies, forall_const, ↓s24_0, ↓s24_1, ↓s24_4, ↓s24_7, ↓s24_8, ↓s24_11, ↓s24_14, ↓s24_15, gi_wAI, gi_wAJ, gi_wj, gi_wr, gj_wi, gj_wr, gj_wAI, gj_wAJ, gr_wi, gr_wj, gr_wAI, gr_wAJ, ai_wi, ai_wj, ai_wr, ai_wAJ, aj_wi, aj_wj, aj_wr, aj_wAI, ar_wi, ar_wj, ar_wr, ar_wAI, ar_wAJ, gi_wi_n, gj_wj_n, gr_wr_n, ai_wAI_n, aj_wAJ_n, SH_wi, SH_wj, SH_wAI, SH_wAJ, bi_01, and_false, false_and, ne_eq, true_and, and_true, not_true_eq_false, not_false_eq_true, Nat.reduceEqDiff, reduceCtorEq, or_true, true_or, ↓O18, ↓G18_0, g18_0, ↓U18_0, ↓G18_1, ↓G18_2, ↓G18_3, ↓G18_4, g18_4, ↓U18_4, ↓G18_5, g18_5, ↓U18_5, ↓G18_6, g18_6, ↓U18_6, ↓G18_7, g18_7, ↓U18_7, ↓G18_8, g18_8, ↓U18_8, ↓O19, ↓G19_0, g19_0, ↓U19_0, ↓G19_1, g19_1, ↓U19_1, ↓G19_2, g19_2, ↓U19_2, ↓O20, ↓G20_0, g20_0, ↓U20_0, ↓G20_1, g20_1, ↓U20_1, ↓G20_2, g20_2, ↓U20_2, hS, e1, e2, e3]
set_option maxRecDepth 100000 in
theorem c_column (hS : SH h) (G : GrIs h x w n y v m) {k : Nat} (hk : k < 128) : aCall (d + 1) 25 [.ref 18, .int (nI k)] h = some (some (.int (nI (k % n))), h) := by
  rw [aCall_go 60, x25]
  have e1 := G.1.2.2
  have b1 := G.2.1.2.2.1
  have b2 := G.2.1.2.2.2.1
  have q1 : (1 ≤ nI n) = True := propext ⟨fun _ => trivial, fun _ => (n_le (a := 1) (b := n) (by decide) (by omega)).mpr b1⟩
  have q2 : (nI n < 1) = False := propext ⟨fun z => by have := (n_lt (a := n) (b := 1) (by omega) (by decide)).mp z; omega, fun z => z.elim⟩
  have q3 : (nI n = 0) = False := propext ⟨fun z => by have := (n_eq (a := n) (b := 0) (by omega) (by decide)).mp z; omega, fun z => z.elim⟩
  simp (maxDischargeDepth := 60) only [lg_cmp_ge, lg_cmp_le, lg_cmp_gt, lg_cmp_lt, lg_cmp_eq, ↓ob, ↓pI, ↓pJ, ↓pR, ↓pV, ↓gO, ↓gI, ↓gJ, ↓gR, ↓gL, ↓gT, ↓lI, ↓lJ, ↓lR, psh, isRf, layA, padL, trimO, trimB, ld, ss1, ss2, killL, cmpB, popN, isO, isR, putOk, e_ag, e_agn, List.set_cons_zero, List.set_cons_succ, List.getElem?_cons_zero, List.getElem?_cons_succ, List.length_cons, List.length_nil, Value.category, decide_eq_true_eq, reduceIte, Nat.reduceAdd, Nat.reduceEqDiff, Nat.reduceLeDiff, reduceCtorEq, and_self, and_true, true_and, not_true_eq_false, not_false_eq_true, or_false, false_or, or_true, true_or, beq_self_eq_true, Nat.reduceBEq, Bool.false_eq_true, false_implies, forall_const, ↓s25_0, ↓s25_1, ↓s25_4, ↓s25_7, ↓s25_8, ↓s25_11, ↓s25_12, ↓s25_15, ↓s25_16, ↓s25_17, ↓s25_20, ↓s25_23, ↓s25_24, gi_wAI, gi_wAJ, gi_wj, gi_wr, gj_wi, gj_wr, gj_wAI, gj_wAJ, gr_wi, gr_wj, gr_wAI, gr_wAJ, ai_wi, ai_wj, ai_wr, ai_wAJ, aj_wi, aj_wj, aj_wr, aj_wAI, ar_wi, ar_wj, ar_wr, ar_wAI, ar_wAJ, gi_wi_n, gj_wj_n, gr_wr_n, ai_wAI_n, aj_wAJ_n, SH_wi, SH_wj, SH_wAI, SH_wAJ, bi_01, and_false, false_and, ne_eq, true_and, and_true, not_true_eq_false, not_false_eq_true, Nat.reduceEqDiff, reduceCtorEq, or_true, true_or, ↓O18, ↓G18_0, g18_0, ↓U18_0, ↓G18_1, ↓G18_2, ↓G18_3, ↓G18_4, g18_4, ↓U18_4, ↓G18_5, g18_5, ↓U18_5, ↓G18_6, g18_6, ↓U18_6, ↓G18_7, g18_7, ↓U18_7, ↓G18_8, g18_8, ↓U18_8, ↓O19, ↓G19_0, g19_0, ↓U19_0, ↓G19_1, g19_1, ↓U19_1, ↓G19_2, g19_2, ↓U19_2, ↓O20, ↓G20_0, g20_0, ↓U20_0, ↓G20_1, g20_1, ↓U20_1, ↓G20_2, g20_2, ↓U20_2, hS, e1, q1, q2, q3]
  rw [pk_rem (show k < 2 ^ 31 by omega) (by omega) (show n < 2 ^ 31 by omega)]
set_option maxRecDepth 100000 in
theorem c_line (hS : SH h) (G : GrIs h x w n y v m) {k : Nat} (hk : k < 128) : aCall (d + 1) 26 [.ref 18, .int (nI k)] h = some (some (.int (nI (k / n))), h) := by
  rw [aCall_go 60, x26]
  have e1 := G.1.2.2
  have b1 := G.2.1.2.2.1
  have b2 := G.2.1.2.2.2.1
  have q1 : (1 ≤ nI n) = True := propext ⟨fun _ => trivial, fun _ => (n_le (a := 1) (b := n) (by decide) (by omega)).mpr b1⟩
  have q2 : (nI n < 1) = False := propext ⟨fun z => by have := (n_lt (a := n) (b := 1) (by omega) (by decide)).mp z; omega, fun z => z.elim⟩
  have q3 : (nI n = 0) = False := propext ⟨fun z => by have := (n_eq (a := n) (b := 0) (by omega) (by decide)).mp z; omega, fun z => z.elim⟩
  have e2 : nI k / nI n = nI (k / n) := by rw [← I_nI, ← I_nI, I_div (by omega) (by omega) (by omega) (by omega), ← I_nI, Int.natCast_ediv]
  simp (maxDischargeDepth := 60) only [lg_cmp_ge, lg_cmp_le, lg_cmp_gt, lg_cmp_lt, lg_cmp_eq, ↓ob, ↓pI, ↓pJ, ↓pR, ↓pV, ↓gO, ↓gI, ↓gJ, ↓gR, ↓gL, ↓gT, ↓lI, ↓lJ, ↓lR, psh, isRf, layA, padL, trimO, trimB, ld, ss1, ss2, killL, cmpB, popN, isO, isR, putOk, e_ag, e_agn, List.set_cons_zero, List.set_cons_succ, List.getElem?_cons_zero, List.getElem?_cons_succ, List.length_cons, List.length_nil, Value.category, decide_eq_true_eq, reduceIte, Nat.reduceAdd, Nat.reduceEqDiff, Nat.reduceLeDiff, reduceCtorEq, and_self, and_true, true_and, not_true_eq_false, not_false_eq_true, or_false, false_or, or_true, true_or, beq_self_eq_true, Nat.reduceBEq, Bool.false_eq_true, false_implies, forall_const, ↓s26_0, ↓s26_1, ↓s26_4, ↓s26_7, ↓s26_8, ↓s26_11, ↓s26_12, ↓s26_15, ↓s26_16, ↓s26_17, ↓s26_20, ↓s26_23, ↓s26_24, gi_wAI, gi_wAJ, gi_wj, gi_wr, gj_wi, gj_wr, gj_wAI, gj_wAJ, gr_wi, gr_wj, gr_wAI, gr_wAJ, ai_wi, ai_wj, ai_wr, ai_wAJ, aj_wi, aj_wj, aj_wr, aj_wAI, ar_wi, ar_wj, ar_wr, ar_wAI, ar_wAJ, gi_wi_n, gj_wj_n, gr_wr_n, ai_wAI_n, aj_wAJ_n, SH_wi, SH_wj, SH_wAI, SH_wAJ, bi_01, and_false, false_and, ne_eq, true_and, and_true, not_true_eq_false, not_false_eq_true, Nat.reduceEqDiff, reduceCtorEq, or_true, true_or, ↓O18, ↓G18_0, g18_0, ↓U18_0, ↓G18_1, ↓G18_2, ↓G18_3, ↓G18_4, g18_4, ↓U18_4, ↓G18_5, g18_5, ↓U18_5, ↓G18_6, g18_6, ↓U18_6, ↓G18_7, g18_7, ↓U18_7, ↓G18_8, g18_8, ↓U18_8, ↓O19, ↓G19_0, g19_0, ↓U19_0, ↓G19_1, g19_1, ↓U19_1, ↓G19_2, g19_2, ↓U19_2, ↓O20, ↓G20_0, g20_0, ↓U20_0, ↓G20_1, g20_1, ↓U20_1, ↓G20_2, g20_2, ↓U20_2, hS, e1, q1, q2, q3, e2]
end GRID
