/-! R.cutAt -/
set_option maxRecDepth 100000 in
theorem c_cutAt {d : Nat} {h : AH} {lo hi : Int} (h0 : -2147483648 ≤ lo) (h1 : lo ≤ hi) (h2 : hi ≤ 2147483648) {i n : Nat} (hi' : i ≤ n) (hn : 0 < n) (hn2 : n ≤ 64) : aCall (d + 1) 170 [.long (J lo), .long (J hi), .int (nI i), .int (nI n)] h = some (some (.long (J (cutP lo hi i n))), h) := by
  rw [aCall_go 60, x170]
  have q1 : (1 ≤ nI n) = True := propext ⟨fun _ => trivial, fun _ => (n_le (a := 1) (b := n) (by decide) (by omega)).mpr hn⟩
  have q2 : (nI n < 1) = False := propext ⟨fun z => by have := (n_lt (a := n) (b := 1) (by omega) (by decide)).mp z; omega, fun z => z.elim⟩
  have m0 : 0 ≤ (i : Int) * (hi - lo) := Int.mul_nonneg (by omega) (by omega)
  have m1 : (i : Int) * (hi - lo) ≤ 64 * (hi - lo) := Int.mul_le_mul_of_nonneg_right (by omega) (by omega)
  have rm : r64 ((i : Int) * (hi - lo)) := ⟨by omega, by omega⟩
  have rn : r64 (n : Int) := ⟨by omega, by omega⟩
  have q3 : (J (n : Int) = 0) = False := propext ⟨fun z => by have := (J_eq rn (b := 0) ⟨by omega, by omega⟩).mp z; omega, fun z => z.elim⟩
  have hd : J ((i : Int) * (hi - lo)) / J (n : Int) = J (((i : Int) * (hi - lo)).tdiv n) := J_div rm (by omega) rn
  simp (maxDischargeDepth := 60) only [lg_cmp_ge, lg_cmp_le, lg_cmp_gt, lg_cmp_lt, lg_cmp_eq, ↓ob, ↓pI, ↓pJ, ↓pR, ↓pV, ↓gO, ↓gI, ↓gJ, ↓gR, ↓gL, ↓gT, ↓lI, ↓lJ, ↓lR, psh, isRf, layA, padL, trimO, trimB, ld, ss1, ss2, killL, cmpB, popN, isO, isR, putOk, e_ag, e_agn, List.set_cons_zero, List.set_cons_succ, List.getElem?_cons_zero, List.getElem?_cons_succ, List.length_cons, List.length_nil, Value.category, decide_eq_true_eq, reduceIte, Nat.reduceAdd, Nat.reduceEqDiff, Nat.reduceLeDiff, reduceCtorEq, and_self, and_true, true_and, not_true_eq_false, not_false_eq_true, or_false, false_or, or_true, true_or, beq_self_eq_true, Nat.reduceBEq, Bool.false_eq_true, false_implies, forall_const, ↓s170_0, ↓s170_2, ↓s170_3, ↓s170_6, ↓s170_7, ↓s170_10, ↓s170_11, ↓s170_13, ↓s170_14, ↓s170_15, ↓s170_16, ↓s170_17, ↓s170_18, ↓s170_20, ↓s170_21, ↓s170_22, ↓s170_23, q1, q2, q3, nJ (show i < 2147483648 by omega), nJ (show n < 2147483648 by omega), J_sub, J_mul, hd, J_add, cutP_t h1]
