/-! CALL see, both sides (where not refused) -/
section SEE
variable {d : Nat} {h : AH} {l : List Int32}
theorem seen_put {l : List Int32} {v : Nat} {F : Nat → Int32} {i : Nat} {w : Int32} (old : ∀ (i : Nat) (v : Int32), l[i]? = some v → F i = v) (hw : (l ++ [nI v])[i]? = some w) : upd F l.length (nI v) i = w := by
  unfold upd
  by_cases hi : i = l.length
  · rw [if_pos hi]
    subst hi
    simp at hw
    exact hw
  · rw [if_neg hi]
    have hlt : i < l.length := by
      have := (List.getElem?_eq_some_iff.mp hw).1
      simp at this
      omega
    rw [List.getElem?_append_left hlt] at hw
    exact old i w hw
set_option maxRecDepth 100000 in
set_option maxHeartbeats 400000 in
theorem c_see (hS : SH h) (Y : SeenC h l) (hl : l.length < 12) {v : Nat} (hv : v < 10) : ∃ h', aCall (d + 1) 162 [.ref 0, .int (nI v)] h = some (some (.int (nI (l.length + 1))), h') ∧ h' = wi (wAI h 57 (upd (ai h 57) l.length (nI v))) 0 19 (nI (l.length + 1)) ∧ SeenC h' (l ++ [nI v]) := by
  obtain ⟨r1, r2, r3⟩ := Y
  have ir : vp_in (gi h 0 19) 12 := by rw [r1]; exact in_n hl (by omega)
  refine ⟨_, ?_, rfl, ?_, ?_, fun i w hw => ?_⟩
  · rw [aCall_go 200, x162]
    simp (maxSteps := 2000000) (disch := first | (with_reducible ((repeat' first | assumption | apply SH_wi | apply SH_wj | apply SH_wAI | apply SH_wAJ); done)) | omega | ((with_reducible (apply in_n)) <;> omega) | with_reducible exact Or.inl rfl | with_reducible exact Or.inr rfl | with_reducible exact bi_01 _ | ((with_reducible (refine vp_id ?_)); (simp only [gi_wAI, gi_wAJ, gi_wj, gi_wr, gj_wi, gj_wr, gj_wAI, gj_wAJ, gr_wi, gr_wj, gr_wAI, gr_wAJ, ai_wi, ai_wj, ai_wr, ai_wAJ, aj_wi, aj_wj, aj_wr, aj_wAI, ar_wi, ar_wj, ar_wr, ar_wAI, ar_wAJ, gi_wi_n, gj_wj_n, gr_wr_n, ai_wAI_n, aj_wAJ_n, SH_wi, SH_wj, SH_wAI, SH_wAJ, bi_01, and_false, false_and, ne_eq, if_true, if_false, true_and, and_true, not_true_eq_false, not_false_eq_true, Nat.reduceEqDiff, reduceCtorEq, or_true, true_or, n_mul, n_add, n_succ, nlit128, nlit6]); first | with_reducible assumption | ((with_reducible (apply in_n)) <;> omega)) | ((simp only [gi_wAI, gi_wAJ, gi_wj, gi_wr, gj_wi, gj_wr, gj_wAI, gj_wAJ, gr_wi, gr_wj, gr_wAI, gr_wAJ, ai_wi, ai_wj, ai_wr, ai_wAJ, aj_wi, aj_wj, aj_wr, aj_wAI, ar_wi, ar_wj, ar_wr, ar_wAI, ar_wAJ, gi_wi_n, gj_wj_n, gr_wr_n, ai_wAI_n, aj_wAJ_n, SH_wi, SH_wj, SH_wAI, SH_wAJ, bi_01, and_false, false_and, ne_eq, if_true, if_false, true_and, and_true, not_true_eq_false, not_false_eq_true, Nat.reduceEqDiff, reduceCtorEq, or_true, true_or]); first | done | with_reducible assumption)) only [lg_cmp_ge, lg_cmp_le, lg_cmp_gt, lg_cmp_lt, lg_cmp_eq, ↓ob, ↓pI, ↓pJ, ↓pR, ↓pV, ↓gO, ↓gI, ↓gJ, ↓gR, ↓gL, ↓gT, ↓lI, ↓lJ, ↓lR, psh, isRf, layA, padL, trimO, trimB, ld, ss1, ss2, killL, cmpB, popN, isR, putOk, e_ag, e_agn, List.set_cons_zero, List.set_cons_succ, List.getElem?_cons_zero, List.getElem?_cons_succ, List.length_cons, List.length_nil, Value.category, decide_eq_true_eq, reduceIte, Nat.reduceAdd, Nat.reduceEqDiff, Nat.reduceLeDiff, reduceCtorEq, and_self, and_true, true_and, not_true_eq_false, not_false_eq_true, or_false, false_or, or_true, true_or, beq_self_eq_true, Nat.reduceBEq, Bool.false_eq_true, false_implies, forall_const, ↓s162_0, ↓s162_1, ↓s162_4, ↓s162_5, ↓s162_7, ↓s162_10, ↓s162_11, ↓s162_14, ↓s162_15, ↓s162_18, ↓s162_19, ↓s162_22, ↓s162_23, ↓s162_24, ↓s162_25, ↓s162_28, ↓s162_29, ↓s162_32, ↓s162_33, ↓s162_34, ↓s162_35, ↓s162_36, ↓s162_39, ↓s162_40, ↓s162_41, ↓s162_44, ↓s162_45, ↓s162_48, nlit9, gi_wAI, gi_wAJ, gi_wj, gi_wr, gj_wi, gj_wr, gj_wAI, gj_wAJ, gr_wi, gr_wj, gr_wAI, gr_wAJ, ai_wi, ai_wj, ai_wr, ai_wAJ, aj_wi, aj_wj, aj_wr, aj_wAI, ar_wi, ar_wj, ar_wr, ar_wAI, ar_wAJ, gi_wi_n, gj_wj_n, gr_wr_n, ai_wAI_n, aj_wAJ_n, SH_wi, SH_wj, SH_wAI, SH_wAJ, bi_01, and_false, false_and, ne_eq, if_true, if_false, true_and, and_true, not_true_eq_false, not_false_eq_true, Nat.reduceEqDiff, reduceCtorEq, or_true, true_or, ltT, ltF, leT, leF, eqF, lt0F, le0T, eq0F, lt0T, le0F, nle1T, nle1F, n1leT, n1leF, nlt1T, nlt1F, n1ltT, n1ltF, neq1F, neq1T, neq0T, nle0T, n0ltF, n_add, n_succ, n_sub, n_sub1, n_mul, ↓n_rem, cl_n, bi_0, bi_ok, bi_ok2, bi_i8, i8_0, i8_1, narb, nar0, nar1, one0, zer1, ↓kont_go 200, ↓O0, ↓G0_0, ↓G0_1, ↓G0_2, g0_2, ↓U0_2, ↓G0_3, g0_3, ↓U0_3, ↓G0_4, ↓G0_5, ↓G0_6, g0_6, ↓U0_6, ↓G0_7, ↓G0_8, ↓G0_9, g0_9, ↓U0_9, ↓G0_10, ↓G0_11, ↓G0_12, ↓G0_13, ↓G0_14, ↓G0_15, ↓G0_16, ↓G0_17, ↓G0_18, ↓G0_19, g0_19, ↓U0_19, ↓E57, a57, ↓I57, ↓W57, r1]
  · rw [g0_19 (SH_wAI hS), List.length_append]
    rfl
  · rw [List.length_append]
    simp
    omega
  · rw [ai_wi, a57 hS]
    exact seen_put r3 hw
end SEE
