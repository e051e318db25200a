/-! THE CLASS: Net: arrows put, asked and gathered -/
theorem w64_0 {w : Int64} : w = 0 ↔ ∀ o, o < 64 → w.toBitVec.getLsbD o = false := by
  constructor
  · intro h o _
    rw [h]
    exact BitVec.getLsbD_zero
  · intro h
    apply Int64.toBitVec_inj.mp
    apply BitVec.eq_of_getLsbD_eq
    intro i hi
    rw [h i hi]
    exact BitVec.getLsbD_zero.symm
theorem or_0 {x y : Int64} : x ||| y = 0 ↔ (∀ o, o < 64 → x.toBitVec.getLsbD o = false) ∧ ∀ o, o < 64 → y.toBitVec.getLsbD o = false := by
  rw [w64_0]
  have e : ∀ o, (x ||| y).toBitVec.getLsbD o = (x.toBitVec.getLsbD o || y.toBitVec.getLsbD o) := fun o => BitVec.getLsbD_or
  constructor
  · intro h
    exact ⟨fun o ho => by have := h o ho; rw [e, Bool.or_eq_false_iff] at this; exact this.1, fun o ho => by have := h o ho; rw [e, Bool.or_eq_false_iff] at this; exact this.2⟩
  · intro h o ho
    rw [e, h.1 o ho, h.2 o ho]
    rfl
theorem anyB_f {f : Nat → Bool} {n : Nat} : anyB n f = false ↔ ∀ i, i < n → f i = false := by
  constructor
  · intro h i hi
    cases q : f i with
    | false => rfl
    | true => rw [anyB_iff.mpr ⟨i, hi, q⟩] at h; cases h
  · intro h
    cases q : anyB n f with
    | false => rfl
    | true =>
      obtain ⟨i, hi, q2⟩ := anyB_iff.mp q
      rw [h i hi] at q2
      cases q2
theorem two64 {f p q : Nat → Bool} (h1 : ∀ o, o < 64 → f o = p o) (h2 : ∀ o, o < 64 → f (o + 64) = q o) : (∀ o, o < 128 → f o = false) ↔ (∀ o, o < 64 → p o = false) ∧ ∀ o, o < 64 → q o = false := by
  constructor
  · intro h
    exact ⟨fun o ho => by rw [← h1 o ho]; exact h o (by omega), fun o ho => by rw [← h2 o ho]; exact h (o + 64) (by omega)⟩
  · rintro ⟨ha, hb⟩ o ho
    by_cases e : o < 64
    · rw [h1 o e]; exact ha o e
    · have := h2 (o - 64) (by omega)
      rw [show o - 64 + 64 = o by omega] at this
      rw [this]; exact hb _ (by omega)
section CNET2
variable {d b c e : Nat} {h : AH}
theorem hasN_lo {o : Nat} (ho : o < 64) : hasN h b c o = (aj h (b + 1) c).toBitVec.getLsbD o := by unfold hasN bitW; rw [if_pos ho]
theorem hasN_hi {o : Nat} : hasN h b c (o + 64) = (aj h (b + 2) c).toBitVec.getLsbD o := by unfold hasN bitW; rw [if_neg (by omega), Nat.add_sub_cancel]
theorem hasC_lo {o : Nat} (ho : o < 64) : hasC h e o = (gj h e 0).toBitVec.getLsbD o := by unfold hasC; rw [if_pos ho]
theorem hasC_hi {o : Nat} : hasC h e (o + 64) = (gj h e 1).toBitVec.getLsbD o := by unfold hasC; rw [if_neg (by omega), Nat.add_sub_cancel]
theorem goes_iff : ((aj h (b + 1) c &&& gj h e 0) ||| (aj h (b + 2) c &&& gj h e 1) = 0) ↔ anyB 128 (fun o => hasN h b c o && hasC h e o) = false := by
  rw [or_0, anyB_f]
  symm
  refine two64 (fun o ho => ?_) (fun o ho => ?_)
  · rw [hasN_lo ho, hasC_lo ho]; exact BitVec.getLsbD_and.symm
  · rw [hasN_hi, hasC_hi]; exact BitVec.getLsbD_and.symm
theorem sure_iff : ((aj h (b + 1) c &&& (gj h e 0 ^^^ -1)) ||| (aj h (b + 2) c &&& (gj h e 1 ^^^ -1)) = 0) ↔ anyB 128 (fun o => hasN h b c o && !hasC h e o) = false := by
  rw [or_0, anyB_f]
  symm
  refine two64 (fun o ho => ?_) (fun o ho => ?_)
  · rw [hasN_lo ho, hasC_lo ho]; exact (andnot _ _ ho).symm
  · rw [hasN_hi, hasC_hi]; exact (andnot _ _ ho).symm
set_option maxRecDepth 100000 in
set_option maxHeartbeats 400000 in
theorem c_goesInto (hS : SH h) (hn : isNt b) (he : isCl e) (hc : c < 128) : aCall (d + 2) 46 [.ref b, .int (nI c), .ref e] h = some (some (.int (bi (anyB 128 (fun o => hasN h b c o && hasC h e o)))), h) := by
  rw [aCall_go 200, x46]
  have n0 := fun (K : Value → Option OU) => N0 (K := K) hS hn
  have n1 := fun (K : Value → Option OU) => N1 (K := K) hS hn
  have l1 := fun (K : Int64 → Option OU) => NL1 (K := K) (i := nI c) hS hn (in_n hc (by omega))
  have l2 := fun (K : Int64 → Option OU) => NL2 (K := K) (i := nI c) hS hn (in_n hc (by omega))
  have k0 := fun (K : Value → Option OU) => C0 (K := K) hS he
  have k1 := fun (K : Value → Option OU) => C1 (K := K) hS he
  have w := goes_iff (h := h) (b := b) (c := c) (e := e)
  simp (maxSteps := 2000000) (disch := first | (with_reducible ((repeat' first | assumption | apply SH_wi | apply SH_wj | apply SH_wAI | apply SH_wAJ); done)) | omega | ((with_reducible (apply in_n)) <;> omega) | with_reducible exact Or.inl rfl | with_reducible exact Or.inr rfl | with_reducible exact bi_01 _ | ((with_reducible (refine vp_id ?_)); (simp only [gi_wAI, gi_wAJ, gi_wj, gi_wr, gj_wi, gj_wr, gj_wAI, gj_wAJ, gr_wi, gr_wj, gr_wAI, gr_wAJ, ai_wi, ai_wj, ai_wr, ai_wAJ, aj_wi, aj_wj, aj_wr, aj_wAI, ar_wi, ar_wj, ar_wr, ar_wAI, ar_wAJ, gi_wi_n, gj_wj_n, gr_wr_n, ai_wAI_n, aj_wAJ_n, SH_wi, SH_wj, SH_wAI, SH_wAJ, bi_01, and_false, false_and, ne_eq, if_true, if_false, true_and, and_true, not_true_eq_false, not_false_eq_true, Nat.reduceEqDiff, reduceCtorEq, or_true, true_or, n_mul, n_add, n_succ, nlit128, nlit6]); first | with_reducible assumption | ((with_reducible (apply in_n)) <;> omega)) | ((simp only [gi_wAI, gi_wAJ, gi_wj, gi_wr, gj_wi, gj_wr, gj_wAI, gj_wAJ, gr_wi, gr_wj, gr_wAI, gr_wAJ, ai_wi, ai_wj, ai_wr, ai_wAJ, aj_wi, aj_wj, aj_wr, aj_wAI, ar_wi, ar_wj, ar_wr, ar_wAI, ar_wAJ, gi_wi_n, gj_wj_n, gr_wr_n, ai_wAI_n, aj_wAJ_n, SH_wi, SH_wj, SH_wAI, SH_wAJ, bi_01, and_false, false_and, ne_eq, if_true, if_false, true_and, and_true, not_true_eq_false, not_false_eq_true, Nat.reduceEqDiff, reduceCtorEq, or_true, true_or]); first | done | with_reducible assumption)) only [lg_cmp_ge, lg_cmp_le, lg_cmp_gt, lg_cmp_lt, lg_cmp_eq, ↓ob, ↓pI, ↓pJ, ↓pR, ↓pV, ↓gO, ↓gI, ↓gJ, ↓gR, ↓gL, ↓gT, ↓lI, ↓lJ, ↓lR, psh, isRf, layA, padL, trimO, trimB, ld, ss1, ss2, killL, cmpB, popN, isR, putOk, e_ag, e_agn, List.set_cons_zero, List.set_cons_succ, List.getElem?_cons_zero, List.getElem?_cons_succ, List.length_cons, List.length_nil, Value.category, decide_eq_true_eq, reduceIte, Nat.reduceAdd, Nat.reduceEqDiff, Nat.reduceLeDiff, reduceCtorEq, and_self, and_true, true_and, not_true_eq_false, not_false_eq_true, or_false, false_or, or_true, true_or, beq_self_eq_true, Nat.reduceBEq, Bool.false_eq_true, false_implies, forall_const, ↓s46_0, ↓s46_1, ↓s46_4, ↓s46_7, ↓s46_8, ↓s46_11, ↓s46_12, ↓s46_13, ↓s46_14, ↓s46_17, ↓s46_18, ↓s46_19, ↓s46_22, ↓s46_23, ↓s46_24, ↓s46_25, ↓s46_28, ↓s46_29, ↓s46_30, ↓s46_31, ↓s46_32, ↓s46_35, ↓s46_36, ↓s46_39, ↓s46_40, x42, gi_wAI, gi_wAJ, gi_wj, gi_wr, gj_wi, gj_wr, gj_wAI, gj_wAJ, gr_wi, gr_wj, gr_wAI, gr_wAJ, ai_wi, ai_wj, ai_wr, ai_wAJ, aj_wi, aj_wj, aj_wr, aj_wAI, ar_wi, ar_wj, ar_wr, ar_wAI, ar_wAJ, gi_wi_n, gj_wj_n, gr_wr_n, ai_wAI_n, aj_wAJ_n, SH_wi, SH_wj, SH_wAI, SH_wAJ, bi_01, and_false, false_and, ne_eq, if_true, if_false, true_and, and_true, not_true_eq_false, not_false_eq_true, Nat.reduceEqDiff, reduceCtorEq, or_true, true_or, ltT, ltF, leT, leF, eqF, lt0F, le0T, eq0F, lt0T, le0F, nle1T, nle1F, n1leT, n1leF, nlt1T, nlt1F, n1ltT, n1ltF, neq1F, neq1T, neq0T, nle0T, n0ltF, n_add, n_succ, n_sub, n_sub1, n_mul, ↓n_rem, cl_n, bi_0, bi_ok, bi_ok2, bi_i8, i8_0, i8_1, narb, nar0, nar1, one0, zer1, ↓kont_go 200, c_isPlace, n0, n1, l1, l2, k0, k1, w]
  cases anyB 128 (fun o => hasN h b c o && hasC h e o) <;> rfl
set_option maxRecDepth 100000 in
set_option maxHeartbeats 400000 in
theorem c_surely (hS : SH h) (hn : isNt b) (he : isCl e) (hc : c < 128) : aCall (d + 2) 47 [.ref b, .int (nI c), .ref e] h = some (some (.int (bi (!hasC h (b + 3) c && !anyB 128 (fun o => hasN h b c o && !hasC h e o)))), h) := by
  rw [aCall_go 200, x47]
  have n0 := fun (K : Value → Option OU) => N0 (K := K) hS hn
  have n1 := fun (K : Value → Option OU) => N1 (K := K) hS hn
  have n2 := fun (K : Value → Option OU) => N2 (K := K) hS hn
  have l1 := fun (K : Int64 → Option OU) => NL1 (K := K) (i := nI c) hS hn (in_n hc (by omega))
  have l2 := fun (K : Int64 → Option OU) => NL2 (K := K) (i := nI c) hS hn (in_n hc (by omega))
  have k0 := fun (K : Value → Option OU) => C0 (K := K) hS he
  have k1 := fun (K : Value → Option OU) => C1 (K := K) hS he
  have hh := c_holdsN (d := d) hS hn.2.2.2 hc
  have oc : ∀ t, isO h 2 (.ref (b + 3) :: t) = true := fun t => OC hS hn.2.2.2
  have w := sure_iff (h := h) (b := b) (c := c) (e := e)
  simp (maxSteps := 2000000) (disch := first | (with_reducible ((repeat' first | assumption | apply SH_wi | apply SH_wj | apply SH_wAI | apply SH_wAJ); done)) | omega | ((with_reducible (apply in_n)) <;> omega) | with_reducible exact Or.inl rfl | with_reducible exact Or.inr rfl | with_reducible exact bi_01 _ | ((with_reducible (refine vp_id ?_)); (simp only [gi_wAI, gi_wAJ, gi_wj, gi_wr, gj_wi, gj_wr, gj_wAI, gj_wAJ, gr_wi, gr_wj, gr_wAI, gr_wAJ, ai_wi, ai_wj, ai_wr, ai_wAJ, aj_wi, aj_wj, aj_wr, aj_wAI, ar_wi, ar_wj, ar_wr, ar_wAI, ar_wAJ, gi_wi_n, gj_wj_n, gr_wr_n, ai_wAI_n, aj_wAJ_n, SH_wi, SH_wj, SH_wAI, SH_wAJ, bi_01, and_false, false_and, ne_eq, if_true, if_false, true_and, and_true, not_true_eq_false, not_false_eq_true, Nat.reduceEqDiff, reduceCtorEq, or_true, true_or, n_mul, n_add, n_succ, nlit128, nlit6]); first | with_reducible assumption | ((with_reducible (apply in_n)) <;> omega)) | ((simp only [gi_wAI, gi_wAJ, gi_wj, gi_wr, gj_wi, gj_wr, gj_wAI, gj_wAJ, gr_wi, gr_wj, gr_wAI, gr_wAJ, ai_wi, ai_wj, ai_wr, ai_wAJ, aj_wi, aj_wj, aj_wr, aj_wAI, ar_wi, ar_wj, ar_wr, ar_wAI, ar_wAJ, gi_wi_n, gj_wj_n, gr_wr_n, ai_wAI_n, aj_wAJ_n, SH_wi, SH_wj, SH_wAI, SH_wAJ, bi_01, and_false, false_and, ne_eq, if_true, if_false, true_and, and_true, not_true_eq_false, not_false_eq_true, Nat.reduceEqDiff, reduceCtorEq, or_true, true_or]); first | done | with_reducible assumption)) only [lg_cmp_ge, lg_cmp_le, lg_cmp_gt, lg_cmp_lt, lg_cmp_eq, ↓ob, ↓pI, ↓pJ, ↓pR, ↓pV, ↓gO, ↓gI, ↓gJ, ↓gR, ↓gL, ↓gT, ↓lI, ↓lJ, ↓lR, psh, isRf, layA, padL, trimO, trimB, ld, ss1, ss2, killL, cmpB, popN, isR, putOk, e_ag, e_agn, List.set_cons_zero, List.set_cons_succ, List.getElem?_cons_zero, List.getElem?_cons_succ, List.length_cons, List.length_nil, Value.category, decide_eq_true_eq, reduceIte, Nat.reduceAdd, Nat.reduceEqDiff, Nat.reduceLeDiff, reduceCtorEq, and_self, and_true, true_and, not_true_eq_false, not_false_eq_true, or_false, false_or, or_true, true_or, beq_self_eq_true, Nat.reduceBEq, Bool.false_eq_true, false_implies, forall_const, ↓s47_0, ↓s47_1, ↓s47_4, ↓s47_7, ↓s47_8, ↓s47_11, ↓s47_12, ↓s47_15, ↓s47_18, ↓s47_19, ↓s47_22, ↓s47_23, ↓s47_24, ↓s47_25, ↓s47_28, ↓s47_31, ↓s47_32, ↓s47_33, ↓s47_34, ↓s47_37, ↓s47_38, ↓s47_39, ↓s47_40, ↓s47_43, ↓s47_46, ↓s47_47, ↓s47_48, ↓s47_49, ↓s47_50, ↓s47_51, ↓s47_54, ↓s47_55, ↓s47_58, ↓s47_59, x14, x42, gi_wAI, gi_wAJ, gi_wj, gi_wr, gj_wi, gj_wr, gj_wAI, gj_wAJ, gr_wi, gr_wj, gr_wAI, gr_wAJ, ai_wi, ai_wj, ai_wr, ai_wAJ, aj_wi, aj_wj, aj_wr, aj_wAI, ar_wi, ar_wj, ar_wr, ar_wAI, ar_wAJ, gi_wi_n, gj_wj_n, gr_wr_n, ai_wAI_n, aj_wAJ_n, SH_wi, SH_wj, SH_wAI, SH_wAJ, bi_01, and_false, false_and, ne_eq, if_true, if_false, true_and, and_true, not_true_eq_false, not_false_eq_true, Nat.reduceEqDiff, reduceCtorEq, or_true, true_or, ltT, ltF, leT, leF, eqF, lt0F, le0T, eq0F, lt0T, le0F, nle1T, nle1F, n1leT, n1leF, nlt1T, nlt1F, n1ltT, n1ltF, neq1F, neq1T, neq0T, nle0T, n0ltF, n_add, n_succ, n_sub, n_sub1, n_mul, ↓n_rem, cl_n, bi_0, bi_ok, bi_ok2, bi_i8, i8_0, i8_1, narb, nar0, nar1, one0, zer1, ↓kont_go 200, c_isPlace, n0, n1, n2, l1, l2, k0, k1, hh, oc, w]
  cases hasC h (b + 3) c <;> cases anyB 128 (fun o => hasN h b c o && !hasC h e o) <;> rfl
set_option maxRecDepth 100000 in
set_option maxHeartbeats 400000 in
theorem c_addT (hS : SH h) (hn : isNt b) (he : isCl e) (hc : c < 128) : ∃ h', aCall (d + 2) 48 [.ref b, .int (nI c), .ref e] h = some (none, h') ∧ Fr [e] h h' ∧ ∀ o, o < 128 → hasC h' e o = (hasC h e o || hasN h b c o) := by
  rw [aCall_go 200, x48]
  have n0 := fun (K : Value → Option OU) => N0 (K := K) hS hn
  have k0 := fun (K : Value → Option OU) => C0 (K := K) hS he
  have l1 := fun (K : Int64 → Option OU) => NL1 (K := K) (i := nI c) hS hn (in_n hc (by omega))
  have u0 := fun (y : Int64) (K : AH → Option OU) => D0 (K := K) (y := y) hS he
  have n1 := fun (y : Int64) (K : Value → Option OU) => N1 (K := K) (SH_wj (r := e) (b := 0) (x := y) hS) hn
  have k1 := fun (y : Int64) (K : Value → Option OU) => C1 (K := K) (SH_wj (r := e) (b := 0) (x := y) hS) he
  have l2 := fun (y : Int64) (K : Int64 → Option OU) => NL2 (K := K) (i := nI c) (SH_wj (r := e) (b := 0) (x := y) hS) hn (in_n hc (by omega))
  have u1 := fun (y z : Int64) (K : AH → Option OU) => D1 (K := K) (y := z) (SH_wj (r := e) (b := 0) (x := y) hS) he
  simp (maxSteps := 2000000) (disch := first | (with_reducible ((repeat' first | assumption | apply SH_wi | apply SH_wj | apply SH_wAI | apply SH_wAJ); done)) | omega | ((with_reducible (apply in_n)) <;> omega) | with_reducible exact Or.inl rfl | with_reducible exact Or.inr rfl | with_reducible exact bi_01 _ | ((with_reducible (refine vp_id ?_)); (simp only [gi_wAI, gi_wAJ, gi_wj, gi_wr, gj_wi, gj_wr, gj_wAI, gj_wAJ, gr_wi, gr_wj, gr_wAI, gr_wAJ, ai_wi, ai_wj, ai_wr, ai_wAJ, aj_wi, aj_wj, aj_wr, aj_wAI, ar_wi, ar_wj, ar_wr, ar_wAI, ar_wAJ, gi_wi_n, gj_wj_n, gr_wr_n, ai_wAI_n, aj_wAJ_n, SH_wi, SH_wj, SH_wAI, SH_wAJ, bi_01, and_false, false_and, ne_eq, if_true, if_false, true_and, and_true, not_true_eq_false, not_false_eq_true, Nat.reduceEqDiff, reduceCtorEq, or_true, true_or, n_mul, n_add, n_succ, nlit128, nlit6]); first | with_reducible assumption | ((with_reducible (apply in_n)) <;> omega)) | ((simp only [gi_wAI, gi_wAJ, gi_wj, gi_wr, gj_wi, gj_wr, gj_wAI, gj_wAJ, gr_wi, gr_wj, gr_wAI, gr_wAJ, ai_wi, ai_wj, ai_wr, ai_wAJ, aj_wi, aj_wj, aj_wr, aj_wAI, ar_wi, ar_wj, ar_wr, ar_wAI, ar_wAJ, gi_wi_n, gj_wj_n, gr_wr_n, ai_wAI_n, aj_wAJ_n, SH_wi, SH_wj, SH_wAI, SH_wAJ, bi_01, and_false, false_and, ne_eq, if_true, if_false, true_and, and_true, not_true_eq_false, not_false_eq_true, Nat.reduceEqDiff, reduceCtorEq, or_true, true_or]); first | done | with_reducible assumption)) only [lg_cmp_ge, lg_cmp_le, lg_cmp_gt, lg_cmp_lt, lg_cmp_eq, ↓ob, ↓pI, ↓pJ, ↓pR, ↓pV, ↓gO, ↓gI, ↓gJ, ↓gR, ↓gL, ↓gT, ↓lI, ↓lJ, ↓lR, psh, isRf, layA, padL, trimO, trimB, ld, ss1, ss2, killL, cmpB, popN, isR, putOk, e_ag, e_agn, List.set_cons_zero, List.set_cons_succ, List.getElem?_cons_zero, List.getElem?_cons_succ, List.length_cons, List.length_nil, Value.category, decide_eq_true_eq, reduceIte, Nat.reduceAdd, Nat.reduceEqDiff, Nat.reduceLeDiff, reduceCtorEq, and_self, and_true, true_and, not_true_eq_false, not_false_eq_true, or_false, false_or, or_true, true_or, beq_self_eq_true, Nat.reduceBEq, Bool.false_eq_true, false_implies, forall_const, ↓s48_0, ↓s48_1, ↓s48_4, ↓s48_7, ↓s48_8, ↓s48_9, ↓s48_12, ↓s48_13, ↓s48_16, ↓s48_17, ↓s48_18, ↓s48_19, ↓s48_22, ↓s48_23, ↓s48_24, ↓s48_27, ↓s48_28, ↓s48_31, ↓s48_32, ↓s48_33, ↓s48_34, ↓s48_37, x42, gi_wAI, gi_wAJ, gi_wj, gi_wr, gj_wi, gj_wr, gj_wAI, gj_wAJ, gr_wi, gr_wj, gr_wAI, gr_wAJ, ai_wi, ai_wj, ai_wr, ai_wAJ, aj_wi, aj_wj, aj_wr, aj_wAI, ar_wi, ar_wj, ar_wr, ar_wAI, ar_wAJ, gi_wi_n, gj_wj_n, gr_wr_n, ai_wAI_n, aj_wAJ_n, SH_wi, SH_wj, SH_wAI, SH_wAJ, bi_01, and_false, false_and, ne_eq, if_true, if_false, true_and, and_true, not_true_eq_false, not_false_eq_true, Nat.reduceEqDiff, reduceCtorEq, or_true, true_or, ltT, ltF, leT, leF, eqF, lt0F, le0T, eq0F, lt0T, le0F, nle1T, nle1F, n1leT, n1leF, nlt1T, nlt1F, n1ltT, n1ltF, neq1F, neq1T, neq0T, nle0T, n0ltF, n_add, n_succ, n_sub, n_sub1, n_mul, ↓n_rem, cl_n, bi_0, bi_ok, bi_ok2, bi_i8, i8_0, i8_1, narb, nar0, nar1, one0, zer1, ↓kont_go 200, c_isPlace, n0, k0, l1, u0, n1, k1, l2, u1]
  refine ⟨_, rfl, (Fr_wj hS).trans (Fr_wj (SH_wj hS)), fun o ho => ?_⟩
  rw [hasC_wj1 (SH_wj hS) he, hasC_wj0 hS he]
  unfold hasC hasN bitW
  by_cases h3 : o < 64
  · rw [if_pos h3, if_pos h3, if_pos h3, if_pos h3]; exact BitVec.getLsbD_or
  · rw [if_neg h3, if_neg h3, if_neg h3]; exact BitVec.getLsbD_or
set_option maxRecDepth 100000 in
set_option maxHeartbeats 400000 in
theorem c_link (hS : SH h) (hn : isNt b) {o : Nat} (hc : c < 128) (ho : o < 128) : ∃ h', aCall (d + 2) 43 [.ref b, .int (nI c), .int (nI o)] h = some (none, h') ∧ Fr [b + 1, b + 2] h h' ∧ ∀ c' o', c' < 128 → o' < 128 → hasN h' b c' o' = (hasN h b c' o' || (decide (c' = c) && decide (o' = o))) := by
  rw [aCall_go 200, x43]
  have n0 := fun (K : Value → Option OU) => N0 (K := K) hS hn
  have n1 := fun (K : Value → Option OU) => N1 (K := K) hS hn
  have l1 := fun (K : Int64 → Option OU) => NL1 (K := K) (i := nI c) hS hn (in_n hc (by omega))
  have l2 := fun (K : Int64 → Option OU) => NL2 (K := K) (i := nI c) hS hn (in_n hc (by omega))
  have w1 := fun (x : Int64) (K : AH → Option OU) => NW1 (K := K) (i := nI c) (x := x) hS hn (in_n hc (by omega))
  have w2 := fun (x : Int64) (K : AH → Option OU) => NW2 (K := K) (i := nI c) (x := x) hS hn (in_n hc (by omega))
  have a63 := and63 o ho
  by_cases h2 : o < 64
  · simp (maxSteps := 2000000) (disch := first | (with_reducible ((repeat' first | assumption | apply SH_wi | apply SH_wj | apply SH_wAI | apply SH_wAJ); done)) | omega | ((with_reducible (apply in_n)) <;> omega) | with_reducible exact Or.inl rfl | with_reducible exact Or.inr rfl | with_reducible exact bi_01 _ | ((with_reducible (refine vp_id ?_)); (simp only [gi_wAI, gi_wAJ, gi_wj, gi_wr, gj_wi, gj_wr, gj_wAI, gj_wAJ, gr_wi, gr_wj, gr_wAI, gr_wAJ, ai_wi, ai_wj, ai_wr, ai_wAJ, aj_wi, aj_wj, aj_wr, aj_wAI, ar_wi, ar_wj, ar_wr, ar_wAI, ar_wAJ, gi_wi_n, gj_wj_n, gr_wr_n, ai_wAI_n, aj_wAJ_n, SH_wi, SH_wj, SH_wAI, SH_wAJ, bi_01, and_false, false_and, ne_eq, if_true, if_false, true_and, and_true, not_true_eq_false, not_false_eq_true, Nat.reduceEqDiff, reduceCtorEq, or_true, true_or, n_mul, n_add, n_succ, nlit128, nlit6]); first | with_reducible assumption | ((with_reducible (apply in_n)) <;> omega)) | ((simp only [gi_wAI, gi_wAJ, gi_wj, gi_wr, gj_wi, gj_wr, gj_wAI, gj_wAJ, gr_wi, gr_wj, gr_wAI, gr_wAJ, ai_wi, ai_wj, ai_wr, ai_wAJ, aj_wi, aj_wj, aj_wr, aj_wAI, ar_wi, ar_wj, ar_wr, ar_wAI, ar_wAJ, gi_wi_n, gj_wj_n, gr_wr_n, ai_wAI_n, aj_wAJ_n, SH_wi, SH_wj, SH_wAI, SH_wAJ, bi_01, and_false, false_and, ne_eq, if_true, if_false, true_and, and_true, not_true_eq_false, not_false_eq_true, Nat.reduceEqDiff, reduceCtorEq, or_true, true_or]); first | done | with_reducible assumption)) only [lg_cmp_ge, lg_cmp_le, lg_cmp_gt, lg_cmp_lt, lg_cmp_eq, ↓ob, ↓pI, ↓pJ, ↓pR, ↓pV, ↓gO, ↓gI, ↓gJ, ↓gR, ↓gL, ↓gT, ↓lI, ↓lJ, ↓lR, psh, isRf, layA, padL, trimO, trimB, ld, ss1, ss2, killL, cmpB, popN, isR, putOk, e_ag, e_agn, List.set_cons_zero, List.set_cons_succ, List.getElem?_cons_zero, List.getElem?_cons_succ, List.length_cons, List.length_nil, Value.category, decide_eq_true_eq, reduceIte, Nat.reduceAdd, Nat.reduceEqDiff, Nat.reduceLeDiff, reduceCtorEq, and_self, and_true, true_and, not_true_eq_false, not_false_eq_true, or_false, false_or, or_true, true_or, beq_self_eq_true, Nat.reduceBEq, Bool.false_eq_true, false_implies, forall_const, ↓s43_0, ↓s43_1, ↓s43_4, ↓s43_7, ↓s43_8, ↓s43_11, ↓s43_14, ↓s43_15, ↓s43_17, ↓s43_20, ↓s43_21, ↓s43_24, ↓s43_25, ↓s43_26, ↓s43_27, ↓s43_28, ↓s43_29, ↓s43_30, ↓s43_31, ↓s43_32, ↓s43_35, ↓s43_36, ↓s43_39, ↓s43_40, ↓s43_41, ↓s43_42, ↓s43_43, ↓s43_44, ↓s43_46, ↓s43_47, ↓s43_48, ↓s43_49, ↓s43_50, x42, gi_wAI, gi_wAJ, gi_wj, gi_wr, gj_wi, gj_wr, gj_wAI, gj_wAJ, gr_wi, gr_wj, gr_wAI, gr_wAJ, ai_wi, ai_wj, ai_wr, ai_wAJ, aj_wi, aj_wj, aj_wr, aj_wAI, ar_wi, ar_wj, ar_wr, ar_wAI, ar_wAJ, gi_wi_n, gj_wj_n, gr_wr_n, ai_wAI_n, aj_wAJ_n, SH_wi, SH_wj, SH_wAI, SH_wAJ, bi_01, and_false, false_and, ne_eq, if_true, if_false, true_and, and_true, not_true_eq_false, not_false_eq_true, Nat.reduceEqDiff, reduceCtorEq, or_true, true_or, ltT, ltF, leT, leF, eqF, lt0F, le0T, eq0F, lt0T, le0F, nle1T, nle1F, n1leT, n1leF, nlt1T, nlt1F, n1ltT, n1ltF, neq1F, neq1T, neq0T, nle0T, n0ltF, n_add, n_succ, n_sub, n_sub1, n_mul, ↓n_rem, cl_n, bi_0, bi_ok, bi_ok2, bi_i8, i8_0, i8_1, narb, nar0, nar1, one0, zer1, ↓kont_go 200, nlit64, c_isPlace, n0, n1, l1, l2, w1, w2]
    refine ⟨_, rfl, (Fr_wAJ hS).mono (by simp), fun c' o' hc' ho' => ?_⟩
    unfold hasN bitW
    rw [aj_s1 hS hn, aj_wAJ_n (by omega)]
    unfold vp_updL
    by_cases e1 : c' = c
    · subst e1
      rw [if_pos rfl, decide_eq_true rfl, Bool.true_and]
      by_cases h3 : o' < 64
      · rw [if_pos h3, if_pos h3, or_k _ h2 h3]
        congr 1
        exact decide_eq_decide.mpr eq_comm
      · rw [if_neg h3, if_neg h3, decide_eq_false (by omega), Bool.or_false]
    · rw [if_neg e1, decide_eq_false e1, Bool.false_and, Bool.or_false]
  · have hm2 : o % 64 = o - 64 := by omega
    rw [hm2] at a63
    simp (maxSteps := 2000000) (disch := first | (with_reducible ((repeat' first | assumption | apply SH_wi | apply SH_wj | apply SH_wAI | apply SH_wAJ); done)) | omega | ((with_reducible (apply in_n)) <;> omega) | with_reducible exact Or.inl rfl | with_reducible exact Or.inr rfl | with_reducible exact bi_01 _ | ((with_reducible (refine vp_id ?_)); (simp only [gi_wAI, gi_wAJ, gi_wj, gi_wr, gj_wi, gj_wr, gj_wAI, gj_wAJ, gr_wi, gr_wj, gr_wAI, gr_wAJ, ai_wi, ai_wj, ai_wr, ai_wAJ, aj_wi, aj_wj, aj_wr, aj_wAI, ar_wi, ar_wj, ar_wr, ar_wAI, ar_wAJ, gi_wi_n, gj_wj_n, gr_wr_n, ai_wAI_n, aj_wAJ_n, SH_wi, SH_wj, SH_wAI, SH_wAJ, bi_01, and_false, false_and, ne_eq, if_true, if_false, true_and, and_true, not_true_eq_false, not_false_eq_true, Nat.reduceEqDiff, reduceCtorEq, or_true, true_or, n_mul, n_add, n_succ, nlit128, nlit6]); first | with_reducible assumption | ((with_reducible (apply in_n)) <;> omega)) | ((simp only [gi_wAI, gi_wAJ, gi_wj, gi_wr, gj_wi, gj_wr, gj_wAI, gj_wAJ, gr_wi, gr_wj, gr_wAI, gr_wAJ, ai_wi, ai_wj, ai_wr, ai_wAJ, aj_wi, aj_wj, aj_wr, aj_wAI, ar_wi, ar_wj, ar_wr, ar_wAI, ar_wAJ, gi_wi_n, gj_wj_n, gr_wr_n, ai_wAI_n, aj_wAJ_n, SH_wi, SH_wj, SH_wAI, SH_wAJ, bi_01, and_false, false_and, ne_eq, if_true, if_false, true_and, and_true, not_true_eq_false, not_false_eq_true, Nat.reduceEqDiff, reduceCtorEq, or_true, true_or]); first | done | with_reducible assumption)) only [lg_cmp_ge, lg_cmp_le, lg_cmp_gt, lg_cmp_lt, lg_cmp_eq, ↓ob, ↓pI, ↓pJ, ↓pR, ↓pV, ↓gO, ↓gI, ↓gJ, ↓gR, ↓gL, ↓gT, ↓lI, ↓lJ, ↓lR, psh, isRf, layA, padL, trimO, trimB, ld, ss1, ss2, killL, cmpB, popN, isR, putOk, e_ag, e_agn, List.set_cons_zero, List.set_cons_succ, List.getElem?_cons_zero, List.getElem?_cons_succ, List.length_cons, List.length_nil, Value.category, decide_eq_true_eq, reduceIte, Nat.reduceAdd, Nat.reduceEqDiff, Nat.reduceLeDiff, reduceCtorEq, and_self, and_true, true_and, not_true_eq_false, not_false_eq_true, or_false, false_or, or_true, true_or, beq_self_eq_true, Nat.reduceBEq, Bool.false_eq_true, false_implies, forall_const, ↓s43_0, ↓s43_1, ↓s43_4, ↓s43_7, ↓s43_8, ↓s43_11, ↓s43_14, ↓s43_15, ↓s43_17, ↓s43_20, ↓s43_21, ↓s43_24, ↓s43_25, ↓s43_26, ↓s43_27, ↓s43_28, ↓s43_29, ↓s43_30, ↓s43_31, ↓s43_32, ↓s43_35, ↓s43_36, ↓s43_39, ↓s43_40, ↓s43_41, ↓s43_42, ↓s43_43, ↓s43_44, ↓s43_46, ↓s43_47, ↓s43_48, ↓s43_49, ↓s43_50, x42, gi_wAI, gi_wAJ, gi_wj, gi_wr, gj_wi, gj_wr, gj_wAI, gj_wAJ, gr_wi, gr_wj, gr_wAI, gr_wAJ, ai_wi, ai_wj, ai_wr, ai_wAJ, aj_wi, aj_wj, aj_wr, aj_wAI, ar_wi, ar_wj, ar_wr, ar_wAI, ar_wAJ, gi_wi_n, gj_wj_n, gr_wr_n, ai_wAI_n, aj_wAJ_n, SH_wi, SH_wj, SH_wAI, SH_wAJ, bi_01, and_false, false_and, ne_eq, if_true, if_false, true_and, and_true, not_true_eq_false, not_false_eq_true, Nat.reduceEqDiff, reduceCtorEq, or_true, true_or, ltT, ltF, leT, leF, eqF, lt0F, le0T, eq0F, lt0T, le0F, nle1T, nle1F, n1leT, n1leF, nlt1T, nlt1F, n1ltT, n1ltF, neq1F, neq1T, neq0T, nle0T, n0ltF, n_add, n_succ, n_sub, n_sub1, n_mul, ↓n_rem, cl_n, bi_0, bi_ok, bi_ok2, bi_i8, i8_0, i8_1, narb, nar0, nar1, one0, zer1, ↓kont_go 200, nlit64, c_isPlace, n0, n1, l1, l2, w1, w2, a63]
    refine ⟨_, rfl, (Fr_wAJ hS).mono (by simp), fun c' o' hc' ho' => ?_⟩
    unfold hasN bitW
    rw [aj_s2 hS hn, aj_wAJ_n (by omega)]
    unfold vp_updL
    by_cases e1 : c' = c
    · subst e1
      rw [if_pos rfl, decide_eq_true rfl, Bool.true_and]
      by_cases h3 : o' < 64
      · rw [if_pos h3, if_pos h3, decide_eq_false (by omega), Bool.or_false]
      · rw [if_neg h3, if_neg h3, or_k _ (show o - 64 < 64 by omega) (show o' - 64 < 64 by omega)]
        congr 1
        exact decide_eq_decide.mpr (by omega)
    · rw [if_neg e1, decide_eq_false e1, Bool.false_and, Bool.or_false]
end CNET2
