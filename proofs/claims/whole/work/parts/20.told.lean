/-! CONTRACTS -/
set_option maxRecDepth 100000 in
set_option maxHeartbeats 4000000 in
theorem c_isTold (d t nm : Nat) (tot i : Int32) (f : Nat → Int32) (h : AH) (ht : ag h t = some (cO 8 [.ref nm, .int tot])) (hn : ag h nm = some (cI 128 f)) :
    aCall (d + 1) 104 [.ref t, .int i] h = some (some (.int (bi (decide (0 ≤ i ∧ i < tot ∧ i < 128)))), h) := by
  rw [aCall_go 60, x104]
  simp only [↓ob, ↓pI, ↓pJ, ↓pR, ↓pV, ↓gO, ↓gI, ↓gJ, ↓gR, ↓gL, ↓gT, ↓lI, ↓lJ, ↓lR, psh, isRf, layA, padL, trimO, trimB, ld, ss1, ss2, killL, cmpB, popN, isO, isR, putOk, e_ag, e_agn, List.set_cons_zero, List.set_cons_succ, List.getElem?_cons_zero, List.getElem?_cons_succ, List.length_cons, List.length_nil, Value.category, decide_eq_true_eq, reduceIte, Nat.reduceAdd, Nat.reduceEqDiff, Nat.reduceLeDiff, reduceCtorEq, and_self, and_true, true_and, not_true_eq_false, not_false_eq_true, or_false, false_or, or_true, true_or, beq_self_eq_true, Nat.reduceBEq, Bool.false_eq_true, false_implies, forall_const, ↓s104_0, ↓s104_1, ↓s104_4, ↓s104_5, ↓s104_6, ↓s104_9, ↓s104_12, ↓s104_13, ↓s104_14, ↓s104_17, ↓s104_18, ↓s104_21, ↓s104_22, ↓s104_25, ↓s104_26]
  have G1 : ∀ K : Value → Option OU, hGet h t 1 8 K = K (.int tot) := fun K => by unfold hGet; rw [ht]; rfl
  have G0 : ∀ K : Value → Option OU, hGet h t 0 8 K = K (.ref nm) := fun K => by unfold hGet; rw [ht]; rfl
  have GL : ∀ K : Nat → Option OU, hLen h nm K = K 128 := fun K => by unfold hLen; rw [hn]; rfl
  simp only [G1, G0, GL, true_or, or_true, if_true]
  by_cases h1 : i < 0
  · rw [if_pos h1, decide_eq_false (fun z => absurd h1 (Int32.not_lt.mpr z.1))]; rfl
  rw [if_neg h1]
  by_cases h2 : tot ≤ i
  · rw [if_pos h2, decide_eq_false (fun z => absurd h2 (Int32.not_le.mpr z.2.1))]; rfl
  rw [if_neg h2]
  by_cases h3 : nI 128 ≤ i
  · rw [if_pos h3, decide_eq_false (fun z => absurd h3 (Int32.not_le.mpr z.2.2))]; rfl
  rw [if_neg h3, decide_eq_true ⟨Int32.not_lt.mp h1, Int32.not_le.mp h2, Int32.not_le.mp h3⟩]
  rfl
