/-! AXES -/
theorem nJ {k : Nat} (hk : k < 2147483648) : (nI k).toInt64 = J k := by
  rw [← I_nI, IJ ⟨by omega, by omega⟩]
def isAx (a : Nat) : Prop := PL[a]? = some (cO 0 [.long 0, .long 0, .int 0])
def AxIs (h : AH) (a : Nat) (x w : Int) (n : Nat) : Prop := gj h a 0 = J x ∧ gj h a 1 = J w ∧ gi h a 2 = nI n
def AxB (x w : Int) (n : Nat) : Prop := -1000000 ≤ x ∧ 0 ≤ w ∧ 1 ≤ n ∧ n ≤ 16 ∧ x + n * w ≤ 1000000
section AXIS
variable {d a : Nat} {h : AH} {x w : Int} {n : Nat}
theorem A0 {α : Type} {K : Value → Option α} (hS : SH h) (hc : isAx a) : hGet h a 0 0 K = K (.long (gj h a 0)) := L_gj hS hc rfl
theorem A1 {α : Type} {K : Value → Option α} (hS : SH h) (hc : isAx a) : hGet h a 1 0 K = K (.long (gj h a 1)) := L_gj hS hc rfl
theorem A2 {α : Type} {K : Value → Option α} (hS : SH h) (hc : isAx a) : hGet h a 2 0 K = K (.int (gi h a 2)) := L_gi hS hc rfl
theorem B0 {α : Type} {K : AH → Option α} {y : Int64} (hS : SH h) (hc : isAx a) : hPut h a 0 0 1 (.long y) K = K (wj h a 0 y) := L_pj hS hc rfl
theorem B1 {α : Type} {K : AH → Option α} {y : Int64} (hS : SH h) (hc : isAx a) : hPut h a 1 0 1 (.long y) K = K (wj h a 1 y) := L_pj hS hc rfl
theorem B2 {α : Type} {K : AH → Option α} {y : Int32} (hS : SH h) (hc : isAx a) : hPut h a 2 0 0 (.int y) K = K (wi h a 2 y) := L_pi hS hc rfl rfl
set_option maxRecDepth 100000 in
theorem c_lowOf (hS : SH h) (hc : isAx a) (A : AxIs h a x w n) {i : Nat} (hi : i < 2147483648) : aCall (d + 1) 2 [.ref a, .int (nI i)] h = some (some (.long (J (x + i * w))), h) := by
  rw [aCall_go 60, x2]
  simp only [lg_cmp_ge, lg_cmp_le, lg_cmp_gt, lg_cmp_lt, lg_cmp_eq, ↓ob, ↓pI, ↓pJ, ↓pR, ↓pV, ↓gO, ↓gI, ↓gJ, ↓gR, ↓gL, ↓gT, ↓lI, ↓lJ, ↓lR, psh, isRf, layA, padL, trimO, trimB, ld, ss1, ss2, killL, cmpB, popN, isO, isR, putOk, e_ag, e_agn, List.set_cons_zero, List.set_cons_succ, List.getElem?_cons_zero, List.getElem?_cons_succ, List.length_cons, List.length_nil, Value.category, decide_eq_true_eq, reduceIte, Nat.reduceAdd, Nat.reduceEqDiff, Nat.reduceLeDiff, reduceCtorEq, and_self, and_true, true_and, not_true_eq_false, not_false_eq_true, or_false, false_or, or_true, true_or, beq_self_eq_true, Nat.reduceBEq, Bool.false_eq_true, false_implies, forall_const, ↓s2_0, ↓s2_1, ↓s2_4, ↓s2_5, ↓s2_6, ↓s2_7, ↓s2_10, ↓s2_11, ↓s2_12, ↓A0 hS hc, ↓A1 hS hc, A.1, A.2.1, nJ hi, J_mul, J_add]
set_option maxRecDepth 100000 in
theorem c_highOf (hS : SH h) (hc : isAx a) (A : AxIs h a x w n) {i : Nat} (hi : i < 2147483647) : aCall (d + 1) 3 [.ref a, .int (nI i)] h = some (some (.long (J (x + (i + 1) * w))), h) := by
  rw [aCall_go 60, x3]
  simp only [lg_cmp_ge, lg_cmp_le, lg_cmp_gt, lg_cmp_lt, lg_cmp_eq, ↓ob, ↓pI, ↓pJ, ↓pR, ↓pV, ↓gO, ↓gI, ↓gJ, ↓gR, ↓gL, ↓gT, ↓lI, ↓lJ, ↓lR, psh, isRf, layA, padL, trimO, trimB, ld, ss1, ss2, killL, cmpB, popN, isO, isR, putOk, e_ag, e_agn, List.set_cons_zero, List.set_cons_succ, List.getElem?_cons_zero, List.getElem?_cons_succ, List.length_cons, List.length_nil, Value.category, decide_eq_true_eq, reduceIte, Nat.reduceAdd, Nat.reduceEqDiff, Nat.reduceLeDiff, reduceCtorEq, and_self, and_true, true_and, not_true_eq_false, not_false_eq_true, or_false, false_or, or_true, true_or, beq_self_eq_true, Nat.reduceBEq, Bool.false_eq_true, false_implies, forall_const, ↓s3_0, ↓s3_1, ↓s3_4, ↓s3_5, ↓s3_6, ↓s3_7, ↓s3_8, ↓s3_9, ↓s3_12, ↓s3_13, ↓s3_14, ↓A0 hS hc, ↓A1 hS hc, A.1, A.2.1, n_succ, nJ (show i + 1 < 2147483648 by omega), J_mul, J_add]
  rfl
set_option maxRecDepth 100000 in
theorem c_spans (hS : SH h) (hc : isAx a) (A : AxIs h a x w n) (B : AxB x w n) {l m : Int} (hl : r64 l) (hm : r64 m) : aCall (d + 1) 4 [.ref a, .long (J l), .long (J m)] h = some (some (.int (bi (decide (x ≤ l ∧ m ≤ x + n * w)))), h) := by
  obtain ⟨b1, b2, b3, b4, b5⟩ := B
  have hnw : 0 ≤ (n : Int) * w := Int.mul_nonneg (by omega) b2
  rw [aCall_go 60, x4]
  simp only [lg_cmp_ge, lg_cmp_le, lg_cmp_gt, lg_cmp_lt, lg_cmp_eq, ↓ob, ↓pI, ↓pJ, ↓pR, ↓pV, ↓gO, ↓gI, ↓gJ, ↓gR, ↓gL, ↓gT, ↓lI, ↓lJ, ↓lR, psh, isRf, layA, padL, trimO, trimB, ld, ss1, ss2, killL, cmpB, popN, isO, isR, putOk, e_ag, e_agn, List.set_cons_zero, List.set_cons_succ, List.getElem?_cons_zero, List.getElem?_cons_succ, List.length_cons, List.length_nil, Value.category, decide_eq_true_eq, reduceIte, Nat.reduceAdd, Nat.reduceEqDiff, Nat.reduceLeDiff, reduceCtorEq, and_self, and_true, true_and, not_true_eq_false, not_false_eq_true, or_false, false_or, or_true, true_or, beq_self_eq_true, Nat.reduceBEq, Bool.false_eq_true, false_implies, forall_const, ↓s4_0, ↓s4_1, ↓s4_2, ↓s4_5, ↓s4_6, ↓s4_9, ↓s4_10, ↓s4_11, ↓s4_14, ↓s4_15, ↓s4_18, ↓s4_19, ↓s4_20, ↓s4_23, ↓s4_24, ↓s4_25, ↓s4_26, ↓s4_29, ↓s4_30, ↓s4_33, ↓s4_34, ↓A0 hS hc, ↓A1 hS hc, ↓A2 hS hc, A.1, A.2.1, A.2.2, nJ (show n < 2147483648 by omega), J_mul, J_add]
  have r1 : r64 x := ⟨by omega, by omega⟩
  have r2 : r64 (x + n * w) := ⟨by omega, by omega⟩
  by_cases h1 : x ≤ l
  · by_cases h2 : m ≤ x + n * w
    · simp [J_le r1 hl, J_lt hl r1, J_le hm r2, J_lt r2 hm, h1, h2, show ¬ l < x by omega, show ¬ x + n * w < m by omega, bi]
    · simp [J_le r1 hl, J_lt hl r1, J_le hm r2, J_lt r2 hm, h1, h2, show ¬ l < x by omega, show x + n * w < m by omega, bi]
  · simp [J_le r1 hl, J_lt hl r1, h1, show l < x by omega, bi]
set_option maxRecDepth 100000 in
theorem c_firstTo (hS : SH h) (hc : isAx a) (A : AxIs h a x w n) (B : AxB x w n) {l : Int} (hl : -2147483648 ≤ l ∧ l ≤ 2147483648) : aCall (d + 1) 5 [.ref a, .long (J l)] h = some (some (.long (J (if l ≤ x ∨ w < 1 then 0 else (l - x - 1) / w))), h) := by
  obtain ⟨b1, b2, b3, b4, b5⟩ := B
  have hnw : 0 ≤ (n : Int) * w := Int.mul_nonneg (by omega) b2
  have hwn : w ≤ n * w := by
    have := Int.mul_le_mul_of_nonneg_right (show (1 : Int) ≤ n by omega) b2
    omega
  rw [aCall_go 60, x5]
  have r1 : r64 x := ⟨by omega, by omega⟩
  have r2 : r64 l := ⟨by omega, by omega⟩
  have r3 : r64 w := ⟨by omega, by omega⟩
  have r0 : r64 1 := ⟨by omega, by omega⟩
  have z1 : (1 : Int64) = J 1 := rfl
  have z0 : (0 : Int64) = J 0 := rfl
  simp only [lg_cmp_ge, lg_cmp_le, lg_cmp_gt, lg_cmp_lt, lg_cmp_eq, ↓ob, ↓pI, ↓pJ, ↓pR, ↓pV, ↓gO, ↓gI, ↓gJ, ↓gR, ↓gL, ↓gT, ↓lI, ↓lJ, ↓lR, psh, isRf, layA, padL, trimO, trimB, ld, ss1, ss2, killL, cmpB, popN, isO, isR, putOk, e_ag, e_agn, List.set_cons_zero, List.set_cons_succ, List.getElem?_cons_zero, List.getElem?_cons_succ, List.length_cons, List.length_nil, Value.category, decide_eq_true_eq, reduceIte, Nat.reduceAdd, Nat.reduceEqDiff, Nat.reduceLeDiff, reduceCtorEq, and_self, and_true, true_and, not_true_eq_false, not_false_eq_true, or_false, false_or, or_true, true_or, beq_self_eq_true, Nat.reduceBEq, Bool.false_eq_true, false_implies, forall_const, ↓s5_0, ↓s5_1, ↓s5_2, ↓s5_5, ↓s5_6, ↓s5_9, ↓s5_10, ↓s5_13, ↓s5_14, ↓s5_15, ↓s5_18, ↓s5_19, ↓s5_22, ↓s5_23, ↓s5_24, ↓s5_27, ↓s5_28, ↓s5_29, ↓s5_30, ↓s5_31, ↓s5_34, ↓s5_35, ↓A0 hS hc, ↓A1 hS hc, ↓A2 hS hc, A.1, A.2.1, A.2.2, J_sub, z1]
  by_cases h1 : l ≤ x
  · rw [if_pos ((J_le r2 r1).mpr h1), if_pos (Or.inl h1)]
    rfl
  · rw [if_neg (fun q => h1 ((J_le r2 r1).mp q))]
    by_cases h2 : w < 1
    · rw [if_neg (fun q => by have := (J_le r0 r3).mp q; omega), if_pos (Or.inr h2)]
      rfl
    · rw [if_pos ((J_le r0 r3).mpr (by omega)), if_pos (fun q => by have := (J_eq r3 (b := 0) ⟨by omega, by omega⟩).mp q; omega), if_neg (by omega), J_div ⟨by omega, by omega⟩ (by omega) r3, Int.tdiv_eq_ediv_of_nonneg (by omega)]
set_option maxRecDepth 100000 in
theorem c_lastTo (hS : SH h) (hc : isAx a) (A : AxIs h a x w n) (B : AxB x w n) {l : Int} (hl : -2147483648 ≤ l ∧ l ≤ 2147483648) : aCall (d + 2) 6 [.ref a, .long (J l)] h = some (some (.long (J (if l < x then -1 else if w < 1 then n - 1 else min ((n : Int) - 1) ((l - x) / w)))), h) := by
  obtain ⟨b1, b2, b3, b4, b5⟩ := B
  have hnw : 0 ≤ (n : Int) * w := Int.mul_nonneg (by omega) b2
  have hwn : w ≤ n * w := by
    have := Int.mul_le_mul_of_nonneg_right (show (1 : Int) ≤ n by omega) b2
    omega
  rw [aCall_go 60, x6]
  have r1 : r64 x := ⟨by omega, by omega⟩
  have r2 : r64 l := ⟨by omega, by omega⟩
  have r3 : r64 w := ⟨by omega, by omega⟩
  have r0 : r64 1 := ⟨by omega, by omega⟩
  have z1 : (1 : Int64) = J 1 := rfl
  have z0 : (0 : Int64) = J 0 := rfl
  simp only [lg_cmp_ge, lg_cmp_le, lg_cmp_gt, lg_cmp_lt, lg_cmp_eq, ↓ob, ↓pI, ↓pJ, ↓pR, ↓pV, ↓gO, ↓gI, ↓gJ, ↓gR, ↓gL, ↓gT, ↓lI, ↓lJ, ↓lR, psh, isRf, layA, padL, trimO, trimB, ld, ss1, ss2, killL, cmpB, popN, isO, isR, putOk, e_ag, e_agn, List.set_cons_zero, List.set_cons_succ, List.getElem?_cons_zero, List.getElem?_cons_succ, List.length_cons, List.length_nil, Value.category, decide_eq_true_eq, reduceIte, Nat.reduceAdd, Nat.reduceEqDiff, Nat.reduceLeDiff, reduceCtorEq, and_self, and_true, true_and, not_true_eq_false, not_false_eq_true, or_false, false_or, or_true, true_or, beq_self_eq_true, Nat.reduceBEq, Bool.false_eq_true, false_implies, forall_const, ↓s6_0, ↓s6_1, ↓s6_2, ↓s6_5, ↓s6_6, ↓s6_9, ↓s6_12, ↓s6_13, ↓s6_14, ↓s6_17, ↓s6_18, ↓s6_19, ↓s6_22, ↓s6_23, ↓s6_26, ↓s6_27, ↓s6_28, ↓s6_29, ↓s6_32, ↓s6_33, ↓s6_36, ↓s6_37, ↓s6_38, ↓s6_39, ↓s6_40, ↓s6_41, ↓s6_44, ↓s6_45, ↓s6_46, ↓s6_49, ↓s6_50, ↓s6_53, x298, ↓A0 hS hc, ↓A1 hS hc, ↓A2 hS hc, A.1, A.2.1, A.2.2, J_sub]
  have e1 : (nI n - 1).toInt64 = J ((n : Int) - 1) := by
    rw [← I_nI, show (1 : Int32) = I 1 from rfl, I_sub, IJ ⟨by omega, by omega⟩]
  rw [e1, z1]
  by_cases h1 : l < x
  · rw [if_neg (fun q => by have := (J_le r1 r2).mp q; omega), if_pos h1]
    rfl
  · rw [if_pos ((J_le r1 r2).mpr (by omega)), if_neg h1]
    by_cases h2 : w < 1
    · rw [if_neg (fun q => by have := (J_le r0 r3).mp q; omega), if_pos h2]
    · have hq : r64 ((l - x) / w) := by
        have q1 : 0 ≤ (l - x) / w := Int.ediv_nonneg (by omega) (by omega)
        have q2 : (l - x) / w ≤ l - x := Int.ediv_le_self _ (by omega)
        exact ⟨by omega, by omega⟩
      rw [if_pos ((J_le r0 r3).mpr (by omega)), if_pos (fun q => by have := (J_eq r3 (b := 0) ⟨by omega, by omega⟩).mp q; omega), if_neg h2, J_div ⟨by omega, by omega⟩ (by omega) r3, Int.tdiv_eq_ediv_of_nonneg (by omega), c_minJ d ⟨by omega, by omega⟩ hq]
      simp only [lg_cmp_ge, lg_cmp_le, lg_cmp_gt, lg_cmp_lt, lg_cmp_eq, ↓ob, ↓pI, ↓pJ, ↓pR, ↓pV, ↓gO, ↓gI, ↓gJ, ↓gR, ↓gL, ↓gT, ↓lI, ↓lJ, ↓lR, psh, isRf, layA, padL, trimO, trimB, ld, ss1, ss2, killL, cmpB, popN, isO, isR, putOk, e_ag, e_agn, List.set_cons_zero, List.set_cons_succ, List.getElem?_cons_zero, List.getElem?_cons_succ, List.length_cons, List.length_nil, Value.category, decide_eq_true_eq, reduceIte, Nat.reduceAdd, Nat.reduceEqDiff, Nat.reduceLeDiff, reduceCtorEq, and_self, and_true, true_and, not_true_eq_false, not_false_eq_true, or_false, false_or, or_true, true_or, beq_self_eq_true, Nat.reduceBEq, Bool.false_eq_true, false_implies, forall_const, ↓s6_0, ↓s6_1, ↓s6_2, ↓s6_5, ↓s6_6, ↓s6_9, ↓s6_12, ↓s6_13, ↓s6_14, ↓s6_17, ↓s6_18, ↓s6_19, ↓s6_22, ↓s6_23, ↓s6_26, ↓s6_27, ↓s6_28, ↓s6_29, ↓s6_32, ↓s6_33, ↓s6_36, ↓s6_37, ↓s6_38, ↓s6_39, ↓s6_40, ↓s6_41, ↓s6_44, ↓s6_45, ↓s6_46, ↓s6_49, ↓s6_50, ↓s6_53, x298, ↓kont_go 60]
theorem I_div {a b : Int} (ha : 0 ≤ a) (ha2 : a < 2147483648) (hb : 0 < b) (hb2 : b < 2147483648) : I a / I b = I (a / b) := by
  have h1 : (I a / I b).toInt = a / b := by
    rw [Int32.toInt_div, I_toInt ⟨by omega, ha2⟩, I_toInt ⟨by omega, hb2⟩, Int.tdiv_eq_ediv_of_nonneg ha]
    have q1 : 0 ≤ a / b := Int.ediv_nonneg ha (by omega)
    have q2 : a / b ≤ a := Int.ediv_le_self _ ha
    exact Int.bmod_eq_of_le (by show -(2147483648 : Int) ≤ _; omega) (by show _ < (2147483648 : Int); omega)
  rw [← I_of (I a / I b), h1]
set_option maxRecDepth 100000 in
theorem c_lay (hS : SH h) (hc : isAx a) {p0 p1 : Int} (h0 : -1000000 ≤ p0 ∧ p0 ≤ 1000000) (h1 : -1000000 ≤ p1 ∧ p1 ≤ 1000000) (h01 : p0 ≤ p1) {k : Nat} (hk : 1 ≤ k ∧ k ≤ 16) : ∃ h', aCall (d + 1) 1 [.ref a, .int (I p0), .int (I p1), .int (nI k)] h = some (none, h') ∧ Fr [a] h h' ∧ AxIs h' a p0 ((p1 - p0) / k) k := by
  rw [aCall_go 60, x1]
  have e1 : (I p1 - I p0) / nI k = I ((p1 - p0) / k) := by
    rw [I_sub, ← I_nI, I_div (by omega) (by omega) (by omega) (by omega)]
  have q1 : 0 ≤ (p1 - p0) / (k : Int) := Int.ediv_nonneg (by omega) (by omega)
  have q2 : (p1 - p0) / (k : Int) ≤ p1 - p0 := Int.ediv_le_self _ (by omega)
  have e2 : (I p0).toInt64 = J p0 := IJ ⟨by omega, by omega⟩
  have e3 : (I ((p1 - p0) / k)).toInt64 = J ((p1 - p0) / k) := IJ ⟨by omega, by omega⟩
  simp only [lg_cmp_ge, lg_cmp_le, lg_cmp_gt, lg_cmp_lt, lg_cmp_eq, ↓ob, ↓pI, ↓pJ, ↓pR, ↓pV, ↓gO, ↓gI, ↓gJ, ↓gR, ↓gL, ↓gT, ↓lI, ↓lJ, ↓lR, psh, isRf, layA, padL, trimO, trimB, ld, ss1, ss2, killL, cmpB, popN, isO, isR, putOk, e_ag, e_agn, List.set_cons_zero, List.set_cons_succ, List.getElem?_cons_zero, List.getElem?_cons_succ, List.length_cons, List.length_nil, Value.category, decide_eq_true_eq, reduceIte, Nat.reduceAdd, Nat.reduceEqDiff, Nat.reduceLeDiff, reduceCtorEq, and_self, and_true, true_and, not_true_eq_false, not_false_eq_true, or_false, false_or, or_true, true_or, beq_self_eq_true, Nat.reduceBEq, Bool.false_eq_true, false_implies, forall_const, ↓s1_0, ↓s1_1, ↓s1_2, ↓s1_3, ↓s1_6, ↓s1_7, ↓s1_8, ↓s1_11, ↓s1_12, ↓s1_13, ↓s1_14, ↓s1_17, ↓s1_18, ↓s1_21, ↓s1_22, ↓s1_23, ↓s1_24, ↓s1_25, ↓s1_26, ↓s1_27, ↓s1_30, ↓B0 hS hc, ↓B2 (SH_wj hS) hc, ↓B1 (SH_wi (SH_wj hS)) hc, e1, e2, e3]
  rw [if_pos (show (1 : Int32) ≤ nI k from (n_le (a := 1) (by decide) (by omega)).mpr hk.1), if_pos (show ¬ nI k = 0 from fun q => by have := (n_eq (b := 0) (show k < 2147483648 by omega) (by decide)).mp q; omega)]
  refine ⟨_, rfl, (Fr_wj hS).trans ((Fr_wi (SH_wj hS)).trans (Fr_wj (SH_wi (SH_wj hS)))), ?_, ?_, ?_⟩
  · rw [gj_wj_n (by intro q; exact absurd q.2 (by decide)), gj_wi, gj_wj hS hc rfl]
  · rw [gj_wj (SH_wi (SH_wj hS)) hc rfl]
  · rw [gi_wj, gi_wi (SH_wj hS) hc rfl]
end AXIS
