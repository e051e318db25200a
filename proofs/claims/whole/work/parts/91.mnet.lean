/-! THE NET, as the document tells it; the model's reckoning of it -/
abbrev GT : Type := Int × Int × Nat × Int × Int × Nat × Bool
abbrev QT : Type := NT × LE × Nat × Nat × Nat
def MGg (h : AH) (g : GT) : Prop := MG h g.1 g.2.1 g.2.2.1 g.2.2.2.1 g.2.2.2.2.1 g.2.2.2.2.2.1 g.2.2.2.2.2.2
def GBg (g : GT) : Prop := GB g.1 g.2.1 g.2.2.1 g.2.2.2.1 g.2.2.2.2.1 g.2.2.2.2.2.1 g.2.2.2.2.2.2
def nC (g : GT) : Nat := g.2.2.1 * g.2.2.2.2.2.1
def gpl (g : GT) : Bool := g.2.2.2.2.2.2
def lfC (g : GT) (c : Nat) : Int := g.1 + (c % g.2.2.1 : Nat) * g.2.1
def rgC (g : GT) (c : Nat) : Int := g.1 + (c % g.2.2.1 : Nat) * g.2.1 + g.2.1
def loC (g : GT) (c : Nat) : Int := g.2.2.2.1 + (c / g.2.2.1 : Nat) * g.2.2.2.2.1
def hiC (g : GT) (c : Nat) : Int := g.2.2.2.1 + (c / g.2.2.1 : Nat) * g.2.2.2.2.1 + g.2.2.2.2.1
/-- does an image meet a cell; is it within the grid -/
def metB (g : GT) (v : Int × Int × Int × Int) (o : Nat) : Bool := decide (v.1 ≤ rgC g o) && decide (lfC g o ≤ v.2.1) && (!gpl g || (decide (v.2.2.1 ≤ hiC g o) && decide (loC g o ≤ v.2.2.2)))
def insB (g : GT) (v : Int × Int × Int × Int) : Bool := decide (g.1 ≤ v.1) && decide (v.2.1 ≤ g.1 + g.2.2.1 * g.2.1) && (!gpl g || (decide (g.2.2.2.1 ≤ v.2.2.1) && decide (v.2.2.2 ≤ g.2.2.2.1 + g.2.2.2.2.2.1 * g.2.2.2.2.1)))
def rowsB (pl : Bool) (k : Nat) : Nat := if pl then 2 ^ k else 1
/-- the image of a cell's part -/
def imC (g : GT) (q : QT) (c i j : Nat) : (Int × Int × Int × Int) × Nat :=
  imV q.1 q.2.1 q.2.2.1 q.2.2.2.1 (gpl g) (cutP (lfC g c) (rgC g c) i (2 ^ q.2.2.2.2)) (cutP (lfC g c) (rgC g c) (i + 1) (2 ^ q.2.2.2.2)) (cutP (loC g c) (hiC g c) j (rowsB (gpl g) q.2.2.2.2)) (cutP (loC g c) (hiC g c) (j + 1) (rowsB (gpl g) q.2.2.2.2))
def arS (g : GT) (q : QT) : Rl := fun c o => anyB (2 ^ q.2.2.2.2) fun i => anyB (rowsB (gpl g) q.2.2.2.2) fun j => metB g (imC g q c i j).1 o
def leS (g : GT) (q : QT) : St := fun c => anyB (2 ^ q.2.2.2.2) fun i => anyB (rowsB (gpl g) q.2.2.2.2) fun j => !insB g (imC g q c i j).1
def MIv (h : AH) (v : Int × Int × Int × Int) : Prop := gj h 78 30 = J v.1 ∧ gj h 78 31 = J v.2.1 ∧ gj h 78 32 = J v.2.2.1 ∧ gj h 78 33 = J v.2.2.2
def bB4 (v : Int × Int × Int × Int) : Prop := bB v.1 ∧ bB v.2.1 ∧ bB v.2.2.1 ∧ bB v.2.2.2
section GRIDF
variable {g : GT}
theorem cellB (B : GBg g) {c : Nat} (hc : c < nC g) : c < 128 ∧ c % g.2.2.1 < g.2.2.1 ∧ c / g.2.2.1 < g.2.2.2.2.2.1 ∧ -1000000 ≤ lfC g c ∧ lfC g c < rgC g c ∧ rgC g c ≤ 1000000 ∧ -1000000 ≤ loC g c ∧ loC g c ≤ hiC g c ∧ hiC g c ≤ 1000000 := by
  obtain ⟨x, wx, n, y, wy, m, pl⟩ := g
  obtain ⟨⟨b1, b2, b3, b4, b5⟩, ⟨c1, c2, c3, c4, c5⟩, b7, b6, -⟩ := B
  unfold nC at hc
  unfold lfC rgC loC hiC
  dsimp only at *
  have hm : c % n < n := Nat.mod_lt _ (by omega)
  have hd : c / n < m := (Nat.div_lt_iff_lt_mul (by omega)).mpr (by rw [Nat.mul_comm]; exact hc)
  have p1 : 0 ≤ ((c % n : Nat) : Int) * wx := Int.mul_nonneg (Int.natCast_nonneg _) b2
  have p2 : (((c % n : Nat) : Int) + 1) * wx ≤ n * wx := Int.mul_le_mul_of_nonneg_right (by omega) b2
  have p3 : 0 ≤ ((c / n : Nat) : Int) * wy := Int.mul_nonneg (Int.natCast_nonneg _) c2
  have p4 : (((c / n : Nat) : Int) + 1) * wy ≤ m * wy := Int.mul_le_mul_of_nonneg_right (by omega) c2
  rw [Int.add_mul, Int.one_mul] at p2 p4
  refine ⟨by omega, hm, hd, ?_, ?_, ?_, ?_, ?_, ?_⟩ <;> omega
end GRIDF
section MNET
variable {d : Nat} {h : AH} {g : GT}
set_option maxRecDepth 100000 in
set_option maxHeartbeats 400000 in
theorem m_isMet (hS : SH h) (G : MGg h g) (B : GBg g) {v : Int × Int × Int × Int} (V : MIv h v) (hv : bB4 v) {c : Nat} (hc : c < nC g) : aCall (d + 3) 236 [.ref 78, .int (nI c)] h = some (some (.int (bi (metB g v c))), h) := by
  obtain ⟨k1, k2, k3, k4, k5, k6, k7, k8, k9⟩ := cellB B hc
  obtain ⟨v1, v2, v3, v4⟩ := V
  obtain ⟨⟨u1, u2⟩, ⟨u3, u4⟩, ⟨u5, u6⟩, ⟨u7, u8⟩⟩ := hv
  have q1 : aCall (d + 2) 232 [.ref 78, .int (nI c)] h = some (some (.long (J (lfC g c))), h) := m_left hS G B k1
  have q2 : aCall (d + 2) 233 [.ref 78, .int (nI c)] h = some (some (.long (J (rgC g c))), h) := m_right hS G B k1
  have q3 : aCall (d + 2) 234 [.ref 78, .int (nI c)] h = some (some (.long (J (loC g c))), h) := m_low hS G B hc
  have q4 : aCall (d + 2) 235 [.ref 78, .int (nI c)] h = some (some (.long (J (hiC g c))), h) := m_high hS G B hc
  have g36 : gi h 78 36 = bi (gpl g) := G.2.2.2.2.2.2
  rw [aCall_go 200, x236]
  unfold metB
  cases c3 : gpl g <;> rw [c3] at g36
  all_goals
    simp (maxSteps := 2000000) (disch := first | (with_reducible ((repeat' first | assumption | apply SH_wi | apply SH_wj | apply SH_wAI | apply SH_wAJ); done)) | omega | ((with_reducible (apply in_n)) <;> omega) | with_reducible exact Or.inl rfl | with_reducible exact Or.inr rfl | with_reducible exact bi_01 _ | ((with_reducible (refine vp_id ?_)); (simp only [gi_wAI, gi_wAJ, gi_wj, gi_wr, gj_wi, gj_wr, gj_wAI, gj_wAJ, gr_wi, gr_wj, gr_wAI, gr_wAJ, ai_wi, ai_wj, ai_wr, ai_wAJ, aj_wi, aj_wj, aj_wr, aj_wAI, ar_wi, ar_wj, ar_wr, ar_wAI, ar_wAJ, gi_wi_n, gj_wj_n, gr_wr_n, ai_wAI_n, aj_wAJ_n, SH_wi, SH_wj, SH_wAI, SH_wAJ, bi_01, and_false, false_and, ne_eq, if_true, if_false, true_and, and_true, not_true_eq_false, not_false_eq_true, Nat.reduceEqDiff, reduceCtorEq, or_true, true_or]); first | with_reducible assumption | ((with_reducible (apply in_n)) <;> omega)) | ((simp only [gi_wAI, gi_wAJ, gi_wj, gi_wr, gj_wi, gj_wr, gj_wAI, gj_wAJ, gr_wi, gr_wj, gr_wAI, gr_wAJ, ai_wi, ai_wj, ai_wr, ai_wAJ, aj_wi, aj_wj, aj_wr, aj_wAI, ar_wi, ar_wj, ar_wr, ar_wAI, ar_wAJ, gi_wi_n, gj_wj_n, gr_wr_n, ai_wAI_n, aj_wAJ_n, SH_wi, SH_wj, SH_wAI, SH_wAJ, bi_01, and_false, false_and, ne_eq, if_true, if_false, true_and, and_true, not_true_eq_false, not_false_eq_true, Nat.reduceEqDiff, reduceCtorEq, or_true, true_or]); first | done | with_reducible assumption)) only [lg_cmp_ge, lg_cmp_le, lg_cmp_gt, lg_cmp_lt, lg_cmp_eq, ↓ob, ↓pI, ↓pJ, ↓pR, ↓pV, ↓gO, ↓gI, ↓gJ, ↓gR, ↓gL, ↓gT, ↓lI, ↓lJ, ↓lR, psh, isRf, layA, padL, trimO, trimB, ld, ss1, ss2, killL, cmpB, popN, isR, putOk, e_ag, e_agn, List.set_cons_zero, List.set_cons_succ, List.getElem?_cons_zero, List.getElem?_cons_succ, List.length_cons, List.length_nil, Value.category, decide_eq_true_eq, reduceIte, Nat.reduceAdd, Nat.reduceEqDiff, Nat.reduceLeDiff, reduceCtorEq, and_self, and_true, true_and, not_true_eq_false, not_false_eq_true, or_false, false_or, or_true, true_or, beq_self_eq_true, Nat.reduceBEq, Bool.false_eq_true, false_implies, forall_const, ↓s236_0, ↓s236_1, ↓s236_4, ↓s236_5, ↓s236_6, ↓s236_9, ↓s236_10, ↓s236_13, ↓s236_14, ↓s236_17, ↓s236_18, ↓s236_19, ↓s236_22, ↓s236_23, ↓s236_26, ↓s236_27, ↓s236_30, ↓s236_31, ↓s236_32, ↓s236_33, ↓s236_36, ↓s236_37, ↓s236_40, ↓s236_43, ↓s236_44, ↓s236_47, ↓s236_48, ↓s236_49, ↓s236_52, ↓s236_53, ↓s236_56, ↓s236_57, ↓s236_60, ↓s236_61, ↓s236_62, ↓s236_65, ↓s236_66, ↓s236_69, ↓s236_70, ↓s236_73, ↓s236_74, x232, x233, x234, x235, gi_wAI, gi_wAJ, gi_wj, gi_wr, gj_wi, gj_wr, gj_wAI, gj_wAJ, gr_wi, gr_wj, gr_wAI, gr_wAJ, ai_wi, ai_wj, ai_wr, ai_wAJ, aj_wi, aj_wj, aj_wr, aj_wAI, ar_wi, ar_wj, ar_wr, ar_wAI, ar_wAJ, gi_wi_n, gj_wj_n, gr_wr_n, ai_wAI_n, aj_wAJ_n, SH_wi, SH_wj, SH_wAI, SH_wAJ, bi_01, and_false, false_and, ne_eq, if_true, if_false, true_and, and_true, not_true_eq_false, not_false_eq_true, Nat.reduceEqDiff, reduceCtorEq, or_true, true_or, ltT, ltF, leT, leF, eqF, lt0F, le0T, eq0F, lt0T, le0F, nle1T, nle1F, n1leT, n1leF, nlt1T, nlt1F, n1ltT, n1ltF, neq1F, neq1T, neq0T, nle0T, n0ltF, n_add, n_succ, n_sub, n_sub1, n_mul, ↓n_rem, cl_n, bi_0, bi_ok, bi_ok2, bi_i8, i8_0, i8_1, narb, nar0, nar1, one0, zer1, ↓kont_go 200, ↓O78, ↓G78_0, g78_0, ↓U78_0, ↓G78_1, ↓G78_2, g78_2, ↓U78_2, ↓G78_3, g78_3, ↓U78_3, ↓G78_4, g78_4, ↓U78_4, ↓G78_5, g78_5, ↓U78_5, ↓G78_6, g78_6, ↓U78_6, ↓G78_7, g78_7, ↓U78_7, ↓G78_8, ↓G78_9, ↓G78_10, ↓G78_11, ↓G78_12, ↓G78_13, ↓G78_14, ↓G78_15, ↓G78_16, ↓G78_17, ↓G78_18, g78_18, ↓U78_18, ↓G78_19, ↓G78_20, g78_20, ↓U78_20, ↓G78_21, ↓G78_22, ↓G78_23, ↓G78_24, ↓G78_25, ↓G78_26, ↓G78_27, g78_27, ↓U78_27, ↓G78_28, g78_28, ↓U78_28, ↓G78_29, g78_29, ↓U78_29, ↓G78_30, g78_30, ↓U78_30, ↓G78_31, g78_31, ↓U78_31, ↓G78_32, g78_32, ↓U78_32, ↓G78_33, g78_33, ↓U78_33, ↓G78_34, g78_34, ↓U78_34, ↓G78_35, ↓G78_36, g78_36, ↓U78_36, ↓G78_37, g78_37, ↓U78_37, ↓G78_38, g78_38, ↓U78_38, ↓G78_39, g78_39, ↓U78_39, ↓G78_40, g78_40, ↓U78_40, ↓G78_41, g78_41, ↓U78_41, ↓G78_42, g78_42, ↓U78_42, ↓G78_43, g78_43, ↓U78_43, ↓G78_44, ↓G78_45, ↓G78_46, ↓G78_47, ↓G78_48, ↓G78_49, ↓G78_50, ↓G78_51, g78_51, ↓U78_51, ↓G78_52, g78_52, ↓U78_52, ↓G78_53, g78_53, ↓U78_53, ↓G78_54, g78_54, ↓U78_54, ↓G78_55, g78_55, ↓U78_55, ↓G78_56, ↓G78_57, g78_57, ↓U78_57, ↓G78_58, g78_58, ↓U78_58, ↓G78_59, g78_59, ↓U78_59, ↓G78_60, g78_60, ↓U78_60, ↓G78_61, g78_61, ↓U78_61, ↓G78_62, ↓G78_63, ↓G78_64, ↓G78_65, ↓G78_66, ↓G78_67, ↓G78_68, ↓G78_69, ↓G78_70, ↓G78_71, g78_71, ↓U78_71, ↓G78_72, ↓G78_73, q1, q2, q3, q4, v1, v2, v3, v4, JleI, JltI, g36]
    by_cases c1 : v.1 ≤ rgC g c <;> by_cases c2 : lfC g c ≤ v.2.1 <;> by_cases c4 : v.2.2.1 ≤ hiC g c <;> by_cases c5 : loC g c ≤ v.2.2.2 <;> simp [← Int.not_le, c1, c2, c4, c5, bi]
end MNET
