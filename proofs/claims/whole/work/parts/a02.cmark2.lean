/-! THE CLASS: Net: the cells that an image meets, the loops -/
section CMARK2
variable {d b c n m : Nat} {h : AH}
theorem mk_i (hS : SH h) (hn : isNt b) (hb : 20 < b) (a2 : gi h 19 2 = nI n) (hc : c < 128) (hn1 : 1 ≤ n) (hnn : n ≤ 16) {fx lx ly : Int} (h0 : 0 ≤ fx) (h0b : fx < 9223372036854775000) (hl : -1000 < lx ∧ lx < n) {j : Nat} (hj : j < m) (hnm : n * m ≤ 128) :
    ∃ h', mkI d b c lx ly j fx h = mkJ d b c lx ly ((j : Int) + 1) h' ∧ Fr [b + 1, b + 2] h h' ∧ ∀ c' o', c' < 128 → o' < 128 → hasN h' b c' o' = (hasN h b c' o' || (decide (c' = c) && decide (o' / n = j ∧ fx ≤ (o' % n : Nat) ∧ ((o' % n : Nat) : Int) ≤ lx))) := by
  have hm16 : m ≤ 128 := by
    have := Nat.mul_le_mul_right m hn1
    omega
  by_cases hlt : lx < fx
  · refine ⟨h, mk_ix hS ⟨by omega, by omega⟩ hlt (by omega) (by omega), Fr.rf hS _, fun c' o' hc' ho' => ?_⟩
    rw [decide_eq_false (show ¬ (o' / n = j ∧ fx ≤ (o' % n : Nat) ∧ ((o' % n : Nat) : Int) ≤ lx) by omega), Bool.and_false, Bool.or_false]
  · have hlf : (0 : Int) ≤ lx + 1 - fx := by omega
    obtain ⟨k, hk⟩ : ∃ k : Nat, (k : Int) = lx + 1 - fx := ⟨(lx + 1 - fx).toNat, Int.toNat_of_nonneg hlf⟩
    obtain ⟨h', e, F, R⟩ := loopE (fun i h' => mkI d b c lx ly j (fx + i) h') (fun i h' => Fr [b + 1, b + 2] h h' ∧ ∀ c' o', c' < 128 → o' < 128 → hasN h' b c' o' = (hasN h b c' o' || (decide (c' = c) && decide (o' / n = j ∧ fx ≤ (o' % n : Nat) ∧ ((o' % n : Nat) : Int) < fx + i)))) (n := k) (fun i h' hi ⟨F, R⟩ => by
      obtain ⟨ii, hii⟩ : ∃ ii : Nat, (ii : Int) = fx + i := ⟨(fx + i).toNat, Int.toNat_of_nonneg (by omega)⟩
      have hin : ii < n := by omega
      have ho : j * n + ii < 128 := by
        have := Nat.mul_le_mul_right n (show j + 1 ≤ m from hj)
        rw [Nat.add_mul, Nat.one_mul] at this
        rw [Nat.mul_comm n m] at hnm
        omega
      have a2' : gi h' 19 2 = nI n := by rw [gi_of_ag (F.2.1 19 (by simp; omega))]; exact a2
      obtain ⟨h'', e, F', R'⟩ := mk_i1 (d := d) (c := c) (lx := lx) (ly := ly) F.1 hn a2' hc (by omega) (show (ii : Int) ≤ lx by omega) (show j < 1000 by omega) hnn rfl ho
      refine ⟨h'', ?_, F.trans F', fun c' o' hc' ho' => ?_⟩
      · show mkI d b c lx ly j (fx + i) h' = mkI d b c lx ly j (fx + ((i + 1 : Nat) : Int)) h''
        rw [← hii, e, hii]
        congr 1
        omega
      · rw [R' c' o' hc' ho', R c' o' hc' ho']
        refine or_dec ?_
        rw [dm_iff hin]
        omega) 0 h (by omega) ⟨Fr.rf hS _, fun c' o' hc' ho' => by rw [decide_eq_false (show ¬ (o' / n = j ∧ fx ≤ (o' % n : Nat) ∧ ((o' % n : Nat) : Int) < fx + ((0 : Nat) : Int)) by omega), Bool.and_false, Bool.or_false]⟩
    refine ⟨h', ?_, F, fun c' o' hc' ho' => ?_⟩
    · have e : mkI d b c lx ly j (fx + ((0 : Nat) : Int)) h = mkI d b c lx ly j (fx + (k : Int)) h' := e
      rw [show fx + ((0 : Nat) : Int) = fx by omega] at e
      rw [e]
      exact mk_ix F.1 ⟨by omega, by omega⟩ (by omega) (by omega) (by omega)
    · rw [R c' o' hc' ho']
      congr 2
      exact decide_eq_decide.mpr (by omega)
set_option maxRecDepth 100000 in
set_option maxHeartbeats 400000 in
/-- from the outer loop's head into the inner one: the first column is reckoned anew -/
theorem mk_ji (hS : SH h) {x w : Int} (A : AxIs h 19 x w n) (B : AxB x w n) {lx ly a : Int} {j : Nat} (hl : ly < 1000) (hj : (j : Int) ≤ ly) (x12 : gj h 6 12 = J a) (ha : -2147483648 ≤ a ∧ a ≤ 2147483648) : mkJ d b c lx ly j h = mkI d b c lx ly j (fstI x w a) h := by
  have q := c_firstTo (d := d + 1) hS ax19 A B ha
  have o19 : ∀ t, isO h 0 (.ref 19 :: t) = true := fun t => O19 hS
  have o6 : ∀ t, isO h 7 (.ref 6 :: t) = true := fun t => O6 hS
  unfold mkJ mkI fstI
  rw [u41_84 200]
  simp (maxSteps := 2000000) (disch := first | (with_reducible ((repeat' first | assumption | apply SH_wi | apply SH_wj | apply SH_wAI | apply SH_wAJ); done)) | omega | ((with_reducible (apply in_n)) <;> omega) | with_reducible exact Or.inl rfl | with_reducible exact Or.inr rfl | with_reducible exact bi_01 _ | ((with_reducible (refine vp_id ?_)); (simp only [gi_wAI, gi_wAJ, gi_wj, gi_wr, gj_wi, gj_wr, gj_wAI, gj_wAJ, gr_wi, gr_wj, gr_wAI, gr_wAJ, ai_wi, ai_wj, ai_wr, ai_wAJ, aj_wi, aj_wj, aj_wr, aj_wAI, ar_wi, ar_wj, ar_wr, ar_wAI, ar_wAJ, gi_wi_n, gj_wj_n, gr_wr_n, ai_wAI_n, aj_wAJ_n, SH_wi, SH_wj, SH_wAI, SH_wAJ, bi_01, and_false, false_and, ne_eq, if_true, if_false, true_and, and_true, not_true_eq_false, not_false_eq_true, Nat.reduceEqDiff, reduceCtorEq, or_true, true_or, n_mul, n_add, n_succ, nlit128, nlit6]); first | with_reducible assumption | ((with_reducible (apply in_n)) <;> omega)) | ((simp only [gi_wAI, gi_wAJ, gi_wj, gi_wr, gj_wi, gj_wr, gj_wAI, gj_wAJ, gr_wi, gr_wj, gr_wAI, gr_wAJ, ai_wi, ai_wj, ai_wr, ai_wAJ, aj_wi, aj_wj, aj_wr, aj_wAI, ar_wi, ar_wj, ar_wr, ar_wAI, ar_wAJ, gi_wi_n, gj_wj_n, gr_wr_n, ai_wAI_n, aj_wAJ_n, SH_wi, SH_wj, SH_wAI, SH_wAJ, bi_01, and_false, false_and, ne_eq, if_true, if_false, true_and, and_true, not_true_eq_false, not_false_eq_true, Nat.reduceEqDiff, reduceCtorEq, or_true, true_or]); first | done | with_reducible assumption)) only [lg_cmp_ge, lg_cmp_le, lg_cmp_gt, lg_cmp_lt, lg_cmp_eq, ↓ob, ↓pI, ↓pJ, ↓pR, ↓pV, ↓gO, ↓gI, ↓gJ, ↓gR, ↓gL, ↓gT, ↓lI, ↓lJ, ↓lR, psh, isRf, layA, padL, trimO, trimB, ld, ss1, ss2, killL, cmpB, popN, isR, putOk, e_ag, e_agn, List.set_cons_zero, List.set_cons_succ, List.getElem?_cons_zero, List.getElem?_cons_succ, List.length_cons, List.length_nil, Value.category, decide_eq_true_eq, reduceIte, Nat.reduceAdd, Nat.reduceEqDiff, Nat.reduceLeDiff, reduceCtorEq, and_self, and_true, true_and, not_true_eq_false, not_false_eq_true, or_false, false_or, or_true, true_or, beq_self_eq_true, Nat.reduceBEq, Bool.false_eq_true, false_implies, forall_const, ↓s41_0, ↓s41_1, ↓s41_4, ↓s41_5, ↓s41_8, ↓s41_9, ↓s41_12, ↓s41_15, ↓s41_18, ↓s41_19, ↓s41_22, ↓s41_23, ↓s41_26, ↓s41_27, ↓s41_30, ↓s41_33, ↓s41_36, ↓s41_37, ↓s41_40, ↓s41_41, ↓s41_42, ↓s41_45, ↓s41_46, ↓s41_49, ↓s41_50, ↓s41_53, ↓s41_56, ↓s41_58, ↓s41_59, ↓s41_62, ↓s41_63, ↓s41_66, ↓s41_69, ↓s41_71, ↓s41_72, ↓s41_75, ↓s41_76, ↓s41_79, ↓s41_82, ↓l41_84, ↓s41_86, ↓s41_88, ↓s41_89, ↓s41_92, ↓s41_93, ↓s41_96, ↓s41_97, ↓s41_100, ↓s41_103, ↓l41_105, ↓s41_107, ↓s41_109, ↓s41_110, ↓s41_113, ↓s41_114, ↓s41_115, ↓s41_117, ↓s41_118, ↓s41_121, ↓s41_124, ↓s41_125, ↓s41_126, ↓s41_128, ↓s41_129, ↓s41_130, ↓s41_133, ↓s41_135, ↓s41_136, ↓s41_137, ↓s41_139, ↓s41_142, ↓s41_144, ↓s41_145, ↓s41_146, ↓s41_148, ↓s41_151, x4, x5, x6, x15, x43, gi_wAI, gi_wAJ, gi_wj, gi_wr, gj_wi, gj_wr, gj_wAI, gj_wAJ, gr_wi, gr_wj, gr_wAI, gr_wAJ, ai_wi, ai_wj, ai_wr, ai_wAJ, aj_wi, aj_wj, aj_wr, aj_wAI, ar_wi, ar_wj, ar_wr, ar_wAI, ar_wAJ, gi_wi_n, gj_wj_n, gr_wr_n, ai_wAI_n, aj_wAJ_n, SH_wi, SH_wj, SH_wAI, SH_wAJ, bi_01, and_false, false_and, ne_eq, if_true, if_false, true_and, and_true, not_true_eq_false, not_false_eq_true, Nat.reduceEqDiff, reduceCtorEq, or_true, true_or, ltT, ltF, leT, leF, eqF, lt0F, le0T, eq0F, lt0T, le0F, nle1T, nle1F, n1leT, n1leF, nlt1T, nlt1F, n1ltT, n1ltF, neq1F, neq1T, neq0T, nle0T, n0ltF, n_add, n_succ, n_sub, n_sub1, n_mul, ↓n_rem, cl_n, bi_0, bi_ok, bi_ok2, bi_i8, i8_0, i8_1, narb, nar0, nar1, one0, zer1, kont_go 200 (d + 2) 41 103, ↓O18, ↓G18_0, g18_0, ↓U18_0, ↓G18_1, ↓G18_2, ↓G18_3, ↓G18_4, g18_4, ↓U18_4, ↓G18_5, g18_5, ↓U18_5, ↓G18_6, g18_6, ↓U18_6, ↓G18_7, g18_7, ↓U18_7, ↓G18_8, g18_8, ↓U18_8, ↓O6, ↓G6_0, ↓G6_1, ↓G6_2, ↓G6_3, ↓G6_4, g6_4, ↓U6_4, ↓G6_5, g6_5, ↓U6_5, ↓G6_6, ↓G6_7, ↓G6_8, ↓G6_9, ↓G6_10, g6_10, ↓U6_10, ↓G6_11, g6_11, ↓U6_11, ↓G6_12, g6_12, ↓U6_12, ↓G6_13, g6_13, ↓U6_13, ↓G6_14, g6_14, ↓U6_14, ↓G6_15, g6_15, ↓U6_15, ↓G6_16, g6_16, ↓U6_16, ↓G6_17, g6_17, ↓U6_17, o19, x12, q, JltT, JltF, JleT, JleF]
theorem mk_j (hS : SH h) (hn : isNt b) (hb : 20 < b) {x w : Int} (A : AxIs h 19 x w n) (B : AxB x w n) (hc : c < 128) {a fy lx ly : Int} (x12 : gj h 6 12 = J a) (ha : -2147483648 ≤ a ∧ a ≤ 2147483648) (h0 : 0 ≤ fstI x w a) (h0b : fstI x w a < 9223372036854775000) (hl : -1000 < lx ∧ lx < n) (hf : 0 ≤ fy) (hfb : fy < 9223372036854775000) (hly : -1000 < ly ∧ ly < m) (hnm : n * m ≤ 128) :
    ∃ h', mkJ d b c lx ly fy h = some (none, h') ∧ Fr [b + 1, b + 2] h h' ∧ ∀ c' o', c' < 128 → o' < 128 → hasN h' b c' o' = (hasN h b c' o' || (decide (c' = c) && decide ((fy ≤ (o' / n : Nat) ∧ ((o' / n : Nat) : Int) ≤ ly) ∧ fstI x w a ≤ (o' % n : Nat) ∧ ((o' % n : Nat) : Int) ≤ lx))) := by
  obtain ⟨b1, b2, b3, b4, b5⟩ := B
  have hm16 : m ≤ 128 := by
    have := Nat.mul_le_mul_right m b3
    omega
  by_cases hlt : ly < fy
  · refine ⟨h, mk_jx hS ⟨by omega, by omega⟩ hlt (by omega), Fr.rf hS _, fun c' o' hc' ho' => ?_⟩
    rw [decide_eq_false (show ¬ ((fy ≤ (o' / n : Nat) ∧ ((o' / n : Nat) : Int) ≤ ly) ∧ fstI x w a ≤ (o' % n : Nat) ∧ ((o' % n : Nat) : Int) ≤ lx) by omega), Bool.and_false, Bool.or_false]
  · obtain ⟨k, hk⟩ : ∃ k : Nat, (k : Int) = ly + 1 - fy := ⟨(ly + 1 - fy).toNat, Int.toNat_of_nonneg (by omega)⟩
    obtain ⟨h', e, F, R⟩ := loopE (fun j h' => mkJ d b c lx ly (fy + j) h') (fun j h' => Fr [b + 1, b + 2] h h' ∧ ∀ c' o', c' < 128 → o' < 128 → hasN h' b c' o' = (hasN h b c' o' || (decide (c' = c) && decide ((fy ≤ (o' / n : Nat) ∧ ((o' / n : Nat) : Int) < fy + j) ∧ fstI x w a ≤ (o' % n : Nat) ∧ ((o' % n : Nat) : Int) ≤ lx)))) (n := k) (fun j h' hj ⟨F, R⟩ => by
      obtain ⟨jj, hjj⟩ : ∃ jj : Nat, (jj : Int) = fy + j := ⟨(fy + j).toNat, Int.toNat_of_nonneg (by omega)⟩
      have g19 : ag h' 19 = ag h 19 := F.2.1 19 (by simp; omega)
      have A' : AxIs h' 19 x w n := ⟨by rw [gj_of_ag g19]; exact A.1, by rw [gj_of_ag g19]; exact A.2.1, by rw [gi_of_ag g19]; exact A.2.2⟩
      have x12' : gj h' 6 12 = J a := by rw [gj_of_ag (F.2.1 6 (by simp; omega))]; exact x12
      have e1 := mk_ji (d := d) (b := b) (c := c) (lx := lx) (ly := ly) (j := jj) F.1 A' ⟨b1, b2, b3, b4, b5⟩ (by omega) (by omega) x12' ha
      obtain ⟨h'', e2, F', R'⟩ := mk_i (d := d) (c := c) (m := m) (ly := ly) F.1 hn hb A'.2.2 hc b3 b4 h0 h0b hl (j := jj) (by omega) hnm
      refine ⟨h'', ?_, F.trans F', fun c' o' hc' ho' => ?_⟩
      · show mkJ d b c lx ly (fy + j) h' = mkJ d b c lx ly (fy + ((j + 1 : Nat) : Int)) h''
        rw [← hjj, e1, e2, hjj]
        congr 1
        omega
      · rw [R' c' o' hc' ho', R c' o' hc' ho']
        refine or_dec ?_
        omega) 0 h (by omega) ⟨Fr.rf hS _, fun c' o' hc' ho' => by rw [decide_eq_false (show ¬ ((fy ≤ (o' / n : Nat) ∧ ((o' / n : Nat) : Int) < fy + ((0 : Nat) : Int)) ∧ fstI x w a ≤ (o' % n : Nat) ∧ ((o' % n : Nat) : Int) ≤ lx) by omega), Bool.and_false, Bool.or_false]⟩
    refine ⟨h', ?_, F, fun c' o' hc' ho' => ?_⟩
    · have e : mkJ d b c lx ly (fy + ((0 : Nat) : Int)) h = mkJ d b c lx ly (fy + (k : Int)) h' := e
      rw [show fy + ((0 : Nat) : Int) = fy by omega] at e
      rw [e]
      exact mk_jx F.1 ⟨by omega, by omega⟩ (by omega) (by omega)
    · rw [R c' o' hc' ho']
      congr 2
      exact decide_eq_decide.mpr (by omega)
end CMARK2
