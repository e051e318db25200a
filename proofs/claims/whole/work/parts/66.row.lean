/-! THE ROW: told.numbers (17), told.total (16.1) -/
def listC (f : Nat → Bool) : Nat → Nat → List Nat
  | 0, _ => []
  | n + 1, most => if f n = true ∧ (listC f n most).length < most then listC f n most ++ [n] else listC f n most
theorem listC_len (f : Nat → Bool) (n most : Nat) : (listC f n most).length ≤ n ∧ (listC f n most).length ≤ most := by
  induction n with
  | zero => exact ⟨Nat.le_refl _, Nat.zero_le _⟩
  | succ n ih =>
    unfold listC
    split
    · rw [List.length_append]
      constructor
      · have := ih.1; simp; omega
      · simp; omega
    · exact ⟨by omega, ih.2⟩
def Told (h : AH) (l : List Int32) : Prop := gi h 16 1 = nI l.length ∧ l.length ≤ 128 ∧ ∀ (i : Nat) (v : Int32), l[i]? = some v → ai h 17 i = v
section ROW
variable {d : Nat} {h : AH}
theorem Told_ag {h' : AH} {l : List Int32} (T : Told h l) (e1 : ag h' 16 = ag h 16) (e2 : ag h' 17 = ag h 17) : Told h' l := ⟨by rw [gi_of_ag e1]; exact T.1, T.2.1, fun i v hv => by rw [ai_of_ag e2]; exact T.2.2 i v hv⟩
set_option maxRecDepth 100000 in
theorem c_rclear (hS : SH h) : ∃ h', aCall (d + 1) 102 [.ref 16] h = some (none, h') ∧ Fr [16, 17] h h' ∧ Told h' [] := by
  rw [aCall_go 60, x102]
  simp only [lg_cmp_ge, lg_cmp_le, lg_cmp_gt, lg_cmp_lt, lg_cmp_eq, ↓ob, ↓pI, ↓pJ, ↓pR, ↓pV, ↓gO, ↓gI, ↓gJ, ↓gR, ↓gL, ↓gT, ↓lI, ↓lJ, ↓lR, psh, isRf, layA, padL, trimO, trimB, ld, ss1, ss2, killL, cmpB, popN, isO, isR, putOk, e_ag, e_agn, List.set_cons_zero, List.set_cons_succ, List.getElem?_cons_zero, List.getElem?_cons_succ, List.length_cons, List.length_nil, Value.category, decide_eq_true_eq, reduceIte, Nat.reduceAdd, Nat.reduceEqDiff, Nat.reduceLeDiff, reduceCtorEq, and_self, and_true, true_and, not_true_eq_false, not_false_eq_true, or_false, false_or, or_true, true_or, beq_self_eq_true, Nat.reduceBEq, Bool.false_eq_true, false_implies, forall_const, ↓s102_0, ↓s102_1, ↓s102_2, ↓s102_5, ↓U16_1 hS]
  exact ⟨_, rfl, (Fr_wi hS).mono (fun x hx => by simp at hx; simp [hx]), by rw [g16_1 hS]; rfl, by decide, fun i v hv => by simp at hv⟩
set_option maxRecDepth 100000 in
theorem c_radd (hS : SH h) {l : List Int32} (T : Told h l) (hl : l.length < 128) (v : Int32) : ∃ h', aCall (d + 1) 103 [.ref 16, .int v] h = some (none, h') ∧ Fr [16, 17] h h' ∧ Told h' (l ++ [v]) := by
  rw [aCall_go 60, x103]
  have hin : vp_in (nI l.length) 128 := by rw [vp_in_iff, ← I_nI, I_toInt ⟨by omega, by omega⟩]; omega
  simp only [lg_cmp_ge, lg_cmp_le, lg_cmp_gt, lg_cmp_lt, lg_cmp_eq, ↓ob, ↓pI, ↓pJ, ↓pR, ↓pV, ↓gO, ↓gI, ↓gJ, ↓gR, ↓gL, ↓gT, ↓lI, ↓lJ, ↓lR, psh, isRf, layA, padL, trimO, trimB, ld, ss1, ss2, killL, cmpB, popN, isO, isR, putOk, e_ag, e_agn, List.set_cons_zero, List.set_cons_succ, List.getElem?_cons_zero, List.getElem?_cons_succ, List.length_cons, List.length_nil, Value.category, decide_eq_true_eq, reduceIte, Nat.reduceAdd, Nat.reduceEqDiff, Nat.reduceLeDiff, reduceCtorEq, and_self, and_true, true_and, not_true_eq_false, not_false_eq_true, or_false, false_or, or_true, true_or, beq_self_eq_true, Nat.reduceBEq, Bool.false_eq_true, false_implies, forall_const, ↓s103_0, ↓s103_1, ↓s103_4, ↓s103_5, ↓s103_8, ↓s103_9, ↓s103_12, ↓s103_13, ↓s103_16, ↓s103_17, ↓s103_20, ↓s103_21, ↓s103_22, ↓s103_23, ↓s103_24, ↓s103_27, ↓s103_28, ↓s103_29, ↓s103_32, ↓G16_0 hS, ↓G16_1 hS, ↓E17 hS, T.1, ↓W17 hS hin, ↓G16_1 (SH_wAI hS), ↓U16_1 (SH_wAI hS), gi_wAI]
  rw [if_neg (fun q => by have := (n_le (by omega) (by omega)).mp q; omega), cl_n (by omega), n_succ]
  refine ⟨_, rfl, ((Fr_wAI hS).mono (fun x hx => by simp at hx; simp [hx])).trans ((Fr_wi (SH_wAI hS)).mono (fun x hx => by simp at hx; simp [hx])), ?_, ?_, fun i w hw => ?_⟩
  · rw [g16_1 (SH_wAI hS), List.length_append]; rfl
  · rw [List.length_append]; simp; omega
  · rw [ai_wi, a17 hS]
    unfold upd
    by_cases hi : i = l.length
    · rw [if_pos hi]
      subst hi
      simp at hw
      exact hw
    · rw [if_neg hi]
      have hlt : i < l.length := by
        have := (List.getElem?_eq_some_iff.mp hw).1
        simp at this
        omega
      rw [List.getElem?_append_left hlt] at hw
      exact T.2.2 i w hw
theorem listC_full (f : Nat → Bool) {most : Nat} (i : Nat) (hm : most ≤ (listC f i most).length) : ∀ k, listC f (i + k) most = listC f i most
  | 0 => rfl
  | k + 1 => by
    show (if f (i + k) = true ∧ (listC f (i + k) most).length < most then listC f (i + k) most ++ [i + k] else listC f (i + k) most) = _
    rw [listC_full f i hm k, if_neg (by omega)]
theorem listC_congr {f g : Nat → Bool} {most : Nat} : ∀ {n : Nat}, (∀ i, i < n → f i = g i) → listC f n most = listC g n most
  | 0, _ => rfl
  | n + 1, e => by
    unfold listC
    rw [listC_congr (fun i hi => e i (Nat.lt_succ_of_lt hi)), e n (Nat.lt_succ_self n)]
set_option maxRecDepth 100000 in
theorem list_loop {c : Nat} (hc : isCl c) (hn : c ∉ [16, 17]) {n most : Nat} (hn1 : n ≤ 128) (hm : most ≤ 128) : ∀ (k i : Nat) (h : AH), i + k = n → SH h → Told h ((listC (hasC h c) i most).map nI) → ∃ h', aAt (d + 2) 105 7 [some (.ref 16), some (.ref c), some (.int (nI n)), some (.int (nI most)), some (.int (nI i))] [] h = some (some (.int (nI (cntB (hasC h c) 128))), h') ∧ Fr [16, 17] h h' ∧ Told h' ((listC (hasC h c) n most).map nI) := by
  intro k
  induction k with
  | zero =>
    intro i h e hS T
    rw [u105_7 60]
    simp only [lg_cmp_ge, lg_cmp_le, lg_cmp_gt, lg_cmp_lt, lg_cmp_eq, ↓ob, ↓pI, ↓pJ, ↓pR, ↓pV, ↓gO, ↓gI, ↓gJ, ↓gR, ↓gL, ↓gT, ↓lI, ↓lJ, ↓lR, psh, isRf, layA, padL, trimO, trimB, ld, ss1, ss2, killL, cmpB, popN, isO, isR, putOk, e_ag, e_agn, List.set_cons_zero, List.set_cons_succ, List.getElem?_cons_zero, List.getElem?_cons_succ, List.length_cons, List.length_nil, Value.category, decide_eq_true_eq, reduceIte, Nat.reduceAdd, Nat.reduceEqDiff, Nat.reduceLeDiff, reduceCtorEq, and_self, and_true, true_and, not_true_eq_false, not_false_eq_true, or_false, false_or, or_true, true_or, beq_self_eq_true, Nat.reduceBEq, Bool.false_eq_true, false_implies, forall_const, ↓s105_0, ↓s105_1, ↓s105_4, ↓s105_5, ↓l105_7, ↓s105_9, ↓s105_10, ↓s105_13, ↓s105_14, ↓s105_17, ↓s105_18, ↓s105_21, ↓s105_22, ↓s105_24, ↓s105_27, ↓s105_30, ↓s105_31, ↓s105_33, ↓s105_36, ↓s105_39, ↓s105_42, ↓s105_43, ↓s105_46, x14, x16, x102, x103, ↓OC hS hc, c_size hS hc, ↓kont_go 60]
    rw [if_pos ((n_le (by omega) (by omega)).mpr (by omega))]
    exact ⟨h, rfl, Fr.rf hS _, by rw [show n = i by omega]; exact T⟩
  | succ k ih =>
    intro i h e hS T
    rw [u105_7 60]
    have hT := T.1
    rw [List.length_map] at hT
    have hl := listC_len (hasC h c) i most
    simp only [lg_cmp_ge, lg_cmp_le, lg_cmp_gt, lg_cmp_lt, lg_cmp_eq, ↓ob, ↓pI, ↓pJ, ↓pR, ↓pV, ↓gO, ↓gI, ↓gJ, ↓gR, ↓gL, ↓gT, ↓lI, ↓lJ, ↓lR, psh, isRf, layA, padL, trimO, trimB, ld, ss1, ss2, killL, cmpB, popN, isO, isR, putOk, e_ag, e_agn, List.set_cons_zero, List.set_cons_succ, List.getElem?_cons_zero, List.getElem?_cons_succ, List.length_cons, List.length_nil, Value.category, decide_eq_true_eq, reduceIte, Nat.reduceAdd, Nat.reduceEqDiff, Nat.reduceLeDiff, reduceCtorEq, and_self, and_true, true_and, not_true_eq_false, not_false_eq_true, or_false, false_or, or_true, true_or, beq_self_eq_true, Nat.reduceBEq, Bool.false_eq_true, false_implies, forall_const, ↓s105_0, ↓s105_1, ↓s105_4, ↓s105_5, ↓l105_7, ↓s105_9, ↓s105_10, ↓s105_13, ↓s105_14, ↓s105_17, ↓s105_18, ↓s105_21, ↓s105_22, ↓s105_24, ↓s105_27, ↓s105_30, ↓s105_31, ↓s105_33, ↓s105_36, ↓s105_39, ↓s105_42, ↓s105_43, ↓s105_46, x14, x16, x102, x103, ↓OC hS hc, ↓O16 hS, c_size hS hc, ↓kont_go 60, ↓G16_1 hS, hT, c_holdsN hS hc (show i < 128 by omega)]
    rw [if_neg (fun q => by have := (n_le (by omega) (by omega)).mp q; omega)]
    by_cases hf : most ≤ (listC (hasC h c) i most).length
    · rw [if_pos ((n_le (by omega) (by omega)).mpr hf)]
      refine ⟨h, rfl, Fr.rf hS _, ?_⟩
      rw [← e, listC_full _ _ hf]
      exact T
    · rw [if_neg (fun q => hf ((n_le (by omega) (by omega)).mp q)), n_succ]
      cases hb : hasC h c i
      · rw [if_pos (show bi false = 0 from rfl)]
        refine ih (i + 1) h (by omega) hS ?_
        unfold listC
        rw [if_neg (fun q => by rw [hb] at q; exact absurd q.1 (by decide))]
        exact T
      · rw [if_neg (show ¬ bi true = 0 by decide)]
        obtain ⟨h1, e1, f1, T1⟩ := c_radd (d := d + 1) hS T (by rw [List.length_map]; omega) (nI i)
        rw [e1]
        have hag := f1.2.1 c hn
        have T1 : Told h1 ((listC (hasC h1 c) (i + 1) most).map nI) := by
          rw [hasC_ag hag]
          unfold listC
          rw [if_pos ⟨hb, by omega⟩, List.map_append]
          exact T1
        obtain ⟨h2, e2, f2, T2⟩ := ih (i + 1) h1 (by omega) f1.1 T1
        rw [hasC_ag hag] at e2 T2
        exact ⟨h2, e2, f1.trans f2, T2⟩
set_option maxRecDepth 100000 in
theorem c_list {c : Nat} (hc : isCl c) (hn : c ∉ [16, 17]) {n most : Nat} (hn1 : n ≤ 128) (hm : most ≤ 128) (hS : SH h) : ∃ h', aCall (d + 3) 105 [.ref 16, .ref c, .int (nI n), .int (nI most)] h = some (some (.int (nI (cntB (hasC h c) 128))), h') ∧ Fr [16, 17] h h' ∧ Told h' ((listC (hasC h c) n most).map nI) := by
  rw [aCall_go 60, x105]
  obtain ⟨h1, e1, f1, T1⟩ := c_rclear (d := d + 1) hS
  simp only [lg_cmp_ge, lg_cmp_le, lg_cmp_gt, lg_cmp_lt, lg_cmp_eq, ↓ob, ↓pI, ↓pJ, ↓pR, ↓pV, ↓gO, ↓gI, ↓gJ, ↓gR, ↓gL, ↓gT, ↓lI, ↓lJ, ↓lR, psh, isRf, layA, padL, trimO, trimB, ld, ss1, ss2, killL, cmpB, popN, isO, isR, putOk, e_ag, e_agn, List.set_cons_zero, List.set_cons_succ, List.getElem?_cons_zero, List.getElem?_cons_succ, List.length_cons, List.length_nil, Value.category, decide_eq_true_eq, reduceIte, Nat.reduceAdd, Nat.reduceEqDiff, Nat.reduceLeDiff, reduceCtorEq, and_self, and_true, true_and, not_true_eq_false, not_false_eq_true, or_false, false_or, or_true, true_or, beq_self_eq_true, Nat.reduceBEq, Bool.false_eq_true, false_implies, forall_const, ↓s105_0, ↓s105_1, ↓s105_4, ↓s105_5, ↓l105_7, ↓s105_9, ↓s105_10, ↓s105_13, ↓s105_14, ↓s105_17, ↓s105_18, ↓s105_21, ↓s105_22, ↓s105_24, ↓s105_27, ↓s105_30, ↓s105_31, ↓s105_33, ↓s105_36, ↓s105_39, ↓s105_42, ↓s105_43, ↓s105_46, x14, x16, x102, x103, ↓O16 hS, e1, ↓kont_go 60]
  have hag := f1.2.1 c hn
  obtain ⟨h2, e2, f2, T2⟩ := list_loop (d := d) hc hn hn1 hm n 0 h1 (by omega) f1.1 T1
  rw [hasC_ag hag] at e2 T2
  exact ⟨h2, e2, f1.trans f2, T2⟩
end ROW
