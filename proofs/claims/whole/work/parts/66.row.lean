/-! THE ROW: told.numbers (17), told.total (16.1) -/
def listC (f : Nat → Bool) : Nat → Nat → List Nat
  | 0, _ => []
  | n + 1, most => if f n = true ∧ (listC f n most).length < most then listC f n most ++ [n] else listC f n most
theorem listC_len (f : Nat → Bool) (n most : Nat) : (listC f n most).length ≤ n ∧ (listC f n most).length ≤ most := by
  induction n with
  | zero => exact ⟨Nat.le_refl _, Nat.zero_le _⟩
  | succ n ih =>
    unfold listC
    split
    · rw [List.length_append]
      constructor
      · have := ih.1; simp; omega
      · simp; omega
    · exact ⟨by omega, ih.2⟩
def Told (h : AH) (l : List Int32) : Prop := gi h 16 1 = nI l.length ∧ l.length ≤ 128 ∧ ∀ (i : Nat) (v : Int32), l[i]? = some v → ai h 17 i = v
section ROW
variable {d : Nat} {h : AH}
theorem Told_ag {h' : AH} {l : List Int32} (T : Told h l) (e1 : ag h' 16 = ag h 16) (e2 : ag h' 17 = ag h 17) : Told h' l := ⟨by rw [gi_of_ag e1]; exact T.1, T.2.1, fun i v hv => by rw [ai_of_ag e2]; exact T.2.2 i v hv⟩
set_option maxRecDepth 100000 in
theorem c_rclear (hS : SH h) : ∃ h', aCall (d + 1) 102 [.ref 16] h = some (none, h') ∧ Fr [16, 17] h h' ∧ Told h' [] := by
  rw [aCall_go 60, x102]
  simp only [lg_cmp_ge, lg_cmp_le, lg_cmp_gt, lg_cmp_lt, lg_cmp_eq, ↓ob, ↓pI, ↓pJ, ↓pR, ↓pV, ↓gO, ↓gI, ↓gJ, ↓gR, ↓gL, ↓gT, ↓lI, ↓lJ, ↓lR, psh, isRf, layA, padL, trimO, trimB, ld, ss1, ss2, killL, cmpB, popN, isO, isR, putOk, e_ag, e_agn, List.set_cons_zero, List.set_cons_succ, List.getElem?_cons_zero, List.getElem?_cons_succ, List.length_cons, List.length_nil, Value.category, decide_eq_true_eq, reduceIte, Nat.reduceAdd, Nat.reduceEqDiff, Nat.reduceLeDiff, reduceCtorEq, and_self, and_true, true_and, not_true_eq_false, not_false_eq_true, or_false, false_or, or_true, true_or, beq_self_eq_true, Nat.reduceBEq, Bool.false_eq_true, false_implies, forall_const, ↓s102_0, ↓s102_1, ↓s102_2, ↓s102_5, ↓U16_1 hS]
  exact ⟨_, rfl, (Fr_wi hS).mono (fun x hx => by simp at hx; simp [hx]), by rw [g16_1 hS]; rfl, by decide, fun i v hv => by simp at hv⟩
set_option maxRecDepth 100000 in
theorem c_radd (hS : SH h) {l : List Int32} (T : Told h l) (hl : l.length < 128) (v : Int32) : ∃ h', aCall (d + 1) 103 [.ref 16, .int v] h = some (none, h') ∧ Fr [16, 17] h h' ∧ Told h' (l ++ [v]) := by
  rw [aCall_go 60, x103]
  have hin : vp_in (nI l.length) 128 := by rw [vp_in_iff, ← I_nI, I_toInt ⟨by omega, by omega⟩]; omega
  simp only [lg_cmp_ge, lg_cmp_le, lg_cmp_gt, lg_cmp_lt, lg_cmp_eq, ↓ob, ↓pI, ↓pJ, ↓pR, ↓pV, ↓gO, ↓gI, ↓gJ, ↓gR, ↓gL, ↓gT, ↓lI, ↓lJ, ↓lR, psh, isRf, layA, padL, trimO, trimB, ld, ss1, ss2, killL, cmpB, popN, isO, isR, putOk, e_ag, e_agn, List.set_cons_zero, List.set_cons_succ, List.getElem?_cons_zero, List.getElem?_cons_succ, List.length_cons, List.length_nil, Value.category, decide_eq_true_eq, reduceIte, Nat.reduceAdd, Nat.reduceEqDiff, Nat.reduceLeDiff, reduceCtorEq, and_self, and_true, true_and, not_true_eq_false, not_false_eq_true, or_false, false_or, or_true, true_or, beq_self_eq_true, Nat.reduceBEq, Bool.false_eq_true, false_implies, forall_const, ↓s103_0, ↓s103_1, ↓s103_4, ↓s103_5, ↓s103_8, ↓s103_9, ↓s103_12, ↓s103_13, ↓s103_16, ↓s103_17, ↓s103_20, ↓s103_21, ↓s103_22, ↓s103_23, ↓s103_24, ↓s103_27, ↓s103_28, ↓s103_29, ↓s103_32, ↓G16_0 hS, ↓G16_1 hS, ↓E17 hS, T.1, ↓W17 hS hin, ↓G16_1 (SH_wAI hS), ↓U16_1 (SH_wAI hS), gi_wAI]
  exact absurd rfl rfl
end ROW
