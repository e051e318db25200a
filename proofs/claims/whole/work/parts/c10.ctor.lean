/-! THE CONSTRUCTORS: over any heap, and on a heap that is given as a list -/
section CTOR
variable {d k n a s : Nat} {h : AH} {c c' : AC} {l : List AC} {Y : Nat → Option AC}
theorem rmK {n : Nat} (h : n < 700000) : (n < 700000) = True := eq_true h
theorem s_an {n : Nat} : au (an h n c) a c' = if a = h.1 then an h n c' else an (au h a c') n c := by
  by_cases e : a = h.1
  · rw [if_pos e]
    unfold an au
    refine Prod.ext rfl (Prod.ext rfl (funext fun b => ?_))
    show (if b = a then some c' else if b = h.1 then some c else h.2.2 b) = if b = h.1 then some c' else h.2.2 b
    by_cases e2 : b = a
    · rw [if_pos e2, if_pos (e2.trans e)]
    · rw [if_neg e2, if_neg (fun z => e2 (z.trans e.symm)), if_neg (fun z => e2 (z.trans e.symm))]
  · rw [if_neg e]
    unfold an au
    refine Prod.ext rfl (Prod.ext rfl (funext fun b => ?_))
    show (if b = a then some c' else if b = h.1 then some c else h.2.2 b) = if b = h.1 then some c else if b = a then some c' else h.2.2 b
    by_cases e2 : b = a
    · rw [if_pos e2, if_neg (fun z => e (e2.symm.trans z)), if_pos e2]
    · rw [if_neg e2, if_neg e2]
theorem an_1 : (an h n c).1 = h.1 + 1 := Eq.trans (b := h.1 + 1) rfl rfl
theorem au_1 : (au h a c).1 = h.1 := Eq.trans (b := h.1) rfl rfl
theorem kne {k n j : Nat} (hk : k < n) : (k = n + j) = False := eq_false (by omega)
theorem kne0 {k n : Nat} (hk : k < n) : (k = n) = False := eq_false (by omega)
theorem sne {n j : Nat} (hj : 0 < j) : (n = n + j) = False := eq_false (by omega)
theorem sne' {n j : Nat} (hj : 0 < j) : (n + j = n) = False := eq_false (by omega)
theorem dne {n i j : Nat} (hj : i ≠ j) : (n + i = n + j) = False := eq_false (by omega)
theorem au_self (hm : ag h k = some c) : au h k c = h := by
  unfold au
  refine Prod.ext rfl (Prod.ext rfl (funext fun b => ?_))
  show (if b = k then some c else h.2.2 b) = h.2.2 b
  by_cases e : b = k
  · rw [if_pos e, e]; exact hm.symm
  · rw [if_neg e]
theorem au_au : au (au h k c) k c' = au h k c' := by
  unfold au
  refine Prod.ext rfl (Prod.ext rfl (funext fun b => ?_))
  show (if b = k then some c' else if b = k then some c else h.2.2 b) = if b = k then some c' else h.2.2 b
  by_cases e : b = k
  · rw [if_pos e, if_pos e]
  · rw [if_neg e, if_neg e, if_neg e]
def HB (l : List AC) (s : Nat) (Y : Nat → Option AC) : AH := (l.length, s, fun a => (l[a]?).or (Y a))
theorem hb_1 : (HB l s Y).1 = l.length := Eq.trans (b := l.length) rfl rfl
theorem hb_ag : ag (HB l s Y) a = (l[a]?).or (Y a) := rfl
theorem hb_an : an (HB l s Y) n c = HB (l ++ [c]) (s + n) Y := by
  unfold an HB
  refine Prod.ext (by simp) (Prod.ext rfl (funext fun b => ?_))
  show (if b = l.length then some c else (l[b]?).or (Y b)) = ((l ++ [c])[b]?).or (Y b)
  by_cases e : b = l.length
  · rw [if_pos e, e, List.getElem?_append_right (Nat.le_refl _), Nat.sub_self]
    rfl
  · rw [if_neg e]
    by_cases e2 : b < l.length
    · rw [List.getElem?_append_left e2]
    · rw [List.getElem?_eq_none (by omega), List.getElem?_eq_none (by simp; omega)]
theorem hb_au (ha : a < l.length) : au (HB l s Y) a c = HB (l.set a c) s Y := by
  unfold au HB
  refine Prod.ext (by simp) (Prod.ext rfl (funext fun b => ?_))
  show (if b = a then some c else (l[b]?).or (Y b)) = ((l.set a c)[b]?).or (Y b)
  by_cases e : b = a
  · rw [if_pos e, e, List.getElem?_set_self ha]
    rfl
  · rw [if_neg e, List.getElem?_set_ne (fun z => e z.symm)]
theorem dft0 : DFT.getD 0 [] = [.long 0, .long 0, .int 0] := rfl
theorem dft1 : DFT.getD 1 [] = [.null, .null, .int 0, .null, .null, .null] := rfl
theorem dft2 : DFT.getD 2 [] = [.long 0, .long 0] := rfl
theorem dft3 : DFT.getD 3 [] = [.int 0, .null, .null, .null, .int 0, .long 0, .long 0, .long 0, .long 0] := rfl
theorem dft4 : DFT.getD 4 [] = [.null, .int 0] := rfl
theorem dft5 : DFT.getD 5 [] = [.null, .null, .null, .int 0] := rfl
theorem dft6 : DFT.getD 6 [] = [.null, .int 0, .int 0, .int 0, .int 0, .int 0, .null, .int 0, .null, .int 0] := rfl
theorem dft7 : DFT.getD 7 [] = [.null, .null, .null, .null, .int 0, .int 0, .null, .null, .null, .null, .int 0, .int 0, .long 0, .long 0, .long 0, .long 0, .long 0, .long 0] := rfl
theorem dft8 : DFT.getD 8 [] = [.null, .int 0] := rfl
theorem dft9 : DFT.getD 9 [] = [.null, .int 0, .int 0, .null, .null, .null] := rfl
theorem dft10 : DFT.getD 10 [] = [.null, .null, .null, .int 0, .int 0, .null, .null, .null] := rfl
theorem dft11 : DFT.getD 11 [] = [.null, .null, .int 0, .int 0, .null, .null, .int 0, .null, .null, .int 0, .null, .null, .null, .null, .null, .null, .null, .null, .null, .int 0] := rfl
theorem dft12 : DFT.getD 12 [] = [.int 0, .null, .int 0, .int 0, .int 0, .int 0, .int 0, .int 0, .null, .null, .null, .null, .null, .null, .null, .null, .null, .null, .int 0, .null, .int 0, .null, .null, .null, .null, .null, .null, .int 0, .long 0, .long 0, .long 0, .long 0, .long 0, .long 0, .int 0, .null, .int 0, .int 0, .int 0, .int 0, .int 0, .int 0, .int 0, .int 0, .null, .null, .null, .null, .null, .null, .null, .long 0, .long 0, .long 0, .long 0, .int 0, .null, .int 0, .int 0, .int 0, .int 0, .int 0, .null, .null, .null, .null, .null, .null, .null, .null, .null, .int 0, .null, .null] := rfl
theorem clc2 : (CL.getD 2 ("", TX13, 0)).1 = "RoundMaps$Cells" := rfl
theorem clc4 : (CL.getD 4 ("", TX13, 0)).1 = "RoundMaps$MapText" := rfl
theorem clc5 : (CL.getD 5 ("", TX13, 0)).1 = "RoundMaps$Net" := rfl
theorem neg0F {a : Nat} (ha : a < 2147483648) : (nI a < 0) = False := lt0F ha
theorem cl_0 : cl 0 = 0 := rfl
set_option maxRecDepth 100000 in
theorem i_lay (hm : ag h k = some (cO 0 [.long 0, .long 0, .int 1])) : aCall (d + 1) 1 [.ref k, .int 0, .int (nI 1024), .int 1] h = some (none, au h k (cO 0 [.long 0, .long (J 1024), .int 1])) := by
  have q1 : ((1 : Int32) = 0) = False := eq_false (by decide)
  have q2 : ((1 : Int32) ≤ 1) = True := eq_true (by decide)
  have q3 : ((nI 1024 - 0) / 1 : Int32).toInt64 = J 1024 := by decide
  have q4 : (0 : Int32).toInt64 = 0 := by decide
  rw [aCall_go 200, x1]
  simp (maxSteps := 4000000) (disch := first | omega | ((with_reducible (apply in_n)) <;> omega) | (simp only [an_1, au_1, Nat.add_assoc, Nat.reduceAdd]; first | done | omega) | (simp (disch := omega) only [e_agn, e_ag, an_1, au_1, Nat.add_assoc, Nat.reduceAdd, sne, sne', dne, ↓reduceIte, eq_self, Nat.reduceEqDiff]; done)) only [lg_cmp_ge, lg_cmp_le, lg_cmp_gt, lg_cmp_lt, lg_cmp_eq, ↓ob, ↓pI, ↓pJ, ↓pR, ↓pV, ↓gO, ↓gI, ↓gJ, ↓gR, ↓gL, ↓gT, ↓lI, ↓lJ, ↓lR, psh, isRf, layA, padL, trimO, trimB, ld, ss1, ss2, killL, cmpB, popN, isR, putOk, e_ag, e_agn, List.set_cons_zero, List.set_cons_succ, List.getElem?_cons_zero, List.getElem?_cons_succ, List.length_cons, List.length_nil, Value.category, decide_eq_true_eq, reduceIte, Nat.reduceAdd, Nat.reduceEqDiff, Nat.reduceLeDiff, reduceCtorEq, and_self, and_true, true_and, not_true_eq_false, not_false_eq_true, or_false, false_or, or_true, true_or, beq_self_eq_true, Nat.reduceBEq, Bool.false_eq_true, false_implies, forall_const, ↓s1_0, ↓s1_1, ↓s1_2, ↓s1_3, ↓s1_6, ↓s1_7, ↓s1_8, ↓s1_11, ↓s1_12, ↓s1_13, ↓s1_14, ↓s1_17, ↓s1_18, ↓s1_21, ↓s1_22, ↓s1_23, ↓s1_24, ↓s1_25, ↓s1_26, ↓s1_27, ↓s1_30, hPut, hGet, hLen, Nat.reduceLT, an_1, au_1, eq_self, hm, q1, q2, q3, q4, au_au]
set_option maxRecDepth 100000 in
set_option maxHeartbeats 400000 in
theorem i_Cells (ha : a = h.1) (hz : h.1 + 3 < 700000) : aCall (d + 1) 13 [.ref a] (an h 2 (cO 2 [.long 0, .long 0])) = some (none, an h 2 (cO 2 [.long 0, .long 0])) := by
  subst ha
  rw [aCall_go 200, x13]
  simp (maxSteps := 4000000) (disch := first | omega | ((with_reducible (apply in_n)) <;> omega) | (simp only [an_1, au_1, Nat.add_assoc, Nat.reduceAdd]; first | done | omega) | (simp (disch := omega) only [e_agn, e_ag, an_1, au_1, Nat.add_assoc, Nat.reduceAdd, sne, sne', dne, ↓reduceIte, eq_self, Nat.reduceEqDiff]; done)) only [lg_cmp_ge, lg_cmp_le, lg_cmp_gt, lg_cmp_lt, lg_cmp_eq, ↓ob, ↓pI, ↓pJ, ↓pR, ↓pV, ↓gO, ↓gI, ↓gJ, ↓gR, ↓gL, ↓gT, ↓lI, ↓lJ, ↓lR, psh, isRf, layA, padL, trimO, trimB, ld, ss1, ss2, killL, cmpB, popN, isR, putOk, e_ag, e_agn, List.set_cons_zero, List.set_cons_succ, List.getElem?_cons_zero, List.getElem?_cons_succ, List.length_cons, List.length_nil, Value.category, decide_eq_true_eq, reduceIte, Nat.reduceAdd, Nat.reduceEqDiff, Nat.reduceLeDiff, reduceCtorEq, and_self, and_true, true_and, not_true_eq_false, not_false_eq_true, or_false, false_or, or_true, true_or, beq_self_eq_true, Nat.reduceBEq, Bool.false_eq_true, false_implies, forall_const, ↓s13_0, ↓s13_1, ↓s13_4, ↓s13_5, ↓s13_6, ↓s13_9, ↓s13_10, ↓s13_11, ↓s13_14, ltT, ltF, leT, leF, eqF, lt0F, le0T, eq0F, lt0T, le0F, nle1T, nle1F, n1leT, n1leF, nlt1T, nlt1F, n1ltT, n1ltF, neq1F, neq1T, neq0T, nle0T, n0ltF, n_add, n_succ, n_sub, n_sub1, n_mul, cl_n, cl_0, one0, zer1, neg0F, ↓reduceIte, isO, hPut, hGet, hLen, rmK, Nat.reduceLT, an_1, au_1, s_an, sne, sne', dne, eq_self, Nat.add_assoc, dft0, dft1, dft2, dft3, dft4, dft5, dft6, dft7, dft8, dft9, dft10, dft11, dft12, clc2, clc4, clc5, ↓kont_go 200]
set_option maxRecDepth 100000 in
set_option maxHeartbeats 400000 in
theorem i_Axis (ha : a = h.1) (hz : h.1 + 3 < 700000) : aCall (d + 1) 0 [.ref a] (an h 3 (cO 0 [.long 0, .long 0, .int 0])) = some (none, an h 3 (cO 0 [.long 0, .long 0, .int 1])) := by
  subst ha
  rw [aCall_go 200, x0]
  simp (maxSteps := 4000000) (disch := first | omega | ((with_reducible (apply in_n)) <;> omega) | (simp only [an_1, au_1, Nat.add_assoc, Nat.reduceAdd]; first | done | omega) | (simp (disch := omega) only [e_agn, e_ag, an_1, au_1, Nat.add_assoc, Nat.reduceAdd, sne, sne', dne, ↓reduceIte, eq_self, Nat.reduceEqDiff]; done)) only [lg_cmp_ge, lg_cmp_le, lg_cmp_gt, lg_cmp_lt, lg_cmp_eq, ↓ob, ↓pI, ↓pJ, ↓pR, ↓pV, ↓gO, ↓gI, ↓gJ, ↓gR, ↓gL, ↓gT, ↓lI, ↓lJ, ↓lR, psh, isRf, layA, padL, trimO, trimB, ld, ss1, ss2, killL, cmpB, popN, isR, putOk, e_ag, e_agn, List.set_cons_zero, List.set_cons_succ, List.getElem?_cons_zero, List.getElem?_cons_succ, List.length_cons, List.length_nil, Value.category, decide_eq_true_eq, reduceIte, Nat.reduceAdd, Nat.reduceEqDiff, Nat.reduceLeDiff, reduceCtorEq, and_self, and_true, true_and, not_true_eq_false, not_false_eq_true, or_false, false_or, or_true, true_or, beq_self_eq_true, Nat.reduceBEq, Bool.false_eq_true, false_implies, forall_const, ↓s0_0, ↓s0_1, ↓s0_4, ↓s0_5, ↓s0_6, ↓s0_9, ↓s0_10, ↓s0_11, ↓s0_14, ↓s0_15, ↓s0_16, ↓s0_19, ltT, ltF, leT, leF, eqF, lt0F, le0T, eq0F, lt0T, le0F, nle1T, nle1F, n1leT, n1leF, nlt1T, nlt1F, n1ltT, n1ltF, neq1F, neq1T, neq0T, nle0T, n0ltF, n_add, n_succ, n_sub, n_sub1, n_mul, cl_n, cl_0, one0, zer1, neg0F, ↓reduceIte, isO, hPut, hGet, hLen, rmK, Nat.reduceLT, an_1, au_1, s_an, sne, sne', dne, eq_self, Nat.add_assoc, dft0, dft1, dft2, dft3, dft4, dft5, dft6, dft7, dft8, dft9, dft10, dft11, dft12, clc2, clc4, clc5, ↓kont_go 200]
set_option maxRecDepth 100000 in
set_option maxHeartbeats 400000 in
theorem i_Row (ha : a = h.1) (hz : h.1 + 20 < 700000) : aCall (d + 1) 101 [.ref a] (an h 2 (cO 8 [.null, .int 0])) = some (none, an (an h 2 (cO 8 [.ref (h.1 + 1), .int 0])) 128 (cI 128 (fun _ => 0))) := by
  subst ha
  rw [aCall_go 200, x101]
  simp (maxSteps := 4000000) (disch := first | omega | ((with_reducible (apply in_n)) <;> omega) | (simp only [an_1, au_1, Nat.add_assoc, Nat.reduceAdd]; first | done | omega) | (simp (disch := omega) only [e_agn, e_ag, an_1, au_1, Nat.add_assoc, Nat.reduceAdd, sne, sne', dne, ↓reduceIte, eq_self, Nat.reduceEqDiff]; done)) only [lg_cmp_ge, lg_cmp_le, lg_cmp_gt, lg_cmp_lt, lg_cmp_eq, ↓ob, ↓pI, ↓pJ, ↓pR, ↓pV, ↓gO, ↓gI, ↓gJ, ↓gR, ↓gL, ↓gT, ↓lI, ↓lJ, ↓lR, psh, isRf, layA, padL, trimO, trimB, ld, ss1, ss2, killL, cmpB, popN, isR, putOk, e_ag, e_agn, List.set_cons_zero, List.set_cons_succ, List.getElem?_cons_zero, List.getElem?_cons_succ, List.length_cons, List.length_nil, Value.category, decide_eq_true_eq, reduceIte, Nat.reduceAdd, Nat.reduceEqDiff, Nat.reduceLeDiff, reduceCtorEq, and_self, and_true, true_and, not_true_eq_false, not_false_eq_true, or_false, false_or, or_true, true_or, beq_self_eq_true, Nat.reduceBEq, Bool.false_eq_true, false_implies, forall_const, ↓s101_0, ↓s101_1, ↓s101_4, ↓s101_5, ↓s101_8, ↓s101_10, ↓s101_13, ↓s101_14, ↓s101_15, ↓s101_18, nlit128, ltT, ltF, leT, leF, eqF, lt0F, le0T, eq0F, lt0T, le0F, nle1T, nle1F, n1leT, n1leF, nlt1T, nlt1F, n1ltT, n1ltF, neq1F, neq1T, neq0T, nle0T, n0ltF, n_add, n_succ, n_sub, n_sub1, n_mul, cl_n, cl_0, one0, zer1, neg0F, ↓reduceIte, isO, hPut, hGet, hLen, rmK, Nat.reduceLT, an_1, au_1, s_an, sne, sne', dne, eq_self, Nat.add_assoc, dft0, dft1, dft2, dft3, dft4, dft5, dft6, dft7, dft8, dft9, dft10, dft11, dft12, clc2, clc4, clc5, ↓kont_go 200]
set_option maxRecDepth 100000 in
set_option maxHeartbeats 400000 in
theorem i_Reader (ha : a = h.1) (hz : h.1 + 20 < 700000) : aCall (d + 1) 55 [.ref a] (an h 10 (cO 6 [.null, .int 0, .int 0, .int 0, .int 0, .int 0, .null, .int 0, .null, .int 0])) = some (none, an (an (an (an h 10 (cO 6 [.ref (h.1 + 1), .int 0, .int 0, .int 0, .int 1, .int 0, .ref (h.1 + 2), .int 0, .ref (h.1 + 3), .int 0])) 100 (cI 100 (fun _ => 0))) 60 (cI 60 (fun _ => 0))) 60 (cI 60 (fun _ => 0))) := by
  subst ha
  rw [aCall_go 200, x55]
  simp (maxSteps := 4000000) (disch := first | omega | ((with_reducible (apply in_n)) <;> omega) | (simp only [an_1, au_1, Nat.add_assoc, Nat.reduceAdd]; first | done | omega) | (simp (disch := omega) only [e_agn, e_ag, an_1, au_1, Nat.add_assoc, Nat.reduceAdd, sne, sne', dne, ↓reduceIte, eq_self, Nat.reduceEqDiff]; done)) only [lg_cmp_ge, lg_cmp_le, lg_cmp_gt, lg_cmp_lt, lg_cmp_eq, ↓ob, ↓pI, ↓pJ, ↓pR, ↓pV, ↓gO, ↓gI, ↓gJ, ↓gR, ↓gL, ↓gT, ↓lI, ↓lJ, ↓lR, psh, isRf, layA, padL, trimO, trimB, ld, ss1, ss2, killL, cmpB, popN, isR, putOk, e_ag, e_agn, List.set_cons_zero, List.set_cons_succ, List.getElem?_cons_zero, List.getElem?_cons_succ, List.length_cons, List.length_nil, Value.category, decide_eq_true_eq, reduceIte, Nat.reduceAdd, Nat.reduceEqDiff, Nat.reduceLeDiff, reduceCtorEq, and_self, and_true, true_and, not_true_eq_false, not_false_eq_true, or_false, false_or, or_true, true_or, beq_self_eq_true, Nat.reduceBEq, Bool.false_eq_true, false_implies, forall_const, ↓s55_0, ↓s55_1, ↓s55_4, ↓s55_5, ↓s55_7, ↓s55_9, ↓s55_12, ↓s55_13, ↓s55_14, ↓s55_17, ↓s55_18, ↓s55_19, ↓s55_22, ↓s55_23, ↓s55_24, ↓s55_27, ↓s55_28, ↓s55_29, ↓s55_32, ↓s55_33, ↓s55_34, ↓s55_37, ↓s55_38, ↓s55_40, ↓s55_42, ↓s55_45, ↓s55_46, ↓s55_47, ↓s55_50, ↓s55_51, ↓s55_53, ↓s55_55, ↓s55_58, ↓s55_59, ↓s55_60, ↓s55_63, nlit100, nlit60, ltT, ltF, leT, leF, eqF, lt0F, le0T, eq0F, lt0T, le0F, nle1T, nle1F, n1leT, n1leF, nlt1T, nlt1F, n1ltT, n1ltF, neq1F, neq1T, neq0T, nle0T, n0ltF, n_add, n_succ, n_sub, n_sub1, n_mul, cl_n, cl_0, one0, zer1, neg0F, ↓reduceIte, isO, hPut, hGet, hLen, rmK, Nat.reduceLT, an_1, au_1, s_an, sne, sne', dne, eq_self, Nat.add_assoc, dft0, dft1, dft2, dft3, dft4, dft5, dft6, dft7, dft8, dft9, dft10, dft11, dft12, clc2, clc4, clc5, ↓kont_go 200]
set_option maxRecDepth 100000 in
set_option maxHeartbeats 400000 in
theorem i_Reckoner (ha : a = h.1) (hz : h.1 + 20 < 700000) : aCall (d + 1) 79 [.ref a] (an h 18 (cO 7 [.null, .null, .null, .null, .int 0, .int 0, .null, .null, .null, .null, .int 0, .int 0, .long 0, .long 0, .long 0, .long 0, .long 0, .long 0])) = some (none, an (an (an (an (an (an (an (an (an h 18 (cO 7 [.ref (h.1 + 1), .ref (h.1 + 2), .ref (h.1 + 3), .ref (h.1 + 4), .int 0, .int 0, .ref (h.1 + 5), .ref (h.1 + 6), .ref (h.1 + 7), .ref (h.1 + 8), .int 0, .int 0, .long 0, .long 0, .long 0, .long 0, .long 0, .long 0])) 6 (cJ 6 (fun _ => 0))) 6 (cJ 6 (fun _ => 0))) 61 (cJ 61 (fun _ => 0))) 61 (cJ 61 (fun _ => 0))) 61 (cJ 61 (fun _ => 0))) 61 (cJ 61 (fun _ => 0))) 61 (cZ 61 (fun _ => 0))) 61 (cI 61 (fun _ => 0))) := by
  subst ha
  rw [aCall_go 200, x79]
  simp (maxSteps := 4000000) (disch := first | omega | ((with_reducible (apply in_n)) <;> omega) | (simp only [an_1, au_1, Nat.add_assoc, Nat.reduceAdd]; first | done | omega) | (simp (disch := omega) only [e_agn, e_ag, an_1, au_1, Nat.add_assoc, Nat.reduceAdd, sne, sne', dne, ↓reduceIte, eq_self, Nat.reduceEqDiff]; done)) only [lg_cmp_ge, lg_cmp_le, lg_cmp_gt, lg_cmp_lt, lg_cmp_eq, ↓ob, ↓pI, ↓pJ, ↓pR, ↓pV, ↓gO, ↓gI, ↓gJ, ↓gR, ↓gL, ↓gT, ↓lI, ↓lJ, ↓lR, psh, isRf, layA, padL, trimO, trimB, ld, ss1, ss2, killL, cmpB, popN, isR, putOk, e_ag, e_agn, List.set_cons_zero, List.set_cons_succ, List.getElem?_cons_zero, List.getElem?_cons_succ, List.length_cons, List.length_nil, Value.category, decide_eq_true_eq, reduceIte, Nat.reduceAdd, Nat.reduceEqDiff, Nat.reduceLeDiff, reduceCtorEq, and_self, and_true, true_and, not_true_eq_false, not_false_eq_true, or_false, false_or, or_true, true_or, beq_self_eq_true, Nat.reduceBEq, Bool.false_eq_true, false_implies, forall_const, ↓s79_0, ↓s79_1, ↓s79_4, ↓s79_5, ↓s79_7, ↓s79_9, ↓s79_12, ↓s79_13, ↓s79_15, ↓s79_17, ↓s79_20, ↓s79_21, ↓s79_23, ↓s79_25, ↓s79_28, ↓s79_29, ↓s79_31, ↓s79_33, ↓s79_36, ↓s79_37, ↓s79_38, ↓s79_41, ↓s79_42, ↓s79_43, ↓s79_46, ↓s79_47, ↓s79_49, ↓s79_51, ↓s79_54, ↓s79_55, ↓s79_57, ↓s79_59, ↓s79_62, ↓s79_63, ↓s79_65, ↓s79_67, ↓s79_70, ↓s79_71, ↓s79_73, ↓s79_75, ↓s79_78, ↓s79_79, ↓s79_80, ↓s79_83, ↓s79_84, ↓s79_85, ↓s79_88, ↓s79_89, ↓s79_90, ↓s79_93, ↓s79_94, ↓s79_95, ↓s79_98, ↓s79_99, ↓s79_100, ↓s79_103, ↓s79_104, ↓s79_105, ↓s79_108, ↓s79_109, ↓s79_110, ↓s79_113, ↓s79_114, ↓s79_115, ↓s79_118, nlit6, nlit61, ltT, ltF, leT, leF, eqF, lt0F, le0T, eq0F, lt0T, le0F, nle1T, nle1F, n1leT, n1leF, nlt1T, nlt1F, n1ltT, n1ltF, neq1F, neq1T, neq0T, nle0T, n0ltF, n_add, n_succ, n_sub, n_sub1, n_mul, cl_n, cl_0, one0, zer1, neg0F, ↓reduceIte, isO, hPut, hGet, hLen, rmK, Nat.reduceLT, an_1, au_1, s_an, sne, sne', dne, eq_self, Nat.add_assoc, dft0, dft1, dft2, dft3, dft4, dft5, dft6, dft7, dft8, dft9, dft10, dft11, dft12, clc2, clc4, clc5, ↓kont_go 200]
set_option maxRecDepth 100000 in
set_option maxHeartbeats 400000 in
theorem i_Boxes (ha : a = h.1) (hz : h.1 + 20 < 700000) : aCall (d + 1) 7 [.ref a] (an h 6 (cO 1 [.null, .null, .int 0, .null, .null, .null])) = some (none, an (an (an (an (an (an h 6 (cO 1 [.ref (h.1 + 1), .ref (h.1 + 2), .int 0, .ref (h.1 + 3), .ref (h.1 + 4), .ref (h.1 + 5)])) 6 (cI 6 (fun _ => 0))) 6 (cI 6 (fun _ => 0))) 36 (cZ 36 (fun _ => 0))) 6 (cJ 6 (fun _ => 0))) 6 (cJ 6 (fun _ => 0))) := by
  subst ha
  rw [aCall_go 200, x7]
  simp (maxSteps := 4000000) (disch := first | omega | ((with_reducible (apply in_n)) <;> omega) | (simp only [an_1, au_1, Nat.add_assoc, Nat.reduceAdd]; first | done | omega) | (simp (disch := omega) only [e_agn, e_ag, an_1, au_1, Nat.add_assoc, Nat.reduceAdd, sne, sne', dne, ↓reduceIte, eq_self, Nat.reduceEqDiff]; done)) only [lg_cmp_ge, lg_cmp_le, lg_cmp_gt, lg_cmp_lt, lg_cmp_eq, ↓ob, ↓pI, ↓pJ, ↓pR, ↓pV, ↓gO, ↓gI, ↓gJ, ↓gR, ↓gL, ↓gT, ↓lI, ↓lJ, ↓lR, psh, isRf, layA, padL, trimO, trimB, ld, ss1, ss2, killL, cmpB, popN, isR, putOk, e_ag, e_agn, List.set_cons_zero, List.set_cons_succ, List.getElem?_cons_zero, List.getElem?_cons_succ, List.length_cons, List.length_nil, Value.category, decide_eq_true_eq, reduceIte, Nat.reduceAdd, Nat.reduceEqDiff, Nat.reduceLeDiff, reduceCtorEq, and_self, and_true, true_and, not_true_eq_false, not_false_eq_true, or_false, false_or, or_true, true_or, beq_self_eq_true, Nat.reduceBEq, Bool.false_eq_true, false_implies, forall_const, ↓s7_0, ↓s7_1, ↓s7_4, ↓s7_5, ↓s7_7, ↓s7_9, ↓s7_12, ↓s7_13, ↓s7_15, ↓s7_17, ↓s7_20, ↓s7_21, ↓s7_22, ↓s7_25, ↓s7_26, ↓s7_28, ↓s7_30, ↓s7_33, ↓s7_34, ↓s7_36, ↓s7_38, ↓s7_41, ↓s7_42, ↓s7_44, ↓s7_46, ↓s7_49, nlit6, nlit36, ltT, ltF, leT, leF, eqF, lt0F, le0T, eq0F, lt0T, le0F, nle1T, nle1F, n1leT, n1leF, nlt1T, nlt1F, n1ltT, n1ltF, neq1F, neq1T, neq0T, nle0T, n0ltF, n_add, n_succ, n_sub, n_sub1, n_mul, cl_n, cl_0, one0, zer1, neg0F, ↓reduceIte, isO, hPut, hGet, hLen, rmK, Nat.reduceLT, an_1, au_1, s_an, sne, sne', dne, eq_self, Nat.add_assoc, dft0, dft1, dft2, dft3, dft4, dft5, dft6, dft7, dft8, dft9, dft10, dft11, dft12, clc2, clc4, clc5, ↓kont_go 200]
set_option maxRecDepth 100000 in
set_option maxHeartbeats 400000 in
theorem i_Net (ha : a = h.1) (hz : h.1 + 12 < 700000) : aCall (d + 2) 37 [.ref a] (an h 4 (cO 5 [.null, .null, .null, .int 0])) = some (none, an (an (an (an h 4 (cO 5 [.ref (h.1 + 1), .ref (h.1 + 2), .ref (h.1 + 3), .int 0])) 128 (cJ 128 (fun _ => 0))) 128 (cJ 128 (fun _ => 0))) 2 (cO 2 [.long 0, .long 0])) := by
  subst ha
  rw [aCall_go 200, x37]
  simp (maxSteps := 4000000) (disch := first | omega | ((with_reducible (apply in_n)) <;> omega) | (simp only [an_1, au_1, Nat.add_assoc, Nat.reduceAdd]; first | done | omega) | (simp (disch := omega) only [e_agn, e_ag, an_1, au_1, Nat.add_assoc, Nat.reduceAdd, sne, sne', dne, ↓reduceIte, eq_self, Nat.reduceEqDiff]; done)) only [lg_cmp_ge, lg_cmp_le, lg_cmp_gt, lg_cmp_lt, lg_cmp_eq, ↓ob, ↓pI, ↓pJ, ↓pR, ↓pV, ↓gO, ↓gI, ↓gJ, ↓gR, ↓gL, ↓gT, ↓lI, ↓lJ, ↓lR, psh, isRf, layA, padL, trimO, trimB, ld, ss1, ss2, killL, cmpB, popN, isR, putOk, e_ag, e_agn, List.set_cons_zero, List.set_cons_succ, List.getElem?_cons_zero, List.getElem?_cons_succ, List.length_cons, List.length_nil, Value.category, decide_eq_true_eq, reduceIte, Nat.reduceAdd, Nat.reduceEqDiff, Nat.reduceLeDiff, reduceCtorEq, and_self, and_true, true_and, not_true_eq_false, not_false_eq_true, or_false, false_or, or_true, true_or, beq_self_eq_true, Nat.reduceBEq, Bool.false_eq_true, false_implies, forall_const, ↓s37_0, ↓s37_1, ↓s37_4, ↓s37_5, ↓s37_8, ↓s37_10, ↓s37_13, ↓s37_14, ↓s37_17, ↓s37_19, ↓s37_22, ↓s37_23, ↓s37_26, ↓s37_27, ↓s37_30, ↓s37_33, ↓s37_34, ↓s37_35, ↓s37_38, x13, nlit128, ltT, ltF, leT, leF, eqF, lt0F, le0T, eq0F, lt0T, le0F, nle1T, nle1F, n1leT, n1leF, nlt1T, nlt1F, n1ltT, n1ltF, neq1F, neq1T, neq0T, nle0T, n0ltF, n_add, n_succ, n_sub, n_sub1, n_mul, cl_n, cl_0, one0, zer1, neg0F, ↓reduceIte, isO, hPut, hGet, hLen, rmK, Nat.reduceLT, an_1, au_1, s_an, sne, sne', dne, eq_self, Nat.add_assoc, dft0, dft1, dft2, dft3, dft4, dft5, dft6, dft7, dft8, dft9, dft10, dft11, dft12, clc2, clc4, clc5, i_Cells, ↓kont_go 200]
set_option maxRecDepth 100000 in
set_option maxHeartbeats 400000 in
theorem i_Steering (ha : a = h.1) (hz : h.1 + 20 < 700000) : aCall (d + 2) 106 [.ref a] (an h 6 (cO 9 [.null, .int 0, .int 0, .null, .null, .null])) = some (none, an (an (an (an (an h 6 (cO 9 [.ref (h.1 + 1), .int 1, .int 0, .ref (h.1 + 2), .ref (h.1 + 3), .ref (h.1 + 4)])) 4 (cI 4 (fun _ => 0))) 128 (cI 128 (fun _ => 0))) 128 (cI 128 (fun _ => 0))) 2 (cO 2 [.long 0, .long 0])) := by
  subst ha
  rw [aCall_go 200, x106]
  simp (maxSteps := 4000000) (disch := first | omega | ((with_reducible (apply in_n)) <;> omega) | (simp only [an_1, au_1, Nat.add_assoc, Nat.reduceAdd]; first | done | omega) | (simp (disch := omega) only [e_agn, e_ag, an_1, au_1, Nat.add_assoc, Nat.reduceAdd, sne, sne', dne, ↓reduceIte, eq_self, Nat.reduceEqDiff]; done)) only [lg_cmp_ge, lg_cmp_le, lg_cmp_gt, lg_cmp_lt, lg_cmp_eq, ↓ob, ↓pI, ↓pJ, ↓pR, ↓pV, ↓gO, ↓gI, ↓gJ, ↓gR, ↓gL, ↓gT, ↓lI, ↓lJ, ↓lR, psh, isRf, layA, padL, trimO, trimB, ld, ss1, ss2, killL, cmpB, popN, isR, putOk, e_ag, e_agn, List.set_cons_zero, List.set_cons_succ, List.getElem?_cons_zero, List.getElem?_cons_succ, List.length_cons, List.length_nil, Value.category, decide_eq_true_eq, reduceIte, Nat.reduceAdd, Nat.reduceEqDiff, Nat.reduceLeDiff, reduceCtorEq, and_self, and_true, true_and, not_true_eq_false, not_false_eq_true, or_false, false_or, or_true, true_or, beq_self_eq_true, Nat.reduceBEq, Bool.false_eq_true, false_implies, forall_const, ↓s106_0, ↓s106_1, ↓s106_4, ↓s106_5, ↓s106_6, ↓s106_8, ↓s106_11, ↓s106_12, ↓s106_13, ↓s106_16, ↓s106_17, ↓s106_18, ↓s106_21, ↓s106_22, ↓s106_25, ↓s106_27, ↓s106_30, ↓s106_31, ↓s106_34, ↓s106_36, ↓s106_39, ↓s106_40, ↓s106_43, ↓s106_44, ↓s106_47, ↓s106_50, x13, nlit4, nlit128, ltT, ltF, leT, leF, eqF, lt0F, le0T, eq0F, lt0T, le0F, nle1T, nle1F, n1leT, n1leF, nlt1T, nlt1F, n1ltT, n1ltF, neq1F, neq1T, neq0T, nle0T, n0ltF, n_add, n_succ, n_sub, n_sub1, n_mul, cl_n, cl_0, one0, zer1, neg0F, ↓reduceIte, isO, hPut, hGet, hLen, rmK, Nat.reduceLT, an_1, au_1, s_an, sne, sne', dne, eq_self, Nat.add_assoc, dft0, dft1, dft2, dft3, dft4, dft5, dft6, dft7, dft8, dft9, dft10, dft11, dft12, clc2, clc4, clc5, i_Cells, ↓kont_go 200]
set_option maxRecDepth 100000 in
set_option maxHeartbeats 400000 in
theorem i_Grid (ha : a = h.1) (hz : h.1 + 20 < 700000) : aCall (d + 2) 23 [.ref a] (an h 9 (cO 3 [.int 0, .null, .null, .null, .int 0, .long 0, .long 0, .long 0, .long 0])) = some (none, an (an (an (an h 9 (cO 3 [.int 0, .ref (h.1 + 1), .ref (h.1 + 2), .ref (h.1 + 3), .int 0, .long 0, .long 0, .long 0, .long 0])) 3 (cO 0 [.long 0, .long (J 1024), .int 1])) 3 (cO 0 [.long 0, .long 0, .int 1])) 128 (cI 128 (fun _ => 0))) := by
  subst ha
  rw [aCall_go 200, x23]
  simp (maxSteps := 4000000) (disch := first | omega | ((with_reducible (apply in_n)) <;> omega) | (simp only [an_1, au_1, Nat.add_assoc, Nat.reduceAdd]; first | done | omega) | (simp (disch := omega) only [e_agn, e_ag, an_1, au_1, Nat.add_assoc, Nat.reduceAdd, sne, sne', dne, ↓reduceIte, eq_self, Nat.reduceEqDiff]; done)) only [lg_cmp_ge, lg_cmp_le, lg_cmp_gt, lg_cmp_lt, lg_cmp_eq, ↓ob, ↓pI, ↓pJ, ↓pR, ↓pV, ↓gO, ↓gI, ↓gJ, ↓gR, ↓gL, ↓gT, ↓lI, ↓lJ, ↓lR, psh, isRf, layA, padL, trimO, trimB, ld, ss1, ss2, killL, cmpB, popN, isR, putOk, e_ag, e_agn, List.set_cons_zero, List.set_cons_succ, List.getElem?_cons_zero, List.getElem?_cons_succ, List.length_cons, List.length_nil, Value.category, decide_eq_true_eq, reduceIte, Nat.reduceAdd, Nat.reduceEqDiff, Nat.reduceLeDiff, reduceCtorEq, and_self, and_true, true_and, not_true_eq_false, not_false_eq_true, or_false, false_or, or_true, true_or, beq_self_eq_true, Nat.reduceBEq, Bool.false_eq_true, false_implies, forall_const, ↓s23_0, ↓s23_1, ↓s23_4, ↓s23_5, ↓s23_6, ↓s23_9, ↓s23_10, ↓s23_13, ↓s23_14, ↓s23_17, ↓s23_20, ↓s23_21, ↓s23_24, ↓s23_25, ↓s23_28, ↓s23_31, ↓s23_32, ↓s23_35, ↓s23_37, ↓s23_40, ↓s23_41, ↓s23_42, ↓s23_45, ↓s23_46, ↓s23_47, ↓s23_50, ↓s23_51, ↓s23_52, ↓s23_55, ↓s23_56, ↓s23_57, ↓s23_60, ↓s23_61, ↓s23_62, ↓s23_65, ↓s23_66, ↓s23_69, ↓s23_70, ↓s23_73, ↓s23_74, ↓s23_77, x0, x1, nlit128, nlit1024, ltT, ltF, leT, leF, eqF, lt0F, le0T, eq0F, lt0T, le0F, nle1T, nle1F, n1leT, n1leF, nlt1T, nlt1F, n1ltT, n1ltF, neq1F, neq1T, neq0T, nle0T, n0ltF, n_add, n_succ, n_sub, n_sub1, n_mul, cl_n, cl_0, one0, zer1, neg0F, ↓reduceIte, isO, hPut, hGet, hLen, rmK, Nat.reduceLT, an_1, au_1, s_an, sne, sne', dne, eq_self, Nat.add_assoc, dft0, dft1, dft2, dft3, dft4, dft5, dft6, dft7, dft8, dft9, dft10, dft11, dft12, clc2, clc4, clc5, i_Axis, i_lay, ↓kont_go 200]
set_option maxRecDepth 100000 in
set_option maxHeartbeats 400000 in
theorem i_Ways (ha : a = h.1) (hz : h.1 + 60 < 700000) : aCall (d + 3) 112 [.ref a] (an h 8 (cO 10 [.null, .null, .null, .int 0, .int 0, .null, .null, .null])) = some (none, an (an (an (an (an (an (an (an (an (an (an (an (an (an (an (an (an (an (an h 8 (cO 10 [.ref (h.1 + 1), .ref (h.1 + 5), .ref (h.1 + 6), .int 0, .int 0, .ref (h.1 + 7), .ref (h.1 + 11), .ref (h.1 + 15)])) 4 (cO 5 [.ref (h.1 + 2), .ref (h.1 + 3), .ref (h.1 + 4), .int 0])) 128 (cJ 128 (fun _ => 0))) 128 (cJ 128 (fun _ => 0))) 2 (cO 2 [.long 0, .long 0])) 128 (cI 128 (fun _ => 0))) 128 (cI 128 (fun _ => 0))) 4 (cO 5 [.ref (h.1 + 8), .ref (h.1 + 9), .ref (h.1 + 10), .int 0])) 128 (cJ 128 (fun _ => 0))) 128 (cJ 128 (fun _ => 0))) 2 (cO 2 [.long 0, .long 0])) 4 (cO 5 [.ref (h.1 + 12), .ref (h.1 + 13), .ref (h.1 + 14), .int 0])) 128 (cJ 128 (fun _ => 0))) 128 (cJ 128 (fun _ => 0))) 2 (cO 2 [.long 0, .long 0])) 4 (cO 5 [.ref (h.1 + 16), .ref (h.1 + 17), .ref (h.1 + 18), .int 0])) 128 (cJ 128 (fun _ => 0))) 128 (cJ 128 (fun _ => 0))) 2 (cO 2 [.long 0, .long 0])) := by
  subst ha
  rw [aCall_go 200, x112]
  simp (maxSteps := 4000000) (disch := first | omega | ((with_reducible (apply in_n)) <;> omega) | (simp only [an_1, au_1, Nat.add_assoc, Nat.reduceAdd]; first | done | omega) | (simp (disch := omega) only [e_agn, e_ag, an_1, au_1, Nat.add_assoc, Nat.reduceAdd, sne, sne', dne, ↓reduceIte, eq_self, Nat.reduceEqDiff]; done)) only [lg_cmp_ge, lg_cmp_le, lg_cmp_gt, lg_cmp_lt, lg_cmp_eq, ↓ob, ↓pI, ↓pJ, ↓pR, ↓pV, ↓gO, ↓gI, ↓gJ, ↓gR, ↓gL, ↓gT, ↓lI, ↓lJ, ↓lR, psh, isRf, layA, padL, trimO, trimB, ld, ss1, ss2, killL, cmpB, popN, isR, putOk, e_ag, e_agn, List.set_cons_zero, List.set_cons_succ, List.getElem?_cons_zero, List.getElem?_cons_succ, List.length_cons, List.length_nil, Value.category, decide_eq_true_eq, reduceIte, Nat.reduceAdd, Nat.reduceEqDiff, Nat.reduceLeDiff, reduceCtorEq, and_self, and_true, true_and, not_true_eq_false, not_false_eq_true, or_false, false_or, or_true, true_or, beq_self_eq_true, Nat.reduceBEq, Bool.false_eq_true, false_implies, forall_const, ↓s112_0, ↓s112_1, ↓s112_4, ↓s112_5, ↓s112_8, ↓s112_9, ↓s112_12, ↓s112_15, ↓s112_16, ↓s112_19, ↓s112_21, ↓s112_24, ↓s112_25, ↓s112_28, ↓s112_30, ↓s112_33, ↓s112_34, ↓s112_35, ↓s112_38, ↓s112_39, ↓s112_40, ↓s112_43, ↓s112_44, ↓s112_47, ↓s112_48, ↓s112_51, ↓s112_54, ↓s112_55, ↓s112_58, ↓s112_59, ↓s112_62, ↓s112_65, ↓s112_66, ↓s112_69, ↓s112_70, ↓s112_73, ↓s112_76, x37, nlit128, ltT, ltF, leT, leF, eqF, lt0F, le0T, eq0F, lt0T, le0F, nle1T, nle1F, n1leT, n1leF, nlt1T, nlt1F, n1ltT, n1ltF, neq1F, neq1T, neq0T, nle0T, n0ltF, n_add, n_succ, n_sub, n_sub1, n_mul, cl_n, cl_0, one0, zer1, neg0F, ↓reduceIte, isO, hPut, hGet, hLen, rmK, Nat.reduceLT, an_1, au_1, s_an, sne, sne', dne, eq_self, Nat.add_assoc, dft0, dft1, dft2, dft3, dft4, dft5, dft6, dft7, dft8, dft9, dft10, dft11, dft12, clc2, clc4, clc5, i_Net, ↓kont_go 200]
end CTOR
