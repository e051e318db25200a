/-! THE RECKONER: numbers -/
def cutI (z : Int) : Int := if z > 2147483647 then 2147483647 else if z < -2147483647 then -2147483647 else z
theorem cutI_b (z : Int) : -2147483647 ≤ cutI z ∧ cutI z ≤ 2147483647 := by
  unfold cutI
  split
  · omega
  · split <;> omega
theorem cutI_id {z : Int} (h : -2147483647 ≤ z ∧ z ≤ 2147483647) : cutI z = z := by
  unfold cutI
  rw [if_neg (by omega), if_neg (by omega)]
def bB (z : Int) : Prop := -2147483647 ≤ z ∧ z ≤ 2147483647
theorem bB.r {z : Int} (h : bB z) : r64 z := ⟨by have := h.1; omega, by have := h.2; omega⟩
theorem mulB {a b : Int} (ha : bB a) (hb : bB b) : -4611686014132420609 ≤ a * b ∧ a * b ≤ 4611686014132420609 := by
  have h1 := ha.1
  have h2 := ha.2
  have h3 := hb.1
  have h4 := hb.2
  have e1 : (a * b).natAbs ≤ 2147483647 * 2147483647 := by
    rw [Int.natAbs_mul]
    exact Nat.mul_le_mul (by omega) (by omega)
  omega
theorem mulR {a b : Int} (ha : bB a) (hb : bB b) : r64 (a * b) := by
  have := mulB ha hb
  exact ⟨by omega, by omega⟩
def mn4 (a b c d : Int) : Int := min (min (a * c) (a * d)) (min (b * c) (b * d))
def mx4 (a b c d : Int) : Int := max (max (a * c) (a * d)) (max (b * c) (b * d))
def plo (a b c d : Int) : Int := cutI (mn4 a b c d / 1024)
def phi (a b c d : Int) : Int := cutI (-(-(mx4 a b c d) / 1024))
theorem mn4_b {a b c d : Int} (ha : bB a) (hb : bB b) (hc : bB c) (hd : bB d) : -4611686014132420609 ≤ mn4 a b c d ∧ mn4 a b c d ≤ 4611686014132420609 := by
  have h1 := mulB ha hc
  have h2 := mulB ha hd
  have h3 := mulB hb hc
  have h4 := mulB hb hd
  unfold mn4
  omega
theorem mx4_b {a b c d : Int} (ha : bB a) (hb : bB b) (hc : bB c) (hd : bB d) : -4611686014132420609 ≤ mx4 a b c d ∧ mx4 a b c d ≤ 4611686014132420609 := by
  have h1 := mulB ha hc
  have h2 := mulB ha hd
  have h3 := mulB hb hc
  have h4 := mulB hb hd
  unfold mx4
  omega
section RECK
variable {k : Nat} {h : AH}
set_option maxRecDepth 100000 in
theorem c_bound {z : Int} (hz : r64 z) : aCall (k + 1) 169 [.long (J z)] h = some (some (.long (J (cutI z))), h) := by
  rw [aCall_go 60, x169]
  simp only [lg_cmp_ge, lg_cmp_le, lg_cmp_gt, lg_cmp_lt, lg_cmp_eq, ↓ob, ↓pI, ↓pJ, ↓pR, ↓pV, ↓gO, ↓gI, ↓gJ, ↓gR, ↓gL, ↓gT, ↓lI, ↓lJ, ↓lR, psh, isRf, layA, padL, trimO, trimB, ld, ss1, ss2, killL, cmpB, popN, isO, isR, putOk, e_ag, e_agn, List.set_cons_zero, List.set_cons_succ, List.getElem?_cons_zero, List.getElem?_cons_succ, List.length_cons, List.length_nil, Value.category, decide_eq_true_eq, reduceIte, Nat.reduceAdd, Nat.reduceEqDiff, Nat.reduceLeDiff, reduceCtorEq, and_self, and_true, true_and, not_true_eq_false, not_false_eq_true, or_false, false_or, or_true, true_or, beq_self_eq_true, Nat.reduceBEq, Bool.false_eq_true, false_implies, forall_const, ↓s169_0, ↓s169_1, ↓s169_4, ↓s169_5, ↓s169_8, ↓s169_11, ↓s169_14, ↓s169_15, ↓s169_18, ↓s169_19, ↓s169_22, ↓s169_25, ↓s169_28, ↓s169_29]
  have h1 : r64 2147483647 := ⟨by decide, by decide⟩
  have h2 : r64 (-2147483647) := ⟨by decide, by decide⟩
  rw [show (2147483647 : Int64) = J 2147483647 from rfl, show - J 2147483647 = J (-2147483647) from rfl]
  unfold cutI
  by_cases c1 : z ≤ 2147483647
  · rw [if_pos ((J_le hz h1).mpr c1), if_neg (show ¬ z > 2147483647 by omega)]
    by_cases c2 : -2147483647 ≤ z
    · rw [if_pos ((J_le h2 hz).mpr c2), if_neg (show ¬ z < -2147483647 by omega)]
    · rw [if_neg (fun q => c2 ((J_le h2 hz).mp q)), if_pos (by omega)]
  · rw [if_neg (fun q => c1 ((J_le hz h1).mp q)), if_pos (by omega)]
set_option maxRecDepth 100000 in
theorem c_plo {a b c d : Int} (ha : bB a) (hb : bB b) (hc : bB c) (hd : bB d) : aCall (k + 2) 96 [.long (J a), .long (J b), .long (J c), .long (J d)] h = some (some (.long (J (plo a b c d))), h) := by
  rw [aCall_go 60, x96]
  have q1 := mulR ha hc
  have q2 := mulR ha hd
  have q3 := mulR hb hc
  have q4 := mulR hb hd
  have q5 : r64 (min (a * c) (a * d)) := by unfold r64 at *; omega
  have q6 : r64 (min (b * c) (b * d)) := by unfold r64 at *; omega
  have q7 := mn4_b ha hb hc hd
  have q8 : r64 (mn4 a b c d) := ⟨by omega, by omega⟩
  have q9 : r64 (mn4 a b c d / 1024) := ⟨by omega, by omega⟩
  have e0 : min (min (a * c) (a * d)) (min (b * c) (b * d)) = mn4 a b c d := rfl
  have e1 : aCall (k + 1) 293 [.long (J (mn4 a b c d)), .long 1024] h = some (some (.long (J (mn4 a b c d / 1024))), h) := c_floorDiv k q8 (b := 1024) (by decide) ⟨by decide, by decide⟩ h
  simp only [lg_cmp_ge, lg_cmp_le, lg_cmp_gt, lg_cmp_lt, lg_cmp_eq, ↓ob, ↓pI, ↓pJ, ↓pR, ↓pV, ↓gO, ↓gI, ↓gJ, ↓gR, ↓gL, ↓gT, ↓lI, ↓lJ, ↓lR, psh, isRf, layA, padL, trimO, trimB, ld, ss1, ss2, killL, cmpB, popN, isO, isR, putOk, e_ag, e_agn, List.set_cons_zero, List.set_cons_succ, List.getElem?_cons_zero, List.getElem?_cons_succ, List.length_cons, List.length_nil, Value.category, decide_eq_true_eq, reduceIte, Nat.reduceAdd, Nat.reduceEqDiff, Nat.reduceLeDiff, reduceCtorEq, and_self, and_true, true_and, not_true_eq_false, not_false_eq_true, or_false, false_or, or_true, true_or, beq_self_eq_true, Nat.reduceBEq, Bool.false_eq_true, false_implies, forall_const, ↓s96_0, ↓s96_1, ↓s96_3, ↓s96_4, ↓s96_5, ↓s96_7, ↓s96_8, ↓s96_11, ↓s96_12, ↓s96_14, ↓s96_15, ↓s96_16, ↓s96_18, ↓s96_19, ↓s96_22, ↓s96_25, ↓s96_27, ↓s96_29, ↓s96_32, ↓s96_35, ↓s96_38, x169, x293, x298, J_mul, c_minJ _ q1 q2, c_minJ _ q3 q4, c_minJ _ q5 q6, ↓kont_go 60, e0, e1, c_bound q9, plo]
set_option maxRecDepth 100000 in
theorem c_phi {a b c d : Int} (ha : bB a) (hb : bB b) (hc : bB c) (hd : bB d) : aCall (k + 2) 97 [.long (J a), .long (J b), .long (J c), .long (J d)] h = some (some (.long (J (phi a b c d))), h) := by
  rw [aCall_go 60, x97]
  have q1 := mulR ha hc
  have q2 := mulR ha hd
  have q3 := mulR hb hc
  have q4 := mulR hb hd
  have q5 : r64 (max (a * c) (a * d)) := by unfold r64 at *; omega
  have q6 : r64 (max (b * c) (b * d)) := by unfold r64 at *; omega
  have q7 := mx4_b ha hb hc hd
  have q8 : r64 (-(mx4 a b c d)) := ⟨by omega, by omega⟩
  have q9 : r64 (-(-(mx4 a b c d) / 1024)) := ⟨by omega, by omega⟩
  have e0 : max (max (a * c) (a * d)) (max (b * c) (b * d)) = mx4 a b c d := rfl
  have e1 : aCall (k + 1) 293 [.long (J (-(mx4 a b c d))), .long 1024] h = some (some (.long (J (-(mx4 a b c d) / 1024))), h) := c_floorDiv k q8 (b := 1024) (by decide) ⟨by decide, by decide⟩ h
  simp only [lg_cmp_ge, lg_cmp_le, lg_cmp_gt, lg_cmp_lt, lg_cmp_eq, ↓ob, ↓pI, ↓pJ, ↓pR, ↓pV, ↓gO, ↓gI, ↓gJ, ↓gR, ↓gL, ↓gT, ↓lI, ↓lJ, ↓lR, psh, isRf, layA, padL, trimO, trimB, ld, ss1, ss2, killL, cmpB, popN, isO, isR, putOk, e_ag, e_agn, List.set_cons_zero, List.set_cons_succ, List.getElem?_cons_zero, List.getElem?_cons_succ, List.length_cons, List.length_nil, Value.category, decide_eq_true_eq, reduceIte, Nat.reduceAdd, Nat.reduceEqDiff, Nat.reduceLeDiff, reduceCtorEq, and_self, and_true, true_and, not_true_eq_false, not_false_eq_true, or_false, false_or, or_true, true_or, beq_self_eq_true, Nat.reduceBEq, Bool.false_eq_true, false_implies, forall_const, ↓s97_0, ↓s97_1, ↓s97_3, ↓s97_4, ↓s97_5, ↓s97_7, ↓s97_8, ↓s97_11, ↓s97_12, ↓s97_14, ↓s97_15, ↓s97_16, ↓s97_18, ↓s97_19, ↓s97_22, ↓s97_25, ↓s97_27, ↓s97_29, ↓s97_30, ↓s97_33, ↓s97_36, ↓s97_37, ↓s97_40, x169, x293, x296, J_mul, J_neg, c_maxJ _ q1 q2, c_maxJ _ q3 q4, c_maxJ _ q5 q6, ↓kont_go 60, e0, e1, c_bound q9, phi]
/-- one value on the pile -/
abbrev VV : Type := Int × Int × Int × Int × Bool
def VVB (v : VV) : Prop := bB v.1 ∧ bB v.2.1 ∧ bB v.2.2.1 ∧ bB v.2.2.2.1
/-- the pile, from its ground; sloping: the slopes too -/
def Pile (h : AH) (g : Bool) (st : List VV) : Prop := gi h 6 4 = nI st.length ∧ gi h 6 5 = bi g ∧ st.length ≤ 61 ∧ ∀ (i : Nat) (v : VV), st[i]? = some v → VVB v ∧ aj h 9 i = J v.1 ∧ aj h 10 i = J v.2.1 ∧ (g = true → aj h 11 i = J v.2.2.1 ∧ aj h 12 i = J v.2.2.2.1 ∧ ai h 13 i = bi v.2.2.2.2)
/-- what the pile's workers may write -/
def RKL : List Nat := [6, 9, 10, 11, 12, 13]
/-- of the Reckoner's own fields they leave all but top -/
def RKf (h h' : AH) : Prop := ∀ b, b ≠ 4 → gi h' 6 b = gi h 6 b ∧ gj h' 6 b = gj h 6 b
theorem Fr.swi {L : List Nat} {h h1 : AH} {r b : Nat} {x : Int32} (f : Fr L h h1) (hr : r ∈ L) : Fr L h (wi h1 r b x) := f.trans ((Fr_wi f.1).mono (fun y hy => by rw [List.mem_singleton.mp hy]; exact hr))
theorem Fr.swj {L : List Nat} {h h1 : AH} {r b : Nat} {x : Int64} (f : Fr L h h1) (hr : r ∈ L) : Fr L h (wj h1 r b x) := f.trans ((Fr_wj f.1).mono (fun y hy => by rw [List.mem_singleton.mp hy]; exact hr))
theorem Fr.swAI {L : List Nat} {h h1 : AH} {r : Nat} {x : Nat → Int32} (f : Fr L h h1) (hr : r ∈ L) : Fr L h (wAI h1 r x) := f.trans ((Fr_wAI f.1).mono (fun y hy => by rw [List.mem_singleton.mp hy]; exact hr))
theorem Fr.swAJ {L : List Nat} {h h1 : AH} {r : Nat} {x : Nat → Int64} (f : Fr L h h1) (hr : r ∈ L) : Fr L h (wAJ h1 r x) := f.trans ((Fr_wAJ f.1).mono (fun y hy => by rw [List.mem_singleton.mp hy]; exact hr))
theorem Pile.put {h h' : AH} {g : Bool} {s0 t : List VV} (P : Pile h g (s0 ++ t)) (v : VV) (hv : VVB v) (hl : s0.length < 61) (e4 : gi h' 6 4 = nI (s0.length + 1)) (e5 : gi h' 6 5 = gi h 6 5)
    (e9 : ∀ i, i ≤ s0.length → aj h' 9 i = if i = s0.length then J v.1 else aj h 9 i) (e10 : ∀ i, i ≤ s0.length → aj h' 10 i = if i = s0.length then J v.2.1 else aj h 10 i)
    (es : g = true → ∀ i, i ≤ s0.length → aj h' 11 i = (if i = s0.length then J v.2.2.1 else aj h 11 i) ∧ aj h' 12 i = (if i = s0.length then J v.2.2.2.1 else aj h 12 i) ∧ ai h' 13 i = if i = s0.length then bi v.2.2.2.2 else ai h 13 i) : Pile h' g (s0 ++ [v]) := by
  refine ⟨?_, e5.trans P.2.1, ?_, fun i w hw => ?_⟩
  · rw [e4, List.length_append]; rfl
  · rw [List.length_append]; simp; omega
  · by_cases hi : i = s0.length
    · subst hi
      simp at hw
      subst hw
      refine ⟨hv, ?_, ?_, fun q => ?_⟩
      · rw [e9 _ (Nat.le_refl _), if_pos rfl]
      · rw [e10 _ (Nat.le_refl _), if_pos rfl]
      · obtain ⟨a, b, c⟩ := es q _ (Nat.le_refl _)
        rw [if_pos rfl] at a b c
        exact ⟨a, b, c⟩
    · have hlt : i < s0.length := by
        have := (List.getElem?_eq_some_iff.mp hw).1
        simp at this
        omega
      rw [List.getElem?_append_left hlt] at hw
      have hw2 : (s0 ++ t)[i]? = some w := by rw [List.getElem?_append_left hlt]; exact hw
      obtain ⟨p1, p2, p3, p4⟩ := P.2.2.2 i w hw2
      refine ⟨p1, ?_, ?_, fun q => ?_⟩
      · rw [e9 _ (by omega), if_neg hi]; exact p2
      · rw [e10 _ (by omega), if_neg hi]; exact p3
      · obtain ⟨a, b, c⟩ := es q i (by omega)
        rw [if_neg hi] at a b c
        obtain ⟨x1, x2, x3⟩ := p4 q
        exact ⟨a.trans x1, b.trans x2, c.trans x3⟩
theorem nar0 : vp_nar FieldType.boolean 0 = 0 := rfl
theorem nar1 : vp_nar FieldType.boolean 1 = 1 := rfl
theorem narb (b : Bool) : vp_nar FieldType.boolean (bi b) = bi b := by cases b <;> rfl
theorem bi0 : bi false = 0 := rfl
theorem bi1 : bi true = 1 := rfl
theorem one0 : ((1 : Int32) = 0) = False := by simp
theorem n_pred (i : Nat) : nI (i + 1) - 1 = nI i := by
  rw [← n_succ]
  exact Int32.add_sub_cancel _ _
theorem n_pred2 (i : Nat) : nI (i + 2) - 2 = nI i := by
  rw [show nI (i + 2) = nI i + 2 from (n_add i 2).symm]
  exact Int32.add_sub_cancel _ _
theorem z0J : (0 : Int64) = J 0 := rfl
theorem in61 {i : Nat} (h : i < 61) : vp_in (nI i) 61 := by
  rw [vp_in_iff, ← I_nI, I_toInt ⟨by omega, by omega⟩]
  omega
theorem ls1 {i : Nat} (h : i < 1000) : (nI i < 1) = (i = 0) := by
  rw [show (1 : Int32) = nI 1 from rfl, n_lt (by omega) (by decide)]
  exact propext ⟨fun q => by omega, fun q => by omega⟩
set_option maxRecDepth 100000 in
theorem c_load (hS : SH h) {g : Bool} {st : List VV} (P : Pile h g st) (hl : st.length < 61) {a b s : Int} (ha : bB a) (hb : bB b) (hs : bB s) : ∃ h', aCall (k + 1) 88 [.ref 6, .long (J a), .long (J b), .long (J s)] h = some (none, h') ∧ Fr RKL h h' ∧ RKf h h' ∧ Pile h' g (st ++ [(a, b, s, s, false)]) := by
  rw [aCall_go 60, x88]
  have hin := in61 hl
  have hc : cl (nI st.length) = st.length := cl_n (by omega)
  have hlt : nI st.length < 61 := (n_lt (b := 61) (by omega) (by decide)).mpr hl
  have P0 : Pile h g (st ++ []) := by rw [List.append_nil]; exact P
  cases g
  · simp (maxDischargeDepth := 60) only [lg_cmp_ge, lg_cmp_le, lg_cmp_gt, lg_cmp_lt, lg_cmp_eq, ↓ob, ↓pI, ↓pJ, ↓pR, ↓pV, ↓gO, ↓gI, ↓gJ, ↓gR, ↓gL, ↓gT, ↓lI, ↓lJ, ↓lR, psh, isRf, layA, padL, trimO, trimB, ld, ss1, ss2, killL, cmpB, popN, isO, isR, putOk, e_ag, e_agn, List.set_cons_zero, List.set_cons_succ, List.getElem?_cons_zero, List.getElem?_cons_succ, List.length_cons, List.length_nil, Value.category, decide_eq_true_eq, reduceIte, Nat.reduceAdd, Nat.reduceEqDiff, Nat.reduceLeDiff, reduceCtorEq, and_self, and_true, true_and, not_true_eq_false, not_false_eq_true, or_false, false_or, or_true, true_or, beq_self_eq_true, Nat.reduceBEq, Bool.false_eq_true, false_implies, forall_const, ↓s88_0, ↓s88_1, ↓s88_4, ↓s88_6, ↓s88_9, ↓s88_10, ↓s88_11, ↓s88_14, ↓s88_15, ↓s88_18, ↓s88_19, ↓s88_20, ↓s88_21, ↓s88_24, ↓s88_25, ↓s88_28, ↓s88_29, ↓s88_30, ↓s88_31, ↓s88_34, ↓s88_37, ↓s88_38, ↓s88_41, ↓s88_42, ↓s88_45, ↓s88_47, ↓s88_48, ↓s88_49, ↓s88_52, ↓s88_53, ↓s88_56, ↓s88_58, ↓s88_59, ↓s88_60, ↓s88_63, ↓s88_64, ↓s88_67, ↓s88_68, ↓s88_69, ↓s88_70, ↓s88_71, ↓s88_74, ↓s88_75, ↓s88_76, ↓s88_79, gi_wAI, gi_wAJ, gi_wj, gi_wr, gj_wi, gj_wr, gj_wAI, gj_wAJ, gr_wi, gr_wj, gr_wAI, gr_wAJ, ai_wi, ai_wj, ai_wr, ai_wAJ, aj_wi, aj_wj, aj_wr, aj_wAI, ar_wi, ar_wj, ar_wr, ar_wAI, ar_wAJ, gi_wi_n, gj_wj_n, gr_wr_n, ai_wAI_n, aj_wAJ_n, SH_wi, SH_wj, SH_wAI, SH_wAJ, bi_01, and_false, false_and, ne_eq, true_and, and_true, not_true_eq_false, not_false_eq_true, Nat.reduceEqDiff, reduceCtorEq, or_true, true_or, ↓O6, ↓G6_0, ↓G6_1, ↓G6_2, ↓G6_3, ↓G6_4, g6_4, ↓U6_4, ↓G6_5, g6_5, ↓U6_5, ↓G6_6, ↓G6_7, ↓G6_8, ↓G6_9, ↓G6_10, g6_10, ↓U6_10, ↓G6_11, g6_11, ↓U6_11, ↓G6_12, g6_12, ↓U6_12, ↓G6_13, g6_13, ↓U6_13, ↓G6_14, g6_14, ↓U6_14, ↓G6_15, g6_15, ↓U6_15, ↓G6_16, g6_16, ↓U6_16, ↓G6_17, g6_17, ↓U6_17, ↓E9, a9, ↓I9, ↓W9, ↓E10, a10, ↓I10, ↓W10, ↓E11, a11, ↓I11, ↓W11, ↓E12, a12, ↓I12, ↓W12, ↓E13, a13, ↓I13, ↓W13, hS, P.1, P.2.1, hin, hlt, bi0]
    refine ⟨_, rfl, (by repeat' first | exact Fr.rf hS _ | exact (by decide) | apply Fr.swi | apply Fr.swj | apply Fr.swAI | apply Fr.swAJ), fun b hb9 => ⟨by simp (maxDischargeDepth := 60) only [gi_wAI, gi_wAJ, gi_wj, gi_wr, gj_wi, gj_wr, gj_wAI, gj_wAJ, gr_wi, gr_wj, gr_wAI, gr_wAJ, ai_wi, ai_wj, ai_wr, ai_wAJ, aj_wi, aj_wj, aj_wr, aj_wAI, ar_wi, ar_wj, ar_wr, ar_wAI, ar_wAJ, gi_wi_n, gj_wj_n, gr_wr_n, ai_wAI_n, aj_wAJ_n, SH_wi, SH_wj, SH_wAI, SH_wAJ, bi_01, and_false, false_and, ne_eq, true_and, and_true, not_true_eq_false, not_false_eq_true, Nat.reduceEqDiff, reduceCtorEq, or_true, true_or, hS, hb9], by simp (maxDischargeDepth := 60) only [gi_wAI, gi_wAJ, gi_wj, gi_wr, gj_wi, gj_wr, gj_wAI, gj_wAJ, gr_wi, gr_wj, gr_wAI, gr_wAJ, ai_wi, ai_wj, ai_wr, ai_wAJ, aj_wi, aj_wj, aj_wr, aj_wAI, ar_wi, ar_wj, ar_wr, ar_wAI, ar_wAJ, gi_wi_n, gj_wj_n, gr_wr_n, ai_wAI_n, aj_wAJ_n, SH_wi, SH_wj, SH_wAI, SH_wAJ, bi_01, and_false, false_and, ne_eq, true_and, and_true, not_true_eq_false, not_false_eq_true, Nat.reduceEqDiff, reduceCtorEq, or_true, true_or, hS]⟩, P0.put _ ⟨ha, hb, hs, hs⟩ hl ?_ ?_ (fun i hi => ?_) (fun i hi => ?_) (fun q => absurd q (by decide))⟩ <;> simp (maxDischargeDepth := 60) only [gi_wAI, gi_wAJ, gi_wj, gi_wr, gj_wi, gj_wr, gj_wAI, gj_wAJ, gr_wi, gr_wj, gr_wAI, gr_wAJ, ai_wi, ai_wj, ai_wr, ai_wAJ, aj_wi, aj_wj, aj_wr, aj_wAI, ar_wi, ar_wj, ar_wr, ar_wAI, ar_wAJ, gi_wi_n, gj_wj_n, gr_wr_n, ai_wAI_n, aj_wAJ_n, SH_wi, SH_wj, SH_wAI, SH_wAJ, bi_01, and_false, false_and, ne_eq, true_and, and_true, not_true_eq_false, not_false_eq_true, Nat.reduceEqDiff, reduceCtorEq, or_true, true_or, ↓O6, ↓G6_0, ↓G6_1, ↓G6_2, ↓G6_3, ↓G6_4, g6_4, ↓U6_4, ↓G6_5, g6_5, ↓U6_5, ↓G6_6, ↓G6_7, ↓G6_8, ↓G6_9, ↓G6_10, g6_10, ↓U6_10, ↓G6_11, g6_11, ↓U6_11, ↓G6_12, g6_12, ↓U6_12, ↓G6_13, g6_13, ↓U6_13, ↓G6_14, g6_14, ↓U6_14, ↓G6_15, g6_15, ↓U6_15, ↓G6_16, g6_16, ↓U6_16, ↓G6_17, g6_17, ↓U6_17, ↓E9, a9, ↓I9, ↓W9, ↓E10, a10, ↓I10, ↓W10, ↓E11, a11, ↓I11, ↓W11, ↓E12, a12, ↓I12, ↓W12, ↓E13, a13, ↓I13, ↓W13, hS, vp_updL, upd, hc, n_succ, nar0, bi0]
  · simp (maxDischargeDepth := 60) only [lg_cmp_ge, lg_cmp_le, lg_cmp_gt, lg_cmp_lt, lg_cmp_eq, ↓ob, ↓pI, ↓pJ, ↓pR, ↓pV, ↓gO, ↓gI, ↓gJ, ↓gR, ↓gL, ↓gT, ↓lI, ↓lJ, ↓lR, psh, isRf, layA, padL, trimO, trimB, ld, ss1, ss2, killL, cmpB, popN, isO, isR, putOk, e_ag, e_agn, List.set_cons_zero, List.set_cons_succ, List.getElem?_cons_zero, List.getElem?_cons_succ, List.length_cons, List.length_nil, Value.category, decide_eq_true_eq, reduceIte, Nat.reduceAdd, Nat.reduceEqDiff, Nat.reduceLeDiff, reduceCtorEq, and_self, and_true, true_and, not_true_eq_false, not_false_eq_true, or_false, false_or, or_true, true_or, beq_self_eq_true, Nat.reduceBEq, Bool.false_eq_true, false_implies, forall_const, ↓s88_0, ↓s88_1, ↓s88_4, ↓s88_6, ↓s88_9, ↓s88_10, ↓s88_11, ↓s88_14, ↓s88_15, ↓s88_18, ↓s88_19, ↓s88_20, ↓s88_21, ↓s88_24, ↓s88_25, ↓s88_28, ↓s88_29, ↓s88_30, ↓s88_31, ↓s88_34, ↓s88_37, ↓s88_38, ↓s88_41, ↓s88_42, ↓s88_45, ↓s88_47, ↓s88_48, ↓s88_49, ↓s88_52, ↓s88_53, ↓s88_56, ↓s88_58, ↓s88_59, ↓s88_60, ↓s88_63, ↓s88_64, ↓s88_67, ↓s88_68, ↓s88_69, ↓s88_70, ↓s88_71, ↓s88_74, ↓s88_75, ↓s88_76, ↓s88_79, gi_wAI, gi_wAJ, gi_wj, gi_wr, gj_wi, gj_wr, gj_wAI, gj_wAJ, gr_wi, gr_wj, gr_wAI, gr_wAJ, ai_wi, ai_wj, ai_wr, ai_wAJ, aj_wi, aj_wj, aj_wr, aj_wAI, ar_wi, ar_wj, ar_wr, ar_wAI, ar_wAJ, gi_wi_n, gj_wj_n, gr_wr_n, ai_wAI_n, aj_wAJ_n, SH_wi, SH_wj, SH_wAI, SH_wAJ, bi_01, and_false, false_and, ne_eq, true_and, and_true, not_true_eq_false, not_false_eq_true, Nat.reduceEqDiff, reduceCtorEq, or_true, true_or, ↓O6, ↓G6_0, ↓G6_1, ↓G6_2, ↓G6_3, ↓G6_4, g6_4, ↓U6_4, ↓G6_5, g6_5, ↓U6_5, ↓G6_6, ↓G6_7, ↓G6_8, ↓G6_9, ↓G6_10, g6_10, ↓U6_10, ↓G6_11, g6_11, ↓U6_11, ↓G6_12, g6_12, ↓U6_12, ↓G6_13, g6_13, ↓U6_13, ↓G6_14, g6_14, ↓U6_14, ↓G6_15, g6_15, ↓U6_15, ↓G6_16, g6_16, ↓U6_16, ↓G6_17, g6_17, ↓U6_17, ↓E9, a9, ↓I9, ↓W9, ↓E10, a10, ↓I10, ↓W10, ↓E11, a11, ↓I11, ↓W11, ↓E12, a12, ↓I12, ↓W12, ↓E13, a13, ↓I13, ↓W13, hS, P.1, P.2.1, hin, hlt, bi1, one0]
    refine ⟨_, rfl, (by repeat' first | exact Fr.rf hS _ | exact (by decide) | apply Fr.swi | apply Fr.swj | apply Fr.swAI | apply Fr.swAJ), fun b hb9 => ⟨by simp (maxDischargeDepth := 60) only [gi_wAI, gi_wAJ, gi_wj, gi_wr, gj_wi, gj_wr, gj_wAI, gj_wAJ, gr_wi, gr_wj, gr_wAI, gr_wAJ, ai_wi, ai_wj, ai_wr, ai_wAJ, aj_wi, aj_wj, aj_wr, aj_wAI, ar_wi, ar_wj, ar_wr, ar_wAI, ar_wAJ, gi_wi_n, gj_wj_n, gr_wr_n, ai_wAI_n, aj_wAJ_n, SH_wi, SH_wj, SH_wAI, SH_wAJ, bi_01, and_false, false_and, ne_eq, true_and, and_true, not_true_eq_false, not_false_eq_true, Nat.reduceEqDiff, reduceCtorEq, or_true, true_or, hS, hb9], by simp (maxDischargeDepth := 60) only [gi_wAI, gi_wAJ, gi_wj, gi_wr, gj_wi, gj_wr, gj_wAI, gj_wAJ, gr_wi, gr_wj, gr_wAI, gr_wAJ, ai_wi, ai_wj, ai_wr, ai_wAJ, aj_wi, aj_wj, aj_wr, aj_wAI, ar_wi, ar_wj, ar_wr, ar_wAI, ar_wAJ, gi_wi_n, gj_wj_n, gr_wr_n, ai_wAI_n, aj_wAJ_n, SH_wi, SH_wj, SH_wAI, SH_wAJ, bi_01, and_false, false_and, ne_eq, true_and, and_true, not_true_eq_false, not_false_eq_true, Nat.reduceEqDiff, reduceCtorEq, or_true, true_or, hS]⟩, P0.put _ ⟨ha, hb, hs, hs⟩ hl ?_ ?_ (fun i hi => ?_) (fun i hi => ?_) (fun q i hi => ?_)⟩ <;> simp (maxDischargeDepth := 60) only [gi_wAI, gi_wAJ, gi_wj, gi_wr, gj_wi, gj_wr, gj_wAI, gj_wAJ, gr_wi, gr_wj, gr_wAI, gr_wAJ, ai_wi, ai_wj, ai_wr, ai_wAJ, aj_wi, aj_wj, aj_wr, aj_wAI, ar_wi, ar_wj, ar_wr, ar_wAI, ar_wAJ, gi_wi_n, gj_wj_n, gr_wr_n, ai_wAI_n, aj_wAJ_n, SH_wi, SH_wj, SH_wAI, SH_wAJ, bi_01, and_false, false_and, ne_eq, true_and, and_true, not_true_eq_false, not_false_eq_true, Nat.reduceEqDiff, reduceCtorEq, or_true, true_or, ↓O6, ↓G6_0, ↓G6_1, ↓G6_2, ↓G6_3, ↓G6_4, g6_4, ↓U6_4, ↓G6_5, g6_5, ↓U6_5, ↓G6_6, ↓G6_7, ↓G6_8, ↓G6_9, ↓G6_10, g6_10, ↓U6_10, ↓G6_11, g6_11, ↓U6_11, ↓G6_12, g6_12, ↓U6_12, ↓G6_13, g6_13, ↓U6_13, ↓G6_14, g6_14, ↓U6_14, ↓G6_15, g6_15, ↓U6_15, ↓G6_16, g6_16, ↓U6_16, ↓G6_17, g6_17, ↓U6_17, ↓E9, a9, ↓I9, ↓W9, ↓E10, a10, ↓I10, ↓W10, ↓E11, a11, ↓I11, ↓W11, ↓E12, a12, ↓I12, ↓W12, ↓E13, a13, ↓I13, ↓W13, hS, vp_updL, upd, hc, n_succ, nar0, bi0]
theorem le1 (i : Nat) (h : i < 1000) : (1 ≤ nI (i + 1)) = True := by
  rw [show (1 : Int32) = nI 1 from rfl, n_le (by decide) (by omega)]
  exact propext ⟨fun _ => trivial, fun _ => by omega⟩
theorem keepA {α : Type} {f : Nat → α} {n : Nat} {x : α} (e : f n = x) (i : Nat) : (if i = n then x else f i) = f i := by
  by_cases q : i = n
  · rw [if_pos q, q, e]
  · rw [if_neg q]
def negV (v : VV) : VV := (-v.2.1, -v.1, -v.2.2.2.1, -v.2.2.1, v.2.2.2.2)
theorem bB.neg {z : Int} (h : bB z) : bB (-z) := ⟨by have := h.2; omega, by have := h.1; omega⟩
theorem last_at (s0 : List VV) (u : VV) (t : List VV) : (s0 ++ u :: t)[s0.length]? = some u := by simp
theorem next_at (s0 : List VV) (u w : VV) (t : List VV) : (s0 ++ u :: w :: t)[s0.length + 1]? = some w := by
  rw [List.getElem?_append_right (by omega)]
  simp
set_option maxRecDepth 100000 in
theorem c_negate (hS : SH h) {g : Bool} {s0 : List VV} {u : VV} (P : Pile h g (s0 ++ [u])) : ∃ h', aCall (k + 1) 90 [.ref 6] h = some (none, h') ∧ Fr RKL h h' ∧ RKf h h' ∧ Pile h' g (s0 ++ [negV u]) := by
  rw [aCall_go 60, x90]
  have hl : s0.length < 61 := by have := P.2.2.1; simp at this; omega
  have p1 : gi h 6 4 = nI (s0.length + 1) := by rw [P.1, List.length_append]; rfl
  obtain ⟨hv, u1, u2, u3⟩ := P.2.2.2 _ _ (last_at s0 u [])
  have hin := in61 hl
  have hc : cl (nI s0.length) = s0.length := cl_n (by omega)
  have hlt := le1 s0.length (by omega)
  have hv2 : VVB (negV u) := ⟨hv.2.1.neg, hv.1.neg, hv.2.2.2.neg, hv.2.2.1.neg⟩
  cases g
  · simp (maxDischargeDepth := 60) only [lg_cmp_ge, lg_cmp_le, lg_cmp_gt, lg_cmp_lt, lg_cmp_eq, ↓ob, ↓pI, ↓pJ, ↓pR, ↓pV, ↓gO, ↓gI, ↓gJ, ↓gR, ↓gL, ↓gT, ↓lI, ↓lJ, ↓lR, psh, isRf, layA, padL, trimO, trimB, ld, ss1, ss2, killL, cmpB, popN, isO, isR, putOk, e_ag, e_agn, List.set_cons_zero, List.set_cons_succ, List.getElem?_cons_zero, List.getElem?_cons_succ, List.length_cons, List.length_nil, Value.category, decide_eq_true_eq, reduceIte, Nat.reduceAdd, Nat.reduceEqDiff, Nat.reduceLeDiff, reduceCtorEq, and_self, and_true, true_and, not_true_eq_false, not_false_eq_true, or_false, false_or, or_true, true_or, beq_self_eq_true, Nat.reduceBEq, Bool.false_eq_true, false_implies, forall_const, ↓s90_0, ↓s90_1, ↓s90_4, ↓s90_5, ↓s90_8, ↓s90_9, ↓s90_10, ↓s90_13, ↓s90_14, ↓s90_15, ↓s90_16, ↓s90_17, ↓s90_20, ↓s90_21, ↓s90_22, ↓s90_23, ↓s90_24, ↓s90_27, ↓s90_28, ↓s90_29, ↓s90_32, ↓s90_33, ↓s90_34, ↓s90_35, ↓s90_36, ↓s90_37, ↓s90_40, ↓s90_41, ↓s90_42, ↓s90_43, ↓s90_44, ↓s90_45, ↓s90_48, ↓s90_51, ↓s90_52, ↓s90_55, ↓s90_56, ↓s90_57, ↓s90_59, ↓s90_60, ↓s90_63, ↓s90_64, ↓s90_65, ↓s90_68, ↓s90_69, ↓s90_70, ↓s90_71, ↓s90_72, ↓s90_73, ↓s90_76, ↓s90_77, ↓s90_79, ↓s90_80, ↓s90_81, gi_wAI, gi_wAJ, gi_wj, gi_wr, gj_wi, gj_wr, gj_wAI, gj_wAJ, gr_wi, gr_wj, gr_wAI, gr_wAJ, ai_wi, ai_wj, ai_wr, ai_wAJ, aj_wi, aj_wj, aj_wr, aj_wAI, ar_wi, ar_wj, ar_wr, ar_wAI, ar_wAJ, gi_wi_n, gj_wj_n, gr_wr_n, ai_wAI_n, aj_wAJ_n, SH_wi, SH_wj, SH_wAI, SH_wAJ, bi_01, and_false, false_and, ne_eq, true_and, and_true, not_true_eq_false, not_false_eq_true, Nat.reduceEqDiff, reduceCtorEq, or_true, true_or, ↓O6, ↓G6_0, ↓G6_1, ↓G6_2, ↓G6_3, ↓G6_4, g6_4, ↓U6_4, ↓G6_5, g6_5, ↓U6_5, ↓G6_6, ↓G6_7, ↓G6_8, ↓G6_9, ↓G6_10, g6_10, ↓U6_10, ↓G6_11, g6_11, ↓U6_11, ↓G6_12, g6_12, ↓U6_12, ↓G6_13, g6_13, ↓U6_13, ↓G6_14, g6_14, ↓U6_14, ↓G6_15, g6_15, ↓U6_15, ↓G6_16, g6_16, ↓U6_16, ↓G6_17, g6_17, ↓U6_17, ↓E9, a9, ↓I9, ↓W9, ↓E10, a10, ↓I10, ↓W10, ↓E11, a11, ↓I11, ↓W11, ↓E12, a12, ↓I12, ↓W12, ↓E13, a13, ↓I13, ↓W13, hS, p1, P.2.1, hin, hlt, bi0, n_pred, hc, u1, u2, J_neg, vp_updL]
    refine ⟨_, rfl, (by repeat' first | exact Fr.rf hS _ | exact (by decide) | apply Fr.swi | apply Fr.swj | apply Fr.swAI | apply Fr.swAJ), fun b hb9 => ⟨by simp (maxDischargeDepth := 60) only [gi_wAI, gi_wAJ, gi_wj, gi_wr, gj_wi, gj_wr, gj_wAI, gj_wAJ, gr_wi, gr_wj, gr_wAI, gr_wAJ, ai_wi, ai_wj, ai_wr, ai_wAJ, aj_wi, aj_wj, aj_wr, aj_wAI, ar_wi, ar_wj, ar_wr, ar_wAI, ar_wAJ, gi_wi_n, gj_wj_n, gr_wr_n, ai_wAI_n, aj_wAJ_n, SH_wi, SH_wj, SH_wAI, SH_wAJ, bi_01, and_false, false_and, ne_eq, true_and, and_true, not_true_eq_false, not_false_eq_true, Nat.reduceEqDiff, reduceCtorEq, or_true, true_or, hS, hb9], by simp (maxDischargeDepth := 60) only [gi_wAI, gi_wAJ, gi_wj, gi_wr, gj_wi, gj_wr, gj_wAI, gj_wAJ, gr_wi, gr_wj, gr_wAI, gr_wAJ, ai_wi, ai_wj, ai_wr, ai_wAJ, aj_wi, aj_wj, aj_wr, aj_wAI, ar_wi, ar_wj, ar_wr, ar_wAI, ar_wAJ, gi_wi_n, gj_wj_n, gr_wr_n, ai_wAI_n, aj_wAJ_n, SH_wi, SH_wj, SH_wAI, SH_wAJ, bi_01, and_false, false_and, ne_eq, true_and, and_true, not_true_eq_false, not_false_eq_true, Nat.reduceEqDiff, reduceCtorEq, or_true, true_or, hS]⟩, P.put _ hv2 hl ?_ ?_ (fun i hi => ?_) (fun i hi => ?_) (fun q => absurd q (by decide))⟩ <;> simp (maxDischargeDepth := 60) only [gi_wAI, gi_wAJ, gi_wj, gi_wr, gj_wi, gj_wr, gj_wAI, gj_wAJ, gr_wi, gr_wj, gr_wAI, gr_wAJ, ai_wi, ai_wj, ai_wr, ai_wAJ, aj_wi, aj_wj, aj_wr, aj_wAI, ar_wi, ar_wj, ar_wr, ar_wAI, ar_wAJ, gi_wi_n, gj_wj_n, gr_wr_n, ai_wAI_n, aj_wAJ_n, SH_wi, SH_wj, SH_wAI, SH_wAJ, bi_01, and_false, false_and, ne_eq, true_and, and_true, not_true_eq_false, not_false_eq_true, Nat.reduceEqDiff, reduceCtorEq, or_true, true_or, ↓O6, ↓G6_0, ↓G6_1, ↓G6_2, ↓G6_3, ↓G6_4, g6_4, ↓U6_4, ↓G6_5, g6_5, ↓U6_5, ↓G6_6, ↓G6_7, ↓G6_8, ↓G6_9, ↓G6_10, g6_10, ↓U6_10, ↓G6_11, g6_11, ↓U6_11, ↓G6_12, g6_12, ↓U6_12, ↓G6_13, g6_13, ↓U6_13, ↓G6_14, g6_14, ↓U6_14, ↓G6_15, g6_15, ↓U6_15, ↓G6_16, g6_16, ↓U6_16, ↓G6_17, g6_17, ↓U6_17, ↓E9, a9, ↓I9, ↓W9, ↓E10, a10, ↓I10, ↓W10, ↓E11, a11, ↓I11, ↓W11, ↓E12, a12, ↓I12, ↓W12, ↓E13, a13, ↓I13, ↓W13, hS, vp_updL, upd, hc, p1, nar0, bi0, negV]
  · obtain ⟨u3, u4, u5⟩ := u3 rfl
    simp (maxDischargeDepth := 60) only [lg_cmp_ge, lg_cmp_le, lg_cmp_gt, lg_cmp_lt, lg_cmp_eq, ↓ob, ↓pI, ↓pJ, ↓pR, ↓pV, ↓gO, ↓gI, ↓gJ, ↓gR, ↓gL, ↓gT, ↓lI, ↓lJ, ↓lR, psh, isRf, layA, padL, trimO, trimB, ld, ss1, ss2, killL, cmpB, popN, isO, isR, putOk, e_ag, e_agn, List.set_cons_zero, List.set_cons_succ, List.getElem?_cons_zero, List.getElem?_cons_succ, List.length_cons, List.length_nil, Value.category, decide_eq_true_eq, reduceIte, Nat.reduceAdd, Nat.reduceEqDiff, Nat.reduceLeDiff, reduceCtorEq, and_self, and_true, true_and, not_true_eq_false, not_false_eq_true, or_false, false_or, or_true, true_or, beq_self_eq_true, Nat.reduceBEq, Bool.false_eq_true, false_implies, forall_const, ↓s90_0, ↓s90_1, ↓s90_4, ↓s90_5, ↓s90_8, ↓s90_9, ↓s90_10, ↓s90_13, ↓s90_14, ↓s90_15, ↓s90_16, ↓s90_17, ↓s90_20, ↓s90_21, ↓s90_22, ↓s90_23, ↓s90_24, ↓s90_27, ↓s90_28, ↓s90_29, ↓s90_32, ↓s90_33, ↓s90_34, ↓s90_35, ↓s90_36, ↓s90_37, ↓s90_40, ↓s90_41, ↓s90_42, ↓s90_43, ↓s90_44, ↓s90_45, ↓s90_48, ↓s90_51, ↓s90_52, ↓s90_55, ↓s90_56, ↓s90_57, ↓s90_59, ↓s90_60, ↓s90_63, ↓s90_64, ↓s90_65, ↓s90_68, ↓s90_69, ↓s90_70, ↓s90_71, ↓s90_72, ↓s90_73, ↓s90_76, ↓s90_77, ↓s90_79, ↓s90_80, ↓s90_81, gi_wAI, gi_wAJ, gi_wj, gi_wr, gj_wi, gj_wr, gj_wAI, gj_wAJ, gr_wi, gr_wj, gr_wAI, gr_wAJ, ai_wi, ai_wj, ai_wr, ai_wAJ, aj_wi, aj_wj, aj_wr, aj_wAI, ar_wi, ar_wj, ar_wr, ar_wAI, ar_wAJ, gi_wi_n, gj_wj_n, gr_wr_n, ai_wAI_n, aj_wAJ_n, SH_wi, SH_wj, SH_wAI, SH_wAJ, bi_01, and_false, false_and, ne_eq, true_and, and_true, not_true_eq_false, not_false_eq_true, Nat.reduceEqDiff, reduceCtorEq, or_true, true_or, ↓O6, ↓G6_0, ↓G6_1, ↓G6_2, ↓G6_3, ↓G6_4, g6_4, ↓U6_4, ↓G6_5, g6_5, ↓U6_5, ↓G6_6, ↓G6_7, ↓G6_8, ↓G6_9, ↓G6_10, g6_10, ↓U6_10, ↓G6_11, g6_11, ↓U6_11, ↓G6_12, g6_12, ↓U6_12, ↓G6_13, g6_13, ↓U6_13, ↓G6_14, g6_14, ↓U6_14, ↓G6_15, g6_15, ↓U6_15, ↓G6_16, g6_16, ↓U6_16, ↓G6_17, g6_17, ↓U6_17, ↓E9, a9, ↓I9, ↓W9, ↓E10, a10, ↓I10, ↓W10, ↓E11, a11, ↓I11, ↓W11, ↓E12, a12, ↓I12, ↓W12, ↓E13, a13, ↓I13, ↓W13, hS, p1, P.2.1, hin, hlt, bi1, one0, n_pred, hc, u1, u2, u3, u4, J_neg, vp_updL]
    refine ⟨_, rfl, (by repeat' first | exact Fr.rf hS _ | exact (by decide) | apply Fr.swi | apply Fr.swj | apply Fr.swAI | apply Fr.swAJ), fun b hb9 => ⟨by simp (maxDischargeDepth := 60) only [gi_wAI, gi_wAJ, gi_wj, gi_wr, gj_wi, gj_wr, gj_wAI, gj_wAJ, gr_wi, gr_wj, gr_wAI, gr_wAJ, ai_wi, ai_wj, ai_wr, ai_wAJ, aj_wi, aj_wj, aj_wr, aj_wAI, ar_wi, ar_wj, ar_wr, ar_wAI, ar_wAJ, gi_wi_n, gj_wj_n, gr_wr_n, ai_wAI_n, aj_wAJ_n, SH_wi, SH_wj, SH_wAI, SH_wAJ, bi_01, and_false, false_and, ne_eq, true_and, and_true, not_true_eq_false, not_false_eq_true, Nat.reduceEqDiff, reduceCtorEq, or_true, true_or, hS, hb9], by simp (maxDischargeDepth := 60) only [gi_wAI, gi_wAJ, gi_wj, gi_wr, gj_wi, gj_wr, gj_wAI, gj_wAJ, gr_wi, gr_wj, gr_wAI, gr_wAJ, ai_wi, ai_wj, ai_wr, ai_wAJ, aj_wi, aj_wj, aj_wr, aj_wAI, ar_wi, ar_wj, ar_wr, ar_wAI, ar_wAJ, gi_wi_n, gj_wj_n, gr_wr_n, ai_wAI_n, aj_wAJ_n, SH_wi, SH_wj, SH_wAI, SH_wAJ, bi_01, and_false, false_and, ne_eq, true_and, and_true, not_true_eq_false, not_false_eq_true, Nat.reduceEqDiff, reduceCtorEq, or_true, true_or, hS]⟩, P.put _ hv2 hl ?_ ?_ (fun i hi => ?_) (fun i hi => ?_) (fun q i hi => ?_)⟩ <;> simp (maxDischargeDepth := 60) only [gi_wAI, gi_wAJ, gi_wj, gi_wr, gj_wi, gj_wr, gj_wAI, gj_wAJ, gr_wi, gr_wj, gr_wAI, gr_wAJ, ai_wi, ai_wj, ai_wr, ai_wAJ, aj_wi, aj_wj, aj_wr, aj_wAI, ar_wi, ar_wj, ar_wr, ar_wAI, ar_wAJ, gi_wi_n, gj_wj_n, gr_wr_n, ai_wAI_n, aj_wAJ_n, SH_wi, SH_wj, SH_wAI, SH_wAJ, bi_01, and_false, false_and, ne_eq, true_and, and_true, not_true_eq_false, not_false_eq_true, Nat.reduceEqDiff, reduceCtorEq, or_true, true_or, ↓O6, ↓G6_0, ↓G6_1, ↓G6_2, ↓G6_3, ↓G6_4, g6_4, ↓U6_4, ↓G6_5, g6_5, ↓U6_5, ↓G6_6, ↓G6_7, ↓G6_8, ↓G6_9, ↓G6_10, g6_10, ↓U6_10, ↓G6_11, g6_11, ↓U6_11, ↓G6_12, g6_12, ↓U6_12, ↓G6_13, g6_13, ↓U6_13, ↓G6_14, g6_14, ↓U6_14, ↓G6_15, g6_15, ↓U6_15, ↓G6_16, g6_16, ↓U6_16, ↓G6_17, g6_17, ↓U6_17, ↓E9, a9, ↓I9, ↓W9, ↓E10, a10, ↓I10, ↓W10, ↓E11, a11, ↓I11, ↓W11, ↓E12, a12, ↓I12, ↓W12, ↓E13, a13, ↓I13, ↓W13, hS, vp_updL, upd, hc, p1, nar0, bi0, negV, keepA u5]
end RECK
