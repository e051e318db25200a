/-! THE RECKONER: letters, and the image of a box -/
def LetIs (h : AH) (E : LE) : Prop := ∀ a, a < 6 → aj h 7 a = J (E a).1 ∧ aj h 8 a = J (E a).2
def setE (E : LE) (a : Nat) (p q : Int) : LE := fun i => if i = a then (p, q) else E i
def MapIs (h : AH) (mo co len : Nat) (f : Nat → Int32) (pl : Bool) : Prop := ag h mo = some (cO 4 [.ref co, .int (bi pl)]) ∧ ag h co = some (cI len f) ∧ 118 ≤ mo ∧ 118 ≤ co
theorem in6 {i : Nat} (h : i < 6) : vp_in (nI i) 6 := by
  rw [vp_in_iff, ← I_nI, I_toInt ⟨by omega, by omega⟩]
  omega
section IMAGE
variable {k : Nat} {h : AH}
theorem mo_0 {α : Type} {K : Value → Option α} {mo co len : Nat} {f : Nat → Int32} {pl : Bool} (M : MapIs h mo co len f pl) : hGet h mo 0 4 K = K (.ref co) := by unfold hGet; rw [M.1]; rfl
theorem mo_1 {α : Type} {K : Value → Option α} {mo co len : Nat} {f : Nat → Int32} {pl : Bool} (M : MapIs h mo co len f pl) : hGet h mo 1 4 K = K (.int (bi pl)) := by unfold hGet; rw [M.1]; rfl
theorem mo_len {α : Type} {K : Nat → Option α} {mo co len : Nat} {f : Nat → Int32} {pl : Bool} (M : MapIs h mo co len f pl) : hLen h co K = K len := by unfold hLen; rw [M.2.1]; rfl
theorem mo_ld {α : Type} {K : Int32 → Option α} {mo co len : Nat} {f : Nat → Int32} {pl : Bool} (M : MapIs h mo co len f pl) {i : Int32} (hi : vp_in i len) : hIld h co i K = K (f (cl i)) := by
  unfold hIld
  rw [M.2.1]
  show gX i len (K (f (cl i))) = _
  unfold gX
  rw [if_neg hi]
theorem MapIs.keep {h' : AH} {mo co len : Nat} {f : Nat → Int32} {pl : Bool} {L : List Nat} (M : MapIs h mo co len f pl) (F : Fr L h h') (hL : ∀ x, x ∈ L → x < 118) : MapIs h' mo co len f pl := by
  refine ⟨?_, ?_, M.2.2⟩
  · rw [F.2.1 mo (fun z => by have := hL _ z; have := M.2.2.1; omega)]; exact M.1
  · rw [F.2.1 co (fun z => by have := hL _ z; have := M.2.2.2; omega)]; exact M.2.1
set_option maxRecDepth 100000 in
theorem c_tell (hS : SH h) {E : LE} (L : LetIs h E) {a : Nat} (ha : a < 6) (p q : Int) : ∃ h', aCall (k + 1) 80 [.ref 6, .int (nI a), .long (J p), .long (J q)] h = some (none, h') ∧ Fr [7, 8] h h' ∧ LetIs h' (setE E a p q) := by
  rw [aCall_go 60, x80]
  have in0 := in6 ha
  have cl0 : cl (nI a) = a := cl_n (by omega)
  have q1 : (nI a < 0) = False := propext ⟨fun z => n_neg (by omega) z, fun z => z.elim⟩
  have q2 : (nI 6 ≤ nI a) = False := propext ⟨fun z => by have := (n_le (by decide) (by omega)).mp z; omega, fun z => z.elim⟩
  have q3 : (nI a < nI 6) = True := propext ⟨fun _ => trivial, fun _ => (n_lt (by omega) (by decide)).mpr ha⟩
  simp (maxDischargeDepth := 60) only [lg_cmp_ge, lg_cmp_le, lg_cmp_gt, lg_cmp_lt, lg_cmp_eq, ↓ob, ↓pI, ↓pJ, ↓pR, ↓pV, ↓gO, ↓gI, ↓gJ, ↓gR, ↓gL, ↓gT, ↓lI, ↓lJ, ↓lR, psh, isRf, layA, padL, trimO, trimB, ld, ss1, ss2, killL, cmpB, popN, isO, isR, putOk, e_ag, e_agn, List.set_cons_zero, List.set_cons_succ, List.getElem?_cons_zero, List.getElem?_cons_succ, List.length_cons, List.length_nil, Value.category, decide_eq_true_eq, reduceIte, Nat.reduceAdd, Nat.reduceEqDiff, Nat.reduceLeDiff, reduceCtorEq, and_self, and_true, true_and, not_true_eq_false, not_false_eq_true, or_false, false_or, or_true, true_or, beq_self_eq_true, Nat.reduceBEq, Bool.false_eq_true, false_implies, forall_const, ↓s80_0, ↓s80_1, ↓s80_4, ↓s80_5, ↓s80_6, ↓s80_9, ↓s80_10, ↓s80_13, ↓s80_14, ↓s80_17, ↓s80_18, ↓s80_19, ↓s80_20, ↓s80_21, ↓s80_24, ↓s80_25, ↓s80_27, ↓s80_28, gi_wAI, gi_wAJ, gi_wj, gi_wr, gj_wi, gj_wr, gj_wAI, gj_wAJ, gr_wi, gr_wj, gr_wAI, gr_wAJ, ai_wi, ai_wj, ai_wr, ai_wAJ, aj_wi, aj_wj, aj_wr, aj_wAI, ar_wi, ar_wj, ar_wr, ar_wAI, ar_wAJ, gi_wi_n, gj_wj_n, gr_wr_n, ai_wAI_n, aj_wAJ_n, SH_wi, SH_wj, SH_wAI, SH_wAJ, bi_01, and_false, false_and, ne_eq, true_and, and_true, not_true_eq_false, not_false_eq_true, Nat.reduceEqDiff, reduceCtorEq, or_true, true_or, ↓O6, ↓G6_0, ↓G6_1, ↓G6_2, ↓G6_3, ↓G6_4, g6_4, ↓U6_4, ↓G6_5, g6_5, ↓U6_5, ↓G6_6, ↓G6_7, ↓G6_8, ↓G6_9, ↓G6_10, g6_10, ↓U6_10, ↓G6_11, g6_11, ↓U6_11, ↓G6_12, g6_12, ↓U6_12, ↓G6_13, g6_13, ↓U6_13, ↓G6_14, g6_14, ↓U6_14, ↓G6_15, g6_15, ↓U6_15, ↓G6_16, g6_16, ↓U6_16, ↓G6_17, g6_17, ↓U6_17, ↓E7, a7, ↓I7, ↓W7, ↓E8, a8, ↓I8, ↓W8, hS, in0, cl0, q1, q2, q3]
  refine ⟨_, rfl, (by repeat' first | exact Fr.rf hS _ | exact (by decide) | apply Fr.swi | apply Fr.swj | apply Fr.swAI | apply Fr.swAJ), fun i hi => ?_⟩
  simp (maxDischargeDepth := 60) only [gi_wAI, gi_wAJ, gi_wj, gi_wr, gj_wi, gj_wr, gj_wAI, gj_wAJ, gr_wi, gr_wj, gr_wAI, gr_wAJ, ai_wi, ai_wj, ai_wr, ai_wAJ, aj_wi, aj_wj, aj_wr, aj_wAI, ar_wi, ar_wj, ar_wr, ar_wAI, ar_wAJ, gi_wi_n, gj_wj_n, gr_wr_n, ai_wAI_n, aj_wAJ_n, SH_wi, SH_wj, SH_wAI, SH_wAJ, bi_01, and_false, false_and, ne_eq, true_and, and_true, not_true_eq_false, not_false_eq_true, Nat.reduceEqDiff, reduceCtorEq, or_true, true_or, ↓O6, ↓G6_0, ↓G6_1, ↓G6_2, ↓G6_3, ↓G6_4, g6_4, ↓U6_4, ↓G6_5, g6_5, ↓U6_5, ↓G6_6, ↓G6_7, ↓G6_8, ↓G6_9, ↓G6_10, g6_10, ↓U6_10, ↓G6_11, g6_11, ↓U6_11, ↓G6_12, g6_12, ↓U6_12, ↓G6_13, g6_13, ↓U6_13, ↓G6_14, g6_14, ↓U6_14, ↓G6_15, g6_15, ↓U6_15, ↓G6_16, g6_16, ↓U6_16, ↓G6_17, g6_17, ↓U6_17, ↓E7, a7, ↓I7, ↓W7, ↓E8, a8, ↓I8, ↓W8, hS, vp_updL]
  unfold setE
  by_cases e : i = a
  · rw [if_pos e, if_pos e, if_pos e]
    exact ⟨rfl, rfl⟩
  · rw [if_neg e, if_neg e, if_neg e]
    exact L i hi
set_option maxRecDepth 100000 in
theorem c_begin (hS : SH h) (a b c d : Int64) : ∃ h', aCall (k + 1) 82 [.ref 6, .long a, .long b, .long c, .long d] h = some (none, h') ∧ Fr [6] h h' ∧ gj h' 6 12 = a ∧ gj h' 6 13 = b ∧ gj h' 6 14 = c ∧ gj h' 6 15 = d ∧ ∀ x, gi h' 6 x = gi h 6 x := by
  rw [aCall_go 60, x82]
  simp (maxDischargeDepth := 60) only [lg_cmp_ge, lg_cmp_le, lg_cmp_gt, lg_cmp_lt, lg_cmp_eq, ↓ob, ↓pI, ↓pJ, ↓pR, ↓pV, ↓gO, ↓gI, ↓gJ, ↓gR, ↓gL, ↓gT, ↓lI, ↓lJ, ↓lR, psh, isRf, layA, padL, trimO, trimB, ld, ss1, ss2, killL, cmpB, popN, isO, isR, putOk, e_ag, e_agn, List.set_cons_zero, List.set_cons_succ, List.getElem?_cons_zero, List.getElem?_cons_succ, List.length_cons, List.length_nil, Value.category, decide_eq_true_eq, reduceIte, Nat.reduceAdd, Nat.reduceEqDiff, Nat.reduceLeDiff, reduceCtorEq, and_self, and_true, true_and, not_true_eq_false, not_false_eq_true, or_false, false_or, or_true, true_or, beq_self_eq_true, Nat.reduceBEq, Bool.false_eq_true, false_implies, forall_const, ↓s82_0, ↓s82_1, ↓s82_2, ↓s82_5, ↓s82_6, ↓s82_7, ↓s82_10, ↓s82_11, ↓s82_13, ↓s82_16, ↓s82_17, ↓s82_19, ↓s82_22, gi_wAI, gi_wAJ, gi_wj, gi_wr, gj_wi, gj_wr, gj_wAI, gj_wAJ, gr_wi, gr_wj, gr_wAI, gr_wAJ, ai_wi, ai_wj, ai_wr, ai_wAJ, aj_wi, aj_wj, aj_wr, aj_wAI, ar_wi, ar_wj, ar_wr, ar_wAI, ar_wAJ, gi_wi_n, gj_wj_n, gr_wr_n, ai_wAI_n, aj_wAJ_n, SH_wi, SH_wj, SH_wAI, SH_wAJ, bi_01, and_false, false_and, ne_eq, true_and, and_true, not_true_eq_false, not_false_eq_true, Nat.reduceEqDiff, reduceCtorEq, or_true, true_or, ↓O6, ↓G6_0, ↓G6_1, ↓G6_2, ↓G6_3, ↓G6_4, g6_4, ↓U6_4, ↓G6_5, g6_5, ↓U6_5, ↓G6_6, ↓G6_7, ↓G6_8, ↓G6_9, ↓G6_10, g6_10, ↓U6_10, ↓G6_11, g6_11, ↓U6_11, ↓G6_12, g6_12, ↓U6_12, ↓G6_13, g6_13, ↓U6_13, ↓G6_14, g6_14, ↓U6_14, ↓G6_15, g6_15, ↓U6_15, ↓G6_16, g6_16, ↓U6_16, ↓G6_17, g6_17, ↓U6_17, hS]
  refine ⟨_, rfl, (by repeat' first | exact Fr.rf hS _ | exact (by decide) | apply Fr.swi | apply Fr.swj | apply Fr.swAI | apply Fr.swAJ), ?_, ?_, ?_, ?_, fun x => ?_⟩ <;> simp (maxDischargeDepth := 60) only [gi_wAI, gi_wAJ, gi_wj, gi_wr, gj_wi, gj_wr, gj_wAI, gj_wAJ, gr_wi, gr_wj, gr_wAI, gr_wAJ, ai_wi, ai_wj, ai_wr, ai_wAJ, aj_wi, aj_wj, aj_wr, aj_wAI, ar_wi, ar_wj, ar_wr, ar_wAI, ar_wAJ, gi_wi_n, gj_wj_n, gr_wr_n, ai_wAI_n, aj_wAJ_n, SH_wi, SH_wj, SH_wAI, SH_wAJ, bi_01, and_false, false_and, ne_eq, true_and, and_true, not_true_eq_false, not_false_eq_true, Nat.reduceEqDiff, reduceCtorEq, or_true, true_or, ↓O6, ↓G6_0, ↓G6_1, ↓G6_2, ↓G6_3, ↓G6_4, g6_4, ↓U6_4, ↓G6_5, g6_5, ↓U6_5, ↓G6_6, ↓G6_7, ↓G6_8, ↓G6_9, ↓G6_10, g6_10, ↓U6_10, ↓G6_11, g6_11, ↓U6_11, ↓G6_12, g6_12, ↓U6_12, ↓G6_13, g6_13, ↓U6_13, ↓G6_14, g6_14, ↓U6_14, ↓G6_15, g6_15, ↓U6_15, ↓G6_16, g6_16, ↓U6_16, ↓G6_17, g6_17, ↓U6_17, hS]
/-- the loop of image: at place A, after i steps -/
noncomputable def imL (k mo co : Nat) (l r b c : Int) (A i : Nat) (h : AH) : Option OU := aAt (k + 3) 83 66 [some (.ref 6), some (.ref mo), some (.long (J l)), none, some (.long (J r)), none, some (.long (J b)), none, some (.long (J c)), none, some (.ref co), some (.int (nI A)), some (.int (nI i)), none, none] [] h
theorem sh4 {n : Nat} (hn : n < 2147483648) : nI n >>> ((4 : Int32) &&& 31) = nI (n / 16) := by
  apply b_ext
  intro i hi
  rw [show (4 : Int32) = nI 4 from rfl, b_sshr 4 (by decide) (nI n) hi]
  have hb : ∀ (m j : Nat), m < 2147483648 → bt (nI m) j = m.testBit j := by
    intro m j hm
    show (BitVec.ofNat 32 m).getLsbD j = _
    rw [BitVec.getLsbD_ofNat]
    by_cases hj : j < 32
    · simp [hj]
    · rw [decide_eq_false hj, Bool.false_and]
      symm
      exact Nat.testBit_lt_two_pow (Nat.lt_of_lt_of_le (show m < 2 ^ 31 by omega) (Nat.pow_le_pow_right (by decide) (by omega)))
  rw [hb (n / 16) i (by omega), show n / 16 = n / 2 ^ 4 from rfl, Nat.testBit_div_two_pow]
  split
  · rw [hb n (4 + i) hn, Nat.add_comm]
  · rw [hb n 31 hn]
    rw [Nat.testBit_lt_two_pow (show n < 2 ^ 31 by omega), Nat.testBit_lt_two_pow]
    exact Nat.lt_of_lt_of_le (show n < 2 ^ 31 by omega) (Nat.pow_le_pow_right (by decide) (by omega))
theorem an15 (w x : Nat) (hw : w < 16) : nI (w + 16 * x) &&& 15 = nI w := by
  rw [show (15 : Int32) = nI 15 from rfl, nx_and, show 15 = 2 ^ 4 - 1 from rfl, Nat.and_two_pow_sub_one_eq_mod]
  congr 1
  omega
theorem sh15 (w x : Nat) (hw : w < 16) (hx : x < 100000) : nI (w + 16 * x) >>> ((4 : Int32) &&& 31) = nI x := by
  rw [sh4 (by omega)]
  congr 1
  omega
theorem sw83 : ∀ w, w < 11 → swT 111 173 0 10 #[57, 79, 88, 95, 102, 113, 122, 129, 140, 153, 166] (nI w) = some ([168, 190, 199, 206, 213, 224, 233, 240, 251, 264, 277].getD w 0) := by decide +kernel
set_option maxRecDepth 100000 in
theorem im_num (hS : SH h) {mo co len : Nat} {f : Nat → Int32} {pl : Bool} (M : MapIs h mo co len f pl) {l r b c : Int} {A i : Nat} (hA : A < len) (hi : i < len) (hl : len ≤ 60) {g : Bool} {st : List VV} (P : Pile h g st) (hst : st.length < 61) {v : Nat} (hv : v ≤ 9999) (hf : f A = nI (0 + 16 * v)) :
    ∃ h', imL k mo co l r b c A i h = imL k mo co l r b c (A + 1) (i + 1) h' ∧ Fr RKL h h' ∧ RKf h h' ∧ Pile h' g (st ++ [((v : Int) * 1024, (v : Int) * 1024, 0, 0, false)]) := by
  have inA : vp_in (nI A) len := by
    rw [vp_in_iff, ← I_nI, I_toInt ⟨by omega, by omega⟩]
    omega
  have q1 : (nI A < 0) = False := propext ⟨fun z => n_neg (by omega) z, fun z => z.elim⟩
  have q2 : (nI len ≤ nI A) = False := propext ⟨fun z => by have := (n_le (by omega) (by omega)).mp z; omega, fun z => z.elim⟩
  have q3 : (nI len ≤ nI i) = False := propext ⟨fun z => by have := (n_le (by omega) (by omega)).mp z; omega, fun z => z.elim⟩
  have q4 : (0 ≤ nI A) = True := propext ⟨fun _ => trivial, fun _ => Int32.not_lt.mp (n_neg (by omega))⟩
  have hcl : cl (nI A) = A := cl_n (by omega)
  have hb1 : bB ((v : Int) * 1024) := ⟨by omega, by omega⟩
  obtain ⟨h1, e1, f1, g1, P1⟩ := c_load (k := k + 2) hS P hst hb1 hb1 bB0
  have hm : ((nI v) * 1024).toInt64 = J ((v : Int) * 1024) := by
    rw [show (1024 : Int32) = I 1024 from rfl, ← I_nI, I_mul, IJ ⟨by omega, by omega⟩]
  have e1 : aCall (k + 3) 88 [.ref 6, .long (J ((v : Int) * 1024)), .long (J ((v : Int) * 1024)), .long 0] h = some (none, h1) := e1
  refine ⟨h1, ?_, f1, g1, P1⟩
  unfold imL
  rw [u83_66 100]
  simp (maxDischargeDepth := 60) only [lg_cmp_ge, lg_cmp_le, lg_cmp_gt, lg_cmp_lt, lg_cmp_eq, ↓ob, ↓pI, ↓pJ, ↓pR, ↓pV, ↓gO, ↓gI, ↓gJ, ↓gR, ↓gL, ↓gT, ↓lI, ↓lJ, ↓lR, psh, isRf, layA, padL, trimO, trimB, ld, ss1, ss2, killL, cmpB, popN, isO, isR, putOk, e_ag, e_agn, List.set_cons_zero, List.set_cons_succ, List.getElem?_cons_zero, List.getElem?_cons_succ, List.length_cons, List.length_nil, Value.category, decide_eq_true_eq, reduceIte, Nat.reduceAdd, Nat.reduceEqDiff, Nat.reduceLeDiff, reduceCtorEq, and_self, and_true, true_and, not_true_eq_false, not_false_eq_true, or_false, false_or, or_true, true_or, beq_self_eq_true, Nat.reduceBEq, Bool.false_eq_true, false_implies, forall_const, ↓s83_0, ↓s83_1, ↓s83_4, ↓s83_6, ↓s83_7, ↓s83_8, ↓s83_9, ↓s83_11, ↓s83_14, ↓s83_15, ↓s83_16, ↓s83_17, ↓s83_20, ↓s83_23, ↓s83_25, ↓s83_28, ↓s83_29, ↓s83_30, ↓s83_33, ↓s83_36, ↓s83_38, ↓s83_41, ↓s83_42, ↓s83_45, ↓s83_46, ↓s83_47, ↓s83_50, ↓s83_51, ↓s83_52, ↓s83_55, ↓s83_56, ↓s83_57, ↓s83_60, ↓s83_61, ↓s83_63, ↓s83_64, ↓l83_66, ↓s83_68, ↓s83_70, ↓s83_71, ↓s83_74, ↓s83_76, ↓s83_79, ↓s83_81, ↓s83_83, ↓s83_84, ↓s83_87, ↓s83_89, ↓s83_91, ↓s83_92, ↓s83_93, ↓s83_94, ↓s83_96, ↓s83_98, ↓s83_100, ↓s83_101, ↓s83_103, ↓s83_104, ↓s83_106, ↓s83_109, ↓s83_111, ↓s83_168, ↓s83_169, ↓s83_171, ↓s83_174, ↓s83_175, ↓s83_176, ↓s83_178, ↓s83_181, ↓s83_182, ↓s83_183, ↓s83_184, ↓s83_187, ↓s83_190, ↓s83_191, ↓s83_193, ↓s83_196, ↓s83_199, ↓s83_200, ↓s83_203, ↓s83_206, ↓s83_207, ↓s83_210, ↓s83_213, ↓s83_214, ↓s83_217, ↓s83_218, ↓s83_221, ↓s83_224, ↓s83_225, ↓s83_227, ↓s83_230, ↓s83_233, ↓s83_234, ↓s83_237, ↓s83_240, ↓s83_241, ↓s83_244, ↓s83_245, ↓s83_248, ↓s83_251, ↓s83_252, ↓s83_254, ↓s83_256, ↓s83_259, ↓s83_261, ↓s83_264, ↓s83_265, ↓s83_267, ↓s83_269, ↓s83_272, ↓s83_274, ↓s83_277, ↓s83_278, ↓s83_281, ↓s83_284, ↓s83_287, ↓s83_290, ↓s83_291, ↓s83_292, ↓s83_295, ↓s83_296, ↓s83_297, ↓s83_298, ↓s83_301, ↓s83_302, ↓s83_303, ↓s83_304, ↓s83_307, ↓s83_310, ↓s83_311, ↓s83_314, ↓s83_315, ↓s83_316, ↓s83_319, ↓s83_320, ↓s83_321, ↓s83_324, ↓s83_327, ↓s83_328, ↓s83_331, ↓s83_332, ↓s83_333, ↓s83_336, ↓s83_337, ↓s83_340, ↓s83_341, ↓s83_344, x80, x82, x88, x89, x90, x91, x92, x93, x94, x95, x98, x99, x100, mo_len M, mo_ld M inA, q1, q2, q3, q4, hcl, hf, an15 0 v (by decide), sh15 0 v (by decide) (by omega), sw83 0 (by decide), List.getD_cons_zero, ↓O6 hS, hm, e1, ↓kont_go 100, n_succ]
end IMAGE
