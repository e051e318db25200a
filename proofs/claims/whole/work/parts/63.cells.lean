/-! SETS OF CELLS: class Cells, two words of bits -/
def Fr (L : List Nat) (h h' : AH) : Prop := SH h' ∧ (∀ a, a ∉ L → ag h' a = ag h a) ∧ h'.1 = h.1 ∧ h'.2.1 = h.2.1
theorem Fr.rf {h : AH} (hS : SH h) (L : List Nat) : Fr L h h := ⟨hS, fun _ _ => rfl, rfl, rfl⟩
theorem Fr.trans {L : List Nat} {h h1 h2 : AH} (a : Fr L h h1) (b : Fr L h1 h2) : Fr L h h2 := ⟨b.1, fun x hx => (b.2.1 x hx).trans (a.2.1 x hx), b.2.2.1.trans a.2.2.1, b.2.2.2.trans a.2.2.2⟩
theorem Fr.mono {L M : List Nat} {h h1 : AH} (a : Fr L h h1) (hm : ∀ x, x ∈ L → x ∈ M) : Fr M h h1 := ⟨a.1, fun x hx => a.2.1 x (fun z => hx (hm x z)), a.2.2⟩
def hasC (h : AH) (c k : Nat) : Bool := if k < 64 then (gj h c 0).toBitVec.getLsbD k else (gj h c 1).toBitVec.getLsbD (k - 64)
def isCl (c : Nat) : Prop := PL[c]? = some (cO 2 [.long 0, .long 0])
section CELLS
variable {d c : Nat} {h : AH}
theorem C0 {α : Type} {K : Value → Option α} (hS : SH h) (hc : isCl c) : hGet h c 0 2 K = K (.long (gj h c 0)) := L_gj hS hc rfl
theorem C1 {α : Type} {K : Value → Option α} (hS : SH h) (hc : isCl c) : hGet h c 1 2 K = K (.long (gj h c 1)) := L_gj hS hc rfl
theorem D0 {α : Type} {K : AH → Option α} {y : Int64} (hS : SH h) (hc : isCl c) : hPut h c 0 2 1 (.long y) K = K (wj h c 0 y) := L_pj hS hc rfl
theorem D1 {α : Type} {K : AH → Option α} {y : Int64} (hS : SH h) (hc : isCl c) : hPut h c 1 2 1 (.long y) K = K (wj h c 1 y) := L_pj hS hc rfl
theorem Fr_wi {r b : Nat} {x : Int32} (hS : SH h) : Fr [r] h (wi h r b x) := ⟨SH_wi hS, fun a ha => ag_wi (fun z => ha (z ▸ List.mem_cons_self)), sz_wi, sl_wi⟩
theorem Fr_wj {r b : Nat} {x : Int64} (hS : SH h) : Fr [r] h (wj h r b x) := ⟨SH_wj hS, fun a ha => ag_wj (fun z => ha (z ▸ List.mem_cons_self)), sz_wj, sl_wj⟩
theorem Fr_wAI {r : Nat} {f : Nat → Int32} (hS : SH h) : Fr [r] h (wAI h r f) := ⟨SH_wAI hS, fun a ha => ag_wAI (fun z => ha (z ▸ List.mem_cons_self)), sz_wAI, sl_wAI⟩
theorem Fr_wAJ {r : Nat} {f : Nat → Int64} (hS : SH h) : Fr [r] h (wAJ h r f) := ⟨SH_wAJ hS, fun a ha => ag_wAJ (fun z => ha (z ▸ List.mem_cons_self)), sz_wAJ, sl_wAJ⟩
theorem hasC_wj0 {k : Nat} {y : Int64} (hS : SH h) (hc : isCl c) : hasC (wj h c 0 y) c k = if k < 64 then y.toBitVec.getLsbD k else hasC h c k := by
  unfold hasC
  rw [gj_wj hS hc rfl, gj_wj_n (by intro q; exact absurd q.2 (by decide))]
  split <;> rfl
theorem hasC_wj1 {k : Nat} {y : Int64} (hS : SH h) (hc : isCl c) : hasC (wj h c 1 y) c k = if k < 64 then hasC h c k else y.toBitVec.getLsbD (k - 64) := by
  unfold hasC
  rw [gj_wj hS hc rfl, gj_wj_n (by intro q; exact absurd q.2 (by decide))]
  split <;> rfl
theorem hasC_ag {h' : AH} (e : ag h' c = ag h c) : hasC h' c = hasC h c := by
  funext k
  unfold hasC
  rw [gj_of_ag e, gj_of_ag e]
theorem i_nat {i : Int32} {n : Nat} (hn : n < 2147483648) (h0 : ¬ i < 0) (h1 : i < nI n) : ∃ k, k < n ∧ i = nI k ∧ cl i = k := by
  have a0 := Int32.le_iff_toInt_le.mp (Int32.not_lt.mp h0)
  have a1 := Int32.lt_iff_toInt_lt.mp h1
  have e0 : (0 : Int32).toInt = 0 := rfl
  have e1 : (nI n).toInt = (n : Int) := by rw [← I_nI, I_toInt ⟨by omega, by omega⟩]
  refine ⟨i.toInt.toNat, by omega, ?_, rfl⟩
  rw [← I_nI, show ((i.toInt.toNat : Nat) : Int) = i.toInt by omega, I_of]
theorem cl_n {k : Nat} (hk : k < 2147483648) : cl (nI k) = k := by
  show (nI k).toInt.toNat = k
  rw [← I_nI, I_toInt ⟨by omega, by omega⟩]
  rfl
theorem n_lt {a b : Nat} (ha : a < 2147483648) (hb : b < 2147483648) : nI a < nI b ↔ a < b := by
  rw [← I_nI, ← I_nI, I_lt ⟨by omega, by omega⟩ ⟨by omega, by omega⟩]
  omega
theorem n_le {a b : Nat} (ha : a < 2147483648) (hb : b < 2147483648) : nI a ≤ nI b ↔ a ≤ b := by
  rw [← I_nI, ← I_nI, I_le ⟨by omega, by omega⟩ ⟨by omega, by omega⟩]
  omega
theorem n_eq {a b : Nat} (ha : a < 2147483648) (hb : b < 2147483648) : nI a = nI b ↔ a = b := by
  rw [← I_nI, ← I_nI, I_eq ⟨by omega, by omega⟩ ⟨by omega, by omega⟩]
  omega
theorem n_neg {a : Nat} (ha : a < 2147483648) : ¬ nI a < 0 := by
  rw [show (0 : Int32) = nI 0 from rfl, n_lt ha (by decide)]
  omega
theorem n_add (a b : Nat) : nI a + nI b = nI (a + b) := by
  rw [← I_nI, ← I_nI, ← I_nI, I_add]
  rfl
theorem and63 : ∀ k, k < 128 → nI k &&& 63 = nI (k % 64) := by decide +kernel
theorem bitT (w : Int64) {k : Nat} (hk : k < 64) : ((w.toUInt64 >>> ((nI k).toInt64.toUInt64 &&& Int64.toUInt64 63)).toInt64 &&& 1 = 0) ↔ w.toBitVec.getLsbD k = false := by
  rw [wb_cu k hk]
  exact ts_bit hk (u_tn (by omega))
theorem one_k : ∀ k, k < 64 → ((1 : Int64) <<< ((nI k).toInt64 &&& 63)).toBitVec = BitVec.twoPow 64 k := by decide +kernel
theorem or_k (w : Int64) {k : Nat} (hk : k < 64) {j : Nat} (hj : j < 64) : (w ||| 1 <<< ((nI k).toInt64 &&& 63)).toBitVec.getLsbD j = (w.toBitVec.getLsbD j || decide (k = j)) := by
  show (w.toBitVec ||| ((1 : Int64) <<< ((nI k).toInt64 &&& 63)).toBitVec).getLsbD j = _
  rw [one_k k hk, BitVec.getLsbD_or, BitVec.getLsbD_twoPow]
  simp [hk]
theorem andn_k (w : Int64) {k : Nat} (hk : k < 64) {j : Nat} (hj : j < 64) : (w &&& (1 <<< ((nI k).toInt64 &&& 63) ^^^ -1)).toBitVec.getLsbD j = (w.toBitVec.getLsbD j && !decide (k = j)) := by
  show (w.toBitVec &&& (((1 : Int64) <<< ((nI k).toInt64 &&& 63)).toBitVec ^^^ (-1 : Int64).toBitVec)).getLsbD j = _
  rw [one_k k hk, BitVec.getLsbD_and, BitVec.getLsbD_xor, BitVec.getLsbD_twoPow, show (-1 : Int64).toBitVec = BitVec.allOnes 64 from rfl, BitVec.getLsbD_allOnes]
  simp [hk, hj]
set_option maxRecDepth 100000 in
theorem c_holds (hS : SH h) (hc : isCl c) (i : Int32) : aCall (d + 1) 14 [.ref c, .int i] h = some (some (.int (bi (decide (0 ≤ i ∧ i < 128) && hasC h c (cl i)))), h) := by
  rw [aCall_go 60, x14]
  simp only [lg_cmp_ge, lg_cmp_le, lg_cmp_gt, lg_cmp_lt, lg_cmp_eq, ↓ob, ↓pI, ↓pJ, ↓pR, ↓pV, ↓gO, ↓gI, ↓gJ, ↓gR, ↓gL, ↓gT, ↓lI, ↓lJ, ↓lR, psh, isRf, layA, padL, trimO, trimB, ld, ss1, ss2, killL, cmpB, popN, isO, isR, putOk, e_ag, e_agn, List.set_cons_zero, List.set_cons_succ, List.getElem?_cons_zero, List.getElem?_cons_succ, List.length_cons, List.length_nil, Value.category, decide_eq_true_eq, reduceIte, Nat.reduceAdd, Nat.reduceEqDiff, Nat.reduceLeDiff, reduceCtorEq, and_self, and_true, true_and, not_true_eq_false, not_false_eq_true, or_false, false_or, or_true, true_or, beq_self_eq_true, Nat.reduceBEq, Bool.false_eq_true, false_implies, forall_const, ↓s14_0, ↓s14_1, ↓s14_4, ↓s14_5, ↓s14_8, ↓s14_11, ↓s14_12, ↓s14_14, ↓s14_17, ↓s14_18, ↓s14_21, ↓s14_24, ↓s14_25, ↓s14_28, ↓s14_29, ↓s14_31, ↓s14_32, ↓s14_33, ↓s14_34, ↓s14_35, ↓s14_36, ↓s14_37, ↓s14_40, ↓s14_41, ↓s14_44, ↓s14_45, ↓C0 hS hc, ↓C1 hS hc]
  by_cases h0 : i < 0
  · rw [if_pos h0, decide_eq_false (fun q => absurd h0 (Int32.not_lt.mpr q.1))]; rfl
  rw [if_neg h0]
  by_cases h1 : 128 ≤ i
  · rw [if_pos h1, decide_eq_false (fun q => absurd h1 (Int32.not_le.mpr q.2))]; rfl
  rw [if_neg h1, decide_eq_true ⟨Int32.not_lt.mp h0, Int32.not_le.mp h1⟩, Bool.true_and]
  obtain ⟨k, hk, rfl, e⟩ := i_nat (n := 128) (by decide) h0 (Int32.not_le.mp h1)
  rw [e, and63 k hk, show (64 : Int32) = nI 64 from rfl]
  simp only [n_le (show 64 < 2147483648 by decide) (show k < 2147483648 by omega), bitT _ (Nat.mod_lt k (by decide : 0 < 64))]
  unfold hasC
  by_cases h2 : 64 ≤ k
  · rw [if_pos h2, show k % 64 = k - 64 by omega, if_neg (show ¬ k < 64 by omega)]
    cases (gj h c 1).toBitVec.getLsbD (k - 64) <;> rfl
  · rw [if_neg h2, show k % 64 = k by omega, if_pos (show k < 64 by omega)]
    cases (gj h c 0).toBitVec.getLsbD k <;> rfl
set_option maxRecDepth 100000 in
theorem c_set (hS : SH h) (hc : isCl c) (i : Int32) (b : Bool) : ∃ h', aCall (d + 1) 15 [.ref c, .int i, .int (bi b)] h = some (none, h') ∧ Fr [c] h h' ∧ ∀ j, j < 128 → hasC h' c j = if nI j = i then b else hasC h c j := by
  rw [aCall_go 60, x15]
  simp only [lg_cmp_ge, lg_cmp_le, lg_cmp_gt, lg_cmp_lt, lg_cmp_eq, ↓ob, ↓pI, ↓pJ, ↓pR, ↓pV, ↓gO, ↓gI, ↓gJ, ↓gR, ↓gL, ↓gT, ↓lI, ↓lJ, ↓lR, psh, isRf, layA, padL, trimO, trimB, ld, ss1, ss2, killL, cmpB, popN, isO, isR, putOk, e_ag, e_agn, List.set_cons_zero, List.set_cons_succ, List.getElem?_cons_zero, List.getElem?_cons_succ, List.length_cons, List.length_nil, Value.category, decide_eq_true_eq, reduceIte, Nat.reduceAdd, Nat.reduceEqDiff, Nat.reduceLeDiff, reduceCtorEq, and_self, and_true, true_and, not_true_eq_false, not_false_eq_true, or_false, false_or, or_true, true_or, beq_self_eq_true, Nat.reduceBEq, Bool.false_eq_true, false_implies, forall_const, ↓s15_0, ↓s15_1, ↓s15_4, ↓s15_5, ↓s15_8, ↓s15_11, ↓s15_12, ↓s15_13, ↓s15_14, ↓s15_16, ↓s15_17, ↓s15_18, ↓s15_19, ↓s15_20, ↓s15_22, ↓s15_25, ↓s15_26, ↓s15_27, ↓s15_30, ↓s15_31, ↓s15_34, ↓s15_35, ↓s15_36, ↓s15_39, ↓s15_40, ↓s15_43, ↓s15_44, ↓s15_47, ↓s15_48, ↓s15_49, ↓s15_52, ↓s15_55, ↓s15_56, ↓s15_57, ↓s15_60, ↓s15_61, ↓s15_64, ↓s15_65, ↓s15_66, ↓s15_69, ↓s15_70, ↓s15_73, ↓s15_74, ↓s15_77, ↓s15_78, ↓s15_79, ↓s15_82, ↓C0 hS hc, ↓C1 hS hc, ↓D0 hS hc, ↓D1 hS hc]
  by_cases h0 : i < 0
  · rw [if_pos h0]
    exact ⟨h, rfl, Fr.rf hS _, fun j hj => by rw [if_neg (fun q => n_neg (show j < 2147483648 by omega) (by rw [q]; exact h0))]⟩
  rw [if_neg h0]
  by_cases h1 : i < 128
  · rw [if_pos h1]
    obtain ⟨k, hk, rfl, e⟩ := i_nat (n := 128) (by decide) h0 h1
    rw [and63 k hk, show (64 : Int32) = nI 64 from rfl]
    simp only [n_le (show 64 < 2147483648 by decide) (show k < 2147483648 by omega)]
    have hm : k % 64 < 64 := Nat.mod_lt _ (by decide)
    by_cases h2 : 64 ≤ k
    · rw [if_pos h2]
      cases b
      · rw [if_pos (show bi false = 0 from rfl)]
        refine ⟨_, rfl, Fr_wj hS, fun j hj => ?_⟩
        rw [hasC_wj1 hS hc]
        by_cases h3 : j < 64
        · rw [if_pos h3, if_neg (fun q => by rw [n_eq (by omega) (by omega)] at q; omega)]
        · rw [if_neg h3, andn_k _ hm (by omega)]
          by_cases h4 : j = k
          · subst h4
            rw [if_pos rfl, show j % 64 = j - 64 by omega]
            simp
          · rw [if_neg (fun q => h4 ((n_eq (by omega) (by omega)).mp q)), decide_eq_false (by omega)]
            unfold hasC
            rw [if_neg h3]
            simp
      · rw [if_neg (show ¬ bi true = 0 by decide)]
        refine ⟨_, rfl, Fr_wj hS, fun j hj => ?_⟩
        rw [hasC_wj1 hS hc]
        by_cases h3 : j < 64
        · rw [if_pos h3, if_neg (fun q => by rw [n_eq (by omega) (by omega)] at q; omega)]
        · rw [if_neg h3, or_k _ hm (by omega)]
          by_cases h4 : j = k
          · subst h4
            rw [if_pos rfl, show j % 64 = j - 64 by omega]
            simp
          · rw [if_neg (fun q => h4 ((n_eq (by omega) (by omega)).mp q)), decide_eq_false (by omega)]
            unfold hasC
            rw [if_neg h3]
            simp
    · rw [if_neg h2]
      cases b
      · rw [if_pos (show bi false = 0 from rfl)]
        refine ⟨_, rfl, Fr_wj hS, fun j hj => ?_⟩
        rw [hasC_wj0 hS hc]
        by_cases h3 : j < 64
        · rw [if_pos h3, andn_k _ hm (by omega)]
          by_cases h4 : j = k
          · subst h4
            rw [if_pos rfl, show j % 64 = j by omega]
            simp
          · rw [if_neg (fun q => h4 ((n_eq (by omega) (by omega)).mp q)), decide_eq_false (by omega)]
            unfold hasC
            rw [if_pos h3]
            simp
        · rw [if_neg h3, if_neg (fun q => by rw [n_eq (by omega) (by omega)] at q; omega)]
      · rw [if_neg (show ¬ bi true = 0 by decide)]
        refine ⟨_, rfl, Fr_wj hS, fun j hj => ?_⟩
        rw [hasC_wj0 hS hc]
        by_cases h3 : j < 64
        · rw [if_pos h3, or_k _ hm (by omega)]
          by_cases h4 : j = k
          · subst h4
            rw [if_pos rfl, show j % 64 = j by omega]
            simp
          · rw [if_neg (fun q => h4 ((n_eq (by omega) (by omega)).mp q)), decide_eq_false (by omega)]
            unfold hasC
            rw [if_pos h3]
            simp
        · rw [if_neg h3, if_neg (fun q => by rw [n_eq (by omega) (by omega)] at q; omega)]
  · rw [if_neg h1]
    refine ⟨h, rfl, Fr.rf hS _, fun j hj => ?_⟩
    rw [if_neg (fun q => h1 (by rw [← q, show (128 : Int32) = nI 128 from rfl, n_lt (by omega) (by decide)]; exact hj))]
theorem c_setN (hS : SH h) (hc : isCl c) {k : Nat} (hk : k < 2147483648) (b : Bool) : ∃ h', aCall (d + 1) 15 [.ref c, .int (nI k), .int (bi b)] h = some (none, h') ∧ Fr [c] h h' ∧ ∀ j, j < 128 → hasC h' c j = if j = k then b else hasC h c j := by
  obtain ⟨h', e, f, g⟩ := c_set (d := d) hS hc (nI k) b
  refine ⟨h', e, f, fun j hj => ?_⟩
  rw [g j hj]
  by_cases q : j = k
  · rw [if_pos q, if_pos (by rw [q])]
  · rw [if_neg q, if_neg (fun z => q ((n_eq (by omega) hk).mp z))]
theorem c_holdsN (hS : SH h) (hc : isCl c) {k : Nat} (hk : k < 128) : aCall (d + 1) 14 [.ref c, .int (nI k)] h = some (some (.int (bi (hasC h c k))), h) := by
  rw [c_holds hS hc, cl_n (by omega), decide_eq_true ⟨Int32.not_lt.mp (n_neg (by omega)), (n_lt (a := k) (b := 128) (by omega) (by decide)).mpr hk⟩]
  rfl
theorem cntC : cntB (hasC h c) 128 = cntB (fun k => (gj h c 0).toBitVec.getLsbD k) 64 + cntB (fun k => (gj h c 1).toBitVec.getLsbD k) 64 := by
  rw [show 128 = 64 + 64 from rfl, cntB_add]
  refine (congr (congrArg HAdd.hAdd ?_) ?_)
  · exact cntB_congr (fun i hi => by unfold hasC; rw [if_pos hi])
  · exact cntB_congr (fun i hi => by unfold hasC; rw [if_neg (by omega), Nat.add_sub_cancel_left])
set_option maxRecDepth 100000 in
theorem c_size (hS : SH h) (hc : isCl c) : aCall (d + 2) 16 [.ref c] h = some (some (.int (nI (cntB (hasC h c) 128))), h) := by
  rw [aCall_go 60, x16]
  simp only [lg_cmp_ge, lg_cmp_le, lg_cmp_gt, lg_cmp_lt, lg_cmp_eq, ↓ob, ↓pI, ↓pJ, ↓pR, ↓pV, ↓gO, ↓gI, ↓gJ, ↓gR, ↓gL, ↓gT, ↓lI, ↓lJ, ↓lR, psh, isRf, layA, padL, trimO, trimB, ld, ss1, ss2, killL, cmpB, popN, isO, isR, putOk, e_ag, e_agn, List.set_cons_zero, List.set_cons_succ, List.getElem?_cons_zero, List.getElem?_cons_succ, List.length_cons, List.length_nil, Value.category, decide_eq_true_eq, reduceIte, Nat.reduceAdd, Nat.reduceEqDiff, Nat.reduceLeDiff, reduceCtorEq, and_self, and_true, true_and, not_true_eq_false, not_false_eq_true, or_false, false_or, or_true, true_or, beq_self_eq_true, Nat.reduceBEq, Bool.false_eq_true, false_implies, forall_const, ↓s16_0, ↓s16_1, ↓s16_4, ↓s16_7, ↓s16_8, ↓s16_11, ↓s16_14, ↓s16_15, x292, ↓C0 hS hc, ↓C1 hS hc, c_bitCount, ↓kont_go 60]
  rw [n_add, cntC]
set_option maxRecDepth 100000 in
theorem c_cclear (hS : SH h) (hc : isCl c) : ∃ h', aCall (d + 1) 17 [.ref c] h = some (none, h') ∧ Fr [c] h h' ∧ ∀ j, j < 128 → hasC h' c j = false := by
  rw [aCall_go 60, x17]
  simp only [lg_cmp_ge, lg_cmp_le, lg_cmp_gt, lg_cmp_lt, lg_cmp_eq, ↓ob, ↓pI, ↓pJ, ↓pR, ↓pV, ↓gO, ↓gI, ↓gJ, ↓gR, ↓gL, ↓gT, ↓lI, ↓lJ, ↓lR, psh, isRf, layA, padL, trimO, trimB, ld, ss1, ss2, killL, cmpB, popN, isO, isR, putOk, e_ag, e_agn, List.set_cons_zero, List.set_cons_succ, List.getElem?_cons_zero, List.getElem?_cons_succ, List.length_cons, List.length_nil, Value.category, decide_eq_true_eq, reduceIte, Nat.reduceAdd, Nat.reduceEqDiff, Nat.reduceLeDiff, reduceCtorEq, and_self, and_true, true_and, not_true_eq_false, not_false_eq_true, or_false, false_or, or_true, true_or, beq_self_eq_true, Nat.reduceBEq, Bool.false_eq_true, false_implies, forall_const, ↓s17_0, ↓s17_1, ↓s17_2, ↓s17_5, ↓s17_6, ↓s17_7, ↓s17_10, ↓D0 hS hc, ↓D1 (SH_wj hS) hc]
  refine ⟨_, rfl, (Fr_wj hS).trans (Fr_wj (SH_wj hS)), fun j hj => ?_⟩
  rw [hasC_wj1 (SH_wj hS) hc, hasC_wj0 hS hc]
  by_cases h3 : j < 64
  · rw [if_pos h3, if_pos h3]; exact BitVec.getLsbD_zero
  · rw [if_neg h3]; exact BitVec.getLsbD_zero
end CELLS
section CELLS2
variable {d c e : Nat} {h : AH}
set_option maxRecDepth 100000 in
theorem c_ccopy (hS : SH h) (hc : isCl c) (he : isCl e) : ∃ h', aCall (d + 1) 19 [.ref c, .ref e] h = some (none, h') ∧ Fr [c] h h' ∧ ∀ j, j < 128 → hasC h' c j = hasC h e j := by
  rw [aCall_go 60, x19]
  simp only [lg_cmp_ge, lg_cmp_le, lg_cmp_gt, lg_cmp_lt, lg_cmp_eq, ↓ob, ↓pI, ↓pJ, ↓pR, ↓pV, ↓gO, ↓gI, ↓gJ, ↓gR, ↓gL, ↓gT, ↓lI, ↓lJ, ↓lR, psh, isRf, layA, padL, trimO, trimB, ld, ss1, ss2, killL, cmpB, popN, isO, isR, putOk, e_ag, e_agn, List.set_cons_zero, List.set_cons_succ, List.getElem?_cons_zero, List.getElem?_cons_succ, List.length_cons, List.length_nil, Value.category, decide_eq_true_eq, reduceIte, Nat.reduceAdd, Nat.reduceEqDiff, Nat.reduceLeDiff, reduceCtorEq, and_self, and_true, true_and, not_true_eq_false, not_false_eq_true, or_false, false_or, or_true, true_or, beq_self_eq_true, Nat.reduceBEq, Bool.false_eq_true, false_implies, forall_const, ↓s19_0, ↓s19_1, ↓s19_2, ↓s19_5, ↓s19_8, ↓s19_9, ↓s19_10, ↓s19_13, ↓s19_16, ↓C0 hS he, ↓C1 (SH_wj hS) he, ↓D0 hS hc, ↓D1 (SH_wj hS) hc]
  refine ⟨_, rfl, (Fr_wj hS).trans (Fr_wj (SH_wj hS)), fun j hj => ?_⟩
  rw [hasC_wj1 (SH_wj hS) hc, hasC_wj0 hS hc, gj_wj_n (by intro q; exact absurd q.2 (by decide))]
  unfold hasC
  by_cases h3 : j < 64
  · rw [if_pos h3, if_pos h3, if_pos h3]
  · rw [if_neg h3, if_neg h3]
set_option maxRecDepth 100000 in
theorem c_retain (hS : SH h) (hc : isCl c) (he : isCl e) : ∃ h', aCall (d + 1) 20 [.ref c, .ref e] h = some (none, h') ∧ Fr [c] h h' ∧ ∀ j, j < 128 → hasC h' c j = (hasC h c j && hasC h e j) := by
  rw [aCall_go 60, x20]
  simp only [lg_cmp_ge, lg_cmp_le, lg_cmp_gt, lg_cmp_lt, lg_cmp_eq, ↓ob, ↓pI, ↓pJ, ↓pR, ↓pV, ↓gO, ↓gI, ↓gJ, ↓gR, ↓gL, ↓gT, ↓lI, ↓lJ, ↓lR, psh, isRf, layA, padL, trimO, trimB, ld, ss1, ss2, killL, cmpB, popN, isO, isR, putOk, e_ag, e_agn, List.set_cons_zero, List.set_cons_succ, List.getElem?_cons_zero, List.getElem?_cons_succ, List.length_cons, List.length_nil, Value.category, decide_eq_true_eq, reduceIte, Nat.reduceAdd, Nat.reduceEqDiff, Nat.reduceLeDiff, reduceCtorEq, and_self, and_true, true_and, not_true_eq_false, not_false_eq_true, or_false, false_or, or_true, true_or, beq_self_eq_true, Nat.reduceBEq, Bool.false_eq_true, false_implies, forall_const, ↓s20_0, ↓s20_1, ↓s20_2, ↓s20_5, ↓s20_6, ↓s20_9, ↓s20_10, ↓s20_13, ↓s20_14, ↓s20_15, ↓s20_18, ↓s20_19, ↓s20_22, ↓s20_23, ↓s20_26, ↓C0 hS hc, ↓C0 hS he, ↓C1 (SH_wj hS) hc, ↓C1 (SH_wj hS) he, ↓D0 hS hc, ↓D1 (SH_wj hS) hc]
  refine ⟨_, rfl, (Fr_wj hS).trans (Fr_wj (SH_wj hS)), fun j hj => ?_⟩
  rw [hasC_wj1 (SH_wj hS) hc, hasC_wj0 hS hc, gj_wj_n (by intro q; exact absurd q.2 (by decide)), gj_wj_n (by intro q; exact absurd q.2 (by decide))]
  unfold hasC
  by_cases h3 : j < 64
  · rw [if_pos h3, if_pos h3, if_pos h3, if_pos h3]; exact BitVec.getLsbD_and
  · rw [if_neg h3, if_neg h3, if_neg h3]; exact BitVec.getLsbD_and
set_option maxRecDepth 100000 in
theorem c_include (hS : SH h) (hc : isCl c) (he : isCl e) : ∃ h', aCall (d + 1) 21 [.ref c, .ref e] h = some (none, h') ∧ Fr [c] h h' ∧ ∀ j, j < 128 → hasC h' c j = (hasC h c j || hasC h e j) := by
  rw [aCall_go 60, x21]
  simp only [lg_cmp_ge, lg_cmp_le, lg_cmp_gt, lg_cmp_lt, lg_cmp_eq, ↓ob, ↓pI, ↓pJ, ↓pR, ↓pV, ↓gO, ↓gI, ↓gJ, ↓gR, ↓gL, ↓gT, ↓lI, ↓lJ, ↓lR, psh, isRf, layA, padL, trimO, trimB, ld, ss1, ss2, killL, cmpB, popN, isO, isR, putOk, e_ag, e_agn, List.set_cons_zero, List.set_cons_succ, List.getElem?_cons_zero, List.getElem?_cons_succ, List.length_cons, List.length_nil, Value.category, decide_eq_true_eq, reduceIte, Nat.reduceAdd, Nat.reduceEqDiff, Nat.reduceLeDiff, reduceCtorEq, and_self, and_true, true_and, not_true_eq_false, not_false_eq_true, or_false, false_or, or_true, true_or, beq_self_eq_true, Nat.reduceBEq, Bool.false_eq_true, false_implies, forall_const, ↓s21_0, ↓s21_1, ↓s21_2, ↓s21_5, ↓s21_6, ↓s21_9, ↓s21_10, ↓s21_13, ↓s21_14, ↓s21_15, ↓s21_18, ↓s21_19, ↓s21_22, ↓s21_23, ↓s21_26, ↓C0 hS hc, ↓C0 hS he, ↓C1 (SH_wj hS) hc, ↓C1 (SH_wj hS) he, ↓D0 hS hc, ↓D1 (SH_wj hS) hc]
  refine ⟨_, rfl, (Fr_wj hS).trans (Fr_wj (SH_wj hS)), fun j hj => ?_⟩
  rw [hasC_wj1 (SH_wj hS) hc, hasC_wj0 hS hc, gj_wj_n (by intro q; exact absurd q.2 (by decide)), gj_wj_n (by intro q; exact absurd q.2 (by decide))]
  unfold hasC
  by_cases h3 : j < 64
  · rw [if_pos h3, if_pos h3, if_pos h3, if_pos h3]; exact BitVec.getLsbD_or
  · rw [if_neg h3, if_neg h3, if_neg h3]; exact BitVec.getLsbD_or
theorem andnot (x y : Int64) {j : Nat} (hj : j < 64) : (x &&& (y ^^^ -1)).toBitVec.getLsbD j = (x.toBitVec.getLsbD j && !y.toBitVec.getLsbD j) := by
  show (x.toBitVec &&& (y.toBitVec ^^^ BitVec.allOnes 64)).getLsbD j = _
  rw [BitVec.getLsbD_and, BitVec.getLsbD_xor, BitVec.getLsbD_allOnes]
  simp [hj]
set_option maxRecDepth 100000 in
theorem c_drop (hS : SH h) (hc : isCl c) (he : isCl e) : ∃ h', aCall (d + 1) 22 [.ref c, .ref e] h = some (none, h') ∧ Fr [c] h h' ∧ ∀ j, j < 128 → hasC h' c j = (hasC h c j && !hasC h e j) := by
  rw [aCall_go 60, x22]
  simp only [lg_cmp_ge, lg_cmp_le, lg_cmp_gt, lg_cmp_lt, lg_cmp_eq, ↓ob, ↓pI, ↓pJ, ↓pR, ↓pV, ↓gO, ↓gI, ↓gJ, ↓gR, ↓gL, ↓gT, ↓lI, ↓lJ, ↓lR, psh, isRf, layA, padL, trimO, trimB, ld, ss1, ss2, killL, cmpB, popN, isO, isR, putOk, e_ag, e_agn, List.set_cons_zero, List.set_cons_succ, List.getElem?_cons_zero, List.getElem?_cons_succ, List.length_cons, List.length_nil, Value.category, decide_eq_true_eq, reduceIte, Nat.reduceAdd, Nat.reduceEqDiff, Nat.reduceLeDiff, reduceCtorEq, and_self, and_true, true_and, not_true_eq_false, not_false_eq_true, or_false, false_or, or_true, true_or, beq_self_eq_true, Nat.reduceBEq, Bool.false_eq_true, false_implies, forall_const, ↓s22_0, ↓s22_1, ↓s22_2, ↓s22_5, ↓s22_6, ↓s22_9, ↓s22_12, ↓s22_13, ↓s22_14, ↓s22_17, ↓s22_18, ↓s22_19, ↓s22_22, ↓s22_23, ↓s22_26, ↓s22_29, ↓s22_30, ↓s22_31, ↓s22_34, ↓C0 hS hc, ↓C0 hS he, ↓C1 (SH_wj hS) hc, ↓C1 (SH_wj hS) he, ↓D0 hS hc, ↓D1 (SH_wj hS) hc]
  refine ⟨_, rfl, (Fr_wj hS).trans (Fr_wj (SH_wj hS)), fun j hj => ?_⟩
  rw [hasC_wj1 (SH_wj hS) hc, hasC_wj0 hS hc, gj_wj_n (by intro q; exact absurd q.2 (by decide)), gj_wj_n (by intro q; exact absurd q.2 (by decide))]
  unfold hasC
  by_cases h3 : j < 64
  · rw [if_pos h3, if_pos h3, if_pos h3, if_pos h3]; exact andnot _ _ h3
  · rw [if_neg h3, if_neg h3, if_neg h3]; exact andnot _ _ (by omega)
end CELLS2
