/-! CALL homes: the model: labels come to rest -/
def LbM (h : AH) (N : Nat) (L : Nat → Int) : Prop := ∀ c, c < N → ai h 116 c = I (L c)
def LbI (n m : Nat) (cor : Bool) (A : St) (L : Nat → Int) : Prop := ∀ c, c < n * m → (A c = false → L c = -1) ∧ (A c = true → ∃ v : Nat, L c = (v : Int) ∧ v ≤ c ∧ A v = true ∧ con (n * m) (reB n cor A) v c)
def badL (n : Nat) (cor : Bool) (L : Nat → Int) (c o : Nat) : Prop := meB n cor c o = true ∧ 0 ≤ L c ∧ 0 ≤ L o ∧ L o < L c
def muL (N : Nat) (L : Nat → Int) : Nat := sumN (fun c => (L c + 1).toNat) N
def updL (L : Nat → Int) (c : Nat) (v : Int) : Nat → Int := fun j => if j = c then v else L j
def Sw (h h1 : AH) (g : GT) (cor : Bool) (A : St) (L0 : Nat → Int) (more : Bool) (c o : Nat) (L : Nat → Int) : Prop := FM [116] [] h h1 ∧ LbM h1 (nC g) L ∧ LbI g.2.2.1 g.2.2.2.2.2.1 cor A L ∧ (more = false → L = L0 ∧ ∀ c' o', (c' < c ∨ (c' = c ∧ o' < o)) → o' < nC g → ¬ badL g.2.2.1 cor L0 c' o') ∧ (more = true → muL (nC g) L < muL (nC g) L0)
section LABELS
variable {d n m s c o k l : Nat} {h h1 : AH} {g : GT} {X : ST4} {is cor : Bool} {A : St} {L L0 : Nat → Int}
theorem sumN_le {f k : Nat → Nat} : ∀ {N : Nat}, (∀ j, j < N → f j ≤ k j) → sumN f N ≤ sumN k N
  | 0, _ => Nat.le_refl _
  | N + 1, H => Nat.add_le_add (sumN_le fun j hj => H j (by omega)) (H N (by omega))
theorem sumN_lt {f k : Nat → Nat} {c : Nat} : ∀ {N : Nat}, (∀ j, j < N → f j ≤ k j) → c < N → f c < k c → sumN f N < sumN k N
  | 0, _, hc, _ => absurd hc (Nat.not_lt_zero _)
  | N + 1, H, hc, hl => by
    show sumN f N + f N < sumN k N + k N
    by_cases e : c = N
    · subst e
      exact Nat.add_lt_add_of_le_of_lt (sumN_le fun j hj => H j (by omega)) hl
    · exact Nat.add_lt_add_of_lt_of_le (sumN_lt (fun j hj => H j (by omega)) (by omega) hl) (H N (by omega))
theorem LbI.b (I0 : LbI n m cor A L) (hc : c < n * m) : -1 ≤ L c ∧ L c ≤ (c : Int) := by
  obtain ⟨a, b⟩ := I0 c hc
  cases z : A c
  · have := a z; omega
  · obtain ⟨v, e, l, -⟩ := b z
    omega
theorem LbI.t (I0 : LbI n m cor A L) (hc : c < n * m) (h0 : 0 ≤ L c) : A c = true := by
  cases z : A c
  · have := (I0 c hc).1 z; omega
  · rfl
theorem LbI.up (I0 : LbI n m cor A L) (hc : c < n * m) (ho : o < n * m) (b : badL n cor L c o) : LbI n m cor A (updL L c (L o)) ∧ muL (n * m) (updL L c (L o)) < muL (n * m) L := by
  obtain ⟨b1, b2, b3, b4⟩ := b
  have ac := I0.t hc b2
  have ao := I0.t ho b3
  obtain ⟨v, e, l, av, k⟩ := (I0 o ho).2 ao
  obtain ⟨w, e', l', -, -⟩ := (I0 c hc).2 ac
  refine ⟨fun j hj => ?_, ?_⟩
  · unfold updL
    by_cases q : j = c
    · rw [if_pos q, q]
      refine ⟨fun z => by rw [z] at ac; (nomatch ac), fun _ => ⟨v, e, by omega, av, k.st ho hc (reB_iff.mpr ⟨ao, ac, meB_symm b1⟩)⟩⟩
    · rw [if_neg q]
      exact I0 j hj
  · unfold muL
    refine sumN_lt (c := c) (fun j hj => ?_) hc ?_
    · show (updL L c (L o) j + 1).toNat ≤ (L j + 1).toNat
      unfold updL
      by_cases q : j = c
      · rw [if_pos q, q]; omega
      · rw [if_neg q]; exact Nat.le_refl _
    · show (updL L c (L o) c + 1).toNat < (L c + 1).toNat
      unfold updL
      rw [if_pos rfl]
      omega
theorem LbM.up (M : LbM h (nC g) L) (hS : SH h) {v : Int} : LbM (wAI h 116 (upd (ai h 116) c (I v))) (nC g) (updL L c v) := fun j hj => by
  rw [a116 hS]
  unfold upd updL
  by_cases q : j = c
  · rw [if_pos q, if_pos q]
  · rw [if_neg q, if_neg q]; exact M j hj
theorem sw_o (G : MGg h g) (B : GBg g) (hc : c < nC g) : ∀ (r o : Nat) (more : Bool) (h1 : AH) (L : Nat → Int), o + r = nC g → Sw h h1 g cor A L0 more c o L → ∃ more' h' L', hpO d s is cor more c o h1 = hpO d s is cor more' c (nC g) h' ∧ Sw h h' g cor A L0 more' c (nC g) L' := by
  have hN : nC g ≤ 128 := B.2.2.1
  intro r
  induction r with
  | zero =>
    intro o more h1 L e W
    have e : o = nC g := by omega
    subst e
    exact ⟨more, h1, L, rfl, W⟩
  | succ r ih =>
    intro o more h1 L e W
    obtain ⟨F, M, I0, w1, w2⟩ := W
    have ho : o < nC g := by omega
    have S1 := F.s
    have G1 := G.keep F (by decide)
    have bc := I0.b (c := c) hc
    have b_o := I0.b (c := o) ho
    have st := hp_o (d := d) (s := s) (is := is) (cor := cor) (more := more) S1 G1 B hc ho (M c hc) (M o ho) ⟨by omega, by omega⟩ ⟨by omega, by omega⟩
    by_cases b : badL g.2.2.1 cor L c o
    · have b' : meB g.2.2.1 cor c o = true ∧ 0 ≤ L c ∧ 0 ≤ L o ∧ L o < L c := b
      rw [if_pos b'] at st
      obtain ⟨I1, mu⟩ := I0.up hc ho b
      have mu0 : muL (nC g) L ≤ muL (nC g) L0 := by
        cases more
        · rw [(w1 rfl).1]; exact Nat.le_refl _
        · exact Nat.le_of_lt (w2 rfl)
      have mu : muL (nC g) (updL L c (L o)) < muL (nC g) L := mu
      obtain ⟨m', h', L', e2, W'⟩ := ih (o + 1) true (wAI h1 116 (upd (ai h1 116) c (I (L o)))) (updL L c (L o)) (by omega) ⟨F.swAI (by decide), M.up S1, I1, fun z => (nomatch z), fun _ => Nat.lt_of_lt_of_le mu mu0⟩
      exact ⟨m', h', L', st.trans e2, W'⟩
    · rw [if_neg (show ¬ (meB g.2.2.1 cor c o = true ∧ 0 ≤ L c ∧ 0 ≤ L o ∧ L o < L c) from b)] at st
      obtain ⟨m', h', L', e2, W'⟩ := ih (o + 1) more h1 L (by omega) ⟨F, M, I0, fun z => ⟨(w1 z).1, fun c' o' q hq => by
        by_cases y : c' = c ∧ o' = o
        · rw [y.1, y.2, ← (w1 z).1]; exact b
        · exact (w1 z).2 c' o' (by omega) hq⟩, w2⟩
      exact ⟨m', h', L', st.trans e2, W'⟩
theorem sw_c (G : MGg h g) (B : GBg g) : ∀ (r c : Nat) (more : Bool) (h1 : AH) (L : Nat → Int), c + r = nC g → Sw h h1 g cor A L0 more c 0 L → ∃ more' h' L', hpC d s is cor more c h1 = hpM d s is cor more' h' ∧ Sw h h' g cor A L0 more' (nC g) 0 L' := by
  have hN : nC g ≤ 128 := B.2.2.1
  intro r
  induction r with
  | zero =>
    intro c more h1 L e W
    have e : c = nC g := by omega
    subst e
    exact ⟨more, h1, L, hp_cx W.1.s (G.keep W.1 (by decide)) B, W⟩
  | succ r ih =>
    intro c more h1 L e W
    have hc : c < nC g := by omega
    have e0 := hp_c0 (d := d) (s := s) (is := is) (cor := cor) (more := more) W.1.s (G.keep W.1 (by decide)) B hc
    obtain ⟨m1, h2, L1, e1, W1⟩ := sw_o (d := d) (s := s) (is := is) G B hc (nC g) 0 more h1 L (by omega) W
    have e2 := hp_ox (d := d) (s := s) (is := is) (cor := cor) (more := m1) W1.1.s (G.keep W1.1 (by decide)) B (c := c) (by omega)
    obtain ⟨w1, w2, w3, w4, w5⟩ := W1
    obtain ⟨m2, h3, L2, e3, W2⟩ := ih (c + 1) m1 h2 L1 (by omega) ⟨w1, w2, w3, fun z => ⟨(w4 z).1, fun c' o' q hq => (w4 z).2 c' o' (by omega) hq⟩, w5⟩
    exact ⟨m2, h3, L2, ((e0.trans e1).trans e2).trans e3, W2⟩
theorem sw_all (G : MGg h g) (B : GBg g) (hS : SH h) (M0 : LbM h (nC g) L0) (I0 : LbI g.2.2.1 g.2.2.2.2.2.1 cor A L0) : ∃ h' L, hpM d s is cor true h = some (none, h') ∧ FM [116] [] h h' ∧ LbM h' (nC g) L ∧ LbI g.2.2.1 g.2.2.2.2.2.1 cor A L ∧ ∀ c o, c < nC g → o < nC g → ¬ badL g.2.2.1 cor L c o := by
  have Lp := loopM (fun (w : Bool × Nat) h' => hpM d s is cor w.1 h') (fun w h' => ∃ L, FM [116] [] h h' ∧ LbM h' (nC g) L ∧ LbI g.2.2.1 g.2.2.2.2.2.1 cor A L ∧ muL (nC g) L = w.2 ∧ (w.1 = false → ∀ c o, c < nC g → o < nC g → ¬ badL g.2.2.1 cor L c o)) (fun r => ∃ h' L, r = some (none, h') ∧ FM [116] [] h h' ∧ LbM h' (nC g) L ∧ LbI g.2.2.1 g.2.2.2.2.2.1 cor A L ∧ ∀ c o, c < nC g → o < nC g → ¬ badL g.2.2.1 cor L c o) (fun w => 2 * w.2 + if w.1 then 1 else 0) (fun w h' ⟨L, F, M, I1, mu, nb⟩ => by
    obtain ⟨more, q⟩ := w
    have mu : muL (nC g) L = q := mu
    cases more
    · exact Or.inl ⟨h', L, hp_m0, F, M, I1, nb rfl⟩
    · obtain ⟨m', h2, L', e, W⟩ := sw_c (d := d) (s := s) (is := is) (L0 := L) (G.keep F (by decide)) B (nC g) 0 false h' L (by omega) ⟨FM.rf F.s _ _, M, I1, fun _ => ⟨rfl, fun c' o' q hq => by omega⟩, fun z => (nomatch z)⟩
      obtain ⟨w1, w2, w3, w4, w5⟩ := W
      refine Or.inr ⟨(m', muL (nC g) L'), h2, hp_m1.trans e, ⟨L', F.trans w1, w2, w3, rfl, fun z c o hc ho => ?_⟩, ?_⟩
      · have z : m' = false := z
        rw [(w4 z).1]
        exact (w4 z).2 c o (Or.inl hc) ho
      · show 2 * muL (nC g) L' + (if m' = true then 1 else 0) < 2 * q + (if true = true then 1 else 0)
        rw [if_pos rfl]
        cases m'
        · rw [(w4 rfl).1, mu, if_neg (by simp)]; omega
        · have := w5 rfl
          rw [if_pos rfl]
          omega) (true, muL (nC g) L0) h ⟨L0, FM.rf hS _ _, M0, I0, rfl, fun z => (nomatch z)⟩
  obtain ⟨h', L, r⟩ := Lp
  exact ⟨h', L, r⟩
/-- labels at rest -/
theorem lb_con (I0 : LbI n m cor A L) (nb : ∀ c o, c < n * m → o < n * m → ¬ badL n cor L c o) (hc : c < n * m) (ac : A c = true) (k : con (n * m) (reB n cor A) c o) : o < n * m ∧ A o = true ∧ L o = L c := k (fun x => x < n * m ∧ A x = true ∧ L x = L c) ⟨hc, ac, rfl⟩ (fun x y hx hy s r => by
  rw [reB_iff] at r
  obtain ⟨r1, r2, r3⟩ := r
  obtain ⟨v, e1, -⟩ := (I0 x hx).2 r1
  obtain ⟨w, e2, -⟩ := (I0 y hy).2 r2
  have n1 : ¬ L y < L x := fun z => nb x y hx hy ⟨r3, by omega, by omega, z⟩
  have n2 : ¬ L x < L y := fun z => nb y x hy hx ⟨meB_symm r3, by omega, by omega, z⟩
  refine ⟨hy, r2, ?_⟩
  have := s.2.2
  omega)
theorem lb_id (I0 : LbI n m cor A L) (nb : ∀ c o, c < n * m → o < n * m → ¬ badL n cor L c o) (hc : c < n * m) : L c = (c : Int) ↔ A c = true ∧ ∀ o, o < c → ¬ con (n * m) (reB n cor A) o c := by
  constructor
  · intro e
    have ac := I0.t hc (by omega)
    refine ⟨ac, fun o ho k => ?_⟩
    have k' := k.symm reB_symm
    obtain ⟨lo, ao, eo⟩ := lb_con I0 nb hc ac k'
    have := (I0.b lo).2
    omega
  · rintro ⟨ac, nk⟩
    obtain ⟨v, e, l, av, k⟩ := (I0 c hc).2 ac
    by_cases q : v < c
    · exact absurd k (nk v q)
    · rw [e]; omega
theorem lb_rim (I0 : LbI n m cor A L) (nb : ∀ c o, c < n * m → o < n * m → ¬ badL n cor L c o) (hl : l < n * m) (e : L l = (l : Int)) {P : Nat → Bool} : (∃ c, c < n * m ∧ (L c = (l : Int) ∧ P c = true)) ↔ ∃ c, c < n * m ∧ con (n * m) (reB n cor A) l c ∧ P c = true := by
  have al := I0.t hl (by omega)
  constructor
  · rintro ⟨c, hc, e2, p⟩
    have ac := I0.t hc (by omega)
    obtain ⟨v, e3, -, -, k⟩ := (I0 c hc).2 ac
    have : v = l := by omega
    rw [this] at k
    exact ⟨c, hc, k, p⟩
  · rintro ⟨c, hc, k, p⟩
    obtain ⟨-, -, e2⟩ := lb_con I0 nb hl al k
    exact ⟨c, hc, by rw [e2, e], p⟩
set_option maxRecDepth 100000 in
set_option maxHeartbeats 400000 in
theorem m_parts (hS : SH h) (G : MGg h g) (B : GBg g) (Y : SetM h g X) (hs : s < 4) (hA : ∀ c, c < nC g → (A c = true ↔ X s c = is)) (hA' : ∀ c, A c = true → c < nC g) : ∃ h' L, aCall (d + 4) 288 [.ref 78, .int (nI s), .int (bi is), .int (bi cor)] h = some (none, h') ∧ FM [116] [] h h' ∧ LbM h' (nC g) L ∧ LbI g.2.2.1 g.2.2.2.2.2.1 cor A L ∧ ∀ c o, c < nC g → o < nC g → ¬ badL g.2.2.1 cor L c o := by
  have hN : nC g ≤ 128 := B.2.2.1
  obtain ⟨h1, e1, F1, M1⟩ := fillA (Lp := hpF d s is cor) (r := 116) (f := fun c => if X s c = is then nI c else -1) (n := nC g) hS (fun _ _ S => a116 S) (fun c h' hc F => hp_f (d := d) (cor := cor) F.s (G.keep F (by decide)) B (Y.keep F (by decide)) hs hc)
  have S1 := F1.s
  have G1 := G.keep F1 (by decide)
  obtain ⟨h2, L, e2, F2, M2, I2, nb⟩ := sw_all (d := d) (s := s) (is := is) (cor := cor) (A := A) (L0 := fun c => if A c = true then (c : Int) else -1) G1 B S1 (fun c hc => by
    rw [M1 c, if_pos hc]
    dsimp only
    by_cases z : A c = true
    · rw [if_pos ((hA c hc).mp z), if_pos z, I_nI]
    · rw [if_neg (fun w => z ((hA c hc).mpr w)), if_neg z]; rfl) (fun c hc => ⟨fun z => by dsimp only; rw [z]; rfl, fun z => ⟨c, by dsimp only; rw [if_pos z], Nat.le_refl _, z, con.rf⟩⟩)
  refine ⟨h2, L, ?_, F1.trans F2, M2, I2, nb⟩
  have e0 : aCall (d + 4) 288 [.ref 78, .int (nI s), .int (bi is), .int (bi cor)] h = hpF d s is cor 0 h := by
    rw [aCall_go 200, x288]
    simp (maxSteps := 2000000) (disch := first | (with_reducible ((repeat' first | assumption | apply SH_wi | apply SH_wj | apply SH_wAI | apply SH_wAJ); done)) | omega | ((with_reducible (apply in_n)) <;> omega) | with_reducible exact Or.inl rfl | with_reducible exact Or.inr rfl | with_reducible exact bi_01 _ | ((with_reducible (refine vp_id ?_)); (simp only [gi_wAI, gi_wAJ, gi_wj, gi_wr, gj_wi, gj_wr, gj_wAI, gj_wAJ, gr_wi, gr_wj, gr_wAI, gr_wAJ, ai_wi, ai_wj, ai_wr, ai_wAJ, aj_wi, aj_wj, aj_wr, aj_wAI, ar_wi, ar_wj, ar_wr, ar_wAI, ar_wAJ, gi_wi_n, gj_wj_n, gr_wr_n, ai_wAI_n, aj_wAJ_n, SH_wi, SH_wj, SH_wAI, SH_wAJ, bi_01, and_false, false_and, ne_eq, if_true, if_false, true_and, and_true, not_true_eq_false, not_false_eq_true, Nat.reduceEqDiff, reduceCtorEq, or_true, true_or, n_mul, n_add, n_succ, nlit128, nlit6]); first | with_reducible assumption | ((with_reducible (apply in_n)) <;> omega)) | ((simp only [gi_wAI, gi_wAJ, gi_wj, gi_wr, gj_wi, gj_wr, gj_wAI, gj_wAJ, gr_wi, gr_wj, gr_wAI, gr_wAJ, ai_wi, ai_wj, ai_wr, ai_wAJ, aj_wi, aj_wj, aj_wr, aj_wAI, ar_wi, ar_wj, ar_wr, ar_wAI, ar_wAJ, gi_wi_n, gj_wj_n, gr_wr_n, ai_wAI_n, aj_wAJ_n, SH_wi, SH_wj, SH_wAI, SH_wAJ, bi_01, and_false, false_and, ne_eq, if_true, if_false, true_and, and_true, not_true_eq_false, not_false_eq_true, Nat.reduceEqDiff, reduceCtorEq, or_true, true_or]); first | done | with_reducible assumption)) only [lg_cmp_ge, lg_cmp_le, lg_cmp_gt, lg_cmp_lt, lg_cmp_eq, ↓ob, ↓pI, ↓pJ, ↓pR, ↓pV, ↓gO, ↓gI, ↓gJ, ↓gR, ↓gL, ↓gT, ↓lI, ↓lJ, ↓lR, psh, isRf, layA, padL, trimO, trimB, ld, ss1, ss2, killL, cmpB, popN, isR, putOk, e_ag, e_agn, List.set_cons_zero, List.set_cons_succ, List.getElem?_cons_zero, List.getElem?_cons_succ, List.length_cons, List.length_nil, Value.category, decide_eq_true_eq, reduceIte, Nat.reduceAdd, Nat.reduceEqDiff, Nat.reduceLeDiff, reduceCtorEq, and_self, and_true, true_and, not_true_eq_false, not_false_eq_true, or_false, false_or, or_true, true_or, beq_self_eq_true, Nat.reduceBEq, Bool.false_eq_true, false_implies, forall_const, ↓s288_0, ↓s288_1, ↓l288_3, ↓s288_5, ↓s288_6, ↓s288_9, ↓s288_12, ↓s288_13, ↓s288_16, ↓s288_18, ↓s288_19, ↓s288_20, ↓s288_22, ↓s288_25, ↓s288_26, ↓s288_29, ↓s288_31, ↓s288_34, ↓s288_35, ↓s288_36, ↓s288_39, ↓s288_42, ↓s288_43, ↓l288_45, ↓s288_47, ↓s288_50, ↓s288_51, ↓s288_53, ↓s288_54, ↓l288_56, ↓s288_58, ↓s288_59, ↓s288_62, ↓s288_65, ↓s288_66, ↓l288_68, ↓s288_70, ↓s288_71, ↓s288_74, ↓s288_77, ↓s288_79, ↓s288_80, ↓s288_83, ↓s288_84, ↓s288_86, ↓s288_87, ↓s288_90, ↓s288_91, ↓s288_92, ↓s288_95, ↓s288_97, ↓s288_99, ↓s288_100, ↓s288_103, ↓s288_104, ↓s288_106, ↓s288_107, ↓s288_110, ↓s288_111, ↓s288_112, ↓s288_115, ↓s288_117, ↓s288_118, ↓s288_121, ↓s288_123, ↓s288_124, ↓s288_127, ↓s288_129, ↓s288_130, ↓s288_133, ↓s288_134, ↓s288_137, ↓s288_138, ↓s288_141, ↓s288_143, ↓s288_145, ↓s288_146, ↓s288_147, ↓s288_150, ↓s288_151, ↓s288_154, ↓s288_155, ↓s288_157, ↓s288_159, ↓s288_162, ↓s288_163, ↓s288_166, ↓s288_168, ↓s288_169, ↓s288_172, ↓s288_173, ↓s288_176, ↓s288_178, ↓s288_179, ↓s288_182, ↓s288_183, ↓s288_186, ↓s288_188, ↓s288_189, ↓s288_190, ↓s288_193, ↓s288_195, ↓s288_196, ↓s288_199, ↓s288_200, ↓s288_203, ↓s288_205, ↓s288_206, ↓s288_209, ↓s288_211, ↓s288_212, ↓s288_213, ↓s288_214, ↓s288_216, ↓s288_219, ↓s288_222, ↓s288_225, ↓s288_228, ↓s288_231, x229, x246, x294, nlit2, gi_wAI, gi_wAJ, gi_wj, gi_wr, gj_wi, gj_wr, gj_wAI, gj_wAJ, gr_wi, gr_wj, gr_wAI, gr_wAJ, ai_wi, ai_wj, ai_wr, ai_wAJ, aj_wi, aj_wj, aj_wr, aj_wAI, ar_wi, ar_wj, ar_wr, ar_wAI, ar_wAJ, gi_wi_n, gj_wj_n, gr_wr_n, ai_wAI_n, aj_wAJ_n, SH_wi, SH_wj, SH_wAI, SH_wAJ, bi_01, and_false, false_and, ne_eq, if_true, if_false, true_and, and_true, not_true_eq_false, not_false_eq_true, Nat.reduceEqDiff, reduceCtorEq, or_true, true_or, ltT, ltF, leT, leF, eqF, lt0F, le0T, eq0F, lt0T, le0F, nle1T, nle1F, n1leT, n1leF, nlt1T, nlt1F, n1ltT, n1ltF, neq1F, neq1T, neq0T, nle0T, n0ltF, n_add, n_succ, n_sub, n_sub1, n_mul, ↓n_rem, cl_n, bi_0, bi_ok, bi_ok2, bi_i8, i8_0, i8_1, narb, nar0, nar1, one0, zer1]
    rfl
  rw [e0, e1, hp_fx S1 G1 B, e2]
end LABELS
