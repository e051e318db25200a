/-! THE CALLS that change the state -/
section BLOCKS
variable {h h1 : AH} {L S : List Nat} {nm fk np nb : Nat} {uz : Int} {M : MPT} {E : LE} {g : GT} {ps : Nat → Int} {X : ST4} {f t : Nat → Nat} {b : Bool} {x : SP}
theorem MpsC.keep (m : MpsC h h.1 nm M) (F : Fr L h h1) (hx : low 118 L = true) (k : 5 ∉ L) : MpsC h1 h1.1 nm M := fun i hi => by
  obtain ⟨mo, m1, m2⟩ := m i hi
  refine ⟨mo, by rw [ar_of_ag (F.2.1 5 k)]; exact m1, ?_⟩
  rw [F.2.2.1]
  exact m2.keep F (low_n hx)
theorem StCo.keep2 {N : Nat} (Q : StCo h N b x) (F : Fr L h h1) (k : gi h1 51 2 = gi h 51 2) (k1 : 53 ∉ L) (k2 : 54 ∉ L) : StCo h1 N b x := ⟨k.trans Q.1, fun z c hc => by
  rw [ai_of_ag (F.2.1 53 k1), ai_of_ag (F.2.1 54 k2)]
  exact Q.2 z c hc⟩
theorem CoC.en (C : CoC h nm uz M E g fk ps np X nb f t b x) (hS : SH h) {d y : Nat} {as : List Value} {v : Option Value} (hy : bad45.contains y = false) (q : aCall d y as h = some (v, h1)) : ∃ a b, EnR h1 a b := by
  obtain ⟨a, b, w⟩ := C.2.2.2.2.2.2.2.2.2.2
  exact ⟨a, b, en_kp hS hy q w⟩
theorem CoC.enk (C : CoC h nm uz M E g fk ps np X nb f t b x) (F : Fr L h h1) (k : 45 ∉ L) : ∃ a b, EnR h1 a b := by
  obtain ⟨a, b, w1, w2, w3⟩ := C.2.2.2.2.2.2.2.2.2.2
  exact ⟨a, b, w1, by rw [gr_of_ag (F.2.1 45 k)]; exact w2, by rw [gr_of_ag (F.2.1 45 k)]; exact w3⟩
theorem CoC.w3g (C : CoC h nm uz M E g fk ps np X nb f t b x) (k : ∀ c, gr h1 23 c = gr h 23 c) : ∃ p s r, T3 p s r ∧ Wr3 h1 p s r := by
  obtain ⟨p, s, r, w1, w2, w3, w4⟩ := C.2.2.2.2.2.2.2.2.2.1
  exact ⟨p, s, r, w1, (k 5).trans w2, (k 6).trans w3, (k 7).trans w4⟩
/-- whatever the flags stood for: they are down -/
theorem Cch.down {m : MP1} (k : ∀ j, j < 4 → gi h (58 + 4 * j) 3 = 0) (hn : np ≤ 4) (w : gi h 23 4 = 0) : Cch h g m E fk ps np := ⟨⟨fun j hj => Or.inl (k j (by omega)), fun j _ hj => k j hj⟩, Or.inl w⟩
/-- the model's half, block by block -/
theorem CoM.k1 (D : CoM h nm uz M E g fk ps np X nb f t b x) (F : FM L S h h1) (q : avo [81, 82, 83, 84, 85, 86, 87] L = true) (s : avo [5, 6] S = true) : gi h1 78 5 = nI nm ∧ gi h1 78 6 = I uz ∧ MpsM h1 nm M := ⟨by rw [F.fi (avo_n s rfl)]; exact D.1.1, by rw [F.fi (avo_n s rfl)]; exact D.1.2.1, D.1.2.2.keep F q⟩
end BLOCKS
section OPSTATE
variable {h h1 h2 : AH} {z a s n w k v t c y : Int}
def SLT : List Nat := [43, 51, 53, 54, 55, 74, 75, 76, 77] ++ PNL
theorem op_steer (In : Inv h) (hs : r31 s) (ht : r31 t) (hn : r31 n) : OP 157 280 [.int (I s), .int (I t), .int (I n)] h := by
  obtain ⟨nm, uz, M, E, g, fk, ps, np, X, nb, bf, bt, sb, sx, P, C, D⟩ := id In.core
  have hS := In.1
  have B : GBg g := P.2.2.2.2.2.2.1
  have G := C.2.2.1
  have G' := D.2.2.1
  rcases net_c hS P C D with ⟨N1, N2⟩ | ⟨i, mo, e, hi, pl, eM, R⟩
  · exact OP.same In (c_steerN (d := 588) hS hs ht hn (fun q => q.2.2.2 N1)) (m_steerN (d := 588) hS hs ht hn (fun q => q.2.2.2 N2))
  · by_cases q : okS s = true ∧ okS t = true ∧ (0 ≤ n ∧ n ≤ 60)
    · obtain ⟨s', hs', es⟩ := okS_t.mp q.1
      obtain ⟨t', ht', et⟩ := okS_t.mp q.2.1
      obtain ⟨n', en⟩ : ∃ n' : Nat, n = (n' : Int) := ⟨n.toNat, by omega⟩
      rw [es, et, en, I_nI, I_nI, I_nI]
      obtain ⟨h1, e1, F1, k51, R1, K1, Y1, Q1⟩ := c_steer (d := 591) R P.2.2.2.2.1 C.2.2.2.2.1 (C.cap eM) C.2.2.2.2.2.2.1 hs' ht' (n := n') (by omega)
      have F1 : Fr SLT h h1 := F1.mono (memc (by decide) (memc (by decide) (memc (by decide) (memc (by decide) (memc (by decide) (mem74 ht' (by decide) (by decide)))))))
      have D1 := D.c F1 rfl
      obtain ⟨h2, e2, F2, M2, Y2, Q2⟩ := m_steer (d := 461) (D1.rd P F1.1 e hi pl) D1.2.2.2.2.1 D1.2.2.2.2.2.1 hs' ht' (n := n') (by omega)
      have a0 := F1.2.1 0 (by decide)
      have Pu := C.2.2.2.2.1
      have C1 : CoC h1 nm uz M E g fk ps np _ nb bf bt true _ := ⟨⟨by rw [gi_of_ag a0]; exact C.1.1, by rw [gi_of_ag a0]; exact C.1.2.1, C.1.2.2.keep F1 rfl (by decide)⟩, ⟨R1.2.2.2.1, R1.2.2.2.2.1⟩, R1.2.2.1.2.1, R1.2.2.2.2.2.1, ⟨k51.trans Pu.1, Pu.2.1, Pu.2.2.1, Pu.2.2.2.1, fun j hj => by rw [ai_of_ag (F1.2.1 52 (by decide))]; exact Pu.2.2.2.2.1 j hj, Pu.2.2.2.2.2⟩, by rw [eM]; exact ⟨K1, (C.W eM).keep F1 (by decide)⟩, Y1, C.2.2.2.2.2.2.2.1.keep F1 (by decide) (by decide) (by decide), Q1, C.w3k F1 (by decide), C.enk F1 (by decide)⟩
      exact ⟨_, OPv.go In e1 e2 F1 F2 rfl rfl rfl rfl rfl (In.told.k2 F1 F2 rfl rfl rfl) ⟨nm, uz, M, E, g, fk, ps, np, _, nb, bf, bt, true, _, P, C1.m F2.1 rfl, D1.k1 F2 rfl rfl, M2.2.2.1, D1.2.2.1.keep F2 (by decide), by rw [F2.fi (by decide)]; exact D1.2.2.2.1, D1.2.2.2.2.1.keep F2 (by decide) (by decide), Y2, D1.2.2.2.2.2.2.1.keep F2 (by decide) (by decide) (by decide), Q2⟩⟩
    · exact OP.same In (c_steerN (d := 588) hS hs ht hn (fun w => q ⟨w.1, w.2.1, w.2.2.1⟩)) (m_steerN (d := 588) hS hs ht hn (fun w => q ⟨w.1, w.2.1, w.2.2.1⟩))
theorem op_put (In : Inv h) (hs : r31 s) (hz : r31 z) (v : Bool) : OP 137 248 [.int (I s), .int (I z), .int (bi v)] h := by
  obtain ⟨nm, uz, M, E, g, fk, ps, np, X, nb, bf, bt, sb, sx, P, C, D⟩ := id In.core
  have hS := In.1
  have B : GBg g := P.2.2.2.2.2.2.1
  have G := C.2.2.1
  have G' := D.2.2.1
  by_cases q : okS s = true ∧ okCl g z = true
  · obtain ⟨s', hs', es⟩ := okS_t.mp q.1
    obtain ⟨c, hc, ec⟩ := okCl_t.mp q.2
    rw [es, ec, I_nI, I_nI]
    obtain ⟨h1, e1, F1, Y1⟩ := c_put (d := 597) hS G B C.2.2.2.2.2.2.1 hs' hc v
    have F1 : Fr [74, 75, 76, 77] h h1 := F1.mono (mem74 hs' (by decide) (by decide))
    have D1 := D.c F1 rfl
    obtain ⟨h2, e2, F2, Y2⟩ := m_put (d := 597) F1.1 D1.2.2.1 B D1.2.2.2.2.2.1 hs' hc v
    exact ⟨_, OPv.go In e1 e2 F1 F2 rfl rfl rfl rfl rfl (In.told.k2 F1 F2 rfl rfl rfl) ⟨nm, uz, M, E, g, fk, ps, np, _, nb, bf, bt, sb, sx, P, (C.go F1 rfl rfl (C.2.1.1.keep F1 (by decide) (by decide)) (by rw [gi_of_ag (F1.2.1 6 (by decide))]; exact C.2.1.2) (G.keep F1 (by decide) (by decide) (by decide)) (C.2.2.2.2.2.1.keep F1 C.2.2.2.2.1.2.2.1 rfl) Y1 (C.w3k F1 (by decide))).m F2.1 rfl, D1.go F2 rfl rfl (D1.2.1.keep F2 (by decide)) Y2⟩⟩
  · exact OP.same In (c_putN (d := 588) hS G B hs hz q) (m_putN (d := 588) hS D.2.2.1 B hs hz q)
theorem op_join (In : Inv h) (hs : r31 s) (ht : r31 t) (hw : r31 w) : OP 138 250 [.int (I s), .int (I t), .int (I w)] h := by
  obtain ⟨nm, uz, M, E, g, fk, ps, np, X, nb, bf, bt, sb, sx, P, C, D⟩ := id In.core
  have hS := In.1
  have B : GBg g := P.2.2.2.2.2.2.1
  have G := C.2.2.1
  have G' := D.2.2.1
  by_cases q : okS s = true ∧ okS t = true ∧ (0 ≤ w ∧ w ≤ 4)
  · obtain ⟨s', hs', es⟩ := okS_t.mp q.1
    obtain ⟨t', ht', et⟩ := okS_t.mp q.2.1
    obtain ⟨w', ew⟩ : ∃ w' : Nat, w = (w' : Int) := ⟨w.toNat, by omega⟩
    rw [es, et, ew, I_nI, I_nI, I_nI]
    obtain ⟨h1, e1, F1, Y1⟩ := c_join (d := 596) hS G B C.2.2.2.2.2.2.1 hs' ht' (w := w') (by omega)
    have F1 : Fr [43, 74, 75, 76, 77] h h1 := F1.mono (memc (by decide) (mem74 ht' (by decide) (by decide)))
    have D1 := D.c F1 rfl
    obtain ⟨h2, e2, F2, Y2⟩ := m_join (d := 596) F1.1 D1.2.2.1 B D1.2.2.2.2.2.1 hs' ht' (w := w') (by omega)
    exact ⟨_, OPv.go In e1 e2 F1 F2 rfl rfl rfl rfl rfl (In.told.k2 F1 F2 rfl rfl rfl) ⟨nm, uz, M, E, g, fk, ps, np, _, nb, bf, bt, sb, sx, P, (C.go F1 rfl rfl (C.2.1.1.keep F1 (by decide) (by decide)) (by rw [gi_of_ag (F1.2.1 6 (by decide))]; exact C.2.1.2) (G.keep F1 (by decide) (by decide) (by decide)) (C.2.2.2.2.2.1.keep F1 C.2.2.2.2.1.2.2.1 rfl) Y1 (C.w3k F1 (by decide))).m F2.1 rfl, D1.go F2 rfl rfl (D1.2.1.keep F2 (by decide)) Y2⟩⟩
  · exact OP.same In (c_joinN (d := 588) hS hs ht hw q) (m_joinN (d := 588) hS hs ht hw q)
/-- a call that leaves all of the core -/
theorem op_core0 {r : Value} {y1 y2 : Nat} {as : List Value} {L1 L2 S2 : List Nat} (In : Inv h) (e1 : aCall 600 y1 (.ref 0 :: as) h = some (some r, h1)) (e2 : aCall 600 y2 (.ref 78 :: as) h1 = some (some r, h2)) (F1 : Fr L1 h h1) (F2 : FM L2 S2 h1 h2) (q1 : avo [0, 1, 2, 5, 6, 7, 8, 15, 18, 19, 20, 23, 25, 26, 28, 29, 45, 46, 47, 51, 52, 53, 54, 56, 57, 58, 59, 60, 61, 62, 63, 64, 65, 66, 67, 68, 69, 70, 71, 72, 73, 74, 75, 76, 77] L1 = true) (q2 : low 78 L1 = true) (q3 : hiM L2 = true) (q4 : avo [79, 81, 82, 83, 84, 85, 86, 87, 88, 89, 90, 91, 101, 106, 107, 111, 112, 114, 115] L2 = true) (q5 : avo [2, 5, 6, 18, 20, 36, 37, 38, 39, 40, 41, 42, 43, 61, 71] S2 = true) (T : BTold h2) : OPv r y1 y2 as h := by
  obtain ⟨nm, uz, M, E, g, fk, ps, np, X, nb, bf, bt, sb, sx, P, C, D⟩ := id In.core
  have C1 := C.go F1 (low_le q2 (by omega)) (avo_sub q1 rfl) (C.2.1.1.keep F1 (avo_n q1 rfl) (avo_n q1 rfl)) (by rw [gi_of_ag (F1.2.1 6 (avo_n q1 rfl))]; exact C.2.1.2) (C.2.2.1.keep F1 (avo_n q1 rfl) (avo_n q1 rfl) (avo_n q1 rfl)) (C.2.2.2.2.2.1.keep F1 C.2.2.2.2.1.2.2.1 (avo_sub q1 rfl)) (C.2.2.2.2.2.2.1.keep F1 (avo_m (K := [74, 75, 76, 77]) (avo_sub q1 rfl) rfl)) (C.w3k F1 (avo_n q1 rfl))
  exact OPv.go In e1 e2 F1 F2 (avo_sub q1 rfl) q2 (okB_of q3 (avo_sub q4 rfl)) (hiM_l q3) (avo_sub q5 rfl) T ⟨nm, uz, M, E, g, fk, ps, np, X, nb, bf, bt, sb, sx, P, C1.m F2.1 q3, (D.c F1 q2).keep F2 (avo_sub q4 rfl) (avo_sub q5 rfl) (avo_sub q4 rfl)⟩
theorem op_many (In : Inv h) (hs : r31 s) : OP 139 251 [.int (I s)] h := by
  obtain ⟨nm, uz, M, E, g, fk, ps, np, X, nb, bf, bt, sb, sx, P, C, D⟩ := id In.core
  have hS := In.1
  have B : GBg g := P.2.2.2.2.2.2.1
  have G := C.2.2.1
  have G' := D.2.2.1
  by_cases q : okS s = true
  · obtain ⟨s', hs', es⟩ := okS_t.mp q
    rw [es, I_nI]
    obtain ⟨h1, e1, F1, T1⟩ := c_many (d := 596) hS G B C.2.2.2.2.2.2.1 hs'
    have D1 := D.c F1 rfl
    obtain ⟨h2, e2, F2, T2⟩ := m_many (d := 597) F1.1 D1.2.2.1 B D1.2.2.2.2.2.1 hs'
    exact ⟨_, op_core0 In e1 e2 F1 F2 rfl rfl rfl rfl rfl (BTold.n2 T1 F2 rfl T2)⟩
  · exact OP.same In (c_manyN (d := 588) hS hs q) (m_manyN (d := 588) hS hs q)
theorem op_has (In : Inv h) (hs : r31 s) (hz : r31 z) : OP 140 252 [.int (I s), .int (I z)] h := by
  obtain ⟨nm, uz, M, E, g, fk, ps, np, X, nb, bf, bt, sb, sx, P, C, D⟩ := id In.core
  have hS := In.1
  have B : GBg g := P.2.2.2.2.2.2.1
  have G := C.2.2.1
  have G' := D.2.2.1
  by_cases q : okS s = true ∧ okCl g z = true
  · obtain ⟨s', hs', es⟩ := okS_t.mp q.1
    obtain ⟨c, hc, ec⟩ := okCl_t.mp q.2
    rw [es, ec, I_nI, I_nI]
    exact OP.same In (c_has (d := 597) hS G B C.2.2.2.2.2.2.1 hs' hc) (m_has (d := 597) hS G' B D.2.2.2.2.2.1 hs' hc)
  · exact OP.same In (c_hasN (d := 588) hS G B hs hz q) (m_hasN (d := 588) hS G' B hs hz q)
theorem op_cell (In : Inv h) (hz : r31 z) (hy : r31 y) : OP 136 244 [.int (I z), .int (I y)] h := by
  obtain ⟨nm, uz, M, E, g, fk, ps, np, X, nb, bf, bt, sb, sx, P, C, D⟩ := id In.core
  have hS := In.1
  have B : GBg g := P.2.2.2.2.2.2.1
  have G := C.2.2.1
  have G' := D.2.2.1
  exact OP.same In (c_cell (d := 597) hS G B hz hy) (m_cell (d := 596) hS G' B hz hy)
theorem op_steps (In : Inv h) (hz : r31 z) : OP 159 282 [.int (I z)] h := by
  obtain ⟨nm, uz, M, E, g, fk, ps, np, X, nb, bf, bt, sb, sx, P, C, D⟩ := id In.core
  have hS := In.1
  have B : GBg g := P.2.2.2.2.2.2.1
  have G := C.2.2.1
  have G' := D.2.2.1
  by_cases q : okCl g z = true
  · obtain ⟨c, hc, ec⟩ := okCl_t.mp q
    rw [ec, I_nI]
    exact OP.same In (c_steps (d := 597) hS G B C.2.2.2.2.2.2.2.2.1 hc).1 (m_steps (d := 597) hS G' B D.2.2.2.2.2.2.2 hc).1
  · exact OP.same In (c_stepsN (d := 588) hS G B hz q) (m_stepsN (d := 588) hS G' B hz q)
theorem op_plan (In : Inv h) (hz : r31 z) : OP 158 281 [.int (I z)] h := by
  obtain ⟨nm, uz, M, E, g, fk, ps, np, X, nb, bf, bt, sb, sx, P, C, D⟩ := id In.core
  have hS := In.1
  have B : GBg g := P.2.2.2.2.2.2.1
  have G := C.2.2.1
  have G' := D.2.2.1
  by_cases q : okCl g z = true
  · obtain ⟨c, hc, ec⟩ := okCl_t.mp q
    rw [ec, I_nI]
    exact OP.same In (c_steps (d := 597) hS G B C.2.2.2.2.2.2.2.2.1 hc).2 (m_steps (d := 597) hS G' B D.2.2.2.2.2.2.2 hc).2
  · exact OP.same In (c_planN (d := 588) hS G B hz q) (m_planN (d := 588) hS G' B hz q)
theorem op_homes (In : Inv h) (hs : r31 s) (hw : r31 w) : OP 165 289 [.int (I s), .int (I w)] h := by
  obtain ⟨nm, uz, M, E, g, fk, ps, np, X, nb, bf, bt, sb, sx, P, C, D⟩ := id In.core
  have hS := In.1
  have B : GBg g := P.2.2.2.2.2.2.1
  have G := C.2.2.1
  have G' := D.2.2.1
  by_cases q : okS s = true ∧ (0 ≤ w ∧ w ≤ 1)
  · obtain ⟨s', hs', es⟩ := okS_t.mp q.1
    obtain ⟨w', ew⟩ : ∃ w' : Nat, w = (w' : Int) := ⟨w.toNat, by omega⟩
    rw [es, ew, I_nI, I_nI]
    obtain ⟨h1, e1, F1, k18⟩ := c_homes (d := 594) hS G B C.2.2.2.2.2.2.1 hs' (w := w') (by omega)
    have D1 := D.c F1 rfl
    obtain ⟨h2, e2, F2⟩ := m_homes (d := 595) F1.1 D1.2.2.1 B D1.2.2.2.2.2.1 hs' (w := w') (by omega)
    have G1 : GCg h1 g := by
      obtain ⟨⟨a1, a2, a3⟩, ⟨b1, b2, b3⟩, c1⟩ := G
      have x19 := F1.2.1 19 (by decide)
      have x20 := F1.2.1 20 (by decide)
      exact ⟨⟨by rw [gj_of_ag x19]; exact a1, by rw [gj_of_ag x19]; exact a2, by rw [gi_of_ag x19]; exact a3⟩, ⟨by rw [gj_of_ag x20]; exact b1, by rw [gj_of_ag x20]; exact b2, by rw [gi_of_ag x20]; exact b3⟩, (k18 0 (by decide)).trans c1⟩
    have C1 := C.go F1 rfl rfl (C.2.1.1.keep F1 (by decide) (by decide)) (by rw [gi_of_ag (F1.2.1 6 (by decide))]; exact C.2.1.2) G1 (C.2.2.2.2.2.1.keep F1 C.2.2.2.2.1.2.2.1 rfl) (C.2.2.2.2.2.2.1.keep F1 (by decide)) (C.w3k F1 (by decide))
    exact ⟨_, OPv.go In e1 e2 F1 F2 rfl rfl rfl rfl rfl (In.told.k2 F1 F2 rfl rfl rfl) ⟨nm, uz, M, E, g, fk, ps, np, X, nb, bf, bt, sb, sx, P, C1.m F2.1 rfl, D1.keep F2 rfl rfl rfl⟩⟩
  · exact OP.same In (c_homesN (d := 588) hS hs hw q) (m_homesN (d := 588) hS hs hw q)
end OPSTATE
