/-! THE CALLS of the net: class and model answer alike -/
section OPN
variable {h h1 h2 : AH} {L1 L2 S2 : List Nat} {nm fk np nb : Nat} {uz : Int} {M : MPT} {E : LE} {g : GT} {ps : Nat → Int} {X X' : ST4} {f t : Nat → Nat} {b : Bool} {x : SP} {r : Value} {y1 y2 : Nat} {as : List Value}
theorem BTold.k2 (T : BTold h) (F1 : Fr L1 h h1) (F2 : FM L2 S2 h1 h2) (q1 : avo [16, 17, 78, 97] L1 = true) (q2 : avo [16, 17, 97] L2 = true) (q3 : avo [34] S2 = true) : BTold h2 := (T.keep (F1.toFM (avo_n q1 rfl) []) (avo_sub q1 rfl) rfl).keep F2 q2 q3
theorem BTold.n2 {l : List Int32} (T1 : Told h1 l) (F2 : FM L2 S2 h1 h2) (q2 : avo [16, 17] L2 = true) (T2 : ToldM h2 l) : BTold h2 := ⟨l, T1.keep F2.1 (avo_n q2 rfl) (avo_n q2 rfl), T2⟩
theorem RdC.made {i mo rx ry : Nat} {T : NT} {sg : Bool} {L : List Nat} (R : RdC h i mo g T E rx ry fk sg) (F : Fr L h h1) (q : avo [0, 5, 18, 19, 20] L = true) (q2 : low 118 L = true) (l : LetC h1 E) (s : gi h1 6 5 = bi sg) (N : NetC h1 58 g (arS g (T, E, rx, ry, fk)) (leS g (T, E, rx, ry, fk))) (f1 : gi h1 58 3 = 1) : RdC h1 i mo g T E rx ry fk sg := by
  obtain ⟨-, u, c, -, -, f0, -⟩ := R
  have a := F.2.1 0 (avo_n q rfl)
  exact ⟨F.1, ⟨by rw [gi_of_ag a]; exact u.1, u.2.1, by rw [ar_of_ag (F.2.1 5 (avo_n q rfl))]; exact u.2.2⟩, ⟨c.1.keep F (low_n q2), c.2.1.keep F (avo_n q rfl) (avo_n q rfl) (avo_n q rfl), c.2.2⟩, l, s, by rw [gi_of_ag a]; exact f0, Or.inr ⟨f1, N⟩⟩
def ck5 (L1 L2 S2 : List Nat) : Bool := low 78 L1 && (avo [0, 1, 2, 5, 15, 45, 46, 47, 51, 52, 53, 54, 56, 57, 62, 63, 64, 65, 66, 67, 68, 69, 70, 71, 72, 73] L1 && (hiM L2 && (avo [79, 81, 82, 83, 84, 85, 86, 87, 90, 91, 106, 107, 111, 112, 114, 115] L2 && avo [2, 5, 6, 18, 20, 36, 37, 38, 39, 40, 41, 42, 43, 61, 71] S2)))
theorem ck5_t (q : ck5 L1 L2 S2 = true) : low 78 L1 = true ∧ avo [0, 1, 2, 5, 15, 45, 46, 47, 51, 52, 53, 54, 56, 57, 62, 63, 64, 65, 66, 67, 68, 69, 70, 71, 72, 73] L1 = true ∧ hiM L2 = true ∧ avo [79, 81, 82, 83, 84, 85, 86, 87, 90, 91, 106, 107, 111, 112, 114, 115] L2 = true ∧ avo [2, 5, 6, 18, 20, 36, 37, 38, 39, 40, 41, 42, 43, 61, 71] S2 = true := by
  unfold ck5 at q
  rw [Bool.and_eq_true, Bool.and_eq_true, Bool.and_eq_true, Bool.and_eq_true] at q
  exact q
theorem okB_of (q1 : hiM L2 = true) (q2 : avo [79, 91, 114, 115] L2 = true) : avo [0, 1, 2, 15, 56, 57, 79, 91, 114, 115] L2 = true := avo_i fun y hy z => by
  by_cases c : y < 78
  · exact hiM_n q1 c hy
  · exact avo_n q2 (k := y) (by revert z; simp only [List.contains_iff_mem, List.mem_cons, List.not_mem_nil, or_false]; omega) hy
theorem op_net5 (In : Inv h) (P : CoP nm uz E g fk) (C : CoC h nm uz M E g fk ps np X nb f t b x) (D : CoM h nm uz M E g fk ps np X nb f t b x) {i mo : Nat} (eM : M uz.toNat = M i) (e1 : aCall 600 y1 (.ref 0 :: as) h = some (some r, h1)) (e2 : aCall 600 y2 (.ref 78 :: as) h1 = some (some r, h2)) (F1 : Fr L1 h h1) (F2 : FM L2 S2 h1 h2) (q : ck5 L1 L2 S2 = true) (R1 : RdC h1 i mo g (M i).1 E (M i).2.1 (M i).2.2.1 fk false) (K : CacheW h1 (nC g) (war (arS g ((M i).1, E, (M i).2.1, (M i).2.2.1, fk)) (nC g))) (W : ∃ p s r, T3 p s r ∧ Wr3 h1 p s r) (Y1 : SetC h1 g X') (l : LetM h2 E) (Y2 : SetM h2 g X') (T : BTold h2) : OPv r y1 y2 as h := by
  obtain ⟨a1, a2, a3, a4, a5⟩ := ck5_t q
  have C1 := C.net P eM F1 (low_le a1 (by omega)) (avo_sub a2 rfl) R1 K Y1 W
  exact OPv.go In e1 e2 F1 F2 (avo_sub a2 rfl) a1 (okB_of a3 (avo_sub a4 rfl)) (hiM_l a3) (avo_sub a5 rfl) T ⟨nm, uz, M, E, g, fk, ps, np, X', nb, f, t, b, x, P, C1.m F2.1 a3, (D.c F1 a1).go F2 (avo_sub a4 rfl) (avo_sub a5 rfl) l Y2⟩
theorem op_net (In : Inv h) (P : CoP nm uz E g fk) (C : CoC h nm uz M E g fk ps np X nb f t b x) (D : CoM h nm uz M E g fk ps np X nb f t b x) {i mo : Nat} (eM : M uz.toNat = M i) (e1 : aCall 600 y1 (.ref 0 :: as) h = some (some r, h1)) (e2 : aCall 600 y2 (.ref 78 :: as) h1 = some (some r, h2)) (F1 : Fr L1 h h1) (F2 : FM L2 S2 h1 h2) (q : ck5 L1 L2 S2 = true) (q3 : avo [23, 25, 26, 28, 29, 74, 75, 76, 77] L1 = true) (q4 : avo [101] L2 = true) (R1 : RdC h1 i mo g (M i).1 E (M i).2.1 (M i).2.2.1 fk false) (l : LetM h2 E) (T : BTold h2) : OPv r y1 y2 as h :=
  op_net5 In P C D eM e1 e2 F1 F2 q R1 ((C.W eM).keep F1 (avo_m q3 rfl)) (C.w3k F1 (avo_n q3 rfl)) (C.2.2.2.2.2.2.1.keep F1 (avo_m q3 rfl)) l ((D.c F1 (ck5_t q).1).2.2.2.2.2.1.keep F2 (avo_n q4 rfl)) T
theorem op_netS (In : Inv h) (P : CoP nm uz E g fk) (C : CoC h nm uz M E g fk ps np X nb f t b x) (D : CoM h nm uz M E g fk ps np X nb f t b x) {i mo : Nat} (eM : M uz.toNat = M i) (e1 : aCall 600 y1 (.ref 0 :: as) h = some (some r, h1)) (e2 : aCall 600 y2 (.ref 78 :: as) h1 = some (some r, h2)) (F1 : Fr L1 h h1) (F2 : FM L2 S2 h1 h2) (q : ck5 L1 L2 S2 = true) (q3 : avo [23, 25, 26, 28, 29] L1 = true) (R1 : RdC h1 i mo g (M i).1 E (M i).2.1 (M i).2.2.1 fk false) (Y1 : SetC h1 g X') (l : LetM h2 E) (Y2 : SetM h2 g X') (T : BTold h2) : OPv r y1 y2 as h :=
  op_net5 In P C D eM e1 e2 F1 F2 q R1 ((C.W eM).keep F1 (avo_m q3 rfl)) (C.w3k F1 (avo_n q3 rfl)) Y1 l Y2 T
/-- in ways a row of 23 changes, its places don't -/
theorem op_way (In : Inv h) (P : CoP nm uz E g fk) (C : CoC h nm uz M E g fk ps np X nb f t b x) (D : CoM h nm uz M E g fk ps np X nb f t b x) {i mo : Nat} (eM : M uz.toNat = M i) (e1 : aCall 600 y1 (.ref 0 :: as) h = some (some r, h1)) (e2 : aCall 600 y2 (.ref 78 :: as) h1 = some (some r, h2)) (F1 : Fr L1 h h1) (F2 : FM L2 S2 h1 h2) (q : ck5 L1 L2 S2 = true) (hy : bad23.contains y1 = false) (R1 : RdC h1 i mo g (M i).1 E (M i).2.1 (M i).2.2.1 fk false) (K : CacheW h1 (nC g) (war (arS g ((M i).1, E, (M i).2.1, (M i).2.2.1, fk)) (nC g))) (Y1 : SetC h1 g X') (l : LetM h2 E) (Y2 : SetM h2 g X') (T : BTold h2) : OPv r y1 y2 as h :=
  op_net5 In P C D eM e1 e2 F1 F2 q R1 K (C.w3 In.1 hy e1) Y1 l Y2 T
end OPN
section OPNET
variable {h : AH} {z a n s w k v : Int}
theorem op_arrows (In : Inv h) : OP 132 240 [] h := by
  obtain ⟨nm, uz, M, E, g, fk, ps, np, X, nb, bf, bt, sb, sx, P, C, D⟩ := id In.core
  have hS := In.1
  have B : GBg g := P.2.2.2.2.2.2.1
  have G := C.2.2.1
  have G' := D.2.2.1
  rcases net_c hS P C D with ⟨N1, N2⟩ | ⟨i, mo, e, hi, pl, eM, R⟩
  · exact OP.same In (c_arrowsN (d := 588) hS (fun q => q N1)) (m_arrowsN (d := 588) hS (fun q => q N2))
  · obtain ⟨h1, e1, F1, l1, s1, n1, f1⟩ := c_arrows (d := 591) hS R.2.1 R.2.2.1 R.2.2.2.1 R.2.2.2.2.1 R.2.2.2.2.2.1 R.2.2.2.2.2.2
    have RM := (D.c F1 rfl).rd P F1.1 e hi pl
    obtain ⟨h2, e2, F2, l2, -⟩ := m_arrows (d := 461) RM.2.1 F1.1 RM.2.2.1 RM.2.2.2
    exact ⟨_, op_net In P C D eM e1 e2 F1 F2 rfl rfl rfl (R.made F1 rfl rfl l1 s1 n1 f1) l2 (In.told.k2 F1 F2 rfl rfl rfl)⟩
theorem op_next (In : Inv h) (hz : r31 z) : OP 133 241 [.int (I z)] h := by
  obtain ⟨nm, uz, M, E, g, fk, ps, np, X, nb, bf, bt, sb, sx, P, C, D⟩ := id In.core
  have hS := In.1
  have B : GBg g := P.2.2.2.2.2.2.1
  have G := C.2.2.1
  have G' := D.2.2.1
  rcases net_c hS P C D with ⟨N1, N2⟩ | ⟨i, mo, e, hi, pl, eM, R⟩
  · exact OP.same In (c_nextN (d := 588) hS G B hz (fun q => q.2 N1)) (m_nextN (d := 588) hS hz (fun q => q N2))
  · by_cases q : okCl g z = true
    · obtain ⟨c, hc, ez⟩ := okCl_t.mp q
      rw [ez, I_nI]
      obtain ⟨h1, e1, F1, l1, s1, n1, f1, T1⟩ := c_next (d := 591) hS R.2.1 R.2.2.1 R.2.2.2.1 R.2.2.2.2.1 R.2.2.2.2.2.1 R.2.2.2.2.2.2 hc
      have RM := (D.c F1 rfl).rd P F1.1 e hi pl
      obtain ⟨h2, e2, F2, l2, T2⟩ := m_next (d := 461) RM.2.1 F1.1 RM.2.2.1 RM.2.2.2 hc
      exact ⟨_, op_net In P C D eM e1 e2 F1 F2 rfl rfl rfl (R.made F1 rfl rfl l1 s1 n1 f1) l2 (BTold.n2 T1 F2 rfl T2)⟩
    · exact OP.same In (c_nextN (d := 588) hS G B hz (fun w => q w.1)) (m_nextF (d := 588) hS (D.rd P hS e hi pl) hz q)
theorem op_back (In : Inv h) (hz : r31 z) : OP 134 242 [.int (I z)] h := by
  obtain ⟨nm, uz, M, E, g, fk, ps, np, X, nb, bf, bt, sb, sx, P, C, D⟩ := id In.core
  have hS := In.1
  have B : GBg g := P.2.2.2.2.2.2.1
  have G := C.2.2.1
  have G' := D.2.2.1
  rcases net_c hS P C D with ⟨N1, N2⟩ | ⟨i, mo, e, hi, pl, eM, R⟩
  · exact OP.same In (c_backN (d := 588) hS G B hz (fun q => q.2 N1)) (m_backN (d := 588) hS hz (fun q => q N2))
  · by_cases q : okCl g z = true
    · obtain ⟨c, hc, ez⟩ := okCl_t.mp q
      rw [ez, I_nI]
      obtain ⟨h1, e1, F1, R1, T1⟩ := c_back (d := 591) R hc
      obtain ⟨h2, e2, F2, M2, T2⟩ := m_back (d := 461) ((D.c F1 rfl).rd P F1.1 e hi pl) hc
      exact ⟨_, op_net In P C D eM e1 e2 F1 F2 rfl rfl rfl R1 M2.2.2.1 (BTold.n2 T1 F2 rfl T2)⟩
    · exact OP.same In (c_backN (d := 588) hS G B hz (fun w => q w.1)) (m_backF (d := 588) hS (D.rd P hS e hi pl) hz q)
theorem op_leaves (In : Inv h) (hz : r31 z) : OP 135 243 [.int (I z)] h := by
  obtain ⟨nm, uz, M, E, g, fk, ps, np, X, nb, bf, bt, sb, sx, P, C, D⟩ := id In.core
  have hS := In.1
  have B : GBg g := P.2.2.2.2.2.2.1
  have G := C.2.2.1
  have G' := D.2.2.1
  rcases net_c hS P C D with ⟨N1, N2⟩ | ⟨i, mo, e, hi, pl, eM, R⟩
  · exact OP.same In (c_leavesN (d := 588) hS G B hz (fun q => q.2 N1)) (m_leavesN (d := 588) hS hz (fun q => q N2))
  · by_cases q : okCl g z = true
    · obtain ⟨c, hc, ez⟩ := okCl_t.mp q
      rw [ez, I_nI]
      obtain ⟨h1, e1, F1, l1, s1, n1, f1⟩ := c_leaves (d := 591) hS R.2.1 R.2.2.1 R.2.2.2.1 R.2.2.2.2.1 R.2.2.2.2.2.1 R.2.2.2.2.2.2 hc
      have RM := (D.c F1 rfl).rd P F1.1 e hi pl
      obtain ⟨h2, e2, F2, l2, -⟩ := m_leaves (d := 461) RM.2.1 F1.1 RM.2.2.1 RM.2.2.2 hc
      exact ⟨_, op_net In P C D eM e1 e2 F1 F2 rfl rfl rfl (R.made F1 rfl rfl l1 s1 n1 f1) l2 (In.told.k2 F1 F2 rfl rfl rfl)⟩
    · exact OP.same In (c_leavesN (d := 588) hS G B hz (fun w => q w.1)) (m_leavesF (d := 588) hS (D.rd P hS e hi pl) hz q)
theorem op_trap (In : Inv h) (hs : r31 s) : OP 143 256 [.int (I s)] h := by
  obtain ⟨nm, uz, M, E, g, fk, ps, np, X, nb, bf, bt, sb, sx, P, C, D⟩ := id In.core
  have hS := In.1
  have B : GBg g := P.2.2.2.2.2.2.1
  have G := C.2.2.1
  have G' := D.2.2.1
  rcases net_c hS P C D with ⟨N1, N2⟩ | ⟨i, mo, e, hi, pl, eM, R⟩
  · exact OP.same In (c_trapN (d := 588) hS hs (fun q => q.2 N1)) (m_trapN (d := 588) hS hs (fun q => q.2 N2))
  · by_cases q : okS s = true
    · obtain ⟨c, hc, ez⟩ := okS_t.mp q
      rw [ez, I_nI]
      obtain ⟨h1, e1, F1, R1⟩ := c_trap (d := 591) R C.2.2.2.2.2.2.1 hc
      have D1 := D.c F1 rfl
      obtain ⟨h2, e2, F2, M2⟩ := m_trap (d := 461) (D1.rd P F1.1 e hi pl) D1.2.2.2.2.2.1 hc
      exact ⟨_, op_net In P C D eM e1 e2 F1 F2 rfl rfl rfl R1 M2.2.2.1 (In.told.k2 F1 F2 rfl rfl rfl)⟩
    · exact OP.same In (c_trapN (d := 588) hS hs (fun w => q w.1)) (m_trapN (d := 588) hS hs (fun w => q w.1))
theorem op_heaps (In : Inv h) : OP 144 258 [] h := by
  obtain ⟨nm, uz, M, E, g, fk, ps, np, X, nb, bf, bt, sb, sx, P, C, D⟩ := id In.core
  have hS := In.1
  have B : GBg g := P.2.2.2.2.2.2.1
  have G := C.2.2.1
  have G' := D.2.2.1
  rcases net_c hS P C D with ⟨N1, N2⟩ | ⟨i, mo, e, hi, pl, eM, R⟩
  · exact OP.same In (c_heapsN (d := 588) hS (fun q => q N1)) (m_heapsN (d := 588) hS (fun q => q N2))
  · obtain ⟨h1, e1, F1, R1, K1⟩ := c_heaps (d := 591) R (C.W eM)
    have D1 := D.c F1 rfl
    obtain ⟨h2, e2, F2, M2⟩ := m_heaps (d := 459) (D1.rd P F1.1 e hi pl)
    exact ⟨_, op_way In P C D eM e1 e2 F1 F2 rfl rfl R1 K1 (C.2.2.2.2.2.2.1.keep F1 (by decide)) M2.2.2.1 (D1.2.2.2.2.2.1.keep F2 (by decide)) (In.told.k2 F1 F2 rfl rfl rfl)⟩
theorem op_heap (In : Inv h) (hz : r31 z) : OP 145 259 [.int (I z)] h := by
  obtain ⟨nm, uz, M, E, g, fk, ps, np, X, nb, bf, bt, sb, sx, P, C, D⟩ := id In.core
  have hS := In.1
  have B : GBg g := P.2.2.2.2.2.2.1
  have G := C.2.2.1
  have G' := D.2.2.1
  rcases net_c hS P C D with ⟨N1, N2⟩ | ⟨i, mo, e, hi, pl, eM, R⟩
  · exact OP.same In (c_heapN (d := 588) hS G B hz (fun q => q.2 N1)) (m_heapN (d := 588) hS hz (fun q => q N2))
  · by_cases q : okCl g z = true
    · obtain ⟨c, hc, ez⟩ := okCl_t.mp q
      rw [ez, I_nI]
      obtain ⟨h1, e1, F1, R1, K1⟩ := c_heap (d := 591) R (C.W eM) hc
      have D1 := D.c F1 rfl
      obtain ⟨h2, e2, F2, M2⟩ := m_heap (d := 459) (D1.rd P F1.1 e hi pl) hc
      exact ⟨_, op_way In P C D eM e1 e2 F1 F2 rfl rfl R1 K1 (C.2.2.2.2.2.2.1.keep F1 (by decide)) M2.2.2.1 (D1.2.2.2.2.2.1.keep F2 (by decide)) (In.told.k2 F1 F2 rfl rfl rfl)⟩
    · exact OP.same In (c_heapN (d := 588) hS G B hz (fun w => q w.1)) (m_heapF (d := 588) hS (D.rd P hS e hi pl) hz q)
end OPNET
