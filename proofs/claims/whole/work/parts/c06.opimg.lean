/-! THE CALLS that work out images; rings, boxes, words -/
section OPI
variable {h h1 h2 : AH} {L1 L2 S2 : List Nat} {nm fk np nb : Nat} {uz : Int} {M : MPT} {E : LE} {g : GT} {ps : Nat → Int} {X X' : ST4} {f t : Nat → Nat} {b : Bool} {x : SP} {r : Value} {y1 y2 : Nat} {as : List Value}
theorem img_c (hS : SH h) (P : CoP nm uz E g fk) (C : CoC h nm uz M E g fk ps np X nb f t b x) (D : CoM h nm uz M E g fk ps np X nb f t b x) : (gi h 0 3 = -1 ∧ gi h 78 6 = -1) ∨ ∃ i mo, uz = ((i : Nat) : Int) ∧ i < nm ∧ LnU h i mo (M i).1 E (M i).2.1 (M i).2.2.1 (M i).2.2.2 := by
  by_cases hz : uz = -1
  · exact Or.inl ⟨C.no hz, D.no hz⟩
  · obtain ⟨i, mo, e, hi, eM, U, m⟩ := C.use P (by have := P.2.1; omega)
    exact Or.inr ⟨i, mo, e, hi, hS, U, m, C.2.1.1, P.2.2.2.1, C.2.1.2⟩
theorem CoM.mp (D : CoM h nm uz M E g fk ps np X nb f t b x) (P : CoP nm uz E g fk) (hS : SH h) {i : Nat} (e : uz = (i : Int)) (hi : i < nm) : MpM h i (M i).1 E (M i).2.1 (M i).2.2.1 (M i).2.2.2 := ⟨hS, D.use e, D.1.2.2 i hi, D.2.1, P.2.2.2.1⟩
theorem op_img (In : Inv h) (P : CoP nm uz E g fk) (C : CoC h nm uz M E g fk ps np X nb f t b x) (D : CoM h nm uz M E g fk ps np X nb f t b x) (e1 : aCall 600 y1 (.ref 0 :: as) h = some (some r, h1)) (e2 : aCall 600 y2 (.ref 78 :: as) h1 = some (some r, h2)) (F1 : Fr L1 h h1) (F2 : FM L2 S2 h1 h2) (q : ck5 L1 L2 S2 = true) (q3 : avo [18, 19, 20, 23, 25, 26, 28, 29, 58, 59, 60, 61, 62, 63, 64, 65, 66, 67, 68, 69, 70, 71, 72, 73, 74, 75, 76, 77] L1 = true) (q4 : avo [101] L2 = true) (l1 : LetC h1 E) (s1 : gi h1 6 5 = bi false) (l2 : LetM h2 E) (T : BTold h2) : OPv r y1 y2 as h := by
  obtain ⟨a1, a2, a3, a4, a5⟩ := ck5_t q
  have C1 := C.go F1 (low_le a1 (by omega)) (avo_sub a2 rfl) l1 s1 (C.2.2.1.keep F1 (avo_n q3 rfl) (avo_n q3 rfl) (avo_n q3 rfl)) (C.2.2.2.2.2.1.keep F1 C.2.2.2.2.1.2.2.1 (avo_sub q3 rfl)) (C.2.2.2.2.2.2.1.keep F1 (avo_m (K := [74, 75, 76, 77]) (avo_sub q3 rfl) rfl)) (C.w3k F1 (avo_n q3 rfl))
  have D1 := D.c F1 a1
  exact OPv.go In e1 e2 F1 F2 (avo_sub a2 rfl) a1 (okB_of a3 (avo_sub a4 rfl)) (hiM_l a3) (avo_sub a5 rfl) T ⟨nm, uz, M, E, g, fk, ps, np, X, nb, f, t, b, x, P, C1.m F2.1 a3, D1.go F2 (avo_sub a4 rfl) (avo_sub a5 rfl) l2 (D1.2.2.2.2.2.1.keep F2 (avo_n q4 rfl))⟩
theorem line_c (hS : SH h) (P : CoP nm uz E g fk) (C : CoC h nm uz M E g fk ps np X nb f t b x) (D : CoM h nm uz M E g fk ps np X nb f t b x) : (NoLC h ∧ NoLM h) ∨ ∃ i mo, uz = ((i : Nat) : Int) ∧ i < nm ∧ (M i).2.2.2 = gpl g ∧ M uz.toNat = M i ∧ RdC h i mo g (M i).1 E (M i).2.1 (M i).2.2.1 fk false ∧ gpl g = false := by
  rcases net_c hS P C D with ⟨N1, N2⟩ | ⟨i, mo, e, hi, pl, eM, R⟩
  · exact Or.inl ⟨Or.inl N1, Or.inl N2⟩
  · cases hg : gpl g
    · exact Or.inr ⟨i, mo, e, hi, pl.trans hg, eM, R, rfl⟩
    · have m := R.2.2.1.1
      rw [hg] at m
      have k := D.1.2.2 i hi
      have k2 := k.2.1
      rw [pl, hg, if_pos rfl] at k2
      have g1 := C.2.2.1.2.2
      have g2 := D.2.2.1.2.2.2.2.2.2
      have hg' : g.2.2.2.2.2.2 = true := hg
      rw [hg] at g1
      rw [hg'] at g2
      exact Or.inl ⟨Or.inr ⟨i, mo, _, _, _, R.2.1, m, g1⟩, Or.inr ⟨i, _, D.use e, by have := P.1; omega, k2, k.2.2.2.1, g2⟩⟩
end OPI
section OPIMG
variable {h : AH} {a b c k n w y z : Int}
theorem okBx_t (q1 : okSpan a b = true) (q2 : okSpan c k = true) : okBx a b c k := by
  have q1 := okSpan_t.mp q1
  have q2 := okSpan_t.mp q2
  exact ⟨q1.2.1, q1.1, q1.2.2, q2.2.1, q2.1, q2.2.2⟩
theorem op_shut (In : Inv h) (ja : r31 a) (jb : r31 b) (jc : r31 c) (jk : r31 k) : OP 126 221 [.int (I a), .int (I b), .int (I c), .int (I k)] h := by
  obtain ⟨nm, uz, M, E, g, fk, ps, np, X, nb, bf, bt, sb, sx, P, C, D⟩ := id In.core
  have hS := In.1
  rcases img_c hS P C D with ⟨N1, N2⟩ | ⟨i, mo, e, hi, R⟩
  · exact OP.same In (c_shutN (d := 588) (i := 0) (mo := 0) hS ja jb jc jk (Or.inl N1)) (m_shutN (d := 588) (u := 0) hS ja jb jc jk (Or.inl N2))
  · by_cases q : okSpan a b = true ∧ okSpan c k = true
    · obtain ⟨h1, e1, F1, R1, T1⟩ := c_shut (d := 595) R (okBx_t q.1 q.2)
      obtain ⟨h2, e2, F2, M2, T2⟩ := m_shut (d := 465) ((D.c F1 rfl).mp P F1.1 e hi) (okBx_t q.1 q.2)
      exact ⟨_, op_img In P C D e1 e2 F1 F2 rfl rfl rfl R1.2.2.2.1 R1.2.2.2.2.2 M2.2.2.2.1 (BTold.n2 T1 F2 rfl T2)⟩
    · exact OP.same In (c_shutN (d := 588) hS ja jb jc jk (Or.inr ⟨R.2.1, q⟩)) (m_shutN (d := 588) hS ja jb jc jk (Or.inr ⟨⟨D.use e, by have := P.1; omega⟩, q⟩))
theorem op_finer (In : Inv h) (ja : r31 a) (jb : r31 b) (jc : r31 c) (jk : r31 k) (jn : r31 n) : OP 127 223 [.int (I a), .int (I b), .int (I c), .int (I k), .int (I n)] h := by
  obtain ⟨nm, uz, M, E, g, fk, ps, np, X, nb, bf, bt, sb, sx, P, C, D⟩ := id In.core
  have hS := In.1
  rcases img_c hS P C D with ⟨N1, N2⟩ | ⟨i, mo, e, hi, R⟩
  · exact OP.same In (c_finerN (d := 588) (i := 0) (mo := 0) hS ja jb jc jk jn (Or.inl N1)) (m_finerN (d := 588) (u := 0) hS ja jb jc jk jn (Or.inl N2))
  · by_cases q : (0 ≤ n ∧ n ≤ 3) ∧ okSpan a b = true ∧ okSpan c k = true
    · obtain ⟨n', en⟩ : ∃ n' : Nat, n = (n' : Int) := ⟨n.toNat, by omega⟩
      rw [en, I_nI]
      obtain ⟨h1, v, e1, F1, R1, T1, V⟩ := c_finer (d := 594) R (okBx_t q.2.1 q.2.2) (k := n') (by omega)
      obtain ⟨h2, e2, F2, M2, T2⟩ := m_finer (d := 465) ((D.c F1 rfl).mp P F1.1 e hi) (okBx_t q.2.1 q.2.2) (k := n') (by omega) V
      exact ⟨_, op_img In P C D e1 e2 F1 F2 rfl rfl rfl R1.2.2.2.1 R1.2.2.2.2.2 M2.2.2.2.1 (BTold.n2 T1 F2 rfl T2)⟩
    · exact OP.same In (c_finerN (d := 588) hS ja jb jc jk jn (Or.inr ⟨R.2.1, q⟩)) (m_finerN (d := 588) hS ja jb jc jk jn (Or.inr ⟨⟨D.use e, by have := P.1; omega⟩, q⟩))
theorem op_orbit (In : Inv h) (ja : r31 a) (jb : r31 b) (jn : r31 n) : OP 129 225 [.int (I a), .int (I b), .int (I n)] h := by
  obtain ⟨nm, uz, M, E, g, fk, ps, np, X, nb, bf, bt, sb, sx, P, C, D⟩ := id In.core
  have hS := In.1
  rcases img_c hS P C D with ⟨N1, N2⟩ | ⟨i, mo, e, hi, R⟩
  · exact OP.same In (c_orbitN (d := 588) (i := 0) (mo := 0) hS ja jb jn (Or.inl N1)) (m_orbitN (d := 588) (u := 0) hS ja jb jn (Or.inl N2))
  · by_cases q : (0 ≤ n ∧ n ≤ 60) ∧ okNum a = true ∧ okNum b = true
    · obtain ⟨n', en⟩ : ∃ n' : Nat, n = (n' : Int) := ⟨n.toNat, by omega⟩
      rw [en, I_nI]
      obtain ⟨dr, nd, K1, K2, K3⟩ := In.2.2.2.2.1
      obtain ⟨h1, e1, F1, R1, T1⟩ := c_orbit (d := 594) R K1 K3 (okNum_t.mp q.2.1) (okNum_t.mp q.2.2) (n := n') (by omega)
      obtain ⟨h2, e2, F2, M2, T2⟩ := m_orbit (d := 465) ((D.c F1 rfl).mp P F1.1 e hi) (K2.keep (F1.toFM (by decide) []) (by decide) (by decide)) K3 (okNum_t.mp q.2.1) (okNum_t.mp q.2.2) (n := n') (by omega)
      exact ⟨_, op_img In P C D e1 e2 F1 F2 rfl rfl rfl R1.2.2.2.1 R1.2.2.2.2.2 M2.2.2.2.1 (BTold.n2 T1 F2 rfl T2)⟩
    · exact OP.same In (c_orbitN (d := 588) hS ja jb jn (Or.inr ⟨R.2.1, q⟩)) (m_orbitN (d := 588) hS ja jb jn (Or.inr ⟨⟨D.use e, by have := P.1; omega⟩, q⟩))
theorem op_slope (In : Inv h) (ja : r31 a) (jb : r31 b) : OP 128 224 [.int (I a), .int (I b)] h := by
  obtain ⟨nm, uz, M, E, g, fk, ps, np, X, nb, bf, bt, sb, sx, P, C, D⟩ := id In.core
  have hS := In.1
  rcases img_c hS P C D with ⟨N1, N2⟩ | ⟨i, mo, e, hi, R⟩
  · exact OP.same In (c_slopeN (d := 588) hS ja jb (Or.inl N1)) (m_slopeN (d := 588) hS ja jb (Or.inl N2))
  · by_cases q : (M i).2.2.2 = false ∧ okSpan a b = true
    · have q2 := okSpan_t.mp q.2
      rw [q.1] at R
      have D1 := fun {L : List Nat} {h1 : AH} (F1 : Fr L h h1) (k : low 78 L = true) => (D.c F1 k).mp P F1.1 e hi
      rw [q.1] at D1
      obtain ⟨h1, e1, F1, R1, T1, Z1⟩ := c_slope (d := 594) R q2.2.1 q2.1 q2.2.2
      obtain ⟨h2, e2, F2, M2, T2, Z2⟩ := m_slope (d := 465) (D1 F1 rfl) q2.2.1 q2.1 q2.2.2
      cases z : (gnS (M i).1 E (M i).2.1 1 a b).2
      · have F1 := Z1 z
        have F2 := Z2 z
        exact ⟨_, op_img In P C D e1 e2 F1 F2 rfl rfl rfl R1.2.2.2.1 R1.2.2.2.2.2 M2.2.2.2.1 (In.told.k2 F1 F2 rfl rfl rfl)⟩
      · exact ⟨_, op_img In P C D e1 e2 F1 F2 rfl rfl rfl R1.2.2.2.1 R1.2.2.2.2.2 M2.2.2.2.1 (BTold.n2 (T1 z) F2 rfl (T2 z))⟩
    · have q' : (M i).2.2.2 = true ∨ okSpan a b = false := by
        cases z1 : (M i).2.2.2
        · cases z2 : okSpan a b
          · exact Or.inr rfl
          · exact absurd ⟨z1, z2⟩ q
        · exact Or.inl rfl
      have m := D.1.2.2 i hi
      exact OP.same In (c_slopeN (d := 588) hS ja jb (Or.inr ⟨i, mo, _, _, _, _, R.2.1, R.2.2.1, q'⟩)) (m_slopeN (d := 588) hS ja jb (Or.inr ⟨i, _, (M i).2.2.1, D.use e, by have := P.1; omega, m.2.1, m.2.2.2.1, q'⟩))
theorem op_ring (In : Inv h) (jz : r31 z) (jn : r31 n) : OP 149 266 [.int (I z), .int (I n)] h := by
  obtain ⟨nm, uz, M, E, g, fk, ps, np, X, nb, bf, bt, sb, sx, P, C, D⟩ := id In.core
  have hS := In.1
  have B : GBg g := P.2.2.2.2.2.2.1
  have G := C.2.2.1
  have G' := D.2.2.1
  rcases line_c hS P C D with ⟨N1, N2⟩ | ⟨i, mo, e, hi, pl, eM, R, hg⟩
  · exact OP.same In (c_ringN (d := 588) hS N1.map (fun d => c_noRing hS N1)).1 (m_ringN (d := 588) hS (fun d => m_noIsLine (SH_wi hS) (N2.wz hS))).1
  · by_cases q : okCl g z = true ∧ 1 ≤ n ∧ n ≤ 12
    · obtain ⟨z', hz, ez⟩ := okCl_t.mp q.1
      obtain ⟨n', en⟩ : ∃ n' : Nat, n = (n' : Int) := ⟨n.toNat, by omega⟩
      rw [ez, en, I_nI, I_nI]
      obtain ⟨h1, e1, F1, R1⟩ := c_ring (d := 591) R hg hz (n := n') (by omega) (by omega)
      obtain ⟨h2, e2, F2, M2⟩ := m_ring (d := 464) ((D.c F1 rfl).rd P F1.1 e hi pl) hg hz (n := n') (by omega) (by omega)
      exact ⟨_, op_net In P C D eM e1 e2 F1 F2 rfl rfl rfl R1 M2.2.2.1 (In.told.k2 F1 F2 rfl rfl rfl)⟩
    · exact OP.same In (c_ringN (d := 588) hS (Or.inr ⟨i, mo, R.2.1⟩) (fun d => c_fRing R hg jz jn q)).1 (m_ringN (d := 588) hS (fun d => m_fIsLine (D.rd P hS e hi pl).z.2 hg jz jn q)).1
theorem op_stable (In : Inv h) (jz : r31 z) (jn : r31 n) : OP 150 267 [.int (I z), .int (I n)] h := by
  obtain ⟨nm, uz, M, E, g, fk, ps, np, X, nb, bf, bt, sb, sx, P, C, D⟩ := id In.core
  have hS := In.1
  have B : GBg g := P.2.2.2.2.2.2.1
  have G := C.2.2.1
  have G' := D.2.2.1
  rcases line_c hS P C D with ⟨N1, N2⟩ | ⟨i, mo, e, hi, pl, eM, R, hg⟩
  · exact OP.same In (c_ringN (d := 588) hS N1.map (fun d => c_noRing hS N1)).2 (m_ringN (d := 588) hS (fun d => m_noIsLine (SH_wi hS) (N2.wz hS))).2
  · by_cases q : okCl g z = true ∧ 1 ≤ n ∧ n ≤ 12
    · obtain ⟨z', hz, ez⟩ := okCl_t.mp q.1
      obtain ⟨n', en⟩ : ∃ n' : Nat, n = (n' : Int) := ⟨n.toNat, by omega⟩
      rw [ez, en, I_nI, I_nI]
      obtain ⟨h1, e1, F1, R1⟩ := c_stable (d := 591) R hg hz (n := n') (by omega) (by omega)
      obtain ⟨h2, e2, F2, M2⟩ := m_stable (d := 464) ((D.c F1 rfl).rd P F1.1 e hi pl) hg hz (n := n') (by omega) (by omega)
      exact ⟨_, op_net In P C D eM e1 e2 F1 F2 rfl rfl rfl R1 M2.2.2.1 (In.told.k2 F1 F2 rfl rfl rfl)⟩
    · exact OP.same In (c_ringN (d := 588) hS (Or.inr ⟨i, mo, R.2.1⟩) (fun d => c_fRing R hg jz jn q)).2 (m_ringN (d := 588) hS (fun d => m_fIsLine (D.rd P hS e hi pl).z.2 hg jz jn q)).2
theorem op_turning (In : Inv h) (ja : r31 a) (jb : r31 b) : OP 152 272 [.int (I a), .int (I b)] h := by
  obtain ⟨nm, uz, M, E, g, fk, ps, np, X, nb, bf, bt, sb, sx, P, C, D⟩ := id In.core
  have hS := In.1
  have B : GBg g := P.2.2.2.2.2.2.1
  have G := C.2.2.1
  have G' := D.2.2.1
  rcases net_c hS P C D with ⟨N1, N2⟩ | ⟨i, mo, e, hi, pl, eM, R⟩
  · exact OP.same In (c_turnN (d := 588) hS N1) (m_turnN (d := 588) hS N2)
  · by_cases q : gpl g = true ∧ recT g a b
    · obtain ⟨hg, f, l, ea, eb, hf, hl, c1, c2⟩ := q
      rw [ea, eb, I_nI, I_nI]
      have n0 : 0 < g.2.2.1 := Nat.pos_of_ne_zero fun z => by
        have : nC g = 0 := by unfold nC; rw [z, Nat.zero_mul]
        omega
      have o : sdOk g (f % g.2.2.1) (l % g.2.2.1) (f / g.2.2.1) (l / g.2.2.1) := ⟨c1, Nat.mod_lt _ n0, c2, Nat.div_lt_of_lt_mul hl⟩
      obtain ⟨h1, e1, F1, R1, T1, Z1⟩ := c_turning (d := 593) R hg hf hl o
      obtain ⟨h2, e2, F2, M2, T2, Z2⟩ := m_turning (d := 464) ((D.c F1 rfl).rd P F1.1 e hi pl) hg hf hl o
      cases z : turV g (M i).1 E (M i).2.1 (M i).2.2.1 f l with
      | none =>
        have F1 := Z1 z
        have F2 := Z2 z
        exact ⟨_, op_net In P C D eM e1 e2 F1 F2 rfl rfl rfl R1 M2.2.2.1 (In.told.k2 F1 F2 rfl rfl rfl)⟩
      | some s => exact ⟨_, op_net In P C D eM e1 e2 F1 F2 rfl rfl rfl R1 M2.2.2.1 (BTold.n2 (T1 s z) F2 rfl (T2 s z))⟩
    · exact OP.same In (c_turnF (d := 588) R ja jb q) (m_turnF (d := 588) (D.rd P hS e hi pl) ja jb q)
theorem op_covers (In : Inv h) (ja : r31 a) (jb : r31 b) : OP 154 277 [.int (I a), .int (I b)] h := by
  obtain ⟨nm, uz, M, E, g, fk, ps, np, X, nb, bf, bt, sb, sx, P, C, D⟩ := id In.core
  have hS := In.1
  have B : GBg g := P.2.2.2.2.2.2.1
  have G := C.2.2.1
  have G' := D.2.2.1
  rcases line_c hS P C D with ⟨N1, N2⟩ | ⟨i, mo, e, hi, pl, eM, R, hg⟩
  · exact OP.same In (c_lineN (d := 588) hS N1).1 (m_lineN (d := 588) hS N2).1
  · have Bx := C.2.2.2.2.2.2.2.1
    by_cases q : (0 ≤ a ∧ a < (nb : Int)) ∧ 0 ≤ b ∧ b < (nb : Int)
    · obtain ⟨a', ea⟩ : ∃ a' : Nat, a = (a' : Int) := ⟨a.toNat, by omega⟩
      obtain ⟨b', eb⟩ : ∃ b' : Nat, b = (b' : Int) := ⟨b.toNat, by omega⟩
      rw [ea, eb, I_nI, I_nI]
      obtain ⟨h1, e1, F1, R1, -⟩ := c_covers (d := 594) R hg Bx (a := a') (b := b') (by omega) (by omega)
      have D1 := D.c F1 rfl
      obtain ⟨h2, e2, F2, M2, -⟩ := m_covers (d := 464) (D1.rd P F1.1 e hi pl) hg D1.2.2.2.2.2.2.1 (a := a') (b := b') (by omega) (by omega)
      exact ⟨_, op_net In P C D eM e1 e2 F1 F2 rfl rfl rfl R1 M2.2.2.1 (In.told.k2 F1 F2 rfl rfl rfl)⟩
    · exact OP.same In (c_coversF (d := 588) R hg Bx ja jb q) (m_coversF (d := 588) (D.rd P hS e hi pl) hg D.2.2.2.2.2.2.1 ja jb q)
theorem op_word (In : Inv h) (w : Int32) (jn : r31 n) : OP 156 279 [.int w, .int (I n)] h := by
  obtain ⟨nm, uz, M, E, g, fk, ps, np, X, nb, bf, bt, sb, sx, P, C, D⟩ := id In.core
  have hS := In.1
  have B : GBg g := P.2.2.2.2.2.2.1
  have G := C.2.2.1
  have G' := D.2.2.1
  rcases line_c hS P C D with ⟨N1, N2⟩ | ⟨i, mo, e, hi, pl, eM, R, hg⟩
  · have N1 := (c_lineN (d := 588) (a := w.toInt) (b := n) hS N1).2.2
    have N2 := (m_lineN (d := 588) (a := w.toInt) (b := n) hS N2).2.2
    rw [I_of] at N1 N2
    exact OP.same In N1 N2
  · have Bx := C.2.2.2.2.2.2.2.1
    by_cases q : 1 ≤ n ∧ n ≤ 8
    · obtain ⟨n', en⟩ : ∃ n' : Nat, n = (n' : Int) := ⟨n.toNat, by omega⟩
      rw [en, I_nI]
      by_cases hd : ∀ k, k < n' → digN w k < nb
      · obtain ⟨h1, e1, F1, R1, -⟩ := c_word (d := 594) R hg Bx (w := w) (n := n') (by omega) (by omega) hd
        have D1 := D.c F1 rfl
        obtain ⟨h2, e2, F2, M2, -⟩ := m_word (d := 464) (D1.rd P F1.1 e hi pl) hg D1.2.2.2.2.2.2.1 (w := w) (n := n') (by omega) (by omega) hd
        exact ⟨_, op_net In P C D eM e1 e2 F1 F2 rfl rfl rfl R1 M2.2.2.1 (In.told.k2 F1 F2 rfl rfl rfl)⟩
      · exact OP.same In (c_wordN (d := 594) R hg Bx (w := w) (n := n') (by omega) (by omega) hd) (m_wordN (d := 464) (D.rd P hS e hi pl) hg D.2.2.2.2.2.2.1 (w := w) (n := n') (by omega) (by omega) hd)
    · have q1 := c_wordF (d := 588) (w := w.toInt) R hg jn q
      have q2 := m_wordF (d := 588) (w := w.toInt) (D.rd P hS e hi pl) hg jn q
      rw [I_of] at q1 q2
      exact OP.same In q1 q2
def OPL (y1 y2 : Nat) (as : List Value) (h : AH) : Prop := ∃ r : Int64, OPv (.long r) y1 y2 as h
theorem op_words (In : Inv h) (jn : r31 n) (jw : r31 w) : OPL 155 278 [.int (I n), .int (I w)] h := by
  obtain ⟨nm, uz, M, E, g, fk, ps, np, X, nb, bf, bt, sb, sx, P, C, D⟩ := id In.core
  have hS := In.1
  have B : GBg g := P.2.2.2.2.2.2.1
  have G := C.2.2.1
  have G' := D.2.2.1
  rcases line_c hS P C D with ⟨N1, N2⟩ | ⟨i, mo, e, hi, pl, eM, R, hg⟩
  · exact ⟨_, OPv.same In (c_lineN (d := 588) hS N1).2.1 (m_lineN (d := 588) hS N2).2.1⟩
  · have Bx := C.2.2.2.2.2.2.2.1
    by_cases q : (1 ≤ n ∧ n ≤ 20) ∧ 0 ≤ w ∧ w ≤ 1
    · obtain ⟨n', en⟩ : ∃ n' : Nat, n = (n' : Int) := ⟨n.toNat, by omega⟩
      obtain ⟨w', ew⟩ : ∃ w' : Nat, w = (w' : Int) := ⟨w.toNat, by omega⟩
      rw [en, ew, I_nI, I_nI]
      obtain ⟨ea, eb, En⟩ := C.2.2.2.2.2.2.2.2.2.2
      obtain ⟨h1, e1, F1, R1, B1, En1⟩ := c_words (d := 594) R hg Bx En (n := n') (by omega) (by omega) (w := w') (by omega)
      have D1 := D.c F1 rfl
      obtain ⟨h2, e2, F2, M2, -⟩ := m_words (d := 464) (D1.rd P F1.1 e hi pl) hg D1.2.2.2.2.2.2.1 (n := n') (by omega) (by omega) (w := w') (by omega)
      have a0 := F1.2.1 0 (by decide)
      have C1 : CoC h1 nm uz M E g fk ps np X nb bf bt sb sx := ⟨⟨by rw [gi_of_ag a0]; exact C.1.1, by rw [gi_of_ag a0]; exact C.1.2.1, C.1.2.2.keep F1 rfl (by decide)⟩, ⟨R1.2.2.2.1, R1.2.2.2.2.1⟩, R1.2.2.1.2.1, R1.2.2.2.2.2.1, C.2.2.2.2.1.keep F1 (by decide) (by decide), C.2.2.2.2.2.1.keep F1 C.2.2.2.2.1.2.2.1 rfl, C.2.2.2.2.2.2.1.keep F1 (by decide), B1, C.2.2.2.2.2.2.2.2.1.keep2 F1 (gi_of_ag (F1.2.1 51 (by decide))) (by decide) (by decide), C.w3k F1 (by decide), En1⟩
      exact ⟨_, OPv.go In e1 e2 F1 F2 rfl rfl rfl rfl rfl (In.told.k2 F1 F2 rfl rfl rfl) ⟨nm, uz, M, E, g, fk, ps, np, X, nb, bf, bt, sb, sx, P, C1.m F2.1 rfl, D1.go F2 rfl rfl M2.2.2.1 (D1.2.2.2.2.2.1.keep F2 (by decide))⟩⟩
    · exact ⟨_, OPv.same In (c_wordsF (d := 588) R hg jn jw q) (m_wordsF (d := 588) (D.rd P hS e hi pl) hg jn jw q)⟩
theorem op_box (In : Inv h) (ja : r31 a) (jb : r31 b) : OP 153 274 [.int (I a), .int (I b)] h := by
  obtain ⟨nm, uz, M, E, g, fk, ps, np, X, nb, bf, bt, sb, sx, P, C, D⟩ := id In.core
  have hS := In.1
  have B : GBg g := P.2.2.2.2.2.2.1
  have G := C.2.2.1
  have G' := D.2.2.1
  rcases line_c hS P C D with ⟨N1, N2⟩ | ⟨i, mo, e, hi, pl, eM, R, hg⟩
  · exact OP.same In (c_boxN (d := 588) hS N1) (m_boxN (d := 588) hS N2)
  · have Bx := C.2.2.2.2.2.2.2.1
    by_cases q : okCl g a = true ∧ okCl g b = true ∧ a ≤ b ∧ nb < 6
    · obtain ⟨a', ha, ea⟩ := okCl_t.mp q.1
      obtain ⟨b', hb, eb⟩ := okCl_t.mp q.2.1
      rw [ea, eb, I_nI, I_nI]
      obtain ⟨h1, e1, F1, B1⟩ := c_box (d := 596) R hg Bx q.2.2.2 (p := a') (q := b') (by omega) hb
      have D1 := D.c F1 rfl
      obtain ⟨h2, e2, F2, B2⟩ := m_box (d := 596) (D1.rd P F1.1 e hi pl) hg D1.2.2.2.2.2.2.1 q.2.2.2 (p := a') (q := b') (by omega) hb
      have a0 := F1.2.1 0 (by decide)
      have C1 : CoC h1 nm uz M E g fk ps np X _ _ _ sb sx := ⟨⟨by rw [gi_of_ag a0]; exact C.1.1, by rw [gi_of_ag a0]; exact C.1.2.1, C.1.2.2.keep F1 rfl (by decide)⟩, ⟨C.2.1.1.keep F1 (by decide) (by decide), by rw [gi_of_ag (F1.2.1 6 (by decide))]; exact C.2.1.2⟩, G.keep F1 (by decide) (by decide) (by decide), by rw [gi_of_ag a0]; exact C.2.2.2.1, C.2.2.2.2.1.keep F1 (by decide) (by decide), C.2.2.2.2.2.1.keep F1 C.2.2.2.2.1.2.2.1 rfl, C.2.2.2.2.2.2.1.keep F1 (by decide), B1, C.2.2.2.2.2.2.2.2.1.keep2 F1 (gi_of_ag (F1.2.1 51 (by decide))) (by decide) (by decide), C.w3k F1 (by decide), C.en hS (y := 153) rfl e1⟩
      exact ⟨_, OPv.go In e1 e2 F1 F2 rfl rfl rfl rfl rfl (In.told.k2 F1 F2 rfl rfl rfl) ⟨nm, uz, M, E, g, fk, ps, np, X, _, _, _, sb, sx, P, C1.m F2.1 rfl, D1.k1 F2 rfl rfl, D1.2.1.keep F2 (by decide), D1.2.2.1.keep F2 (by decide), by rw [F2.fi (by decide)]; exact D1.2.2.2.1, D1.2.2.2.2.1.keep F2 (by decide) (by decide), D1.2.2.2.2.2.1.keep F2 (by decide), B2, D1.2.2.2.2.2.2.2.keep F2 (by decide) (by decide)⟩⟩
    · exact OP.same In (c_boxF (d := 588) R hg Bx ja jb q) (m_boxF (d := 588) (D.rd P hS e hi pl) hg D.2.2.2.2.2.2.1 ja jb q)
end OPIMG
