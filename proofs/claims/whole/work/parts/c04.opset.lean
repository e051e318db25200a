/-! THE CALLS of the net that change sets, ways; rings -/
section OPSET
variable {h h1 h2 : AH} {L1 L2 S2 : List Nat} {nm fk np nb : Nat} {uz : Int} {M : MPT} {E : LE} {g : GT} {ps : Nat → Int} {X X' : ST4} {f : Nat → Nat} {b : Bool} {x : SP} {r : Value} {y1 y2 : Nat} {as : List Value} {z a s n w k v t : Int}
theorem mem74 {u : Nat} (hu : u < 4) {B K : List Nat} (hB : ∀ y, y ∈ B → y ∈ K) (hK : ∀ y, y ∈ [74, 75, 76, 77] → y ∈ K) : ∀ y, y ∈ (74 + u) :: B → y ∈ K := fun y hy => by
  rcases List.mem_cons.mp hy with q | q
  · exact hK y (by simp only [List.mem_cons, List.not_mem_nil, or_false]; omega)
  · exact hB y q
theorem memc {v : Nat} {B K : List Nat} (hv : v ∈ K) (hB : ∀ y, y ∈ B → y ∈ K) : ∀ y, y ∈ v :: B → y ∈ K := fun y hy => by
  rcases List.mem_cons.mp hy with q | q
  · rw [q]; exact hv
  · exact hB y q
def SLA : List Nat := [43, 44, 74, 75, 76, 77, 58, 59, 60, 61, 6, 7, 8, 9, 10, 11, 12, 13, 14]
def SLW : List Nat := SLA ++ WYL
theorem op_core (In : Inv h) (hs : r31 s) (ht : r31 t) : OP 141 253 [.int (I s), .int (I t)] h := by
  obtain ⟨nm, uz, M, E, g, fk, ps, np, X, nb, bf, bt, sb, sx, P, C, D⟩ := id In.core
  have hS := In.1
  have B : GBg g := P.2.2.2.2.2.2.1
  have G := C.2.2.1
  have G' := D.2.2.1
  rcases net_c hS P C D with ⟨N1, N2⟩ | ⟨i, mo, e, hi, pl, eM, R⟩
  · exact OP.same In (c_coreN (d := 588) hS hs ht (fun q => q.2.2 N1)) (m_coreN (d := 588) hS hs ht (fun q => q.2.2 N2))
  · by_cases q : okS s = true ∧ okS t = true
    · obtain ⟨s', hs', es⟩ := okS_t.mp q.1
      obtain ⟨t', ht', et⟩ := okS_t.mp q.2
      rw [es, et, I_nI, I_nI]
      obtain ⟨h1, w, e1, F1, R1, Y1, gr⟩ := c_core (d := 591) R C.2.2.2.2.2.2.1 hs' ht'
      have F1 : Fr SLA h h1 := F1.mono (memc (by decide) (memc (by decide) (mem74 ht' (by decide) (by decide))))
      have D1 := D.c F1 rfl
      obtain ⟨h2, e2, F2, M2, Y2⟩ := m_core (d := 461) (D1.rd P F1.1 e hi pl) D1.2.2.2.2.2.1 hs' ht' gr
      exact ⟨_, op_netS In P C D eM e1 e2 F1 F2 rfl rfl R1 Y1 M2.2.2.1 Y2 (In.told.k2 F1 F2 rfl rfl rfl)⟩
    · exact OP.same In (c_coreN (d := 588) hS hs ht (fun w => q ⟨w.1, w.2.1⟩)) (m_coreN (d := 588) hS hs ht (fun w => q ⟨w.1, w.2.1⟩))
theorem op_reach (In : Inv h) (hs : r31 s) (ht : r31 t) (hw : r31 w) : OP 142 255 [.int (I s), .int (I t), .int (I w)] h := by
  obtain ⟨nm, uz, M, E, g, fk, ps, np, X, nb, bf, bt, sb, sx, P, C, D⟩ := id In.core
  have hS := In.1
  have B : GBg g := P.2.2.2.2.2.2.1
  have G := C.2.2.1
  have G' := D.2.2.1
  rcases net_c hS P C D with ⟨N1, N2⟩ | ⟨i, mo, e, hi, pl, eM, R⟩
  · exact OP.same In (c_reachN (d := 588) hS hs ht hw (fun q => q.2.2.2 N1)) (m_reachN (d := 588) hS hs ht hw (fun q => q.2.2 N2))
  · by_cases q : okS s = true ∧ okS t = true ∧ (0 ≤ w ∧ w ≤ 3)
    · obtain ⟨s', hs', es⟩ := okS_t.mp q.1
      obtain ⟨t', ht', et⟩ := okS_t.mp q.2.1
      obtain ⟨w', ew⟩ : ∃ w' : Nat, w = (w' : Int) := ⟨w.toNat, by omega⟩
      rw [es, et, ew, I_nI, I_nI, I_nI]
      by_cases w2 : w' = 2
      · subst w2
        obtain ⟨h1, v, e1, F1, R1, Y1, gr⟩ := c_reach2 (d := 591) R C.2.2.2.2.2.2.1 hs' ht'
        have F1 : Fr SLA h h1 := F1.mono (memc (by decide) (mem74 ht' (by decide) (by decide)))
        have D1 := D.c F1 rfl
        obtain ⟨h2, e2, F2, M2, Y2⟩ := m_reach2 (d := 460) (D1.rd P F1.1 e hi pl) D1.2.2.2.2.2.1 hs' ht' gr
        exact ⟨_, op_netS In P C D eM e1 e2 F1 F2 rfl rfl R1 Y1 M2.2.2.1 Y2 (In.told.k2 F1 F2 rfl rfl rfl)⟩
      · have hw' : w' = 0 ∨ w' = 1 ∨ w' = 3 := by omega
        obtain ⟨h1, e1, F1, R1, K1, Y1⟩ := c_reach (d := 591) R (C.W eM) C.2.2.2.2.2.2.1 hs' ht' hw'
        have F1 : Fr SLW h h1 := F1.mono (memc (by decide) (mem74 ht' (by decide) (by decide)))
        have D1 := D.c F1 rfl
        obtain ⟨h2, e2, F2, M2, Y2⟩ := m_reach (d := 460) (D1.rd P F1.1 e hi pl) D1.2.2.2.2.2.1 hs' ht' hw'
        exact ⟨_, op_way In P C D eM e1 e2 F1 F2 rfl rfl R1 K1 Y1 M2.2.2.1 Y2 (In.told.k2 F1 F2 rfl rfl rfl)⟩
    · exact OP.same In (c_reachN (d := 588) hS hs ht hw (fun w => q ⟨w.1, w.2.1, w.2.2.1⟩)) (m_reachF (d := 588) hS (D.rd P hS e hi pl) hs ht hw q)
theorem op_order (In : Inv h) (ha : r31 a) (hz : r31 z) : OP 146 260 [.int (I a), .int (I z)] h := by
  obtain ⟨nm, uz, M, E, g, fk, ps, np, X, nb, bf, bt, sb, sx, P, C, D⟩ := id In.core
  have hS := In.1
  have B : GBg g := P.2.2.2.2.2.2.1
  have G := C.2.2.1
  have G' := D.2.2.1
  rcases net_c hS P C D with ⟨N1, N2⟩ | ⟨i, mo, e, hi, pl, eM, R⟩
  · exact OP.same In (c_orderN (d := 588) hS ha hz (fun q => q N1)) (m_orderN (d := 588) hS ha hz (fun q => q N2))
  · by_cases q : (0 ≤ a ∧ a < (cntB (ldB (war (arS g ((M i).1, E, (M i).2.1, (M i).2.2.1, fk)) (nC g))) (nC g) : Int)) ∧ 0 ≤ z ∧ z < (cntB (ldB (war (arS g ((M i).1, E, (M i).2.1, (M i).2.2.1, fk)) (nC g))) (nC g) : Int)
    · obtain ⟨a', ea⟩ : ∃ a' : Nat, a = (a' : Int) := ⟨a.toNat, by omega⟩
      obtain ⟨z', ez⟩ : ∃ z' : Nat, z = (z' : Int) := ⟨z.toNat, by omega⟩
      rw [ea, ez, I_nI, I_nI]
      obtain ⟨h1, e1, F1, R1, K1⟩ := c_order (d := 591) R (C.W eM) (a := a') (b := z') (by omega) (by omega)
      have D1 := D.c F1 rfl
      obtain ⟨h2, e2, F2, M2⟩ := m_order (d := 459) (D1.rd P F1.1 e hi pl) (a := a') (b := z') (by omega) (by omega)
      exact ⟨_, op_way In P C D eM e1 e2 F1 F2 rfl rfl R1 K1 (C.2.2.2.2.2.2.1.keep F1 (by decide)) M2.2.2.1 (D1.2.2.2.2.2.1.keep F2 (by decide)) (In.told.k2 F1 F2 rfl rfl rfl)⟩
    · obtain ⟨h1, e1, F1, R1, K1⟩ := c_orderF (d := 588) R (C.W eM) ha hz q
      have D1 := D.c F1 rfl
      obtain ⟨h2, e2, F2, M2⟩ := m_orderF (d := 459) (D1.rd P F1.1 e hi pl) ha hz q
      exact ⟨_, op_way In P C D eM e1 e2 F1 F2 rfl rfl R1 K1 (C.2.2.2.2.2.2.1.keep F1 (by decide)) M2.2.2.1 (D1.2.2.2.2.2.1.keep F2 (by decide)) (In.told.k2 F1 F2 rfl rfl rfl)⟩
theorem op_take (In : Inv h) (ha : r31 a) (ht : r31 t) : OP 147 261 [.int (I a), .int (I t)] h := by
  obtain ⟨nm, uz, M, E, g, fk, ps, np, X, nb, bf, bt, sb, sx, P, C, D⟩ := id In.core
  have hS := In.1
  have B : GBg g := P.2.2.2.2.2.2.1
  have G := C.2.2.1
  have G' := D.2.2.1
  rcases net_c hS P C D with ⟨N1, N2⟩ | ⟨i, mo, e, hi, pl, eM, R⟩
  · exact OP.same In (c_takeN (d := 588) hS ha ht (fun q => q.2 N1)) (m_takeN (d := 588) hS ha ht (fun q => q N2))
  · by_cases qt : okS t = true
    · obtain ⟨t', ht', et⟩ := okS_t.mp qt
      rw [et, I_nI]
      by_cases q : 0 ≤ a ∧ a < (cntB (ldB (war (arS g ((M i).1, E, (M i).2.1, (M i).2.2.1, fk)) (nC g))) (nC g) : Int)
      · obtain ⟨a', ea⟩ : ∃ a' : Nat, a = (a' : Int) := ⟨a.toNat, by omega⟩
        rw [ea, I_nI]
        obtain ⟨h1, e1, F1, R1, K1, Y1⟩ := c_take (d := 591) R (C.W eM) C.2.2.2.2.2.2.1 (k := a') (by omega) ht'
        have F1 : Fr SLW h h1 := F1.mono (memc (by decide) (mem74 ht' (by decide) (by decide)))
        have D1 := D.c F1 rfl
        obtain ⟨h2, e2, F2, M2, Y2⟩ := m_take (d := 459) (D1.rd P F1.1 e hi pl) D1.2.2.2.2.2.1 (k := a') (by omega) ht'
        exact ⟨_, op_way In P C D eM e1 e2 F1 F2 rfl rfl R1 K1 Y1 M2.2.2.1 Y2 (In.told.k2 F1 F2 rfl rfl rfl)⟩
      · obtain ⟨h1, e1, F1, R1, K1⟩ := c_takeF (d := 588) R (C.W eM) ha ht' q
        have D1 := D.c F1 rfl
        obtain ⟨h2, e2, F2, M2⟩ := m_takeH (d := 459) (D1.rd P F1.1 e hi pl) ha ht' q
        exact ⟨_, op_way In P C D eM e1 e2 F1 F2 rfl rfl R1 K1 (C.2.2.2.2.2.2.1.keep F1 (by decide)) M2.2.2.1 (D1.2.2.2.2.2.1.keep F2 (by decide)) (In.told.k2 F1 F2 rfl rfl rfl)⟩
    · exact OP.same In (c_takeN (d := 588) hS ha ht (fun w => qt w.1)) (m_takeF (d := 588) hS (D.rd P hS e hi pl) ha ht qt)
theorem op_sense (In : Inv h) (ht : r31 t) : OP 164 287 [.int (I t)] h := by
  obtain ⟨nm, uz, M, E, g, fk, ps, np, X, nb, bf, bt, sb, sx, P, C, D⟩ := id In.core
  have hS := In.1
  have B : GBg g := P.2.2.2.2.2.2.1
  have G := C.2.2.1
  have G' := D.2.2.1
  rcases net_c hS P C D with ⟨N1, N2⟩ | ⟨i, mo, e, hi, pl, eM, R⟩
  · exact OP.same In (c_senseN (d := 588) hS ht (fun q => q.2 N1)) (m_senseN (d := 588) hS ht (fun q => q.2 N2))
  · by_cases q : okS t = true
    · obtain ⟨t', ht', et⟩ := okS_t.mp q
      rw [et, I_nI]
      obtain ⟨ls, Z, Z'⟩ := In.2.2.2.2.2.1
      obtain ⟨sv, V, V'⟩ := In.2.2.2.2.2.2.1
      have V' : SgtM h g sv := V'
      obtain ⟨h1, e1, F1, R1, Y1⟩ := c_sense (d := 591) R V Z C.2.2.2.2.2.2.1 ht'
      have F1 : Fr SLA h h1 := F1.mono (memc (by decide) (memc (by decide) (mem74 ht' (by decide) (by decide))))
      have D1 := D.c F1 rfl
      have FF := F1.toFM (by decide) []
      obtain ⟨h2, e2, F2, M2, Y2⟩ := m_sense (d := 461) (D1.rd P F1.1 e hi pl) (V'.keep FF (by decide)) (Z'.keep FF (by decide) (by decide)) D1.2.2.2.2.2.1 ht'
      exact ⟨_, op_netS In P C D eM e1 e2 F1 F2 rfl rfl R1 Y1 M2.2.2.1 Y2 (In.told.k2 F1 F2 rfl rfl rfl)⟩
    · exact OP.same In (c_senseN (d := 588) hS ht (fun w => q w.1)) (m_senseN (d := 588) hS ht (fun w => q w.1))
theorem op_rings (In : Inv h) (hn : r31 n) : OP 151 268 [.int (I n)] h := by
  obtain ⟨nm, uz, M, E, g, fk, ps, np, X, nb, bf, bt, sb, sx, P, C, D⟩ := id In.core
  have hS := In.1
  have B : GBg g := P.2.2.2.2.2.2.1
  have G := C.2.2.1
  have G' := D.2.2.1
  rcases net_c hS P C D with ⟨N1, N2⟩ | ⟨i, mo, e, hi, pl, eM, R⟩
  · exact OP.same In (c_ringsN (d := 588) hS hn (fun q => q.2 N1)) (m_ringsN (d := 588) hS hn (fun q => q N2))
  · by_cases q : 1 ≤ n ∧ n ≤ 60
    · obtain ⟨n', en⟩ : ∃ n' : Nat, n = (n' : Int) := ⟨n.toNat, by omega⟩
      rw [en, I_nI]
      obtain ⟨p, s, r, w1, w2⟩ := C.2.2.2.2.2.2.2.2.2.1
      obtain ⟨h1, p', s', r', e1, F1, R1, w1', w2', k23, T1⟩ := c_rings (d := 591) R w1 w2 (n := n') (by omega) (by omega)
      have D1 := D.c F1 rfl
      obtain ⟨h2, e2, F2, M2, T2⟩ := m_rings (d := 461) (D1.rd P F1.1 e hi pl) (n := n') (by omega) (by omega)
      refine ⟨_, op_net5 In P C D eM e1 e2 F1 F2 rfl R1 ?_ ⟨_, _, _, w1', w2'⟩ (C.2.2.2.2.2.2.1.keep F1 (by decide)) M2.2.2.1 (D1.2.2.2.2.2.1.keep F2 (by decide)) (BTold.n2 T1 F2 rfl T2)⟩
      rcases C.W eM with c | ⟨c, Y, Z⟩
      · exact Or.inl ((k23 4).trans c)
      · exact Or.inr ⟨(k23 4).trans c, Y.keep F1 (by decide) (by decide), (k23 3).trans Z.1, fun c' hc => by rw [ai_of_ag (F1.2.1 28 (by decide))]; exact Z.2.1 c' hc, fun l hl hd => by rw [ai_of_ag (F1.2.1 29 (by decide))]; exact Z.2.2 l hl hd⟩
    · exact OP.same In (c_ringsN (d := 588) hS hn (fun w => q w.1)) (m_ringsF (d := 588) hS (D.rd P hS e hi pl) hn q)
theorem op_change (In : Inv h) (hn : r31 n) : OP 148 262 [.int (I n)] h := by
  obtain ⟨nm, uz, M, E, g, fk, ps, np, X, nb, bf, bt, sb, sx, P, C, D⟩ := id In.core
  have hS := In.1
  have B : GBg g := P.2.2.2.2.2.2.1
  have G := C.2.2.1
  have G' := D.2.2.1
  rcases net_c hS P C D with ⟨N1, N2⟩ | ⟨i, mo, e, hi, pl, eM, R⟩
  · exact OP.same In (c_changeN (d := 588) hS hn (fun q => q.2 N1)) (m_changeN (d := 588) hS hn (fun q => q N2))
  · by_cases q : 1 ≤ n ∧ n ≤ 12
    · obtain ⟨n', en⟩ : ∃ n' : Nat, n = (n' : Int) := ⟨n.toNat, by omega⟩
      rw [en, I_nI]
      have pE := P.2.2.2.2.2.1
      obtain ⟨h1, e1, F1, R1, f1, f2, T1⟩ := c_change (d := 591) R (k := n') pE (by omega) (by omega)
      have D1 := D.c F1 rfl
      obtain ⟨h2, e2, F2, M2, T2⟩ := m_change (d := 458) (D1.rd P F1.1 e hi pl) (k := n') pE (by omega) (by omega)
      have W1 := C.w3 hS (y := 148) rfl e1
      have Y1 : SetC h1 g X := C.2.2.2.2.2.2.1.keep F1 (by decide)
      have C1 : CoC h1 nm uz M E g fk ps np X nb bf bt sb sx := C.go F1 rfl rfl R1.2.2.2.1 R1.2.2.2.2.1 R1.2.2.1.2.1 ⟨⟨fun j hj => Or.inl (f1 j (by have := C.2.2.2.2.1.2.2.1; omega)), fun j _ hj => f1 j hj⟩, Or.inl f2⟩ Y1 W1
      exact ⟨_, OPv.go In e1 e2 F1 F2 rfl rfl rfl rfl rfl (BTold.n2 T1 F2 rfl T2) ⟨nm, uz, M, E, g, fk, ps, np, X, nb, bf, bt, sb, sx, P, C1.m F2.1 rfl, D1.go F2 rfl rfl M2.2.2.1 (D1.2.2.2.2.2.1.keep F2 (by decide))⟩⟩
    · exact OP.same In (c_changeN (d := 588) hS hn (fun w => q w.1)) (m_changeF (d := 588) hS (D.rd P hS e hi pl) hn q)
/-- steer, safe: the nets of the pushes -/
theorem CoC.cap {f' : Nat → Nat} (C : CoC h nm uz M E g fk ps np X nb f f' b x) {i : Nat} (eM : M uz.toNat = M i) : CaP h g (M i).1 E (M i).2.1 (M i).2.2.1 fk ps np := by
  have := C.2.2.2.2.2.1.1
  rw [eM] at this
  exact this
def SLP : List Nat := [43, 74, 75, 76, 77] ++ PNL
theorem op_safe (In : Inv h) (hs : r31 s) (ht : r31 t) : OP 160 283 [.int (I s), .int (I t)] h := by
  obtain ⟨nm, uz, M, E, g, fk, ps, np, X, nb, bf, bt, sb, sx, P, C, D⟩ := id In.core
  have hS := In.1
  have B : GBg g := P.2.2.2.2.2.2.1
  have G := C.2.2.1
  have G' := D.2.2.1
  rcases net_c hS P C D with ⟨N1, N2⟩ | ⟨i, mo, e, hi, pl, eM, R⟩
  · exact OP.same In (c_safeN (d := 588) hS hs ht (fun q => q.2.2 N1)) (m_safeN (d := 588) hS hs ht (fun q => q.2.2 N2))
  · by_cases q : okS s = true ∧ okS t = true
    · obtain ⟨s', hs', es⟩ := okS_t.mp q.1
      obtain ⟨t', ht', et⟩ := okS_t.mp q.2
      rw [es, et, I_nI, I_nI]
      obtain ⟨h1, w, e1, F1, R1, K1, Y1, gr⟩ := c_safe (d := 591) R P.2.2.2.2.1 C.2.2.2.2.1 (C.cap eM) C.2.2.2.2.2.2.1 hs' ht'
      have F1 : Fr SLP h h1 := F1.mono (memc (by decide) (mem74 ht' (by decide) (by decide)))
      have D1 := D.c F1 rfl
      obtain ⟨h2, e2, F2, M2, Y2⟩ := m_safe (d := 461) (D1.rd P F1.1 e hi pl) D1.2.2.2.2.1 D1.2.2.2.2.2.1 hs' ht' gr
      have C1 := C.go F1 rfl rfl R1.2.2.2.1 R1.2.2.2.2.1 R1.2.2.1.2.1 (by rw [eM]; exact ⟨K1, (C.W eM).keep F1 (by decide)⟩) Y1 (C.w3k F1 (by decide))
      exact ⟨_, OPv.go In e1 e2 F1 F2 rfl rfl rfl rfl rfl (In.told.k2 F1 F2 rfl rfl rfl) ⟨nm, uz, M, E, g, fk, ps, np, _, nb, bf, bt, sb, sx, P, C1.m F2.1 rfl, D1.go F2 rfl rfl M2.2.2.1 Y2⟩⟩
    · exact OP.same In (c_safeN (d := 588) hS hs ht (fun w => q ⟨w.1, w.2.1⟩)) (m_safeN (d := 588) hS hs ht (fun w => q ⟨w.1, w.2.1⟩))
end OPSET
