/-! THE CALLS drive, count, grid, sight, see, blind -/
section OPG
variable {h : AH} {a b k n v w y z : Int}
theorem op_drive (In : Inv h) (jk : r31 k) (jn : r31 n) (f s : Int32) : OP 124 206 [.int (I k), .int (I n), .int f, .int s] h := by
  have hS := In.1
  by_cases q : 0 ≤ k ∧ k ≤ 3 ∧ n ≤ 20
  · by_cases k3 : k = 3
    · rw [show I k = nI 3 by rw [k3]; rfl]
      have e1 := c_drive3 (d := 599) (f := f) (s := s) hS jn q.2.2
      have F1 : Fr [0] h (wi h 0 6 0) := (Fr.rf hS _).swi (by decide)
      have e2 := m_drive3 (d := 598) (f := f) (s := s) F1.1 jn q.2.2
      have F2 : FM [78] [0, 20] (wi h 0 6 0) (wi (wi (wi h 0 6 0) 78 0 0) 78 20 0) := ((FM.rf F1.1 _ _).swi (by decide) (by decide)).swi (by decide) (by decide)
      have kk : ∀ c, c ≠ 6 → gi (wi h 0 6 0) 0 c = gi h 0 c := fun c hc => gi_wi_n (fun z => hc z.2)
      have g6 : gi (wi (wi (wi h 0 6 0) 78 0 0) 78 20 0) 0 6 = nI 0 := by rw [gi_of_ag (F2.1.2.1 0 (by decide))]; exact g0_6 hS
      exact ⟨_, OPv.fr e1 e2 F1 F2 rfl rfl ⟨F2.s, In.x2 F1 F2 rfl rfl, In.2.2.1.k2 F1 F2 rfl rfl rfl, In.told.k2 F1 F2 rfl rfl rfl, ⟨fun _ => 0, 0, ⟨g6, by decide, fun t ht => absurd ht (Nat.not_lt_zero _)⟩, ⟨g78_20 (SH_wi F1.1), by decide, fun t ht => absurd ht (Nat.not_lt_zero _)⟩, fun t => ⟨by show (-2147483648 : Int) ≤ 0; decide, by show (0 : Int) < 2147483648; decide⟩⟩, In.2.2.2.2.2.1.k2 F1 F2 (kk 19 (by decide)) rfl rfl rfl, In.2.2.2.2.2.2.1.k2 F1 F2 rfl rfl, In.core.k2 F1 F2 (kk 2 (by decide)) (kk 3 (by decide)) (kk 9 (by decide)) rfl rfl rfl rfl rfl⟩⟩
    · by_cases n0 : n < 0
      · exact OP.same In (c_driveL (d := 599) hS ⟨q.1, by omega⟩ jn n0) (m_driveL (d := 598) hS ⟨q.1, by omega⟩ jn n0)
      · obtain ⟨w', ew⟩ : ∃ w' : Nat, k = (w' : Int) := ⟨k.toNat, by omega⟩
        obtain ⟨n', en⟩ : ∃ n' : Nat, n = (n' : Int) := ⟨n.toNat, by omega⟩
        rw [ew, en, I_nI, I_nI]
        obtain ⟨h1, e1, F1, kk, U1⟩ := c_drive (d := 599) hS (w := w') (n := n') (f := f) (s := s) (by omega) (by omega)
        obtain ⟨h2, e2, F2, U2⟩ := m_drive (d := 598) F1.1 (w := w') (n := n') (f := f) (s := s) (by omega) (by omega)
        exact ⟨_, OPv.fr e1 e2 F1 F2 rfl rfl ⟨F2.s, In.x2 F1 F2 rfl rfl, In.2.2.1.k2 F1 F2 rfl rfl rfl, In.told.k2 F1 F2 rfl rfl rfl, ⟨_, _, U1.keep F2.1 (by decide) (by decide), U2, drD_b⟩, In.2.2.2.2.2.1.k2 F1 F2 (kk 19 (by decide)) rfl rfl rfl, In.2.2.2.2.2.2.1.k2 F1 F2 rfl rfl, In.core.k2 F1 F2 (kk 2 (by decide)) (kk 3 (by decide)) (kk 9 (by decide)) rfl rfl rfl rfl rfl⟩⟩
  · exact OP.same In (c_driveF (d := 599) hS jk jn q) (m_driveF (d := 598) hS jk jn q)
theorem op_count (In : Inv h) (jz : r31 z) : OP 125 208 [.int (I z)] h := by
  obtain ⟨nm, uz, M, E, g, fk, ps, np, X, nb, bf, bt, sb, sx, P, C, D⟩ := id In.core
  have hS := In.1
  have B : GBg g := P.2.2.2.2.2.2.1
  have G := C.2.2.1
  have G' := D.2.2.1
  have Q : ∃ v mo, (v = .null ∨ v = .ref mo) ∧ ∀ d, aCall (d + 1) 174 [.ref 0] h = some (some v, h) := by
    by_cases hz : uz = -1
    · exact ⟨.null, 0, Or.inl rfl, fun d => c_theMap0 hS (C.no hz)⟩
    · obtain ⟨i, mo, e, hi, eM, U, m⟩ := C.use P (by have := P.2.1; omega)
      exact ⟨_, mo, Or.inr rfl, fun d => c_theMap hS U⟩
  obtain ⟨v, mo, hv, Q⟩ := Q
  obtain ⟨a0, a3, a4, a7, a8, a9⟩ := c_count (d := 598) hS hv (Q 598)
  obtain ⟨b0, b3, b4, b6, b7, b8, b9⟩ := m_count (d := 599) hS
  obtain ⟨a2, a5, a6, ao⟩ := c_countR (d := 597) hS G B hv (Q 598)
  obtain ⟨b2, b5, bo⟩ := m_countR (d := 597) hS G'
  by_cases c : 0 ≤ z ∧ z ≤ 9
  · obtain ⟨k, ek⟩ : ∃ k : Nat, z = (k : Int) := ⟨z.toNat, by omega⟩
    rw [ek, I_nI]
    have hk : k = 0 ∨ k = 1 ∨ k = 2 ∨ k = 3 ∨ k = 4 ∨ k = 5 ∨ k = 6 ∨ k = 7 ∨ k = 8 ∨ k = 9 := by omega
    rcases hk with r | r | r | r | r | r | r | r | r | r
    · rw [r]
      rw [C.1.1] at a0
      rw [D.1.1] at b0
      exact OP.same In a0 b0
    · rw [r]
      by_cases hz : uz = -1
      · exact OP.same In (c_count10 (d := 598) hS (C.no hz)) (m_count1 (d := 598) (m_isPlane0 (SH_wi hS) (by rw [gi_wi_n (by decide)]; exact D.no hz)) hS)
      · obtain ⟨i, mo, e, hi, eM, U, m⟩ := C.use P (by have := P.2.1; omega)
        have mm := D.1.2.2 i hi
        exact OP.same In (c_count1 (d := 598) hS U m) (m_count1 (d := 598) (m_isPlane (SH_wi hS) (by rw [gi_wi_n (by decide)]; exact D.use e) (by rw [ai_wi]; exact mm.2.1) mm.2.2.2.1 (by have := P.1; omega)) hS)
    · rw [r]
      exact OP.same In a2 b2
    · rw [r]
      rw [C.2.2.2.2.1.1] at a3
      rw [D.2.2.2.2.1.1] at b3
      exact OP.same In a3 b3
    · rw [r]
      rw [C.2.2.2.2.2.2.2.1.2.1] at a4
      rw [D.2.2.2.2.2.2.1.2.1] at b4
      exact OP.same In a4 b4
    · rw [r]
      obtain ⟨l, l1, l2⟩ := In.2.2.2.2.2.1
      rw [l1.1] at a5
      rw [l2.1] at b5
      exact OP.same In a5 b5
    · rw [r]
      obtain ⟨l, l1, l2⟩ := In.told
      rw [l1.1] at a6
      rw [l2.1] at b6
      exact OP.same In a6 b6
    · rw [r]
      obtain ⟨l, tp, l1, l2, -⟩ := In.2.2.1
      rw [l1.1] at a7
      rw [l2.1] at b7
      exact OP.same In a7 b7
    · rw [r]
      rw [C.2.2.2.1] at a8
      rw [D.2.2.2.1] at b8
      exact OP.same In a8 b8
    · rw [r]
      rw [C.1.2.1] at a9
      rw [D.1.2.1] at b9
      exact OP.same In a9 b9
  · exact OP.same In (ao z jz (by omega)) (bo z jz (by omega))
theorem op_grid (In : Inv h) (ja : r31 a) (jb : r31 b) (jw : r31 w) (jy : r31 y) (jz : r31 z) (jv : r31 v) : OP 130 227 [.int (I a), .int (I b), .int (I w), .int (I y), .int (I z), .int (I v)] h := by
  obtain ⟨nm, uz, M, E, g, fk, ps, np, X, nb, bf, bt, sb, sx, P, C, D⟩ := id In.core
  have hS := In.1
  have B : GBg g := P.2.2.2.2.2.2.1
  have G := C.2.2.1
  have G' := D.2.2.1
  by_cases hz : uz = -1
  · exact OP.same In (c_gridN (d := 595) hS (c_theMap0 hS (C.no hz))) (m_gridN (d := 596) hS (D.no hz))
  obtain ⟨i, mo, e, hi, eM, U, m⟩ := C.use P (by have := P.2.1; omega)
  have mm := D.1.2.2 i hi
  have i5 : i < 5 := by have := P.1; omega
  cases q : okGd (M i).2.2.2 a b w y z v
  · exact OP.same In (c_gridF (d := 596) hS U m ja jb jw jy jz jv q) (m_gridF (d := 596) hS (D.use e) i5 mm.2.1 mm.2.2.2.1 ja jb jw jy jz jv q)
  obtain ⟨Bg, -⟩ := gd_B q
  obtain ⟨h1, e1, F1, G1, x1, x2, x3, x4, x5, kk, x6, x7, fl, w4, wg⟩ := c_grid (d := 596) hS U m ja jb jw jy jz jv q
  have D1 := (D.keep (F1.toFM (by decide) []) rfl rfl rfl)
  obtain ⟨h2, e2, F2, G2, y1, y2, y3, y4⟩ := m_grid (d := 596) F1.1 (D1.use e) i5 (D1.1.2.2 i hi).2.1 mm.2.2.2.1 ja jb jw jy jz jv q
  generalize gdT (M i).2.2.2 a b w y z v = g' at Bg G1 G2 e1 e2
  have n128 : nC g' ≤ 128 := Bg.2.2.1
  have C1 : CoC h1 nm uz M E g' fk ps np (fun _ _ => false) 0 bf bt false sx := by
    refine ⟨⟨(kk 2 (by decide)).trans C.1.1, (kk 3 (by decide)).trans C.1.2.1, C.1.2.2.keep F1 rfl (by decide)⟩, ⟨C.2.1.1.keep F1 (by decide) (by decide), by rw [gi_of_ag (F1.2.1 6 (by decide))]; exact C.2.1.2⟩, G1, (kk 9 (by decide)).trans C.2.2.2.1, ?_, Cch.down fl C.2.2.2.2.1.2.2.1 w4, fun s hs c hc => by rw [Bool.and_false]; exact x1 s hs c hc, ⟨⟨by decide, fun j hj => absurd hj (Nat.not_lt_zero _)⟩, x2, fun j hj => absurd hj (Nat.not_lt_zero _)⟩, ⟨x6, fun z => nomatch z⟩, C.w3g wg, ?_⟩
    · have Pu := C.2.2.2.2.1
      exact ⟨x7.trans Pu.1, Pu.2.1, Pu.2.2.1, Pu.2.2.2.1, fun j hj => by rw [ai_of_ag (F1.2.1 52 (by decide))]; exact Pu.2.2.2.2.1 j hj, Pu.2.2.2.2.2⟩
    · obtain ⟨ea, eb, w1, w2, w3⟩ := C.2.2.2.2.2.2.2.2.2.2
      exact ⟨ea, eb, w1, (x3 4).trans w2, (x3 5).trans w3⟩
  have D2 : CoM h2 nm uz M E g' fk ps np (fun _ _ => false) 0 bf bt false sx := by
    refine ⟨D1.k1 F2 rfl rfl, D1.2.1.keep F2 (by decide), G2, by rw [F2.fi (by decide)]; exact D1.2.2.2.1, D1.2.2.2.2.1.keep F2 (by decide) (by decide), fun s hs c hc => y1 _ (by omega), ⟨⟨by decide, fun j hj => absurd hj (Nat.not_lt_zero _)⟩, y3, fun j hj => absurd hj (Nat.not_lt_zero _)⟩, fun c hc => ?_⟩
    have := y2 c (by omega)
    unfold stO
    rw [if_neg (by decide)]
    exact ⟨this.2.1, this.2.2⟩
  exact ⟨_, OPv.fr e1 e2 F1 F2 rfl rfl ⟨F2.s, In.x2 F1 F2 rfl rfl, In.2.2.1.k2 F1 F2 rfl rfl rfl, In.told.k2 F1 F2 rfl rfl rfl, In.2.2.2.2.1.k2 F1 F2 (kk 6 (by decide)) rfl rfl rfl, ⟨[], ⟨by rw [gi_of_ag (F2.1.2.1 0 (by decide))]; exact x5, by decide, fun i v hv => nomatch hv⟩, ⟨y4, by decide, fun i v hv => nomatch hv⟩⟩, ⟨fun _ => 0, fun c hc => by rw [ai_of_ag (F2.1.2.1 56 (by decide))]; exact x4 c hc, fun c hc => (y2 c hc).1⟩, ⟨nm, uz, M, E, g', fk, ps, np, _, 0, bf, bt, false, sx, ⟨P.1, P.2.1, P.2.2.1, P.2.2.2.1, P.2.2.2.2.1, P.2.2.2.2.2.1, Bg, P.2.2.2.2.2.2.2⟩, C1.m F2.1 rfl, D2⟩⟩⟩
theorem op_sight (In : Inv h) (jz : r31 z) (jv : r31 v) : OP 161 284 [.int (I z), .int (I v)] h := by
  obtain ⟨nm, uz, M, E, g, fk, ps, np, X, nb, bf, bt, sb, sx, P, C, D⟩ := id In.core
  have hS := In.1
  have B : GBg g := P.2.2.2.2.2.2.1
  have G := C.2.2.1
  have G' := D.2.2.1
  by_cases q : okCl g z = true ∧ (0 ≤ v ∧ v ≤ 9)
  · obtain ⟨c, hc, ec⟩ := okCl_t.mp q.1
    obtain ⟨v', ev⟩ : ∃ v' : Nat, v = (v' : Int) := ⟨v.toNat, by omega⟩
    rw [ec, ev, I_nI, I_nI]
    obtain ⟨sv, V, V'⟩ := In.2.2.2.2.2.2.1
    have V' : SgtM h g sv := V'
    obtain ⟨h1, e1, F1, Y1⟩ := c_sight (d := 597) hS G B V hc (v := v') (by omega)
    have F0 := F1.toFM (by decide) []
    obtain ⟨h2, e2, F2, Y2⟩ := m_sight (d := 597) F1.1 (G'.keep F0 (by decide)) B (V'.keep F0 (by decide)) hc (v := v') (by omega)
    have k := g0k F1 (by decide)
    exact ⟨_, OPv.fr e1 e2 F1 F2 rfl rfl ⟨F2.s, In.x2 F1 F2 rfl rfl, In.2.2.1.k2 F1 F2 rfl rfl rfl, In.told.k2 F1 F2 rfl rfl rfl, In.2.2.2.2.1.k2 F1 F2 (k 6) rfl rfl rfl, In.2.2.2.2.2.1.k2 F1 F2 (k 19) rfl rfl rfl, ⟨_, Y1.keep F2.1 (by decide), Y2⟩, In.core.k2 F1 F2 (k 2) (k 3) (k 9) rfl rfl rfl rfl rfl⟩⟩
  · exact OP.same In (c_sightN (d := 588) hS G B jz jv q) (m_sightN (d := 588) hS G' B jz jv q)
theorem op_see (In : Inv h) (jv : r31 v) : OP 162 285 [.int (I v)] h := by
  have hS := In.1
  obtain ⟨ls, Z, Z'⟩ := In.2.2.2.2.2.1
  by_cases q : 0 ≤ v ∧ v ≤ 9
  · by_cases l12 : ls.length < 12
    · obtain ⟨v', ev⟩ : ∃ v' : Nat, v = (v' : Int) := ⟨v.toNat, by omega⟩
      rw [ev, I_nI]
      obtain ⟨h1, e1, d1, Y1⟩ := c_see (d := 599) hS Z l12 (v := v') (by omega)
      have F1 : Fr [0, 57] h h1 := by rw [d1]; exact ((Fr.rf hS _).swAI (by decide)).swi (by decide)
      have kk : ∀ c, c ≠ 19 → gi h1 0 c = gi h 0 c := fun c hc => by rw [d1, gi_wi_n (fun z => hc z.2), gi_wAI]
      have F0 := F1.toFM (by decide) []
      obtain ⟨h2, e2, F2, Y2⟩ := m_see (d := 598) F1.1 (Z'.keep F0 (by decide) (by decide)) l12 (v := v') (by omega)
      exact ⟨_, OPv.fr e1 e2 F1 F2 rfl rfl ⟨F2.s, In.x2 F1 F2 rfl rfl, In.2.2.1.k2 F1 F2 rfl rfl rfl, In.told.k2 F1 F2 rfl rfl rfl, In.2.2.2.2.1.k2 F1 F2 (kk 6 (by decide)) rfl rfl rfl, ⟨_, Y1.keep F2.1 (by decide) (by decide), Y2⟩, In.2.2.2.2.2.2.1.k2 F1 F2 rfl rfl, In.core.k2 F1 F2 (kk 2 (by decide)) (kk 3 (by decide)) (kk 9 (by decide)) rfl rfl rfl rfl rfl⟩⟩
    · have e12 : ls.length = 12 := by have := Z.2.1; omega
      exact OP.same In (c_seeF (d := 588) hS Z e12 jv) (m_seeF (d := 588) hS Z' e12 jv)
  · exact OP.same In (c_seeN (d := 588) hS jv q) (m_seeN (d := 588) hS jv q)
theorem op_blind (In : Inv h) : OP 163 286 [] h := by
  have hS := In.1
  obtain ⟨ls, Z, Z'⟩ := In.2.2.2.2.2.1
  obtain ⟨h1, e1, d1, Y1⟩ := c_blind (d := 599) hS Z
  have F1 : Fr [0] h h1 := by rw [d1]; exact (Fr.rf hS _).swi (by decide)
  have kk : ∀ c, c ≠ 19 → gi h1 0 c = gi h 0 c := fun c hc => by rw [d1, gi_wi_n (fun z => hc z.2)]
  have F0 := F1.toFM (by decide) []
  obtain ⟨h2, e2, F2, Y2⟩ := m_blind (d := 599) F1.1 (Z'.keep F0 (by decide) (by decide))
  exact ⟨_, OPv.fr e1 e2 F1 F2 rfl rfl ⟨F2.s, In.x2 F1 F2 rfl rfl, In.2.2.1.k2 F1 F2 rfl rfl rfl, In.told.k2 F1 F2 rfl rfl rfl, In.2.2.2.2.1.k2 F1 F2 (kk 6 (by decide)) rfl rfl rfl, ⟨_, Y1.keep F2.1 (by decide) (by decide), Y2⟩, In.2.2.2.2.2.2.1.k2 F1 F2 rfl rfl, In.core.k2 F1 F2 (kk 2 (by decide)) (kk 3 (by decide)) (kk 9 (by decide)) rfl rfl rfl rfl rfl⟩⟩
end OPG
