/-! THE OTHER CALLS: texts, numbers, rows, the grid -/
section KEEP2
variable {h h1 h2 : AH} {L L1 L2 S2 : List Nat} {nm fk np nb : Nat} {uz : Int} {M : MPT} {E : LE} {g : GT} {ps : Nat → Int} {X : ST4} {f t : Nat → Nat} {b : Bool} {x : SP}
def KC1 : List Nat := [5, 6, 7, 8, 18, 19, 20, 23, 25, 26, 28, 29, 45, 46, 47, 51, 52, 53, 54, 58, 59, 60, 61, 62, 63, 64, 65, 66, 67, 68, 69, 70, 71, 72, 73, 74, 75, 76, 77]
theorem CoC.k0 (C : CoC h nm uz M E g fk ps np X nb f t b x) (F : Fr L h h1) (hx : low 118 L = true) (q : avo KC1 L = true) (k2 : gi h1 0 2 = gi h 0 2) (k3 : gi h1 0 3 = gi h 0 3) (k9 : gi h1 0 9 = gi h 0 9) : CoC h1 nm uz M E g fk ps np X nb f t b x :=
  ⟨⟨k2.trans C.1.1, k3.trans C.1.2.1, C.1.2.2.keep F hx (avo_n q rfl)⟩, ⟨C.2.1.1.keep F (avo_n q rfl) (avo_n q rfl), by rw [gi_of_ag (F.2.1 6 (avo_n q rfl))]; exact C.2.1.2⟩, C.2.2.1.keep F (avo_n q rfl) (avo_n q rfl) (avo_n q rfl), k9.trans C.2.2.2.1, C.2.2.2.2.1.keep F (avo_n q rfl) (avo_n q rfl), C.2.2.2.2.2.1.keep F C.2.2.2.2.1.2.2.1 (avo_sub q rfl), C.2.2.2.2.2.2.1.keep F (avo_m q rfl), C.2.2.2.2.2.2.2.1.keep F (avo_n q rfl) (avo_n q rfl) (avo_n q rfl), C.2.2.2.2.2.2.2.2.1.keep2 F (gi_of_ag (F.2.1 51 (avo_n q rfl))) (avo_n q rfl) (avo_n q rfl), C.w3k F (avo_n q rfl), C.enk F (avo_n q rfl)⟩
theorem BCore.k2 (C : BCore h) (F1 : Fr L1 h h1) (F2 : FM L2 S2 h1 h2) (k2 : gi h1 0 2 = gi h 0 2) (k3 : gi h1 0 3 = gi h 0 3) (k9 : gi h1 0 9 = gi h 0 9) (q1 : avo KC1 L1 = true) (q2 : low 78 L1 = true) (q3 : hiM L2 = true) (q4 : avo [81, 82, 83, 84, 85, 86, 87, 88, 89, 90, 101, 106, 107, 111, 112] L2 = true) (q5 : avo KMS S2 = true) : BCore h2 := by
  obtain ⟨nm, uz, M, E, g, fk, ps, np, X, nb, f, t, b, x, P, C, D⟩ := C
  exact ⟨nm, uz, M, E, g, fk, ps, np, X, nb, f, t, b, x, P, (C.k0 F1 (low_le q2 (by omega)) q1 k2 k3 k9).m F2.1 q3, (D.c F1 q2).keep F2 (avo_sub q4 rfl) q5 (avo_sub q4 rfl)⟩
theorem BTap.k2 (T : BTap h) (F1 : Fr L1 h h1) (F2 : FM L2 S2 h1 h2) (q1 : avo [1, 2, 78, 79] L1 = true) (q2 : avo [1, 2, 79] L2 = true) (q3 : avo [2] S2 = true) : BTap h2 := (T.keep (F1.toFM (avo_n q1 rfl) []) (avo_sub q1 rfl) rfl).keep F2 q2 q3
theorem BDrv.k2 (T : BDrv h) (F1 : Fr L1 h h1) (F2 : FM L2 S2 h1 h2) (k : gi h1 0 6 = gi h 0 6) (q1 : avo [15, 78, 91] L1 = true) (q2 : avo [0, 15, 91] L2 = true) (q3 : avo [20] S2 = true) : BDrv h2 := (T.keep0 (F1.toFM (avo_n q1 rfl) []) k (avo_sub q1 rfl) rfl).keep F2 q2 q3
theorem BSeen.k2 (T : BSeen h) (F1 : Fr L1 h h1) (F2 : FM L2 S2 h1 h2) (k : gi h1 0 19 = gi h 0 19) (q1 : avo [57, 78, 115] L1 = true) (q2 : avo [0, 57, 115] L2 = true) (q3 : avo [71] S2 = true) : BSeen h2 := (T.keep0 (F1.toFM (avo_n q1 rfl) []) k (avo_sub q1 rfl) rfl).keep F2 q2 q3
theorem BSgt.k2 (T : BSgt h) (F1 : Fr L1 h h1) (F2 : FM L2 S2 h1 h2) (q1 : avo [56, 78, 114] L1 = true) (q2 : avo [56, 114] L2 = true) : BSgt h2 := (T.keep (F1.toFM (avo_n q1 rfl) []) (avo_sub q1 rfl)).keep F2 q2
theorem Inv.s (In : Inv h) : SH h := In.1
theorem Inv.x2 (In : Inv h) (F1 : Fr L1 h h1) (F2 : FM L2 S2 h1 h2) (q1 : low 118 L1 = true) (q2 : low 118 L2 = true) : SX h2 := (In.2.1.keep F1 (low_n q1)).keep F2.1 (low_n q2)
theorem g0k (F : Fr L h h1) (k : 0 ∉ L) (c : Nat) : gi h1 0 c = gi h 0 c := gi_of_ag (F.2.1 0 k)
end KEEP2
section OPO
variable {h : AH} {a b k n s t v w y z : Int}
theorem byt_n (v : Int32) (k : Nat) : ∃ s, s < 256 ∧ bytW v k = nI s := by
  unfold bytW
  generalize v >>> (nI (24 - 8 * k) &&& 31) = u
  refine ⟨(u &&& nI 255).toBitVec.toNat, ?_, ?_⟩
  · rw [Int32.toBitVec_and, BitVec.toNat_and]
    exact Nat.lt_of_le_of_lt Nat.and_le_right (by decide)
  · apply Int32.toBitVec_inj.mp
    generalize (u &&& nI 255) = w
    show w.toBitVec = BitVec.ofNat 32 w.toBitVec.toNat
    rw [BitVec.ofNat_toNat, BitVec.setWidth_eq]
theorem tpS_n {tp : Nat → Int32} (H : ∀ i, ∃ s, s < 256 ∧ tp i = nI s) (l : Nat) (v : Int32) : ∀ i, ∃ s, s < 256 ∧ tpS tp l v i = nI s := fun i => by
  unfold tpS
  by_cases c : i < l
  · rw [if_pos c]
    exact H i
  · rw [if_neg c]
    exact byt_n v (i - l)
theorem op_sign (In : Inv h) (v : Int32) : OP 118 191 [.int v] h := by
  obtain ⟨l, tp, T1, T2, H⟩ := In.2.2.1
  by_cases q : l + 4 ≤ 100
  · obtain ⟨h1, e1, F1, U1⟩ := c_sign (d := 598) In.1 T1 q v
    obtain ⟨h2, e2, F2, U2⟩ := m_sign (d := 599) F1.1 (T2.keep (F1.toFM (by decide) []) (by decide) (by decide)) q v
    have k := g0k F1 (by decide)
    exact ⟨_, OPv.fr e1 e2 F1 F2 rfl rfl ⟨F2.s, In.x2 F1 F2 rfl rfl, ⟨l + 4, _, U1.keep F2.1 (by decide) (by decide), U2, tpS_n H l v⟩, In.told.k2 F1 F2 rfl rfl rfl, In.2.2.2.2.1.k2 F1 F2 (k 6) rfl rfl rfl, In.2.2.2.2.2.1.k2 F1 F2 (k 19) rfl rfl rfl, In.2.2.2.2.2.2.1.k2 F1 F2 rfl rfl, In.core.k2 F1 F2 (k 2) (k 3) (k 9) rfl rfl rfl rfl rfl⟩⟩
  · exact OP.same In (c_signF (d := 588) In.1 T1 (by omega) v) (m_signF (d := 588) In.1 T2 (by omega) v)
theorem op_end (In : Inv h) (hz : r31 z) : OP 119 192 [.int (I z)] h := by
  obtain ⟨l, tp, T1, T2, H⟩ := In.2.2.1
  by_cases q : 0 ≤ z ∧ z ≤ (l : Int)
  · obtain ⟨z', ez⟩ : ∃ z' : Nat, z = (z' : Int) := ⟨z.toNat, by omega⟩
    rw [ez, I_nI]
    obtain ⟨h1, e1, F1, U1⟩ := c_end (d := 598) In.1 T1 (n := z') (by omega)
    obtain ⟨h2, e2, F2, U2⟩ := m_end (d := 598) F1.1 (T2.keep (F1.toFM (by decide) []) (by decide) (by decide)) (n := z') (by omega)
    have k := g0k F1 (by decide)
    exact ⟨_, OPv.fr e1 e2 F1 F2 rfl rfl ⟨F2.s, In.x2 F1 F2 rfl rfl, ⟨z', _, U1.keep F2.1 (by decide) (by decide), U2, H⟩, In.told.k2 F1 F2 rfl rfl rfl, In.2.2.2.2.1.k2 F1 F2 (k 6) rfl rfl rfl, In.2.2.2.2.2.1.k2 F1 F2 (k 19) rfl rfl rfl, In.2.2.2.2.2.2.1.k2 F1 F2 rfl rfl, In.core.k2 F1 F2 (k 2) (k 3) (k 9) rfl rfl rfl rfl rfl⟩⟩
  · exact OP.same In (c_endF (d := 588) In.1 T1 hz q) (m_endF (d := 588) In.1 T2 hz q)
theorem op_use (In : Inv h) (hz : r31 z) : OP 121 203 [.int (I z)] h := by
  obtain ⟨nm, uz, M, E, g, fk, ps, np, X, nb, bf, bt, sb, sx, P, C, D⟩ := id In.core
  have hS := In.1
  have B : GBg g := P.2.2.2.2.2.2.1
  have G := C.2.2.1
  have G' := D.2.2.1
  by_cases q : 0 ≤ z ∧ z < (nm : Int)
  · obtain ⟨c, ez⟩ : ∃ c : Nat, z = (c : Int) := ⟨z.toNat, by omega⟩
    rw [ez, I_nI]
    obtain ⟨h1, e1, F1, u1, k0, fl, w4, wk, wg⟩ := c_use (d := 598) hS C.1.1 P.1 (k := c) (by omega)
    have D1 := D.c F1 rfl
    obtain ⟨h2, e2, F2, u2⟩ := m_use (d := 598) F1.1 D1.1.1 P.1 (k := c) (by omega)
    have C1 : CoC h1 nm (c : Int) M E g fk ps np X nb bf bt sb sx := ⟨⟨(k0 2 (by decide)).trans C.1.1, by rw [I_nI]; exact u1, C.1.2.2.keep F1 rfl (by decide)⟩, ⟨C.2.1.1.keep F1 (by decide) (by decide), by rw [gi_of_ag (F1.2.1 6 (by decide))]; exact C.2.1.2⟩, G.keep F1 (by decide) (by decide) (by decide), (k0 9 (by decide)).trans C.2.2.2.1, C.2.2.2.2.1.keep F1 (by decide) (by decide), Cch.down fl C.2.2.2.2.1.2.2.1 w4, C.2.2.2.2.2.2.1.keep F1 (by decide), C.2.2.2.2.2.2.2.1.keep F1 (by decide) (by decide) (by decide), C.2.2.2.2.2.2.2.2.1.keep2 F1 (gi_of_ag (F1.2.1 51 (by decide))) (by decide) (by decide), C.w3g wg, C.enk F1 (by decide)⟩
    have D2 : CoM h2 nm (c : Int) M E g fk ps np X nb bf bt sb sx := ⟨⟨by rw [F2.fi (by decide)]; exact D1.1.1, by rw [I_nI]; exact u2, D1.1.2.2.keep F2 rfl⟩, D1.2.1.keep F2 (by decide), D1.2.2.1.keep F2 (by decide), by rw [F2.fi (by decide)]; exact D1.2.2.2.1, D1.2.2.2.2.1.keep F2 (by decide) (by decide), D1.2.2.2.2.2.1.keep F2 (by decide), D1.2.2.2.2.2.2.1.keep F2 (by decide) (by decide) (by decide), D1.2.2.2.2.2.2.2.keep F2 (by decide) (by decide)⟩
    exact ⟨_, OPv.fr e1 e2 F1 F2 rfl rfl ⟨F2.s, In.x2 F1 F2 rfl rfl, In.2.2.1.k2 F1 F2 rfl rfl rfl, In.told.k2 F1 F2 rfl rfl rfl, In.2.2.2.2.1.k2 F1 F2 (k0 6 (by decide)) rfl rfl rfl, In.2.2.2.2.2.1.k2 F1 F2 (k0 19 (by decide)) rfl rfl rfl, In.2.2.2.2.2.2.1.k2 F1 F2 rfl rfl, ⟨nm, (c : Int), M, E, g, fk, ps, np, X, nb, bf, bt, sb, sx, ⟨P.1, by omega, by omega, P.2.2.2⟩, C1.m F2.1 rfl, D2⟩⟩⟩
  · exact OP.same In (c_useF (d := 588) hS C.1.1 P.1 hz q) (m_useF (d := 588) hS D.1.1 P.1 hz q)
theorem op_fine (In : Inv h) (hz : r31 z) : OP 131 228 [.int (I z)] h := by
  obtain ⟨nm, uz, M, E, g, fk, ps, np, X, nb, bf, bt, sb, sx, P, C, D⟩ := id In.core
  have hS := In.1
  have B : GBg g := P.2.2.2.2.2.2.1
  have G := C.2.2.1
  have G' := D.2.2.1
  by_cases q : 0 ≤ z ∧ z ≤ 2
  · obtain ⟨c, ez⟩ : ∃ c : Nat, z = (c : Int) := ⟨z.toNat, by omega⟩
    rw [ez, I_nI]
    obtain ⟨h1, e1, F1, u1, k0, fl, w4, wk, wg⟩ := c_fine (d := 598) hS (k := c) (by omega)
    have D1 := D.c F1 rfl
    obtain ⟨h2, e2, F2, u2⟩ := m_fine (d := 598) F1.1 (k := c) (by omega)
    rw [C.2.2.2.1] at e1
    rw [D1.2.2.2.1] at e2
    have C1 : CoC h1 nm uz M E g c ps np X nb bf bt sb sx := ⟨⟨(k0 2 (by decide)).trans C.1.1, (k0 3 (by decide)).trans C.1.2.1, C.1.2.2.keep F1 rfl (by decide)⟩, ⟨C.2.1.1.keep F1 (by decide) (by decide), by rw [gi_of_ag (F1.2.1 6 (by decide))]; exact C.2.1.2⟩, G.keep F1 (by decide) (by decide) (by decide), u1, C.2.2.2.2.1.keep F1 (by decide) (by decide), Cch.down fl C.2.2.2.2.1.2.2.1 w4, C.2.2.2.2.2.2.1.keep F1 (by decide), C.2.2.2.2.2.2.2.1.keep F1 (by decide) (by decide) (by decide), C.2.2.2.2.2.2.2.2.1.keep2 F1 (gi_of_ag (F1.2.1 51 (by decide))) (by decide) (by decide), C.w3g wg, C.enk F1 (by decide)⟩
    have D2 : CoM h2 nm uz M E g c ps np X nb bf bt sb sx := ⟨D1.k1 F2 rfl rfl, D1.2.1.keep F2 (by decide), D1.2.2.1.keep F2 (by decide), u2, D1.2.2.2.2.1.keep F2 (by decide) (by decide), D1.2.2.2.2.2.1.keep F2 (by decide), D1.2.2.2.2.2.2.1.keep F2 (by decide) (by decide) (by decide), D1.2.2.2.2.2.2.2.keep F2 (by decide) (by decide)⟩
    exact ⟨_, OPv.fr e1 e2 F1 F2 rfl rfl ⟨F2.s, In.x2 F1 F2 rfl rfl, In.2.2.1.k2 F1 F2 rfl rfl rfl, In.told.k2 F1 F2 rfl rfl rfl, In.2.2.2.2.1.k2 F1 F2 (k0 6 (by decide)) rfl rfl rfl, In.2.2.2.2.2.1.k2 F1 F2 (k0 19 (by decide)) rfl rfl rfl, In.2.2.2.2.2.2.1.k2 F1 F2 rfl rfl, ⟨nm, uz, M, E, g, c, ps, np, X, nb, bf, bt, sb, sx, ⟨P.1, P.2.1, P.2.2.1, P.2.2.2.1, P.2.2.2.2.1, P.2.2.2.2.2.1, P.2.2.2.2.2.2.1, by omega⟩, C1.m F2.1 rfl, D2⟩⟩⟩
  · exact OP.same In (c_fineN (d := 588) hS hz q) (m_fineN (d := 588) hS hz q)
theorem op_letter (In : Inv h) (jw : r31 w) (ja : r31 a) (jb : r31 b) : OP 122 204 [.int (I w), .int (I a), .int (I b)] h := by
  obtain ⟨nm, uz, M, E, g, fk, ps, np, X, nb, bf, bt, sb, sx, P, C, D⟩ := id In.core
  have hS := In.1
  have B : GBg g := P.2.2.2.2.2.2.1
  have G := C.2.2.1
  have G' := D.2.2.1
  by_cases q : (0 ≤ w ∧ w ≤ 2) ∧ okSpan a b = true
  · have qs := okSpan_t.mp q.2
    obtain ⟨c, ez⟩ : ∃ c : Nat, w = (c : Int) := ⟨w.toNat, by omega⟩
    rw [ez, I_nI]
    obtain ⟨h1, e1, F1, u1, fl, w4, wk, wg⟩ := c_letter (d := 597) hS C.2.1.1 (w := c) (by omega) qs.2.1 qs.1 qs.2.2
    have D1 := D.c F1 rfl
    obtain ⟨h2, e2, F2, u2⟩ := m_letter (d := 597) F1.1 D1.2.1 (w := c) (by omega) qs.2.1 qs.1 qs.2.2
    have k0 := g0k F1 (by decide)
    have P1 : CoP nm uz (setE E (letK c) a b) g fk := by
      refine ⟨P.1, P.2.1, P.2.2.1, setE_LEB P.2.2.2.1 ⟨by omega, by omega⟩ ⟨by omega, by omega⟩, ?_, ?_, P.2.2.2.2.2.2⟩
      · unfold setE letK
        rw [if_neg (by split <;> (try split) <;> omega)]
        exact P.2.2.2.2.1
      · unfold setE
        by_cases c2 : 2 = letK c
        · rw [if_pos c2]
          exact ⟨qs.2.1, qs.1, qs.2.2⟩
        · rw [if_neg c2]
          exact P.2.2.2.2.2.1
    have C1 : CoC h1 nm uz M (setE E (letK c) a b) g fk ps np X nb bf bt sb sx := ⟨⟨(k0 2).trans C.1.1, (k0 3).trans C.1.2.1, C.1.2.2.keep F1 rfl (by decide)⟩, ⟨u1, by rw [gi_of_ag (F1.2.1 6 (by decide))]; exact C.2.1.2⟩, G.keep F1 (by decide) (by decide) (by decide), (k0 9).trans C.2.2.2.1, C.2.2.2.2.1.keep F1 (by decide) (by decide), Cch.down fl C.2.2.2.2.1.2.2.1 w4, C.2.2.2.2.2.2.1.keep F1 (by decide), C.2.2.2.2.2.2.2.1.keep F1 (by decide) (by decide) (by decide), C.2.2.2.2.2.2.2.2.1.keep2 F1 (gi_of_ag (F1.2.1 51 (by decide))) (by decide) (by decide), C.w3g wg, C.enk F1 (by decide)⟩
    have D2 : CoM h2 nm uz M (setE E (letK c) a b) g fk ps np X nb bf bt sb sx := ⟨D1.k1 F2 rfl rfl, u2, D1.2.2.1.keep F2 (by decide), by rw [F2.fi (by decide)]; exact D1.2.2.2.1, D1.2.2.2.2.1.keep F2 (by decide) (by decide), D1.2.2.2.2.2.1.keep F2 (by decide), D1.2.2.2.2.2.2.1.keep F2 (by decide) (by decide) (by decide), D1.2.2.2.2.2.2.2.keep F2 (by decide) (by decide)⟩
    exact ⟨_, OPv.fr e1 e2 F1 F2 rfl rfl ⟨F2.s, In.x2 F1 F2 rfl rfl, In.2.2.1.k2 F1 F2 rfl rfl rfl, In.told.k2 F1 F2 rfl rfl rfl, In.2.2.2.2.1.k2 F1 F2 (k0 6) rfl rfl rfl, In.2.2.2.2.2.1.k2 F1 F2 (k0 19) rfl rfl rfl, In.2.2.2.2.2.2.1.k2 F1 F2 rfl rfl, ⟨nm, uz, M, _, g, fk, ps, np, X, nb, bf, bt, sb, sx, P1, C1.m F2.1 rfl, D2⟩⟩⟩
  · have q2 : ¬ ((0 ≤ w ∧ w ≤ 2) ∧ a ≤ b ∧ okNum a = true ∧ okNum b = true) := fun z => q ⟨z.1, by
      unfold okSpan
      rw [decide_eq_true z.2.1, z.2.2.1, z.2.2.2]
      rfl⟩
    exact OP.same In (c_letterN (d := 588) hS jw ja jb q) (m_letterN (d := 588) hS jw ja jb q2)
theorem op_push (In : Inv h) (jv : r31 v) : OP 123 205 [.int (I v)] h := by
  obtain ⟨nm, uz, M, E, g, fk, ps, np, X, nb, bf, bt, sb, sx, P, C, D⟩ := id In.core
  have hS := In.1
  have B : GBg g := P.2.2.2.2.2.2.1
  have G := C.2.2.1
  have G' := D.2.2.1
  have Pu := C.2.2.2.2.1
  by_cases c4 : np < 4
  · by_cases q : okNum v = true
    · have qv := okNum_t.mp q
      obtain ⟨h1, e1, F1, u1, k51⟩ := c_push (d := 598) hS Pu c4 qv
      have D1 := D.c F1 rfl
      obtain ⟨h2, e2, F2, u2⟩ := m_push (d := 597) F1.1 D1.2.2.2.2.1 c4 qv
      have k0 := g0k F1 (by decide)
      have Cc := C.2.2.2.2.2.1
      have fg : ∀ j, j < 4 → ag h1 (58 + 4 * j) = ag h (58 + 4 * j) := fun j hj => F1.2.1 _ (by simp only [List.mem_cons, List.not_mem_nil, or_false]; omega)
      have c1 : Cch h1 g (M uz.toNat) E fk (updP ps np v) (np + 1) := by
        refine ⟨⟨fun j hj => ?_, fun j q1 q2 => by rw [gi_of_ag (fg j q2)]; exact Cc.1.2 j (by omega) q2⟩, Cc.2.keep F1 (by decide)⟩
        by_cases cj : j = np
        · exact Or.inl (by rw [gi_of_ag (fg j (by omega))]; exact Cc.1.2 j (by omega) (by omega))
        · have ej : updP ps np v j = ps j := by unfold updP; exact if_neg cj
          unfold aP lP
          rw [ej]
          exact (Cc.1.keep F1 (by omega) (by decide)).1 j (by omega)
      have C1 : CoC h1 nm uz M E g fk (updP ps np v) (np + 1) X nb bf bt sb sx := ⟨⟨(k0 2).trans C.1.1, (k0 3).trans C.1.2.1, C.1.2.2.keep F1 rfl (by decide)⟩, ⟨C.2.1.1.keep F1 (by decide) (by decide), by rw [gi_of_ag (F1.2.1 6 (by decide))]; exact C.2.1.2⟩, G.keep F1 (by decide) (by decide) (by decide), (k0 9).trans C.2.2.2.1, u1, c1, C.2.2.2.2.2.2.1.keep F1 (by decide), C.2.2.2.2.2.2.2.1.keep F1 (by decide) (by decide) (by decide), C.2.2.2.2.2.2.2.2.1.keep2 F1 (k51 2 (by decide)) (by decide) (by decide), C.w3k F1 (by decide), C.enk F1 (by decide)⟩
      have D2 : CoM h2 nm uz M E g fk (updP ps np v) (np + 1) X nb bf bt sb sx := ⟨D1.k1 F2 rfl rfl, D1.2.1.keep F2 (by decide), D1.2.2.1.keep F2 (by decide), by rw [F2.fi (by decide)]; exact D1.2.2.2.1, u2, D1.2.2.2.2.2.1.keep F2 (by decide), D1.2.2.2.2.2.2.1.keep F2 (by decide) (by decide) (by decide), D1.2.2.2.2.2.2.2.keep F2 (by decide) (by decide)⟩
      exact ⟨_, OPv.fr e1 e2 F1 F2 rfl rfl ⟨F2.s, In.x2 F1 F2 rfl rfl, In.2.2.1.k2 F1 F2 rfl rfl rfl, In.told.k2 F1 F2 rfl rfl rfl, In.2.2.2.2.1.k2 F1 F2 (k0 6) rfl rfl rfl, In.2.2.2.2.2.1.k2 F1 F2 (k0 19) rfl rfl rfl, In.2.2.2.2.2.2.1.k2 F1 F2 rfl rfl, ⟨nm, uz, M, E, g, fk, _, _, X, nb, bf, bt, sb, sx, P, C1.m F2.1 rfl, D2⟩⟩⟩
    · exact OP.same In (c_pushN (d := 588) hS jv q) (m_pushN (d := 588) hS jv q)
  · have e4 : np = 4 := by have := Pu.2.2.1; omega
    have P1 := C.2.2.2.2.1
    have P2 := D.2.2.2.2.1
    rw [e4] at P1 P2
    exact OP.same In (c_pushF (d := 588) hS P1 jv) (m_pushF (d := 588) hS P2 jv)
end OPO
