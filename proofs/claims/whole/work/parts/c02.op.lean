/-! A CALL OF THE LAW: class, then the model, on one heap -/
def OPv (r : Value) (y1 y2 : Nat) (as : List Value) (h : AH) : Prop := ∃ h1 h2, aCall 600 y1 (.ref 0 :: as) h = some (some r, h1) ∧ aCall 600 y2 (.ref 78 :: as) h1 = some (some r, h2) ∧ (SH h1 ∧ Hi h h1) ∧ Inv h2 ∧ Hi h h2 ∧ h2.1 ≤ h.1 + 2 ∧ h2.2.1 ≤ h.2.1 + 62
def OP (y1 y2 : Nat) (as : List Value) (h : AH) : Prop := ∃ r : Int32, OPv (.int r) y1 y2 as h
section OPS
variable {h h1 h2 : AH} {L L1 L2 S S2 : List Nat} {nm fk np nb : Nat} {uz : Int} {M : MPT} {E : LE} {g : GT} {ps : Nat → Int} {X X' : ST4} {f t : Nat → Nat} {b : Bool} {x : SP} {r : Value} {y1 y2 : Nat} {as : List Value}
def BRest (h : AH) : Prop := SX h ∧ BTap h ∧ BDrv h ∧ BSeen h ∧ BSgt h
theorem BRest.c (B : BRest h) (F : Fr L h h1) (q : avo [0, 1, 2, 15, 56, 57] L = true) (q2 : low 78 L = true) : BRest h1 := by
  obtain ⟨a, c, e, k, m⟩ := B
  have F' := F.toFM (fun z => by have := low_n q2 _ z; omega) []
  have w : avo [0, 1, 2, 15, 56, 57, 79, 91, 114, 115] L = true := avo_i fun y hy z => by
    by_cases c : y < 78
    · exact absurd hy (avo_n q (by revert z; simp only [List.contains_iff_mem, List.mem_cons, List.not_mem_nil, or_false]; omega))
    · have := low_n q2 y hy
      omega
  exact ⟨a.keep F (low_n (low_le q2 (by omega))), c.keep F' (avo_sub w rfl) rfl, e.keep F' (avo_sub w rfl) rfl, k.keep F' (avo_sub w rfl) rfl, m.keep F' (avo_sub w rfl)⟩
theorem BRest.m (B : BRest h) (F : FM L S h h1) (q : avo [0, 1, 2, 15, 56, 57, 79, 91, 114, 115] L = true) (q2 : low 118 L = true) (s : avo [2, 20, 71] S = true) : BRest h1 := by
  obtain ⟨a, c, e, k, m⟩ := B
  exact ⟨a.keep F.1 (low_n q2), c.keep F (avo_sub q rfl) (avo_sub s rfl), e.keep F (avo_sub q rfl) (avo_sub s rfl), k.keep F (avo_sub q rfl) (avo_sub s rfl), m.keep F (avo_sub q rfl)⟩
theorem Inv.rest (I : Inv h) : BRest h := ⟨I.2.1, I.2.2.1, I.2.2.2.2.1, I.2.2.2.2.2.1, I.2.2.2.2.2.2.1⟩
theorem Inv.told (I : Inv h) : BTold h := I.2.2.2.1
theorem Inv.core (I : Inv h) : BCore h := I.2.2.2.2.2.2.2
theorem Inv.mk (s : SH h) (B : BRest h) (T : BTold h) (C : BCore h) : Inv h := ⟨s, B.1, B.2.1, T, B.2.2.1, B.2.2.2.1, B.2.2.2.2, C⟩
/-- what a class frame and a model frame leave -/
theorem OPv.fr (e1 : aCall 600 y1 (.ref 0 :: as) h = some (some r, h1)) (e2 : aCall 600 y2 (.ref 78 :: as) h1 = some (some r, h2)) (F1 : Fr L1 h h1) (F2 : FM L2 S2 h1 h2) (q1 : low 118 L1 = true) (q2 : low 118 L2 = true) (I : Inv h2) : OPv r y1 y2 as h := ⟨h1, h2, e1, e2, ⟨F1.1, F1.hi q1⟩, I, (F1.hi q1).trans (F2.1.hi q2), by rw [F2.1.2.2.1, F1.2.2.1]; omega, by rw [F2.1.2.2.2, F1.2.2.2]; omega⟩
theorem OPv.go (I : Inv h) (e1 : aCall 600 y1 (.ref 0 :: as) h = some (some r, h1)) (e2 : aCall 600 y2 (.ref 78 :: as) h1 = some (some r, h2)) (F1 : Fr L1 h h1) (F2 : FM L2 S2 h1 h2) (q1 : avo [0, 1, 2, 15, 56, 57] L1 = true) (q2 : low 78 L1 = true) (q3 : avo [0, 1, 2, 15, 56, 57, 79, 91, 114, 115] L2 = true) (q4 : low 118 L2 = true) (q5 : avo [2, 20, 71] S2 = true) (T : BTold h2) (C : BCore h2) : OPv r y1 y2 as h :=
  OPv.fr e1 e2 F1 F2 (low_le q2 (by omega)) q4 (Inv.mk F2.s ((I.rest.c F1 q1 q2).m F2 q3 q4 q5) T C)
theorem CoC.m (C : CoC h nm uz M E g fk ps np X nb f t b x) (F : Fr L h h1) (q : hiM L = true) : CoC h1 nm uz M E g fk ps np X nb f t b x := by
  obtain ⟨p, s, r, w1, w2, w3, w4⟩ := C.2.2.2.2.2.2.2.2.2.1
  have a := fun {k : Nat} (hk : k < 78) => F.2.1 k (hiM_n q hk)
  exact C.go F (hiM_l q) (hiM_av q rfl) (C.2.1.1.keep F (hiM_n q (by decide)) (hiM_n q (by decide))) (by rw [gi_of_ag (a (by decide))]; exact C.2.1.2) (C.2.2.1.keep F (hiM_n q (by decide)) (hiM_n q (by decide)) (hiM_n q (by decide))) (C.2.2.2.2.2.1.keep F C.2.2.2.2.1.2.2.1 (hiM_av q rfl)) (C.2.2.2.2.2.2.1.keep F (avo_m (hiM_av q rfl) (K := [74, 75, 76, 77]) rfl)) ⟨p, s, r, w1, by rw [gr_of_ag (a (by decide))]; exact w2, by rw [gr_of_ag (a (by decide))]; exact w3, by rw [gr_of_ag (a (by decide))]; exact w4⟩
theorem FMz (hS : SH h) : FM [78] [0] h (wi h 78 0 0) := (FM.rf hS _ _).swi (by decide) (by decide)
theorem BCore.z (hS : SH h) (C : BCore h) : BCore (wi h 78 0 0) := by
  obtain ⟨nm, uz, M, E, g, fk, ps, np, X, nb, f, t, b, x, P, C, D⟩ := C
  exact ⟨nm, uz, M, E, g, fk, ps, np, X, nb, f, t, b, x, P, C.m (FMz hS).1 rfl, D.keep (FMz hS) rfl rfl rfl⟩
/-- class unchanged, the model's sign of a throw cleared -/
theorem OPv.same (I : Inv h) (e1 : aCall 600 y1 (.ref 0 :: as) h = some (some r, h)) (e2 : aCall 600 y2 (.ref 78 :: as) h = some (some r, wi h 78 0 0)) : OPv r y1 y2 as h :=
  OPv.go (L1 := []) I e1 e2 (Fr.rf I.1 _) (FMz I.1) rfl rfl rfl rfl rfl (I.told.keep (FMz I.1) rfl rfl) (I.core.z I.1)
theorem OP.same {v : Int32} (I : Inv h) (e1 : aCall 600 y1 (.ref 0 :: as) h = some (some (.int v), h)) (e2 : aCall 600 y2 (.ref 78 :: as) h = some (some (.int v), wi h 78 0 0)) : OP y1 y2 as h := ⟨v, OPv.same I e1 e2⟩
/-- the map in use, the net -/
theorem CoC.use (C : CoC h nm uz M E g fk ps np X nb f t b x) (P : CoP nm uz E g fk) (hz : 0 ≤ uz) : ∃ i mo, uz = ((i : Nat) : Int) ∧ i < nm ∧ M uz.toNat = M i ∧ UseC h i mo ∧ ClM h mo (M i).2.2.2 (M i).1 (M i).2.1 (M i).2.2.1 := by
  obtain ⟨⟨a1, a2, a3⟩, -⟩ := C
  obtain ⟨p1, p2, p3, -⟩ := P
  obtain ⟨mo, m1, m2⟩ := a3 uz.toNat (by omega)
  refine ⟨uz.toNat, mo, by omega, by omega, rfl, ⟨?_, by omega, m1⟩, m2.to⟩
  rw [a2, ← I_nI]
  congr 1
  omega
theorem CoC.no (C : CoC h nm uz M E g fk ps np X nb f t b x) (hz : uz = -1) : gi h 0 3 = -1 := by rw [C.1.2.1, hz]; rfl
theorem CoM.no (D : CoM h nm uz M E g fk ps np X nb f t b x) (hz : uz = -1) : gi h 78 6 = -1 := by rw [D.1.2.1, hz]; rfl
theorem CoM.use (D : CoM h nm uz M E g fk ps np X nb f t b x) {i : Nat} (e : uz = (i : Int)) : gi h 78 6 = nI i := by rw [D.1.2.1, e, I_nI]
theorem CoM.rd (D : CoM h nm uz M E g fk ps np X nb f t b x) (P : CoP nm uz E g fk) (hS : SH h) {i : Nat} (e : uz = (i : Int)) (hi : i < nm) (pl : (M i).2.2.2 = gpl g) : RdM h i g (M i).1 E (M i).2.1 (M i).2.2.1 fk := by
  have m := D.1.2.2 i hi
  rw [pl] at m
  exact ⟨hS, ⟨D.use e, m, P.2.2.2.1, D.2.2.1, P.2.2.2.2.2.2.1, D.2.2.2.1, P.2.2.2.2.2.2.2⟩, D.2.1, P.2.2.2.2.1⟩
theorem net_c (hS : SH h) (P : CoP nm uz E g fk) (C : CoC h nm uz M E g fk ps np X nb f t b x) (D : CoM h nm uz M E g fk ps np X nb f t b x) : (NoC h ∧ NoM h) ∨ ∃ i mo, uz = ((i : Nat) : Int) ∧ i < nm ∧ (M i).2.2.2 = gpl g ∧ M uz.toNat = M i ∧ RdC h i mo g (M i).1 E (M i).2.1 (M i).2.2.1 fk false := by
  by_cases hz : uz = -1
  · exact Or.inl ⟨Or.inl (C.no hz), Or.inl (D.no hz)⟩
  · obtain ⟨i, mo, e, hi, eM, U, m⟩ := C.use P (by have := P.2.1; omega)
    by_cases pl : (M i).2.2.2 = gpl g
    · refine Or.inr ⟨i, mo, e, hi, pl, eM, ?_⟩
      rw [pl] at m
      have c := C.2.2.2.2.2.1.1.1 0 (by have := C.2.2.2.2.1.2.1; omega)
      have p0 := C.2.2.2.2.1.2.2.2.1
      rw [eM, (aP_0 P.2.2.2.2.1 p0).1, (aP_0 P.2.2.2.2.1 p0).2] at c
      exact ⟨hS, U, ⟨m, C.2.2.1, P.2.2.2.2.2.2.1, P.2.2.2.1, P.2.2.2.2.2.2.2, isNt58, by omega, by omega⟩, C.2.1.1, C.2.1.2, C.2.2.2.1, c⟩
    · have m' := D.1.2.2 i hi
      exact Or.inl ⟨Or.inr ⟨i, mo, _, _, _, _, gpl g, U, m, C.2.2.1.2.2, pl⟩, Or.inr ⟨i, _, (M i).2.2.1, gpl g, D.use e, by have := P.1; omega, m'.2.1, m'.2.2.2.1, D.2.2.1.2.2.2.2.2.2, pl⟩⟩
/-- a net call: the class's half behind it -/
theorem CoC.net (C : CoC h nm uz M E g fk ps np X nb f t b x) (P : CoP nm uz E g fk) {i mo : Nat} (eM : M uz.toNat = M i) (F : Fr L h h1) (q2 : low 118 L = true) (q : avo [0, 5, 45, 46, 47, 51, 52, 53, 54, 62, 63, 64, 65, 66, 67, 68, 69, 70, 71, 72, 73] L = true) (R : RdC h1 i mo g (M i).1 E (M i).2.1 (M i).2.2.1 fk false) (K : CacheW h1 (nC g) (war (arS g ((M i).1, E, (M i).2.1, (M i).2.2.1, fk)) (nC g))) (Y : SetC h1 g X') (W : ∃ p s r, T3 p s r ∧ Wr3 h1 p s r) : CoC h1 nm uz M E g fk ps np X' nb f t b x := by
  have Pu := C.2.2.2.2.1
  refine C.go F q2 (avo_sub q rfl) R.2.2.2.1 R.2.2.2.2.1 R.2.2.1.2.1 ?_ Y W
  refine C.2.2.2.2.2.1.net F ⟨Pu.2.1, Pu.2.2.1⟩ P.2.2.2.2.1 Pu.2.2.2.1 (avo_sub q rfl) ?_ ?_
  · rw [eM]
    exact R.2.2.2.2.2.2
  · rw [eM]
    exact K
theorem CoC.W (C : CoC h nm uz M E g fk ps np X nb f t b x) {i : Nat} (eM : M uz.toNat = M i) : CacheW h (nC g) (war (arS g ((M i).1, E, (M i).2.1, (M i).2.2.1, fk)) (nC g)) := by
  have := C.2.2.2.2.2.1.2
  rw [eM] at this
  exact this
theorem CoC.w3 (C : CoC h nm uz M E g fk ps np X nb f t b x) (hS : SH h) {d y : Nat} {v : Option Value} (hy : bad23.contains y = false) (q : aCall d y as h = some (v, h1)) : ∃ p s r, T3 p s r ∧ Wr3 h1 p s r := by
  obtain ⟨p, s, r, w1, w2⟩ := C.2.2.2.2.2.2.2.2.2.1
  exact ⟨p, s, r, w1, wr_kp hS hy q w2⟩
theorem CoC.w3k (C : CoC h nm uz M E g fk ps np X nb f t b x) (F : Fr L h h1) (k : 23 ∉ L) : ∃ p s r, T3 p s r ∧ Wr3 h1 p s r := by
  obtain ⟨p, s, r, w1, w2, w3, w4⟩ := C.2.2.2.2.2.2.2.2.2.1
  exact ⟨p, s, r, w1, by rw [gr_of_ag (F.2.1 23 k)]; exact w2, by rw [gr_of_ag (F.2.1 23 k)]; exact w3, by rw [gr_of_ag (F.2.1 23 k)]; exact w4⟩
/-- a net call that changes neither ways nor sets -/
theorem CoC.net0 (C : CoC h nm uz M E g fk ps np X nb f t b x) (P : CoP nm uz E g fk) {i mo : Nat} (eM : M uz.toNat = M i) (F : Fr L h h1) (q2 : low 118 L = true) (q : avo [0, 5, 45, 46, 47, 51, 52, 53, 54, 62, 63, 64, 65, 66, 67, 68, 69, 70, 71, 72, 73] L = true) (q3 : avo [23, 25, 26, 28, 29, 74, 75, 76, 77] L = true) (R : RdC h1 i mo g (M i).1 E (M i).2.1 (M i).2.2.1 fk false) : CoC h1 nm uz M E g fk ps np X nb f t b x :=
  C.net P eM F q2 q R ((C.W eM).keep F (avo_m q3 rfl)) (C.2.2.2.2.2.2.1.keep F (avo_m q3 rfl)) (C.w3k F (avo_n q3 rfl))
/-- a net call with a new set -/
theorem CoC.netS (C : CoC h nm uz M E g fk ps np X nb f t b x) (P : CoP nm uz E g fk) {i mo : Nat} (eM : M uz.toNat = M i) (F : Fr L h h1) (q2 : low 118 L = true) (q : avo [0, 5, 45, 46, 47, 51, 52, 53, 54, 62, 63, 64, 65, 66, 67, 68, 69, 70, 71, 72, 73] L = true) (q3 : avo [23, 25, 26, 28, 29] L = true) (R : RdC h1 i mo g (M i).1 E (M i).2.1 (M i).2.2.1 fk false) (Y : SetC h1 g X') : CoC h1 nm uz M E g fk ps np X' nb f t b x :=
  C.net P eM F q2 q R ((C.W eM).keep F (avo_m q3 rfl)) Y (C.w3k F (avo_n q3 rfl))
end OPS
