/-! THE IMAGE OF A BOX, as one contract -/
section IMG
variable {k mo co len : Nat} {f : Nat → Int32} {g : Bool} {l r b c : Int} {E : LE} {h : AH} {C : Nat → Nat × Nat} {T : NT}
theorem IML_a {L : List Nat} {h h' : AH} (F : Fr L h h') (hL : ∀ x, x ∈ L → x ∈ IML) : Fr IML h h' := F.mono hL
theorem c_imgL (hS : SH h) (M : MapIs h mo co len f false) (L : LetIs h E) (hg : gi h 6 5 = bi g) (hl : len ≤ 60) (hE : LEB (setE (setE E 0 l r) 1 0 0)) (hC : CodeIs f C len) {n a : Nat} (cx : cmpN C T n a 0 len) :
    ∃ h', aCall (k + 4) 83 [.ref 6, .ref mo, .long (J l), .long (J r), .long (J b), .long (J c)] h = some (some (.int (nI (evN T (setE (setE E 0 l r) 1 0 0) n a).2)), h') ∧ Fr IML h h' ∧ LetIs h' (setE (setE E 0 l r) 1 0 0)
      ∧ gj h' 6 12 = J (evN T (setE (setE E 0 l r) 1 0 0) n a).1.1 ∧ gj h' 6 13 = J (evN T (setE (setE E 0 l r) 1 0 0) n a).1.2.1 ∧ gj h' 6 14 = J 0 ∧ gj h' 6 15 = J 0 ∧ gi h' 6 5 = bi g
      ∧ (g = true → aj h' 11 0 = J (evN T (setE (setE E 0 l r) 1 0 0) n a).1.2.2.1 ∧ aj h' 12 0 = J (evN T (setE (setE E 0 l r) 1 0 0) n a).1.2.2.2.1 ∧ ai h' 13 0 = bi (evN T (setE (setE E 0 l r) 1 0 0) n a).1.2.2.2.2) := by
  obtain ⟨h1, e1, f1, l1, P1, T1, u1, o1⟩ := c_image (k := k) (l := l) (r := r) (b := b) (c := c) hS M L hg hl
  have M1 := M.keep f1 (by decide)
  have l1 : LetIs h1 (setE (setE E 0 l r) 1 0 0) := l1
  obtain ⟨h2, i2, e2, -, f2, g2, P2, -, u2⟩ := im_sim (k := k) (l := l) (r := r) (b := b) (c := c) (g := g) hE hC hl n a 0 len cx (Nat.le_refl _) h1 0 [] [] f1.1 M1 l1 P1 T1 (by simp; omega) (by simp; omega) (Nat.le_refl _)
  have M2 := M1.keep f2 RK2_lt
  obtain ⟨h3, e3, f3, b1, b2, b3, b4, b5⟩ := im_endL (k := k) (l := l) (r := r) (b := b) (c := c) f2.1 M2 hl (i := i2) (t := []) P2
  have F : Fr IML h h3 := ((f1.mono (by decide)).trans (f2.mono (by decide))).trans (f3.mono (by decide))
  refine ⟨h3, ?_, F, ?_, b1, b2, b3, b4, ?_, fun q => ?_⟩
  · rw [e1, e2, e3, u2, u1, Int32.zero_add]
  · intro x hx
    rw [aj_of_ag (f3.2.1 7 (by decide)), aj_of_ag (f3.2.1 8 (by decide))]
    exact (l1.keep f2) x hx
  · rw [b5, (g2 5 (by decide) (by decide) (by decide)).1, (o1 5 (by decide) (by decide) (by decide)).1, hg]
  · obtain ⟨-, -, -, p4⟩ := P2.2.2.2 0 _ rfl
    rw [aj_of_ag (f3.2.1 11 (by decide)), aj_of_ag (f3.2.1 12 (by decide)), ai_of_ag (f3.2.1 13 (by decide))]
    exact p4 q
theorem c_imgP (hS : SH h) (M : MapIs h mo co len f true) (L : LetIs h E) (hg : gi h 6 5 = bi g) (hl : len ≤ 60) (hE : LEB (setE (setE E 0 l r) 1 b c)) (hC : CodeIs f C len) {n a y q : Nat} (cx : cmpN C T n a 0 q) (cy : cmpN C T n y q len) :
    ∃ h', aCall (k + 4) 83 [.ref 6, .ref mo, .long (J l), .long (J r), .long (J b), .long (J c)] h = some (some (.int (nI ((evN T (setE (setE E 0 l r) 1 b c) n a).2 + (evN T (setE (setE E 0 l r) 1 b c) n y).2))), h') ∧ Fr IML h h' ∧ LetIs h' (setE (setE E 0 l r) 1 b c)
      ∧ gj h' 6 12 = J (evN T (setE (setE E 0 l r) 1 b c) n a).1.1 ∧ gj h' 6 13 = J (evN T (setE (setE E 0 l r) 1 b c) n a).1.2.1 ∧ gj h' 6 14 = J (evN T (setE (setE E 0 l r) 1 b c) n y).1.1 ∧ gj h' 6 15 = J (evN T (setE (setE E 0 l r) 1 b c) n y).1.2.1 ∧ gi h' 6 5 = bi g := by
  obtain ⟨h1, e1, f1, l1, P1, T1, u1, o1⟩ := c_image (k := k) (l := l) (r := r) (b := b) (c := c) hS M L hg hl
  have M1 := M.keep f1 (by decide)
  have l1 : LetIs h1 (setE (setE E 0 l r) 1 b c) := l1
  have hq := cmpN_lt _ _ _ _ cy
  obtain ⟨h2, i2, e2, hi2, f2, g2, P2, T2, u2⟩ := im_sim (k := k) (l := l) (r := r) (b := b) (c := c) (g := g) hE hC hl n a 0 q cx (by omega) h1 0 [] [] f1.1 M1 l1 P1 T1 (by simp; omega) (by simp; omega) (Nat.le_refl _)
  have M2 := M1.keep f2 RK2_lt
  obtain ⟨h4, i4, e4, -, f4, g4, P4, -, u4⟩ := im_sim (k := k) (l := l) (r := r) (b := b) (c := c) (g := g) hE hC hl n y q len cy (Nat.le_refl _) h2 i2 _ [] f2.1 M2 (l1.keep f2) P2 T2 (by simp; omega) (by simp; omega) hi2
  have M4 := M2.keep f4 RK2_lt
  obtain ⟨h3, e3, f3, b1, b2, b3, b4, b5⟩ := im_endP (k := k) (l := l) (r := r) (b := b) (c := c) f4.1 M4 hl (i := i4) (t := []) P4
  have F : Fr IML h h3 := (((f1.mono (by decide)).trans (f2.mono (by decide))).trans (f4.mono (by decide))).trans (f3.mono (by decide))
  refine ⟨h3, ?_, F, ?_, b1, b2, b3, b4, ?_⟩
  · rw [e1, e2, e4, e3, u4, u2, u1, Int32.zero_add, n_add]
  · intro x hx
    rw [aj_of_ag (f3.2.1 7 (by decide)), aj_of_ag (f3.2.1 8 (by decide))]
    exact ((l1.keep f2).keep f4) x hx
  · rw [b5, (g4 5 (by decide) (by decide) (by decide)).1, (g2 5 (by decide) (by decide) (by decide)).1, (o1 5 (by decide) (by decide) (by decide)).1, hg]
end IMG
