/-! THE RECKONER: a node's code works out the node -/
theorem cmpN_lt {C : Nat → Nat × Nat} {T : NT} : ∀ (n a p q : Nat), cmpN C T n a p q → p < q := by
  intro n
  induction n with
  | zero => intro a p q h; exact h.elim
  | succ n ih =>
    intro a p q h
    unfold cmpN at h
    split at h
    · obtain ⟨v, -, -, -, rfl⟩ := h; omega
    · obtain ⟨-, -, rfl⟩ := h; omega
    · obtain ⟨r, h1, -, rfl⟩ := h; have := ih _ _ _ h1; omega
    · obtain ⟨r, h1, -, rfl⟩ := h; have := ih _ _ _ h1; omega
    · obtain ⟨r, s, h1, h2, -, rfl⟩ := h; have := ih _ _ _ h1; have := ih _ _ _ h2; omega
    · obtain ⟨r, s, h1, h2, -, rfl⟩ := h; have := ih _ _ _ h1; have := ih _ _ _ h2; omega
    · obtain ⟨r, s, h1, h2, -, rfl⟩ := h; have := ih _ _ _ h1; have := ih _ _ _ h2; omega
    · obtain ⟨r, h1, -, -, -, rfl⟩ := h; have := ih _ _ _ h1; omega
    · obtain ⟨r, s, t, u, h1, h2, -, h3, -, h4, -, rfl⟩ := h
      have := ih _ _ _ h1
      have := ih _ _ _ h2
      have := ih _ _ _ h3
      have := ih _ _ _ h4
      omega
    · exact h.elim
def CodeIs (f : Nat → Int32) (C : Nat → Nat × Nat) (len : Nat) : Prop := ∀ p, p < len → f p = nI ((C p).1 + 16 * (C p).2)
def ImO (k mo co : Nat) (l r b c : Int) (g : Bool) (p q i : Nat) (h : AH) (st : List VV) (cs : List Int32) (d : Nat) : Prop :=
  ∃ (h' : AH) (i' : Nat), imL k mo co l r b c p i h = imL k mo co l r b c q i' h' ∧ i' ≤ q ∧ Fr RK2 h h' ∧ RKg h h' ∧ Pile h' g st ∧ Tst h' cs ∧ gi h' 6 11 = gi h 6 11 + nI d
theorem LetIs.keep {h h' : AH} {E : LE} (L : LetIs h E) (f : Fr RK2 h h') : LetIs h' E := fun a ha => by
  rw [aj_of_ag (f.2.1 7 (by decide)), aj_of_ag (f.2.1 8 (by decide))]
  exact L a ha
theorem RK2_lt : ∀ x, x ∈ RK2 → x < 118 := by decide
section SIM
variable {k mo co len : Nat} {f : Nat → Int32} {pl g : Bool} {l r b c : Int} {E : LE}
theorem ImO.trans {p q q2 i d1 d2 : Nat} {h : AH} {st1 st2 : List VV} {cs1 cs2 : List Int32} (M : MapIs h mo co len f pl) (L : LetIs h E) (a : ImO k mo co l r b c g p q i h st1 cs1 d1)
    (z : ∀ (h1 : AH) (i1 : Nat), SH h1 → MapIs h1 mo co len f pl → LetIs h1 E → Pile h1 g st1 → Tst h1 cs1 → i1 ≤ q → ImO k mo co l r b c g q q2 i1 h1 st2 cs2 d2) : ImO k mo co l r b c g p q2 i h st2 cs2 (d1 + d2) := by
  obtain ⟨h1, i1, e1, hi, f1, g1, P1, T1, U1⟩ := a
  obtain ⟨h2, i2, e2, hi2, f2, g2, P2, T2, U2⟩ := z h1 i1 f1.1 (M.keep f1 RK2_lt) (L.keep f1) P1 T1 hi
  exact ⟨h2, i2, e1.trans e2, hi2, f1.trans f2, g1.trans g2, P2, T2, by rw [U2, U1, Int32.add_assoc, n_add]⟩
theorem ImO.one {p i : Nat} {h h1 : AH} {st : List VV} {cs : List Int32} (e : imL k mo co l r b c p i h = imL k mo co l r b c (p + 1) (i + 1) h1) (f1 : Fr RKL h h1) (g1 : RKf h h1) (P1 : Pile h1 g st) (T : Tst h cs) (hi : i ≤ p) : ImO k mo co l r b c g p (p + 1) i h st cs 0 :=
  ⟨h1, i + 1, e, by omega, RKL_2 f1, g1.g, P1, T.keep f1 g1, by rw [(g1 11 (by decide)).1]; exact (Int32.add_zero _).symm⟩
theorem ImO.two {p q i d : Nat} {h h1 : AH} {st : List VV} {cs : List Int32} (e : imL k mo co l r b c p i h = imL k mo co l r b c q (i + 1) h1) (f1 : Fr RK2 h h1) (g1 : RKg h h1) (P1 : Pile h1 g st) (T1 : Tst h1 cs) (U : gi h1 6 11 = gi h 6 11 + nI d) (hi : i + 1 ≤ q) : ImO k mo co l r b c g p q i h st cs d := ⟨h1, i + 1, e, hi, f1, g1, P1, T1, U⟩
theorem ImO.eq {p q i d d' : Nat} {h : AH} {st : List VV} {cs : List Int32} (e : d = d') (a : ImO k mo co l r b c g p q i h st cs d) : ImO k mo co l r b c g p q i h st cs d' := e ▸ a
theorem app2 (st : List VV) (u w : VV) : (st ++ [u]) ++ [w] = st ++ [u, w] := by rw [List.append_assoc]; rfl
theorem im_sim {C : Nat → Nat × Nat} {T : NT} (hE : LEB E) (hC : CodeIs f C len) (hl : len ≤ 60) : ∀ (n a p q : Nat), cmpN C T n a p q → q ≤ len → ∀ (h : AH) (i : Nat) (st : List VV) (cs : List Int32), SH h → MapIs h mo co len f pl → LetIs h E → Pile h g st → Tst h cs → st.length + (q - p) ≤ 61 → cs.length + (q - p) ≤ 61 → i ≤ p →
    ImO k mo co l r b c g p q i h (st ++ [(evN T E n a).1]) cs (evN T E n a).2 := by
  intro n
  induction n with
  | zero => intro a p q hc; exact hc.elim
  | succ n ih =>
    intro a p q hc hq h i st cs hS M L P Ts hb1 hb2 hi
    have hpq := cmpN_lt _ _ _ _ hc
    unfold cmpN at hc
    unfold evN
    split at hc
    · rename_i a0 _ e
      rw [e]
      obtain ⟨v, rfl, hv, hcp, rfl⟩ := hc
      obtain ⟨h1, e1, f1, g1, P1⟩ := im_num (k := k) (l := l) (r := r) (b := b) (c := c) hS M (A := p) (i := i) (by omega) (by omega) hl P (by omega) hv (by rw [hC p (by omega), hcp])
      exact ImO.one e1 f1 g1 (by
        have e9 : ((v * 1024 : Nat) : Int) = (v : Int) * 1024 := Int.natCast_mul _ _
        show Pile h1 g (st ++ [(((v * 1024 : Nat) : Int), ((v * 1024 : Nat) : Int), 0, 0, false)])
        rw [e9]
        exact P1) Ts hi
    · rename_i a0 _ e
      rw [e]
      obtain ⟨ha, hcp, rfl⟩ := hc
      obtain ⟨h1, e1, f1, g1, P1⟩ := im_let (k := k) (l := l) (r := r) (b := b) (c := c) hS M (A := p) (i := i) (by omega) (by omega) hl L hE P (by omega) ha (by rw [hC p (by omega), hcp])
      exact ImO.one e1 f1 g1 P1 Ts hi
    · rename_i a0 _ e
      rw [e]
      obtain ⟨s, h1, hcp, rfl⟩ := hc
      have := cmpN_lt _ _ _ _ h1
      refine ImO.trans M L (ih _ _ _ h1 (by omega) h i st cs hS M L P Ts (by omega) (by omega) hi) (d2 := 0) (fun h2 i2 S2 M2 L2 P2 T2 hi2 => ?_)
      obtain ⟨h3, e3, f3, g3, P3⟩ := im_less (k := k) (l := l) (r := r) (b := b) (c := c) S2 M2 (A := s) (i := i2) (by omega) (by omega) hl P2 (by rw [hC s (by omega), hcp])
      exact ImO.one e3 f3 g3 P3 T2 hi2
    · rename_i a0 _ e
      rw [e]
      obtain ⟨s, h1, hcp, rfl⟩ := hc
      have := cmpN_lt _ _ _ _ h1
      refine ImO.trans M L (ih _ _ _ h1 (by omega) h i st cs hS M L P Ts (by omega) (by omega) hi) (d2 := 0) (fun h2 i2 S2 M2 L2 P2 T2 hi2 => ?_)
      obtain ⟨h3, e3, f3, g3, P3⟩ := im_size (k := k) (l := l) (r := r) (b := b) (c := c) S2 M2 (A := s) (i := i2) (by omega) (by omega) hl P2 (by rw [hC s (by omega), hcp])
      exact ImO.one e3 f3 g3 P3 T2 hi2
    · rename_i a0 b0 _ e
      rw [e]
      obtain ⟨s, t, h1, h2, hcp, rfl⟩ := hc
      have := cmpN_lt _ _ _ _ h1
      have := cmpN_lt _ _ _ _ h2
      refine ImO.trans M L (ih _ _ _ h1 (by omega) h i st cs hS M L P Ts (by omega) (by omega) hi) (fun h3 i3 S3 M3 L3 P3 T3 hi3 => ?_)
      refine ImO.trans M3 L3 (d2 := 0) (ih _ _ _ h2 (by omega) h3 i3 _ cs S3 M3 L3 P3 T3 (by rw [List.length_append]; simp; omega) (by omega) hi3) (fun h4 i4 S4 M4 L4 P4 T4 hi4 => ?_)
      rw [app2] at P4
      obtain ⟨h5, e5, f5, g5, P5⟩ := im_plus (k := k) (l := l) (r := r) (b := b) (c := c) S4 M4 (A := t) (i := i4) (by omega) (by omega) hl P4 (by rw [hC t (by omega), hcp])
      exact ImO.one e5 f5 g5 P5 T4 hi4
    · rename_i a0 b0 _ e
      rw [e]
      obtain ⟨s, t, h1, h2, hcp, rfl⟩ := hc
      have := cmpN_lt _ _ _ _ h1
      have := cmpN_lt _ _ _ _ h2
      refine ImO.trans M L (ih _ _ _ h1 (by omega) h i st cs hS M L P Ts (by omega) (by omega) hi) (fun h3 i3 S3 M3 L3 P3 T3 hi3 => ?_)
      refine ImO.trans M3 L3 (d2 := 0) (ih _ _ _ h2 (by omega) h3 i3 _ cs S3 M3 L3 P3 T3 (by rw [List.length_append]; simp; omega) (by omega) hi3) (fun h4 i4 S4 M4 L4 P4 T4 hi4 => ?_)
      rw [app2] at P4
      obtain ⟨h5, e5, f5, g5, P5⟩ := im_minus (k := k) (l := l) (r := r) (b := b) (c := c) S4 M4 (A := t) (i := i4) (by omega) (by omega) hl P4 (by rw [hC t (by omega), hcp])
      exact ImO.one e5 f5 g5 P5 T4 hi4
    · rename_i a0 b0 _ e
      rw [e]
      obtain ⟨s, t, h1, h2, hcp, rfl⟩ := hc
      have := cmpN_lt _ _ _ _ h1
      have := cmpN_lt _ _ _ _ h2
      refine ImO.trans M L (ih _ _ _ h1 (by omega) h i st cs hS M L P Ts (by omega) (by omega) hi) (fun h3 i3 S3 M3 L3 P3 T3 hi3 => ?_)
      refine ImO.trans M3 L3 (d2 := 0) (ih _ _ _ h2 (by omega) h3 i3 _ cs S3 M3 L3 P3 T3 (by rw [List.length_append]; simp; omega) (by omega) hi3) (fun h4 i4 S4 M4 L4 P4 T4 hi4 => ?_)
      rw [app2] at P4
      obtain ⟨h5, e5, f5, g5, P5⟩ := im_times (k := k) (l := l) (r := r) (b := b) (c := c) S4 M4 (A := t) (i := i4) (by omega) (by omega) hl P4 (by rw [hC t (by omega), hcp])
      exact ImO.one e5 f5 g5 P5 T4 hi4
    · rename_i a0 b0 _ e
      rw [e]
      obtain ⟨s, h1, hn1, hn2, hcp, rfl⟩ := hc
      have := cmpN_lt _ _ _ _ h1
      refine ImO.trans M L (ih _ _ _ h1 (by omega) h i st cs hS M L P Ts (by omega) (by omega) hi) (d2 := 0) (fun h2 i2 S2 M2 L2 P2 T2 hi2 => ?_)
      obtain ⟨h3, e3, f3, g3, P3⟩ := im_over (k := k) (l := l) (r := r) (b := b) (c := c) S2 M2 (A := s) (i := i2) (by omega) (by omega) hl P2 hn1 hn2 (by rw [hC s (by omega), hcp])
      exact ImO.one e3 f3 g3 P3 T2 hi2
    · rename_i a0 b0 c0 d0 e
      rw [e]
      obtain ⟨s, t, v, x, h1, h2, hcs, h3, hct, h4, hcu, rfl⟩ := hc
      have := cmpN_lt _ _ _ _ h1
      have := cmpN_lt _ _ _ _ h2
      have := cmpN_lt _ _ _ _ h3
      have := cmpN_lt _ _ _ _ h4
      refine ImO.eq (d := (evN T E n a0).2 + ((evN T E n b0).2 + ((tstV (evN T E n a0) (evN T E n b0) (evN T E n c0) (evN T E n d0)).2 - (evN T E n a0).2 - (evN T E n b0).2))) (by show _ = (tstV (evN T E n a0) (evN T E n b0) (evN T E n c0) (evN T E n d0)).2; unfold tstV; split <;> (try split) <;> dsimp only <;> omega) ?_
      refine ImO.trans M L (ih _ _ _ h1 (by omega) h i st cs hS M L P Ts (by omega) (by omega) hi) (fun h3' i3 S3 M3 L3 P3 T3 hi3 => ?_)
      refine ImO.trans M3 L3 (ih _ _ _ h2 (by omega) h3' i3 _ cs S3 M3 L3 P3 T3 (by rw [List.length_append]; simp; omega) (by omega) hi3) (fun h4' i4 S4 M4 L4 P4 T4 hi4 => ?_)
      rw [app2] at P4
      obtain ⟨h5, e5, f5, g5, P5, T5, U5⟩ := im_choose (k := k) (l := l) (r := r) (b := b) (c := c) S4 M4 (A := t) (i := i4) (by omega) (by omega) hl P4 T4 (by omega) (y := v + 1) (by omega) (by rw [hC t (by omega), hcs])
      show ImO k mo co l r b c g t (x + 1) i4 h4' (st ++ [(tstV (evN T E n a0) (evN T E n b0) (evN T E n c0) (evN T E n d0)).1]) cs _
      by_cases k1 : (evN T E n a0).1.2.1 < (evN T E n b0).1.1
      · have hch : chN (evN T E n a0).1 (evN T E n b0).1 = 1 := by unfold chN; rw [if_pos k1]
        have et : tstV (evN T E n a0) (evN T E n b0) (evN T E n c0) (evN T E n d0) = ((evN T E n c0).1, (evN T E n a0).2 + (evN T E n b0).2 + (evN T E n c0).2) := by unfold tstV; rw [if_pos k1]
        rw [hch, if_neg (by decide)] at e5
        rw [hch] at T5
        rw [hch, if_neg (by decide), Int32.add_zero] at U5
        rw [et]
        refine ImO.eq (d := 0 + ((evN T E n c0).2 + 0)) (by dsimp only; omega) ?_
        refine ImO.trans M4 L4 (ImO.two e5 f5 g5 P5 T5 (U5.trans (Int32.add_zero _).symm) (by omega)) (fun h6 i6 S6 M6 L6 P6 T6 hi6 => ?_)
        refine ImO.trans M6 L6 (ih _ _ _ h3 (by omega) h6 i6 st _ S6 M6 L6 P6 T6 (by omega) (by rw [List.length_append]; simp; omega) hi6) (fun h7 i7 S7 M7 L7 P7 T7 hi7 => ?_)
        obtain ⟨h8, e8, f8, g8, P8, T8, U8⟩ := im_turn (k := k) (l := l) (r := r) (b := b) (c := c) S7 M7 (A := v) (i := i7) (by omega) (by omega) hl P7 T7 (y := x + 1) (by omega) (by rw [hC v (by omega), hct])
        rw [if_pos rfl] at e8 T8
        exact ImO.two e8 f8 g8 P8 T8 (U8.trans (Int32.add_zero _).symm) (by omega)
      · by_cases k2 : (evN T E n b0).1.2.1 ≤ (evN T E n a0).1.1
        · have hch : chN (evN T E n a0).1 (evN T E n b0).1 = 2 := by unfold chN; rw [if_neg k1, if_pos k2]
          have et : tstV (evN T E n a0) (evN T E n b0) (evN T E n c0) (evN T E n d0) = ((evN T E n d0).1, (evN T E n a0).2 + (evN T E n b0).2 + (evN T E n d0).2) := by unfold tstV; rw [if_neg k1, if_pos k2]
          rw [hch, if_pos rfl] at e5
          rw [hch] at T5
          rw [hch, if_neg (by decide), Int32.add_zero] at U5
          rw [et]
          refine ImO.eq (d := 0 + ((evN T E n d0).2 + 0)) (by dsimp only; omega) ?_
          refine ImO.trans M4 L4 (ImO.two e5 f5 g5 P5 T5 (U5.trans (Int32.add_zero _).symm) (by omega)) (fun h6 i6 S6 M6 L6 P6 T6 hi6 => ?_)
          refine ImO.trans M6 L6 (ih _ _ _ h4 (by omega) h6 i6 st _ S6 M6 L6 P6 T6 (by omega) (by rw [List.length_append]; simp; omega) hi6) (fun h7 i7 S7 M7 L7 P7 T7 hi7 => ?_)
          obtain ⟨h8, e8, f8, g8, P8, T8, U8⟩ := im_meet2 (k := k) (l := l) (r := r) (b := b) (c := c) S7 M7 (A := x) (i := i7) (by omega) (by omega) hl P7 T7 (by rw [hC x (by omega), hcu])
          exact ImO.two e8 f8 g8 P8 T8 (U8.trans (Int32.add_zero _).symm) (by omega)
        · have hch : chN (evN T E n a0).1 (evN T E n b0).1 = 3 := by unfold chN; rw [if_neg k1, if_neg k2]
          have et : tstV (evN T E n a0) (evN T E n b0) (evN T E n c0) (evN T E n d0) = (hullV (evN T E n c0).1 (evN T E n d0).1, (evN T E n a0).2 + (evN T E n b0).2 + 1 + (evN T E n c0).2 + (evN T E n d0).2) := by unfold tstV; rw [if_neg k1, if_neg k2]
          rw [hch, if_neg (by decide)] at e5
          rw [hch] at T5
          rw [hch, if_pos rfl] at U5
          rw [et]
          refine ImO.eq (d := 1 + ((evN T E n c0).2 + (0 + ((evN T E n d0).2 + 0)))) (by dsimp only; omega) ?_
          refine ImO.trans M4 L4 (ImO.two e5 f5 g5 P5 T5 U5 (by omega)) (fun h6 i6 S6 M6 L6 P6 T6 hi6 => ?_)
          refine ImO.trans M6 L6 (ih _ _ _ h3 (by omega) h6 i6 st _ S6 M6 L6 P6 T6 (by omega) (by rw [List.length_append]; simp; omega) hi6) (fun h7 i7 S7 M7 L7 P7 T7 hi7 => ?_)
          obtain ⟨h8, e8, f8, g8, P8, T8, U8⟩ := im_turn (k := k) (l := l) (r := r) (b := b) (c := c) S7 M7 (A := v) (i := i7) (by omega) (by omega) hl P7 T7 (y := x + 1) (by omega) (by rw [hC v (by omega), hct])
          rw [if_neg (by decide)] at e8 T8
          refine ImO.trans M7 L7 (ImO.two e8 f8 g8 P8 T8 (U8.trans (Int32.add_zero _).symm) (by omega)) (fun h9 i9 S9 M9 L9 P9 T9 hi9 => ?_)
          refine ImO.trans M9 L9 (ih _ _ _ h4 (by omega) h9 i9 _ _ S9 M9 L9 P9 T9 (by rw [List.length_append]; simp; omega) (by rw [List.length_append]; simp; omega) hi9) (fun h10 i10 S10 M10 L10 P10 T10 hi10 => ?_)
          rw [app2] at P10
          obtain ⟨h11, e11, f11, g11, P11, T11, U11⟩ := im_meet (k := k) (l := l) (r := r) (b := b) (c := c) S10 M10 (A := x) (i := i10) (by omega) (by omega) hl P10 T10 (by rw [hC x (by omega), hcu])
          exact ImO.two e11 f11 g11 P11 T11 (U11.trans (Int32.add_zero _).symm) (by omega)
    · exact hc.elim
end SIM
