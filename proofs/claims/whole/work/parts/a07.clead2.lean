/-! THE CLASS: Net.lead: its loops -/
theorem or_and5 (X C N F M : Bool) : ((X || (C && (N && F))) || (C && (N && M))) = (X || (C && (N && (F || M)))) := by cases X <;> cases C <;> cases N <;> cases F <;> cases M <;> rfl
theorem or_and4 (X C F M : Bool) : ((X || (C && F)) || (C && M)) = (X || (C && (F || M))) := by cases X <;> cases C <;> cases F <;> cases M <;> rfl
theorem anyB_swap {n m : Nat} {f : Nat → Nat → Bool} : (anyB n fun i => anyB m fun j => f i j) = anyB m fun j => anyB n fun i => f i j := by
  apply Bool.eq_iff_iff.mpr
  rw [anyB_iff, anyB_iff]
  constructor
  · rintro ⟨i, hi, h⟩
    obtain ⟨j, hj, h⟩ := anyB_iff.mp h
    exact ⟨j, hj, anyB_iff.mpr ⟨i, hi, h⟩⟩
  · rintro ⟨j, hj, h⟩
    obtain ⟨i, hi, h⟩ := anyB_iff.mp h
    exact ⟨i, hi, anyB_iff.mpr ⟨j, hj, h⟩⟩
/-- what a net's building needs of the class, as it stood at first -/
def LdC (h0 : AH) (g : GT) (T : NT) (E : LE) (mo rx ry fk b : Nat) : Prop := ClM h0 mo (gpl g) T rx ry ∧ GCg h0 g ∧ GBg g ∧ LEB E ∧ fk ≤ 2 ∧ isNt b ∧ 20 < b ∧ b < 100
section CLEAD2
variable {d b c mo fk : Nat} {h h0 : AH} {g : GT} {T : NT} {E : LE} {rx ry : Nat} {sg : Bool}
theorem LDL_lt {x : Nat} (hb : b < 100) (hx : x ∈ LDL b) : x < 118 := by
  unfold LDL IML at hx
  simp at hx
  omega
theorem LDL_n (hb : 20 < b) {x : Nat} (h1 : 15 ≤ x) (h2 : x ≤ 20) : x ∉ LDL b := by
  unfold LDL IML
  simp
  omega
theorem LdP.congr {f f' : St} {l l' : Bool} (A : LdP h0 g E sg b c f l h) (e : ∀ o, f o = f' o) (e2 : l = l') : LdP h0 g E sg b c f' l' h := by
  have : f = f' := funext e
  subst this e2
  exact A
theorem ld_i (C : LdC h0 g T E mo rx ry fk b) {i j : Nat} (hc : c < nC g) (hi : i < 2 ^ fk) (hj : j < rowsB (gpl g) fk) {f : St} {l : Bool} (A : LdP h0 g E sg b c f l h) : ∃ h', ldI d b c mo fk (2 ^ fk) (rowsB (gpl g) fk) (lfC g c) (rgC g c) (loC g c) (hiC g c) j i h = ldI d b c mo fk (2 ^ fk) (rowsB (gpl g) fk) (lfC g c) (rgC g c) (loC g c) (hiC g c) j (i + 1) h' ∧ LdP h0 g E sg b c (fun o => f o || metB g (imC g (T, E, rx, ry, fk) c i j).1 o) (l || !insB g (imC g (T, E, rx, ry, fk) c i j).1) h' := by
  obtain ⟨M, G, B, hE, hk, hn, hb, hb2⟩ := C
  obtain ⟨F, L, sl, H1, H2⟩ := A
  have pn := pw2 hk
  have rl := rowsB_le (gpl g) hk
  obtain ⟨k1, k2, k3, k4, k5, k6, k7, k8, k9⟩ := cellB B hc
  have x1 := cutP_b (lo := lfC g c) (hi := rgC g c) (by omega) (i := i) (n := 2 ^ fk) (by omega) (by omega)
  have x2 := cutP_b (lo := lfC g c) (hi := rgC g c) (by omega) (i := i + 1) (n := 2 ^ fk) (by omega) (by omega)
  have x3 := cutP_b (lo := loC g c) (hi := hiC g c) (by omega) (i := j) (n := rowsB (gpl g) fk) (by omega) (by omega)
  have x4 := cutP_b (lo := loC g c) (hi := hiC g c) (by omega) (i := j + 1) (n := rowsB (gpl g) fk) (by omega) (by omega)
  have M1 := M.keep F (fun x hx => LDL_lt hb2 hx)
  have G1 := G.keep F (LDL_n hb (by omega) (by omega)) (LDL_n hb (by omega) (by omega)) (LDL_n hb (by omega) (by omega))
  have B1 : bB (cutP (lfC g c) (rgC g c) i (2 ^ fk)) := ⟨by omega, by omega⟩
  have B2 : bB (cutP (lfC g c) (rgC g c) (i + 1) (2 ^ fk)) := ⟨by omega, by omega⟩
  have B3 : bB (cutP (loC g c) (hiC g c) j (rowsB (gpl g) fk)) := ⟨by omega, by omega⟩
  have B4 : bB (cutP (loC g c) (hiC g c) (j + 1) (rowsB (gpl g) fk)) := ⟨by omega, by omega⟩
  obtain ⟨h1, e1, F1, L1, V1, sl1, -⟩ := c_imgC (k := d + 1) F.1 M1 L hE sl B1 B2 B3 B4
  have hv : bB4 (imC g (T, E, rx, ry, fk) c i j).1 := by
    obtain ⟨co, len, f', C', m1, m2, m3, R⟩ := M
    exact cmpN_b hE R B1 B2 B3 B4
  have hz : gpl g = false → (imC g (T, E, rx, ry, fk) c i j).1.2.2.1 = 0 ∧ (imC g (T, E, rx, ry, fk) c i j).1.2.2.2 = 0 := by
    intro hp
    unfold imC
    rw [hp]
    exact ⟨rfl, rfl⟩
  have G2 := G1.keep F1 (by decide) (by decide) (by decide)
  obtain ⟨h2, e2, F2, R1, R2⟩ := c_mark (d := d + 2) F1.1 hn hb G2 B (v := (imC g (T, E, rx, ry, fk) c i j).1) V1 hv hz k1
  have nIML : ∀ t, t < 4 → b + t ∉ IML := by
    intro t ht
    unfold IML
    simp
    omega
  have hN1 : ∀ c' o', hasN h1 b c' o' = hasN h b c' o' := by
    intro c' o'
    unfold hasN
    rw [aj_of_ag (F1.2.1 (b + 1) (nIML 1 (by omega))), aj_of_ag (F1.2.1 (b + 2) (nIML 2 (by omega)))]
  have hC1 : hasC h1 (b + 3) = hasC h (b + 3) := hasC_ag (F1.2.1 (b + 3) (nIML 3 (by omega)))
  refine ⟨h2, ?_, (F.trans (F1.mono ?_)).trans (F2.mono ?_), L1.keep F2 (by simp; omega) (by simp; omega), ?_, fun c' o' hc' ho' => ?_, fun c' hc' => ?_⟩
  · exact ld_i1 F.1 F1.1 hn hi (by omega) (c_cutAt (d := d + 4) (by omega) (by omega) (by omega) (by omega) (by omega) (by omega)) (c_cutAt (d := d + 4) (by omega) (by omega) (by omega) (by omega) (by omega) (by omega)) (c_cutAt (d := d + 4) (by omega) (by omega) (by omega) (by omega) (by omega) (by omega)) (c_cutAt (d := d + 4) (by omega) (by omega) (by omega) (by omega) (by omega) (by omega)) e1 e2
  · intro x hx
    unfold LDL
    simp [hx]
  · intro x hx
    unfold LDL
    simp at hx ⊢
    omega
  · rw [gi_of_ag (F2.2.1 6 (by simp; omega))]; exact sl1
  · rw [R1 c' o' hc' ho', hN1, H1 c' o' hc' ho']
    exact or_and5 _ _ _ _ _
  · rw [R2 c' hc', hC1, H2 c' hc']
    exact or_and4 _ _ _ _
theorem ld_j (C : LdC h0 g T E mo rx ry fk b) {j : Nat} (hc : c < nC g) (hj : j < rowsB (gpl g) fk) {f : St} {l : Bool} (A : LdP h0 g E sg b c f l h) : ∃ h', ldJ d b c mo fk (2 ^ fk) (rowsB (gpl g) fk) (lfC g c) (rgC g c) (loC g c) (hiC g c) j h = ldJ d b c mo fk (2 ^ fk) (rowsB (gpl g) fk) (lfC g c) (rgC g c) (loC g c) (hiC g c) (j + 1) h' ∧ LdP h0 g E sg b c (fun o => f o || anyB (2 ^ fk) fun i => metB g (imC g (T, E, rx, ry, fk) c i j).1 o) (l || anyB (2 ^ fk) fun i => !insB g (imC g (T, E, rx, ry, fk) c i j).1) h' := by
  have hk : fk ≤ 2 := C.2.2.2.2.1
  have pn := pw2 hk
  have rl := rowsB_le (gpl g) hk
  obtain ⟨h', e, A'⟩ := loopE (ldI d b c mo fk (2 ^ fk) (rowsB (gpl g) fk) (lfC g c) (rgC g c) (loC g c) (hiC g c) j) (fun i h' => LdP h0 g E sg b c (fun o => f o || anyB i fun i => metB g (imC g (T, E, rx, ry, fk) c i j).1 o) (l || anyB i fun i => !insB g (imC g (T, E, rx, ry, fk) c i j).1) h') (n := 2 ^ fk) (fun i h' hi A' => by
    obtain ⟨h2, e2, A2⟩ := ld_i (d := d) C hc hi hj A'
    exact ⟨h2, e2, A2.congr (fun o => Bool.or_assoc _ _ _) (Bool.or_assoc _ _ _)⟩) 0 h (by omega) (A.congr (fun o => (Bool.or_false _).symm) (Bool.or_false _).symm)
  refine ⟨h', ?_, A'⟩
  rw [ld_j0 hj (by omega), e]
  exact ld_ix (by omega)
end CLEAD2
