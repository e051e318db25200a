/-! THE CLASS: Net.mark, in the document's words -/
theorem lstI_b {x w hi : Int} {n : Nat} (h : 1 ≤ n) : -1 ≤ lstI x w n hi ∧ lstI x w n hi < n := by
  unfold lstI
  split
  · omega
  · split
    · omega
    · have : 0 ≤ (hi - x) / w := Int.ediv_nonneg (by omega) (by omega)
      omega
theorem fstI_b {x w lo : Int} (h1 : -2147483648 ≤ x) (h2 : lo ≤ 2147483648) : 0 ≤ fstI x w lo ∧ fstI x w lo < 9223372036854775000 := by
  unfold fstI
  split
  · omega
  · have a : 0 ≤ (lo - x - 1) / w := Int.ediv_nonneg (by omega) (by omega)
    have b : (lo - x - 1) / w ≤ lo - x - 1 := Int.ediv_le_self _ (by omega)
    omega
section CMARK4
variable {d b c : Nat} {h : AH} {g : GT} {v : Int × Int × Int × Int}
theorem ins_eq (B : GBg g) (hz : gpl g = false → v.2.2.1 = 0 ∧ v.2.2.2 = 0) : (insX g v && insY g v) = insB g v := by
  unfold insX insY insB
  cases hp : gpl g
  · obtain ⟨z1, z2⟩ := hz hp
    obtain ⟨y0, w0, m0⟩ := B.2.2.2.2.2 hp
    rw [z1, z2, y0, w0, m0, decide_eq_true (show (0 : Int) ≤ 0 ∧ (0 : Int) ≤ 0 + ((1 : Nat) : Int) * 0 by omega), Bool.decide_and]
    rfl
  · rw [Bool.decide_and, Bool.decide_and]
    simp
theorem met_eq (B : GBg g) (hz : gpl g = false → v.2.2.1 = 0 ∧ v.2.2.2 = 0) {o : Nat} : decide ((fstI g.2.2.2.1 g.2.2.2.2.1 v.2.2.1 ≤ (o / g.2.2.1 : Nat) ∧ ((o / g.2.2.1 : Nat) : Int) ≤ lstI g.2.2.2.1 g.2.2.2.2.1 g.2.2.2.2.2.1 v.2.2.2) ∧ fstI g.1 g.2.1 v.1 ≤ (o % g.2.2.1 : Nat) ∧ ((o % g.2.2.1 : Nat) : Int) ≤ lstI g.1 g.2.1 g.2.2.1 v.2.1) = (decide (o < nC g) && metB g v o) := by
  obtain ⟨x, w, n, y, wy, m, pl⟩ := g
  obtain ⟨⟨b1, b2, b3, b4, b5⟩, ⟨c1, c2, c3, c4, c5⟩, b7, b6, b8, b9⟩ := B
  unfold metB nC lfC rgC loC hiC gpl at *
  dsimp only at *
  have hm : o % n < n := Nat.mod_lt _ (by omega)
  have hx := met_iff (x := x) (lo := v.1) (hi := v.2.1) (n := n) (i := o % n) b6 hm
  rw [Int.add_mul, Int.one_mul, ← Int.add_assoc] at hx
  by_cases ho : o < n * m
  · have hd : o / n < m := (Nat.div_lt_iff_lt_mul (by omega)).mpr (by rw [Nat.mul_comm]; exact ho)
    rw [decide_eq_true ho, Bool.true_and]
    cases pl
    · obtain ⟨z1, z2⟩ := hz rfl
      obtain ⟨y0, w0, m0⟩ := b9 rfl
      subst y0 w0 m0
      have e0 : o / n = 0 := Nat.lt_one_iff.mp hd
      have f0 : fstI 0 0 v.2.2.1 = 0 := by unfold fstI; rw [if_pos (by omega)]
      have l0 : lstI 0 0 1 v.2.2.2 = 0 := by unfold lstI; rw [if_neg (by omega), if_pos (by omega)]; rfl
      rw [f0, l0, e0]
      rw [show ((decide (v.1 ≤ x + ((o % n : Nat) : Int) * w + w) && decide (x + ((o % n : Nat) : Int) * w ≤ v.2.1)) && (!false || (decide (v.2.2.1 ≤ 0 + ((0 : Nat) : Int) * 0 + 0) && decide (0 + ((0 : Nat) : Int) * 0 ≤ v.2.2.2)))) = decide (v.1 ≤ x + ((o % n : Nat) : Int) * w + w ∧ x + ((o % n : Nat) : Int) * w ≤ v.2.1) by rw [Bool.decide_and]; simp]
      exact decide_eq_decide.mpr ⟨fun q => hx.mp q.2, fun q => ⟨⟨Int.le_refl _, Int.le_refl _⟩, hx.mpr q⟩⟩
    · have hy := met_iff (x := y) (lo := v.2.2.1) (hi := v.2.2.2) (n := m) (i := o / n) (b8 rfl) hd
      rw [Int.add_mul, Int.one_mul, ← Int.add_assoc] at hy
      rw [show ((decide (v.1 ≤ x + ((o % n : Nat) : Int) * w + w) && decide (x + ((o % n : Nat) : Int) * w ≤ v.2.1)) && (!true || (decide (v.2.2.1 ≤ y + ((o / n : Nat) : Int) * wy + wy) && decide (y + ((o / n : Nat) : Int) * wy ≤ v.2.2.2)))) = decide ((v.2.2.1 ≤ y + ((o / n : Nat) : Int) * wy + wy ∧ y + ((o / n : Nat) : Int) * wy ≤ v.2.2.2) ∧ (v.1 ≤ x + ((o % n : Nat) : Int) * w + w ∧ x + ((o % n : Nat) : Int) * w ≤ v.2.1)) by rw [Bool.decide_and, Bool.decide_and, Bool.decide_and, Bool.and_comm]; simp]
      exact decide_eq_decide.mpr ⟨fun q => ⟨hy.mp q.1, hx.mp q.2⟩, fun q => ⟨hy.mpr q.1, hx.mpr q.2⟩⟩
  · rw [decide_eq_false ho, Bool.false_and]
    apply decide_eq_false
    have hl := (lstI_b (x := y) (w := wy) (hi := v.2.2.2) c3).2
    have hd : m ≤ o / n := (Nat.le_div_iff_mul_le (by omega)).mpr (by rw [Nat.mul_comm]; omega)
    omega
theorem c_mark (hS : SH h) (hn : isNt b) (hb : 20 < b) (G : GCg h g) (B : GBg g) (V : CIv h v) (hv : bB4 v) (hz : gpl g = false → v.2.2.1 = 0 ∧ v.2.2.2 = 0) (hc : c < 128) : ∃ h', aCall (d + 3) 41 [.ref b, .int (nI c), .ref 18, .ref 6] h = some (none, h') ∧ Fr [b + 1, b + 2, b + 3] h h' ∧ (∀ c' o', c' < 128 → o' < 128 → hasN h' b c' o' = (hasN h b c' o' || (decide (c' = c) && (decide (o' < nC g) && metB g v o')))) ∧ ∀ c', c' < 128 → hasC h' (b + 3) c' = (hasC h (b + 3) c' || (decide (c' = c) && !insB g v)) := by
  obtain ⟨h1, e1, F1, R1⟩ := mk_0 (d := d) hS hn hb G B V hv hc
  have G1 := G.keep F1 (by simp; omega) (by simp; omega) (by simp; omega)
  have V1 := V.keep F1 (by simp; omega)
  have B0 := B
  obtain ⟨⟨b1, b2, b3, b4, b5⟩, ⟨c1, c2, c3, c4, c5⟩, b7, -⟩ := B
  have hp1 : 0 ≤ (g.2.2.1 : Int) * g.2.1 := Int.mul_nonneg (by omega) b2
  have hp2 : 0 ≤ (g.2.2.2.2.2.1 : Int) * g.2.2.2.2.1 := Int.mul_nonneg (by omega) c2
  obtain ⟨⟨u1, u2⟩, ⟨u3, u4⟩, ⟨u5, u6⟩, ⟨u7, u8⟩⟩ := hv
  have fx := fstI_b (x := g.1) (w := g.2.1) (lo := v.1) (by omega) (by omega)
  have fy := fstI_b (x := g.2.2.2.1) (w := g.2.2.2.2.1) (lo := v.2.2.1) (by omega) (by omega)
  have lx := lstI_b (x := g.1) (w := g.2.1) (hi := v.2.1) b3
  have ly := lstI_b (x := g.2.2.2.1) (w := g.2.2.2.2.1) (hi := v.2.2.2) c3
  obtain ⟨h', e2, F2, R2⟩ := mk_j (d := d) (c := c) F1.1 hn hb G1.1 B0.1 hc (a := v.1) V1.1 ⟨by omega, by omega⟩ fx.1 fx.2 (lx := lstI g.1 g.2.1 g.2.2.1 v.2.1) ⟨by omega, lx.2⟩ fy.1 fy.2 (ly := lstI g.2.2.2.1 g.2.2.2.2.1 g.2.2.2.2.2.1 v.2.2.2) (m := g.2.2.2.2.2.1) ⟨by omega, ly.2⟩ b7
  refine ⟨h', by rw [e1, e2], (F1.mono (by intro x hx; simp at hx ⊢; omega)).trans (F2.mono (by intro x hx; simp at hx ⊢; omega)), fun c' o' hc' ho' => ?_, fun c' hc' => ?_⟩
  · have k1 : hasN h1 b c' o' = hasN h b c' o' := by
      unfold hasN
      rw [aj_of_ag (F1.2.1 (b + 1) (by simp)), aj_of_ag (F1.2.1 (b + 2) (by simp))]
    rw [R2 c' o' hc' ho', k1, met_eq B0 hz]
  · rw [hasC_ag (F2.2.1 (b + 3) (by simp)), R1 c' hc', ins_eq B0 hz]
end CMARK4
