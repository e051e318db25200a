/-! MAPS: tables of nodes (number 0, letter 1, less 2, size 3, sum 4, difference 5, product 6, part 7, test 8), what they are worth, and their code -/
theorem bB.cut (z : Int) : bB (cutI z) := cutI_b z
theorem bB.add {x y : Int} (hx : bB x) (hy : bB y) : r64 (x + y) := by
  have h1 := hx.1
  have h2 := hx.2
  have h3 := hy.1
  have h4 := hy.2
  exact ⟨by omega, by omega⟩
theorem bB.div {x : Int} (hx : bB x) {n : Nat} (hn : 0 < n) : bB (x / n) := by
  have h1 := hx.1
  have h2 := hx.2
  have hp : (0 : Int) < n := by omega
  constructor
  · have := Int.ediv_le_ediv hp (show -2147483647 ≤ x by omega)
    have q : -2147483647 ≤ (-2147483647 : Int) / n := by
      rw [Int.le_ediv_iff_mul_le hp]
      have := Int.mul_le_mul_of_nonneg_left (show (1 : Int) ≤ n by omega) (show (0 : Int) ≤ 2147483647 by decide)
      omega
    omega
  · by_cases h0 : 0 ≤ x
    · have := Int.ediv_le_self (n : Int) h0
      omega
    · have := Int.ediv_neg_of_neg_of_pos (show x < 0 by omega) hp
      omega
def addV (u w : VV) : VV := (cutI (u.1 + w.1), cutI (u.2.1 + w.2.1), cutI (u.2.2.1 + w.2.2.1), cutI (u.2.2.2.1 + w.2.2.2.1), u.2.2.2.2 || w.2.2.2.2)
def slV (u w : VV) : VV := (u.1, u.2.1, cutI (plo u.2.2.1 u.2.2.2.1 w.1 w.2.1 + plo u.1 u.2.1 w.2.2.1 w.2.2.2.1), cutI (phi u.2.2.1 u.2.2.2.1 w.1 w.2.1 + phi u.1 u.2.1 w.2.2.1 w.2.2.2.1), u.2.2.2.2 || w.2.2.2.2)
def mulV (u w : VV) : VV := (plo u.1 u.2.1 w.1 w.2.1, phi u.1 u.2.1 w.1 w.2.1, u.2.2)
def divV (n : Nat) (u : VV) : VV := (u.1 / n, -(-u.2.1 / n), u.2.2.1 / n, -(-u.2.2.2.1 / n), u.2.2.2.2)
def absV (u : VV) : VV := if 0 ≤ u.1 then u else if u.2.1 ≤ 0 then negV u else (0, max (-u.1) u.2.1, -(max (-u.2.2.1) u.2.2.2.1), max (-u.2.2.1) u.2.2.2.1, u.2.2.2.2)
abbrev NT : Type := Nat → Nat × Nat × Nat × Nat × Nat
abbrev LE : Type := Nat → Int × Int
def hullV (u w : VV) : VV := (min u.1 w.1, max u.2.1 w.2.1, u.2.2.1, u.2.2.2.1, true)
def slX (a : Nat) : Int := if a = 0 then 1024 else 0
theorem bB0 : bB 0 := ⟨by decide, by decide⟩
def tstV (ra rb rc rd : VV × Nat) : VV × Nat := if ra.1.2.1 < rb.1.1 then (rc.1, ra.2 + rb.2 + rc.2) else if rb.1.2.1 ≤ ra.1.1 then (rd.1, ra.2 + rb.2 + rd.2) else (hullV rc.1 rd.1, ra.2 + rb.2 + 1 + rc.2 + rd.2)
/-- the value of a node, and how many tests were undecided -/
def evN (T : NT) (E : LE) : Nat → Nat → VV × Nat
  | 0, _ => ((0, 0, 0, 0, false), 0)
  | n + 1, k => match T k with
    | (0, a, _) => (((a : Int), (a : Int), 0, 0, false), 0)
    | (1, a, _) => (((E a).1, (E a).2, slX a, slX a, false), 0)
    | (2, a, _) => (negV (evN T E n a).1, (evN T E n a).2)
    | (3, a, _) => (absV (evN T E n a).1, (evN T E n a).2)
    | (4, a, b, _) => (addV (evN T E n a).1 (evN T E n b).1, (evN T E n a).2 + (evN T E n b).2)
    | (5, a, b, _) => (addV (evN T E n a).1 (negV (evN T E n b).1), (evN T E n a).2 + (evN T E n b).2)
    | (6, a, b, _) => (mulV (slV (evN T E n a).1 (evN T E n b).1) (evN T E n b).1, (evN T E n a).2 + (evN T E n b).2)
    | (7, a, b, _) => (divV b (evN T E n a).1, (evN T E n a).2)
    | (_, a, b, c, d) => tstV (evN T E n a) (evN T E n b) (evN T E n c) (evN T E n d)
/-- the code of node k stands from p to q -/
def cmpN (C : Nat → Nat × Nat) (T : NT) : Nat → Nat → Nat → Nat → Prop
  | 0, _, _, _ => False
  | n + 1, k, p, q => match T k with
    | (0, a, _) => ∃ v, a = v * 1024 ∧ v ≤ 9999 ∧ C p = (0, v) ∧ q = p + 1
    | (1, a, _) => a < 6 ∧ C p = (1, a) ∧ q = p + 1
    | (2, a, _) => ∃ r, cmpN C T n a p r ∧ C r = (2, 0) ∧ q = r + 1
    | (3, a, _) => ∃ r, cmpN C T n a p r ∧ C r = (3, 0) ∧ q = r + 1
    | (4, a, b, _) => ∃ r s, cmpN C T n a p r ∧ cmpN C T n b r s ∧ C s = (6, 0) ∧ q = s + 1
    | (5, a, b, _) => ∃ r s, cmpN C T n a p r ∧ cmpN C T n b r s ∧ C s = (7, 0) ∧ q = s + 1
    | (6, a, b, _) => ∃ r s, cmpN C T n a p r ∧ cmpN C T n b r s ∧ C s = (4, 0) ∧ q = s + 1
    | (7, a, b, _) => ∃ r, cmpN C T n a p r ∧ 1 ≤ b ∧ b ≤ 999 ∧ C r = (5, b) ∧ q = r + 1
    | (8, a, b, c, d) => ∃ r s t u, cmpN C T n a p r ∧ cmpN C T n b r s ∧ C s = (8, t + 1) ∧ cmpN C T n c (s + 1) t ∧ C t = (9, u + 1) ∧ cmpN C T n d (t + 1) u ∧ C u = (10, 0) ∧ q = u + 1
    | _ => False
theorem plo_b {a b c d : Int} : bB (plo a b c d) := cutI_b _
theorem phi_b {a b c d : Int} : bB (phi a b c d) := cutI_b _
theorem negV_b {u : VV} (h : VVB u) : VVB (negV u) := ⟨h.2.1.neg, h.1.neg, h.2.2.2.neg, h.2.2.1.neg⟩
theorem absV_b {u : VV} (h : VVB u) : VVB (absV u) := by
  obtain ⟨h1, h2, h3, h4⟩ := h
  unfold absV
  split
  · exact ⟨h1, h2, h3, h4⟩
  · split
    · exact negV_b ⟨h1, h2, h3, h4⟩
    · unfold bB at *
      refine ⟨?_, ?_, ?_, ?_⟩ <;> (unfold bB; dsimp only; omega)
theorem addV_b {u w : VV} : VVB (addV u w) := ⟨cutI_b _, cutI_b _, cutI_b _, cutI_b _⟩
theorem slV_b {u w : VV} (h : VVB u) : VVB (slV u w) := ⟨h.1, h.2.1, cutI_b _, cutI_b _⟩
theorem mulV_b {u w : VV} (h : VVB u) : VVB (mulV u w) := ⟨cutI_b _, cutI_b _, h.2.2⟩
theorem hullV_b {u w : VV} (h : VVB u) (h' : VVB w) : VVB (hullV u w) := by
  obtain ⟨h1, h2, h3, h4⟩ := h
  obtain ⟨k1, k2, k3, k4⟩ := h'
  unfold hullV bB at *
  refine ⟨?_, ?_, h3, h4⟩ <;> (unfold bB; dsimp only; omega)
theorem divV_b {n : Nat} (hn : 0 < n) {u : VV} (h : VVB u) : VVB (divV n u) := ⟨h.1.div hn, (h.2.1.neg.div hn).neg, h.2.2.1.div hn, (h.2.2.2.neg.div hn).neg⟩
theorem tstV_b {ra rb rc rd : VV × Nat} (hc : VVB rc.1) (hd : VVB rd.1) : VVB (tstV ra rb rc rd).1 := by
  unfold tstV
  split
  · exact hc
  · split
    · exact hd
    · exact hullV_b hc hd
/-- letters within bounds -/
def LEB (E : LE) : Prop := ∀ a, bB (E a).1 ∧ bB (E a).2
theorem evN_b {C : Nat → Nat × Nat} {T : NT} {E : LE} (hE : LEB E) : ∀ (n k p q : Nat), cmpN C T n k p q → VVB (evN T E n k).1 := by
  intro n
  induction n with
  | zero => intro k p q h; exact h.elim
  | succ n ih =>
    intro k p q h
    unfold cmpN at h
    unfold evN
    split at h
    · rename_i a _ e
      rw [e]
      obtain ⟨v, rfl, hv, -, -⟩ := h
      have : bB (((v * 1024 : Nat) : Int)) := ⟨by omega, by omega⟩
      exact ⟨this, this, bB0, bB0⟩
    · rename_i a _ e
      rw [e]
      have hs : bB (slX a) := by unfold slX; split <;> exact ⟨by decide, by decide⟩
      exact ⟨(hE a).1, (hE a).2, hs, hs⟩
    · rename_i a _ e
      rw [e]
      obtain ⟨r, h1, -⟩ := h
      exact negV_b (ih _ _ _ h1)
    · rename_i a _ e
      rw [e]
      obtain ⟨r, h1, -⟩ := h
      exact absV_b (ih _ _ _ h1)
    · rename_i a b _ e
      rw [e]
      exact addV_b
    · rename_i a b _ e
      rw [e]
      exact addV_b
    · rename_i a b _ e
      rw [e]
      obtain ⟨r, s, h1, h2, -⟩ := h
      exact mulV_b (slV_b (ih _ _ _ h1))
    · rename_i a b _ e
      rw [e]
      obtain ⟨r, h1, h2, -⟩ := h
      exact divV_b h2 (ih _ _ _ h1)
    · rename_i a b c d e
      rw [e]
      obtain ⟨r, s, t, u, h1, h2, -, h3, -, h4, -⟩ := h
      exact tstV_b (ih _ _ _ h3) (ih _ _ _ h4)
    · exact h.elim
