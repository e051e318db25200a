/-! SLOPES are spans *-/
def slO (v : VV) : Prop := v.2.2.2.2 = false → v.2.2.1 ≤ v.2.2.2.1
theorem cutI_mono {a b : Int} (h : a ≤ b) : cutI a ≤ cutI b := by
  unfold cutI
  split <;> split <;> (try split) <;> (try split) <;> omega
theorem plo_phi {a b c d : Int} : plo a b c d ≤ phi a b c d := by
  unfold plo phi
  apply cutI_mono
  have h : mn4 a b c d ≤ mx4 a b c d := by
    unfold mn4 mx4
    generalize a * c = p
    generalize a * d = q
    generalize b * c = r
    generalize b * d = s
    omega
  omega
theorem div_ord {a b : Int} (n : Nat) (h : a ≤ b) : a / (n : Int) ≤ -(-b / (n : Int)) := by
  by_cases z : n = 0
  · subst z
    simp
  · have hp : (0 : Int) < n := by omega
    have h1 : a / (n : Int) * n ≤ a := Int.ediv_mul_le a (by omega)
    have h2 : -b / (n : Int) * n ≤ -b := Int.ediv_mul_le (-b) (by omega)
    have h3 : (a / (n : Int) + -b / (n : Int)) * n ≤ 0 := by
      rw [Int.add_mul]
      omega
    have h4 : a / (n : Int) + -b / (n : Int) ≤ 0 := by
      apply Int.le_of_not_gt
      intro q
      have := Int.mul_pos q hp
      omega
    omega
theorem evN_sl {T : NT} {E : LE} : ∀ (n k : Nat), slO (evN T E n k).1 := by
  intro n
  induction n with
  | zero => intro k _; exact Int.le_refl _
  | succ n ih =>
    intro k
    unfold evN
    split
    · exact fun _ => Int.le_refl _
    · exact fun _ => Int.le_refl _
    · rename_i a w ee
      intro f
      have := ih a f
      show -(evN T E n a).1.2.2.2.1 ≤ -(evN T E n a).1.2.2.1
      omega
    · rename_i a w ee
      have := ih a
      show slO (absV (evN T E n a).1)
      unfold absV
      split
      · exact this
      · split
        · intro f
          have := this f
          show -(evN T E n a).1.2.2.2.1 ≤ -(evN T E n a).1.2.2.1
          omega
        · intro f
          have := this f
          show -(max (-(evN T E n a).1.2.2.1) (evN T E n a).1.2.2.2.1) ≤ max (-(evN T E n a).1.2.2.1) (evN T E n a).1.2.2.2.1
          omega
    · rename_i a b w ee
      intro f
      have f : ((evN T E n a).1.2.2.2.2 || (evN T E n b).1.2.2.2.2) = false := f
      rw [Bool.or_eq_false_iff] at f
      have h1 := ih a f.1
      have h2 := ih b f.2
      exact cutI_mono (by omega)
    · rename_i a b w ee
      intro f
      have f : ((evN T E n a).1.2.2.2.2 || (evN T E n b).1.2.2.2.2) = false := f
      rw [Bool.or_eq_false_iff] at f
      have h1 := ih a f.1
      have h2 := ih b f.2
      show cutI ((evN T E n a).1.2.2.1 + -(evN T E n b).1.2.2.2.1) ≤ cutI ((evN T E n a).1.2.2.2.1 + -(evN T E n b).1.2.2.1)
      exact cutI_mono (by omega)
    · rename_i a b w ee
      intro _
      have h1 := plo_phi (a := (evN T E n a).1.2.2.1) (b := (evN T E n a).1.2.2.2.1) (c := (evN T E n b).1.1) (d := (evN T E n b).1.2.1)
      have h2 := plo_phi (a := (evN T E n a).1.1) (b := (evN T E n a).1.2.1) (c := (evN T E n b).1.2.2.1) (d := (evN T E n b).1.2.2.2.1)
      exact cutI_mono (by omega)
    · rename_i a b w ee
      intro f
      exact div_ord b (ih a f)
    · rename_i a b c e _ _ _ _ _ _ _ _ _
      show slO (tstV (evN T E n a) (evN T E n b) (evN T E n c) (evN T E n e)).1
      unfold tstV
      split
      · exact ih c
      · split
        · exact ih e
        · intro f
          cases f
theorem plo_1 {s t : Int} (hs : bB s) (ht : bB t) (h : s ≤ t) : plo 1024 1024 s t = s := by
  unfold plo mn4
  rw [show min (min (1024 * s) (1024 * t)) (min (1024 * s) (1024 * t)) = 1024 * s by omega, Int.mul_ediv_cancel_left _ (by decide), cutI_id hs]
theorem phi_1 {s t : Int} (hs : bB s) (ht : bB t) (h : s ≤ t) : phi 1024 1024 s t = t := by
  unfold phi mx4
  rw [show max (max (1024 * s) (1024 * t)) (max (1024 * s) (1024 * t)) = 1024 * t by omega, show -(1024 * t) = 1024 * (-t) by omega, Int.mul_ediv_cancel_left _ (by decide), Int.neg_neg, cutI_id ht]
