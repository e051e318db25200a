/-! CALL turning: the model, to its end -/
section MTURN2
variable {d u fk n : Nat} {h h1 : AH} {g : GT} {T : NT} {E : LE} {rx ry : Nat}
theorem qtF_r {f e : Nat} (j : Nat) : -1 ≤ qtF g T E rx ry f e j ∧ qtF g T E rx ry f e j ≤ 3 := qtV_r _ _
theorem nlt0 {x : Int} (h : 0 ≤ x ∧ x ≤ 3) : ¬ I x < 0 := fun z => by
  have := IltF (a := x) (b := 0) h.1 (by omega) (by omega)
  rw [z0I] at z
  rw [this] at z
  exact z
theorem wQ_I {k : Nat} (hk : k < 4) (h2 : k ≠ 2) : (if nI k = 1 then (1 : Int32) else if nI k = nI 3 then -1 else 0) = I (wQ k) := by
  obtain rfl | rfl | rfl | rfl : k = 0 ∨ k = 1 ∨ k = 2 ∨ k = 3 := by omega
  · decide
  · decide
  · exact absurd rfl h2
  · decide
theorem tu_step (R : RdM h u g T E rx ry fk) (hg : gpl g = true) {f e k : Nat} {s : IQ} (hs : bB4 s) (es : s = sdV g (f % g.2.2.1) (e % g.2.2.1) (f / g.2.2.1) (e / g.2.2.1) k) (hk : k < n) (P : TuM h (qtF g T E rx ry f e) n k) : ∃ h', aCall (d + 135) 270 [.ref 78, .long (J (s.1)), .long (J (s.2.1)), .long (J (s.2.2.1)), .long (J (s.2.2.2))] h = some (none, h') ∧ FM IMM TUS h h' ∧ RdM h' u g T E rx ry fk ∧ TuM h' (qtF g T E rx ry f e) n (k + 1) := by
  have xq : qtF g T E rx ry f e k = qtV (imV T E rx ry true s.1 s.2.1 s.2.2.1 s.2.2.2).1 s := by
    unfold qtF qtI
    rw [hg, ← es]
  have qr := qtF_r (g := g) (T := T) (E := E) (rx := rx) (ry := ry) (f := f) (e := e)
  cases k with
  | zero =>
    obtain ⟨p1, p2, p3⟩ := P
    obtain ⟨h', e1, F, R', k1, k2, k3⟩ := rd_way (d := d) R hg hs p1 xq
    refine ⟨h', e1, F, R', ?_⟩
    show match turS (qtF g T E rx ry f e) n 0 with | some s => _ | none => _
    have t0 : turS (qtF g T E rx ry f e) n 0 = if qtF g T E rx ry f e 0 = -1 then none else some 0 := rfl
    rw [t0]
    by_cases z : qtF g T E rx ry f e 0 = -1
    · rw [if_pos z]
      exact k1 z
    · rw [if_neg z]
      obtain ⟨y1, y2, y3, y4⟩ := k2 z (by rw [p2]; decide)
      exact ⟨y1, y2, y3, by rw [y4, p3]; rfl⟩
  | succ k =>
    have P : match turS (qtF g T E rx ry f e) n k with | some s => gi h 78 60 = bi false ∧ gi h 78 57 = I (qtF g T E rx ry f e k) ∧ gi h 78 58 = I (qtF g T E rx ry f e 0) ∧ gi h 78 59 = I s | none => gi h 78 60 = bi true := P
    have t1 : turS (qtF g T E rx ry f e) n (k + 1) = match turS (qtF g T E rx ry f e) n k with | none => none | some s => if (if k + 1 < n then qtF g T E rx ry f e (k + 1) else qtF g T E rx ry f e 0) = -1 ∨ stQ (qtF g T E rx ry f e k) (if k + 1 < n then qtF g T E rx ry f e (k + 1) else qtF g T E rx ry f e 0) = 2 then none else some (s + wQ (stQ (qtF g T E rx ry f e k) (if k + 1 < n then qtF g T E rx ry f e (k + 1) else qtF g T E rx ry f e 0))) := rfl
    rw [if_pos hk] at t1
    cases ht : turS (qtF g T E rx ry f e) n k with
    | none =>
      rw [ht] at P t1
      obtain ⟨h', e1, F, R', k1, k2, k3⟩ := rd_way (d := d) R hg hs (o := true) P xq
      refine ⟨h', e1, F, R', ?_⟩
      show match turS (qtF g T E rx ry f e) n (k + 1) with | some s => _ | none => _
      rw [t1]
      show gi h' 78 60 = bi true
      by_cases z : qtF g T E rx ry f e (k + 1) = -1
      · exact k1 z
      · by_cases L : gi h 78 57 < 0
        · exact (k2 z L).1
        · have := (k3 z L _ rfl).1
          rw [this, Bool.true_or]
    | some s0 =>
      rw [ht] at P t1
      dsimp only at t1
      obtain ⟨p1, p2, p3, p4⟩ := P
      obtain ⟨h', e1, F, R', k1, k2, k3⟩ := rd_way (d := d) R hg hs (o := false) p1 xq
      refine ⟨h', e1, F, R', ?_⟩
      show match turS (qtF g T E rx ry f e) n (k + 1) with | some s => _ | none => _
      rw [t1]
      have qk : 0 ≤ qtF g T E rx ry f e k ∧ qtF g T E rx ry f e k ≤ 3 := by
        have r := qr k
        have : qtF g T E rx ry f e k ≠ -1 := fun z => by
          cases k with
          | zero =>
            have : turS (qtF g T E rx ry f e) n 0 = none := if_pos z
            rw [this] at ht
            cases ht
          | succ k =>
            have t2 : turS (qtF g T E rx ry f e) n (k + 1) = match turS (qtF g T E rx ry f e) n k with | none => none | some s => if (if k + 1 < n then qtF g T E rx ry f e (k + 1) else qtF g T E rx ry f e 0) = -1 ∨ stQ (qtF g T E rx ry f e k) (if k + 1 < n then qtF g T E rx ry f e (k + 1) else qtF g T E rx ry f e 0) = 2 then none else some (s + wQ (stQ (qtF g T E rx ry f e k) (if k + 1 < n then qtF g T E rx ry f e (k + 1) else qtF g T E rx ry f e 0))) := rfl
            rw [if_pos (by omega), z] at t2
            rw [t2] at ht
            cases h9 : turS (qtF g T E rx ry f e) n k with
            | none => rw [h9] at ht; cases ht
            | some v => rw [h9] at ht; simp at ht
        omega
      by_cases z : qtF g T E rx ry f e (k + 1) = -1
      · rw [if_pos (Or.inl z)]
        exact k1 z
      · have L : ¬ gi h 78 57 < 0 := by rw [p2]; exact nlt0 qk
        have xr := qr (k + 1)
        have ea := andQ (a := qtF g T E rx ry f e k) (b := qtF g T E rx ry f e (k + 1)) ⟨qk.1, by omega⟩ ⟨by omega, by omega⟩
        obtain ⟨y1, y2, y3, y4⟩ := k3 z L (nI (stQ (qtF g T E rx ry f e k) (qtF g T E rx ry f e (k + 1)))) (by rw [p2]; exact ea)
        have sl := stQ_lt (qtF g T E rx ry f e k) (qtF g T E rx ry f e (k + 1))
        by_cases c : stQ (qtF g T E rx ry f e k) (qtF g T E rx ry f e (k + 1)) = 2
        · rw [if_pos (Or.inr c)]
          show gi h' 78 60 = bi true
          rw [y1, c]
          rfl
        · rw [if_neg (fun w => w.elim z c)]
          refine ⟨?_, y2, by rw [y3]; exact p3, ?_⟩
          · rw [y1, decide_eq_false (fun w => c ((n_eq (by omega) (by decide)).mp w))]
            rfl
          · rw [y4, wQ_I sl c, p4, I_add]
end MTURN2
