/-! CALL turning: the model, the end -/
section MTURN3
variable {d u fk n : Nat} {h h1 : AH} {g : GT} {T : NT} {E : LE} {rx ry : Nat}
theorem cell_of {x b : Nat} (hx : x < g.2.2.1) (hb : b < g.2.2.2.2.2.1) : g.2.2.1 * b + x < nC g ∧ lfC g (g.2.2.1 * b + x) = colX g x ∧ rgC g (g.2.2.1 * b + x) = colX g (x + 1) ∧ loC g (g.2.2.1 * b + x) = linY g b ∧ hiC g (g.2.2.1 * b + x) = linY g (b + 1) := by
  have e1 : (g.2.2.1 * b + x) % g.2.2.1 = x := by rw [Nat.mul_add_mod, Nat.mod_eq_of_lt hx]
  have e2 : (g.2.2.1 * b + x) / g.2.2.1 = b := by rw [Nat.mul_add_div (by omega), Nat.div_eq_of_lt hx, Nat.add_zero]
  have e3 : g.2.2.1 * (b + 1) ≤ g.2.2.1 * g.2.2.2.2.2.1 := Nat.mul_le_mul_left _ hb
  rw [Nat.mul_add, Nat.mul_one] at e3
  refine ⟨by unfold nC; omega, ?_, ?_, ?_, ?_⟩
  · unfold lfC colX; rw [e1]
  · unfold rgC colX; rw [e1, Int.natCast_add, Int.add_mul, Int.add_assoc]; simp
  · unfold loC linY; rw [e2]
  · unfold hiC linY; rw [e2, Int.natCast_add, Int.add_mul, Int.add_assoc]; simp
theorem RdM.sides (R : RdM h u g T E rx ry fk) {x b : Nat} (hx : x < g.2.2.1) (hb : b < g.2.2.2.2.2.1) : aCall (d + 2) 232 [.ref 78, .int (nI (g.2.2.1 * b + x))] h = some (some (.long (J (colX g x))), h) ∧ aCall (d + 2) 233 [.ref 78, .int (nI (g.2.2.1 * b + x))] h = some (some (.long (J (colX g (x + 1)))), h) ∧ aCall (d + 2) 234 [.ref 78, .int (nI (g.2.2.1 * b + x))] h = some (some (.long (J (linY g b))), h) ∧ aCall (d + 2) 235 [.ref 78, .int (nI (g.2.2.1 * b + x))] h = some (some (.long (J (linY g (b + 1)))), h) := by
  have hN := R.N
  obtain ⟨c1, c2, c3, c4, c5⟩ := cell_of hx hb
  have p1 := m_left (d := d + 1) R.1 R.G R.B (c := g.2.2.1 * b + x) (by omega)
  have p2 := m_right (d := d) R.1 R.G R.B (c := g.2.2.1 * b + x) (by omega)
  have p3 := m_low (d := d + 1) R.1 R.G R.B c1
  have p4 := m_high (d := d) R.1 R.G R.B c1
  exact ⟨p1.trans (by rw [← c2]; rfl), p2.trans (by rw [← c3]; rfl), p3.trans (by rw [← c4]; rfl), p4.trans (by rw [← c5]; rfl)⟩
noncomputable def tm1 (d f e l r b t x : Nat) (h : AH) : Option OU := aAt (d + 135) 272 116 [some (.ref 78), some (.int (nI f)), some (.int (nI e)), some (.int (nI l)), some (.int (nI r)), some (.int (nI b)), some (.int (nI t)), some (.int (nI x)), none] [] h
noncomputable def tm2 (d f e l r b t x : Nat) (h : AH) : Option OU := aAt (d + 135) 272 173 [some (.ref 78), some (.int (nI f)), some (.int (nI e)), some (.int (nI l)), some (.int (nI r)), some (.int (nI b)), some (.int (nI t)), some (.int (nI x)), none] [] h
noncomputable def tm3 (d f e l r b t : Nat) (x : Int) (h : AH) : Option OU := aAt (d + 135) 272 230 [some (.ref 78), some (.int (nI f)), some (.int (nI e)), some (.int (nI l)), some (.int (nI r)), some (.int (nI b)), some (.int (nI t)), some (.int (I x)), none] [] h
noncomputable def tm4 (d f e l r b t : Nat) (x : Int) (h : AH) : Option OU := aAt (d + 135) 272 286 [some (.ref 78), some (.int (nI f)), some (.int (nI e)), some (.int (nI l)), some (.int (nI r)), some (.int (nI b)), some (.int (nI t)), some (.int (I x)), none] [] h
def TuP (h0 h : AH) (u : Nat) (g : GT) (T : NT) (E : LE) (rx ry fk : Nat) (f e n k : Nat) : Prop := FM IMM TUS h0 h ∧ RdM h u g T E rx ry fk ∧ TuM h (qtF g T E rx ry f e) n k
theorem TuP.step {h0 : AH} {f e k : Nat} (P : TuP h0 h u g T E rx ry fk f e n k) (hg : gpl g = true) {s : IQ} (hs : bB4 s) (es : s = sdV g (f % g.2.2.1) (e % g.2.2.1) (f / g.2.2.1) (e / g.2.2.1) k) (hk : k < n) : ∃ h', aCall (d + 135) 270 [.ref 78, .long (J (s.1)), .long (J (s.2.1)), .long (J (s.2.2.1)), .long (J (s.2.2.2))] h = some (none, h') ∧ TuP h0 h' u g T E rx ry fk f e n (k + 1) := by
  obtain ⟨h', e1, F, R', P'⟩ := tu_step (d := d) P.2.1 hg hs es hk P.2.2
  exact ⟨h', e1, P.1.trans F, R', P'⟩
end MTURN3
