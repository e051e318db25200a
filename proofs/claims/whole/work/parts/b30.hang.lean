/-! WHAT HANGS TOGETHER -/
def con (N : Nat) (R : Rl) (c o : Nat) : Prop := ∀ S : Nat → Prop, S c → (∀ x y, x < N → y < N → S x → R x y = true → S y) → S o
def meB (n : Nat) (cor : Bool) (c o : Nat) : Bool := if cor then decide (c % n ≤ o % n + 1 ∧ o % n ≤ c % n + 1 ∧ c / n ≤ o / n + 1 ∧ o / n ≤ c / n + 1) else decide ((c % n = o % n ∧ (c / n = o / n + 1 ∨ o / n = c / n + 1)) ∨ (c / n = o / n ∧ (c % n = o % n + 1 ∨ o % n = c % n + 1)))
def reB (n : Nat) (cor : Bool) (a : St) : Rl := fun c o => a c && (a o && meB n cor c o)
def rimB (n m c : Nat) : Bool := decide (c % n = 0 ∨ c / n = 0 ∨ c % n + 1 = n ∨ c / n + 1 = m)
def ldH (n m : Nat) (cor : Bool) (a : St) (c : Nat) : Prop := a c = true ∧ (∀ o, o < c → ¬ con (n * m) (reB n cor a) o c) ∧ (cor = true ∨ ∀ o, o < n * m → con (n * m) (reB n cor a) c o → rimB n m o = false)
noncomputable def lhB (n m : Nat) (cor : Bool) (a : St) : St := fun c => @decide (ldH n m cor a c) (Classical.propDecidable _)
section HANG
variable {N n m a b c x y o : Nat} {R R' : Rl} {A A' : St} {cor : Bool}
theorem con.rf : con N R c c := fun _ h _ => h
theorem con.st (h : con N R c x) (hx : x < N) (hy : y < N) (r : R x y = true) : con N R c y := fun S hc hs => hs x y hx hy (h S hc hs) r
theorem con.trans (h : con N R a b) (k : con N R b c) : con N R a c := fun S ha hs => k S (h S ha hs) hs
theorem con.symm (sy : ∀ x y, R x y = true → R y x = true) (h : con N R a b) : con N R b a := h (fun x => con N R x a) con.rf (fun x y hx hy k r => (con.rf.st hy hx (sy _ _ r)).trans k)
theorem con.lt (ha : a < N) (h : con N R a b) : b < N := h (fun x => x < N) ha (fun _ _ _ hy _ _ => hy)
theorem con.mono (h : con N R a b) (hr : ∀ x y, x < N → y < N → R x y = true → R' x y = true) : con N R' a b := h (fun x => con N R' a x) con.rf (fun x y hx hy k r => k.st hx hy (hr x y hx hy r))
theorem meB_symm (h : meB n cor c o = true) : meB n cor o c = true := by
  unfold meB at h ⊢
  cases cor
  · simp only [Bool.false_eq_true, if_false, decide_eq_true_eq] at h ⊢
    omega
  · simp only [if_true, decide_eq_true_eq] at h ⊢
    omega
theorem reB_iff : reB n cor A c o = true ↔ A c = true ∧ A o = true ∧ meB n cor c o = true := by
  unfold reB
  rw [Bool.and_eq_true, Bool.and_eq_true]
theorem reB_symm (x y : Nat) (h : reB n cor A x y = true) : reB n cor A y x = true := by
  rw [reB_iff] at h ⊢
  exact ⟨h.2.1, h.1, meB_symm h.2.2⟩
/-- all that hangs on a cell of a set is of the set, or the cell itself -/
theorem con.inA (h : con N (reB n cor A) c o) : o = c ∨ (A c = true ∧ A o = true) := h (fun x => x = c ∨ (A c = true ∧ A x = true)) (Or.inl rfl) (fun x y _ _ k r => by
  rw [reB_iff] at r
  rcases k with k | k
  · exact Or.inr ⟨by rw [← k]; exact r.1, r.2.1⟩
  · exact Or.inr ⟨k.1, r.2.1⟩)
theorem lhB_t : lhB n m cor A c = true ↔ ldH n m cor A c := by
  unfold lhB
  exact @decide_eq_true_iff _ (Classical.propDecidable _)
theorem lhB_of {b : Bool} (h : b = true ↔ ldH n m cor A c) : lhB n m cor A c = b := by
  apply Bool.eq_iff_iff.mpr
  rw [lhB_t]
  exact h.symm
/-- what is left of a set when all that hangs on cells below c has gone -/
def lfH (n m : Nat) (cor : Bool) (A : St) (c o : Nat) : Prop := A o = true ∧ o < n * m ∧ ∀ l, l < c → ¬ con (n * m) (reB n cor A) l o
noncomputable def lfB (n m : Nat) (cor : Bool) (A : St) (c : Nat) : St := fun o => @decide (lfH n m cor A c o) (Classical.propDecidable _)
theorem lfB_t : lfB n m cor A c o = true ↔ lfH n m cor A c o := by
  unfold lfB
  exact @decide_eq_true_iff _ (Classical.propDecidable _)
/-- hanging together in what is left, and in all, is the same for a cell that is left -/
theorem con_left (hc : lfH n m cor A c c) {o : Nat} : con (n * m) (reB n cor (lfB n m cor A c)) c o ↔ con (n * m) (reB n cor A) c o := by
  constructor
  · intro h
    refine h.mono (fun x y _ _ r => ?_)
    rw [reB_iff] at r ⊢
    exact ⟨(lfB_t.mp r.1).1, (lfB_t.mp r.2.1).1, r.2.2⟩
  · intro h
    have key : ∀ z, z < n * m → con (n * m) (reB n cor A) c z → lfH n m cor A c z := fun z hz k => by
      rcases k.inA with k1 | k1
      · rw [k1]; exact hc
      · exact ⟨k1.2, hz, fun l hl q => hc.2.2 l hl (q.trans (k.symm reB_symm))⟩
    refine (h (fun x => con (n * m) (reB n cor A) c x ∧ con (n * m) (reB n cor (lfB n m cor A c)) c x) ⟨con.rf, con.rf⟩ (fun x y hx hy k r => ?_)).2
    have k2 := k.1.st hx hy r
    refine ⟨k2, k.2.st hx hy ?_⟩
    rw [reB_iff] at r ⊢
    exact ⟨lfB_t.mpr (key x hx k.1), lfB_t.mpr (key y hy k2), r.2.2⟩
theorem lf_0 : lfH n m cor A 0 o ↔ A o = true ∧ o < n * m := ⟨fun h => ⟨h.1, h.2.1⟩, fun h => ⟨h.1, h.2, fun l hl => absurd hl (Nat.not_lt_zero _)⟩⟩
theorem lf_s : lfH n m cor A (c + 1) o ↔ lfH n m cor A c o ∧ ¬ con (n * m) (reB n cor A) c o := by
  constructor
  · intro h
    exact ⟨⟨h.1, h.2.1, fun l hl => h.2.2 l (by omega)⟩, h.2.2 c (by omega)⟩
  · rintro ⟨h1, h2⟩
    refine ⟨h1.1, h1.2.1, fun l hl => ?_⟩
    by_cases e : l = c
    · rw [e]; exact h2
    · exact h1.2.2 l (by omega)
/-- a cell that is gone already takes nothing more with it -/
theorem lf_gone (hc : c < n * m) (h : ¬ lfH n m cor A c c) (k : lfH n m cor A c o) : ¬ con (n * m) (reB n cor A) c o := by
  intro q
  rcases q.inA with q1 | q1
  · rw [q1] at k; exact h k
  · refine h ⟨q1.1, hc, fun l hl z => k.2.2 l hl (z.trans q)⟩
theorem ld_left (hc : c < n * m) : ldH n m cor A c ↔ lfH n m cor A c c ∧ (cor = true ∨ ∀ o, o < n * m → con (n * m) (reB n cor A) c o → rimB n m o = false) := ⟨fun h => ⟨⟨h.1, hc, h.2.1⟩, h.2.2⟩, fun h => ⟨h.1.1, h.1.2.2, h.2⟩⟩
end HANG
