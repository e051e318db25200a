/-! READING A TEXT: the plain descent (place, nodes made, table) -/
abbrev PS : Type := Nat × Nat × NT
abbrev PR : Type := Option (Option Nat × PS)
def isDg (c : Nat) : Bool := decide (48 ≤ c) && decide (c ≤ 57)
def isD1 (c : Nat) : Bool := decide (49 ≤ c) && decide (c ≤ 57)
def letN (c : Nat) : Nat := if c = 120 then 0 else if c = 121 then 1 else if c = 97 then 2 else if c = 110 then 3 else if c = 117 then 4 else if c = 100 then 5 else 6
theorem isDg_t {c : Nat} : isDg c = true ↔ 48 ≤ c ∧ c ≤ 57 := by unfold isDg; rw [Bool.and_eq_true, decide_eq_true_iff, decide_eq_true_iff]
theorem isD1_t {c : Nat} : isD1 c = true ↔ 49 ≤ c ∧ c ≤ 57 := by unfold isD1; rw [Bool.and_eq_true, decide_eq_true_iff, decide_eq_true_iff]
theorem letN_lt {c : Nat} (h : letN c < 6) : c < 256 := by
  unfold letN at h
  repeat' split at h
  all_goals omega
def dgs (sx : Nat → Nat) : Nat → Nat → Nat → Nat × Nat
  | 0, p, v => (v, p)
  | n + 1, p, v => if isDg (sx p) = true then dgs sx n (p + 1) (10 * v + (sx p - 48)) else (v, p)
def ndP (b : Nat) (q : Nat × Nat × Nat × Nat × Nat) (s : PS) : PS := (s.1, s.2.1 + 1, fun k => if k = b + s.2.1 then q else s.2.2 k)
def bnd (o : PR) (k : Nat → PS → PR) : PR := match o with
  | none => none
  | some (none, s) => some (none, s)
  | some (some a, s) => k a s
def thF (sx : Nat → Nat) (b : Nat) (R : Nat → Nat → PS → PR) (s : PS) : PR :=
  if isDg (sx s.1) = true then some (some (b + s.2.1), ndP b (0, (dgs sx 4 s.1 0).1 * 1024, 0, 0, 0) ((dgs sx 4 s.1 0).2, s.2))
  else if letN (sx s.1) < 6 then some (some (b + s.2.1), ndP b (1, letN (sx s.1), 0, 0, 0) (s.1 + 1, s.2))
  else if sx s.1 = 45 ∨ sx s.1 = 65 then bnd (R 0 0 (s.1 + 1, s.2)) fun a s' => some (some (b + s'.2.1), ndP b (if sx s.1 = 45 then 2 else 3, a, 0, 0, 0) s')
  else if sx s.1 = 40 then bnd (R 3 0 (s.1 + 1, s.2)) fun a s' => if sx s'.1 = 41 then some (some a, (s'.1 + 1, s'.2)) else some (none, s')
  else some (none, s)
def prF (R : Nat → Nat → PS → PR) (s : PS) : PR := bnd (R 0 0 s) fun a s' => R 4 a s'
def plF (sx : Nat → Nat) (b : Nat) (R : Nat → Nat → PS → PR) (a : Nat) (s : PS) : PR :=
  if sx s.1 = 42 then bnd (R 0 0 (s.1 + 1, s.2)) fun x s' => R 4 (b + s'.2.1) (ndP b (6, a, x, 0, 0) s')
  else if sx s.1 = 47 then (if isD1 (sx (s.1 + 1)) = true then R 4 (b + s.2.1) (ndP b (7, a, (dgs sx 3 (s.1 + 1) 0).1, 0, 0) ((dgs sx 3 (s.1 + 1) 0).2, s.2)) else some (none, (s.1 + 1, s.2)))
  else some (some a, s)
def suF (R : Nat → Nat → PS → PR) (s : PS) : PR := bnd (R 1 0 s) fun a s' => R 5 a s'
def slF (sx : Nat → Nat) (b : Nat) (R : Nat → Nat → PS → PR) (a : Nat) (s : PS) : PR :=
  if sx s.1 = 43 ∨ sx s.1 = 45 then bnd (R 1 0 (s.1 + 1, s.2)) fun x s' => R 5 (b + s'.2.1) (ndP b (if sx s.1 = 43 then 4 else 5, a, x, 0, 0) s')
  else some (some a, s)
def foF (sx : Nat → Nat) (b : Nat) (R : Nat → Nat → PS → PR) (s : PS) : PR :=
  bnd (R 2 0 s) fun a s1 => if sx s1.1 = 60 then bnd (R 2 0 (s1.1 + 1, s1.2)) fun x s2 => if sx s2.1 = 63 then bnd (R 3 0 (s2.1 + 1, s2.2)) fun y s3 => if sx s3.1 = 58 then bnd (R 3 0 (s3.1 + 1, s3.2)) fun z s4 => some (some (b + s4.2.1), ndP b (8, a, x, y, z) s4) else some (none, s3) else some (none, s2) else some (some a, s1)
def pars (sx : Nat → Nat) (b : Nat) : Nat → Nat → Nat → PS → PR
  | 0, _, _, _ => none
  | f + 1, md, a, s => if md = 0 then thF sx b (pars sx b f) s else if md = 1 then prF (pars sx b f) s else if md = 2 then suF (pars sx b f) s else if md = 3 then foF sx b (pars sx b f) s else if md = 4 then plF sx b (pars sx b f) a s else slF sx b (pars sx b f) a s
section PARS
variable {sx : Nat → Nat} {b e : Nat}
theorem dgs_le : ∀ (n p v : Nat), p ≤ (dgs sx n p v).2
  | 0, _, _ => Nat.le_refl _
  | n + 1, p, v => by
    unfold dgs
    split
    · exact Nat.le_trans (Nat.le_succ p) (dgs_le n (p + 1) _)
    · exact Nat.le_refl _
theorem dgs_lt {n p v : Nat} (h : isDg (sx p) = true) : p < (dgs sx (n + 1) p v).2 := by
  unfold dgs
  rw [if_pos h]
  exact dgs_le n (p + 1) _
theorem dgs_v : ∀ (n p v : Nat), v ≤ (dgs sx n p v).1 ∧ (dgs sx n p v).1 < (v + 1) * 10 ^ n
  | 0, _, v => ⟨Nat.le_refl _, by show v < (v + 1) * 10 ^ 0; omega⟩
  | n + 1, p, v => by
    unfold dgs
    split
    · rename_i h
      have h := isDg_t.mp h
      have := dgs_v n (p + 1) (10 * v + (sx p - 48))
      refine ⟨by omega, Nat.lt_of_lt_of_le this.2 ?_⟩
      rw [Nat.pow_succ, Nat.mul_comm (10 ^ n) 10, ← Nat.mul_assoc]
      exact Nat.mul_le_mul_right _ (by omega)
    · refine ⟨Nat.le_refl _, ?_⟩
      have := Nat.mul_le_mul_left (v + 1) (Nat.le_trans Nat.one_le_two_pow (Nat.pow_le_pow_left (show 2 ≤ 10 by decide) (n + 1)))
      omega
theorem dgs_1 {n p : Nat} (h : isD1 (sx p) = true) : 1 ≤ (dgs sx (n + 1) p 0).1 := by
  have h1 := isD1_t.mp h
  have h2 := (dgs_v (sx := sx) n (p + 1) (10 * 0 + (sx p - 48))).1
  unfold dgs
  rw [if_pos (isDg_t.mpr (by omega))]
  omega
theorem dgs_e (hx : ∀ i, e ≤ i → sx i = 256) : ∀ (n p v : Nat), p ≤ e → (dgs sx n p v).2 ≤ e
  | 0, _, _, h => h
  | n + 1, p, v, h => by
    unfold dgs
    split
    · rename_i hd
      have hd := isDg_t.mp hd
      refine dgs_e hx n (p + 1) _ ?_
      by_cases q : e ≤ p
      · have := hx p q; omega
      · omega
    · exact h
theorem bnd_some {o : PR} {k : Nat → PS → PR} {r : Option Nat} {s' : PS} (h : bnd o k = some (r, s')) : (o = some (none, s') ∧ r = none) ∨ ∃ a s1, o = some (some a, s1) ∧ k a s1 = some (r, s') := by
  unfold bnd at h
  split at h
  · cases h
  · cases h; exact Or.inl ⟨rfl, rfl⟩
  · exact Or.inr ⟨_, _, rfl, h⟩
theorem bnd_ne {o : PR} {k : Nat → PS → PR} (h : o ≠ none) (hk : ∀ a s1, o = some (some a, s1) → k a s1 ≠ none) : bnd o k ≠ none := by
  unfold bnd
  split
  · exact absurd rfl h
  · simp
  · exact hk _ _ rfl
theorem pars_0 {f a : Nat} {s : PS} : pars sx b (f + 1) 0 a s = thF sx b (pars sx b f) s := rfl
theorem pars_1 {f a : Nat} {s : PS} : pars sx b (f + 1) 1 a s = prF (pars sx b f) s := rfl
theorem pars_2 {f a : Nat} {s : PS} : pars sx b (f + 1) 2 a s = suF (pars sx b f) s := rfl
theorem pars_3 {f a : Nat} {s : PS} : pars sx b (f + 1) 3 a s = foF sx b (pars sx b f) s := rfl
theorem pars_4 {f a : Nat} {s : PS} : pars sx b (f + 1) 4 a s = plF sx b (pars sx b f) a s := rfl
theorem pars_5 {f a : Nat} {s : PS} : pars sx b (f + 1) 5 a s = slF sx b (pars sx b f) a s := rfl
/-- from state to state: on in place and nodes, no more nodes than signs, nothing below changed -/
def gRp (b e : Nat) (s s' : PS) : Prop := s.1 ≤ s'.1 ∧ s.2.1 ≤ s'.2.1 ∧ s'.2.1 + s.1 ≤ s'.1 + s.2.1 ∧ (s.1 ≤ e → s'.1 ≤ e) ∧ ∀ j, j < b + s.2.1 → s'.2.2 j = s.2.2 j
theorem gRp.rf {s : PS} : gRp b e s s := ⟨Nat.le_refl _, Nat.le_refl _, by omega, id, fun _ _ => rfl⟩
theorem gRp.trans {s s1 s2 : PS} (h : gRp b e s s1) (k : gRp b e s1 s2) : gRp b e s s2 := by
  obtain ⟨h1, h2, h3, h4, h5⟩ := h
  obtain ⟨k1, k2, k3, k4, k5⟩ := k
  exact ⟨by omega, by omega, by omega, fun z => k4 (h4 z), fun j hj => (k5 j (by omega)).trans (h5 j hj)⟩
/-- a step over one sign, then on, then a node: still no more nodes than signs -/
theorem gRp.nd {s s1 : PS} {q : Nat × Nat × Nat × Nat × Nat} (hp : s.1 < e ∨ e < s.1) (h : gRp b e (s.1 + 1, s.2) s1) : gRp b e s (ndP b q s1) := by
  obtain ⟨h1, h2, h3, h4, h5⟩ := h
  dsimp only at h1 h2 h3 h4 h5
  refine ⟨?_, ?_, ?_, fun z => ?_, fun j hj => ?_⟩
  · show s.1 ≤ s1.1; omega
  · show s.2.1 ≤ s1.2.1 + 1; omega
  · show s1.2.1 + 1 + s.1 ≤ s1.1 + s.2.1; omega
  · show s1.1 ≤ e; exact h4 (by omega)
  · show (if j = b + s1.2.1 then q else s1.2.2 j) = s.2.2 j
    rw [if_neg (by omega)]
    exact h5 j hj
theorem gRp.sg {s s1 : PS} (hp : s.1 < e ∨ e < s.1) (h : gRp b e (s.1 + 1, s.2) s1) : gRp b e s s1 := by
  obtain ⟨h1, h2, h3, h4, h5⟩ := h
  dsimp only at h1 h2 h3 h4 h5
  exact ⟨by omega, h2, by omega, fun z => h4 (by omega), h5⟩
theorem gRp.st {s : PS} (hp : s.1 < e ∨ e < s.1) : gRp b e s (s.1 + 1, s.2) := gRp.sg hp gRp.rf
theorem gRp.dg {s : PS} {p : Nat} (h1 : s.1 < p) (h2 : s.1 ≤ e → p ≤ e) {q : Nat × Nat × Nat × Nat × Nat} : gRp b e s (ndP b q (p, s.2)) := by
  refine ⟨Nat.le_of_lt h1, Nat.le_succ _, ?_, h2, fun j hj => ?_⟩
  · show s.2.1 + 1 + s.1 ≤ p + s.2.1; omega
  · show (if j = b + s.2.1 then q else s.2.2 j) = s.2.2 j
    rw [if_neg (by omega)]
theorem sx_lt (hx : ∀ i, e ≤ i → sx i = 256) {p : Nat} (h : sx p ≠ 256) : p < e := by
  by_cases q : e ≤ p
  · exact absurd (hx p q) h
  · omega
def kR (b md a : Nat) (s s' : PS) (k : Nat) : Prop := (md < 4 → s.2.1 < s'.2.1 ∧ k + 1 = b + s'.2.1) ∧ (4 ≤ md → a + 1 = b + s.2.1 → k + 1 = b + s'.2.1)
theorem pars_g (hx : ∀ i, e ≤ i → sx i = 256) : ∀ (f md a : Nat) (s : PS) (r : Option Nat) (s' : PS), pars sx b f md a s = some (r, s') → gRp b e s s' ∧ ∀ k, r = some k → kR b md a s s' k := by
  intro f
  induction f with
  | zero => intro md a s r s' h; cases h
  | succ f ih =>
    intro md a s r s' h
    have hlt : ∀ {p : Nat}, sx p ≠ 256 → (p < e ∨ e < p) := fun q => Or.inl (sx_lt hx q)
    rw [pars] at h
    by_cases m0 : md = 0
    · subst m0
      rw [if_pos rfl] at h
      unfold thF at h
      split at h
      · rename_i c
        cases h
        have c' := isDg_t.mp c
        refine ⟨gRp.dg (dgs_lt c) (fun z => dgs_e hx 4 _ _ z), fun k hk => ?_⟩
        cases hk
        exact ⟨fun _ => ⟨Nat.lt_succ_self _, rfl⟩, fun z => absurd z (by decide)⟩
      split at h
      · rename_i c
        cases h
        have c' := letN_lt c
        refine ⟨gRp.nd (hlt (by omega)) gRp.rf, fun k hk => ?_⟩
        cases hk
        exact ⟨fun _ => ⟨Nat.lt_succ_self _, rfl⟩, fun z => absurd z (by decide)⟩
      split at h
      · rename_i c
        rcases bnd_some h with ⟨h1, rfl⟩ | ⟨x, s1, h1, h2⟩
        · exact ⟨(ih _ _ _ _ _ h1).1.sg (hlt (by omega)), fun k hk => nomatch hk⟩
        · cases h2
          obtain ⟨g1, g2⟩ := ih _ _ _ _ _ h1
          refine ⟨g1.nd (hlt (by omega)), fun k hk => ?_⟩
          cases hk
          have := g1.2.1
          exact ⟨fun _ => ⟨Nat.lt_succ_of_le this, rfl⟩, fun z => absurd z (by decide)⟩
      split at h
      · rename_i c
        rcases bnd_some h with ⟨h1, rfl⟩ | ⟨x, s1, h1, h2⟩
        · exact ⟨(ih _ _ _ _ _ h1).1.sg (hlt (by omega)), fun k hk => nomatch hk⟩
        · obtain ⟨g1, g2⟩ := ih _ _ _ _ _ h1
          split at h2
          · rename_i c2
            cases h2
            refine ⟨(g1.sg (hlt (by omega))).trans (gRp.st (hlt (by omega))), fun k hk => ?_⟩
            cases hk
            have := (g2 _ rfl).1 (by decide)
            exact ⟨fun _ => this, fun z => absurd z (by decide)⟩
          · cases h2
            exact ⟨g1.sg (hlt (by omega)), fun k hk => nomatch hk⟩
      · cases h
        exact ⟨gRp.rf, fun k hk => nomatch hk⟩
    rw [if_neg m0] at h
    by_cases m1 : md = 1
    · subst m1
      rw [if_pos rfl] at h
      unfold prF at h
      rcases bnd_some h with ⟨h1, rfl⟩ | ⟨x, s1, h1, h2⟩
      · exact ⟨(ih _ _ _ _ _ h1).1, fun k hk => nomatch hk⟩
      · obtain ⟨g1, g2⟩ := ih _ _ _ _ _ h1
        obtain ⟨g3, g4⟩ := ih _ _ _ _ _ h2
        refine ⟨g1.trans g3, fun k hk => ⟨fun _ => ?_, fun z => absurd z (by decide)⟩⟩
        have q1 := (g2 _ rfl).1 (by decide)
        have q2 := (g4 _ hk).2 (by decide) q1.2
        have := g3.2.1
        exact ⟨by omega, q2⟩
    rw [if_neg m1] at h
    by_cases m2 : md = 2
    · subst m2
      rw [if_pos rfl] at h
      unfold suF at h
      rcases bnd_some h with ⟨h1, rfl⟩ | ⟨x, s1, h1, h2⟩
      · exact ⟨(ih _ _ _ _ _ h1).1, fun k hk => nomatch hk⟩
      · obtain ⟨g1, g2⟩ := ih _ _ _ _ _ h1
        obtain ⟨g3, g4⟩ := ih _ _ _ _ _ h2
        refine ⟨g1.trans g3, fun k hk => ⟨fun _ => ?_, fun z => absurd z (by decide)⟩⟩
        have q1 := (g2 _ rfl).1 (by decide)
        have q2 := (g4 _ hk).2 (by decide) q1.2
        have := g3.2.1
        exact ⟨by omega, q2⟩
    rw [if_neg m2] at h
    by_cases m3 : md = 3
    · subst m3
      rw [if_pos rfl] at h
      unfold foF at h
      rcases bnd_some h with ⟨h1, rfl⟩ | ⟨x, s1, h1, h2⟩
      · exact ⟨(ih _ _ _ _ _ h1).1, fun k hk => nomatch hk⟩
      obtain ⟨g1, k1⟩ := ih _ _ _ _ _ h1
      have k1 := (k1 _ rfl).1 (by decide)
      split at h2
      · rename_i c1
        rcases bnd_some h2 with ⟨h3, rfl⟩ | ⟨y, s2, h3, h4⟩
        · exact ⟨g1.trans ((ih _ _ _ _ _ h3).1.sg (hlt (by omega))), fun k hk => nomatch hk⟩
        have g2 := g1.trans ((ih _ _ _ _ _ h3).1.sg (hlt (by omega)))
        split at h4
        · rename_i c2
          rcases bnd_some h4 with ⟨h5, rfl⟩ | ⟨z, s3, h5, h6⟩
          · exact ⟨g2.trans ((ih _ _ _ _ _ h5).1.sg (hlt (by omega))), fun k hk => nomatch hk⟩
          have g3 := g2.trans ((ih _ _ _ _ _ h5).1.sg (hlt (by omega)))
          split at h6
          · rename_i c3
            rcases bnd_some h6 with ⟨h7, rfl⟩ | ⟨w, s4, h7, h8⟩
            · exact ⟨g3.trans ((ih _ _ _ _ _ h7).1.sg (hlt (by omega))), fun k hk => nomatch hk⟩
            cases h8
            have g4 := (ih _ _ _ _ _ h7).1
            refine ⟨g3.trans (g4.nd (hlt (by omega))), fun k hk => ?_⟩
            cases hk
            have q1 := g3.2.1
            have q2 := g4.2.1
            exact ⟨fun _ => ⟨Nat.lt_succ_of_le (Nat.le_trans q1 q2), rfl⟩, fun z => absurd z (by decide)⟩
          · cases h6
            exact ⟨g3, fun k hk => nomatch hk⟩
        · cases h4
          exact ⟨g2, fun k hk => nomatch hk⟩
      · cases h2
        exact ⟨g1, fun k hk => by cases hk; exact ⟨fun _ => k1, fun z => absurd z (by decide)⟩⟩
    rw [if_neg m3] at h
    by_cases m4 : md = 4
    · subst m4
      rw [if_pos rfl] at h
      unfold plF at h
      split at h
      · rename_i c
        rcases bnd_some h with ⟨h1, rfl⟩ | ⟨x, s1, h1, h2⟩
        · exact ⟨(ih _ _ _ _ _ h1).1.sg (hlt (by omega)), fun k hk => nomatch hk⟩
        · obtain ⟨g1, g2⟩ := ih _ _ _ _ _ h1
          obtain ⟨g3, g4⟩ := ih _ _ _ _ _ h2
          exact ⟨(g1.nd (hlt (by omega))).trans g3, fun k hk => ⟨fun z => absurd z (by decide), fun _ _ => (g4 _ hk).2 (by decide) rfl⟩⟩
      split at h
      · rename_i c
        split at h
        · rename_i c2
          have c3 := isD1_t.mp c2
          obtain ⟨g3, g4⟩ := ih _ _ _ _ _ h
          have l1 := dgs_le (sx := sx) 3 (s.1 + 1) 0
          refine ⟨(gRp.dg (by omega) (fun z => dgs_e hx 3 _ _ ?_)).trans g3, fun k hk => ⟨fun z => absurd z (by decide), fun _ _ => (g4 _ hk).2 (by decide) rfl⟩⟩
          have := sx_lt hx (p := s.1) (by omega)
          omega
        · cases h
          exact ⟨gRp.st (hlt (by omega)), fun k hk => nomatch hk⟩
      · cases h
        exact ⟨gRp.rf, fun k hk => by cases hk; exact ⟨fun z => absurd z (by decide), fun _ z => z⟩⟩
    rw [if_neg m4] at h
    unfold slF at h
    split at h
    · rename_i c
      rcases bnd_some h with ⟨h1, rfl⟩ | ⟨x, s1, h1, h2⟩
      · exact ⟨(ih _ _ _ _ _ h1).1.sg (hlt (by omega)), fun k hk => nomatch hk⟩
      · obtain ⟨g1, g2⟩ := ih _ _ _ _ _ h1
        obtain ⟨g3, g4⟩ := ih _ _ _ _ _ h2
        exact ⟨(g1.nd (hlt (by omega))).trans g3, fun k hk => ⟨fun z => absurd z (by omega), fun _ _ => (g4 _ hk).2 (by decide) rfl⟩⟩
    · cases h
      exact ⟨gRp.rf, fun k hk => by cases hk; exact ⟨fun z => absurd z (by omega), fun _ z => z⟩⟩
/-- it comes to an end -/
def muP (md : Nat) : Nat := if md = 1 then 2 else if md = 2 then 3 else if md = 3 then 4 else 1
theorem pars_ne (hx : ∀ i, e ≤ i → sx i = 256) : ∀ (f md a : Nat) (s : PS), s.1 ≤ e → 4 * (e - s.1) + muP md ≤ f → pars sx b f md a s ≠ none := by
  intro f
  induction f with
  | zero =>
    intro md a s h1 h2
    unfold muP at h2
    repeat' split at h2
    all_goals omega
  | succ f ih =>
    intro md a s h1 h2
    have hlt : ∀ {p : Nat}, sx p ≠ 256 → p < e := fun q => sx_lt hx q
    have on : ∀ (md a : Nat) (s1 s2 : PS) (k : Nat), md < 4 → s1.1 ≤ e → pars sx b f md a s1 = some (some k, s2) → s1.1 < s2.1 ∧ s2.1 ≤ e := fun md a s1 s2 k hm hs q => by
      obtain ⟨g, g2⟩ := pars_g hx _ _ _ _ _ _ q
      have := (g2 _ rfl).1 hm
      obtain ⟨g3, g4, g5, g6, -⟩ := g
      exact ⟨by omega, g6 hs⟩
    rw [pars]
    by_cases m0 : md = 0
    · subst m0
      rw [if_pos rfl]
      have h2 : 4 * (e - s.1) + 1 ≤ f + 1 := h2
      unfold thF
      split
      · simp
      split
      · simp
      split
      · rename_i c
        have := hlt (p := s.1) (by omega)
        exact bnd_ne (ih _ _ _ (by show s.1 + 1 ≤ e; omega) (by show 4 * (e - (s.1 + 1)) + 1 ≤ f; omega)) (fun _ _ _ => by simp)
      split
      · rename_i c
        have := hlt (p := s.1) (by omega)
        exact bnd_ne (ih _ _ _ (by show s.1 + 1 ≤ e; omega) (by show 4 * (e - (s.1 + 1)) + 4 ≤ f; omega)) (fun _ _ _ => by split <;> simp)
      · simp
    rw [if_neg m0]
    by_cases m1 : md = 1
    · subst m1
      rw [if_pos rfl]
      have h2 : 4 * (e - s.1) + 2 ≤ f + 1 := h2
      unfold prF
      refine bnd_ne (ih _ _ _ h1 (by show 4 * (e - s.1) + 1 ≤ f; omega)) (fun x s1 q => ?_)
      obtain ⟨l1, l2⟩ := on _ _ _ _ _ (by decide) h1 q
      exact ih _ _ _ l2 (by show 4 * (e - s1.1) + 1 ≤ f; omega)
    rw [if_neg m1]
    by_cases m2 : md = 2
    · subst m2
      rw [if_pos rfl]
      have h2 : 4 * (e - s.1) + 3 ≤ f + 1 := h2
      unfold suF
      refine bnd_ne (ih _ _ _ h1 (by show 4 * (e - s.1) + 2 ≤ f; omega)) (fun x s1 q => ?_)
      obtain ⟨l1, l2⟩ := on _ _ _ _ _ (by decide) h1 q
      exact ih _ _ _ l2 (by show 4 * (e - s1.1) + 1 ≤ f; omega)
    rw [if_neg m2]
    by_cases m3 : md = 3
    · subst m3
      rw [if_pos rfl]
      have h2 : 4 * (e - s.1) + 4 ≤ f + 1 := h2
      unfold foF
      refine bnd_ne (ih _ _ _ h1 (by show 4 * (e - s.1) + 3 ≤ f; omega)) (fun x s1 q => ?_)
      obtain ⟨l1, l2⟩ := on _ _ _ _ _ (by decide) h1 q
      split
      · rename_i c1
        have t1 := hlt (p := s1.1) (by omega)
        refine bnd_ne (ih _ _ _ (by show s1.1 + 1 ≤ e; omega) (by show 4 * (e - (s1.1 + 1)) + 3 ≤ f; omega)) (fun x s2 q => ?_)
        obtain ⟨l3, l4⟩ := on _ _ _ _ _ (by decide) (by show s1.1 + 1 ≤ e; omega) q
        have l3 : s1.1 + 1 < s2.1 := l3
        split
        · rename_i c2
          have t2 := hlt (p := s2.1) (by omega)
          refine bnd_ne (ih _ _ _ (by show s2.1 + 1 ≤ e; omega) (by show 4 * (e - (s2.1 + 1)) + 4 ≤ f; omega)) (fun x s3 q => ?_)
          obtain ⟨l5, l6⟩ := on _ _ _ _ _ (by decide) (by show s2.1 + 1 ≤ e; omega) q
          have l5 : s2.1 + 1 < s3.1 := l5
          split
          · rename_i c3
            have t3 := hlt (p := s3.1) (by omega)
            exact bnd_ne (ih _ _ _ (by show s3.1 + 1 ≤ e; omega) (by show 4 * (e - (s3.1 + 1)) + 4 ≤ f; omega)) (fun x s4 q => by simp)
          · simp
        · simp
      · simp
    rw [if_neg m3]
    have h2 : 4 * (e - s.1) + 1 ≤ f + 1 := by
      unfold muP at h2
      rw [if_neg m1, if_neg m2, if_neg m3] at h2
      exact h2
    by_cases m4 : md = 4
    · subst m4
      rw [if_pos rfl]
      unfold plF
      split
      · rename_i c
        have := hlt (p := s.1) (by omega)
        refine bnd_ne (ih _ _ _ (by show s.1 + 1 ≤ e; omega) (by show 4 * (e - (s.1 + 1)) + 1 ≤ f; omega)) (fun x s1 q => ?_)
        obtain ⟨l1, l2⟩ := on _ _ _ _ _ (by decide) (by show s.1 + 1 ≤ e; omega) q
        have l1 : s.1 + 1 < s1.1 := l1
        exact ih _ _ _ l2 (by show 4 * (e - s1.1) + 1 ≤ f; omega)
      split
      · rename_i c
        have := hlt (p := s.1) (by omega)
        split
        · have l1 := dgs_le (sx := sx) 3 (s.1 + 1) 0
          exact ih _ _ _ (dgs_e hx 3 (s.1 + 1) 0 (by omega)) (by show 4 * (e - (dgs sx 3 (s.1 + 1) 0).2) + 1 ≤ f; omega)
        · simp
      · simp
    rw [if_neg m4]
    unfold slF
    split
    · rename_i c
      have := hlt (p := s.1) (by omega)
      refine bnd_ne (ih _ _ _ (by show s.1 + 1 ≤ e; omega) (by show 4 * (e - (s.1 + 1)) + 2 ≤ f; omega)) (fun x s1 q => ?_)
      obtain ⟨l1, l2⟩ := on _ _ _ _ _ (by decide) (by show s.1 + 1 ≤ e; omega) q
      have l1 : s.1 + 1 < s1.1 := l1
      exact ih _ _ _ l2 (by show 4 * (e - s1.1) + 1 ≤ f; omega)
    · simp
end PARS
