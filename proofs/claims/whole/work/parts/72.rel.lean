/-! RELATIONS on the cells below n: powers, and all ways -/
def anyB : Nat → (Nat → Bool) → Bool
  | 0, _ => false
  | n + 1, f => anyB n f || f n
theorem anyB_iff {f : Nat → Bool} : ∀ {n : Nat}, anyB n f = true ↔ ∃ i, i < n ∧ f i = true
  | 0 => ⟨fun h => (nomatch h), fun ⟨_, h, _⟩ => absurd h (Nat.not_lt_zero _)⟩
  | n + 1 => by
    unfold anyB
    rw [Bool.or_eq_true, anyB_iff]
    constructor
    · rintro (⟨i, h1, h2⟩ | h)
      · exact ⟨i, by omega, h2⟩
      · exact ⟨n, by omega, h⟩
    · rintro ⟨i, h1, h2⟩
      by_cases e : i = n
      · subst e; exact Or.inr h2
      · exact Or.inl ⟨i, by omega, h2⟩
theorem anyB_congr {f g : Nat → Bool} : ∀ {n : Nat}, (∀ i, i < n → f i = g i) → anyB n f = anyB n g
  | 0, _ => rfl
  | n + 1, h => by
    unfold anyB
    rw [anyB_congr (fun i hi => h i (Nat.lt_succ_of_lt hi)), h n (Nat.lt_succ_self n)]
def allB : Nat → (Nat → Bool) → Bool
  | 0, _ => true
  | n + 1, f => allB n f && f n
theorem allB_iff {f : Nat → Bool} : ∀ {n : Nat}, allB n f = true ↔ ∀ i, i < n → f i = true
  | 0 => ⟨fun _ _ h => absurd h (Nat.not_lt_zero _), fun _ => rfl⟩
  | n + 1 => by
    unfold allB
    rw [Bool.and_eq_true, allB_iff]
    constructor
    · rintro ⟨h1, h2⟩ i hi
      by_cases e : i = n
      · subst e; exact h2
      · exact h1 i (by omega)
    · intro h
      exact ⟨fun i hi => h i (by omega), h n (by omega)⟩
theorem allB_congr {f g : Nat → Bool} : ∀ {n : Nat}, (∀ i, i < n → f i = g i) → allB n f = allB n g
  | 0, _ => rfl
  | n + 1, h => by
    unfold allB
    rw [allB_congr (fun i hi => h i (Nat.lt_succ_of_lt hi)), h n (Nat.lt_succ_self n)]
abbrev Rl : Type := Nat → Nat → Bool
def eqR2 (n : Nat) (A B : Rl) : Prop := ∀ i j, i < n → j < n → A i j = B i j
def comp (n : Nat) (A B : Rl) : Rl := fun i j => anyB n (fun m => A i m && B m j)
theorem comp_congr {n : Nat} {A A' B B' : Rl} (h : eqR2 n A A') (h' : eqR2 n B B') : eqR2 n (comp n A B) (comp n A' B') := by
  intro i j hi hj
  exact anyB_congr (fun m hm => by rw [h i m hi hm, h' m j hm hj])
theorem comp_assoc {n : Nat} {A B C : Rl} : eqR2 n (comp n (comp n A B) C) (comp n A (comp n B C)) := by
  intro i j hi hj
  apply Bool.eq_iff_iff.mpr
  unfold comp
  rw [anyB_iff, anyB_iff]
  constructor
  · rintro ⟨m, hm, h⟩
    rw [Bool.and_eq_true, anyB_iff] at h
    obtain ⟨⟨p, hp, h1⟩, h2⟩ := h
    rw [Bool.and_eq_true] at h1
    refine ⟨p, hp, ?_⟩
    rw [Bool.and_eq_true, anyB_iff]
    exact ⟨h1.1, m, hm, by rw [Bool.and_eq_true]; exact ⟨h1.2, h2⟩⟩
  · rintro ⟨p, hp, h⟩
    rw [Bool.and_eq_true, anyB_iff] at h
    obtain ⟨h1, m, hm, h2⟩ := h
    rw [Bool.and_eq_true] at h2
    refine ⟨m, hm, ?_⟩
    rw [Bool.and_eq_true, anyB_iff]
    exact ⟨⟨p, hp, by rw [Bool.and_eq_true]; exact ⟨h1, h2.1⟩⟩, h2.2⟩
/-- exactly k + 1 steps -/
def pw (n : Nat) (A : Rl) : Nat → Rl
  | 0 => A
  | k + 1 => comp n (pw n A k) A
theorem eqR2_rf {n : Nat} {A : Rl} : eqR2 n A A := fun _ _ _ _ => rfl
theorem eqR2_tr {n : Nat} {A B C : Rl} (h : eqR2 n A B) (h' : eqR2 n B C) : eqR2 n A C := fun i j hi hj => (h i j hi hj).trans (h' i j hi hj)
theorem eqR2_sy {n : Nat} {A B : Rl} (h : eqR2 n A B) : eqR2 n B A := fun i j hi hj => (h i j hi hj).symm
theorem pw_add {n : Nat} {A : Rl} (a : Nat) : ∀ b, eqR2 n (comp n (pw n A a) (pw n A b)) (pw n A (a + b + 1))
  | 0 => eqR2_rf
  | b + 1 => eqR2_tr (eqR2_sy comp_assoc) (comp_congr (pw_add a b) eqR2_rf)
/-- one round of all ways: over m -/
def wst (W : Rl) (m : Nat) : Rl := fun a b => W a b || (W a m && W m b)
def war (A : Rl) : Nat → Rl
  | 0 => A
  | m + 1 => wst (war A m) m
theorem war_tr {A : Rl} : ∀ (m i j k : Nat), k < m → war A m i k = true → war A m k j = true → war A m i j = true
  | 0, _, _, _, h, _, _ => absurd h (Nat.not_lt_zero _)
  | m + 1, i, j, k, hk, h1, h2 => by
    have ih := war_tr (A := A) m
    unfold war wst at h1 h2 ⊢
    simp only [Bool.or_eq_true, Bool.and_eq_true] at h1 h2 ⊢
    by_cases e : k = m
    · subst e
      have q1 : war A k i k = true := by rcases h1 with h | h
                                         · exact h
                                         · exact h.1
      have q2 : war A k k j = true := by rcases h2 with h | h
                                         · exact h
                                         · exact h.2
      exact Or.inr ⟨q1, q2⟩
    · have hlt : k < m := by omega
      rcases h1 with h1 | ⟨h1, h1'⟩
      · rcases h2 with h2 | ⟨h2, h2'⟩
        · exact Or.inl (ih i j k hlt h1 h2)
        · exact Or.inr ⟨ih i m k hlt h1 h2, h2'⟩
      · rcases h2 with h2 | ⟨h2, h2'⟩
        · exact Or.inr ⟨h1, ih m j k hlt h1' h2⟩
        · exact Or.inr ⟨h1, h2'⟩
theorem war_congr {n : Nat} {A B : Rl} (h : eqR2 n A B) : ∀ m, m ≤ n → eqR2 n (war A m) (war B m)
  | 0, _ => h
  | m + 1, hm => fun i j hi hj => by
    have ih := war_congr h m (by omega)
    unfold war wst
    rw [ih i j hi hj, ih i m hi (by omega), ih m j (by omega) hj]
