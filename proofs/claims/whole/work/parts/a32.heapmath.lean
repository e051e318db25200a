/-! HEAPS: which WAYS lead back, and their numbers -/
/-- the first i below n with f i, else n -/
def fstB (f : Nat → Bool) : Nat → Nat
  | 0 => 0
  | n + 1 => if anyB n f = true then fstB f n else if f n = true then n else n + 1
theorem fstB_at {f : Nat → Bool} {c : Nat} (h1 : f c = true) (h2 : ∀ o, o < c → f o = false) : ∀ {n : Nat}, c < n → fstB f n = c
  | 0, h => absurd h (Nat.not_lt_zero _)
  | n + 1, h => by
    unfold fstB
    by_cases e : c = n
    · subst e
      rw [if_neg (by rw [anyB_f.mpr h2]; simp), if_pos h1]
    · have lt : c < n := by omega
      rw [if_pos (anyB_iff.mpr ⟨c, lt, h1⟩), fstB_at h1 h2 lt]
theorem fstB_congr {f k : Nat → Bool} : ∀ {n : Nat}, (∀ i, i < n → f i = k i) → fstB f n = fstB k n
  | 0, _ => rfl
  | n + 1, h => by
    unfold fstB
    rw [anyB_congr (fun i hi => h i (by omega)), fstB_congr (fun i hi => h i (by omega)), h n (by omega)]
def simB (W : Rl) (c o : Nat) : Bool := W c o && W o c
/-- the least cell of a heap -/
def ldB (W : Rl) (c : Nat) : Bool := W c c && !anyB c (fun o => simB W c o)
def trW (N : Nat) (W : Rl) : Prop := ∀ i j k, i < N → j < N → k < N → W i k = true → W k j = true → W i j = true
theorem war_trW {A : Rl} {N : Nat} : trW N (war A N) := fun i j k _ _ hk h1 h2 => war_tr N i j k hk h1 h2
/-- the number of a cell's heap -/
def hvC (W : Rl) (N c : Nat) : Int := if W c c = true then (cntB (ldB W) (fstB (simB W c) N) : Int) else -1
section HEAPM
variable {N : Nat} {W : Rl}
theorem simB_sy {c o : Nat} : simB W c o = simB W o c := by unfold simB; rw [Bool.and_comm]
theorem simB_tr (t : trW N W) {a b c : Nat} (ha : a < N) (hb : b < N) (hc : c < N) (h1 : simB W a b = true) (h2 : simB W b c = true) : simB W a c = true := by
  unfold simB at h1 h2 ⊢
  rw [Bool.and_eq_true] at h1 h2 ⊢
  exact ⟨t a c b ha hc hb h1.1 h2.1, t c a b hc ha hb h2.2 h1.2⟩
theorem simB_rf (t : trW N W) {c o : Nat} (hc : c < N) (ho : o < N) (h : simB W c o = true) : W c c = true := by
  unfold simB at h
  rw [Bool.and_eq_true] at h
  exact t c c o hc hc ho h.1 h.2
theorem hvC_ld {c : Nat} (hc : c < N) (h : ldB W c = true) : hvC W N c = (cntB (ldB W) c : Int) := by
  unfold ldB at h
  rw [Bool.and_eq_true, Bool.not_eq_true'] at h
  unfold hvC
  rw [if_pos h.1, fstB_at (c := c) (by unfold simB; rw [h.1]; rfl) (fun o ho => anyB_f.mp h.2 o ho) hc]
theorem hvC_sim (t : trW N W) {c o : Nat} (hc : c < N) (ho : o < N) (h : simB W c o = true) : hvC W N c = hvC W N o := by
  unfold hvC
  rw [if_pos (simB_rf t hc ho h), if_pos (simB_rf t ho hc (by rw [simB_sy]; exact h)), fstB_congr (f := simB W c) (k := simB W o) (fun x hx => by
    apply Bool.eq_iff_iff.mpr
    constructor
    · exact fun z => simB_tr t ho hc hx (by rw [simB_sy]; exact h) z
    · exact fun z => simB_tr t hc ho hx h z)]
theorem hvC_no {c : Nat} (h : W c c = false) : hvC W N c = -1 := by unfold hvC; rw [if_neg (by rw [h]; simp)]
theorem hvC_b {c : Nat} (hc : c < N) (hN : N ≤ 128) : -1 ≤ hvC W N c ∧ hvC W N c ≤ 128 := by
  unfold hvC
  by_cases q : W c c = true
  · rw [if_pos q]
    have e : ∀ {f : Nat → Bool} {n : Nat}, fstB f n ≤ n := by
      intro f n
      induction n with
      | zero => exact Nat.le_refl _
      | succ n ih => unfold fstB; split; omega; split; omega; omega
    have := cntB_le (ldB W) (fstB (simB W c) N)
    have := e (f := simB W c) (n := N)
    omega
  · rw [if_neg q]
    omega
theorem cntB_le_lt {f : Nat → Bool} {a b : Nat} (h : a < b) (hf : f a = true) : cntB f a < cntB f b := by
  have e := cntB_add f (a + 1) (b - (a + 1))
  rw [show a + 1 + (b - (a + 1)) = b by omega] at e
  have : cntB f (a + 1) = cntB f a + 1 := by
    show cntB f a + (if f a then 1 else 0) = _
    rw [hf]; rfl
  omega
/-- every heap number has its least cell -/
theorem ld_of {f : Nat → Bool} : ∀ {n k : Nat}, k < cntB f n → ∃ l, l < n ∧ f l = true ∧ cntB f l = k
  | 0, _, h => absurd h (Nat.not_lt_zero _)
  | n + 1, k, h => by
    have e : cntB f (n + 1) = cntB f n + (if f n then 1 else 0) := rfl
    by_cases q : k < cntB f n
    · obtain ⟨l, h1, h2, h3⟩ := ld_of q
      exact ⟨l, by omega, h2, h3⟩
    · cases hf : f n
      · rw [hf, if_neg (by simp)] at e; omega
      · rw [hf, if_pos rfl] at e
        exact ⟨n, by omega, hf, by omega⟩
end HEAPM
