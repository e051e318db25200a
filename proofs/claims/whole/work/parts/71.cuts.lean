/-! CUTS AND CELLS: plain arithmetic -/
def fstI (x w lo : Int) : Int := if lo ≤ x ∨ w < 1 then 0 else (lo - x - 1) / w
def lstI (x w : Int) (n : Nat) (hi : Int) : Int := if hi < x then -1 else if w < 1 then (n : Int) - 1 else min ((n : Int) - 1) ((hi - x) / w)
theorem met_iff {x w lo hi : Int} {n i : Nat} (hw : 1 ≤ w) (hn : i < n) : (fstI x w lo ≤ i ∧ (i : Int) ≤ lstI x w n hi) ↔ (lo ≤ x + (i + 1) * w ∧ x + i * w ≤ hi) := by
  have hp : 0 < w := by omega
  have m0 : 0 ≤ (i : Int) * w := Int.mul_nonneg (by omega) (by omega)
  have m1 : ((i : Int) + 1) * w = i * w + w := by rw [Int.add_mul, Int.one_mul]
  have a1 : fstI x w lo ≤ i ↔ lo ≤ x + (i + 1) * w := by
    unfold fstI
    by_cases h : lo ≤ x
    · rw [if_pos (Or.inl h)]
      constructor
      · intro _; omega
      · intro _; omega
    · rw [if_neg (by omega)]
      have := Int.ediv_lt_iff_lt_mul (a := lo - x - 1) (b := (i : Int) + 1) hp
      constructor
      · intro q
        have := this.mp (by omega)
        omega
      · intro q
        have := this.mpr (by omega)
        omega
  have a2 : (i : Int) ≤ lstI x w n hi ↔ x + i * w ≤ hi := by
    unfold lstI
    by_cases h : hi < x
    · rw [if_pos h]
      constructor
      · intro _; omega
      · intro _; omega
    · rw [if_neg h, if_neg (by omega)]
      have := Int.le_ediv_iff_mul_le (a := (i : Int)) (b := hi - x) hp
      constructor
      · intro q
        have := this.mp (by omega)
        omega
      · intro q
        have := this.mpr (by omega)
        omega
  rw [a1, a2]
/-- where the i-th of n equal parts begins -/
def cutP (lo hi : Int) (i n : Nat) : Int := lo + ((hi - lo) * i) / n
theorem cutP_t {lo hi : Int} (h : lo ≤ hi) (i n : Nat) : lo + (i * (hi - lo)).tdiv n = cutP lo hi i n := by
  unfold cutP
  rw [Int.mul_comm, Int.tdiv_eq_ediv_of_nonneg (Int.mul_nonneg (by omega) (by omega))]
theorem cutP_b {lo hi : Int} (h : lo ≤ hi) {i n : Nat} (hn : 0 < n) (hi' : i ≤ n) : lo ≤ cutP lo hi i n ∧ cutP lo hi i n ≤ hi := by
  unfold cutP
  have hp : (0 : Int) < n := by omega
  have h1 : 0 ≤ (hi - lo) * i := Int.mul_nonneg (by omega) (by omega)
  have h2 : (hi - lo) * i ≤ (hi - lo) * n := Int.mul_le_mul_of_nonneg_left (by omega) (by omega)
  have h3 : 0 ≤ (hi - lo) * i / n := Int.ediv_nonneg h1 (by omega)
  have h4 : (hi - lo) * i / n ≤ hi - lo := by
    have := Int.ediv_le_ediv hp h2
    rw [Int.mul_ediv_cancel _ (by omega)] at this
    exact this
  omega
theorem cutP_0 {lo hi : Int} {n : Nat} : cutP lo hi 0 n = lo := by
  unfold cutP
  simp
theorem cutP_n {lo hi : Int} {n : Nat} (hn : 0 < n) : cutP lo hi n n = hi := by
  unfold cutP
  rw [Int.mul_ediv_cancel _ (by omega)]
  omega
/-! SETS OF CELLS below n: shrinking and growing to a fixed point -/
abbrev St : Type := Nat → Bool
def subS (n : Nat) (a b : St) : Prop := ∀ i, i < n → a i = true → b i = true
def eqS (n : Nat) (a b : St) : Prop := ∀ i, i < n → a i = b i
theorem eqS_of {n : Nat} {a b : St} (h : subS n a b) (h' : subS n b a) : eqS n a b := by
  intro i hi
  cases ha : a i with
  | true => exact (h i hi ha).symm
  | false =>
    cases hb : b i with
    | true => rw [h' i hi hb] at ha; cases ha
    | false => rfl
/-- ok is monotone: a cell that a set holds stays held by a greater one -/
def monoS (n : Nat) (ok : St → Nat → Bool) : Prop := ∀ a b, subS n a b → ∀ i, i < n → ok a i = true → ok b i = true
/-- the greatest part of a that holds itself -/
def isGreat (n : Nat) (ok : St → Nat → Bool) (a s : St) : Prop := subS n s a ∧ (∀ i, i < n → s i = true → ok s i = true) ∧ ∀ t, subS n t a → (∀ i, i < n → t i = true → ok t i = true) → subS n t s
theorem isGreat_one {n : Nat} {ok : St → Nat → Bool} {a s s' : St} (h : isGreat n ok a s) (h' : isGreat n ok a s') : eqS n s s' := eqS_of (h'.2.2 s h.1 h.2.1) (h.2.2 s' h'.1 h'.2.1)
/-- the least set over a that takes what it holds -/
def isLeast (n : Nat) (ok : St → Nat → Bool) (a s : St) : Prop := subS n a s ∧ (∀ i, i < n → ok s i = true → s i = true) ∧ ∀ t, subS n a t → (∀ i, i < n → ok t i = true → t i = true) → subS n s t
theorem isLeast_one {n : Nat} {ok : St → Nat → Bool} {a s s' : St} (h : isLeast n ok a s) (h' : isLeast n ok a s') : eqS n s s' := eqS_of (h.2.2 s' h'.1 h'.2.1) (h'.2.2 s h.1 h.2.1)
/-- a set on its way down: between the greatest and a -/
def onWay (n : Nat) (ok : St → Nat → Bool) (a s : St) : Prop := subS n s a ∧ ∀ t, subS n t a → (∀ i, i < n → t i = true → ok t i = true) → subS n t s
theorem onWay_start {n : Nat} {ok : St → Nat → Bool} {a : St} : onWay n ok a a := ⟨fun _ _ h => h, fun _ h _ => h⟩
/-- dropping cells that are not held, even by a greater set, keeps the way -/
theorem onWay_drop {n : Nat} {ok : St → Nat → Bool} (hm : monoS n ok) {a s s' : St} (h : onWay n ok a s) (h1 : subS n s' s) (h2 : ∀ i, i < n → s i = true → s' i = false → ok s i = false) : onWay n ok a s' := by
  refine ⟨fun i hi q => h.1 i hi (h1 i hi q), fun t ht hg i hi q => ?_⟩
  have q1 := h.2 t ht hg i hi q
  cases h3 : s' i with
  | true => rfl
  | false =>
    have q2 := h2 i hi q1 h3
    rw [hm t s (h.2 t ht hg) i hi (hg i hi q)] at q2
    cases q2
theorem onWay_end {n : Nat} {ok : St → Nat → Bool} {a s : St} (h : onWay n ok a s) (hg : ∀ i, i < n → s i = true → ok s i = true) : isGreat n ok a s := ⟨h.1, hg, h.2⟩
def upWay (n : Nat) (ok : St → Nat → Bool) (a s : St) : Prop := subS n a s ∧ ∀ t, subS n a t → (∀ i, i < n → ok t i = true → t i = true) → subS n s t
theorem upWay_start {n : Nat} {ok : St → Nat → Bool} {a : St} : upWay n ok a a := ⟨fun _ _ h => h, fun _ h _ => h⟩
theorem upWay_take {n : Nat} {ok : St → Nat → Bool} (hm : monoS n ok) {a s s' : St} (h : upWay n ok a s) (h1 : subS n s s') (h2 : ∀ i, i < n → s i = false → s' i = true → ok s i = true) : upWay n ok a s' := by
  refine ⟨fun i hi q => h1 i hi (h.1 i hi q), fun t ht hg i hi q => ?_⟩
  cases h3 : s i with
  | true => exact h.2 t ht hg i hi h3
  | false => exact hg i hi (hm s t (h.2 t ht hg) i hi (h2 i hi h3 q))
theorem upWay_end {n : Nat} {ok : St → Nat → Bool} {a s : St} (h : upWay n ok a s) (hg : ∀ i, i < n → ok s i = true → s i = true) : isLeast n ok a s := ⟨h.1, hg, h.2⟩
