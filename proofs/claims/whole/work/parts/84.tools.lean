/-! TOOLS: loops, comparisons of bounded numbers -/
theorem loopM {σ : Type} (A : σ → AH → Option OU) (P : σ → AH → Prop) (Q : Option OU → Prop) (μ : σ → Nat) (st : ∀ s h, P s h → Q (A s h) ∨ ∃ s' h', A s h = A s' h' ∧ P s' h' ∧ μ s' < μ s) : ∀ s h, P s h → Q (A s h) := by
  have H : ∀ (k : Nat) s h, μ s < k → P s h → Q (A s h) := by
    intro k
    induction k with
    | zero => intro s h hk; exact absurd hk (Nat.not_lt_zero _)
    | succ k ih =>
      intro s h hk hp
      rcases st s h hp with q | ⟨s', h', e, p, hm⟩
      · exact q
      · rw [e]; exact ih s' h' (by omega) p
  exact fun s h hp => H (μ s + 1) s h (Nat.lt_succ_self _) hp
theorem loopN (A : Nat → AH → Option OU) (P : Nat → AH → Prop) (Q : Option OU → Prop) {n : Nat} (st : ∀ i h, i < n → P i h → Q (A i h) ∨ ∃ h', A i h = A (i + 1) h' ∧ P (i + 1) h') (en : ∀ h, P n h → Q (A n h)) : ∀ i h, i ≤ n → P i h → Q (A i h) := by
  intro i h hi hp
  refine loopM A (fun i h => i ≤ n ∧ P i h) Q (fun i => n - i) (fun s h ⟨hs, hp⟩ => ?_) i h ⟨hi, hp⟩
  by_cases e : s = n
  · subst e; exact Or.inl (en h hp)
  · rcases st s h (by omega) hp with q | ⟨h', e', p⟩
    · exact Or.inl q
    · exact Or.inr ⟨s + 1, h', e', ⟨by omega, p⟩, by omega⟩
theorem loopE (A : Nat → AH → Option OU) (P : Nat → AH → Prop) {n : Nat} (st : ∀ i h, i < n → P i h → ∃ h', A i h = A (i + 1) h' ∧ P (i + 1) h') : ∀ i h, i ≤ n → P i h → ∃ h', A i h = A n h' ∧ P n h' := by
  intro i h hi hp
  exact loopN A P (fun r => ∃ h', r = A n h' ∧ P n h') (fun i h hi hp => Or.inr (st i h hi hp)) (fun h hp => ⟨h, rfl, hp⟩) i h hi hp
theorem eqTrue' {p : Prop} (h : p) : p = True := propext ⟨fun _ => trivial, fun _ => h⟩
theorem eqFalse' {p : Prop} (h : ¬ p) : p = False := propext ⟨fun z => h z, fun z => z.elim⟩
theorem ltT {a b : Nat} (h : a < b) (hb : b < 2147483648) : (nI a < nI b) = True := eqTrue' ((n_lt (by omega) hb).mpr h)
theorem ltF {a b : Nat} (h : b ≤ a) (ha : a < 2147483648) : (nI a < nI b) = False := eqFalse' (fun q => by have := (n_lt ha (by omega)).mp q; omega)
theorem leT {a b : Nat} (h : a ≤ b) (hb : b < 2147483648) : (nI a ≤ nI b) = True := eqTrue' ((n_le (by omega) hb).mpr h)
theorem leF {a b : Nat} (h : b < a) (ha : a < 2147483648) : (nI a ≤ nI b) = False := eqFalse' (fun q => by have := (n_le ha (by omega)).mp q; omega)
theorem eqF {a b : Nat} (h : a ≠ b) (ha : a < 2147483648) (hb : b < 2147483648) : (nI a = nI b) = False := eqFalse' (fun q => h ((n_eq ha hb).mp q))
theorem lt0F {a : Nat} (ha : a < 2147483648) : (nI a < 0) = False := eqFalse' (n_neg ha)
theorem le0T {a : Nat} (ha : a < 2147483648) : (0 ≤ nI a) = True := eqTrue' (Int32.not_lt.mp (n_neg ha))
theorem eq0F {a : Nat} (h : 0 < a) (ha : a < 2147483648) : (nI a = 0) = False := eqFalse' (fun q => by have := (n_eq (b := 0) ha (by decide)).mp q; omega)
theorem lt0T {a : Nat} (h : 0 < a) (ha : a < 2147483648) : (0 < nI a) = True := eqTrue' ((n_lt (a := 0) (by decide) ha).mpr h)
theorem le0F {a : Nat} (h : 0 < a) (ha : a < 2147483648) : (nI a ≤ 0) = False := eqFalse' (fun q => by have := (n_le (b := 0) ha (by decide)).mp q; omega)
theorem nle1T {a : Nat} (h : a ≤ 1) : (nI a ≤ 1) = True := leT (b := 1) h (by decide)
theorem nle1F {a : Nat} (h : 1 < a) (ha : a < 2147483648) : (nI a ≤ 1) = False := leF (b := 1) h ha
theorem n1leT {a : Nat} (h : 1 ≤ a) (ha : a < 2147483648) : (1 ≤ nI a) = True := leT (a := 1) h ha
theorem n1leF {a : Nat} (h : a < 1) : (1 ≤ nI a) = False := leF (a := 1) h (by decide)
theorem nlt1T {a : Nat} (h : a < 1) : (nI a < 1) = True := ltT (b := 1) h (by decide)
theorem nlt1F {a : Nat} (h : 1 ≤ a) (ha : a < 2147483648) : (nI a < 1) = False := ltF (b := 1) h ha
theorem n1ltT {a : Nat} (h : 1 < a) (ha : a < 2147483648) : (1 < nI a) = True := ltT (a := 1) h ha
theorem n1ltF {a : Nat} (h : a ≤ 1) : (1 < nI a) = False := ltF (a := 1) h (by decide)
theorem neq1F {a : Nat} (h : a ≠ 1) (ha : a < 2147483648) : (nI a = 1) = False := eqF (b := 1) h ha (by decide)
theorem neq1T {a : Nat} (h : a = 1) : (nI a = 1) = True := eqTrue' (by rw [h]; rfl)
theorem neq0T {a : Nat} (h : a = 0) : (nI a = 0) = True := eqTrue' (by rw [h]; rfl)
theorem nle0T {a : Nat} (h : a = 0) : (nI a ≤ 0) = True := eqTrue' (by rw [h]; decide)
theorem n0ltF {a : Nat} (h : a = 0) : (0 < nI a) = False := eqFalse' (by rw [h]; decide)
theorem n_sub {a b : Nat} (h : b ≤ a) : nI a - nI b = nI (a - b) := by
  rw [← I_nI, ← I_nI, I_sub, ← I_nI]
  congr 1
  omega
theorem n_sub1 {a : Nat} (h : 1 ≤ a) : nI a - 1 = nI (a - 1) := n_sub h
theorem n_mul (a b : Nat) : nI a * nI b = nI (a * b) := by rw [← I_nI, ← I_nI, I_mul, ← I_nI, Int.natCast_mul]
theorem n_div {a b : Nat} (ha : a < 2147483648) (hb : b < 2147483648) (h0 : 0 < b) : nI a / nI b = nI (a / b) := by rw [← I_nI, ← I_nI, I_div (by omega) (by omega) (by omega) (by omega), ← I_nI, Int.natCast_ediv]
theorem n_rem {a b : Nat} (ha : a < 2147483648) (hb : b < 2147483648) (h0 : 0 < b) : nI a - nI a / nI b * nI b = nI (a % b) := pk_rem (show a < 2 ^ 31 by omega) h0 (show b < 2 ^ 31 by omega)
theorem in_n {k n : Nat} (h : k < n) (hk : k < 2147483648) : vp_in (nI k) n := by
  rw [vp_in_iff, ← I_nI, I_toInt ⟨by omega, by omega⟩]
  omega
theorem JltT {a b : Int} (h : a < b) (ha : -9223372036854775808 ≤ a) (hb : b < 9223372036854775808) : (J a < J b) = True := eqTrue' ((J_lt ⟨ha, by omega⟩ ⟨by omega, hb⟩).mpr h)
theorem JltF {a b : Int} (h : b ≤ a) (hb : -9223372036854775808 ≤ b) (ha : a < 9223372036854775808) : (J a < J b) = False := eqFalse' (fun q => by have := (J_lt ⟨by omega, ha⟩ ⟨hb, by omega⟩).mp q; omega)
theorem JleT {a b : Int} (h : a ≤ b) (ha : -9223372036854775808 ≤ a) (hb : b < 9223372036854775808) : (J a ≤ J b) = True := eqTrue' ((J_le ⟨ha, by omega⟩ ⟨by omega, hb⟩).mpr h)
theorem JleF {a b : Int} (h : b < a) (hb : -9223372036854775808 ≤ b) (ha : a < 9223372036854775808) : (J a ≤ J b) = False := eqFalse' (fun q => by have := (J_le ⟨by omega, ha⟩ ⟨hb, by omega⟩).mp q; omega)
theorem JeqT {a b : Int} (h : a = b) : (J a = J b) = True := eqTrue' (by rw [h])
theorem JeqF {a b : Int} (h : ¬ a = b) (ha : -9223372036854775808 ≤ a ∧ a < 9223372036854775808) (hb : -9223372036854775808 ≤ b ∧ b < 9223372036854775808) : (J a = J b) = False := eqFalse' (fun q => h ((J_eq ha hb).mp q))
theorem IltT {a b : Int} (h : a < b) (ha : -2147483648 ≤ a) (hb : b < 2147483648) : (I a < I b) = True := eqTrue' ((I_lt ⟨ha, by omega⟩ ⟨by omega, hb⟩).mpr h)
theorem IltF {a b : Int} (h : b ≤ a) (hb : -2147483648 ≤ b) (ha : a < 2147483648) : (I a < I b) = False := eqFalse' (fun q => by have := (I_lt ⟨by omega, ha⟩ ⟨hb, by omega⟩).mp q; omega)
theorem IleT {a b : Int} (h : a ≤ b) (ha : -2147483648 ≤ a) (hb : b < 2147483648) : (I a ≤ I b) = True := eqTrue' ((I_le ⟨ha, by omega⟩ ⟨by omega, hb⟩).mpr h)
theorem IleF {a b : Int} (h : b < a) (hb : -2147483648 ≤ b) (ha : a < 2147483648) : (I a ≤ I b) = False := eqFalse' (fun q => by have := (I_le ⟨by omega, ha⟩ ⟨hb, by omega⟩).mp q; omega)
theorem IeqF {a b : Int} (h : ¬ a = b) (ha : -2147483648 ≤ a ∧ a < 2147483648) (hb : -2147483648 ≤ b ∧ b < 2147483648) : (I a = I b) = False := eqFalse' (fun q => h ((I_eq ha hb).mp q))
theorem JltI {a b : Int} (ha : -9223372036854775808 ≤ a ∧ a < 9223372036854775808) (hb : -9223372036854775808 ≤ b ∧ b < 9223372036854775808) : (J a < J b) = (a < b) := propext (J_lt ha hb)
theorem JleI {a b : Int} (ha : -9223372036854775808 ≤ a ∧ a < 9223372036854775808) (hb : -9223372036854775808 ≤ b ∧ b < 9223372036854775808) : (J a ≤ J b) = (a ≤ b) := propext (J_le ha hb)
theorem JeqI {a b : Int} (ha : -9223372036854775808 ≤ a ∧ a < 9223372036854775808) (hb : -9223372036854775808 ≤ b ∧ b < 9223372036854775808) : (J a = J b) = (a = b) := propext (J_eq ha hb)
theorem IltI {a b : Int} (ha : -2147483648 ≤ a ∧ a < 2147483648) (hb : -2147483648 ≤ b ∧ b < 2147483648) : (I a < I b) = (a < b) := propext (I_lt ha hb)
theorem IleI {a b : Int} (ha : -2147483648 ≤ a ∧ a < 2147483648) (hb : -2147483648 ≤ b ∧ b < 2147483648) : (I a ≤ I b) = (a ≤ b) := propext (I_le ha hb)
theorem IeqI {a b : Int} (ha : -2147483648 ≤ a ∧ a < 2147483648) (hb : -2147483648 ≤ b ∧ b < 2147483648) : (I a = I b) = (a = b) := propext (I_eq ha hb)
theorem nltI {a b : Nat} (ha : a < 2147483648) (hb : b < 2147483648) : (nI a < nI b) = (a < b) := propext (n_lt ha hb)
theorem nleI {a b : Nat} (ha : a < 2147483648) (hb : b < 2147483648) : (nI a ≤ nI b) = (a ≤ b) := propext (n_le ha hb)
theorem neqI {a b : Nat} (ha : a < 2147483648) (hb : b < 2147483648) : (nI a = nI b) = (a = b) := propext (n_eq ha hb)
theorem nI_I (k : Nat) : nI k = I (k : Int) := (I_nI k).symm
theorem int_of (x : Int32) : ∃ z : Int, -2147483648 ≤ z ∧ z < 2147483648 ∧ x = I z := ⟨x.toInt, (I_rng x).1, (I_rng x).2, (I_of x).symm⟩
theorem IJ' {z : Int} (h0 : -2147483648 ≤ z) (h1 : z < 2147483648) : (I z).toInt64 = J z := IJ ⟨h0, h1⟩
theorem z1J : (1 : Int64) = J 1 := rfl
theorem z0I : (0 : Int32) = I 0 := rfl
theorem z1I : (1 : Int32) = I 1 := rfl
theorem bi_t {b : Bool} (h : b = true) : bi b = 1 := by rw [h]; rfl
theorem bi_f {b : Bool} (h : b = false) : bi b = 0 := by rw [h]; rfl
theorem bi_0 (b : Bool) : (bi b = 0) = (b = false) := by cases b <;> simp [bi]
theorem bi_ok (b : Bool) : (bi b = 0 ∨ bi b = 1) = True := eqTrue' (bi_01 b)
theorem bi_i8 (b : Bool) : (bi b).toInt8.toInt32 = bi b := by cases b <;> rfl
theorem zer1 : ((0 : Int32) = 1) = False := by simp
theorem narb' (b : Bool) : vp_nar FieldType.boolean (bi b) = bi b := narb b
/-- fields of the model's object -/
def FM (L S : List Nat) (h h' : AH) : Prop := Fr L h h' ∧ ∀ b, b ∉ S → gi h' 78 b = gi h 78 b ∧ gj h' 78 b = gj h 78 b
theorem FM.rf {h : AH} (hS : SH h) (L S : List Nat) : FM L S h h := ⟨Fr.rf hS L, fun _ _ => ⟨rfl, rfl⟩⟩
theorem FM.trans {L S : List Nat} {h h1 h2 : AH} (a : FM L S h h1) (b : FM L S h1 h2) : FM L S h h2 := ⟨a.1.trans b.1, fun x hx => ⟨(b.2 x hx).1.trans (a.2 x hx).1, (b.2 x hx).2.trans (a.2 x hx).2⟩⟩
theorem FM.mono {L M S T : List Nat} {h h1 : AH} (a : FM L S h h1) (hm : ∀ x, x ∈ L → x ∈ M) (ht : ∀ x, x ∈ S → x ∈ T) : FM M T h h1 := ⟨a.1.mono hm, fun x hx => a.2 x (fun z => hx (ht x z))⟩
theorem FM.fi {L S : List Nat} {h h1 : AH} (a : FM L S h h1) {b : Nat} (hb : b ∉ S) : gi h1 78 b = gi h 78 b := (a.2 b hb).1
theorem FM.fj {L S : List Nat} {h h1 : AH} (a : FM L S h h1) {b : Nat} (hb : b ∉ S) : gj h1 78 b = gj h 78 b := (a.2 b hb).2
theorem FM.ai {L S : List Nat} {h h1 : AH} (a : FM L S h h1) {b : Nat} (hb : b ∉ L) : ai h1 b = ai h b := ai_of_ag (a.1.2.1 b hb)
theorem FM.aj {L S : List Nat} {h h1 : AH} (a : FM L S h h1) {b : Nat} (hb : b ∉ L) : aj h1 b = aj h b := aj_of_ag (a.1.2.1 b hb)
theorem FM.s {L S : List Nat} {h h1 : AH} (a : FM L S h h1) : SH h1 := a.1.1
theorem FM.swi {L S : List Nat} {h h1 : AH} {b : Nat} {x : Int32} (f : FM L S h h1) (hr : 78 ∈ L) (hb : b ∈ S) : FM L S h (wi h1 78 b x) := ⟨f.1.swi hr, fun c hc => ⟨by rw [gi_wi_n (fun z : 78 = 78 ∧ c = b => hc (by rw [z.2]; exact hb))]; exact (f.2 c hc).1, by rw [gj_wi]; exact (f.2 c hc).2⟩⟩
theorem FM.swj {L S : List Nat} {h h1 : AH} {b : Nat} {x : Int64} (f : FM L S h h1) (hr : 78 ∈ L) (hb : b ∈ S) : FM L S h (wj h1 78 b x) := ⟨f.1.swj hr, fun c hc => ⟨by rw [gi_wj]; exact (f.2 c hc).1, by rw [gj_wj_n (fun z : 78 = 78 ∧ c = b => hc (by rw [z.2]; exact hb))]; exact (f.2 c hc).2⟩⟩
theorem FM.swAI {L S : List Nat} {h h1 : AH} {r : Nat} {x : Nat → Int32} (f : FM L S h h1) (hr : r ∈ L) : FM L S h (wAI h1 r x) := ⟨f.1.swAI hr, fun c hc => ⟨by rw [gi_wAI]; exact (f.2 c hc).1, by rw [gj_wAI]; exact (f.2 c hc).2⟩⟩
theorem FM.swAJ {L S : List Nat} {h h1 : AH} {r : Nat} {x : Nat → Int64} (f : FM L S h h1) (hr : r ∈ L) : FM L S h (wAJ h1 r x) := ⟨f.1.swAJ hr, fun c hc => ⟨by rw [gi_wAJ]; exact (f.2 c hc).1, by rw [gj_wAJ]; exact (f.2 c hc).2⟩⟩
