/-! NUMBERS: counting bits -/
def cntB (f : Nat → Bool) : Nat → Nat
  | 0 => 0
  | n + 1 => cntB f n + (if f n then 1 else 0)
theorem cntB_le (f : Nat → Bool) : ∀ n, cntB f n ≤ n
  | 0 => Nat.le_refl _
  | n + 1 => by
    have := cntB_le f n
    unfold cntB
    split <;> omega
theorem cntB_congr {f g : Nat → Bool} : ∀ {n : Nat}, (∀ i, i < n → f i = g i) → cntB f n = cntB g n
  | 0, _ => rfl
  | n + 1, h => by
    unfold cntB
    rw [cntB_congr (fun i hi => h i (Nat.lt_succ_of_lt hi)), h n (Nat.lt_succ_self n)]
theorem cntB_add (f : Nat → Bool) (m : Nat) : ∀ n, cntB f (m + n) = cntB f m + cntB (fun i => f (m + i)) n
  | 0 => rfl
  | n + 1 => by
    show cntB f (m + n) + (if f (m + n) = true then 1 else 0) = cntB f m + (cntB (fun i => f (m + i)) n + (if f (m + n) = true then 1 else 0))
    rw [cntB_add f m n]
    omega
theorem cntB_mono {f g : Nat → Bool} : ∀ {n : Nat}, (∀ i, i < n → f i = true → g i = true) → cntB f n ≤ cntB g n
  | 0, _ => Nat.le_refl _
  | n + 1, h => by
    have h1 := cntB_mono (n := n) (fun i hi => h i (Nat.lt_succ_of_lt hi))
    have h2 := h n (Nat.lt_succ_self n)
    unfold cntB
    cases hf : f n with
    | false => rw [if_neg (by decide)]; split <;> omega
    | true => rw [h2 hf, if_pos rfl]; omega
theorem cntB_lt {f g : Nat → Bool} : ∀ {n : Nat}, (∀ i, i < n → f i = true → g i = true) → (∃ i, i < n ∧ f i = false ∧ g i = true) → cntB f n < cntB g n
  | 0, _, ⟨i, hi, _⟩ => absurd hi (Nat.not_lt_zero i)
  | n + 1, h, ⟨i, hi, h1, h2⟩ => by
    have hm := cntB_mono (n := n) (fun j hj => h j (Nat.lt_succ_of_lt hj))
    have h3 := h n (Nat.lt_succ_self n)
    unfold cntB
    by_cases e : i = n
    · subst e
      rw [h1, h2, if_neg (by decide), if_pos rfl]
      omega
    · have := cntB_lt (n := n) (fun j hj => h j (Nat.lt_succ_of_lt hj)) ⟨i, by omega, h1, h2⟩
      cases hf : f n with
      | false => rw [if_neg (by decide)]; split <;> omega
      | true => rw [h3 hf, if_pos rfl]; omega
theorem cntB_eq_of {f g : Nat → Bool} {n : Nat} (h : ∀ i, i < n → f i = true → g i = true) (he : cntB g n ≤ cntB f n) : ∀ i, i < n → f i = g i := by
  intro i hi
  cases hf : f i with
  | true => exact (h i hi hf).symm
  | false =>
    cases hg : g i with
    | false => rfl
    | true => have := cntB_lt h ⟨i, hi, hf, hg⟩; omega
theorem and_lane {a b c d : Nat} (ha : a < 256) (hc : c < 256) : (a + 256 * b) &&& (c + 256 * d) = (a &&& c) + 256 * (b &&& d) := by
  have hac : a &&& c < 256 := Nat.lt_of_le_of_lt Nat.and_le_left ha
  apply Nat.eq_of_testBit_eq
  intro i
  have e : ∀ x y : Nat, x < 256 → (x + 256 * y).testBit i = if i < 8 then x.testBit i else y.testBit (i - 8) := by
    intro x y hx
    rw [Nat.add_comm]
    exact Nat.testBit_two_pow_mul_add (i := 8) y hx i
  rw [Nat.testBit_and, e _ _ ha, e _ _ hc, e _ _ hac]
  split <;> rw [Nat.testBit_and]
def LM (g : Nat → Nat) : Nat → Nat → Nat
  | 0, _ => 0
  | L + 1, n => g (n % 256) + 256 * LM g L (n / 256)
def MK (m : Nat) : Nat → Nat
  | 0 => 0
  | L + 1 => m + 256 * MK m L
theorem LM_lt {g : Nat → Nat} (hg : ∀ d, d < 256 → g d < 256) : ∀ L n, LM g L n < 256 ^ L
  | 0, _ => by simp [LM]
  | L + 1, n => by
    have h1 := LM_lt hg L (n / 256)
    have h2 := hg (n % 256) (Nat.mod_lt _ (by decide))
    unfold LM
    rw [Nat.pow_succ]
    omega
theorem LM_comp {g k : Nat → Nat} (hg : ∀ d, d < 256 → g d < 256) : ∀ L n, LM k L (LM g L n) = LM (fun d => k (g d)) L n
  | 0, _ => rfl
  | L + 1, n => by
    have h2 := hg (n % 256) (Nat.mod_lt _ (by decide))
    show k ((g (n % 256) + 256 * LM g L (n / 256)) % 256) + 256 * LM k L ((g (n % 256) + 256 * LM g L (n / 256)) / 256) = _
    rw [show (g (n % 256) + 256 * LM g L (n / 256)) % 256 = g (n % 256) by omega, show (g (n % 256) + 256 * LM g L (n / 256)) / 256 = LM g L (n / 256) by omega, LM_comp hg L]
    rfl
theorem dec1 : ∀ d, d < 256 → ∀ e, e < 2 → (d / 2 + 128 * e) &&& 85 = (d / 2) &&& 85 := by decide +kernel
theorem dec1b : ∀ d, d < 256 → (d / 2) &&& 85 ≤ d := by decide +kernel
theorem dec2 : ∀ d, d < 256 → ∀ e, e < 4 → (d / 4 + 64 * e) &&& 51 = (d / 4) &&& 51 := by decide +kernel
theorem dec3 : ∀ d, d < 256 → ∀ e, e < 5 → d % 16 ≤ 4 → d / 16 ≤ 4 → (d + d / 16 + 16 * e) &&& 15 = (d + d / 16) &&& 15 ∧ d + d / 16 + 16 * e < 256 := by decide +kernel
def g1 (d : Nat) : Nat := d - ((d / 2) &&& 85)
def g2 (d : Nat) : Nat := (d &&& 51) + ((d / 4) &&& 51)
def g3 (d : Nat) : Nat := (d + d / 16) &&& 15
theorem st1 : ∀ L n, n < 256 ^ L → (n / 2) &&& MK 85 L ≤ n ∧ n - ((n / 2) &&& MK 85 L) = LM g1 L n
  | 0, n, h => by simp [MK, LM] at h ⊢; omega
  | L + 1, n, h => by
    have hb : n / 256 < 256 ^ L := by rw [Nat.pow_succ] at h; omega
    obtain ⟨h1, h2⟩ := st1 L (n / 256) hb
    have hd : n % 256 < 256 := Nat.mod_lt _ (by decide)
    have e : n / 2 = (n % 256 / 2 + 128 * (n / 256 % 2)) + 256 * (n / 256 / 2) := by omega
    have h3 := dec1 (n % 256) hd (n / 256 % 2) (Nat.mod_lt _ (by decide))
    have h4 := dec1b (n % 256) hd
    unfold MK LM
    rw [e, and_lane (by omega) (by decide), h3, ← h2]
    unfold g1
    constructor <;> omega
theorem st2 : ∀ L n, n < 256 ^ L → (n &&& MK 51 L) + ((n / 4) &&& MK 51 L) = LM g2 L n
  | 0, n, h => by simp [MK, LM]
  | L + 1, n, h => by
    have hb : n / 256 < 256 ^ L := by rw [Nat.pow_succ] at h; omega
    have h2 := st2 L (n / 256) hb
    have hd : n % 256 < 256 := Nat.mod_lt _ (by decide)
    have e : n / 4 = (n % 256 / 4 + 64 * (n / 256 % 4)) + 256 * (n / 256 / 4) := by omega
    have e0 : n = n % 256 + 256 * (n / 256) := by omega
    have h3 := dec2 (n % 256) hd (n / 256 % 4) (Nat.mod_lt _ (by decide))
    unfold MK LM
    rw [e, and_lane (by omega) (by decide), h3, ← h2]
    have h5 : n &&& (51 + 256 * MK 51 L) = (n % 256 &&& 51) + 256 * (n / 256 &&& MK 51 L) := by
      conv => lhs; rw [e0]
      rw [and_lane hd (by decide)]
    rw [h5]
    unfold g2
    omega
def nib (d : Nat) : Prop := d % 16 ≤ 4 ∧ d / 16 ≤ 4
theorem st3 {g : Nat → Nat} (hg : ∀ d, d < 256 → g d < 256 ∧ nib (g d)) : ∀ L n, (LM g L n + LM g L n / 16) &&& MK 15 L = LM g3 L (LM g L n) ∧ LM g L n % 16 ≤ 4
  | 0, n => ⟨by simp [LM, MK], by simp [LM]⟩
  | L + 1, n => by
    obtain ⟨h1, h2⟩ := st3 hg L (n / 256)
    have hd : n % 256 < 256 := Nat.mod_lt _ (by decide)
    obtain ⟨g1, g2, g3'⟩ := hg _ hd
    obtain ⟨h3, h4⟩ := dec3 (g (n % 256)) g1 (LM g L (n / 256) % 16) (by omega) g2 g3'
    have e1 : (g (n % 256) + 256 * LM g L (n / 256)) % 256 = g (n % 256) := by omega
    have e2 : (g (n % 256) + 256 * LM g L (n / 256)) / 256 = LM g L (n / 256) := by omega
    refine ⟨?_, by show (g (n % 256) + 256 * LM g L (n / 256)) % 16 ≤ 4; omega⟩
    show (g (n % 256) + 256 * LM g L (n / 256) + (g (n % 256) + 256 * LM g L (n / 256)) / 16) &&& (15 + 256 * MK 15 L) = g3 ((g (n % 256) + 256 * LM g L (n / 256)) % 256) + 256 * LM g3 L ((g (n % 256) + 256 * LM g L (n / 256)) / 256)
    rw [e1, e2, ← h1, show g (n % 256) + 256 * LM g L (n / 256) + (g (n % 256) + 256 * LM g L (n / 256)) / 16 = (g (n % 256) + g (n % 256) / 16 + 16 * (LM g L (n / 256) % 16)) + 256 * (LM g L (n / 256) + LM g L (n / 256) / 16) by omega, and_lane h4 (by decide), h3]
    rfl
theorem g_all : ∀ d, d < 256 → g1 d < 256 ∧ g2 (g1 d) < 256 ∧ g2 (g1 d) % 16 ≤ 4 ∧ g2 (g1 d) / 16 ≤ 4 ∧ g3 (g2 (g1 d)) = cntB d.testBit 8 := by decide +kernel
theorem cnt_sum (n : Nat) : ∀ L, cntB n.testBit (8 * L) = (List.range L).foldl (fun a k => a + cntB (n / 256 ^ k % 256).testBit 8) 0 := by
  intro L
  induction L with
  | zero => rfl
  | succ L ih =>
    rw [show 8 * (L + 1) = 8 * L + 8 by omega, cntB_add, ih, List.range_succ, List.foldl_append]
    show _ = _ + cntB (n / 256 ^ L % 256).testBit 8
    congr 1
    apply cntB_congr
    intro i hi
    rw [show (256 : Nat) = 2 ^ 8 by decide, ← Nat.pow_mul, Nat.testBit_mod_two_pow, Nat.testBit_div_two_pow, decide_eq_true hi, Bool.true_and, Nat.add_comm]
def bc1 (x : Int64) : Int64 := x - ((x.toUInt64 >>> ((1 : Int32).toInt64.toUInt64 &&& Int64.toUInt64 63)).toInt64 &&& 6148914691236517205)
def bc2 (x : Int64) : Int64 := (x &&& 3689348814741910323) + ((x.toUInt64 >>> ((2 : Int32).toInt64.toUInt64 &&& Int64.toUInt64 63)).toInt64 &&& 3689348814741910323)
def bc3 (x : Int64) : Int64 := (x + (x.toUInt64 >>> ((4 : Int32).toInt64.toUInt64 &&& Int64.toUInt64 63)).toInt64) &&& 1085102592571150095
def bc4 (x : Int64) : Int64 := x + (x.toUInt64 >>> ((8 : Int32).toInt64.toUInt64 &&& Int64.toUInt64 63)).toInt64
def bc5 (x : Int64) : Int64 := x + (x.toUInt64 >>> ((16 : Int32).toInt64.toUInt64 &&& Int64.toUInt64 63)).toInt64
def bc6 (x : Int64) : Int64 := x + (x.toUInt64 >>> ((32 : Int32).toInt64.toUInt64 &&& Int64.toUInt64 63)).toInt64
theorem uN_and (x y : Int64) : uN (x &&& y) = uN x &&& uN y := UInt64.toNat_and _ _
theorem uN_sub {x y : Int64} (h : uN y ≤ uN x) : uN (x - y) = uN x - uN y := by
  have hx := uN_lt x
  show (x.toUInt64 - y.toUInt64).toNat = _
  rw [UInt64.toNat_sub]
  show (18446744073709551616 - uN y + uN x) % 18446744073709551616 = _
  omega
theorem bc_1 (x : Int64) : uN (bc1 x) = LM g1 8 (uN x) := by
  obtain ⟨h1, h2⟩ := st1 8 (uN x) (uN_lt x)
  have e : uN ((x.toUInt64 >>> ((1 : Int32).toInt64.toUInt64 &&& Int64.toUInt64 63)).toInt64 &&& 6148914691236517205) = (uN x / 2) &&& MK 85 8 := by
    rw [uN_and, show (1 : Int32) = nI 1 from rfl, uN_sk x (by decide)]
    rfl
  unfold bc1
  rw [uN_sub (by rw [e]; exact h1), e, h2]
theorem bc_2 (x : Int64) : uN (bc2 x) = LM g2 8 (uN x) := by
  have h2 := st2 8 (uN x) (uN_lt x)
  have e : uN ((x.toUInt64 >>> ((2 : Int32).toInt64.toUInt64 &&& Int64.toUInt64 63)).toInt64 &&& 3689348814741910323) = (uN x / 4) &&& MK 51 8 := by
    rw [uN_and, show (2 : Int32) = nI 2 from rfl, uN_sk x (by decide)]
    rfl
  have e2 : uN (x &&& 3689348814741910323) = uN x &&& MK 51 8 := by rw [uN_and]; rfl
  have h3 : LM g2 8 (uN x) < 256 ^ 8 := LM_lt (by decide +kernel) 8 _
  unfold bc2
  rw [uN_add, e, e2, h2, Nat.mod_eq_of_lt h3]
theorem bc_3 {g : Nat → Nat} (hg : ∀ d, d < 256 → g d < 256 ∧ nib (g d)) {x : Int64} {n : Nat} (hx : uN x = LM g 8 n) : uN (bc3 x) = LM g3 8 (LM g 8 n) := by
  obtain ⟨h1, h2⟩ := st3 hg 8 n
  have hl : LM g 8 n + LM g 8 n / 16 < 18446744073709551616 := by
    have := LM_lt (fun d hd => (hg d hd).1) 7 (n / 256)
    have q : LM g 8 n = g (n % 256) + 256 * LM g 7 (n / 256) := rfl
    have hh : ∀ L m, LM g L m ≤ 68 * ((256 ^ L - 1) / 255) := by
      intro L
      induction L with
      | zero => intro m; simp [LM]
      | succ L ih =>
        intro m
        have h5 := ih (m / 256)
        obtain ⟨_, h6, h7⟩ := hg (m % 256) (Nat.mod_lt _ (by decide))
        have hp : 0 < 256 ^ L := Nat.pow_pos (by decide)
        show g (m % 256) + 256 * LM g L (m / 256) ≤ _
        have h8 : (256 ^ (L + 1) - 1) / 255 = 1 + 256 * ((256 ^ L - 1) / 255) := by
          have hdv : (256 ^ L - 1) % 255 = 0 := by
            have : 256 ^ L % 255 = 1 := by rw [Nat.pow_mod]; simp
            omega
          rw [Nat.pow_succ]
          omega
        rw [h8]
        omega
    have h9 := hh 8 n
    have h10 : 68 * ((256 ^ 8 - 1) / 255) = 4919131752989213764 := by decide
    omega
  have e : uN (x.toUInt64 >>> ((4 : Int32).toInt64.toUInt64 &&& Int64.toUInt64 63)).toInt64 = uN x / 16 := by
    rw [show (4 : Int32) = nI 4 from rfl, uN_sk x (by decide)]
  unfold bc3
  rw [uN_and, uN_add, e, hx, Nat.mod_eq_of_lt hl, ← h1]
  rfl
theorem bc_sum {p : Nat → Nat} (hp : ∀ k, p k ≤ 8) {n : Nat} (h : n = p 0 + 256 * (p 1 + 256 * (p 2 + 256 * (p 3 + 256 * (p 4 + 256 * (p 5 + 256 * (p 6 + 256 * p 7))))))) {a b c : Nat} (ha : a = n + n / 256) (hb : b = a + a / 65536) (hc : c = b + b / 4294967296) : c < 18446744073709551616 ∧ c % 128 = p 0 + p 1 + p 2 + p 3 + p 4 + p 5 + p 6 + p 7 := by
  have h0 := hp 0
  have h1 := hp 1
  have h2 := hp 2
  have h3 := hp 3
  have h4 := hp 4
  have h5 := hp 5
  have h6 := hp 6
  have h7 := hp 7
  generalize p 0 = q0 at *
  generalize p 1 = q1 at *
  generalize p 2 = q2 at *
  generalize p 3 = q3 at *
  generalize p 4 = q4 at *
  generalize p 5 = q5 at *
  generalize p 6 = q6 at *
  generalize p 7 = q7 at *
  have e1 : n / 256 = q1 + 256 * (q2 + 256 * (q3 + 256 * (q4 + 256 * (q5 + 256 * (q6 + 256 * q7))))) := by omega
  have e2 : a = (q0 + q1) + 256 * ((q1 + q2) + 256 * ((q2 + q3) + 256 * ((q3 + q4) + 256 * ((q4 + q5) + 256 * ((q5 + q6) + 256 * ((q6 + q7) + 256 * q7)))))) := by omega
  have e3 : a / 65536 = (q2 + q3) + 256 * ((q3 + q4) + 256 * ((q4 + q5) + 256 * ((q5 + q6) + 256 * ((q6 + q7) + 256 * q7)))) := by omega
  have e4 : b = (q0 + q1 + q2 + q3) + 256 * ((q1 + q2 + q3 + q4) + 256 * ((q2 + q3 + q4 + q5) + 256 * ((q3 + q4 + q5 + q6) + 256 * ((q4 + q5 + q6 + q7) + 256 * ((q5 + q6 + q7) + 256 * ((q6 + q7) + 256 * q7)))))) := by omega
  have e5 : b / 4294967296 = (q4 + q5 + q6 + q7) + 256 * ((q5 + q6 + q7) + 256 * ((q6 + q7) + 256 * q7)) := by omega
  omega
theorem bcl (z : Int64) : z.toInt32 &&& 127 = nI (uN z % 128) := by
  rw [pk_and z.toInt32 (m := 127) 7 (by decide)]
  have e9 : z.toInt32.toBitVec.toNat = uN z % 4294967296 := by
    have h1 : z.toInt32.toBitVec = z.toBitVec.signExtend 32 := rfl
    rw [h1, BitVec.signExtend_eq_setWidth_of_le _ (by decide), BitVec.toNat_setWidth]
    rfl
  rw [e9]
  congr 1
  omega
theorem uN_sm (x : Int64) {k m : Nat} (hk : k < 64) (hm : 2 ^ k = m) : uN (x.toUInt64 >>> ((nI k).toInt64.toUInt64 &&& Int64.toUInt64 63)).toInt64 = uN x / m := by
  rw [uN_sk x hk, hm]
theorem uN_addm {x y : Int64} {a b : Nat} (hx : uN x = a) (hy : uN y = b) (h : a + b < 18446744073709551616) : uN (x + y) = a + b := by
  rw [uN_add, hx, hy]
  exact Nat.mod_eq_of_lt h
theorem bc4_ok {w : Int64} {N M : Nat} (hN : uN w = N) (hM : M = N + N / 256) (hl : M < 18446744073709551616) : uN (bc4 w) = M := by
  have e := uN_sm w (k := 8) (m := 256) (by decide) (by decide)
  rw [hN] at e
  rw [hM] at hl ⊢
  exact uN_addm hN e hl
theorem bc5_ok {w : Int64} {N M : Nat} (hN : uN w = N) (hM : M = N + N / 65536) (hl : M < 18446744073709551616) : uN (bc5 w) = M := by
  have e := uN_sm w (k := 16) (m := 65536) (by decide) (by decide)
  rw [hN] at e
  rw [hM] at hl ⊢
  exact uN_addm hN e hl
theorem bc6_ok {w : Int64} {N M : Nat} (hN : uN w = N) (hM : M = N + N / 4294967296) (hl : M < 18446744073709551616) : uN (bc6 w) = M := by
  have e := uN_sm w (k := 32) (m := 4294967296) (by decide) (by decide)
  rw [hN] at e
  rw [hM] at hl ⊢
  exact uN_addm hN e hl
theorem bc_fold {y : Int64} {p : Nat → Nat} (hp : ∀ k, p k ≤ 8) (hy : uN y = p 0 + 256 * (p 1 + 256 * (p 2 + 256 * (p 3 + 256 * (p 4 + 256 * (p 5 + 256 * (p 6 + 256 * p 7))))))) : uN (bc6 (bc5 (bc4 y))) % 128 = p 0 + p 1 + p 2 + p 3 + p 4 + p 5 + p 6 + p 7 := by
  obtain ⟨N, hN⟩ : ∃ N, uN y = N := ⟨_, rfl⟩
  rw [hN] at hy
  obtain ⟨a, ha⟩ : ∃ a, a = N + N / 256 := ⟨_, rfl⟩
  obtain ⟨b, hb⟩ : ∃ b, b = a + a / 65536 := ⟨_, rfl⟩
  obtain ⟨c, hc⟩ : ∃ c, c = b + b / 4294967296 := ⟨_, rfl⟩
  obtain ⟨h1, h2⟩ := bc_sum hp hy ha hb hc
  have hbl : b < 18446744073709551616 := Nat.lt_of_le_of_lt (by rw [hc]; exact Nat.le_add_right _ _) h1
  have hal : a < 18446744073709551616 := Nat.lt_of_le_of_lt (by rw [hb]; exact Nat.le_add_right _ _) hbl
  have s6 := bc6_ok (bc5_ok (bc4_ok hN ha hal) hb hbl) hc h1
  rw [s6]
  exact h2
theorem LM8 (G : Nat → Nat) (n : Nat) : LM G 8 n = G (n / 1 % 256) + 256 * (G (n / 256 % 256) + 256 * (G (n / 65536 % 256) + 256 * (G (n / 16777216 % 256) + 256 * (G (n / 4294967296 % 256) + 256 * (G (n / 1099511627776 % 256) + 256 * (G (n / 281474976710656 % 256) + 256 * G (n / 72057594037927936 % 256))))))) := by
  simp only [LM, Nat.div_div_eq_div_mul, Nat.reduceMul, Nat.mul_zero, Nat.add_zero, Nat.div_one]
theorem bc_lanes (x : Int64) : ∃ p : Nat → Nat, (∀ k, p k ≤ 8) ∧ uN (bc3 (bc2 (bc1 x))) = p 0 + 256 * (p 1 + 256 * (p 2 + 256 * (p 3 + 256 * (p 4 + 256 * (p 5 + 256 * (p 6 + 256 * p 7)))))) ∧ cntB (uN x).testBit 64 = p 0 + p 1 + p 2 + p 3 + p 4 + p 5 + p 6 + p 7 := by
  have hg1 : ∀ d, d < 256 → g1 d < 256 := fun d hd => (g_all d hd).1
  have hg2 : ∀ d, d < 256 → g2 (g1 d) < 256 ∧ nib (g2 (g1 d)) := fun d hd => ⟨(g_all d hd).2.1, (g_all d hd).2.2.1, (g_all d hd).2.2.2.1⟩
  have y2 : uN (bc2 (bc1 x)) = LM (fun d => g2 (g1 d)) 8 (uN x) := by rw [bc_2, bc_1, LM_comp hg1]
  have y3 : uN (bc3 (bc2 (bc1 x))) = LM (fun d => g3 (g2 (g1 d))) 8 (uN x) := by rw [bc_3 hg2 y2, LM_comp (fun d hd => (hg2 d hd).1)]
  rw [y3]
  clear y2 y3
  generalize uN x = n
  obtain ⟨G, hGd⟩ : ∃ G : Nat → Nat, (fun d => g3 (g2 (g1 d))) = G := ⟨_, rfl⟩
  have hG : ∀ m, G (m % 256) = cntB (m % 256).testBit 8 := fun m => by rw [← hGd]; exact (g_all _ (Nat.mod_lt _ (by decide))).2.2.2.2
  rw [hGd, LM8]
  clear hGd
  obtain ⟨p, hp⟩ : ∃ p : Nat → Nat, p = fun k => cntB (n / 256 ^ k % 256).testBit 8 := ⟨_, rfl⟩
  have hk : ∀ k m, 256 ^ k = m → G (n / m % 256) = p k := fun k m e => by rw [hG, hp, ← e]
  refine ⟨p, fun k => by rw [hp]; exact cntB_le _ _, ?_, ?_⟩
  · rw [hk 0 1 (by decide), hk 1 256 (by decide), hk 2 65536 (by decide), hk 3 16777216 (by decide), hk 4 4294967296 (by decide), hk 5 1099511627776 (by decide), hk 6 281474976710656 (by decide), hk 7 72057594037927936 (by decide)]
  · have hc := cnt_sum n 8
    rw [show (fun a k => a + cntB (n / 256 ^ k % 256).testBit 8) = fun a k => a + p k by rw [hp]] at hc
    rw [show List.range 8 = [0, 1, 2, 3, 4, 5, 6, 7] by decide] at hc
    simp only [List.foldl, Nat.zero_add] at hc
    exact hc
theorem bitCount_ok (x : Int64) : (bc6 (bc5 (bc4 (bc3 (bc2 (bc1 x)))))).toInt32 &&& 127 = nI (cntB (fun k => x.toBitVec.getLsbD k) 64) := by
  obtain ⟨p, h1, h2, h3⟩ := bc_lanes x
  rw [bcl, bc_fold h1 h2, ← h3]
  rfl
