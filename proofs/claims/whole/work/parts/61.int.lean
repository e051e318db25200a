/-! WHOLE NUMBERS IN THE MACHINE'S WORDS -/
def J (z : Int) : Int64 := Int64.ofInt z
def I (z : Int) : Int32 := Int32.ofInt z
theorem J_add (a b : Int) : J a + J b = J (a + b) := (Int64.ofInt_add a b).symm
theorem J_sub (a b : Int) : J a - J b = J (a - b) := (Int64.ofInt_sub a b).symm
theorem J_mul (a b : Int) : J a * J b = J (a * b) := (Int64.ofInt_mul a b).symm
theorem J_neg (a : Int) : - J a = J (-a) := (Int64.ofInt_neg a).symm
theorem I_add (a b : Int) : I a + I b = I (a + b) := (Int32.ofInt_add a b).symm
theorem I_sub (a b : Int) : I a - I b = I (a - b) := (Int32.ofInt_sub a b).symm
theorem I_mul (a b : Int) : I a * I b = I (a * b) := (Int32.ofInt_mul a b).symm
theorem I_neg (a : Int) : - I a = I (-a) := (Int32.ofInt_neg a).symm
def r64 (z : Int) : Prop := -9223372036854775808 ≤ z ∧ z < 9223372036854775808
def r32 (z : Int) : Prop := -2147483648 ≤ z ∧ z < 2147483648
theorem J_toInt {z : Int} (h : r64 z) : (J z).toInt = z := Int64.toInt_ofInt_of_le h.1 h.2
theorem I_toInt {z : Int} (h : r32 z) : (I z).toInt = z := Int32.toInt_ofInt_of_le h.1 h.2
theorem J_le {a b : Int} (ha : r64 a) (hb : r64 b) : J a ≤ J b ↔ a ≤ b := by rw [Int64.le_iff_toInt_le, J_toInt ha, J_toInt hb]
theorem J_lt {a b : Int} (ha : r64 a) (hb : r64 b) : J a < J b ↔ a < b := by rw [Int64.lt_iff_toInt_lt, J_toInt ha, J_toInt hb]
theorem J_eq {a b : Int} (ha : r64 a) (hb : r64 b) : J a = J b ↔ a = b := by rw [← Int64.toInt_inj, J_toInt ha, J_toInt hb]
theorem I_le {a b : Int} (ha : r32 a) (hb : r32 b) : I a ≤ I b ↔ a ≤ b := by rw [Int32.le_iff_toInt_le, I_toInt ha, I_toInt hb]
theorem I_lt {a b : Int} (ha : r32 a) (hb : r32 b) : I a < I b ↔ a < b := by rw [Int32.lt_iff_toInt_lt, I_toInt ha, I_toInt hb]
theorem I_eq {a b : Int} (ha : r32 a) (hb : r32 b) : I a = I b ↔ a = b := by rw [← Int32.toInt_inj, I_toInt ha, I_toInt hb]
theorem J_of (x : Int64) : J x.toInt = x := Int64.ofInt_toInt x
theorem I_of (x : Int32) : I x.toInt = x := Int32.ofInt_toInt x
theorem J_rng (x : Int64) : r64 x.toInt := ⟨Int64.le_toInt x, Int64.toInt_lt x⟩
theorem I_rng (x : Int32) : r32 x.toInt := ⟨Int32.le_toInt x, Int32.toInt_lt x⟩
theorem I_nI (n : Nat) : I (n : Int) = nI n := by
  show Int32.ofInt (n : Int) = Int32.ofNat n
  rw [Int32.ofInt_eq_ofNat]
theorem J_lN (n : Nat) : J (n : Int) = lN n := by
  show Int64.ofInt (n : Int) = Int64.ofNat n
  rw [Int64.ofInt_eq_ofNat]
theorem IJ {z : Int} (h : r32 z) : (I z).toInt64 = J z := by
  rw [← Int64.toInt_inj, Int32.toInt_toInt64, I_toInt h, J_toInt ⟨by have := h.1; omega, by have := h.2; omega⟩]
theorem JI (z : Int) : (J z).toInt32 = I z := Int64.toInt32_ofInt
theorem toJ (x : Int32) : x.toInt64 = J x.toInt := by rw [← IJ (I_rng x), I_of]
theorem xor_neg (x y : Int64) (hy : 0 ≤ y) : x ^^^ y < 0 ↔ x < 0 := by
  have hm : ∀ z : Int64, z < 0 ↔ z.toBitVec.msb = true := by
    intro z
    rw [Int64.lt_iff_toInt_lt]
    show z.toBitVec.toInt < 0 ↔ _
    rw [BitVec.msb_eq_toInt, decide_eq_true_eq]
  have hy2 : y.toBitVec.msb = false := by
    have := (not_congr (hm y)).mp (Int64.not_lt.mpr hy)
    simpa using this
  rw [hm, hm, show (x ^^^ y).toBitVec = x.toBitVec ^^^ y.toBitVec from rfl, BitVec.msb_xor, hy2, Bool.xor_false]
theorem J_div {a b : Int} (ha : r64 a) (hb : 0 < b) (hb2 : r64 b) : J a / J b = J (a.tdiv b) := by
  have h1 : (J a / J b).toInt = a.tdiv b := by
    rw [Int64.toInt_div, J_toInt ha, J_toInt hb2]
    have h2 : (a.tdiv b).natAbs ≤ a.natAbs := by rw [Int.natAbs_tdiv]; exact Nat.div_le_self _ _
    have h3 := ha.1
    have h4 := ha.2
    by_cases hn : 0 ≤ a
    · have h5 : 0 ≤ a.tdiv b := Int.tdiv_nonneg hn (by omega)
      exact Int.bmod_eq_of_le (by show -(9223372036854775808 : Int) ≤ _; omega) (by show _ < (9223372036854775808 : Int); omega)
    · have h5 : a.tdiv b ≤ 0 := by
        have := Int.tdiv_nonneg (a := -a) (b := b) (by omega) (by omega)
        rw [Int.neg_tdiv] at this
        omega
      exact Int.bmod_eq_of_le (by show -(9223372036854775808 : Int) ≤ _; omega) (by show _ < (9223372036854775808 : Int); omega)
  rw [← J_of (J a / J b), h1]
theorem fdiv_t {a b : Int} (hb : 0 < b) : (if a < 0 ∧ a.tdiv b * b ≠ a then a.tdiv b - 1 else a.tdiv b) = a / b := by
  have e1 := Int.mul_tdiv_add_tmod a b
  have hp : b * a.tdiv b = a.tdiv b * b := Int.mul_comm _ _
  by_cases hn : 0 ≤ a
  · rw [if_neg (by omega), Int.tdiv_eq_ediv_of_nonneg hn]
  · have h1 : a.tmod b ≤ 0 := by
      have := Int.tmod_nonneg (a := -a) b (by omega)
      rw [Int.neg_tmod] at this
      omega
    have h2 : -b < a.tmod b := by
      have := Int.tmod_lt_of_pos (-a) hb
      rw [Int.neg_tmod] at this
      omega
    symm
    by_cases hz : a.tdiv b * b = a
    · rw [if_neg (by omega)]
      rw [Int.ediv_eq_iff_of_pos hb]
      omega
    · rw [if_pos ⟨by omega, hz⟩]
      rw [Int.ediv_eq_iff_of_pos hb]
      have e2 : (a.tdiv b - 1) * b = a.tdiv b * b - b := by rw [Int.sub_mul, Int.one_mul]
      have e3 : (a.tdiv b - 1 + 1) * b = a.tdiv b * b := by rw [Int.sub_add_cancel]
      constructor <;> omega
