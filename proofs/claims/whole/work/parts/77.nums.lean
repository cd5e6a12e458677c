/-! longs as whole numbers -/
theorem i64_rng (a : Int64) : -9223372036854775808 ≤ a.toInt ∧ a.toInt < 9223372036854775808 := ⟨a.le_toInt, a.toInt_lt⟩
theorem i64_add {a b : Int64} (h1 : -9223372036854775808 ≤ a.toInt + b.toInt) (h2 : a.toInt + b.toInt < 9223372036854775808) : (a + b).toInt = a.toInt + b.toInt := by
  rw [Int64.toInt_add]; exact Int.bmod_eq_of_le (by omega) (by omega)
theorem i64_sub {a b : Int64} (h1 : -9223372036854775808 ≤ a.toInt - b.toInt) (h2 : a.toInt - b.toInt < 9223372036854775808) : (a - b).toInt = a.toInt - b.toInt := by
  rw [Int64.toInt_sub]; exact Int.bmod_eq_of_le (by omega) (by omega)
theorem i64_mul {a b : Int64} (h1 : -9223372036854775808 ≤ a.toInt * b.toInt) (h2 : a.toInt * b.toInt < 9223372036854775808) : (a * b).toInt = a.toInt * b.toInt := by
  rw [Int64.toInt_mul]; exact Int.bmod_eq_of_le (by omega) (by omega)
theorem i64_neg {a : Int64} (h : -9223372036854775808 < a.toInt) : (-a).toInt = -a.toInt := by
  have := i64_rng a
  rw [Int64.toInt_neg]; exact Int.bmod_eq_of_le (by omega) (by omega)
theorem i64_div {a b : Int64} (h : -9223372036854775808 < a.toInt) : (a / b).toInt = a.toInt.tdiv b.toInt := by
  have := i64_rng a
  rw [Int64.toInt_div]
  have h1 : (a.toInt.tdiv b.toInt).natAbs ≤ a.toInt.natAbs := by rw [Int.natAbs_tdiv]; exact Nat.div_le_self _ _
  exact Int.bmod_eq_of_le (by omega) (by omega)
theorem i64_xor (a b : Int64) : (0 : Int64) ≤ (a ^^^ b) ↔ (0 ≤ a.toInt ↔ 0 ≤ b.toInt) := by
  rw [Int64.le_iff_toInt_le]
  have e : ∀ x : Int64, 0 ≤ x.toInt ↔ x.toBitVec.msb = false := fun x => by
    show 0 ≤ x.toBitVec.toInt ↔ _
    rw [BitVec.msb_eq_toInt]
    simp
  show 0 ≤ (a ^^^ b).toInt ↔ _
  rw [e, e, e, Int64.toBitVec_xor, BitVec.msb_xor]
  cases a.toBitVec.msb <;> cases b.toBitVec.msb <;> simp
/-- rounding down, by its sides -/
theorem fd_pos {p q : Int64} (hp : -4000000000000000000 ≤ p.toInt ∧ p.toInt ≤ 4000000000000000000) (hq : 0 < q.toInt) : (fd p q).toInt * q.toInt ≤ p.toInt ∧ p.toInt < (fd p q).toInt * q.toInt + q.toInt := by
  have hd : (p / q).toInt = p.toInt.tdiv q.toInt := i64_div (by omega)
  have hx := i64_xor p q
  generalize hP : p.toInt = P at *
  generalize hQ : q.toInt = Q at *
  have hdm := Int.tdiv_mul_add_tmod P Q
  have hv : (P.tdiv Q).natAbs ≤ P.natAbs := by rw [Int.natAbs_tdiv]; exact Nat.div_le_self _ _
  have hm1 : (P.tmod Q).natAbs < Q.natAbs := by rw [Int.natAbs_tmod]; exact Nat.mod_lt _ (by omega)
  have hm3 : (P.tmod Q).natAbs ≤ P.natAbs := by rw [Int.natAbs_tmod]; exact Nat.mod_le _ _
  unfold fd
  by_cases h0 : 0 ≤ P
  · rw [if_pos (hx.mpr (by omega)), hd]
    have hm2 : 0 ≤ P.tmod Q := Int.tmod_nonneg _ h0
    constructor <;> omega
  · have hm2 : P.tmod Q ≤ 0 := by
      have := Int.tmod_nonneg Q (show 0 ≤ -P by omega)
      rw [Int.neg_tmod] at this; omega
    rw [if_neg (fun h => by have := hx.mp h; omega)]
    have hmul : ((p / q) * q).toInt = P.tdiv Q * Q := by rw [i64_mul, hd, hQ] <;> rw [hd, hQ] <;> omega
    by_cases h1 : (p / q) * q = p
    · rw [if_pos h1, hd]
      have : P.tdiv Q * Q = P := by rw [← hmul, h1, hP]
      constructor <;> omega
    · rw [if_neg h1, i64_sub (by rw [hd]; show _ ≤ _ - (1 : Int); omega) (by rw [hd]; show _ - (1 : Int) < _; omega), hd]
      show (P.tdiv Q - 1) * Q ≤ P ∧ P < (P.tdiv Q - 1) * Q + Q
      rw [Int.sub_mul, Int.one_mul]
      have : P.tdiv Q * Q ≠ P := fun h => h1 (Int64.toInt_inj.mp (by rw [hmul, hP, h]))
      constructor <;> omega
theorem fd_neg {p q : Int64} (hp : -4000000000000000000 ≤ p.toInt ∧ p.toInt ≤ 4000000000000000000) (hq : q.toInt < 0) : p.toInt ≤ (fd p q).toInt * q.toInt ∧ (fd p q).toInt * q.toInt + q.toInt < p.toInt := by
  have hd : (p / q).toInt = p.toInt.tdiv q.toInt := i64_div (by omega)
  have hx := i64_xor p q
  generalize hP : p.toInt = P at *
  generalize hQ : q.toInt = Q at *
  have hdm := Int.tdiv_mul_add_tmod P Q
  have hv : (P.tdiv Q).natAbs ≤ P.natAbs := by rw [Int.natAbs_tdiv]; exact Nat.div_le_self _ _
  have hm1 : (P.tmod Q).natAbs < Q.natAbs := by rw [Int.natAbs_tmod]; exact Nat.mod_lt _ (by omega)
  have hm3 : (P.tmod Q).natAbs ≤ P.natAbs := by rw [Int.natAbs_tmod]; exact Nat.mod_le _ _
  unfold fd
  have hmul : ((p / q) * q).toInt = P.tdiv Q * Q := by rw [i64_mul, hd, hQ] <;> rw [hd, hQ] <;> omega
  by_cases h0 : 0 ≤ P
  · have hm2 : 0 ≤ P.tmod Q := Int.tmod_nonneg _ h0
    rw [if_neg (fun h => by have := hx.mp h; omega)]
    by_cases h1 : (p / q) * q = p
    · rw [if_pos h1, hd]
      have : P.tdiv Q * Q = P := by rw [← hmul, h1, hP]
      constructor <;> omega
    · rw [if_neg h1, i64_sub (by rw [hd]; show _ ≤ _ - (1 : Int); omega) (by rw [hd]; show _ - (1 : Int) < _; omega), hd]
      show P ≤ (P.tdiv Q - 1) * Q ∧ (P.tdiv Q - 1) * Q + Q < P
      rw [Int.sub_mul, Int.one_mul]
      have : P.tdiv Q * Q ≠ P := fun h => h1 (Int64.toInt_inj.mp (by rw [hmul, hP, h]))
      constructor <;> omega
  · have hm2 : P.tmod Q ≤ 0 := by
      have := Int.tmod_nonneg Q (show 0 ≤ -P by omega)
      rw [Int.neg_tmod] at this; omega
    rw [if_pos (hx.mpr (by omega)), hd]
    constructor <;> omega
