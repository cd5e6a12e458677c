/-! how many bits are set -/
def bcn (p : Nat → Bool) : Nat → Nat
  | 0 => 0
  | n + 1 => bcn p n + (if p n = true then 1 else 0)
theorem bcn_le (p : Nat → Bool) : ∀ n, bcn p n ≤ n := by
  intro n
  induction n with
  | zero => exact Nat.le_refl _
  | succ n ih => rw [bcn]; split <;> omega
theorem bcn_add (p : Nat → Bool) (a : Nat) : ∀ n, bcn p (a + n) = bcn p a + bcn (fun i => p (a + i)) n := by
  intro n
  induction n with
  | zero => rfl
  | succ n ih => rw [← Nat.add_assoc, bcn, bcn, ih, Nat.add_assoc]
theorem bcn_cong {p q : Nat → Bool} : ∀ n, (∀ i, i < n → p i = q i) → bcn p n = bcn q n := by
  intro n
  induction n with
  | zero => intro _; rfl
  | succ n ih => intro h; rw [bcn, bcn, ih (fun i hi => h i (by omega)), h n (by omega)]
def bm (c : Nat) : Nat → Nat
  | 0 => 0
  | n + 1 => c + 256 * bm c n
theorem and_split {a c b d : Nat} (ha : a < 256) (hc : c < 256) : (a + 256 * b) &&& (c + 256 * d) = (a &&& c) + 256 * (b &&& d) := by
  have e : ∀ x y : Nat, x < 256 → x + 256 * y = 2 ^ 8 * y ||| x := fun x y hx => by
    rw [Nat.add_comm]; exact (Nat.two_pow_add_eq_or_of_lt (i := 8) hx y)
  have hac : (a &&& c) < 256 := Nat.lt_of_le_of_lt Nat.and_le_left ha
  apply Nat.eq_of_testBit_eq
  intro i
  rw [Nat.testBit_and, e a b ha, e c d hc, e _ _ hac, Nat.testBit_or, Nat.testBit_or, Nat.testBit_or, Nat.testBit_two_pow_mul, Nat.testBit_two_pow_mul, Nat.testBit_two_pow_mul, Nat.testBit_and, Nat.testBit_and]
  by_cases c8 : 8 ≤ i
  · have z : ∀ x, x < 256 → x.testBit i = false := fun x hx => Nat.testBit_lt_two_pow (Nat.lt_of_lt_of_le hx (Nat.pow_le_pow_right (by decide) c8 : 2 ^ 8 ≤ 2 ^ i))
    rw [z a ha, z c hc, decide_eq_true (show i ≥ 8 from c8)]; simp
  · rw [decide_eq_false (show ¬ i ≥ 8 from c8)]; simp
def bw1 (n x : Nat) : Nat := x - ((x / 2) &&& bm 85 n)
def bw2 (n x : Nat) : Nat := (x &&& bm 51 n) + ((x / 4) &&& bm 51 n)
def bw3 (n x : Nat) : Nat := (x + x / 16) &&& bm 15 n
theorem byt1 : ∀ lo, lo < 256 → ∀ h, h < 2 → (lo / 2 + 128 * h) &&& 85 = (lo / 2) &&& 85 ∧ (lo / 2) &&& 85 ≤ lo := by decide +kernel
theorem byt2 : ∀ lo, lo < 256 → ∀ h, h < 4 → (lo / 4 + 64 * h) &&& 51 = (lo / 4) &&& 51 := by decide +kernel
theorem byt3 : ∀ lo, lo < 103 → ∀ h, h < 7 → (lo + lo / 16 + 16 * h) &&& 15 = (lo + lo / 16) &&& 15 := by decide +kernel
theorem byt4 : ∀ lo, lo < 256 → bw3 1 (bw2 1 (bw1 1 lo)) = bcn (fun i => lo.testBit i) 8 ∧ bw1 1 lo < 256 ∧ bw2 1 (bw1 1 lo) < 103 := by decide +kernel
theorem bw1_s {lo hi : Nat} (n : Nat) (h : lo < 256) : bw1 (n + 1) (lo + 256 * hi) = bw1 1 lo + 256 * bw1 n hi := by
  unfold bw1
  have e : (lo + 256 * hi) / 2 = (lo / 2 + 128 * (hi % 2)) + 256 * (hi / 2) := by omega
  have b1 : bm 85 1 = 85 := rfl
  have h1 := byt1 lo h (hi % 2) (by omega)
  have h2 : (hi / 2) &&& bm 85 n ≤ hi := Nat.le_trans Nat.and_le_left (Nat.div_le_self _ _)
  rw [e, b1, bm, and_split (by omega) (by decide), h1.1]
  omega
theorem bw2_s {lo hi : Nat} (n : Nat) (h : lo < 256) : bw2 (n + 1) (lo + 256 * hi) = bw2 1 lo + 256 * bw2 n hi := by
  unfold bw2
  have e : (lo + 256 * hi) / 4 = (lo / 4 + 64 * (hi % 4)) + 256 * (hi / 4) := by omega
  have b1 : bm 51 1 = 51 := rfl
  have h1 := byt2 lo h (hi % 4) (by omega)
  rw [e, b1, bm, and_split h (by decide), and_split (by omega) (by decide), h1]
  omega
theorem bm_16 (n : Nat) : bm 51 n % 16 ≤ 3 := by
  cases n with
  | zero => decide
  | succ n => rw [bm]; omega
theorem and_16 {x m : Nat} (h : m % 16 ≤ 3) : (x &&& m) % 16 ≤ 3 := by
  have : (x &&& m) % 2 ^ 4 = (x % 2 ^ 4) &&& (m % 2 ^ 4) := Nat.and_mod_two_pow
  have e : (2 : Nat) ^ 4 = 16 := rfl
  rw [e] at this
  rw [this]
  exact Nat.le_trans Nat.and_le_right h
theorem bw3_s {lo hi : Nat} (n : Nat) (h : lo < 103) (hh : hi % 16 < 7) : bw3 (n + 1) (lo + 256 * hi) = bw3 1 lo + 256 * bw3 n hi := by
  unfold bw3
  have e : lo + 256 * hi + (lo + 256 * hi) / 16 = (lo + lo / 16 + 16 * (hi % 16)) + 256 * (hi + hi / 16) := by omega
  have b1 : bm 15 1 = 15 := rfl
  rw [e, b1, bm, and_split (by omega) (by decide), byt3 lo h (hi % 16) hh]
def bwa (n x : Nat) : Nat := bw3 n (bw2 n (bw1 n x))
theorem bwa_s {lo hi : Nat} (n : Nat) (h : lo < 256) : bwa (n + 1) (lo + 256 * hi) = bcn (fun i => lo.testBit i) 8 + 256 * bwa n hi := by
  obtain ⟨h1, h2, h3⟩ := byt4 lo h
  unfold bwa
  have h16 : bw2 n (bw1 n hi) % 16 < 7 := by
    unfold bw2
    have a1 := and_16 (x := bw1 n hi) (bm_16 n)
    have a2 := and_16 (x := bw1 n hi / 4) (bm_16 n)
    omega
  rw [bw1_s n h, bw2_s n h2, bw3_s n h3 h16, h1]
theorem bwa_8 (x : Nat) (hx : x < 2 ^ 64) : ∃ c0 c1 c2 c3 c4 c5 c6 c7 : Nat, c0 ≤ 8 ∧ c1 ≤ 8 ∧ c2 ≤ 8 ∧ c3 ≤ 8 ∧ c4 ≤ 8 ∧ c5 ≤ 8 ∧ c6 ≤ 8 ∧ c7 ≤ 8 ∧ bwa 8 x = c0 + 256 * (c1 + 256 * (c2 + 256 * (c3 + 256 * (c4 + 256 * (c5 + 256 * (c6 + 256 * c7)))))) ∧ bcn (fun i => x.testBit i) 64 = c0 + c1 + c2 + c3 + c4 + c5 + c6 + c7 := by
  have st : ∀ n y, bwa (n + 1) y = bcn (fun i => (y % 256).testBit i) 8 + 256 * bwa n (y / 256) := fun n y => by
    have := bwa_s (lo := y % 256) (hi := y / 256) n (by omega)
    rw [show y % 256 + 256 * (y / 256) = y by omega] at this
    exact this
  have cn : ∀ y, bcn (fun i => (y % 256).testBit i) 8 = bcn (fun i => y.testBit i) 8 := fun y => bcn_cong 8 (fun i hi => by
    have : (y % 2 ^ 8).testBit i = (decide (i < 8) && y.testBit i) := Nat.testBit_mod_two_pow y 8 i
    rw [decide_eq_true hi, Bool.true_and] at this
    exact this)
  have sh : ∀ y n, bcn (fun i => y.testBit i) (8 + n) = bcn (fun i => (y % 256).testBit i) 8 + bcn (fun i => (y / 256).testBit i) n := fun y n => by
    rw [bcn_add, cn]
    congr 1
    refine bcn_cong n (fun i _ => ?_)
    have : (y / 2 ^ 8).testBit i = y.testBit (i + 8) := by rw [Nat.testBit_div_two_pow]
    rw [show (256 : Nat) = 2 ^ 8 from rfl, this, Nat.add_comm]
  have le8 := fun y => bcn_le (fun i => (y % 256).testBit i) 8
  have b0 : ∀ y, bwa 0 y = 0 := fun y => by
    unfold bwa bw3
    exact Nat.and_zero _
  refine ⟨_, _, _, _, _, _, _, _, le8 x, le8 (x / 256), le8 (x / 256 / 256), le8 (x / 256 / 256 / 256), le8 (x / 256 / 256 / 256 / 256), le8 (x / 256 / 256 / 256 / 256 / 256), le8 (x / 256 / 256 / 256 / 256 / 256 / 256), le8 (x / 256 / 256 / 256 / 256 / 256 / 256 / 256), ?_, ?_⟩
  · rw [st 7, st 6, st 5, st 4, st 3, st 2, st 1, st 0, b0, Nat.mul_zero, Nat.add_zero]
  · rw [show (64 : Nat) = 8 + 56 from rfl, sh, show (56 : Nat) = 8 + 48 from rfl, sh, show (48 : Nat) = 8 + 40 from rfl, sh, show (40 : Nat) = 8 + 32 from rfl, sh, show (32 : Nat) = 8 + 24 from rfl, sh, show (24 : Nat) = 8 + 16 from rfl, sh, show (16 : Nat) = 8 + 8 from rfl, sh, cn (x / 256 / 256 / 256 / 256 / 256 / 256 / 256)]
    omega
def bT (x : Int64) : Nat := x.toBitVec.toNat
theorem bT_lt (x : Int64) : bT x < 2 ^ 64 := x.toBitVec.isLt
theorem bT_and (x y : Int64) : bT (x &&& y) = bT x &&& bT y := by
  unfold bT
  rw [Int64.toBitVec_and, BitVec.toNat_and]
theorem bT_sub {x y : Int64} (h : bT y ≤ bT x) : bT (x - y) = bT x - bT y := by
  unfold bT at h ⊢
  rw [Int64.toBitVec_sub, BitVec.toNat_sub_of_le h]
theorem bT_add {x y : Int64} (h : bT x + bT y < 2 ^ 64) : bT (x + y) = bT x + bT y := by
  unfold bT at h ⊢
  rw [Int64.toBitVec_add, BitVec.toNat_add, Nat.mod_eq_of_lt h]
theorem bT_shr (x : Int64) {s : UInt64} {k : Nat} (h : s.toNat % 64 = k) : bT (Int64.toUInt64 x >>> s).toInt64 = bT x / 2 ^ k := by
  have e : bT (Int64.toUInt64 x >>> s).toInt64 = (Int64.toUInt64 x >>> s).toNat := rfl
  rw [e, UInt64.toNat_shiftRight, h, Nat.shiftRight_eq_div_pow]; rfl
theorem bwm_le (n x : Nat) : (x / 2) &&& bm 85 n ≤ x := Nat.le_trans Nat.and_le_left (Nat.div_le_self _ _)
theorem bit_n {v : Int64} {c : Nat} (h : bT v % 128 = c) : (Int64.toInt32 v) &&& (127 : Int32) = nI c := by
  apply Int32.toBitVec_inj.mp
  apply BitVec.eq_of_toNat_eq
  have e1 : ((Int64.toInt32 v) &&& (127 : Int32)).toBitVec.toNat = (bT v % 2 ^ 32) &&& 127 := by
    rw [Int32.toBitVec_and, BitVec.toNat_and, Int64.toBitVec_toInt32, BitVec.signExtend_eq_setWidth_of_le _ (by decide), BitVec.toNat_setWidth]; rfl
  have e2 : (nI c).toBitVec.toNat = c % 2 ^ 32 := rfl
  rw [e1, e2, show (127 : Nat) = 2 ^ 7 - 1 from rfl, Nat.and_two_pow_sub_one_eq_mod]
  omega
