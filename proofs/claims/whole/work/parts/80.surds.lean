/-! the states of a root, as the machine has them -/
def sfo (p s q : Int64) : Int64 := if q ≤ 0 then fd (p + s + 1) q else fd (p + s) q
def sst (d s : Int64) (x : Int64 × Int64) : Int64 × Int64 := (sfo x.1 s x.2 * x.2 - x.1, (d - (sfo x.1 s x.2 * x.2 - x.1) * (sfo x.1 s x.2 * x.2 - x.1)) / x.2)
def ssq (d s : Int64) (x : Int64 × Int64) : Nat → Int64 × Int64
  | 0 => x
  | k + 1 => sst d s (ssq d s x k)
/-- what holds of a state: numbers up to B -/
def sIv (d s : Int64) (x : Int64 × Int64) (B : Int) : Prop := (0 ≤ s.toInt ∧ s.toInt ≤ 16384 ∧ s.toInt * s.toInt < d.toInt ∧ d.toInt < (s.toInt + 1) * (s.toInt + 1)) ∧ x.2.toInt ≠ 0 ∧ x.2.toInt ∣ d.toInt - x.1.toInt * x.1.toInt ∧ (-B ≤ x.1.toInt ∧ x.1.toInt ≤ B) ∧ (-B ≤ x.2.toInt ∧ x.2.toInt ≤ B)
theorem mul_rng {a b A B : Int} (ha : -A ≤ a ∧ a ≤ A) (hb : -B ≤ b ∧ b ≤ B) : -(A * B) ≤ a * b ∧ a * b ≤ A * B := by
  have h1 := Int.mul_nonneg (show 0 ≤ A - a by omega) (show 0 ≤ B + b by omega)
  have h2 := Int.mul_nonneg (show 0 ≤ A + a by omega) (show 0 ≤ B - b by omega)
  have h3 := Int.mul_nonneg (show 0 ≤ A - a by omega) (show 0 ≤ B - b by omega)
  have h4 := Int.mul_nonneg (show 0 ≤ A + a by omega) (show 0 ≤ B + b by omega)
  have e1 : (A - a) * (B + b) = A * B + A * b - a * B - a * b := by grind
  have e2 : (A + a) * (B - b) = A * B - A * b + a * B - a * b := by grind
  have e3 : (A - a) * (B - b) = A * B - A * b - a * B + a * b := by grind
  have e4 : (A + a) * (B + b) = A * B + A * b + a * B + a * b := by grind
  constructor <;> omega
theorem sfo_spec {d s : Int64} {x : Int64 × Int64} {B : Int} (h : sIv d s x B) (hB : B ≤ 100000000) :
    (0 < x.2.toInt → (sfo x.1 s x.2).toInt * x.2.toInt ≤ x.1.toInt + s.toInt ∧ x.1.toInt + s.toInt < (sfo x.1 s x.2).toInt * x.2.toInt + x.2.toInt) ∧
    (x.2.toInt < 0 → x.1.toInt + s.toInt + 1 ≤ (sfo x.1 s x.2).toInt * x.2.toInt ∧ (sfo x.1 s x.2).toInt * x.2.toInt + x.2.toInt < x.1.toInt + s.toInt + 1) := by
  obtain ⟨⟨s0, s1, s2, s3⟩, q0, hd, hp, hq⟩ := h
  have e1 : (x.1 + s).toInt = x.1.toInt + s.toInt := i64_add (by omega) (by omega)
  have e2 : (x.1 + s + 1).toInt = x.1.toInt + s.toInt + 1 := by
    rw [i64_add (by rw [e1]; show _ ≤ _ + (1 : Int); omega) (by rw [e1]; show _ + (1 : Int) < _; omega), e1]; rfl
  unfold sfo
  refine ⟨fun h => ?_, fun h => ?_⟩
  · rw [if_neg (by rw [Int64.le_iff_toInt_le]; show ¬ _ ≤ (0 : Int); omega)]
    have := fd_pos (p := x.1 + s) (by rw [e1]; omega) h
    rw [e1] at this
    exact this
  · rw [if_pos (by rw [Int64.le_iff_toInt_le]; show _ ≤ (0 : Int); omega)]
    have := fd_neg (p := x.1 + s + 1) (by rw [e2]; omega) h
    rw [e2] at this
    exact this
theorem ne_of_toInt {q : Int64} (h : q.toInt ≠ 0) : ¬ q = 0 := fun e => h (by rw [e]; rfl)
theorem sfo_rng {d s : Int64} {x : Int64 × Int64} {B : Int} (h : sIv d s x B) (hB : B ≤ 100000000) : -(B + 16385) ≤ (sfo x.1 s x.2).toInt ∧ (sfo x.1 s x.2).toInt ≤ B + 16385 := by
  obtain ⟨hpos, hneg⟩ := sfo_spec h hB
  obtain ⟨⟨s0, s1, s2, s3⟩, q0, hd, hp, hq⟩ := h
  generalize (sfo x.1 s x.2).toInt = V at *
  generalize x.2.toInt = Q at *
  generalize x.1.toInt = P at *
  rcases Int.lt_or_gt_of_ne q0 with hn | hp0
  · obtain ⟨a, b⟩ := hneg hn
    constructor
    · refine Int.not_lt.mp fun h => ?_
      have h3 := Int.mul_nonneg (show 0 ≤ -V - 1 by omega) (show 0 ≤ -Q - 1 by omega)
      have e3 : (-V - 1) * (-Q - 1) = V * Q + V + Q + 1 := by grind
      omega
    · refine Int.not_lt.mp fun h => ?_
      have h3 := Int.mul_nonneg (show 0 ≤ V by omega) (show 0 ≤ -Q - 1 by omega)
      have e3 : V * (-Q - 1) = -(V * Q) - V := by grind
      omega
  · obtain ⟨a, b⟩ := hpos hp0
    constructor
    · refine Int.not_lt.mp fun h => ?_
      have h3 := Int.mul_nonneg (show 0 ≤ -V - 1 by omega) (show 0 ≤ Q - 1 by omega)
      have e3 : (-V - 1) * (Q - 1) = -(V * Q) + V - Q + 1 := by grind
      omega
    · refine Int.not_lt.mp fun h => ?_
      have h3 := Int.mul_nonneg (show 0 ≤ V by omega) (show 0 ≤ Q - 1 by omega)
      have e3 : V * (Q - 1) = V * Q - V := by grind
      omega
theorem sst_ok {d s : Int64} {x : Int64 × Int64} {B : Int} (h : sIv d s x B) (hB : B ≤ 10000000) (hB0 : 1 ≤ B) : sIv d s (sst d s x) (B + 70000) ∧ (∀ B', B' ≤ 100000000 → sIv d s (sst d s x) B' → 1 ≤ (sfo (sst d s x).1 s (sst d s x).2).toInt) := by
  obtain ⟨hpos, hneg⟩ := sfo_spec h (by omega)
  obtain ⟨v1, v2⟩ := sfo_rng h (by omega)
  have h0 := h
  obtain ⟨⟨s0, s1, s2, s3⟩, q0, hd, hp, hq⟩ := h
  have hd2 : d.toInt < 300000000 := by
    have := mul_rng (show -16385 ≤ s.toInt + 1 ∧ s.toInt + 1 ≤ 16385 by omega) (show -16385 ≤ s.toInt + 1 ∧ s.toInt + 1 ≤ 16385 by omega)
    omega
  have hd0 : 0 ≤ d.toInt := by have := Int.mul_nonneg s0 s0; omega
  have hvq : -(1000000000000000) ≤ (sfo x.1 s x.2).toInt * x.2.toInt ∧ (sfo x.1 s x.2).toInt * x.2.toInt ≤ 1000000000000000 := by
    have := mul_rng (A := 20000000) (B := 10000000) (show -20000000 ≤ (sfo x.1 s x.2).toInt ∧ (sfo x.1 s x.2).toInt ≤ 20000000 by omega) (show -10000000 ≤ x.2.toInt ∧ x.2.toInt ≤ 10000000 by omega)
    omega
  have e1 : (sfo x.1 s x.2 * x.2).toInt = (sfo x.1 s x.2).toInt * x.2.toInt := i64_mul (by omega) (by omega)
  have e2 : (sst d s x).1.toInt = (sfo x.1 s x.2).toInt * x.2.toInt - x.1.toInt := by
    show (sfo x.1 s x.2 * x.2 - x.1).toInt = _
    rw [i64_sub (by rw [e1]; omega) (by rw [e1]; omega), e1]
  obtain ⟨Q', hQ'⟩ := surd_dvd (V := (sfo x.1 s x.2).toInt) hd e2
  have hPb : -(B + 16385) ≤ (sst d s x).1.toInt ∧ (sst d s x).1.toInt ≤ B + 16385 := by
    rcases Int.lt_or_gt_of_ne q0 with hn | hp0
    · obtain ⟨a, b⟩ := hneg hn; omega
    · obtain ⟨a, b⟩ := hpos hp0; omega
  have hPP : 0 ≤ (sst d s x).1.toInt * (sst d s x).1.toInt ∧ (sst d s x).1.toInt * (sst d s x).1.toInt ≤ 1000000000000000 := by
    have := mul_rng (A := 20000000) (B := 20000000) (show -20000000 ≤ (sst d s x).1.toInt ∧ (sst d s x).1.toInt ≤ 20000000 by omega) (show -20000000 ≤ (sst d s x).1.toInt ∧ (sst d s x).1.toInt ≤ 20000000 by omega)
    refine ⟨?_, by omega⟩
    rcases Int.le_total 0 (sst d s x).1.toInt with q | q
    · exact Int.mul_nonneg q q
    · have := Int.mul_nonneg (show 0 ≤ -(sst d s x).1.toInt by omega) (show 0 ≤ -(sst d s x).1.toInt by omega)
      rw [Int.neg_mul_neg] at this; exact this
  have e3 : ((sst d s x).1 * (sst d s x).1).toInt = (sst d s x).1.toInt * (sst d s x).1.toInt := i64_mul (by omega) (by omega)
  have e4 : (d - (sst d s x).1 * (sst d s x).1).toInt = d.toInt - (sst d s x).1.toInt * (sst d s x).1.toInt := by
    rw [i64_sub (by rw [e3]; omega) (by rw [e3]; omega), e3]
  have e5 : (sst d s x).2.toInt = Q' := by
    show ((d - (sst d s x).1 * (sst d s x).1) / x.2).toInt = _
    rw [i64_div (by rw [e4]; omega), e4, hQ']
    exact Int.mul_tdiv_cancel_left _ q0
  have hdv : Q' ∣ d.toInt - (sst d s x).1.toInt * (sst d s x).1.toInt := ⟨x.2.toInt, by rw [hQ', Int.mul_comm]⟩
  have hmain : Q' ≠ 0 ∧ -(B + 70000) ≤ Q' ∧ Q' ≤ B + 70000 ∧ (0 < Q' → Q' ≤ (sst d s x).1.toInt + s.toInt) ∧ (Q' < 0 → (sst d s x).1.toInt + s.toInt + 1 ≤ Q') := by
    rcases Int.lt_or_gt_of_ne q0 with hn | hp0
    · obtain ⟨a, b⟩ := hneg hn
      obtain ⟨c1, c2, c3⟩ := surd_neg s0 s2 s3 hn (P' := (sst d s x).1.toInt) (by omega) (by omega) hQ'
      refine ⟨by omega, by omega, by omega, fun _ => by omega, fun h => by omega⟩
    · obtain ⟨a, b⟩ := hpos hp0
      obtain ⟨c1, c2, c3, c4, c5⟩ := surd_pos s0 s2 s3 hp0 (P' := (sst d s x).1.toInt) (by omega) (by omega) hQ'
      exact ⟨c1, by omega, by omega, c4, c5⟩
  obtain ⟨m1, m2, m3, m4, m5⟩ := hmain
  refine ⟨⟨⟨s0, s1, s2, s3⟩, by rw [e5]; exact m1, by rw [e5]; exact hdv, by omega, by rw [e5]; omega⟩, fun B' hB' hI => ?_⟩
  obtain ⟨a1, a2⟩ := sfo_spec hI hB'
  rw [e5] at a1 a2
  rcases Int.lt_or_gt_of_ne m1 with hn | hp0
  · obtain ⟨b1, b2⟩ := a2 hn
    have hq := m5 hn
    refine Int.not_lt.mp fun h => ?_
    have := Int.mul_nonneg (show 0 ≤ -(sfo (sst d s x).1 s (sst d s x).2).toInt by omega) (show 0 ≤ -Q' by omega)
    rw [Int.neg_mul_neg] at this
    omega
  · obtain ⟨b1, b2⟩ := a1 hp0
    have hq := m4 hp0
    refine Int.not_lt.mp fun h => ?_
    have := Int.mul_nonneg (show 0 ≤ -(sfo (sst d s x).1 s (sst d s x).2).toInt by omega) (show 0 ≤ Q' by omega)
    rw [Int.neg_mul] at this
    omega
theorem ssq_ok {d s : Int64} {x : Int64 × Int64} (h : sIv d s x 100000) : ∀ k, k ≤ 100 → sIv d s (ssq d s x k) (100000 + 70000 * k) := by
  intro k
  induction k with
  | zero =>
    intro _
    show sIv d s x _
    simpa using h
  | succ k ih =>
    intro hk
    have := (sst_ok (ih (by omega)) (by omega) (by omega)).1
    rw [show (100000 + 70000 * ((k + 1 : Nat) : Int)) = 100000 + 70000 * (k : Int) + 70000 by omega]
    exact this
theorem ssq_one {d s : Int64} {x : Int64 × Int64} (h : sIv d s x 100000) {k : Nat} (hk : k < 99) : 1 ≤ (sfo (ssq d s x (k + 1)).1 s (ssq d s x (k + 1)).2).toInt :=
  (sst_ok (ssq_ok h k (by omega)) (by omega) (by omega)).2 _ (by omega) (ssq_ok h (k + 1) (by omega))
theorem ssq_ne {d s : Int64} {x : Int64 × Int64} (h : sIv d s x 100000) {k : Nat} (hk : k ≤ 100) : ¬ (ssq d s x k).2 = 0 := ne_of_toInt (ssq_ok h k hk).2.1
