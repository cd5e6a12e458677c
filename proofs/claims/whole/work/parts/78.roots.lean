/-! square roots, rounded down -/
theorem l64 {n : Nat} (h : n < 9223372036854775808) : (lN n).toInt = (n : Int) := lg_ofNat_toInt (by omega)
theorem l64_lt {a b : Nat} (ha : a < 9223372036854775808) (hb : b < 9223372036854775808) : lN a < lN b ↔ a < b := by
  rw [Int64.lt_iff_toInt_lt, l64 ha, l64 hb]; omega
theorem l64_le0 {a : Nat} (ha : a < 9223372036854775808) : lN a ≤ (0 : Int64) ↔ a = 0 := by
  rw [Int64.le_iff_toInt_le, l64 ha]
  show (a : Int) ≤ 0 ↔ _
  omega
def isq (D s : Nat) : Prop := s * s ≤ D ∧ D < (s + 1) * (s + 1)
theorem isq_one {D s t : Nat} (h : isq D s) (h2 : isq D t) : s = t := by
  rcases Nat.lt_trichotomy s t with q | q | q
  · have := Nat.mul_le_mul (show s + 1 ≤ t from q) (show s + 1 ≤ t from q)
    have := h.2; have := h2.1; omega
  · exact q
  · have := Nat.mul_le_mul (show t + 1 ≤ s from q) (show t + 1 ≤ s from q)
    have := h2.2; have := h.1; omega
theorem half_d : ∀ k, k < 21 → lN (2 ^ k) / 2 = (if k = 0 then 0 else lN (2 ^ (k - 1))) := by decide +kernel
theorem half_s : ∀ k, k < 21 → lN (2 ^ k) >>> (Int32.toInt64 (1 : Int32) &&& 63) = (if k = 0 then 0 else lN (2 ^ (k - 1))) := by decide +kernel
theorem b_root7 {D : Nat} (hD : D < 1099511627776) : ∀ (k fuel s : Nat), k < fuel → k ≤ 21 → s + 2 ^ k ≤ 2097152 → s * s ≤ D → D < (s + 2 ^ k) * (s + 2 ^ k) →
    ∃ t, z_X12_rootOf_b7 fuel (lN D) (lN s) (if k = 0 then 0 else lN (2 ^ (k - 1))) = some (lN t) ∧ isq D t ∧ t < 2097152 := by
  intro k
  induction k with
  | zero =>
    intro fuel s hf hk hb h1 h2
    obtain ⟨f, rfl⟩ : ∃ f, fuel = f + 1 := ⟨fuel - 1, by omega⟩
    exact ⟨s, by rw [z_X12_rootOf_b7, if_pos rfl, if_pos (by decide)], ⟨h1, h2⟩, by omega⟩
  | succ k ih =>
    intro fuel s hf hk hb h1 h2
    obtain ⟨f, rfl⟩ : ∃ f, fuel = f + 1 := ⟨fuel - 1, by omega⟩
    have hp : 2 ^ (k + 1) = 2 ^ k + 2 ^ k := by rw [Nat.pow_succ]; omega
    have hpos : 0 < 2 ^ k := Nat.two_pow_pos k
    have hm : (s + 2 ^ k) * (s + 2 ^ k) < 9223372036854775808 := Nat.lt_of_le_of_lt (Nat.mul_le_mul (show s + 2 ^ k ≤ 2097152 by omega) (show s + 2 ^ k ≤ 2097152 by omega)) (by decide)
    rw [z_X12_rootOf_b7, if_neg (show ¬ k + 1 = 0 by omega), Nat.add_sub_cancel, if_neg (by rw [l64_le0 (by omega)]; omega), lN_add, lN_mul]
    simp only [let_e, half_d k (by omega)]
    by_cases hc : D < (s + 2 ^ k) * (s + 2 ^ k)
    · rw [if_pos ((l64_lt (by omega) hm).mpr hc)]
      exact ih f s (by omega) (by omega) (by omega) h1 hc
    · rw [if_neg (fun h => hc ((l64_lt (by omega) hm).mp h))]
      exact ih f (s + 2 ^ k) (by omega) (by omega) (by omega) (by omega) (by rw [show s + 2 ^ k + 2 ^ k = s + 2 ^ (k + 1) by omega]; exact h2)
theorem b_root {D : Nat} (hD : D < 268435456) : ∃ t, z_X12_rootOf (lN D) = some (lN t) ∧ isq D t ∧ t < 2097152 := b_root7 (by omega) 21 20000 0 (by omega) (by omega) (by decide) (by omega) (Nat.lt_of_lt_of_le hD (by decide))
theorem a_root7 {D : Nat} (hD : D < 1099511627776) : ∀ (k fuel s : Nat), k < fuel → k ≤ 21 → s + 2 ^ k ≤ 2097152 → s * s ≤ D → D < (s + 2 ^ k) * (s + 2 ^ k) →
    ∃ t, z_X11_wholeRoot_b7 fuel (lN D) (lN s) (if k = 0 then 0 else lN (2 ^ (k - 1))) = some (lN t) ∧ isq D t ∧ t < 2097152 := by
  intro k
  induction k with
  | zero =>
    intro fuel s hf hk hb h1 h2
    obtain ⟨f, rfl⟩ : ∃ f, fuel = f + 1 := ⟨fuel - 1, by omega⟩
    exact ⟨s, by rw [z_X11_wholeRoot_b7, if_pos rfl, if_pos (by decide)], ⟨h1, h2⟩, by omega⟩
  | succ k ih =>
    intro fuel s hf hk hb h1 h2
    obtain ⟨f, rfl⟩ : ∃ f, fuel = f + 1 := ⟨fuel - 1, by omega⟩
    have hp : 2 ^ (k + 1) = 2 ^ k + 2 ^ k := by rw [Nat.pow_succ]; omega
    have hpos : 0 < 2 ^ k := Nat.two_pow_pos k
    have hm : (s + 2 ^ k) * (s + 2 ^ k) < 9223372036854775808 := Nat.lt_of_le_of_lt (Nat.mul_le_mul (show s + 2 ^ k ≤ 2097152 by omega) (show s + 2 ^ k ≤ 2097152 by omega)) (by decide)
    rw [z_X11_wholeRoot_b7, if_neg (show ¬ k + 1 = 0 by omega), Nat.add_sub_cancel, if_neg (by rw [l64_le0 (by omega)]; omega), lN_add, lN_mul]
    simp only [let_e, half_s k (by omega)]
    by_cases hc : D < (s + 2 ^ k) * (s + 2 ^ k)
    · rw [if_pos ((l64_lt (by omega) hm).mpr hc)]
      exact ih f s (by omega) (by omega) (by omega) h1 hc
    · rw [if_neg (fun h => hc ((l64_lt (by omega) hm).mp h))]
      exact ih f (s + 2 ^ k) (by omega) (by omega) (by omega) (by omega) (by rw [show s + 2 ^ k + 2 ^ k = s + 2 ^ (k + 1) by omega]; exact h2)
theorem a_root {D : Nat} (hD : D < 268435456) : ∃ t, z_X11_wholeRoot (lN D) = some (lN t) ∧ isq D t ∧ t < 2097152 := a_root7 (by omega) 14 20000 0 (by omega) (by omega) (by decide) (by omega) (Nat.lt_of_lt_of_le hD (by decide))
