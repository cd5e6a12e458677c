/-! (P and the root of D) by Q: one step, in whole numbers; S is D's root rounded down, D is no square -/
theorem sq_no {D S P : Int} (hS : 0 ≤ S) (h1 : S * S < D) (h2 : D < (S + 1) * (S + 1)) : D ≠ P * P := by
  intro h
  by_cases a : P ≤ S ∧ -S ≤ P
  · have := Int.mul_nonneg (show 0 ≤ S - P by omega) (show 0 ≤ S + P by omega)
    have e : (S - P) * (S + P) = S * S - P * P := by grind
    omega
  · by_cases b : S < P
    · have := Int.mul_nonneg (show 0 ≤ P - (S + 1) by omega) (show 0 ≤ P + (S + 1) by omega)
      have e : (P - (S + 1)) * (P + (S + 1)) = P * P - (S + 1) * (S + 1) := by grind
      omega
    · have := Int.mul_nonneg (show 0 ≤ -P - (S + 1) by omega) (show 0 ≤ -P + (S + 1) by omega)
      have e : (-P - (S + 1)) * (-P + (S + 1)) = P * P - (S + 1) * (S + 1) := by grind
      omega
theorem surd_dvd {D P Q V P' : Int} (hd : Q ∣ D - P * P) (hP : P' = V * Q - P) : ∃ Q', D - P' * P' = Q * Q' := by
  obtain ⟨c, hc⟩ := hd
  exact ⟨c + (P - P') * V, by subst hP; grind⟩
theorem surd_pos {D S P' Q Q' : Int} (hS : 0 ≤ S) (h1 : S * S < D) (h2 : D < (S + 1) * (S + 1)) (hQ : 0 < Q) (ht1 : P' ≤ S) (ht2 : S - P' < Q) (hq : D - P' * P' = Q * Q') :
    Q' ≠ 0 ∧ -Q ≤ Q' ∧ Q' ≤ 4 * S + 4 + Q ∧ (0 < Q' → Q' ≤ P' + S) ∧ (Q' < 0 → P' + S + 1 ≤ Q') := by
  have e0 : (S + 1) * (S + 1) = S * S + 2 * S + 1 := by grind
  have hD : D ≤ S * S + 2 * S := by omega
  refine ⟨fun h => ?_, ?_, ?_, fun h => ?_, fun h => ?_⟩
  · rw [h, Int.mul_zero] at hq
    exact sq_no (P := P') hS h1 h2 (by omega)
  · refine Int.not_lt.mp fun h => ?_
    have a := Int.mul_nonneg (show 0 ≤ Q by omega) (show 0 ≤ -Q - 1 - Q' by omega)
    have e1 : Q * (-Q - 1 - Q') = -(Q * Q) - Q - Q * Q' := by grind
    have b := Int.mul_nonneg (show 0 ≤ Q - (S - P') by omega) (show 0 ≤ Q + (S - P') by omega)
    have e2 : (Q - (S - P')) * (Q + (S - P')) = Q * Q - S * S + 2 * (S * P') - P' * P' := by grind
    have c := Int.mul_nonneg hS (show 0 ≤ S - P' by omega)
    have e3 : S * (S - P') = S * S - S * P' := by grind
    omega
  · refine Int.not_lt.mp fun h => ?_
    have a := Int.mul_nonneg (show 0 ≤ Q by omega) (show 0 ≤ Q' - (4 * S + 5 + Q) by omega)
    have e1 : Q * (Q' - (4 * S + 5 + Q)) = Q * Q' - 4 * (Q * S) - 5 * Q - Q * Q := by grind
    have b := Int.mul_nonneg hS (show 0 ≤ Q - (S - P') by omega)
    have e2 : S * (Q - (S - P')) = Q * S - S * S + S * P' := by grind
    have c := Int.mul_nonneg hS (show 0 ≤ Q - 1 by omega)
    have e3 : S * (Q - 1) = Q * S - S := by grind
    have d := Int.mul_nonneg (show 0 ≤ S - P' by omega) (show 0 ≤ S - P' by omega)
    have e4 : (S - P') * (S - P') = S * S - 2 * (S * P') + P' * P' := by grind
    have e5 := Int.mul_nonneg (show 0 ≤ Q by omega) (show 0 ≤ Q by omega)
    omega
  · refine Int.not_lt.mp fun hn => ?_
    by_cases hc : 0 ≤ P' + S + 1
    · have a := Int.mul_nonneg (show 0 ≤ Q - (S - P' + 1) by omega) (show 0 ≤ Q' by omega)
      have e1 : (Q - (S - P' + 1)) * Q' = Q * Q' - (S - P' + 1) * Q' := by grind
      have b := Int.mul_nonneg (show 0 ≤ S - P' + 1 by omega) (show 0 ≤ Q' - (P' + S + 1) by omega)
      have e2 : (S - P' + 1) * (Q' - (P' + S + 1)) = (S - P' + 1) * Q' - ((S + 1) * (S + 1) - P' * P') := by grind
      omega
    · have a := Int.mul_nonneg (show 0 ≤ -P' - (S + 1) by omega) (show 0 ≤ -P' + (S + 1) by omega)
      have e1 : (-P' - (S + 1)) * (-P' + (S + 1)) = P' * P' - (S + 1) * (S + 1) := by grind
      have b := Int.mul_pos hQ h
      omega
  · refine Int.not_lt.mp fun hn => ?_
    have hneg : D < P' * P' := by
      have b := Int.mul_pos hQ (show 0 < -Q' by omega)
      have e1 : Q * -Q' = -(Q * Q') := by grind
      omega
    have hP : P' ≤ -S - 1 := by
      refine Int.not_lt.mp fun hx => ?_
      have a := Int.mul_nonneg (show 0 ≤ S - P' by omega) (show 0 ≤ S + P' by omega)
      have e1 : (S - P') * (S + P') = S * S - P' * P' := by grind
      omega
    have a := Int.mul_nonneg (show 0 ≤ Q - (S - P' + 1) by omega) (show 0 ≤ -Q' by omega)
    have e1 : (Q - (S - P' + 1)) * -Q' = -(Q * Q') + (S - P' + 1) * Q' := by grind
    have b := Int.mul_nonneg (show 0 ≤ S - P' + 1 by omega) (show 0 ≤ P' + S - Q' by omega)
    have e2 : (S - P' + 1) * (P' + S - Q') = S * S + S - P' * P' + P' - (S - P' + 1) * Q' := by grind
    omega
theorem surd_neg {D S P' Q Q' : Int} (hS : 0 ≤ S) (h1 : S * S < D) (h2 : D < (S + 1) * (S + 1)) (hQ : Q < 0) (ht1 : S + 1 ≤ P') (ht2 : P' < S + 1 - Q) (hq : D - P' * P' = Q * Q') :
    0 < Q' ∧ Q' ≤ 4 * S + 4 - Q ∧ Q' ≤ P' + S := by
  have e0 : (S + 1) * (S + 1) = S * S + 2 * S + 1 := by grind
  have hD : S * S + 1 ≤ D := by omega
  have hneg : D < P' * P' := by
    have a := Int.mul_nonneg (show 0 ≤ P' - (S + 1) by omega) (show 0 ≤ P' + (S + 1) by omega)
    have e1 : (P' - (S + 1)) * (P' + (S + 1)) = P' * P' - (S + 1) * (S + 1) := by grind
    omega
  have hpos : 0 < Q' := by
    refine Int.not_le.mp fun h => ?_
    have a := Int.mul_nonneg (show 0 ≤ -Q by omega) (show 0 ≤ -Q' by omega)
    have e1 : -Q * -Q' = Q * Q' := by grind
    omega
  refine ⟨hpos, ?_, ?_⟩
  · refine Int.not_lt.mp fun h => ?_
    have a := Int.mul_nonneg (show 0 ≤ -Q by omega) (show 0 ≤ Q' - (4 * S + 5 - Q) by omega)
    have e1 : -Q * (Q' - (4 * S + 5 - Q)) = -(Q * Q') + 4 * (Q * S) + 5 * Q - Q * Q := by grind
    have b := Int.mul_nonneg (show 0 ≤ S + 1 - Q - P' by omega) (show 0 ≤ S + 1 - Q + P' by omega)
    have e2 : (S + 1 - Q - P') * (S + 1 - Q + P') = S * S + 2 * S + 1 - 2 * (Q * S) - 2 * Q + Q * Q - P' * P' := by grind
    have c := Int.mul_nonneg hS (show 0 ≤ -Q - 1 by omega)
    have e3 : S * (-Q - 1) = -(Q * S) - S := by grind
    omega
  · refine Int.not_lt.mp fun h => ?_
    have a := Int.mul_nonneg (show 0 ≤ -Q - (P' - S) by omega) (show 0 ≤ Q' by omega)
    have e1 : (-Q - (P' - S)) * Q' = -(Q * Q') - (P' - S) * Q' := by grind
    have b := Int.mul_nonneg (show 0 ≤ P' - S by omega) (show 0 ≤ Q' - (P' + S + 1) by omega)
    have e2 : (P' - S) * (Q' - (P' + S + 1)) = (P' - S) * Q' - (P' * P' + P' - S * S - S) := by grind
    omega
