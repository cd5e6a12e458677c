/-! a question: a comparison, the class's loop -/
theorem csg_or {b : Nat → Nat} {n : Nat} {σ : PS} : csg b n σ = -1 ∨ csg b n σ = 0 ∨ csg b n σ = 1 := by
  unfold csg
  split
  · exact Or.inl rfl
  · split
    · exact Or.inr (Or.inr rfl)
    · exact Or.inr (Or.inl rfl)
section
variable {I : Nat → Nat → Int32} {J : Nat → Nat → Int64} {R : Nat → Nat → Option Nat} {b : Nat → Nat} {n N : Nat} {σ σ2 : PS} {P : Rcp} {r : Nat}
theorem a_67 {s y2 y5 : Int32} (hr : r < 10) (h : qA I R P r) (h7 : I 48 7 = 0) (hs : s = -1 ∨ s = 0 ∨ s = 1) (h2 : vcd b n σ = 256 → y2 = fgv b n 0 σ) (h5 : vcd b n σ2 = 256 → y5 = fgv b n 0 σ2) : ∀ (d fuel k : Nat) (m : Int64), d < fuel → k + d = rwL P r → (∀ i, mbt m i = (decide (i < k) && cm s (vV b n σ (rwG P r) (rwL P r) i) (vV b n σ2 (rwG P r) (rwL P r) i))) →
    ∃ m', z_X4_parseComparison_b67 SA 55 fuel (I, J, R) (vcd b n σ) y2 s (vcd b n σ2) y5 m (sml (rwG P r) k 0 0) (nI k) = some (m', (I, J, R)) ∧ ∀ i, mbt m' i = (decide (i < rwL P r) && cm s (vV b n σ (rwG P r) (rwL P r) i) (vV b n σ2 (rwG P r) (rwL P r) i)) := by
  have hl := rwL_le P r
  have k6 := (rwA_k (rwA_r hr)).1
  obtain ⟨hR, h1, h6, ht, -⟩ := id h
  intro d
  induction d with
  | zero =>
    intro fuel k m hf hk hm
    obtain ⟨f, rfl⟩ : ∃ f, fuel = f + 1 := ⟨fuel - 1, by omega⟩
    have e : k = rwL P r := by omega
    have c : nI (rwL P r) ≤ nI k := nI_le (by omega) (by omega)
    refine ⟨m, ?_, fun i => by rw [hm i, e]⟩
    rw [z_X4_parseComparison_b67]
    simp only [h1, b1_N, k6, ck_N, h6, c, if_true]
  | succ d ih =>
    intro fuel k m hf hk hm
    obtain ⟨f, rfl⟩ : ∃ f, fuel = f + 1 := ⟨fuel - 1, by omega⟩
    have c : ¬ nI (rwL P r) ≤ nI k := nI_ge (by omega) (by omega)
    have c60 : ¬ (60 : Int32) ≤ nI k := nI_ge (b := 60) (by omega) (by omega)
    have tm : z_X6_termAt SA (I, J, R) (58 + 6 * r) (nI k) = some (rwG P r k) := by rw [a_tm hR (rwA_r hr) (show k < 60 by omega), ht k (by omega)]
    have sm : sml (rwG P r) k 0 0 + (rwG P r k).toInt64 = sml (rwG P r) (k + 1) 0 0 := by rw [sml_snoc, Nat.zero_add]
    obtain ⟨m', e', hm'⟩ := ih f (k + 1) (if cm s (vV b n σ (rwG P r) (rwL P r) k) (vV b n σ2 (rwG P r) (rwL P r) k) = true then m ||| ((1 : Int64) <<< (Int32.toInt64 (nI k) &&& 63)) else m) (by omega) (by omega) (fun i => by
      by_cases cc : cm s (vV b n σ (rwG P r) (rwL P r) k) (vV b n σ2 (rwG P r) (rwL P r) k) = true
      · rw [if_pos cc, mbt_or, hm i, mbt_one (by omega)]
        by_cases ci : i = k
        · rw [ci, cc, decide_eq_true (rfl : k = k), decide_eq_true (show k < k + 1 by omega), Bool.or_true]; rfl
        · rw [decide_eq_false ci, Bool.or_false]
          congr 1
          exact decide_eq_decide.mpr (by omega)
      · rw [if_neg cc, hm i]
        by_cases ci : i = k
        · rw [ci, Bool.eq_false_iff.mpr cc, Bool.and_false, Bool.and_false]
        · congr 1
          exact decide_eq_decide.mpr (by omega))
    have v2 : ∀ X : Int64, z_X4_parseComparison_b132 SA 55 (z_X4_parseComparison_b67 SA 55 f) (I, J, R) (vcd b n σ) y2 s (vcd b n σ2) y5 m (sml (rwG P r) (k + 1) 0 0) (nI k) X = z_X4_parseComparison_b158 SA 55 (z_X4_parseComparison_b67 SA 55 f) (I, J, R) (vcd b n σ) y2 s (vcd b n σ2) y5 m (sml (rwG P r) (k + 1) 0 0) (nI k) X (vV b n σ2 (rwG P r) (rwL P r) k) := fun X => by
      unfold z_X4_parseComparison_b132
      by_cases cv : vcd b n σ2 = 256
      · rw [if_pos cv, vV_0 cv, h5 cv]
      · rw [if_neg cv, a_valAt hr h cv (show k < rwL P r by omega), b1_N]
    refine ⟨m', ?_, hm'⟩
    rw [z_X4_parseComparison_b67]
    simp only [h1, b1_N, k6, ck_N, h6, c, if_false, c60, rA_55_0 hR, kA_48, h7, if_true, tm, let_N, sm]
    by_cases cv : vcd b n σ = 256
    · have ey : y2.toInt64 = vV b n σ (rwG P r) (rwL P r) k := by rw [vV_0 cv, h2 cv]
      rw [if_pos cv, v2, a_186 hs, ey]
      exact e'
    · rw [if_neg cv, a_valAt hr h cv (show k < rwL P r by omega), b1_N, v2, a_186 hs]
      exact e'
theorem a_67n {y1 y2 s y4 y5 : Int32} {f : Nat} (hr : r < 10) (h : qA I R P r) (h7 : ¬ I 48 7 = 0) : z_X4_parseComparison_b67 SA 55 (f + 1) (I, J, R) y1 y2 s y4 y5 0 0 0 = some (0, (I, J, R)) := by
  have k6 := (rwA_k (rwA_r hr)).1
  obtain ⟨hR, h1, h6, ht, -⟩ := id h
  have c60 : ¬ (60 : Int32) ≤ 0 := by decide
  rw [z_X4_parseComparison_b67]
  simp only [h1, b1_N, k6, ck_N, h6, c60, if_false, rA_55_0 hR, kA_48, h7]
  split <;> rfl
end
