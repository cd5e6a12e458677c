/-! a question: a comparison, the class's whole -/
section
variable {I : Nat → Nat → Int32} {J : Nat → Nat → Int64} {R : Nat → Nat → Option Nat} {b : Nat → Nat} {n N : Nat} {σ : PS} {P : Rcp} {r : Nat}
theorem qA_f {I1 : Nat → Nat → Int32} (hr : r < 10) (h : qA I R P r) (f : fA5 I I1) : qA I1 R P r := by
  obtain ⟨hR, h1, h6, ht, h7⟩ := h
  exact ⟨hR, h1, by rw [f _ _ (by omega)]; exact h6, fun j hj => by rw [f _ _ (by omega)]; exact ht j hj, by rw [f _ _ (by omega)]; exact h7⟩
theorem a_67b {y2 y5 : Int32} {τ ρ : PS} (hr : r < 10) (h : qA I R P r) (hp : psA I b n N τ) (hs : csg b n ρ = -1 ∨ csg b n ρ = 0 ∨ csg b n ρ = 1) {σ2 : PS} (h2 : vcd b n σ = 256 → y2 = fgv b n 0 σ) (h5 : vcd b n σ2 = 256 → y5 = fgv b n 0 σ2) : ∃ m, z_X4_parseComparison_b67 SA 55 20000 (I, J, R) (vcd b n σ) y2 (csg b n ρ) (vcd b n σ2) y5 0 0 0 = some (m, (I, J, R)) ∧ (τ.2.1 = 0 → ∀ i, mbt m i = (decide (i < rwL P r) && cm (csg b n ρ) (vV b n σ (rwG P r) (rwL P r) i) (vV b n σ2 (rwG P r) (rwL P r) i))) := by
  have hl := rwL_le P r
  by_cases c : τ.2.1 = 0
  · obtain ⟨m, e, hm⟩ := a_67 (J := J) hr h (hp.2.2.1.trans c) hs h2 h5 (rwL P r) 20000 0 0 (by omega) (by omega) (fun i => by rw [mbt_0, decide_eq_false (Nat.not_lt_zero _), Bool.false_and])
    exact ⟨m, e, fun _ => hm⟩
  · exact ⟨0, a_67n hr h (by rw [hp.2.2.1]; exact c), fun q => absurd q c⟩
theorem a_cmp (hr : r < 10) (ht : tkc b n N) (hp : psA I b n N σ) (h : qA I R P r) : ∃ I1 m, z_X4_parseComparison SA (I, J, R) 55 = some (m, (I1, J, R)) ∧ psA I1 b n N (cqS b n σ) ∧ fA5 I I1 ∧ ((cqS b n σ).2.1 = 0 → ∀ i, mbt m i = (decide (i < rwL P r) && cqV b n σ (rwG P r) (rwL P r) i)) := by
  have hR := h.1
  -- the second half
  have snd : ∀ (I1 : Nat → Nat → Int32) (y2 : Int32), psA I1 b n N (vS b n σ) → fA5 I I1 → (vcd b n σ = 256 → y2 = fgv b n 0 σ) → ∃ I2 m, z_X4_parseComparison_b24 SA 55 (I1, J, R) (vcd b n σ) y2 = some (m, (I2, J, R)) ∧ psA I2 b n N (cqS b n σ) ∧ fA5 I I2 ∧ ((cqS b n σ).2.1 = 0 → ∀ i, mbt m i = (decide (i < rwL P r) && cqV b n σ (rwG P r) (rwL P r) i)) := fun I1 y2 p1 f1 h2 => by
    obtain ⟨I2, e2, p2, f2⟩ := a_csgn (J := J) hR ht p1
    obtain ⟨ρ, eρ⟩ : ∃ z, z = csS b n (vS b n σ) := ⟨_, rfl⟩
    rw [← eρ] at p2
    obtain ⟨I3, e3, p3, f3⟩ := a_vcode (J := J) hR ht p2
    have eC : cqS b n σ = vS b n ρ := by unfold cqS; rw [← eρ]
    have eV : ∀ i, cqV b n σ (rwG P r) (rwL P r) i = cm (csg b n (vS b n σ)) (vV b n σ (rwG P r) (rwL P r) i) (vV b n ρ (rwG P r) (rwL P r) i) := fun i => by unfold cqV; rw [← eρ]
    unfold z_X4_parseComparison_b24
    rw [e2, b2_N, e3, b2_N]
    by_cases cv : vcd b n ρ = 256
    · rw [if_pos cv] at p3
      obtain ⟨I4, e4, p4, f4⟩ := a_figs (J := J) (L := 0) hR ht p3 (by decide)
      have e4' : z_X10_takeFigures SA (I3, J, R) 48 0 = some (fgv b n 0 ρ, (I4, J, R)) := e4
      have p5 : psA I4 b n N (cqS b n σ) := by rw [eC]; unfold vS; rw [if_pos cv]; exact p4
      have ff := f1.trans (f2.trans (f3.trans f4))
      obtain ⟨m, e5, hm⟩ := a_67b (J := J) (y2 := y2) (y5 := fgv b n 0 ρ) (ρ := vS b n σ) (σ := σ) (σ2 := ρ) hr (qA_f hr h ff) p5 csg_or h2 (fun _ => rfl)
      refine ⟨I4, m, ?_, p5, ff, fun q i => by rw [eV]; exact hm q i⟩
      rw [if_pos cv]
      simp only [rA_55_0 hR, b1_N, kA_48, ck_N, e4', b2_N]
      exact e5
    · rw [if_neg cv] at p3
      have p5 : psA I3 b n N (cqS b n σ) := by rw [eC]; unfold vS; rw [if_neg cv]; exact p3
      have ff := f1.trans (f2.trans f3)
      obtain ⟨m, e5, hm⟩ := a_67b (J := J) (y2 := y2) (y5 := 0) (ρ := vS b n σ) (σ := σ) (σ2 := ρ) hr (qA_f hr h ff) p5 csg_or h2 (fun q => absurd q cv)
      refine ⟨I3, m, ?_, p5, ff, fun q i => by rw [eV]; exact hm q i⟩
      rw [if_neg cv]
      exact e5
  obtain ⟨I1, e1, p1, f1⟩ := a_vcode (J := J) hR ht hp
  unfold z_X4_parseComparison
  rw [e1, b2_N]
  by_cases cv : vcd b n σ = 256
  · rw [if_pos cv] at p1
    obtain ⟨I2, e2, p2, f2⟩ := a_figs (J := J) (L := 0) hR ht p1 (by decide)
    have e2' : z_X10_takeFigures SA (I1, J, R) 48 0 = some (fgv b n 0 σ, (I2, J, R)) := e2
    rw [if_pos cv]
    simp only [rA_55_0 hR, b1_N, kA_48, ck_N, e2', b2_N]
    exact snd I2 _ (by unfold vS; rw [if_pos cv]; exact p2) (f1.trans f2) (fun _ => rfl)
  · rw [if_neg cv] at p1
    rw [if_neg cv]
    exact snd I1 0 (by unfold vS; rw [if_neg cv]; exact p1) f1 (fun q => absurd q cv)
end
