/-! a question: facts, where nothing is read any more -/
section
variable {I I' : Nat → Nat → Int32} {J J' : Nat → Nat → Int64} {R : Nat → Nat → Option Nat} {b : Nat → Nat} {n N : Nat} {σ : PS} {P : Rcp} {r : Nat} {ask : Int32}
theorem vS_n (h : ¬ σ.2.1 = 0) : vS b n σ = σ := by
  have hv : vcd b n σ = 256 := vcd_n (k := 256) (by decide) (Or.inl h)
  unfold vS fgs fgo
  rw [if_pos hv, isC_n h, Bool.false_and, if_neg (by decide), if_neg (by decide), flw_n h]
theorem csS_n (h : ¬ σ.2.1 = 0) : csS b n σ = σ := by
  unfold csS
  rw [isC_n h, isC_n h, isC_n h, if_neg (by decide), if_neg (by decide), if_neg (by decide), flw_n h]
theorem cqS_n (h : ¬ σ.2.1 = 0) : cqS b n σ = σ := by
  unfold cqS
  rw [vS_n h, csS_n h, vS_n h]
theorem b_factN {f : Nat} (hr : r < 10) (ht : tkc b n N) (hN : σ.1 ≤ N) (hp : psB I' b n σ) (h : qB I' P r ask) (hfl : ¬ σ.2.1 = 0) : ∃ I1 v, z_X12_readFact TB (f + 1) (I', J', rB) 0 = some (v, (I1, J', rB)) ∧ psB I1 b n σ ∧ gF I' I1 ∧ (v = 0 ∨ v = 1) := by
  obtain ⟨I1, v, e, p, g, hv, -⟩ := b_cmp (J' := J') (PF := z_X12_readFact TB f) hr ht hN hp h (isC_n hfl) (isC_n hfl)
  rw [cqS_n hfl] at p
  exact ⟨I1, v, e, p, g, hv⟩
theorem a_factC {PF : fh_H → Nat → Int32 → Option (Int64 × fh_H)} {x : Int32} (hr : r < 10) (ht : tkc b n N) (hp : psA I b n N σ) (h : qA I R P r) (h4 : isC b n 262 σ = false) (h123 : isC b n 123 σ = false) : ∃ I1 m, z_X4_parseFact_F SA PF (I, J, R) 55 x = some (m, (I1, J, R)) ∧ psA I1 b n N (cqS b n σ) ∧ fA5 I I1 ∧ ((cqS b n σ).2.1 = 0 → ∀ i, mbt m i = (decide (i < rwL P r) && cqV b n σ (rwG P r) (rwL P r) i)) := by
  obtain ⟨I1, m, e, p, f, hm⟩ := a_cmp (J := J) hr ht hp h
  have w4 := a_isN (J := J) h.1 ht hp 262
  have w123 := a_isN (J := J) h.1 ht hp 123
  rw [h4] at w4
  rw [h123] at w123
  have b0 : bI false = 0 := rfl
  refine ⟨I1, m, ?_, p, f, hm⟩
  unfold z_X4_parseFact_F
  simp only [rA_55_0 h.1, b1_N, kA_48, ck_N, w4, w123, b0, if_true, e, b2_N]
end
