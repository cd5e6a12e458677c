/-! a question: values -/
def vcd (b : Nat → Nat) (n : Nat) (σ : PS) : Int32 := if isC b n 263 σ = true then 263 else if isC b n 264 σ = true then 264 else if isC b n 265 σ = true then 265 else if isC b n 266 σ = true then 266 else if isC b n 267 σ = true then 267 else 256
def vS (b : Nat → Nat) (n : Nat) (σ : PS) : PS := if vcd b n σ = 256 then fgs b n 0 σ else adv σ
def vV (b : Nat → Nat) (n : Nat) (σ : PS) (g : Nat → Int32) (K k : Nat) : Int64 := if vcd b n σ = 263 then (nI k).toInt64 else if vcd b n σ = 264 then (g k).toInt64 else if vcd b n σ = 265 then (if k = 0 then 0 else (g (k - 1)).toInt64) else if vcd b n σ = 266 then sml g (k + 1) 0 0 else if vcd b n σ = 267 then (nI (K - 1 - k)).toInt64 else (fgv b n 0 σ).toInt64
section
variable {I I' : Nat → Nat → Int32} {J J' : Nat → Nat → Int64} {R : Nat → Nat → Option Nat} {b : Nat → Nat} {n N : Nat} {σ : PS}
theorem a_vc1 {f : Nat} {y : Int32} (hR : RA R) (ht : tkc b n N) (h : psA I b n N σ) (hy : ¬ (267 : Int32) < y) (hy2 : ¬ y = 257) : ∃ I1, z_X4_parseValueCode_b4 SA 55 (f + 1) (I, J, R) y = (if isC b n y σ = true then some (y, (I1, J, R)) else z_X4_parseValueCode_b4 SA 55 f (I1, J, R) (y + 1)) ∧ psA I1 b n N (if isC b n y σ = true then adv σ else σ) ∧ fA5 I I1 := by
  obtain ⟨I1, e1, p1, f1⟩ := a_take (J := J) hR ht h hy2
  refine ⟨I1, ?_, p1, f1⟩
  rw [z_X4_parseValueCode_b4, if_neg hy]
  simp only [rA_55_0 hR, b1_N, kA_48, ck_N, e1, b2_N, let_N]
  cases isC b n y σ <;> rfl
theorem a_vcode (hR : RA R) (ht : tkc b n N) (h : psA I b n N σ) : ∃ I1, z_X4_parseValueCode SA (I, J, R) 55 = some (vcd b n σ, (I1, J, R)) ∧ psA I1 b n N (if vcd b n σ = 256 then σ else adv σ) ∧ fA5 I I1 := by
  unfold z_X4_parseValueCode vcd
  obtain ⟨I1, e1, p1, f1⟩ := a_vc1 (J := J) (f := 19999) (y := 263) hR ht h (by decide) (by decide)
  rw [e1]
  by_cases c1 : isC b n 263 σ = true
  · rw [if_pos c1] at p1 ⊢
    rw [if_pos c1, if_neg (by decide)]; exact ⟨I1, rfl, p1, f1⟩
  rw [if_neg c1] at p1 ⊢
  rw [if_neg c1]
  obtain ⟨I2, e2, p2, f2⟩ := a_vc1 (J := J) (f := 19998) (y := 264) hR ht p1 (by decide) (by decide)
  have e2' : z_X4_parseValueCode_b4 SA 55 19999 (I1, J, R) (263 + 1) = _ := e2
  rw [e2']
  by_cases c2 : isC b n 264 σ = true
  · rw [if_pos c2] at p2 ⊢
    rw [if_pos c2, if_neg (by decide)]; exact ⟨I2, rfl, p2, f1.trans f2⟩
  rw [if_neg c2] at p2 ⊢
  rw [if_neg c2]
  obtain ⟨I3, e3, p3, f3⟩ := a_vc1 (J := J) (f := 19997) (y := 265) hR ht p2 (by decide) (by decide)
  have e3' : z_X4_parseValueCode_b4 SA 55 19998 (I2, J, R) (264 + 1) = _ := e3
  rw [e3']
  by_cases c3 : isC b n 265 σ = true
  · rw [if_pos c3] at p3 ⊢
    rw [if_pos c3, if_neg (by decide)]; exact ⟨I3, rfl, p3, f1.trans (f2.trans f3)⟩
  rw [if_neg c3] at p3 ⊢
  rw [if_neg c3]
  obtain ⟨I4, e4, p4, f4⟩ := a_vc1 (J := J) (f := 19996) (y := 266) hR ht p3 (by decide) (by decide)
  have e4' : z_X4_parseValueCode_b4 SA 55 19997 (I3, J, R) (265 + 1) = _ := e4
  rw [e4']
  by_cases c4 : isC b n 266 σ = true
  · rw [if_pos c4] at p4 ⊢
    rw [if_pos c4, if_neg (by decide)]; exact ⟨I4, rfl, p4, f1.trans (f2.trans (f3.trans f4))⟩
  rw [if_neg c4] at p4 ⊢
  rw [if_neg c4]
  obtain ⟨I5, e5, p5, f5⟩ := a_vc1 (J := J) (f := 19995) (y := 267) hR ht p4 (by decide) (by decide)
  have e5' : z_X4_parseValueCode_b4 SA 55 19996 (I4, J, R) (266 + 1) = _ := e5
  rw [e5']
  by_cases c5 : isC b n 267 σ = true
  · rw [if_pos c5] at p5 ⊢
    rw [if_pos c5, if_neg (by decide)]; exact ⟨I5, rfl, p5, f1.trans (f2.trans (f3.trans (f4.trans f5)))⟩
  rw [if_neg c5] at p5 ⊢
  rw [if_neg c5, if_pos rfl]
  refine ⟨I5, ?_, p5, f1.trans (f2.trans (f3.trans (f4.trans f5)))⟩
  rw [z_X4_parseValueCode_b4, if_pos (by decide)]
theorem vcd_n {k : Int32} (hk : k ≠ 263 ∧ k ≠ 264 ∧ k ≠ 265 ∧ k ≠ 266 ∧ k ≠ 267) (h : ¬ σ.2.1 = 0 ∨ cd b n (tS b n σ.1) = k) : vcd b n σ = 256 := by
  have z : ∀ c : Int32, k ≠ c → ¬ isC b n c σ = true := fun c hc q => by
    unfold isC at q
    rw [decide_eq_true_eq] at q
    rcases h with h | h
    · exact h q.1
    · exact hc (h.symm.trans q.2)
  unfold vcd
  rw [if_neg (z _ hk.1), if_neg (z _ hk.2.1), if_neg (z _ hk.2.2.1), if_neg (z _ hk.2.2.2.1), if_neg (z _ hk.2.2.2.2)]
end
