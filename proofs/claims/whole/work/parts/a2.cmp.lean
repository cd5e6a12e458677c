/-! a question: one comparison -/
def csg (b : Nat → Nat) (n : Nat) (σ : PS) : Int32 := if isC b n 60 σ = true then -1 else if isC b n 62 σ = true then 1 else 0
def csS (b : Nat → Nat) (n : Nat) (σ : PS) : PS := if isC b n 60 σ = true then adv σ else if isC b n 62 σ = true then adv σ else if isC b n 61 σ = true then adv σ else flw b n 1 σ
section
variable {I I' : Nat → Nat → Int32} {J J' : Nat → Nat → Int64} {R : Nat → Nat → Option Nat} {b : Nat → Nat} {n N : Nat} {σ : PS} {P : Rcp} {r : Nat} {ask : Int32}
theorem b_value (hr : r < 10) (ht : tkc b n N) (hp : psB I' b n σ) (h : qB I' P r ask) : ∃ I1 v, z_X12_readValue TB (I', J', rB) 0 = some (v, (I1, J', rB)) ∧ psB I1 b n (vS b n σ) ∧ gF I' I1 ∧ ((vS b n σ).2.1 = 0 → ∀ k, ask = nI k → k < rwL P r → v = vV b n σ (rwG P r) (rwL P r) k) := by
  have h41 := hp.2.2.1
  obtain ⟨In, vn, en, pn, hn, fn⟩ := b_number (J := J') (L := 0) ht hp (by decide)
  have en' : z_X12_number TB (I', J', rB) 0 0 9999 = some (vn, (In, J', rB)) := en
  have numv : vcd b n σ = 256 → (vS b n σ).2.1 = 0 → ∀ k, ask = nI k → k < rwL P r → vn.toInt64 = vV b n σ (rwG P r) (rwL P r) k := fun hv q k _ _ => by
    unfold vS at q
    rw [if_pos hv] at q
    rw [vV_0 hv, hn (fgs_0 q).2.1]
  unfold z_X12_readValue
  by_cases c : σ.2.1 = 0
  · obtain ⟨a1, -⟩ := hp.2.2.2.1 c
    by_cases ck : kd b n (tS b n σ.1) = 2
    · have hv : vcd b n σ = 256 := vcd_n (k := 256) (by decide) (Or.inr ((cd_num ht.1).1.mpr ck))
      have k2 : I' 0 38 = 2 := by rw [a1, ck]; rfl
      refine ⟨In, vn.toInt64, ?_, by unfold vS; rw [if_pos hv]; exact pn, fn, numv hv⟩
      simp only [h41, c, if_true, k2, en', b2_N]
    · have k2 : ¬ I' 0 38 = 2 := by
        rw [a1]
        rcases kd_le b n (tS b n σ.1) with z | z | z | z
        · rw [z]; decide
        · rw [z]; decide
        · exact absurd z ck
        · rw [z]; decide
      have q256 : isC b n 256 σ = false := decide_eq_false (fun z => ck ((cd_num ht.1).1.mp z.2))
      obtain ⟨I1, v, e1, f1, p1, hv1⟩ : ∃ I1 v, z_X12_valueHere TB (I', J', rB) 0 = some (v, (I1, J', rB)) ∧ gF I' I1 ∧ psB I1 b n (if vcd b n σ = 256 then flw b n 1 σ else σ) ∧ (¬ vcd b n σ = 256 → ∀ k, ask = nI k → k < rwL P r → v = vV b n σ (rwG P r) (rwL P r) k) := by
        unfold z_X12_valueHere
        have h48 : (I', J', rB).1 0 48 = ask := h.2.2.1
        rw [h48]
        by_cases ca : ask = -1
        · rw [if_pos ca]
          exact b_here13 hr ht hp h ⟨fun _ => ca, fun _ => rfl⟩
        · rw [if_neg ca]
          exact b_here13 hr ht hp h ⟨fun q => absurd q one0, fun q => absurd q ca⟩
      by_cases hv : vcd b n σ = 256
      · rw [if_pos hv, flw_0 c] at p1
        have es : vS b n σ = (σ.1, 1, nI (tS b n σ.1)) := by
          unfold vS fgs fgo
          rw [if_pos hv, q256, Bool.false_and, if_neg (by decide), if_neg (by decide), flw_0 c]
        have ep := b_pass1 (J := J') p1 one0
        refine ⟨I1, v, ?_, by rw [es]; exact p1, f1, fun q => by rw [es] at q; exact absurd q one0⟩
        simp only [h41, c, if_true, k2, if_false, e1, b2_N, ep, b1_N]
      · rw [if_neg hv] at p1
        obtain ⟨I2, e2, p2, f2⟩ := b_pass0 (J := J') ht p1 c
        refine ⟨I2, v, ?_, by unfold vS; rw [if_neg hv]; exact p2, f1.trans f2, fun _ => hv1 hv⟩
        simp only [h41, c, if_true, k2, if_false, e1, b2_N, e2, b1_N]
  · have hv : vcd b n σ = 256 := vcd_n (k := 256) (by decide) (Or.inl c)
    refine ⟨In, vn.toInt64, ?_, by unfold vS; rw [if_pos hv]; exact pn, fn, numv hv⟩
    simp only [h41, c, if_false, en', b2_N]
/-- the class: a sign of comparison -/
theorem a_csgn (hR : RA R) (ht : tkc b n N) (h : psA I b n N σ) : ∃ I1, z_X4_parseCompareSign SA (I, J, R) 55 = some (csg b n σ, (I1, J, R)) ∧ psA I1 b n N (csS b n σ) ∧ fA5 I I1 := by
  obtain ⟨I1, e1, p1, f1⟩ := a_take (J := J) (c := 60) hR ht h (by decide)
  unfold z_X4_parseCompareSign csg csS
  simp only [rA_55_0 hR, b1_N, kA_48, ck_N, e1, b2_N]
  by_cases c1 : isC b n 60 σ = true
  · rw [if_pos c1] at p1 ⊢
    rw [if_pos c1, c1, if_neg (show ¬ bI true = 0 by decide)]
    exact ⟨I1, rfl, p1, f1⟩
  · rw [if_neg c1] at p1 ⊢
    rw [if_neg c1, Bool.eq_false_iff.mpr c1, if_pos (show bI false = 0 from rfl)]
    obtain ⟨I2, e2, p2, f2⟩ := a_take (J := J) (c := 62) hR ht p1 (by decide)
    rw [e2, b2_N]
    by_cases c2 : isC b n 62 σ = true
    · rw [if_pos c2] at p2 ⊢
      rw [if_pos c2, c2, if_neg (show ¬ bI true = 0 by decide)]
      exact ⟨I2, rfl, p2, f1.trans f2⟩
    · rw [if_neg c2] at p2 ⊢
      rw [if_neg c2, Bool.eq_false_iff.mpr c2, if_pos (show bI false = 0 from rfl)]
      obtain ⟨I3, e3, p3, f3⟩ := a_take (J := J) (c := 61) hR ht p2 (by decide)
      simp only [rA_55_0 hR, b1_N, kA_48, ck_N, e3, b2_N]
      by_cases c3 : isC b n 61 σ = true
      · rw [if_pos c3] at p3
        rw [if_pos c3, c3, if_neg (show ¬ bI true = 0 by decide)]
        exact ⟨I3, rfl, p3, f1.trans (f2.trans f3)⟩
      · rw [if_neg c3] at p3
        rw [if_neg c3, Bool.eq_false_iff.mpr c3, if_pos (show bI false = 0 from rfl)]
        obtain ⟨I4, e4, p4, f4⟩ := a_failK (J := J) (k := 1) hR ht p3
        simp only [rA_55_0 hR, b1_N, kA_48, ck_N, e4]
        exact ⟨I4, rfl, p4, f1.trans (f2.trans (f3.trans f4))⟩
end
