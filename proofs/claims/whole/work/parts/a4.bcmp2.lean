/-! a question: a comparison, the reference's whole -/
section
variable {I' : Nat → Nat → Int32} {J' : Nat → Nat → Int64} {b : Nat → Nat} {n N : Nat} {σ : PS} {P : Rcp} {r : Nat} {ask : Int32}
theorem vS_le (ht : tkc b n N) (hN : σ.1 ≤ N) : (vS b n σ).1 ≤ N := by
  have hA : ∀ c : Int32, ¬ c = 257 → isC b n c σ = true → (adv σ).1 ≤ N := fun c hc q => isC_lt ht hc hN q
  have hw : ∀ (k : Int32), (flw b n k σ).1 ≤ N := fun k => by
    by_cases c : σ.2.1 = 0
    · rw [flw_0 c]; exact hN
    · rw [flw_n c]; exact hN
  unfold vS
  by_cases c : vcd b n σ = 256
  · rw [if_pos c]
    unfold fgs
    by_cases q : fgo b n 0 σ = true
    · rw [if_pos q]
      unfold fgo at q
      rw [Bool.and_eq_true] at q
      exact hA 256 (by decide) q.1
    · rw [if_neg q]
      split
      · exact hw 2
      · exact hw 1
  · rw [if_neg c]
    unfold vcd at c
    by_cases c1 : isC b n 263 σ = true
    · exact hA _ (by decide) c1
    rw [if_neg c1] at c
    by_cases c2 : isC b n 264 σ = true
    · exact hA _ (by decide) c2
    rw [if_neg c2] at c
    by_cases c3 : isC b n 265 σ = true
    · exact hA _ (by decide) c3
    rw [if_neg c3] at c
    by_cases c4 : isC b n 266 σ = true
    · exact hA _ (by decide) c4
    rw [if_neg c4] at c
    by_cases c5 : isC b n 267 σ = true
    · exact hA _ (by decide) c5
    rw [if_neg c5] at c
    exact absurd rfl c
theorem b_cmp {PF : fh_H → Nat → Option (Int32 × fh_H)} (hr : r < 10) (ht : tkc b n N) (hN : σ.1 ≤ N) (hp : psB I' b n σ) (h : qB I' P r ask) (h4 : isC b n 262 σ = false) (h123 : isC b n 123 σ = false) : ∃ I1 v, z_X12_readFact_F TB PF (I', J', rB) 0 = some (v, (I1, J', rB)) ∧ psB I1 b n (cqS b n σ) ∧ gF I' I1 ∧ (v = 0 ∨ v = 1) ∧ ((cqS b n σ).2.1 = 0 → ∀ k, ask = nI k → k < rwL P r → v = bI (cqV b n σ (rwG P r) (rwL P r) k)) := by
  have w4 : z_X12_isWord TB (I', J', rB) 0 4 = some (bI (isC b n 262 σ)) := b_isW ht hp (by decide)
  have w123 : z_X12_isSign TB (I', J', rB) 0 123 = some (bI (isC b n 123 σ)) := b_isS (c := 123) ht hp (by decide) hN
  obtain ⟨I1, x, e1, p1, f1, hx⟩ := b_value (J' := J') hr ht hp h
  have q1 := qB_g h f1
  have hN1 := vS_le ht hN
  obtain ⟨τ, eτ⟩ : ∃ z, z = vS b n σ := ⟨_, rfl⟩
  rw [← eτ] at p1 hx hN1
  have w60 : z_X12_isSign TB (I1, J', rB) 0 60 = some (bI (isC b n 60 τ)) := b_isS (c := 60) ht p1 (by decide) hN1
  have w61 : z_X12_isSign TB (I1, J', rB) 0 61 = some (bI (isC b n 61 τ)) := b_isS (c := 61) ht p1 (by decide) hN1
  have w62 : z_X12_isSign TB (I1, J', rB) 0 62 = some (bI (isC b n 62 τ)) := b_isS (c := 62) ht p1 (by decide) hN1
  have b0 : bI false = 0 := rfl
  have b1 : ¬ bI true = 0 := by decide
  have n2 : ¬ (-1 : Int32) = 2 := by decide
  have n3 : ¬ (0 : Int32) = 2 := by decide
  have n4 : ¬ (1 : Int32) = 2 := by decide
  -- how it ends, once the sign is known
  have fin : ∀ (s : Int32) (hs : s = -1 ∨ s = 0 ∨ s = 1), τ.2.1 = 0 → csg b n τ = s → csS b n τ = adv τ → ∃ I2 v, z_X12_readFact_b131 TB 0 PF (I1, J', rB) x s = some (v, (I2, J', rB)) ∧ psB I2 b n (cqS b n σ) ∧ gF I' I2 ∧ (v = 0 ∨ v = 1) ∧ ((cqS b n σ).2.1 = 0 → ∀ k, ask = nI k → k < rwL P r → v = bI (cqV b n σ (rwG P r) (rwL P r) k)) := fun s hs c eg es => by
    obtain ⟨I2, v, e2, p2, f2, hv, hq⟩ := b_131 (J' := J') (PF := PF) (x := x) (s := s) hr ht p1 q1 (by rcases hs with q | q | q; exact Or.inl q; exact Or.inr (Or.inl q); exact Or.inr (Or.inr (Or.inl q)))
    rw [if_pos c] at p2 hq
    have eC : cqS b n σ = vS b n (adv τ) := by unfold cqS; rw [← eτ, es]
    refine ⟨I2, v, e2, by rw [eC]; exact p2, f1.trans f2, hv, fun q k e hk => ?_⟩
    rw [eC] at q
    rw [hq q k e hk, hx c k e hk]
    unfold cqV
    rw [← eτ, eg, es]
  unfold z_X12_readFact_F
  rw [w4, b1_N, h4, if_pos b0, w123, b1_N, h123, if_pos b0, e1, b2_N, w60, b1_N]
  cases c1 : isC b n 60 τ with
  | true =>
    rw [if_neg b1, if_neg n2]
    exact fin (-1) (Or.inl rfl) (isC_0 c1) (by unfold csg; rw [if_pos c1]) (by unfold csS; rw [if_pos c1])
  | false =>
    rw [if_pos b0, w61, b1_N]
    have c1' : ¬ isC b n 60 τ = true := by rw [c1]; decide
    cases c2 : isC b n 61 τ with
    | true =>
      have c3 : ¬ isC b n 62 τ = true := by rw [isC_ne c2 (by decide)]; decide
      rw [if_neg b1, if_neg n3]
      exact fin 0 (Or.inr (Or.inl rfl)) (isC_0 c2) (by unfold csg; rw [if_neg c1', if_neg c3]) (by unfold csS; rw [if_neg c1', if_neg c3, if_pos c2])
    | false =>
      rw [if_pos b0, w62, b1_N]
      have c2' : ¬ isC b n 61 τ = true := by rw [c2]; decide
      cases c3 : isC b n 62 τ with
      | true =>
        rw [if_neg b1, if_neg n4]
        exact fin 1 (Or.inr (Or.inr rfl)) (isC_0 c3) (by unfold csg; rw [if_neg c1', if_pos c3]) (by unfold csS; rw [if_neg c1', if_pos c3])
      | false =>
        have c3' : ¬ isC b n 62 τ = true := by rw [c3]; decide
        obtain ⟨I2, e2, p2, f2⟩ := b_wrongK (J := J') (k := 1) p1 one0
        have hfl : ¬ (flw b n 1 τ).2.1 = 0 := flw_nz one0
        obtain ⟨I3, v, e3, p3, f3, hv, hq⟩ := b_131 (J' := J') (PF := PF) (x := x) (s := 2) hr ht p2 (qB_g q1 f2) (Or.inr (Or.inr (Or.inr ⟨rfl, hfl⟩)))
        rw [if_neg hfl] at p3
        have eC : cqS b n σ = vS b n (flw b n 1 τ) := by unfold cqS csS; rw [← eτ, if_neg c1', if_neg c3', if_neg c2']
        rw [if_pos b0, if_pos rfl, e2, b1_N]
        refine ⟨I3, v, e3, by rw [eC]; exact p3, f1.trans (f2.trans f3), hv, fun q => ?_⟩
        rw [eC] at q
        exact absurd (vS_0 q) hfl
end
