/-! a question: values, the reference -/
def qB (I' : Nat → Nat → Int32) (P : Rcp) (r : Nat) (ask : Int32) : Prop := rwB3 I' P r ∧ I' 0 47 = nI r ∧ I' 0 48 = ask ∧ (ask = -1 ∨ ∃ k, k < rwL P r ∧ ask = nI k)
theorem qB_k {I I1 : Nat → Nat → Int32} {P : Rcp} {r : Nat} {ask : Int32} (h : qB I P r ask) (e : ∀ b j, (b = 0 ∧ 47 ≤ j) ∨ (3 ≤ b ∧ b ≤ 5) → I1 b j = I b j) : qB I1 P r ask := by
  obtain ⟨⟨h1, h2, h3⟩, h4, h5, h6⟩ := h
  exact ⟨⟨by rw [e _ _ (by omega)]; exact h1, fun j hj => by rw [e _ _ (by omega)]; exact h2 j hj, by rw [e _ _ (by omega)]; exact h3⟩, by rw [e _ _ (by omega)]; exact h4, by rw [e _ _ (by omega)]; exact h5, h6⟩
theorem qB_g {I I1 : Nat → Nat → Int32} {P : Rcp} {r : Nat} {ask : Int32} (h : qB I P r ask) (f : gF I I1) : qB I1 P r ask := qB_k h (fun b j q => f b j (by omega))
section
variable {I' : Nat → Nat → Int32} {J' : Nat → Nat → Int64} {b : Nat → Nat} {n N : Nat} {σ : PS} {P : Rcp} {r : Nat} {ask : Int32}
theorem nm1 {k : Nat} (hk : k < 60) : ¬ nI k = -1 := fun e => by
  have := congrArg Int32.toInt e
  rw [nI_toInt (by omega)] at this
  have h1 : (-1 : Int32).toInt = -1 := rfl
  omega
theorem b_here145 {t0 : Int32} (hr : r < 10) (h : qB I' P r ask) : ∃ v, z_X12_valueHere_b145 TB 0 (I', J', rB) t0 = some (v, (I', J', rB)) ∧ (¬ t0 = 0 → ∀ k, ask = nI k → k < rwL P r → v = (nI (rwL P r - 1 - k)).toInt64) := by
  unfold z_X12_valueHere_b145
  by_cases c : t0 = 0
  · rw [if_pos c]; exact ⟨0, rfl, fun q => absurd c q⟩
  · have hl := rwL_le P r
    have i1 : fh_in (nI r) 10 = true := in_n (by omega) (by omega)
    have k1 : (nI r).toNatClampNeg = r := nI_clamp (by omega)
    rw [if_neg c]
    simp only [rB_5, b1_N, kB_N4, ck_N, h.2.1, h.2.2.1, lB_N4, i1, k1, h.1.1]
    refine ⟨_, rfl, fun _ k e hk => ?_⟩
    rw [e, show nI (rwL P r) - 1 = nI (rwL P r - 1) from nI_subn (b := 1) (by omega), nI_subn (by omega)]
theorem vV_3 {g : Nat → Int32} {K k : Nat} (h : vcd b n σ = 263) : vV b n σ g K k = (nI k).toInt64 := by
  unfold vV; rw [h, if_pos rfl]
theorem vV_4 {g : Nat → Int32} {K k : Nat} (h : vcd b n σ = 264) : vV b n σ g K k = (g k).toInt64 := by
  unfold vV; rw [h, if_neg (show ¬ (264 : Int32) = 263 by decide), if_pos rfl]
theorem vV_5 {g : Nat → Int32} {K k : Nat} (h : vcd b n σ = 265) : vV b n σ g K k = (if k = 0 then 0 else (g (k - 1)).toInt64) := by
  unfold vV; rw [h, if_neg (show ¬ (265 : Int32) = 263 by decide), if_neg (show ¬ (265 : Int32) = 264 by decide), if_pos rfl]
theorem vV_6 {g : Nat → Int32} {K k : Nat} (h : vcd b n σ = 266) : vV b n σ g K k = sml g (k + 1) 0 0 := by
  unfold vV; rw [h, if_neg (show ¬ (266 : Int32) = 263 by decide), if_neg (show ¬ (266 : Int32) = 264 by decide), if_neg (show ¬ (266 : Int32) = 265 by decide), if_pos rfl]
theorem vV_7 {g : Nat → Int32} {K k : Nat} (h : vcd b n σ = 267) : vV b n σ g K k = (nI (K - 1 - k)).toInt64 := by
  unfold vV; rw [h, if_neg (show ¬ (267 : Int32) = 263 by decide), if_neg (show ¬ (267 : Int32) = 264 by decide), if_neg (show ¬ (267 : Int32) = 265 by decide), if_neg (show ¬ (267 : Int32) = 266 by decide), if_pos rfl]
theorem vV_0 {g : Nat → Int32} {K k : Nat} (h : vcd b n σ = 256) : vV b n σ g K k = (fgv b n 0 σ).toInt64 := by
  unfold vV; rw [h, if_neg (show ¬ (256 : Int32) = 263 by decide), if_neg (show ¬ (256 : Int32) = 264 by decide), if_neg (show ¬ (256 : Int32) = 265 by decide), if_neg (show ¬ (256 : Int32) = 266 by decide), if_neg (show ¬ (256 : Int32) = 267 by decide)]
theorem b_here13 {t0 : Int32} (hr : r < 10) (ht : tkc b n N) (hp : psB I' b n σ) (h : qB I' P r ask) (h0 : t0 = 0 ↔ ask = -1) : ∃ I1 v, z_X12_valueHere_b13 TB 0 (I', J', rB) t0 = some (v, (I1, J', rB)) ∧ gF I' I1 ∧ psB I1 b n (if vcd b n σ = 256 then flw b n 1 σ else σ) ∧ (¬ vcd b n σ = 256 → ∀ k, ask = nI k → k < rwL P r → v = vV b n σ (rwG P r) (rwL P r) k) := by
  have hl := rwL_le P r
  have w5 : z_X12_isWord TB (I', J', rB) 0 5 = some (bI (isC b n 263 σ)) := b_isW ht hp (by decide)
  have w6 : z_X12_isWord TB (I', J', rB) 0 6 = some (bI (isC b n 264 σ)) := b_isW ht hp (by decide)
  have w7 : z_X12_isWord TB (I', J', rB) 0 7 = some (bI (isC b n 265 σ)) := b_isW ht hp (by decide)
  have w8 : z_X12_isWord TB (I', J', rB) 0 8 = some (bI (isC b n 266 σ)) := b_isW ht hp (by decide)
  have w9 : z_X12_isWord TB (I', J', rB) 0 9 = some (bI (isC b n 267 σ)) := b_isW ht hp (by decide)
  have tm : ∀ k, k < rwL P r → z_X12_termOf TB (I', J', rB) 0 (nI r) (nI k) = some (rwG P r k) := fun k hk => by rw [b_termOf hr (show k < 60 by omega), h.1.2.1 k hk]
  have b0 : bI false = 0 := rfl
  have b1 : ¬ bI true = 0 := by decide
  have nf : ∀ x : Bool, x = false → ¬ x = true := fun x q => by rw [q]; decide
  unfold z_X12_valueHere_b13
  rw [w5, b1_N]
  cases c1 : isC b n 263 σ with
  | true =>
    have hv : vcd b n σ = 263 := by unfold vcd; rw [if_pos c1]
    have hn : ¬ vcd b n σ = 256 := by rw [hv]; decide
    rw [if_neg hn]
    rw [if_neg b1]
    exact ⟨I', _, rfl, gF.rf, hp, fun _ k e _ => by rw [vV_3 hv]; show (I' 0 48).toInt64 = _; rw [h.2.2.1, e]⟩
  | false =>
  rw [if_pos b0, w6, b1_N]
  cases c2 : isC b n 264 σ with
  | true =>
    have hv : vcd b n σ = 264 := by unfold vcd; rw [if_neg (nf _ c1), if_pos c2]
    have hn : ¬ vcd b n σ = 256 := by rw [hv]; decide
    rw [if_neg hn]
    rw [if_neg b1]
    by_cases c : t0 = 0
    · rw [if_pos c]
      exact ⟨I', _, rfl, gF.rf, hp, fun _ k e hk => absurd (e.symm.trans (h0.mp c)) (nm1 (by omega))⟩
    · rw [if_neg c]
      obtain ⟨k, hk, e⟩ := h.2.2.2.resolve_left (fun q => c (h0.mpr q))
      have e1 : z_X12_termOf TB (I', J', rB) 0 (I' 0 47) (I' 0 48) = some (rwG P r k) := by rw [h.2.1, h.2.2.1, e]; exact tm k hk
      refine ⟨I', (rwG P r k).toInt64, ?_, gF.rf, hp, fun _ k' e' hk' => ?_⟩
      · rw [e1, b1_N]
      · have : k' = k := (nI_eq (by omega) (by omega)).mp (e'.symm.trans e)
        rw [vV_4 hv, this]
  | false =>
  rw [if_pos b0, w7, b1_N]
  cases c3 : isC b n 265 σ with
  | true =>
    have hv : vcd b n σ = 265 := by unfold vcd; rw [if_neg (nf _ c1), if_neg (nf _ c2), if_pos c3]
    have hn : ¬ vcd b n σ = 256 := by rw [hv]; decide
    rw [if_neg hn]
    rw [if_neg b1]
    have e48 : (I', J', rB).1 0 48 = ask := h.2.2.1
    have e47 : (I', J', rB).1 0 47 = nI r := h.2.1
    rw [e48, e47]
    rcases h.2.2.2 with e | ⟨k, hk, e⟩
    · rw [e, if_pos (by decide)]
      exact ⟨I', _, rfl, gF.rf, hp, fun _ k e' hk => absurd e'.symm (nm1 (by omega))⟩
    · rw [e]
      by_cases ck : k = 0
      · rw [if_pos (show nI k ≤ 0 by rw [ck]; decide)]
        refine ⟨I', _, rfl, gF.rf, hp, fun _ k' e' hk' => ?_⟩
        have : k' = k := (nI_eq (by omega) (by omega)).mp e'.symm
        rw [vV_5 hv, this, if_pos ck]
      · rw [if_neg (show ¬ nI k ≤ 0 from nI_nle (by omega) (by omega)), show nI k - 1 = nI (k - 1) from nI_subn (b := 1) (by omega), tm (k - 1) (by omega), b1_N]
        refine ⟨I', _, rfl, gF.rf, hp, fun _ k' e' hk' => ?_⟩
        have : k' = k := (nI_eq (by omega) (by omega)).mp e'.symm
        rw [vV_5 hv, this, if_neg ck]
  | false =>
  rw [if_pos b0, w8, b1_N]
  cases c4 : isC b n 266 σ with
  | true =>
    have hv : vcd b n σ = 266 := by unfold vcd; rw [if_neg (nf _ c1), if_neg (nf _ c2), if_neg (nf _ c3), if_pos c4]
    have hn : ¬ vcd b n σ = 256 := by rw [hv]; decide
    rw [if_neg hn]
    rw [if_neg b1]
    by_cases c : t0 = 0
    · rw [if_pos c]
      exact ⟨I', _, rfl, gF.rf, hp, fun _ k e hk => absurd (e.symm.trans (h0.mp c)) (nm1 (by omega))⟩
    · rw [if_neg c]
      obtain ⟨k, hk, e⟩ := h.2.2.2.resolve_left (fun q => c (h0.mpr q))
      have e1 : z_X12_sumTo TB (I', J', rB) 0 (I' 0 47) (I' 0 48) = some (sml (rwG P r) (k + 1) 0 0) := by
        have := b_sum (J := J') (N := k + 1) hr h.1 (by omega)
        rw [show nI (k + 1) - 1 = nI k from nI_pred k] at this
        rw [h.2.1, h.2.2.1, e]; exact this
      refine ⟨I', sml (rwG P r) (k + 1) 0 0, ?_, gF.rf, hp, fun _ k' e' hk' => ?_⟩
      · rw [e1, b1_N]
      · have : k' = k := (nI_eq (by omega) (by omega)).mp (e'.symm.trans e)
        rw [vV_6 hv, this]
  | false =>
  rw [if_pos b0, w9, b1_N]
  cases c5 : isC b n 267 σ with
  | true =>
    obtain ⟨v, e, hv'⟩ := b_here145 (J' := J') (t0 := t0) hr h
    have hv : vcd b n σ = 267 := by unfold vcd; rw [if_neg (nf _ c1), if_neg (nf _ c2), if_neg (nf _ c3), if_neg (nf _ c4), if_pos c5]
    have hn : ¬ vcd b n σ = 256 := by rw [hv]; decide
    rw [if_neg hn]
    rw [if_neg b1, e]
    exact ⟨I', v, rfl, gF.rf, hp, fun _ k e hk => by rw [vV_7 hv]; exact hv' (fun q => nm1 (k := k) (by omega) (e.symm.trans (h0.mp q))) k e hk⟩
  | false =>
    obtain ⟨I1, e1, p1, f1⟩ := b_wrongK (J := J') (k := 1) hp one0
    obtain ⟨v, e, -⟩ := b_here145 (J' := J') (t0 := t0) hr (qB_g h f1)
    have hv : vcd b n σ = 256 := by unfold vcd; rw [if_neg (nf _ c1), if_neg (nf _ c2), if_neg (nf _ c3), if_neg (nf _ c4), if_neg (nf _ c5)]
    rw [if_pos b0, e1, b1_N, e, if_pos hv]
    exact ⟨I1, v, rfl, f1, p1, fun q => absurd hv q⟩
end
