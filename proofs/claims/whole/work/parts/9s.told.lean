/-! a row told in words: both read it -/
theorem psA_k {I I1 : Nat → Nat → Int32} {b : Nat → Nat} {n N : Nat} {σ : PS} (h : psA I b n N σ) (e : ∀ b j, b = 48 ∨ b = 50 ∨ b = 51 ∨ b = 52 → I1 b j = I b j) : psA I1 b n N σ := by
  obtain ⟨h1, h5, h7, h8, hN⟩ := h
  exact ⟨fun i hi => by rw [e _ _ (by omega), e _ _ (by omega), e _ _ (by omega)]; exact h1 i hi, by rw [e _ _ (by omega)]; exact h5, by rw [e _ _ (by omega)]; exact h7, by rw [e _ _ (by omega)]; exact h8, hN⟩
theorem psB_k {I I1 : Nat → Nat → Int32} {b : Nat → Nat} {n : Nat} {σ : PS} (h : psB I b n σ) (e : ∀ b j, (b = 0 ∧ 36 ≤ j ∧ j ≤ 42) ∨ b = 16 → I1 b j = I b j) : psB I1 b n σ := by
  obtain ⟨h36, hb, h41, h4, h42⟩ := h
  refine ⟨by rw [e _ _ (by omega)]; exact h36, fun i hi => by rw [e _ _ (by omega)]; exact hb i hi, by rw [e _ _ (by omega)]; exact h41, fun q => ?_, fun q => by rw [e _ _ (by omega)]; exact h42 q⟩
  obtain ⟨a1, a2, a3, a4⟩ := h4 q
  exact ⟨by rw [e _ _ (by omega)]; exact a1, by rw [e _ _ (by omega)]; exact a2, by rw [e _ _ (by omega)]; exact a3, by rw [e _ _ (by omega)]; exact a4⟩
theorem exC_0 {b : Nat → Nat} {n : Nat} {c : Int32} {σ : PS} (h : (exC b n c σ).2.1 = 0) : σ.2.1 = 0 ∧ exC b n c σ = adv σ := by
  unfold exC at h ⊢
  by_cases q : isC b n c σ = true
  · rw [if_pos q]; exact ⟨isC_0 q, rfl⟩
  · rw [if_neg q] at h
    by_cases c0 : σ.2.1 = 0
    · rw [flw_0 c0] at h; exact absurd h one0
    · rw [flw_n c0] at h; exact absurd h c0
theorem fgs_0 {b : Nat → Nat} {n L : Nat} {σ : PS} (h : (fgs b n L σ).2.1 = 0) : σ.2.1 = 0 ∧ fgo b n L σ = true ∧ fgs b n L σ = adv σ := by
  unfold fgs at h ⊢
  by_cases q : fgo b n L σ = true
  · rw [if_pos q]
    have q' := q
    unfold fgo at q'
    rw [Bool.and_eq_true] at q'
    exact ⟨isC_0 q'.1, q, rfl⟩
  · rw [if_neg q] at h
    by_cases c0 : σ.2.1 = 0
    · rw [flw_0 c0, flw_0 c0] at h
      split at h
      · exact absurd h (show ¬ (2 : Int32) = 0 by decide)
      · exact absurd h one0
    · rw [flw_n c0, flw_n c0] at h
      split at h <;> exact absurd h c0
theorem fgv_b {b : Nat → Nat} {n L : Nat} {σ : PS} (h : fgo b n L σ = true) : ∃ v, L ≤ v ∧ v ≤ 9999 ∧ fgv b n L σ = nI v := by
  have h' := h
  unfold fgo at h'
  rw [Bool.and_eq_true, decide_eq_true_eq] at h'
  exact ⟨tvt b n σ, h'.2.1, h'.2.2, by unfold fgv; rw [if_pos h]⟩
def TR (I I' : Nat → Nat → Int32) (b : Nat → Nat) (n N : Nat) (σ : PS) (a g : Nat) (o : Bool) : Prop := psA I b n N σ ∧ psB I' b n σ ∧ I 53 3 = nI (a + g) ∧ I 53 2 = (if o then nI a else -1) ∧ (o = true → 1 ≤ a ∧ a ≤ 200) ∧
  (σ.2.1 = 0 → (∀ j, j < a + g → j < 60 → I 54 j = I' 17 j) ∧ (∀ j, 1 ≤ j → j < a + g → 1 ≤ (I' 17 j).toInt) ∧ (1 ≤ a + g → -9999 ≤ (I' 17 0).toInt) ∧ I' 0 45 = nI a ∧ I' 0 46 = nI g ∧ I' 0 44 = bI o ∧ 2 * (a + g) ≤ σ.1 ∧ σ.2.2 = -1)
def fA6 (I I1 : Nat → Nat → Int32) : Prop := ∀ b j, ¬ (b = 48 ∧ (j = 5 ∨ j = 7 ∨ j = 8)) → b ≠ 53 → b ≠ 54 → I1 b j = I b j
def fB6 (I I1 : Nat → Nat → Int32) : Prop := ∀ b j, ¬ (b = 0 ∧ 37 ≤ j ∧ j ≤ 46 ∧ j ≠ 43) → b ≠ 17 → I1 b j = I b j
theorem fA6.rf {I : Nat → Nat → Int32} : fA6 I I := fun _ _ _ _ _ => rfl
theorem fB6.rf {I : Nat → Nat → Int32} : fB6 I I := fun _ _ _ _ => rfl
theorem fA6.trans {I I1 I2 : Nat → Nat → Int32} (h : fA6 I I1) (h2 : fA6 I1 I2) : fA6 I I2 := fun b j q q1 q2 => (h2 b j q q1 q2).trans (h b j q q1 q2)
theorem fB6.trans {I I1 I2 : Nat → Nat → Int32} (h : fB6 I I1) (h2 : fB6 I1 I2) : fB6 I I2 := fun b j q q1 => (h2 b j q q1).trans (h b j q q1)
theorem fA5.s {I I1 : Nat → Nat → Int32} (h : fA5 I I1) : fA6 I I1 := fun b j q _ _ => h b j q
theorem gF.s {I I1 : Nat → Nat → Int32} (h : gF I I1) : fB6 I I1 := fun b j q _ => h b j (fun z => q (by omega))
section
variable {I I' : Nat → Nat → Int32} {J J' : Nat → Nat → Int64} {R : Nat → Nat → Option Nat} {b : Nat → Nat} {n N : Nat} {σ : PS} {a g : Nat} {o : Bool}
theorem TR_step {I1 I1' : Nat → Nat → Int32} {σ1 : PS} (h : TR I I' b n N σ a g o) (p : psA I1 b n N σ1) (p' : psB I1' b n σ1) (f : fA5 I I1) (f' : gF I' I1') (hs : σ1.2.1 = 0 → σ.2.1 = 0 ∧ σ.1 ≤ σ1.1 ∧ σ1.2.2 = σ.2.2) : TR I1 I1' b n N σ1 a g o := by
  obtain ⟨-, -, h3, h2, ho, h0⟩ := h
  refine ⟨p, p', by rw [f _ _ (by omega)]; exact h3, by rw [f _ _ (by omega)]; exact h2, ho, fun q => ?_⟩
  obtain ⟨g1, g2, g3⟩ := hs q
  obtain ⟨d1, d2, d3, d4, d5, d6, d7, d8⟩ := h0 g1
  exact ⟨fun j h1 h2 => by rw [f _ _ (by omega), f' _ _ (by omega)]; exact d1 j h1 h2, fun j h1 h2 => by rw [f' _ _ (by omega)]; exact d2 j h1 h2, fun h1 => by rw [f' _ _ (by omega)]; exact d3 h1, by rw [f' _ _ (by omega)]; exact d4, by rw [f' _ _ (by omega)]; exact d5, by rw [f' _ _ (by omega)]; exact d6, by omega, g3.trans d8⟩
theorem a_keepT (hR : RA R) {L : Nat} (h3 : I 53 3 = nI L) (hL : L ≤ 200) (v : Int32) : ∃ I1, z_X7_keep SA (I, J, R) 53 v = some (I1, J, R) ∧ I1 53 3 = nI (L + 1) ∧ (L < 60 → I1 54 L = v) ∧ ∀ b j, ¬ (b = 53 ∧ j = 3) → ¬ (b = 54 ∧ j = L) → I1 b j = I b j := by
  unfold z_X7_keep
  have c0 : ¬ nI L < 0 := nI_pos (by omega)
  by_cases c : L < 60
  · have c1 : ¬ Int32.ofNat 60 ≤ nI L := nI_ge (b := 60) (by omega) (by omega)
    have i1 : fh_in (nI L) 60 = true := in_n (by omega) (by omega)
    have k1 : (nI L).toNatClampNeg = L := nI_clamp (by omega)
    have u3 : fh_up I 54 L v 53 3 = nI L := by rw [up_a _ _ _ _ (by decide)]; exact h3
    refine ⟨fh_up (fh_up I 54 L v) 53 3 (nI (L + 1)), ?_, up_s _ _ _ _, fun _ => by rw [up_a _ _ _ _ (by decide), up_s], fun b j q1 q2 => ?_⟩
    · simp only [h3, c0, if_false, rA_53_1 hR, b1_N, kA_54, ck_N, lA_54, c1, i1, k1, let_N, sI_N, u3, nI_1]
    · have e1 : fh_up (fh_up I 54 L v) 53 3 (nI (L + 1)) b j = fh_up I 54 L v b j := by simp only [fh_up, q1, if_false]
      rw [e1]; simp only [fh_up, q2, if_false]
  · have c1 : Int32.ofNat 60 ≤ nI L := nI_le (a := 60) (by omega) (by omega)
    refine ⟨fh_up I 53 3 (nI (L + 1)), ?_, up_s _ _ _ _, fun q => absurd q c, fun b j q1 q2 => by simp only [fh_up, q1, if_false]⟩
    simp only [h3, c0, if_false, rA_53_1 hR, b1_N, kA_54, ck_N, lA_54, c1, if_true, let_N, sI_N, nI_1]
theorem b_keepT {L : Nat} {a0 g0 : Nat} (h41 : I' 0 41 = 0) (h45 : I' 0 45 = nI a0) (h46 : I' 0 46 = nI g0) (h44 : I' 0 44 = bI o) (e : a0 + g0 = L) (hL : L < 100) (v : Int32) : ∃ I1, z_X12_keepsTerm TB (I', J', rB) 0 v = some (I1, J', rB) ∧ I1 17 L = v ∧ I1 0 45 = nI (if o then a0 else a0 + 1) ∧ I1 0 46 = nI (if o then g0 + 1 else g0) ∧ ∀ b j, ¬ (b = 0 ∧ (j = 45 ∨ j = 46)) → ¬ (b = 17 ∧ j = L) → I1 b j = I' b j := by
  unfold z_X12_keepsTerm
  have i1 : fh_in (nI L) 100 = true := in_n (by omega) (by omega)
  have k1 : (nI L).toNatClampNeg = L := nI_clamp (by omega)
  have u : ∀ j, fh_up I' 17 L v 0 j = I' 0 j := fun j => up_a _ _ _ _ (by decide)
  cases o with
  | false =>
    have c1 : bI false ≤ 0 := by decide
    refine ⟨fh_up (fh_up I' 17 L v) 0 45 (nI (a0 + 1)), ?_, by rw [up_a _ _ _ _ (by decide), up_s], up_s _ _ _ _, by rw [up_k _ _ _ _ (by decide), u]; exact h46, fun b j q1 q2 => ?_⟩
    · simp only [h41, if_true, rB_34, b1_N, kB_N17, ck_N, lB_N17, h45, h46, nI_add, e, i1, k1, let_N, sI_N, u, h44, c1, nI_1]
    · have z : ¬ (b = 0 ∧ j = 45) := fun z => q1 ⟨z.1, Or.inl z.2⟩
      have e1 : fh_up (fh_up I' 17 L v) 0 45 (nI (a0 + 1)) b j = fh_up I' 17 L v b j := by simp only [fh_up, z, if_false]
      rw [e1]; simp only [fh_up, q2, if_false]
  | true =>
    have c1 : ¬ bI true ≤ 0 := by decide
    refine ⟨fh_up (fh_up I' 17 L v) 0 46 (nI (g0 + 1)), ?_, by rw [up_a _ _ _ _ (by decide), up_s], by rw [up_k _ _ _ _ (by decide), u]; exact h45, up_s _ _ _ _, fun b j q1 q2 => ?_⟩
    · simp only [h41, if_true, rB_34, b1_N, kB_N17, ck_N, lB_N17, h45, h46, nI_add, e, i1, k1, let_N, sI_N, u, h44, c1, if_false, nI_1]
    · have z : ¬ (b = 0 ∧ j = 46) := fun z => q1 ⟨z.1, Or.inr z.2⟩
      have e1 : fh_up (fh_up I' 17 L v) 0 46 (nI (g0 + 1)) b j = fh_up I' 17 L v b j := by simp only [fh_up, z, if_false]
      rw [e1]; simp only [fh_up, q2, if_false]
theorem t_keep (hR : RA R) (h : TR I I' b n N σ a g o) (hL : a + g ≤ 100) {v v' : Int32} (hv : σ.2.1 = 0 → v = v' ∧ a + g < 100 ∧ 2 * (a + g + 1) ≤ σ.1 ∧ (a + g = 0 → -9999 ≤ v.toInt) ∧ (1 ≤ a + g → 1 ≤ v.toInt)) :
    ∃ I1 I1', z_X7_keep SA (I, J, R) 53 v = some (I1, J, R) ∧ z_X12_keepsTerm TB (I', J', rB) 0 v' = some (I1', J', rB) ∧ TR I1 I1' b n N σ (if o then a else a + 1) (if o then g + 1 else g) o ∧ fA6 I I1 ∧ fB6 I' I1' := by
  obtain ⟨p, p', h3, h2, ho, h0⟩ := h
  have eL : (if o then a else a + 1) + (if o then g + 1 else g) = a + g + 1 := by cases o <;> simp only [Bool.false_eq_true, if_true, if_false] <;> omega
  have ea : (if o = true then nI (if o then a else a + 1) else -1) = (if o = true then nI a else -1 : Int32) := by cases o <;> rfl
  have eo : o = true → 1 ≤ (if o then a else a + 1) ∧ (if o then a else a + 1) ≤ 200 := fun q => by rw [if_pos q]; exact ho q
  obtain ⟨I1, e1, k1, k2, k3⟩ := a_keepT (J := J) hR h3 (by omega) v
  have pA : psA I1 b n N σ := psA_k p (fun b j q => k3 b j (by omega) (by omega))
  have fA : fA6 I I1 := fun b j _ q1 q2 => k3 b j (by omega) (by omega)
  have z2 : I1 53 2 = (if o then nI (if o then a else a + 1) else -1) := by rw [k3 _ _ (by omega) (by omega), h2]; exact ea.symm
  by_cases c : σ.2.1 = 0
  · obtain ⟨d1, d2, d3, d4, d5, d6, d7, d8⟩ := h0 c
    obtain ⟨rfl, v1, v2, v3, v4⟩ := hv c
    obtain ⟨I1', e1', j1, j2, j3, j4⟩ := b_keepT (J' := J') (L := a + g) (p'.2.2.1.trans c) d4 d5 d6 rfl v1 v
    refine ⟨I1, I1', e1, e1', ⟨pA, psB_k p' (fun b j q => j4 b j (by omega) (by omega)), by rw [eL]; exact k1, z2, eo, fun _ => ⟨fun j q1 q2 => ?_, fun j q1 q2 => ?_, fun _ => ?_, j2, j3, by rw [j4 _ _ (by omega) (by omega)]; exact d6, by rw [eL]; omega, d8⟩⟩, fA, fun b j q1 q2 => j4 b j (by omega) (by omega)⟩
    · rw [eL] at q1
      by_cases cj : j = a + g
      · rw [cj, j1, k2 (by omega)]
      · rw [k3 _ _ (by omega) (by omega), j4 _ _ (by omega) (by omega)]; exact d1 j (by omega) q2
    · rw [eL] at q2
      by_cases cj : j = a + g
      · rw [cj, j1]; exact v4 (by omega)
      · rw [j4 _ _ (by omega) (by omega)]; exact d2 j q1 (by omega)
    · by_cases cj : a + g = 0
      · have := j1; rw [cj] at this; rw [this]; exact v3 cj
      · rw [j4 _ _ (by omega) (by omega)]; exact d3 (by omega)
  · refine ⟨I1, I', e1, ?_, ⟨pA, p', by rw [eL]; exact k1, z2, eo, fun q => absurd q c⟩, fA, fB6.rf⟩
    unfold z_X12_keepsTerm
    simp only [p'.2.2.1, c, if_false]
/-- a number is read and kept -/
theorem t_num (hR : RA R) (ht : tkc b n N) (h : TR I I' b n N σ a g o) (hL : a + g ≤ 100) {L : Nat} (hL1 : L ≤ 1) (sg : Int32 → Int32) (hs : σ.2.1 = 0 → 2 * (a + g) + 1 ≤ σ.1) (hv : ∀ v : Nat, L ≤ v → v ≤ 9999 → (a + g = 0 → -9999 ≤ (sg (nI v)).toInt) ∧ (1 ≤ a + g → 1 ≤ (sg (nI v)).toInt)) :
    ∃ Ia I1 v Ib I1' v', z_X10_takeFigures SA (I, J, R) 48 (nI L) = some (v, (Ia, J, R)) ∧ z_X7_keep SA (Ia, J, R) 53 (sg v) = some (I1, J, R) ∧ z_X12_number TB (I', J', rB) 0 (nI L) 9999 = some (v', (Ib, J', rB)) ∧ z_X12_keepsTerm TB (Ib, J', rB) 0 (sg v') = some (I1', J', rB) ∧ TR I1 I1' b n N (fgs b n L σ) (if o then a else a + 1) (if o then g + 1 else g) o ∧ fA6 I I1 ∧ fB6 I' I1' := by
  obtain ⟨Ia, e1, p1, f1⟩ := a_figs (J := J) hR ht h.1 hL1
  obtain ⟨Ib, v', e2, p2, hv', f2⟩ := b_number (J := J') ht h.2.1 hL1
  have T := TR_step h p1 p2 f1 f2 (fun q => by
    obtain ⟨q1, q2, q3⟩ := fgs_0 q
    rw [q3]; exact ⟨q1, Nat.le_succ _, rfl⟩)
  have n200 := ht.2.1
  have Nn := ht.2.2.1
  obtain ⟨I1, I1', e3, e4, T', f3, f4⟩ := t_keep (J := J) (J' := J') (v := sg (fgv b n L σ)) (v' := sg v') hR T hL (fun q => by
    obtain ⟨q1, q2, q3⟩ := fgs_0 q
    have h1 := hs q1
    have h2 := p1.2.2.2.2
    rw [q3] at h2 ⊢
    unfold adv at h2 ⊢
    dsimp only at h2 ⊢
    obtain ⟨v, b1, b2, b3⟩ := fgv_b q2
    refine ⟨by rw [hv' q2], by omega, by omega, ?_⟩
    rw [b3]
    exact hv v b1 b2)
  exact ⟨Ia, I1, _, Ib, I1', v', e1, e3, e2, e4, T', f1.s.trans f3, f2.s.trans f4⟩
end
