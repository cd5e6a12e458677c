/-! what a change makes stale -/
def stS (f : Nat → Int32) (i : Nat) : Prop := (f 0 = 3 ∨ f 0 = 4) ∧ (f 5 = nI i ∨ (f 0 = 4 ∧ f 6 = nI i))
theorem dd_same {F F' : Rcp} {r : Nat} (hF : ∀ x, x ≠ r → F' x = F x) (ok : ∀ x, x < 10 → okr (F' x) x) (S : Nat → Prop) (hr : ¬ S r) (hS : ∀ x, x < 10 → r < x → S x → ∀ i, i < x → stS (F x) i → S i) : ∀ n x, x < n → x < 10 → (S x ∨ x < r) → dd F' x = dd F x := by
  intro n
  induction n with
  | zero => intro x h; omega
  | succ n ih =>
    intro x hx h10 h
    have hne : x ≠ r := fun e => by
      rcases h with h | h
      · exact hr (e ▸ h)
      · omega
    have okx := ok x h10
    unfold dd
    rw [hF x hne] at okx ⊢
    refine dn_same okx (fun h34 i hi hsrc => ?_) (by omega)
    rw [tb_lt F' x i hi, tb_lt F x i hi]
    refine ih i (by omega) (by omega) ?_
    by_cases c : x < r
    · exact Or.inr (by omega)
    · rcases h with h | h
      · exact Or.inl (hS x h10 (by omega) h i hi ⟨h34, hsrc⟩)
      · exact absurd h c
theorem a_isStale {I : Nat → Nat → Int32} {J : Nat → Nat → Int64} {R : Nat → Nat → Option Nat} (hR : RA R) {x m : Nat} (hRm : R (58 + 6 * x) 4 = some m) (hm : mdA m) (v : Int32) : ∃ z, z_X11_isStaleSource SA (I, J, R) 0 (58 + 6 * x) v = some z ∧ (z = 0 → ¬ I m 0 < 3 → ∀ i, i < 10 → v = nI i → I (58 + 6 * i) 5 = 0) := by
  unfold z_X11_isStaleSource
  by_cases hv : ∃ i : Nat, i < 10 ∧ v = nI i
  · obtain ⟨i, hi, rfl⟩ := hv
    rw [a_find hR hi, b1_N, nn_Ns, (rwA_k (rwA_r hi)).1, ck_N]
    simp only [hRm, b1_N, (mdA_k hm).1, ck_N]
    by_cases h0 : I (58 + 6 * i) 5 = 0
    · rw [if_pos h0]
      refine ⟨0, rfl, fun _ _ i' hi' e => ?_⟩
      rw [nI_eq (by omega) (by omega)] at e
      rw [← e]; exact h0
    · rw [if_neg h0]
      by_cases h3 : I m 0 < 3
      · rw [if_pos h3]
        exact ⟨0, rfl, fun _ q => absurd h3 q⟩
      · rw [if_neg h3]
        exact ⟨1, rfl, fun q => absurd q (by decide)⟩
  · rw [a_find_no hR hv, b1_N, nn_Nn]
    exact ⟨0, rfl, fun _ _ i hi e => absurd ⟨i, hi, e⟩ hv⟩
def stF (y : Nat) (I I' : Nat → Nat → Int32) : Prop := ∀ b j, ¬ (∃ x, y ≤ x ∧ x < 10 ∧ b = 58 + 6 * x ∧ j = 5) → I' b j = I b j
theorem stF_up {y : Nat} {I : Nat → Nat → Int32} {v : Int32} (hy : y < 10) : stF y I (fh_up I (58 + 6 * y) 5 v) := fun b j q => by
  by_cases e : b = 58 + 6 * y ∧ j = 5
  · exact absurd ⟨y, Nat.le_refl _, hy, e.1, e.2⟩ q
  · simp only [fh_up, e, if_false]
theorem stF.trans {y : Nat} {I I1 I2 : Nat → Nat → Int32} (h : stF y I I1) (h2 : stF (y + 1) I1 I2) : stF y I I2 := fun b j q => (h2 b j (fun ⟨x, a1, a2, a3⟩ => q ⟨x, by omega, a2, a3⟩)).trans (h b j q)
theorem mk_st {f : Nat → Int32} {I : Nat → Nat → Int32} {m i : Nat} (h : mkr f (I m) (I (m + 1))) (hs : stS f i) : ¬ I m 0 < 3 ∧ (I m 1 = nI i ∨ I m 2 = nI i) := by
  obtain ⟨g0, -, -, -, g3, g4⟩ := h
  obtain ⟨h34, hsrc⟩ := hs
  rcases h34 with k | k
  · have g := g3 k
    refine ⟨by rw [g0, k]; decide, ?_⟩
    rcases hsrc with q | ⟨q, -⟩
    · exact Or.inl (by rw [g.1]; exact q)
    · rw [k] at q; exact absurd q (by decide)
  · have g := g4 k
    refine ⟨by rw [g0, k]; decide, ?_⟩
    rcases hsrc with q | ⟨-, q⟩
    · exact Or.inl (by rw [g.1]; exact q)
    · exact Or.inr (by rw [g.2.1]; exact q)
theorem a_mark12 {J : Nat → Nat → Int64} {R : Nat → Nat → Option Nat} {F : Rcp} {r : Nat} (hR : RA R) : ∀ (k fuel : Nat) (I : Nat → Nat → Int32) (y : Nat), k < fuel → y + k = 10 → r < y → (∀ x, r < x → x < 10 → ∃ m, R (58 + 6 * x) 4 = some m ∧ mdA m ∧ mkr (F x) (I m) (I (m + 1))) → (∀ x, x < 10 → I (58 + 6 * x) 5 = 0 ∨ I (58 + 6 * x) 5 = 1) →
    ∃ I', z_X11_markStale_b12 SA 0 fuel (I, J, R) (nI y) = some (I', J, R) ∧ stF y I I' ∧ (∀ x, x < 10 → I' (58 + 6 * x) 5 = 0 ∨ I' (58 + 6 * x) 5 = 1) ∧ (∀ x, y ≤ x → x < 10 → I' (58 + 6 * x) 5 = 0 → I (58 + 6 * x) 5 = 0 ∧ ∀ i, i < x → stS (F x) i → I' (58 + 6 * i) 5 = 0) := by
  intro k
  induction k with
  | zero =>
    intro fuel I y hf hy hry hm hst
    obtain ⟨f, rfl⟩ : ∃ f, fuel = f + 1 := ⟨fuel - 1, by omega⟩
    obtain rfl : y = 10 := by omega
    refine ⟨I, ?_, fun _ _ _ => rfl, hst, fun x h1 h2 => by omega⟩
    have c1 : ¬ nI 10 ≤ 0 := nI_nle (by omega) (by omega)
    have c2 : Int32.ofNat 10 ≤ nI 10 := by decide
    rw [z_X11_markStale_b12]
    simp (disch := omega) only [ck_N, b1_N, b2_N, let_N, nn_Ns, nn_Nn, sI_N, sJ_N, sR_N, kA_0, kA_1, kA_2, kA_3, kA_4, kA_5, kA_8, kA_9, kA_10, kA_43, kA_44, kA_45, kA_46, kA_47, kA_48, kA_49, kA_50, kA_51, kA_52, kA_53, kA_54, kA_55, kA_56, kA_57, kA_118, lA_1, lA_3, lA_4, lA_5, lA_9, lA_10, lA_49, lA_50, lA_51, lA_52, lA_54, lA_57, lA_118, rA_0_0 hR, rA_0_1 hR, rA_0_2 hR, rA_0_3 hR, rA_0_4 hR, rA_0_5 hR, rA_0_6 hR, rA_0_7 hR, rA_0_8 hR, rA_0_9 hR, rA_8_0 hR, rA_8_1 hR, rA_48_0 hR, rA_48_1 hR, rA_48_2 hR, rA_48_3 hR, rA_53_0 hR, rA_53_1 hR, rA_55_0 hR, rA_56_0 hR, Int32.reduceAdd, Int32.reduceSub, Int32.reduceMul, Int32.reduceLE, Int32.reduceLT, Int32.reduceToNatClampNeg, if_true, if_false, eq_self, up_s, up_a, up_k, ne_0_1, ne_0_2, ne_0_3, ne_0_4, ne_0_5, ne_0_6, ne_0_7, ne_1_0, ne_1_2, ne_1_3, ne_1_4, ne_1_5, ne_1_6, ne_1_7, ne_2_0, ne_2_1, ne_2_3, ne_2_4, ne_2_5, ne_2_6, ne_2_7, ne_3_0, ne_3_1, ne_3_2, ne_3_4, ne_3_5, ne_3_6, ne_3_7, ne_4_0, ne_4_1, ne_4_2, ne_4_3, ne_4_5, ne_4_6, ne_4_7, ne_5_0, ne_5_1, ne_5_2, ne_5_3, ne_5_4, ne_5_6, ne_5_7, ne_6_0, ne_6_1, ne_6_2, ne_6_3, ne_6_4, ne_6_5, ne_6_7, ne_7_0, ne_7_1, ne_7_2, ne_7_3, ne_7_4, ne_7_5, ne_7_6, ne_m_0, ne_0_m, ne_m_1, ne_1_m, ne_m_2, ne_2_m, ne_m_3, ne_3_m, ne_m_4, ne_4_m, ne_m_5, ne_5_m, ne_m_6, ne_6_m, ne_m_7, ne_7_m, c1, c2]
  | succ k ih =>
    intro fuel I y hf hy hry hm hst
    obtain ⟨f, rfl⟩ : ∃ f, fuel = f + 1 := ⟨fuel - 1, by omega⟩
    have hy10 : y < 10 := by omega
    obtain ⟨m, h4, hd, hmk⟩ := hm y hry hy10
    obtain ⟨z1, e1, g1⟩ := a_isStale (I := I) (J := J) hR h4 hd (I m 1)
    obtain ⟨z2, e2, g2⟩ := a_isStale (I := I) (J := J) hR h4 hd (I m 2)
    have el : ¬ Int32.ofNat 10 ≤ nI y := nI_ge (b := 10) (by omega) (by omega)
    have key : ∀ I1 : Nat → Nat → Int32, (∀ b j, ¬ (b = 58 + 6 * y ∧ j = 5) → I1 b j = I b j) → (I1 (58 + 6 * y) 5 = 0 ∨ I1 (58 + 6 * y) 5 = 1) → (I1 (58 + 6 * y) 5 = 0 → I (58 + 6 * y) 5 = 0 ∧ ∀ i, i < y → stS (F y) i → I (58 + 6 * i) 5 = 0) →
        ∃ I', z_X11_markStale_b12 SA 0 f (I1, J, R) (nI (y + 1)) = some (I', J, R) ∧ stF y I I' ∧ (∀ x, x < 10 → I' (58 + 6 * x) 5 = 0 ∨ I' (58 + 6 * x) 5 = 1) ∧ (∀ x, y ≤ x → x < 10 → I' (58 + 6 * x) 5 = 0 → I (58 + 6 * x) 5 = 0 ∧ ∀ i, i < x → stS (F x) i → I' (58 + 6 * i) 5 = 0) := by
      intro I1 hs1 hy1 h0
      have ne1 : ∀ x, x ≠ y → I1 (58 + 6 * x) 5 = I (58 + 6 * x) 5 := fun x hx => hs1 _ _ (fun q => by omega)
      obtain ⟨I', e, hs', hst', hall⟩ := ih f I1 (y + 1) (by omega) (by omega) (by omega) (fun x h1 h2 => by
        obtain ⟨m', q1, q2, q3⟩ := hm x h1 h2
        have := md_rng q2
        exact ⟨m', q1, q2, mk_cong q3 (fun j => hs1 _ _ (fun q => by omega)) (fun j => hs1 _ _ (fun q => by omega))⟩) (fun x hx => by
        by_cases c : x = y
        · rw [c]; exact hy1
        · rw [ne1 x c]; exact hst x hx)
      have low : ∀ i, i ≤ y → I' (58 + 6 * i) 5 = I1 (58 + 6 * i) 5 := fun i hi => hs' _ _ (fun ⟨x', a1, a2, a3, a4⟩ => by omega)
      refine ⟨I', e, fun b j q => (hs' b j (fun ⟨x, a1, a2, a3⟩ => q ⟨x, by omega, a2, a3⟩)).trans (hs1 b j (fun q' => q ⟨y, Nat.le_refl _, hy10, q'.1, q'.2⟩)), hst', fun x h1 h2 h3 => ?_⟩
      by_cases c : x = y
      · subst c
        rw [low x (Nat.le_refl _)] at h3
        obtain ⟨q1, q2⟩ := h0 h3
        exact ⟨q1, fun i hi hs => by rw [low i (by omega), ne1 i (by omega)]; exact q2 i hi hs⟩
      · obtain ⟨q1, q2⟩ := hall x (by omega) h2 h3
        rw [ne1 x c] at q1
        exact ⟨q1, q2⟩
    have mark := key (fh_up I (58 + 6 * y) 5 1) (fun b j q => by simp only [fh_up, q, if_false]) (Or.inr (up_s _ _ _ _)) (fun q => by rw [up_s] at q; exact absurd q (by decide))
    have c0 : ¬ nI y ≤ 0 := nI_nle (by omega) (by omega)
    have k6 := (rwA_k (rwA_r hy10)).1
    have k3 := (mdA_k hd).1
    have hry' := rA_row hR hy10
    have hin : fh_in (nI y) 10 = true := in_n (by omega) (by omega)
    have hcl : (nI y).toNatClampNeg = y := nI_clamp (by omega)
    rw [z_X11_markStale_b12]
    simp (disch := omega) only [ck_N, b1_N, b2_N, let_N, nn_Ns, nn_Nn, sI_N, sJ_N, sR_N, kA_0, kA_1, kA_2, kA_3, kA_4, kA_5, kA_8, kA_9, kA_10, kA_43, kA_44, kA_45, kA_46, kA_47, kA_48, kA_49, kA_50, kA_51, kA_52, kA_53, kA_54, kA_55, kA_56, kA_57, kA_118, lA_1, lA_3, lA_4, lA_5, lA_9, lA_10, lA_49, lA_50, lA_51, lA_52, lA_54, lA_57, lA_118, rA_0_0 hR, rA_0_1 hR, rA_0_2 hR, rA_0_3 hR, rA_0_4 hR, rA_0_5 hR, rA_0_6 hR, rA_0_7 hR, rA_0_8 hR, rA_0_9 hR, rA_8_0 hR, rA_8_1 hR, rA_48_0 hR, rA_48_1 hR, rA_48_2 hR, rA_48_3 hR, rA_53_0 hR, rA_53_1 hR, rA_55_0 hR, rA_56_0 hR, Int32.reduceAdd, Int32.reduceSub, Int32.reduceMul, Int32.reduceLE, Int32.reduceLT, Int32.reduceToNatClampNeg, if_true, if_false, eq_self, up_s, up_a, up_k, ne_0_1, ne_0_2, ne_0_3, ne_0_4, ne_0_5, ne_0_6, ne_0_7, ne_1_0, ne_1_2, ne_1_3, ne_1_4, ne_1_5, ne_1_6, ne_1_7, ne_2_0, ne_2_1, ne_2_3, ne_2_4, ne_2_5, ne_2_6, ne_2_7, ne_3_0, ne_3_1, ne_3_2, ne_3_4, ne_3_5, ne_3_6, ne_3_7, ne_4_0, ne_4_1, ne_4_2, ne_4_3, ne_4_5, ne_4_6, ne_4_7, ne_5_0, ne_5_1, ne_5_2, ne_5_3, ne_5_4, ne_5_6, ne_5_7, ne_6_0, ne_6_1, ne_6_2, ne_6_3, ne_6_4, ne_6_5, ne_6_7, ne_7_0, ne_7_1, ne_7_2, ne_7_3, ne_7_4, ne_7_5, ne_7_6, ne_m_0, ne_0_m, ne_m_1, ne_1_m, ne_m_2, ne_2_m, ne_m_3, ne_3_m, ne_m_4, ne_4_m, ne_m_5, ne_5_m, ne_m_6, ne_6_m, ne_m_7, ne_7_m, c0, el, hin, hcl, hry', k6, h4, k3, e1]
    by_cases c1 : z1 = 0
    · simp (disch := omega) only [ck_N, b1_N, b2_N, let_N, nn_Ns, nn_Nn, sI_N, sJ_N, sR_N, kA_0, kA_1, kA_2, kA_3, kA_4, kA_5, kA_8, kA_9, kA_10, kA_43, kA_44, kA_45, kA_46, kA_47, kA_48, kA_49, kA_50, kA_51, kA_52, kA_53, kA_54, kA_55, kA_56, kA_57, kA_118, lA_1, lA_3, lA_4, lA_5, lA_9, lA_10, lA_49, lA_50, lA_51, lA_52, lA_54, lA_57, lA_118, rA_0_0 hR, rA_0_1 hR, rA_0_2 hR, rA_0_3 hR, rA_0_4 hR, rA_0_5 hR, rA_0_6 hR, rA_0_7 hR, rA_0_8 hR, rA_0_9 hR, rA_8_0 hR, rA_8_1 hR, rA_48_0 hR, rA_48_1 hR, rA_48_2 hR, rA_48_3 hR, rA_53_0 hR, rA_53_1 hR, rA_55_0 hR, rA_56_0 hR, Int32.reduceAdd, Int32.reduceSub, Int32.reduceMul, Int32.reduceLE, Int32.reduceLT, Int32.reduceToNatClampNeg, if_true, if_false, eq_self, up_s, up_a, up_k, ne_0_1, ne_0_2, ne_0_3, ne_0_4, ne_0_5, ne_0_6, ne_0_7, ne_1_0, ne_1_2, ne_1_3, ne_1_4, ne_1_5, ne_1_6, ne_1_7, ne_2_0, ne_2_1, ne_2_3, ne_2_4, ne_2_5, ne_2_6, ne_2_7, ne_3_0, ne_3_1, ne_3_2, ne_3_4, ne_3_5, ne_3_6, ne_3_7, ne_4_0, ne_4_1, ne_4_2, ne_4_3, ne_4_5, ne_4_6, ne_4_7, ne_5_0, ne_5_1, ne_5_2, ne_5_3, ne_5_4, ne_5_6, ne_5_7, ne_6_0, ne_6_1, ne_6_2, ne_6_3, ne_6_4, ne_6_5, ne_6_7, ne_7_0, ne_7_1, ne_7_2, ne_7_3, ne_7_4, ne_7_5, ne_7_6, ne_m_0, ne_0_m, ne_m_1, ne_1_m, ne_m_2, ne_2_m, ne_m_3, ne_3_m, ne_m_4, ne_4_m, ne_m_5, ne_5_m, ne_m_6, ne_6_m, ne_m_7, ne_7_m, c1, e2]
      by_cases c2 : z2 = 0
      · simp (disch := omega) only [ck_N, b1_N, b2_N, let_N, nn_Ns, nn_Nn, sI_N, sJ_N, sR_N, kA_0, kA_1, kA_2, kA_3, kA_4, kA_5, kA_8, kA_9, kA_10, kA_43, kA_44, kA_45, kA_46, kA_47, kA_48, kA_49, kA_50, kA_51, kA_52, kA_53, kA_54, kA_55, kA_56, kA_57, kA_118, lA_1, lA_3, lA_4, lA_5, lA_9, lA_10, lA_49, lA_50, lA_51, lA_52, lA_54, lA_57, lA_118, rA_0_0 hR, rA_0_1 hR, rA_0_2 hR, rA_0_3 hR, rA_0_4 hR, rA_0_5 hR, rA_0_6 hR, rA_0_7 hR, rA_0_8 hR, rA_0_9 hR, rA_8_0 hR, rA_8_1 hR, rA_48_0 hR, rA_48_1 hR, rA_48_2 hR, rA_48_3 hR, rA_53_0 hR, rA_53_1 hR, rA_55_0 hR, rA_56_0 hR, Int32.reduceAdd, Int32.reduceSub, Int32.reduceMul, Int32.reduceLE, Int32.reduceLT, Int32.reduceToNatClampNeg, if_true, if_false, eq_self, up_s, up_a, up_k, ne_0_1, ne_0_2, ne_0_3, ne_0_4, ne_0_5, ne_0_6, ne_0_7, ne_1_0, ne_1_2, ne_1_3, ne_1_4, ne_1_5, ne_1_6, ne_1_7, ne_2_0, ne_2_1, ne_2_3, ne_2_4, ne_2_5, ne_2_6, ne_2_7, ne_3_0, ne_3_1, ne_3_2, ne_3_4, ne_3_5, ne_3_6, ne_3_7, ne_4_0, ne_4_1, ne_4_2, ne_4_3, ne_4_5, ne_4_6, ne_4_7, ne_5_0, ne_5_1, ne_5_2, ne_5_3, ne_5_4, ne_5_6, ne_5_7, ne_6_0, ne_6_1, ne_6_2, ne_6_3, ne_6_4, ne_6_5, ne_6_7, ne_7_0, ne_7_1, ne_7_2, ne_7_3, ne_7_4, ne_7_5, ne_7_6, ne_m_0, ne_0_m, ne_m_1, ne_1_m, ne_m_2, ne_2_m, ne_m_3, ne_3_m, ne_m_4, ne_4_m, ne_m_5, ne_5_m, ne_m_6, ne_6_m, ne_m_7, ne_7_m, c2, nI_1]
        refine key I (fun _ _ _ => rfl) (hst y hy10) (fun q => ⟨q, fun i hi hs => ?_⟩)
        obtain ⟨q3, q4⟩ := mk_st hmk hs
        rcases q4 with q4 | q4
        · exact g1 c1 q3 i (by omega) q4
        · exact g2 c2 q3 i (by omega) q4
      · simp (disch := omega) only [ck_N, b1_N, b2_N, let_N, nn_Ns, nn_Nn, sI_N, sJ_N, sR_N, kA_0, kA_1, kA_2, kA_3, kA_4, kA_5, kA_8, kA_9, kA_10, kA_43, kA_44, kA_45, kA_46, kA_47, kA_48, kA_49, kA_50, kA_51, kA_52, kA_53, kA_54, kA_55, kA_56, kA_57, kA_118, lA_1, lA_3, lA_4, lA_5, lA_9, lA_10, lA_49, lA_50, lA_51, lA_52, lA_54, lA_57, lA_118, rA_0_0 hR, rA_0_1 hR, rA_0_2 hR, rA_0_3 hR, rA_0_4 hR, rA_0_5 hR, rA_0_6 hR, rA_0_7 hR, rA_0_8 hR, rA_0_9 hR, rA_8_0 hR, rA_8_1 hR, rA_48_0 hR, rA_48_1 hR, rA_48_2 hR, rA_48_3 hR, rA_53_0 hR, rA_53_1 hR, rA_55_0 hR, rA_56_0 hR, Int32.reduceAdd, Int32.reduceSub, Int32.reduceMul, Int32.reduceLE, Int32.reduceLT, Int32.reduceToNatClampNeg, if_true, if_false, eq_self, up_s, up_a, up_k, ne_0_1, ne_0_2, ne_0_3, ne_0_4, ne_0_5, ne_0_6, ne_0_7, ne_1_0, ne_1_2, ne_1_3, ne_1_4, ne_1_5, ne_1_6, ne_1_7, ne_2_0, ne_2_1, ne_2_3, ne_2_4, ne_2_5, ne_2_6, ne_2_7, ne_3_0, ne_3_1, ne_3_2, ne_3_4, ne_3_5, ne_3_6, ne_3_7, ne_4_0, ne_4_1, ne_4_2, ne_4_3, ne_4_5, ne_4_6, ne_4_7, ne_5_0, ne_5_1, ne_5_2, ne_5_3, ne_5_4, ne_5_6, ne_5_7, ne_6_0, ne_6_1, ne_6_2, ne_6_3, ne_6_4, ne_6_5, ne_6_7, ne_7_0, ne_7_1, ne_7_2, ne_7_3, ne_7_4, ne_7_5, ne_7_6, ne_m_0, ne_0_m, ne_m_1, ne_1_m, ne_m_2, ne_2_m, ne_m_3, ne_3_m, ne_m_4, ne_4_m, ne_m_5, ne_5_m, ne_m_6, ne_6_m, ne_m_7, ne_7_m, c2, nI_1]
        exact mark
    · simp (disch := omega) only [ck_N, b1_N, b2_N, let_N, nn_Ns, nn_Nn, sI_N, sJ_N, sR_N, kA_0, kA_1, kA_2, kA_3, kA_4, kA_5, kA_8, kA_9, kA_10, kA_43, kA_44, kA_45, kA_46, kA_47, kA_48, kA_49, kA_50, kA_51, kA_52, kA_53, kA_54, kA_55, kA_56, kA_57, kA_118, lA_1, lA_3, lA_4, lA_5, lA_9, lA_10, lA_49, lA_50, lA_51, lA_52, lA_54, lA_57, lA_118, rA_0_0 hR, rA_0_1 hR, rA_0_2 hR, rA_0_3 hR, rA_0_4 hR, rA_0_5 hR, rA_0_6 hR, rA_0_7 hR, rA_0_8 hR, rA_0_9 hR, rA_8_0 hR, rA_8_1 hR, rA_48_0 hR, rA_48_1 hR, rA_48_2 hR, rA_48_3 hR, rA_53_0 hR, rA_53_1 hR, rA_55_0 hR, rA_56_0 hR, Int32.reduceAdd, Int32.reduceSub, Int32.reduceMul, Int32.reduceLE, Int32.reduceLT, Int32.reduceToNatClampNeg, if_true, if_false, eq_self, up_s, up_a, up_k, ne_0_1, ne_0_2, ne_0_3, ne_0_4, ne_0_5, ne_0_6, ne_0_7, ne_1_0, ne_1_2, ne_1_3, ne_1_4, ne_1_5, ne_1_6, ne_1_7, ne_2_0, ne_2_1, ne_2_3, ne_2_4, ne_2_5, ne_2_6, ne_2_7, ne_3_0, ne_3_1, ne_3_2, ne_3_4, ne_3_5, ne_3_6, ne_3_7, ne_4_0, ne_4_1, ne_4_2, ne_4_3, ne_4_5, ne_4_6, ne_4_7, ne_5_0, ne_5_1, ne_5_2, ne_5_3, ne_5_4, ne_5_6, ne_5_7, ne_6_0, ne_6_1, ne_6_2, ne_6_3, ne_6_4, ne_6_5, ne_6_7, ne_7_0, ne_7_1, ne_7_2, ne_7_3, ne_7_4, ne_7_5, ne_7_6, ne_m_0, ne_0_m, ne_m_1, ne_1_m, ne_m_2, ne_2_m, ne_m_3, ne_3_m, ne_m_4, ne_4_m, ne_m_5, ne_5_m, ne_m_6, ne_6_m, ne_m_7, ne_7_m, c1, nI_1]
      exact mark
theorem a_mark {I : Nat → Nat → Int32} {J : Nat → Nat → Int64} {R : Nat → Nat → Option Nat} {F : Rcp} {r : Nat} (hR : RA R) (hr : r < 10) (h0 : I (58 + 6 * r) 0 = nI r) (hm : ∀ x, r < x → x < 10 → ∃ m, R (58 + 6 * x) 4 = some m ∧ mdA m ∧ mkr (F x) (I m) (I (m + 1))) (hst : ∀ x, x < 10 → I (58 + 6 * x) 5 = 0 ∨ I (58 + 6 * x) 5 = 1) :
    ∃ I', z_X11_markStale SA (I, J, R) 0 (58 + 6 * r) = some (I', J, R) ∧ stF r I I' ∧ I' (58 + 6 * r) 5 = 1 ∧ (∀ x, x < 10 → I' (58 + 6 * x) 5 = 0 ∨ I' (58 + 6 * x) 5 = 1) ∧ (∀ x, r < x → x < 10 → I' (58 + 6 * x) 5 = 0 → I (58 + 6 * x) 5 = 0 ∧ ∀ i, i < x → stS (F x) i → I' (58 + 6 * i) 5 = 0) := by
  obtain ⟨I', e, h1, h2, h3⟩ := a_mark12 (J := J) (F := F) (r := r) hR (9 - r) 20000 (fh_up I (58 + 6 * r) 5 1) (r + 1) (by omega) (by omega) (by omega) (fun x a1 a2 => by
    obtain ⟨m', q1, q2, q3⟩ := hm x a1 a2
    have := md_rng q2
    exact ⟨m', q1, q2, mk_cong q3 (fun j => up_a _ _ _ _ (by omega)) (fun j => up_a _ _ _ _ (by omega))⟩) (fun x hx => by
    by_cases c : x = r
    · rw [c]; exact Or.inr (up_s _ _ _ _)
    · rw [up_a _ _ _ _ (by omega)]; exact hst x hx)
  refine ⟨I', ?_, (stF_up hr).trans h1, ?_, h2, fun x a1 a2 a3 => ?_⟩
  · unfold z_X11_markStale
    simp (disch := omega) only [ck_N, b1_N, b2_N, let_N, nn_Ns, nn_Nn, sI_N, sJ_N, sR_N, kA_0, kA_1, kA_2, kA_3, kA_4, kA_5, kA_8, kA_9, kA_10, kA_43, kA_44, kA_45, kA_46, kA_47, kA_48, kA_49, kA_50, kA_51, kA_52, kA_53, kA_54, kA_55, kA_56, kA_57, kA_118, lA_1, lA_3, lA_4, lA_5, lA_9, lA_10, lA_49, lA_50, lA_51, lA_52, lA_54, lA_57, lA_118, rA_0_0 hR, rA_0_1 hR, rA_0_2 hR, rA_0_3 hR, rA_0_4 hR, rA_0_5 hR, rA_0_6 hR, rA_0_7 hR, rA_0_8 hR, rA_0_9 hR, rA_8_0 hR, rA_8_1 hR, rA_48_0 hR, rA_48_1 hR, rA_48_2 hR, rA_48_3 hR, rA_53_0 hR, rA_53_1 hR, rA_55_0 hR, rA_56_0 hR, Int32.reduceAdd, Int32.reduceSub, Int32.reduceMul, Int32.reduceLE, Int32.reduceLT, Int32.reduceToNatClampNeg, if_true, if_false, eq_self, up_s, up_a, up_k, ne_0_1, ne_0_2, ne_0_3, ne_0_4, ne_0_5, ne_0_6, ne_0_7, ne_1_0, ne_1_2, ne_1_3, ne_1_4, ne_1_5, ne_1_6, ne_1_7, ne_2_0, ne_2_1, ne_2_3, ne_2_4, ne_2_5, ne_2_6, ne_2_7, ne_3_0, ne_3_1, ne_3_2, ne_3_4, ne_3_5, ne_3_6, ne_3_7, ne_4_0, ne_4_1, ne_4_2, ne_4_3, ne_4_5, ne_4_6, ne_4_7, ne_5_0, ne_5_1, ne_5_2, ne_5_3, ne_5_4, ne_5_6, ne_5_7, ne_6_0, ne_6_1, ne_6_2, ne_6_3, ne_6_4, ne_6_5, ne_6_7, ne_7_0, ne_7_1, ne_7_2, ne_7_3, ne_7_4, ne_7_5, ne_7_6, ne_m_0, ne_0_m, ne_m_1, ne_1_m, ne_m_2, ne_2_m, ne_m_3, ne_3_m, ne_m_4, ne_4_m, ne_m_5, ne_5_m, ne_m_6, ne_6_m, ne_m_7, ne_7_m, h0, nI_1]
    exact e
  · rw [h1 _ _ (fun ⟨x', a1, a2, a3, a4⟩ => by omega), up_s]
  · obtain ⟨q1, q2⟩ := h3 x (by omega) a2 a3
    rw [up_a _ _ _ _ (by omega)] at q1
    exact ⟨q1, q2⟩
theorem md_md {m m' : Nat} (h : mdA m) (h' : mdA m') : m ≠ m' + 1 := by
  rcases h with rfl | ⟨i, hi, rfl⟩ | ⟨r, hr, rfl⟩ <;> rcases h' with rfl | ⟨i', hi', rfl⟩ | ⟨r', hr', rfl⟩ <;> omega
/-- rows, after one of them has become another thing -/
theorem vA_turn {I I2 I3 : Nat → Nat → Int32} {R R2 : Nat → Nat → Option Nat} {F F' : Rcp} {r m' : Nat} (hr : r < 10) (hv : vA I R F) (h1 : stF r I I2) (h2 : I2 (58 + 6 * r) 5 = 1) (h3 : ∀ x, x < 10 → I2 (58 + 6 * x) 5 = 0 ∨ I2 (58 + 6 * x) 5 = 1) (h4 : ∀ x, r < x → x < 10 → I2 (58 + 6 * x) 5 = 0 → I (58 + 6 * x) 5 = 0 ∧ ∀ i, i < x → stS (F x) i → I2 (58 + 6 * i) 5 = 0)
    (hR2 : ∀ x, x < 10 → x ≠ r → R2 (58 + 6 * x) 4 = R (58 + 6 * x) 4) (hRr : R2 (58 + 6 * r) 4 = some m') (hm' : mdA m') (hne : ∀ x, x < 10 → x ≠ r → R (58 + 6 * x) 4 ≠ some m') (h5 : ∀ b j, b ≠ m' → b ≠ m' + 1 → kpA b j → I3 b j = I2 b j) (hmk : mkr (F' r) (I3 m') (I3 (m' + 1))) (hF : ∀ x, x ≠ r → F' x = F x) (ok : ∀ x, x < 10 → okr (F' x) x) : vA I3 R2 F' := by
  have nm : ∀ x, x < 10 → 58 + 6 * x ≠ m' ∧ 58 + 6 * x ≠ m' + 1 ∧ (∀ c, 58 + 6 * x ≤ c → c ≤ 61 + 6 * x → c ≠ m' ∧ c ≠ m' + 1) := fun x hx => by
    have := md_rw (rwA_r hx) hm'
    refine ⟨by omega, by omega, fun c h1 h2 => by omega⟩
  intro x hx
  obtain ⟨m, g1, g2, g3, g4, g5, g6⟩ := hv x hx
  have z0 : I3 (58 + 6 * x) 0 = nI x := by
    rw [h5 _ _ (nm x hx).1 (nm x hx).2.1 (by unfold kpA; omega), h1 _ _ (fun ⟨x', a1, a2, a3, a4⟩ => by omega)]; exact g5
  have z5 : I3 (58 + 6 * x) 5 = I2 (58 + 6 * x) 5 := h5 _ _ (nm x hx).1 (nm x hx).2.1 (by unfold kpA; omega)
  by_cases c : x = r
  · subst c
    exact ⟨m', hRr, hm', hmk, ok x hx, z0, Or.inr (by rw [z5]; exact h2)⟩
  · have hmm : m ≠ m' := fun e => hne x hx c (e ▸ g1)
    have n1 := md_md g2 hm'
    have n2 := md_md hm' g2
    have rg := md_rng g2
    refine ⟨m, by rw [hR2 x hx c]; exact g1, g2, ?_, ok x hx, z0, ?_⟩
    · rw [hF x c]
      exact mk_cong g3 (fun j => by rw [h5 _ _ hmm n1 (by unfold kpA; omega), h1 _ _ (fun ⟨x', a1, a2, a3, a4⟩ => by omega)]) (fun j => by rw [h5 _ _ (by omega) (by omega) (by unfold kpA; omega), h1 _ _ (fun ⟨x', a1, a2, a3, a4⟩ => by omega)])
    · rcases h3 x hx with q | q
      · refine Or.inl ⟨by rw [z5]; exact q, ?_⟩
        have q0 : I (58 + 6 * x) 5 = 0 := by
          by_cases c2 : r < x
          · exact (h4 x c2 hx q).1
          · rw [← h1 (58 + 6 * x) 5 (fun ⟨x', a1, a2, a3, a4⟩ => by omega)]; exact q
        rcases g6 with ⟨-, gd⟩ | gd
        · rw [hF x c, dd_same hF ok (fun i => I2 (58 + 6 * i) 5 = 0) (by rw [h2]; decide) (fun x' a1 a2 a3 i hi hs => (h4 x' a2 a1 a3).2 i hi hs) (x + 1) x (by omega) hx (Or.inl q)]
          refine dA_cong gd (fun b j qq => ?_)
          have := (nm x hx).2.2 b (by omega) (by omega)
          rw [h5 _ _ this.1 this.2 (by unfold kpA; omega), h1 _ _ (fun ⟨x', a1, a2, a3, a4⟩ => by omega)]
        · rw [gd] at q0; exact absurd q0 (by decide)
      · exact Or.inr (by rw [z5]; exact q)
