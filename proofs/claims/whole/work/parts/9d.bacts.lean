/-! the reference: recipes kept, changed, brought back -/
theorem nI_subn {a b : Nat} (h : b ≤ a) : nI a - nI b = nI (a - b) := by
  have := nI_add (a - b) b
  rw [Nat.sub_add_cancel h] at this
  rw [← this, Int32.add_sub_cancel]
theorem b_put {I : Nat → Nat → Int32} {J : Nat → Nat → Int64} {r j : Nat} (hr : r < 10) (hj : j < 109) (v : Int32) : z_X12_put TB (I, J, rB) 0 (nI r) (nI j) v = some (fh_up I 1 (109 * r + j) v, J, rB) := by
  unfold z_X12_put
  have e : (109 : Int32) * nI r + nI j = nI (109 * r + j) := by rw [show (109 : Int32) = nI 109 from rfl, nI_mul, nI_add]
  have hin : fh_in (nI (109 * r + j)) 1090 = true := in_n (by omega) (by omega)
  have hcl : (nI (109 * r + j)).toNatClampNeg = 109 * r + j := nI_clamp (by omega)
  simp (disch := omega) only [ck_N, b1_N, b2_N, let_N, nn_Ns, nn_Nn, sI_N, sJ_N, sR_N, kB_N0, kB_N1, kB_N2, kB_N3, kB_N4, kB_N5, kB_N6, kB_N7, kB_N8, kB_N9, kB_N10, kB_N11, kB_N12, kB_N13, kB_N14, kB_N15, kB_N16, kB_N17, lB_N1, lB_N2, lB_N3, lB_N4, lB_N5, lB_N6, lB_N7, lB_N8, lB_N9, lB_N10, lB_N11, lB_N12, lB_N13, lB_N14, lB_N15, lB_N16, lB_N17, rB_N0, rB_N1, rB_N4, rB_N5, rB_N6, rB_N7, rB_N8, rB_N9, rB_N10, rB_N11, rB_N13, rB_N14, rB_N26, rB_N27, rB_N31, rB_N33, rB_N34, Int32.reduceAdd, Int32.reduceSub, Int32.reduceMul, Int32.reduceLE, Int32.reduceLT, Int32.reduceToNatClampNeg, if_true, if_false, eq_self, up_s, up_a, up_k, ne_0_1, ne_0_2, ne_0_3, ne_0_4, ne_0_5, ne_0_6, ne_0_7, ne_1_0, ne_1_2, ne_1_3, ne_1_4, ne_1_5, ne_1_6, ne_1_7, ne_2_0, ne_2_1, ne_2_3, ne_2_4, ne_2_5, ne_2_6, ne_2_7, ne_3_0, ne_3_1, ne_3_2, ne_3_4, ne_3_5, ne_3_6, ne_3_7, ne_4_0, ne_4_1, ne_4_2, ne_4_3, ne_4_5, ne_4_6, ne_4_7, ne_5_0, ne_5_1, ne_5_2, ne_5_3, ne_5_4, ne_5_6, ne_5_7, ne_6_0, ne_6_1, ne_6_2, ne_6_3, ne_6_4, ne_6_5, ne_6_7, ne_7_0, ne_7_1, ne_7_2, ne_7_3, ne_7_4, ne_7_5, ne_7_6, ne_m_0, ne_0_m, ne_m_1, ne_1_m, ne_m_2, ne_2_m, ne_m_3, ne_3_m, ne_m_4, ne_4_m, ne_m_5, ne_5_m, ne_m_6, ne_6_m, ne_m_7, ne_7_m, in8_0, in8_1, in8_2, in8_3, in8_4, in8_5, in8_6, in8_7, e, hin, hcl]
theorem b_keep54 {J : Nat → Nat → Int64} {n : Nat} (hn : n < 16) : ∀ (k fuel : Nat) (I : Nat → Nat → Int32) (y : Nat), k < fuel → y + k = 1090 → I 0 2 = nI n →
    ∃ I', z_X12_keep_b54 TB 0 fuel (I, J, rB) (nI y) = some (I', J, rB) ∧ (∀ b j, ¬ (b = 2 ∧ 1090 * n + y ≤ j ∧ j < 1090 * n + 1090) → ¬ (b = 0 ∧ j = 2) → I' b j = I b j) ∧ I' 0 2 = nI (n + 1) ∧ ∀ c, y ≤ c → c < 1090 → I' 2 (1090 * n + c) = I 1 c := by
  intro k
  induction k with
  | zero =>
    intro fuel I y hf hy h2
    obtain ⟨f, rfl⟩ : ∃ f, fuel = f + 1 := ⟨fuel - 1, by omega⟩
    obtain rfl : y = 1090 := by omega
    refine ⟨fh_up I 0 2 (nI (n + 1)), ?_, fun b j _ q => by simp only [fh_up, q, if_false], up_s _ _ _ _, fun c h1 h2 => by omega⟩
    rw [z_X12_keep_b54, if_pos (by decide)]
    simp only [let_N, sI_N, h2, nI_1]
  | succ k ih =>
    intro fuel I y hf hy h2
    obtain ⟨f, rfl⟩ : ∃ f, fuel = f + 1 := ⟨fuel - 1, by omega⟩
    obtain ⟨I', e, g1, g2, g3⟩ := ih f (fh_up I 2 (1090 * n + y) (I 1 y)) (y + 1) (by omega) (by omega) (by rw [up_a _ _ _ _ (by decide)]; exact h2)
    refine ⟨I', ?_, fun b j q q2 => ?_, g2, fun c h1 h2 => ?_⟩
    · have c0 : ¬ (1090 : Int32) ≤ nI y := nI_ge (b := 1090) (by omega) (by omega)
      have e0 : (1090 : Int32) * nI n + nI y = nI (1090 * n + y) := by rw [show (1090 : Int32) = nI 1090 from rfl, nI_mul, nI_add]
      have i1 : fh_in (nI y) 1090 = true := in_n (by omega) (by omega)
      have i2 : fh_in (nI (1090 * n + y)) 17440 = true := in_n (by omega) (by omega)
      have k1 : (nI y).toNatClampNeg = y := nI_clamp (by omega)
      have k2 : (nI (1090 * n + y)).toNatClampNeg = 1090 * n + y := nI_clamp (by omega)
      rw [z_X12_keep_b54]
      simp (disch := omega) only [ck_N, b1_N, b2_N, let_N, nn_Ns, nn_Nn, sI_N, sJ_N, sR_N, kB_N0, kB_N1, kB_N2, kB_N3, kB_N4, kB_N5, kB_N6, kB_N7, kB_N8, kB_N9, kB_N10, kB_N11, kB_N12, kB_N13, kB_N14, kB_N15, kB_N16, kB_N17, lB_N1, lB_N2, lB_N3, lB_N4, lB_N5, lB_N6, lB_N7, lB_N8, lB_N9, lB_N10, lB_N11, lB_N12, lB_N13, lB_N14, lB_N15, lB_N16, lB_N17, rB_N0, rB_N1, rB_N4, rB_N5, rB_N6, rB_N7, rB_N8, rB_N9, rB_N10, rB_N11, rB_N13, rB_N14, rB_N26, rB_N27, rB_N31, rB_N33, rB_N34, Int32.reduceAdd, Int32.reduceSub, Int32.reduceMul, Int32.reduceLE, Int32.reduceLT, Int32.reduceToNatClampNeg, if_true, if_false, eq_self, up_s, up_a, up_k, ne_0_1, ne_0_2, ne_0_3, ne_0_4, ne_0_5, ne_0_6, ne_0_7, ne_1_0, ne_1_2, ne_1_3, ne_1_4, ne_1_5, ne_1_6, ne_1_7, ne_2_0, ne_2_1, ne_2_3, ne_2_4, ne_2_5, ne_2_6, ne_2_7, ne_3_0, ne_3_1, ne_3_2, ne_3_4, ne_3_5, ne_3_6, ne_3_7, ne_4_0, ne_4_1, ne_4_2, ne_4_3, ne_4_5, ne_4_6, ne_4_7, ne_5_0, ne_5_1, ne_5_2, ne_5_3, ne_5_4, ne_5_6, ne_5_7, ne_6_0, ne_6_1, ne_6_2, ne_6_3, ne_6_4, ne_6_5, ne_6_7, ne_7_0, ne_7_1, ne_7_2, ne_7_3, ne_7_4, ne_7_5, ne_7_6, ne_m_0, ne_0_m, ne_m_1, ne_1_m, ne_m_2, ne_2_m, ne_m_3, ne_3_m, ne_m_4, ne_4_m, ne_m_5, ne_5_m, ne_m_6, ne_6_m, ne_m_7, ne_7_m, in8_0, in8_1, in8_2, in8_3, in8_4, in8_5, in8_6, in8_7, c0, h2, e0, i1, i2, k1, k2, nI_1, e]
    · rw [g1 b j (fun q' => q ⟨q'.1, by omega, q'.2.2⟩) q2]
      by_cases c : b = 2 ∧ j = 1090 * n + y
      · exact absurd ⟨c.1, by omega, by omega⟩ q
      · simp only [fh_up, c, if_false]
    · by_cases c2 : c = y
      · rw [c2, g1 _ _ (fun q => by omega) (fun q => by omega), up_s]
      · rw [g3 c (by omega) h2, up_a _ _ _ _ (by decide)]
theorem b_keep13 {J : Nat → Nat → Int64} : ∀ (k fuel : Nat) (I : Nat → Nat → Int32) (y : Nat), k < fuel → y + k = 17440 → 1090 ≤ y →
    ∃ I', z_X12_keep_b13 TB 0 fuel (I, J, rB) (nI y) = z_X12_keep_b54 TB 0 20000 (I', J, rB) 0 ∧ (∀ b j, b ≠ 2 → ¬ (b = 0 ∧ j = 2) → I' b j = I b j) ∧ I' 0 2 = I 0 2 - 1 ∧ (∀ j, y ≤ j → j < 17440 → I' 2 (j - 1090) = I 2 j) ∧ ∀ j, j < y - 1090 → I' 2 j = I 2 j := by
  intro k
  induction k with
  | zero =>
    intro fuel I y hf hy h1
    obtain ⟨f, rfl⟩ : ∃ f, fuel = f + 1 := ⟨fuel - 1, by omega⟩
    obtain rfl : y = 17440 := by omega
    refine ⟨fh_up I 0 2 (I 0 2 - 1), ?_, fun b j _ q => by simp only [fh_up, q, if_false], up_s _ _ _ _, fun c h1 h2 => by omega, fun j hj => up_a _ _ _ _ (by decide)⟩
    rw [z_X12_keep_b13, if_pos (by decide), let_N, sI_N]
  | succ k ih =>
    intro fuel I y hf hy h1
    obtain ⟨f, rfl⟩ : ∃ f, fuel = f + 1 := ⟨fuel - 1, by omega⟩
    obtain ⟨I', e, g1, g2, g3, g4⟩ := ih f (fh_up I 2 (y - 1090) (I 2 y)) (y + 1) (by omega) (by omega) (by omega)
    have z02 : fh_up I 2 (y - 1090) (I 2 y) 0 2 = I 0 2 := up_a I (y - 1090) 2 (I 2 y) (by decide)
    refine ⟨I', ?_, fun b j q q2 => by rw [g1 b j q q2, up_a _ _ _ _ q], by rw [g2, z02], fun j h1 h2 => ?_, fun j hj => (g4 j (Nat.lt_of_lt_of_le hj (by omega))).trans (up_k I 2 2 (I 2 y) (show j ≠ y - 1090 by omega))⟩
    · have c0 : ¬ (17440 : Int32) ≤ nI y := nI_ge (b := 17440) (by omega) (by omega)
      have e0 : nI y - 1090 = nI (y - 1090) := nI_subn (b := 1090) h1
      have i1 : fh_in (nI y) 17440 = true := in_n (by omega) (by omega)
      have i2 : fh_in (nI (y - 1090)) 17440 = true := in_n (by omega) (by omega)
      have k1 : (nI y).toNatClampNeg = y := nI_clamp (by omega)
      have k2 : (nI (y - 1090)).toNatClampNeg = y - 1090 := nI_clamp (by omega)
      rw [z_X12_keep_b13]
      simp (disch := omega) only [ck_N, b1_N, b2_N, let_N, nn_Ns, nn_Nn, sI_N, sJ_N, sR_N, kB_N0, kB_N1, kB_N2, kB_N3, kB_N4, kB_N5, kB_N6, kB_N7, kB_N8, kB_N9, kB_N10, kB_N11, kB_N12, kB_N13, kB_N14, kB_N15, kB_N16, kB_N17, lB_N1, lB_N2, lB_N3, lB_N4, lB_N5, lB_N6, lB_N7, lB_N8, lB_N9, lB_N10, lB_N11, lB_N12, lB_N13, lB_N14, lB_N15, lB_N16, lB_N17, rB_N0, rB_N1, rB_N4, rB_N5, rB_N6, rB_N7, rB_N8, rB_N9, rB_N10, rB_N11, rB_N13, rB_N14, rB_N26, rB_N27, rB_N31, rB_N33, rB_N34, Int32.reduceAdd, Int32.reduceSub, Int32.reduceMul, Int32.reduceLE, Int32.reduceLT, Int32.reduceToNatClampNeg, if_true, if_false, eq_self, up_s, up_a, up_k, ne_0_1, ne_0_2, ne_0_3, ne_0_4, ne_0_5, ne_0_6, ne_0_7, ne_1_0, ne_1_2, ne_1_3, ne_1_4, ne_1_5, ne_1_6, ne_1_7, ne_2_0, ne_2_1, ne_2_3, ne_2_4, ne_2_5, ne_2_6, ne_2_7, ne_3_0, ne_3_1, ne_3_2, ne_3_4, ne_3_5, ne_3_6, ne_3_7, ne_4_0, ne_4_1, ne_4_2, ne_4_3, ne_4_5, ne_4_6, ne_4_7, ne_5_0, ne_5_1, ne_5_2, ne_5_3, ne_5_4, ne_5_6, ne_5_7, ne_6_0, ne_6_1, ne_6_2, ne_6_3, ne_6_4, ne_6_5, ne_6_7, ne_7_0, ne_7_1, ne_7_2, ne_7_3, ne_7_4, ne_7_5, ne_7_6, ne_m_0, ne_0_m, ne_m_1, ne_1_m, ne_m_2, ne_2_m, ne_m_3, ne_3_m, ne_m_4, ne_4_m, ne_m_5, ne_5_m, ne_m_6, ne_6_m, ne_m_7, ne_7_m, in8_0, in8_1, in8_2, in8_3, in8_4, in8_5, in8_6, in8_7, c0, e0, i1, i2, k1, k2, nI_1, e]
    · by_cases c2 : j = y
      · rw [c2, g4 _ (by omega), up_s]
      · rw [g3 j (by omega) h2, up_k _ _ _ _ (by omega)]
theorem b_keep {I : Nat → Nat → Int32} {J : Nat → Nat → Int64} {n : Nat} {P : Nat → Rcp} (hh : hisB I n P) (hrec : ∀ r, r < 10 → ∀ j, j < 109 → I 1 (109 * r + j) = P n r j) :
    ∃ I', z_X12_keep TB (I, J, rB) 0 = some (I', J, rB) ∧ (∀ b j, b ≠ 2 → ¬ (b = 0 ∧ j = 2) → I' b j = I b j) ∧ I' 0 2 = nI (nN n) ∧ ∀ (G : Rcp) (k : Nat), k < nN n → ∀ r, r < 10 → ∀ j, j < 109 → I' 2 (1090 * k + (109 * r + j)) = nP n P G k r j := by
  obtain ⟨h2, hn, h3⟩ := hh
  unfold z_X12_keep
  simp only [h2]
  by_cases c : n = 16
  · subst c
    rw [if_pos (show nI 16 = (16 : Int32) from rfl)]
    obtain ⟨I1, e1, g1, g2, g3, g4⟩ := b_keep13 (J := J) 16350 20000 I 1090 (by omega) (by omega) (by omega)
    obtain ⟨I2, e2, f1, f2, f3⟩ := b_keep54 (J := J) (n := 15) (by omega) 1090 20000 I1 0 (by omega) (by omega) (by rw [g2, h2]; rfl)
    refine ⟨I2, e1.trans e2, fun b j q q2 => by rw [f1 b j (fun q' => q q'.1) q2, g1 b j q q2], f2, fun G k hk r hr j hj => ?_⟩
    have hk : k < 16 := hk
    unfold nP
    rw [if_pos rfl, if_pos hk]
    by_cases c2 : k = 15
    · subst c2
      rw [f3 (109 * r + j) (by omega) (by omega), g1 _ _ (by decide) (by omega)]
      exact hrec r hr j hj
    · rw [f1 _ _ (fun q => by omega) (by omega)]
      have := g3 (1090 * (k + 1) + (109 * r + j)) (by omega) (by omega)
      rw [show 1090 * (k + 1) + (109 * r + j) - 1090 = 1090 * k + (109 * r + j) by omega] at this
      rw [this]
      exact h3 (k + 1) (by omega) r hr j hj
  · have c' : ¬ nI n = 16 := fun e => c ((nI_eq (b := 16) (by omega) (by omega)).mp e)
    rw [if_neg c']
    obtain ⟨I2, e2, f1, f2, f3⟩ := b_keep54 (J := J) (n := n) (by omega) 1090 20000 I 0 (by omega) (by omega) h2
    refine ⟨I2, e2, fun b j q q2 => f1 b j (fun q' => q q'.1) q2, by rw [f2, nN, if_neg c], fun G k hk r hr j hj => ?_⟩
    rw [nN, if_neg c] at hk
    unfold nP
    rw [if_neg c, if_pos (show k ≤ n by omega)]
    by_cases c2 : k = n
    · subst c2
      rw [f3 (109 * r + j) (by omega) (by omega)]
      exact hrec r hr j hj
    · rw [f1 _ _ (fun q => by omega) (by omega)]
      exact h3 k (by omega) r hr j hj
def bec (k a b c d : Int32) (j : Nat) : Int32 := if j = 0 then k else if j = 1 then a else if j = 2 then b else if j = 3 then c else if j = 4 then d else 0
theorem b_become7 {J : Nat → Nat → Int64} {r : Nat} (hr : r < 10) (k0 a0 b0 c0 d0 : Int32) : ∀ (k fuel : Nat) (I : Nat → Nat → Int32) (y : Nat), k < fuel → y + k = 109 → (∀ j, j < y → I 1 (109 * r + j) = 0) →
    ∃ I', z_X12_become_b7 TB 0 fuel (I, J, rB) (nI r) k0 a0 b0 c0 d0 (nI y) = some (I', J, rB) ∧ (∀ b j, ¬ (b = 1 ∧ 109 * r ≤ j ∧ j < 109 * r + 109) → I' b j = I b j) ∧ ∀ j, j < 109 → I' 1 (109 * r + j) = bec k0 a0 b0 c0 d0 j := by
  intro k
  induction k with
  | zero =>
    intro fuel I y hf hy h0
    obtain ⟨f, rfl⟩ : ∃ f, fuel = f + 1 := ⟨fuel - 1, by omega⟩
    obtain rfl : y = 109 := by omega
    refine ⟨fh_up (fh_up (fh_up (fh_up (fh_up I 1 (109 * r + 0) k0) 1 (109 * r + 1) a0) 1 (109 * r + 2) b0) 1 (109 * r + 3) c0) 1 (109 * r + 4) d0, ?_, fun b j q => ?_, fun j hj => ?_⟩
    · rw [z_X12_become_b7, if_pos (by decide), show (0 : Int32) = nI 0 from rfl, b_put hr (by omega), b1_N, show (1 : Int32) = nI 1 from rfl, b_put hr (by omega), b1_N, show (2 : Int32) = nI 2 from rfl, b_put hr (by omega), b1_N, show (3 : Int32) = nI 3 from rfl, b_put hr (by omega), b1_N, show (4 : Int32) = nI 4 from rfl, b_put hr (by omega), b1_N]
    · by_cases c : b = 1
      · simp (disch := omega) only [up_k]
      · simp only [up_a _ _ _ _ c]
    · unfold bec
      by_cases j4 : j = 4
      · subst j4; rw [up_s]; rfl
      rw [up_k _ _ _ _ (by omega)]
      by_cases j3 : j = 3
      · subst j3; rw [up_s]; rfl
      rw [up_k _ _ _ _ (by omega)]
      by_cases j2 : j = 2
      · subst j2; rw [up_s]; rfl
      rw [up_k _ _ _ _ (by omega)]
      by_cases j1 : j = 1
      · subst j1; rw [up_s]; rfl
      rw [up_k _ _ _ _ (by omega)]
      by_cases j0 : j = 0
      · subst j0; rw [up_s]; rfl
      rw [up_k _ _ _ _ (by omega), if_neg j0, if_neg j1, if_neg j2, if_neg j3, if_neg j4]
      exact h0 j hj
  | succ k ih =>
    intro fuel I y hf hy h0
    obtain ⟨f, rfl⟩ : ∃ f, fuel = f + 1 := ⟨fuel - 1, by omega⟩
    obtain ⟨I', e, g1, g2⟩ := ih f (fh_up I 1 (109 * r + y) 0) (y + 1) (by omega) (by omega) (fun j hj => by
      by_cases c : j = y
      · rw [c, up_s]
      · rw [up_k _ _ _ _ (by omega)]; exact h0 j (by omega))
    refine ⟨I', ?_, fun b j q => ?_, g2⟩
    · rw [z_X12_become_b7, if_neg (show ¬ (109 : Int32) ≤ nI y from nI_ge (b := 109) (by omega) (by omega)), b_put hr (by omega), b1_N, let_N, nI_1]
      exact e
    · rw [g1 b j q]
      by_cases c : b = 1
      · rw [up_k _ _ _ _ (by omega)]
      · rw [up_a _ _ _ _ c]
/-- what stands when a row's recipe has changed and nothing is laid yet -/
def midB (I I1 : Nat → Nat → Int32) (n : Nat) (P : Nat → Rcp) (r : Nat) (f : Nat → Int32) : Prop := (∀ b j, kpB b j → b ≠ 2 → ¬ (b = 1 ∧ 109 * r ≤ j ∧ j < 109 * r + 109) → ¬ (b = 0 ∧ j = 2) → I1 b j = I b j) ∧ I1 0 2 = nI (nN n) ∧ (∀ (G : Rcp) (k : Nat), k < nN n → ∀ r, r < 10 → ∀ j, j < 109 → I1 2 (1090 * k + (109 * r + j)) = nP n P G k r j) ∧ ∀ j, j < 109 → I1 1 (109 * r + j) = f j
theorem b_become {I : Nat → Nat → Int32} {J : Nat → Nat → Int64} {n : Nat} {P : Nat → Rcp} {r : Nat} (hr : r < 10) (hh : hisB I n P) (hrec : ∀ r, r < 10 → ∀ j, j < 109 → I 1 (109 * r + j) = P n r j) (k0 a0 b0 c0 d0 : Int32) :
    ∃ I', z_X12_become TB (I, J, rB) 0 (nI r) k0 a0 b0 c0 d0 = some (I', J, rB) ∧ midB I I' n P r (bec k0 a0 b0 c0 d0) ∧ ∀ j, j ≠ 2 → I' 0 j = I 0 j := by
  obtain ⟨I1, e1, g1, g2, g3⟩ := b_keep (J := J) hh hrec
  obtain ⟨I2, e2, f1, f2⟩ := b_become7 (J := J) hr k0 a0 b0 c0 d0 109 20000 I1 0 (by omega) (by omega) (fun j hj => absurd hj (Nat.not_lt_zero _))
  refine ⟨I2, ?_, ⟨fun b j q q2 q3 q4 => by rw [f1 b j q3, g1 b j q2 q4], by rw [f1 _ _ (fun q => by omega)]; exact g2, fun G k hk r' hr' j hj => by rw [f1 _ _ (fun q => by omega)]; exact g3 G k hk r' hr' j hj, f2⟩, fun j hj => by rw [f1 _ _ (fun q => by omega), g1 _ _ (by decide) (fun q => hj q.2)]⟩
  unfold z_X12_become
  rw [e1, b1_N]
  exact e2
theorem midB_put {I I1 : Nat → Nat → Int32} {n : Nat} {P : Nat → Rcp} {r j0 : Nat} {f : Nat → Int32} {v : Int32} (hr : r < 10) (hj : j0 < 109) (h : midB I I1 n P r f) : midB I (fh_up I1 1 (109 * r + j0) v) n P r (fun j => if j = j0 then v else f j) := by
  obtain ⟨h1, h2, h3, h4⟩ := h
  refine ⟨fun b j q q2 q3 q4 => ?_, by rw [up_a _ _ _ _ (by decide)]; exact h2, fun G k hk r' hr' j hj => by rw [up_a _ _ _ _ (by decide)]; exact h3 G k hk r' hr' j hj, fun j hj' => ?_⟩
  · by_cases c : b = 1
    · rw [up_k _ _ _ _ (by omega)]; exact h1 b j q q2 q3 q4
    · rw [up_a _ _ _ _ c]; exact h1 b j q q2 q3 q4
  · dsimp only
    by_cases c : j = j0
    · rw [if_pos c, c, up_s]
    · rw [if_neg c, up_k _ _ _ _ (by omega)]; exact h4 j hj'
theorem okP_n {n : Nat} {P : Nat → Rcp} {t : Nat} {b : Nat → Nat} {s r : Nat} {f : Nat → Int32} (h : okP n P t b s) (ok : okr f r) : okP (nN n) (nP n P (nF (P n) r f)) t b s := by
  obtain ⟨h1, h2, h3, h4⟩ := h
  have hF : ∀ x, x < 10 → okr (nF (P n) r f x) x := fun x hx => by
    unfold nF
    by_cases c : x = r
    · rw [if_pos c, c]; exact ok
    · rw [if_neg c]; exact h1 n (Nat.le_refl _) x hx
  refine ⟨fun k hk x hx => ?_, h2, h3, h4⟩
  unfold nP
  by_cases c : n = 16
  · rw [if_pos c]
    by_cases c2 : k < 16
    · rw [if_pos c2]; exact h1 (k + 1) (by omega) x hx
    · rw [if_neg c2]; exact hF x hx
  · rw [if_neg c]
    by_cases c2 : k ≤ n
    · rw [if_pos c2]; exact h1 k c2 x hx
    · rw [if_neg c2]; exact hF x hx
theorem b_chg {I I1 : Nat → Nat → Int32} {J : Nat → Nat → Int64} {n : Nat} {P : Nat → Rcp} {t t' : Nat} {b b' : Nat → Nat} {fp fp' : Int32} {s s' : Nat} {c c' : Nat → Int32} {r : Nat} {f : Nat → Int32} (hr : r < 10) (ok : okP n P t b s) (h : invB I n P t' b' fp' s' c') (okf : okr f r) (hm : midB I I1 n P r f) (hT : tapB I1 t b fp) (hS : saiB I1 s c) :
    ∃ I' J', z_X12_layAll TB (I1, J, rB) 0 = some (I', J', rB) ∧ (∀ j, j < 15 → I' 0 j = I1 0 j) ∧ invB I' (nN n) (nP n P (nF (P n) r f)) t b fp s c := by
  obtain ⟨⟨r1, r2⟩, ⟨a1, a2, a3⟩, -, -⟩ := h
  obtain ⟨m1, m2, m3, m4⟩ := hm
  have okn := okP_n ok okf
  have eF : nP n P (nF (P n) r f) (nN n) = nF (P n) r f := nP_top _ _ _
  have okF := okn.1 (nN n) (Nat.le_refl _)
  rw [eF] at okF
  have hrec : ∀ x, x < 10 → ∀ j, j < 109 → I1 1 (109 * x + j) = nF (P n) r f x j := fun x hx j hj => by
    unfold nF
    by_cases c : x = r
    · rw [if_pos c, c]; exact m4 j hj
    · rw [if_neg c, m1 _ _ (by unfold kpB; omega) (by decide) (fun q => by omega) (fun q => by omega)]; exact r1 x hx j hj
  obtain ⟨I', J', e, hl, hd⟩ := b_layAll (J := J) okF hrec
  refine ⟨I', J', e, fun j hj => hl _ _ (by omega), ⟨fun x hx j hj => ?_, ?_⟩, ⟨by rw [hl _ _ (by omega)]; exact m2, nN_le a2, fun k hk x hx j hj => by rw [hl _ _ (by omega)]; exact m3 _ k hk x hx j hj⟩, ⟨by rw [hl _ _ (by omega)]; exact hT.1, fun j hj => by rw [hl _ _ (by omega)]; exact hT.2.1 j hj, by rw [hl _ _ (by omega)]; exact hT.2.2⟩, by rw [hl _ _ (by omega)]; exact hS.1, fun j hj => by rw [hl _ _ (by omega)]; exact hS.2 j hj⟩
  · rw [eF, hl _ _ (by omega)]; exact hrec x hx j hj
  · rw [eF]; exact hd
theorem b_undo26 {J : Nat → Nat → Int64} {q : Nat} (hq : q < 16) : ∀ (k fuel : Nat) (I : Nat → Nat → Int32) (y : Nat), k < fuel → y + k = 1090 → I 0 2 = nI q →
    ∃ I', z_X12_undo_b26 TB 0 fuel (I, J, rB) (nI y) = fh_b1 (z_X12_layAll TB (I', J, rB) 0) (fun h2 => some ((h2.1 0 2), h2)) ∧ (∀ b j, ¬ (b = 1 ∧ y ≤ j ∧ j < 1090) → I' b j = I b j) ∧ ∀ c, y ≤ c → c < 1090 → I' 1 c = I 2 (1090 * q + c) := by
  intro k
  induction k with
  | zero =>
    intro fuel I y hf hy h2
    obtain ⟨f, rfl⟩ : ∃ f, fuel = f + 1 := ⟨fuel - 1, by omega⟩
    obtain rfl : y = 1090 := by omega
    exact ⟨I, by rw [z_X12_undo_b26, if_pos (by decide)], fun _ _ _ => rfl, fun c h1 h2 => by omega⟩
  | succ k ih =>
    intro fuel I y hf hy h2
    obtain ⟨f, rfl⟩ : ∃ f, fuel = f + 1 := ⟨fuel - 1, by omega⟩
    obtain ⟨I', e, g1, g3⟩ := ih f (fh_up I 1 y (I 2 (1090 * q + y))) (y + 1) (by omega) (by omega) (by rw [up_a _ _ _ _ (by decide)]; exact h2)
    refine ⟨I', ?_, fun b j q0 => ?_, fun c h1 h2 => ?_⟩
    · have c0 : ¬ (1090 : Int32) ≤ nI y := nI_ge (b := 1090) (by omega) (by omega)
      have e0 : (1090 : Int32) * nI q + nI y = nI (1090 * q + y) := by rw [show (1090 : Int32) = nI 1090 from rfl, nI_mul, nI_add]
      have i1 : fh_in (nI y) 1090 = true := in_n (by omega) (by omega)
      have i2 : fh_in (nI (1090 * q + y)) 17440 = true := in_n (by omega) (by omega)
      have k1 : (nI y).toNatClampNeg = y := nI_clamp (by omega)
      have k2 : (nI (1090 * q + y)).toNatClampNeg = 1090 * q + y := nI_clamp (by omega)
      rw [z_X12_undo_b26]
      simp (disch := omega) only [ck_N, b1_N, b2_N, let_N, nn_Ns, nn_Nn, sI_N, sJ_N, sR_N, kB_N0, kB_N1, kB_N2, kB_N3, kB_N4, kB_N5, kB_N6, kB_N7, kB_N8, kB_N9, kB_N10, kB_N11, kB_N12, kB_N13, kB_N14, kB_N15, kB_N16, kB_N17, lB_N1, lB_N2, lB_N3, lB_N4, lB_N5, lB_N6, lB_N7, lB_N8, lB_N9, lB_N10, lB_N11, lB_N12, lB_N13, lB_N14, lB_N15, lB_N16, lB_N17, rB_N0, rB_N1, rB_N4, rB_N5, rB_N6, rB_N7, rB_N8, rB_N9, rB_N10, rB_N11, rB_N13, rB_N14, rB_N26, rB_N27, rB_N31, rB_N33, rB_N34, Int32.reduceAdd, Int32.reduceSub, Int32.reduceMul, Int32.reduceLE, Int32.reduceLT, Int32.reduceToNatClampNeg, if_true, if_false, eq_self, up_s, up_a, up_k, ne_0_1, ne_0_2, ne_0_3, ne_0_4, ne_0_5, ne_0_6, ne_0_7, ne_1_0, ne_1_2, ne_1_3, ne_1_4, ne_1_5, ne_1_6, ne_1_7, ne_2_0, ne_2_1, ne_2_3, ne_2_4, ne_2_5, ne_2_6, ne_2_7, ne_3_0, ne_3_1, ne_3_2, ne_3_4, ne_3_5, ne_3_6, ne_3_7, ne_4_0, ne_4_1, ne_4_2, ne_4_3, ne_4_5, ne_4_6, ne_4_7, ne_5_0, ne_5_1, ne_5_2, ne_5_3, ne_5_4, ne_5_6, ne_5_7, ne_6_0, ne_6_1, ne_6_2, ne_6_3, ne_6_4, ne_6_5, ne_6_7, ne_7_0, ne_7_1, ne_7_2, ne_7_3, ne_7_4, ne_7_5, ne_7_6, ne_m_0, ne_0_m, ne_m_1, ne_1_m, ne_m_2, ne_2_m, ne_m_3, ne_3_m, ne_m_4, ne_4_m, ne_m_5, ne_5_m, ne_m_6, ne_6_m, ne_m_7, ne_7_m, in8_0, in8_1, in8_2, in8_3, in8_4, in8_5, in8_6, in8_7, c0, h2, e0, i1, i2, k1, k2, nI_1, e]
    · rw [g1 b j (fun q' => q0 ⟨q'.1, by omega, q'.2.2⟩)]
      by_cases c : b = 1 ∧ j = y
      · exact absurd ⟨c.1, by omega, by omega⟩ q0
      · simp only [fh_up, c, if_false]
    · by_cases c2 : c = y
      · rw [c2, g1 _ _ (fun q => by omega), up_s]
      · rw [g3 c (by omega) h2, up_a _ _ _ _ (by decide)]
theorem b_undo {I : Nat → Nat → Int32} {J : Nat → Nat → Int64} {n : Nat} {P : Nat → Rcp} {t : Nat} {b : Nat → Nat} {fp : Int32} {s : Nat} {c : Nat → Int32} (hn0 : 0 < n) (ok : okP n P t b s) (h : invB I n P t b fp s c) :
    ∃ I' J', z_X12_undo TB (I, J, rB) 0 = some (nI (n - 1), (I', J', rB)) ∧ invB I' (n - 1) P t b fp s c := by
  obtain ⟨⟨r1, r2⟩, ⟨a1, a2, a3⟩, hT, hS⟩ := h
  obtain ⟨I0, e0⟩ : ∃ z, z = fh_up (fh_up I 0 3 0) 0 2 (nI (n - 1)) := ⟨_, rfl⟩
  obtain ⟨I1, e1, g1, g2⟩ := b_undo26 (J := J) (q := n - 1) (by omega) 1090 20000 I0 0 (by omega) (by omega) (by rw [e0, up_s])
  have o1 : ∀ b j, b ≠ 1 → ¬ (b = 0 ∧ (j = 2 ∨ j = 3)) → I1 b j = I b j := fun b j q q2 => by
    rw [g1 _ _ (fun q' => q q'.1), e0]
    by_cases c : b = 0
    · rw [up_k _ _ _ _ (by omega), up_k _ _ _ _ (by omega)]
    · rw [up_a _ _ _ _ c, up_a _ _ _ _ c]
  have hrec : ∀ x, x < 10 → ∀ j, j < 109 → I1 1 (109 * x + j) = P (n - 1) x j := fun x hx j hj => by
    rw [g2 _ (by omega) (by omega), e0, up_a _ _ _ _ (by decide), up_a _ _ _ _ (by decide)]
    exact a3 (n - 1) (by omega) x hx j hj
  obtain ⟨I', J', e, hl, hd⟩ := b_layAll (J := J) (ok.1 (n - 1) (by omega)) hrec
  have h02 : I' 0 2 = nI (n - 1) := by rw [hl _ _ (by omega), g1 _ _ (by omega), e0, up_s]
  refine ⟨I', J', ?_, ⟨fun x hx j hj => ?_, hd⟩, ⟨h02, by omega, fun k hk x hx j hj => by rw [hl _ _ (by omega), o1 _ _ (by decide) (by omega)]; exact a3 k (by omega) x hx j hj⟩, ⟨by rw [hl _ _ (by omega), o1 _ _ (by decide) (by omega)]; exact hT.1, fun j hj => by rw [hl _ _ (by omega), o1 _ _ (by decide) (by omega)]; exact hT.2.1 j hj, by rw [hl _ _ (by omega), o1 _ _ (by decide) (by omega)]; exact hT.2.2⟩, by rw [hl _ _ (by omega), o1 _ _ (by decide) (by omega)]; exact hS.1, fun j hj => by rw [hl _ _ (by omega), o1 _ _ (by decide) (by omega)]; exact hS.2 j hj⟩
  · unfold z_X12_undo
    have e1' : z_X12_undo_b26 TB 0 20000 (I0, J, rB) 0 = fh_b1 (z_X12_layAll TB (I1, J, rB) 0) (fun h2 => some ((h2.1 0 2), h2)) := e1
    have c0 : ¬ nI n = 0 := nI_ne0 hn0 (by omega)
    have c1 : nI n - 1 = nI (n - 1) := nI_subn (b := 1) (by omega)
    have c2 : fh_up I 0 3 0 0 2 = nI n := by rw [up_k _ _ _ _ (by decide)]; exact a1
    simp only [let_N, sI_N, c2, c0, if_false, c1, ← e0, e1', e, b1_N, h02]
  · rw [hl _ _ (by omega)]; exact hrec x hx j hj
theorem b_undo0 {I : Nat → Nat → Int32} {J : Nat → Nat → Int64} (h : I 0 2 = nI 0) : z_X12_undo TB (I, J, rB) 0 = some (-1, (fh_up I 0 3 0, J, rB)) := by
  unfold z_X12_undo
  have c2 : fh_up I 0 3 0 0 2 = nI 0 := by rw [up_k _ _ _ _ (by decide)]; exact h
  have c0 : nI 0 = 0 := rfl
  simp only [let_N, sI_N, c2, c0, if_true]
