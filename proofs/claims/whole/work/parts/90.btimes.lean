/-! the reference's reckoner: products, arrays -/
theorem b_t29 {I : Nat → Nat → Int32} {J : Nat → Nat → Int64} {a n b : Int64} {by0 : Bool} (h16 : I 0 16 = bI by0) : z_X12_timesAnd_b29 TB 0 (I, J, rB) a n b = some (a * n + b, (fh_up I 0 16 (bI (by0 || decide (1000000000000000 < a * n + b ∨ a * n + b < -1000000000000000))), J, rB)) := by
  unfold z_X12_timesAnd_b29
  simp only [let_e, h16]
  generalize a * n + b = v
  cases by0
  · rw [if_pos (show bI false = 0 from rfl)]
    by_cases c1 : (1000000000000000 : Int64) < v
    · rw [if_pos c1, decide_eq_true (Or.inl c1)]; rfl
    rw [if_neg c1]
    by_cases c2 : (-1000000000000000 : Int64) ≤ v
    · rw [if_pos c2, decide_eq_false (fun h => h.elim c1 (fun h => n64_lt.mpr c2 h))]; rfl
    · rw [if_neg c2, decide_eq_true (Or.inr (n64_le.mp c2))]; rfl
  · rw [if_neg (show ¬ bI true = 0 by decide), Bool.true_or]; rfl
theorem dvM {n : Int64} : -2000000000000000 ≤ (2000000000000000 / n : Int64).toInt ∧ (2000000000000000 / n : Int64).toInt ≤ 2000000000000000 := by
  rw [i64_div (by decide)]
  have hv : ((2000000000000000 : Int64).toInt.tdiv n.toInt).natAbs ≤ (2000000000000000 : Int64).toInt.natAbs := by rw [Int.natAbs_tdiv]; exact Nat.div_le_self _ _
  have e3 : (2000000000000000 : Int64).toInt = 2000000000000000 := rfl
  rw [e3] at hv ⊢
  omega
theorem absM {a M : Int64} (ha : bd a) (hM : -2000000000000000 ≤ M.toInt ∧ M.toInt ≤ 2000000000000000) : (if 0 ≤ a then a else -a) ≤ M ↔ ¬ (M < a ∨ a < -M) := by
  obtain ⟨a1, a2⟩ := ha
  have e2 : (-M).toInt = -M.toInt := i64_neg (by omega)
  have e1 : (-a).toInt = -a.toInt := i64_neg (by omega)
  have z : (0 : Int64).toInt = 0 := rfl
  by_cases c : (0 : Int64) ≤ a
  · rw [if_pos c]
    simp only [Int64.le_iff_toInt_le, Int64.lt_iff_toInt_lt, e2, z] at c ⊢
    omega
  · rw [if_neg c]
    simp only [Int64.le_iff_toInt_le, Int64.lt_iff_toInt_lt, e1, e2, z] at c ⊢
    omega
theorem b_times {I : Nat → Nat → Int32} {J : Nat → Nat → Int64} {a n b : Int64} {by0 : Bool} (ha : bd a) (h16 : I 0 16 = bI by0) : ∃ v, z_X12_timesAnd TB (I, J, rB) 0 a n b = some (v, (fh_up I 0 16 (bI (by0 || bey a n b)), J, rB)) ∧ (bey a n b = false → v = a * n + b) := by
  unfold z_X12_timesAnd
  by_cases hn : n = 0
  · rw [if_pos hn, b_t29 h16]
    refine ⟨_, ?_, fun _ => rfl⟩
    rw [show bey a n b = decide (1000000000000000 < a * n + b ∨ a * n + b < -1000000000000000) from ?_]
    apply Bool.eq_iff_iff.mpr
    simp only [bey, decide_eq_true_eq]
    exact ⟨fun h => h.elim (fun h => absurd hn h.1) id, Or.inr⟩
  · rw [if_neg hn, abs_s, b1_s, abs_s, b1_s, show decide (¬ (if 0 ≤ n then n else -n) = 0) = true from decide_eq_true (abs_ne hn), ck_t]
    have key := absM ha (dvM (n := (if 0 ≤ n then n else -n)))
    by_cases c : (if 0 ≤ a then a else -a) ≤ 2000000000000000 / (if 0 ≤ n then n else -n)
    · rw [if_pos c, b_t29 h16]
      refine ⟨_, ?_, fun _ => rfl⟩
      rw [show bey a n b = decide (1000000000000000 < a * n + b ∨ a * n + b < -1000000000000000) from ?_]
      apply Bool.eq_iff_iff.mpr
      simp only [bey, decide_eq_true_eq]
      exact ⟨fun h => h.elim (fun h => absurd h.2 (key.mp c)) id, Or.inr⟩
    · have hb : bey a n b = true := by
        simp only [bey, decide_eq_true_eq]
        exact Or.inl ⟨hn, Classical.not_not.mp (fun q => c (key.mpr q))⟩
      rw [if_neg c, hb, Bool.or_true]
      exact ⟨0, rfl, fun h => absurd h (by decide)⟩
theorem bey_z {n : Int64} (hn : -9000000000000000000 ≤ n.toInt ∧ n.toInt ≤ 9000000000000000000) : bey 0 n 0 = false := by
  unfold bey
  rw [z64]
  refine decide_eq_false (fun h => ?_)
  rcases h with ⟨h0, h⟩ | h | h
  · have hn0 : n.toInt ≠ 0 := fun e => h0 (Int64.toInt_inj.mp (by rw [e]; rfl))
    have hM : 0 ≤ (2000000000000000 / (if 0 ≤ n then n else -n) : Int64).toInt := by
      rw [i64_div (by decide)]
      refine Int.tdiv_nonneg (by decide) ?_
      by_cases hq : (0 : Int64) ≤ n
      · rw [if_pos hq]; exact Int64.le_iff_toInt_le.mp hq
      · rw [if_neg hq, i64_neg (by omega)]
        have : ¬ 0 ≤ n.toInt := fun h => hq (Int64.le_iff_toInt_le.mpr h)
        omega
    have hM2 := dvM (n := (if 0 ≤ n then n else -n))
    generalize (2000000000000000 / (if 0 ≤ n then n else -n) : Int64) = M at *
    have e2 : (-M).toInt = -M.toInt := i64_neg (by omega)
    simp only [Int64.lt_iff_toInt_lt, e2, show (0 : Int64).toInt = 0 from rfl] at h
    omega
  · exact absurd h (by decide)
  · exact absurd h (by decide)
theorem b_take2 {I : Nat → Nat → Int32} : ∀ (k fuel : Nat) (J : Nat → Nat → Int64) (n : Nat), k < fuel → n + k = 8 → (∀ j, j < n → J 11 j = J 12 j) → ∃ J', z_X12_takesThen_b2 TB 0 fuel (I, J, rB) (nI n) = some (I, J', rB) ∧ jF J J' 11 ∧ ∀ j, j < 8 → J' 11 j = J 12 j := by
  intro k
  induction k with
  | zero =>
    intro fuel J n hf hn hj
    obtain ⟨f, rfl⟩ : ∃ f, fuel = f + 1 := ⟨fuel - 1, by omega⟩
    obtain rfl : n = 8 := by omega
    exact ⟨J, by rw [z_X12_takesThen_b2, if_pos (by decide)], fun _ _ _ => rfl, hj⟩
  | succ k ih =>
    intro fuel J n hf hn hj
    obtain ⟨f, rfl⟩ : ∃ f, fuel = f + 1 := ⟨fuel - 1, by omega⟩
    obtain ⟨J', e, hF, h2⟩ := ih f (fh_up J 11 n (J 12 n)) (n + 1) (by omega) (by omega) (fun j hjn => by
      by_cases q : j = n
      · subst q
        simp (disch := omega) only [up_a, up_s]
      · simp (disch := omega) only [up_a, up_k]
        exact hj j (by omega))
    refine ⟨J', ?_, fun b j hb => by rw [hF b j hb, up_a _ _ _ _ hb], fun j hj => by rw [h2 j hj, up_a _ _ _ _ (by decide)]⟩
    rw [z_X12_takesThen_b2, if_neg (show ¬ (8 : Int32) ≤ nI n from nI_ge (b := 8) (by omega) (by omega))]
    simp (disch := omega) only [ck_t, b1_s, b2_s, let_e, nn_s, nn_n, sI_e, sJ_e, sR_e, kB_0, kB_1, kB_2, kB_3, kB_4, kB_5, kB_6, kB_7, kB_8, kB_9, kB_10, kB_11, kB_12, kB_13, kB_14, kB_15, kB_16, kB_17, lB_1, lB_2, lB_3, lB_4, lB_5, lB_6, lB_7, lB_8, lB_9, lB_10, lB_11, lB_12, lB_13, lB_14, lB_15, lB_16, lB_17, rB_0, rB_1, rB_4, rB_5, rB_6, rB_7, rB_8, rB_9, rB_10, rB_11, rB_13, rB_14, rB_26, rB_27, rB_31, rB_33, rB_34, in_n, nI_clamp, lit, nI_mul, nI_add, nI_leI, nI_ltI, nI_eq, up_s, up_a, up_k, nI_1]
    exact e
theorem b_take {I : Nat → Nat → Int32} {J : Nat → Nat → Int64} : ∃ J', z_X12_takesThen TB (I, J, rB) 0 = some (I, J', rB) ∧ jF J J' 11 ∧ k4 J' 11 0 = k4 J 12 0 ∧ k4 J' 11 4 = k4 J 12 4 := by
  obtain ⟨J', e, hF, h⟩ := b_take2 (I := I) 8 20000 J 0 (by omega) (by omega) (fun j hj => absurd hj (Nat.not_lt_zero _))
  refine ⟨J', e, hF, ?_, ?_⟩
  · unfold k4; rw [h 0 (by decide), h (0 + 1) (by decide), h (0 + 2) (by decide), h (0 + 3) (by decide)]
  · unfold k4; rw [h 4 (by decide), h (4 + 1) (by decide), h (4 + 2) (by decide), h (4 + 3) (by decide)]
theorem b_rS {I : Nat → Nat → Int32} {J : Nat → Nat → Int64} {n : Int64} (h16 : I 0 16 = 0) (a0 : bd (J 11 0)) (c0 : bd (J 11 4)) : ∃ J', z_X12_readsSingle TB (I, J, rB) 0 n = some (fh_up I 0 16 (bI (bey (J 11 0) n (J 11 1) || bey (J 11 4) n (J 11 5))), J', rB) ∧ jF J J' 12 ∧ ((bey (J 11 0) n (J 11 1) || bey (J 11 4) n (J 11 5)) = false → k4 J' 12 0 = (J 11 0 * n + J 11 1, J 11 0, 0, 0) ∧ k4 J' 12 4 = (J 11 4 * n + J 11 5, J 11 4, 0, 0)) := by
  obtain ⟨v0, e0, w0⟩ := b_times (I := I) (J := J) (a := J 11 0) (n := n) (b := J 11 1) (by0 := false) a0 h16
  obtain ⟨v1, e1, w1⟩ := b_times (I := fh_up I 0 16 (bI (false || bey (J 11 0) n (J 11 1)))) (J := fh_up (fh_up (fh_up (fh_up J 12 0 v0) 12 1 (J 11 0)) 12 2 0) 12 3 0) (a := J 11 4) (n := n) (b := J 11 5) (by0 := (false || bey (J 11 0) n (J 11 1))) c0 (up_s _ _ _ _)
  have e : ∀ f, z_X12_readsSingle_b2 TB 0 (f + 3) (I, J, rB) n 0 = some (fh_up I 0 16 (bI ((false || bey (J 11 0) n (J 11 1)) || bey (J 11 4) n (J 11 5))), fh_up (fh_up (fh_up (fh_up (fh_up (fh_up (fh_up (fh_up J 12 0 v0) 12 1 (J 11 0)) 12 2 0) 12 3 0) 12 4 v1) 12 5 (J 11 4)) 12 6 0) 12 7 0, rB) := by
    intro f
    rw [z_X12_readsSingle_b2]
    simp (disch := omega) only [ck_t, b1_s, b2_s, let_e, nn_s, nn_n, sI_e, sJ_e, sR_e, kB_0, kB_1, kB_2, kB_3, kB_4, kB_5, kB_6, kB_7, kB_8, kB_9, kB_10, kB_11, kB_12, kB_13, kB_14, kB_15, kB_16, kB_17, lB_1, lB_2, lB_3, lB_4, lB_5, lB_6, lB_7, lB_8, lB_9, lB_10, lB_11, lB_12, lB_13, lB_14, lB_15, lB_16, lB_17, rB_0, rB_1, rB_4, rB_5, rB_6, rB_7, rB_8, rB_9, rB_10, rB_11, rB_13, rB_14, rB_26, rB_27, rB_31, rB_33, rB_34, Int32.reduceAdd, Int32.reduceSub, Int32.reduceMul, Int32.reduceLE, Int32.reduceLT, Int32.reduceToNatClampNeg, if_true, if_false, eq_self, up_s, up_a, up_k, ne_0_1, ne_0_2, ne_0_3, ne_0_4, ne_0_5, ne_0_6, ne_0_7, ne_1_0, ne_1_2, ne_1_3, ne_1_4, ne_1_5, ne_1_6, ne_1_7, ne_2_0, ne_2_1, ne_2_3, ne_2_4, ne_2_5, ne_2_6, ne_2_7, ne_3_0, ne_3_1, ne_3_2, ne_3_4, ne_3_5, ne_3_6, ne_3_7, ne_4_0, ne_4_1, ne_4_2, ne_4_3, ne_4_5, ne_4_6, ne_4_7, ne_5_0, ne_5_1, ne_5_2, ne_5_3, ne_5_4, ne_5_6, ne_5_7, ne_6_0, ne_6_1, ne_6_2, ne_6_3, ne_6_4, ne_6_5, ne_6_7, ne_7_0, ne_7_1, ne_7_2, ne_7_3, ne_7_4, ne_7_5, ne_7_6, ne_m_0, ne_0_m, ne_m_1, ne_1_m, ne_m_2, ne_2_m, ne_m_3, ne_3_m, ne_m_4, ne_4_m, ne_m_5, ne_5_m, ne_m_6, ne_6_m, ne_m_7, ne_7_m, in8_0, in8_1, in8_2, in8_3, in8_4, in8_5, in8_6, in8_7, e0]
    rw [z_X12_readsSingle_b2]
    simp (disch := omega) only [ck_t, b1_s, b2_s, let_e, nn_s, nn_n, sI_e, sJ_e, sR_e, kB_0, kB_1, kB_2, kB_3, kB_4, kB_5, kB_6, kB_7, kB_8, kB_9, kB_10, kB_11, kB_12, kB_13, kB_14, kB_15, kB_16, kB_17, lB_1, lB_2, lB_3, lB_4, lB_5, lB_6, lB_7, lB_8, lB_9, lB_10, lB_11, lB_12, lB_13, lB_14, lB_15, lB_16, lB_17, rB_0, rB_1, rB_4, rB_5, rB_6, rB_7, rB_8, rB_9, rB_10, rB_11, rB_13, rB_14, rB_26, rB_27, rB_31, rB_33, rB_34, Int32.reduceAdd, Int32.reduceSub, Int32.reduceMul, Int32.reduceLE, Int32.reduceLT, Int32.reduceToNatClampNeg, if_true, if_false, eq_self, up_s, up_a, up_k, ne_0_1, ne_0_2, ne_0_3, ne_0_4, ne_0_5, ne_0_6, ne_0_7, ne_1_0, ne_1_2, ne_1_3, ne_1_4, ne_1_5, ne_1_6, ne_1_7, ne_2_0, ne_2_1, ne_2_3, ne_2_4, ne_2_5, ne_2_6, ne_2_7, ne_3_0, ne_3_1, ne_3_2, ne_3_4, ne_3_5, ne_3_6, ne_3_7, ne_4_0, ne_4_1, ne_4_2, ne_4_3, ne_4_5, ne_4_6, ne_4_7, ne_5_0, ne_5_1, ne_5_2, ne_5_3, ne_5_4, ne_5_6, ne_5_7, ne_6_0, ne_6_1, ne_6_2, ne_6_3, ne_6_4, ne_6_5, ne_6_7, ne_7_0, ne_7_1, ne_7_2, ne_7_3, ne_7_4, ne_7_5, ne_7_6, ne_m_0, ne_0_m, ne_m_1, ne_1_m, ne_m_2, ne_2_m, ne_m_3, ne_3_m, ne_m_4, ne_4_m, ne_m_5, ne_5_m, ne_m_6, ne_6_m, ne_m_7, ne_7_m, in8_0, in8_1, in8_2, in8_3, in8_4, in8_5, in8_6, in8_7, e1, up_up]
    rw [z_X12_readsSingle_b2]
    simp (disch := omega) only [ck_t, b1_s, b2_s, let_e, nn_s, nn_n, sI_e, sJ_e, sR_e, kB_0, kB_1, kB_2, kB_3, kB_4, kB_5, kB_6, kB_7, kB_8, kB_9, kB_10, kB_11, kB_12, kB_13, kB_14, kB_15, kB_16, kB_17, lB_1, lB_2, lB_3, lB_4, lB_5, lB_6, lB_7, lB_8, lB_9, lB_10, lB_11, lB_12, lB_13, lB_14, lB_15, lB_16, lB_17, rB_0, rB_1, rB_4, rB_5, rB_6, rB_7, rB_8, rB_9, rB_10, rB_11, rB_13, rB_14, rB_26, rB_27, rB_31, rB_33, rB_34, Int32.reduceAdd, Int32.reduceSub, Int32.reduceMul, Int32.reduceLE, Int32.reduceLT, Int32.reduceToNatClampNeg, if_true, if_false, eq_self, up_s, up_a, up_k, ne_0_1, ne_0_2, ne_0_3, ne_0_4, ne_0_5, ne_0_6, ne_0_7, ne_1_0, ne_1_2, ne_1_3, ne_1_4, ne_1_5, ne_1_6, ne_1_7, ne_2_0, ne_2_1, ne_2_3, ne_2_4, ne_2_5, ne_2_6, ne_2_7, ne_3_0, ne_3_1, ne_3_2, ne_3_4, ne_3_5, ne_3_6, ne_3_7, ne_4_0, ne_4_1, ne_4_2, ne_4_3, ne_4_5, ne_4_6, ne_4_7, ne_5_0, ne_5_1, ne_5_2, ne_5_3, ne_5_4, ne_5_6, ne_5_7, ne_6_0, ne_6_1, ne_6_2, ne_6_3, ne_6_4, ne_6_5, ne_6_7, ne_7_0, ne_7_1, ne_7_2, ne_7_3, ne_7_4, ne_7_5, ne_7_6, ne_m_0, ne_0_m, ne_m_1, ne_1_m, ne_m_2, ne_2_m, ne_m_3, ne_3_m, ne_m_4, ne_4_m, ne_m_5, ne_5_m, ne_m_6, ne_6_m, ne_m_7, ne_7_m, in8_0, in8_1, in8_2, in8_3, in8_4, in8_5, in8_6, in8_7]
  refine ⟨_, e 19997, fun b j hb => ?_, fun h => ?_⟩
  · simp only [up_a _ _ _ _ hb]
  · rw [Bool.or_eq_false_iff] at h
    unfold k4
    simp (disch := omega) only [ck_t, b1_s, b2_s, let_e, nn_s, nn_n, sI_e, sJ_e, sR_e, kB_0, kB_1, kB_2, kB_3, kB_4, kB_5, kB_6, kB_7, kB_8, kB_9, kB_10, kB_11, kB_12, kB_13, kB_14, kB_15, kB_16, kB_17, lB_1, lB_2, lB_3, lB_4, lB_5, lB_6, lB_7, lB_8, lB_9, lB_10, lB_11, lB_12, lB_13, lB_14, lB_15, lB_16, lB_17, rB_0, rB_1, rB_4, rB_5, rB_6, rB_7, rB_8, rB_9, rB_10, rB_11, rB_13, rB_14, rB_26, rB_27, rB_31, rB_33, rB_34, Int32.reduceAdd, Int32.reduceSub, Int32.reduceMul, Int32.reduceLE, Int32.reduceLT, Int32.reduceToNatClampNeg, if_true, if_false, eq_self, up_s, up_a, up_k, ne_0_1, ne_0_2, ne_0_3, ne_0_4, ne_0_5, ne_0_6, ne_0_7, ne_1_0, ne_1_2, ne_1_3, ne_1_4, ne_1_5, ne_1_6, ne_1_7, ne_2_0, ne_2_1, ne_2_3, ne_2_4, ne_2_5, ne_2_6, ne_2_7, ne_3_0, ne_3_1, ne_3_2, ne_3_4, ne_3_5, ne_3_6, ne_3_7, ne_4_0, ne_4_1, ne_4_2, ne_4_3, ne_4_5, ne_4_6, ne_4_7, ne_5_0, ne_5_1, ne_5_2, ne_5_3, ne_5_4, ne_5_6, ne_5_7, ne_6_0, ne_6_1, ne_6_2, ne_6_3, ne_6_4, ne_6_5, ne_6_7, ne_7_0, ne_7_1, ne_7_2, ne_7_3, ne_7_4, ne_7_5, ne_7_6, ne_m_0, ne_0_m, ne_m_1, ne_1_m, ne_m_2, ne_2_m, ne_m_3, ne_3_m, ne_m_4, ne_4_m, ne_m_5, ne_5_m, ne_m_6, ne_6_m, ne_m_7, ne_7_m, in8_0, in8_1, in8_2, in8_3, in8_4, in8_5, in8_6, in8_7, w0 h.1, w1 h.2, and_self]
theorem b_r1 {I : Nat → Nat → Int32} {J : Nat → Nat → Int64} {n : Int64} (h16 : I 0 16 = 0) (a0 : bd4 (k4 J 11 0)) (c0 : bd4 (k4 J 11 4)) : ∃ J', z_X12_readsOne TB (I, J, rB) 0 n = some (fh_up I 0 16 (bI (by1 (k4 J 11 0) n || by1 (k4 J 11 4) n)), J', rB) ∧ jF J J' 12 ∧ ((by1 (k4 J 11 0) n || by1 (k4 J 11 4) n) = false → k4 J' 12 0 = rd1 (k4 J 11 0) n ∧ k4 J' 12 4 = rd1 (k4 J 11 4) n) := by
  obtain ⟨v0, e0, w0⟩ := b_times (I := I) (J := J) (a := J 11 0) (n := n) (b := J 11 2) (by0 := false) a0.1 h16
  obtain ⟨v1, e1, w1⟩ := b_times (I := fh_up I 0 16 (bI (false || bey (J 11 0) n (J 11 2)))) (J := fh_up J 12 0 v0) (a := J 11 1) (n := n) (b := J 11 3) (by0 := (false || bey (J 11 0) n (J 11 2))) a0.2.1 (up_s _ _ _ _)
  obtain ⟨v2, e2, w2⟩ := b_times (I := fh_up I 0 16 (bI ((false || bey (J 11 0) n (J 11 2)) || bey (J 11 1) n (J 11 3)))) (J := fh_up (fh_up (fh_up (fh_up J 12 0 v0) 12 1 v1) 12 2 (J 11 0)) 12 3 (J 11 1)) (a := J 11 4) (n := n) (b := J 11 6) (by0 := ((false || bey (J 11 0) n (J 11 2)) || bey (J 11 1) n (J 11 3))) c0.1 (up_s _ _ _ _)
  obtain ⟨v3, e3, w3⟩ := b_times (I := fh_up I 0 16 (bI (((false || bey (J 11 0) n (J 11 2)) || bey (J 11 1) n (J 11 3)) || bey (J 11 4) n (J 11 6)))) (J := fh_up (fh_up (fh_up (fh_up (fh_up J 12 0 v0) 12 1 v1) 12 2 (J 11 0)) 12 3 (J 11 1)) 12 4 v2) (a := J 11 5) (n := n) (b := J 11 7) (by0 := (((false || bey (J 11 0) n (J 11 2)) || bey (J 11 1) n (J 11 3)) || bey (J 11 4) n (J 11 6))) c0.2.1 (up_s _ _ _ _)
  have e : ∀ f, z_X12_readsOne_b2 TB 0 (f + 3) (I, J, rB) n 0 = some (fh_up I 0 16 (bI ((((false || bey (J 11 0) n (J 11 2)) || bey (J 11 1) n (J 11 3)) || bey (J 11 4) n (J 11 6)) || bey (J 11 5) n (J 11 7))), fh_up (fh_up (fh_up (fh_up (fh_up (fh_up (fh_up (fh_up J 12 0 v0) 12 1 v1) 12 2 (J 11 0)) 12 3 (J 11 1)) 12 4 v2) 12 5 v3) 12 6 (J 11 4)) 12 7 (J 11 5), rB) := by
    intro f
    rw [z_X12_readsOne_b2]
    simp (disch := omega) only [ck_t, b1_s, b2_s, let_e, nn_s, nn_n, sI_e, sJ_e, sR_e, kB_0, kB_1, kB_2, kB_3, kB_4, kB_5, kB_6, kB_7, kB_8, kB_9, kB_10, kB_11, kB_12, kB_13, kB_14, kB_15, kB_16, kB_17, lB_1, lB_2, lB_3, lB_4, lB_5, lB_6, lB_7, lB_8, lB_9, lB_10, lB_11, lB_12, lB_13, lB_14, lB_15, lB_16, lB_17, rB_0, rB_1, rB_4, rB_5, rB_6, rB_7, rB_8, rB_9, rB_10, rB_11, rB_13, rB_14, rB_26, rB_27, rB_31, rB_33, rB_34, Int32.reduceAdd, Int32.reduceSub, Int32.reduceMul, Int32.reduceLE, Int32.reduceLT, Int32.reduceToNatClampNeg, if_true, if_false, eq_self, up_s, up_a, up_k, ne_0_1, ne_0_2, ne_0_3, ne_0_4, ne_0_5, ne_0_6, ne_0_7, ne_1_0, ne_1_2, ne_1_3, ne_1_4, ne_1_5, ne_1_6, ne_1_7, ne_2_0, ne_2_1, ne_2_3, ne_2_4, ne_2_5, ne_2_6, ne_2_7, ne_3_0, ne_3_1, ne_3_2, ne_3_4, ne_3_5, ne_3_6, ne_3_7, ne_4_0, ne_4_1, ne_4_2, ne_4_3, ne_4_5, ne_4_6, ne_4_7, ne_5_0, ne_5_1, ne_5_2, ne_5_3, ne_5_4, ne_5_6, ne_5_7, ne_6_0, ne_6_1, ne_6_2, ne_6_3, ne_6_4, ne_6_5, ne_6_7, ne_7_0, ne_7_1, ne_7_2, ne_7_3, ne_7_4, ne_7_5, ne_7_6, ne_m_0, ne_0_m, ne_m_1, ne_1_m, ne_m_2, ne_2_m, ne_m_3, ne_3_m, ne_m_4, ne_4_m, ne_m_5, ne_5_m, ne_m_6, ne_6_m, ne_m_7, ne_7_m, in8_0, in8_1, in8_2, in8_3, in8_4, in8_5, in8_6, in8_7, e0, e1, up_up]
    rw [z_X12_readsOne_b2]
    simp (disch := omega) only [ck_t, b1_s, b2_s, let_e, nn_s, nn_n, sI_e, sJ_e, sR_e, kB_0, kB_1, kB_2, kB_3, kB_4, kB_5, kB_6, kB_7, kB_8, kB_9, kB_10, kB_11, kB_12, kB_13, kB_14, kB_15, kB_16, kB_17, lB_1, lB_2, lB_3, lB_4, lB_5, lB_6, lB_7, lB_8, lB_9, lB_10, lB_11, lB_12, lB_13, lB_14, lB_15, lB_16, lB_17, rB_0, rB_1, rB_4, rB_5, rB_6, rB_7, rB_8, rB_9, rB_10, rB_11, rB_13, rB_14, rB_26, rB_27, rB_31, rB_33, rB_34, Int32.reduceAdd, Int32.reduceSub, Int32.reduceMul, Int32.reduceLE, Int32.reduceLT, Int32.reduceToNatClampNeg, if_true, if_false, eq_self, up_s, up_a, up_k, ne_0_1, ne_0_2, ne_0_3, ne_0_4, ne_0_5, ne_0_6, ne_0_7, ne_1_0, ne_1_2, ne_1_3, ne_1_4, ne_1_5, ne_1_6, ne_1_7, ne_2_0, ne_2_1, ne_2_3, ne_2_4, ne_2_5, ne_2_6, ne_2_7, ne_3_0, ne_3_1, ne_3_2, ne_3_4, ne_3_5, ne_3_6, ne_3_7, ne_4_0, ne_4_1, ne_4_2, ne_4_3, ne_4_5, ne_4_6, ne_4_7, ne_5_0, ne_5_1, ne_5_2, ne_5_3, ne_5_4, ne_5_6, ne_5_7, ne_6_0, ne_6_1, ne_6_2, ne_6_3, ne_6_4, ne_6_5, ne_6_7, ne_7_0, ne_7_1, ne_7_2, ne_7_3, ne_7_4, ne_7_5, ne_7_6, ne_m_0, ne_0_m, ne_m_1, ne_1_m, ne_m_2, ne_2_m, ne_m_3, ne_3_m, ne_m_4, ne_4_m, ne_m_5, ne_5_m, ne_m_6, ne_6_m, ne_m_7, ne_7_m, in8_0, in8_1, in8_2, in8_3, in8_4, in8_5, in8_6, in8_7, e2, e3, up_up]
    rw [z_X12_readsOne_b2]
    simp (disch := omega) only [ck_t, b1_s, b2_s, let_e, nn_s, nn_n, sI_e, sJ_e, sR_e, kB_0, kB_1, kB_2, kB_3, kB_4, kB_5, kB_6, kB_7, kB_8, kB_9, kB_10, kB_11, kB_12, kB_13, kB_14, kB_15, kB_16, kB_17, lB_1, lB_2, lB_3, lB_4, lB_5, lB_6, lB_7, lB_8, lB_9, lB_10, lB_11, lB_12, lB_13, lB_14, lB_15, lB_16, lB_17, rB_0, rB_1, rB_4, rB_5, rB_6, rB_7, rB_8, rB_9, rB_10, rB_11, rB_13, rB_14, rB_26, rB_27, rB_31, rB_33, rB_34, Int32.reduceAdd, Int32.reduceSub, Int32.reduceMul, Int32.reduceLE, Int32.reduceLT, Int32.reduceToNatClampNeg, if_true, if_false, eq_self, up_s, up_a, up_k, ne_0_1, ne_0_2, ne_0_3, ne_0_4, ne_0_5, ne_0_6, ne_0_7, ne_1_0, ne_1_2, ne_1_3, ne_1_4, ne_1_5, ne_1_6, ne_1_7, ne_2_0, ne_2_1, ne_2_3, ne_2_4, ne_2_5, ne_2_6, ne_2_7, ne_3_0, ne_3_1, ne_3_2, ne_3_4, ne_3_5, ne_3_6, ne_3_7, ne_4_0, ne_4_1, ne_4_2, ne_4_3, ne_4_5, ne_4_6, ne_4_7, ne_5_0, ne_5_1, ne_5_2, ne_5_3, ne_5_4, ne_5_6, ne_5_7, ne_6_0, ne_6_1, ne_6_2, ne_6_3, ne_6_4, ne_6_5, ne_6_7, ne_7_0, ne_7_1, ne_7_2, ne_7_3, ne_7_4, ne_7_5, ne_7_6, ne_m_0, ne_0_m, ne_m_1, ne_1_m, ne_m_2, ne_2_m, ne_m_3, ne_3_m, ne_m_4, ne_4_m, ne_m_5, ne_5_m, ne_m_6, ne_6_m, ne_m_7, ne_7_m, in8_0, in8_1, in8_2, in8_3, in8_4, in8_5, in8_6, in8_7]
  have hb : ((((false || bey (J 11 0) n (J 11 2)) || bey (J 11 1) n (J 11 3)) || bey (J 11 4) n (J 11 6)) || bey (J 11 5) n (J 11 7)) = (by1 (k4 J 11 0) n || by1 (k4 J 11 4) n) := by
    unfold by1 k4; dsimp only; rw [Bool.false_or, Bool.or_assoc (bey (J 11 0) n (J 11 2) || bey (J 11 1) n (J 11 3))]
  refine ⟨_, by rw [← hb]; exact e 19997, fun b j hb => ?_, fun h => ?_⟩
  · simp only [up_a _ _ _ _ hb]
  · simp only [by1, Bool.or_eq_false_iff] at h
    unfold k4 rd1
    simp (disch := omega) only [ck_t, b1_s, b2_s, let_e, nn_s, nn_n, sI_e, sJ_e, sR_e, kB_0, kB_1, kB_2, kB_3, kB_4, kB_5, kB_6, kB_7, kB_8, kB_9, kB_10, kB_11, kB_12, kB_13, kB_14, kB_15, kB_16, kB_17, lB_1, lB_2, lB_3, lB_4, lB_5, lB_6, lB_7, lB_8, lB_9, lB_10, lB_11, lB_12, lB_13, lB_14, lB_15, lB_16, lB_17, rB_0, rB_1, rB_4, rB_5, rB_6, rB_7, rB_8, rB_9, rB_10, rB_11, rB_13, rB_14, rB_26, rB_27, rB_31, rB_33, rB_34, Int32.reduceAdd, Int32.reduceSub, Int32.reduceMul, Int32.reduceLE, Int32.reduceLT, Int32.reduceToNatClampNeg, if_true, if_false, eq_self, up_s, up_a, up_k, ne_0_1, ne_0_2, ne_0_3, ne_0_4, ne_0_5, ne_0_6, ne_0_7, ne_1_0, ne_1_2, ne_1_3, ne_1_4, ne_1_5, ne_1_6, ne_1_7, ne_2_0, ne_2_1, ne_2_3, ne_2_4, ne_2_5, ne_2_6, ne_2_7, ne_3_0, ne_3_1, ne_3_2, ne_3_4, ne_3_5, ne_3_6, ne_3_7, ne_4_0, ne_4_1, ne_4_2, ne_4_3, ne_4_5, ne_4_6, ne_4_7, ne_5_0, ne_5_1, ne_5_2, ne_5_3, ne_5_4, ne_5_6, ne_5_7, ne_6_0, ne_6_1, ne_6_2, ne_6_3, ne_6_4, ne_6_5, ne_6_7, ne_7_0, ne_7_1, ne_7_2, ne_7_3, ne_7_4, ne_7_5, ne_7_6, ne_m_0, ne_0_m, ne_m_1, ne_1_m, ne_m_2, ne_2_m, ne_m_3, ne_3_m, ne_m_4, ne_4_m, ne_m_5, ne_5_m, ne_m_6, ne_6_m, ne_m_7, ne_7_m, in8_0, in8_1, in8_2, in8_3, in8_4, in8_5, in8_6, in8_7, w0 h.1.1, w1 h.1.2, w2 h.2.1, w3 h.2.2, Nat.reduceAdd, and_self]
theorem b_r2 {I : Nat → Nat → Int32} {J : Nat → Nat → Int64} {n : Int64} (h16 : I 0 16 = 0) (a0 : bd4 (k4 J 11 0)) (c0 : bd4 (k4 J 11 4)) : ∃ J', z_X12_readsOther TB (I, J, rB) 0 n = some (fh_up I 0 16 (bI (by2 (k4 J 11 0) n || by2 (k4 J 11 4) n)), J', rB) ∧ jF J J' 12 ∧ ((by2 (k4 J 11 0) n || by2 (k4 J 11 4) n) = false → k4 J' 12 0 = rd2 (k4 J 11 0) n ∧ k4 J' 12 4 = rd2 (k4 J 11 4) n) := by
  obtain ⟨v0, e0, w0⟩ := b_times (I := I) (J := J) (a := J 11 0) (n := n) (b := J 11 1) (by0 := false) a0.1 h16
  obtain ⟨v1, e1, w1⟩ := b_times (I := fh_up I 0 16 (bI (false || bey (J 11 0) n (J 11 1)))) (J := fh_up (fh_up J 12 0 v0) 12 1 (J 11 0)) (a := J 11 2) (n := n) (b := J 11 3) (by0 := (false || bey (J 11 0) n (J 11 1))) a0.2.2.1 (up_s _ _ _ _)
  obtain ⟨v2, e2, w2⟩ := b_times (I := fh_up I 0 16 (bI ((false || bey (J 11 0) n (J 11 1)) || bey (J 11 2) n (J 11 3)))) (J := fh_up (fh_up (fh_up (fh_up J 12 0 v0) 12 1 (J 11 0)) 12 2 v1) 12 3 (J 11 2)) (a := J 11 4) (n := n) (b := J 11 5) (by0 := ((false || bey (J 11 0) n (J 11 1)) || bey (J 11 2) n (J 11 3))) c0.1 (up_s _ _ _ _)
  obtain ⟨v3, e3, w3⟩ := b_times (I := fh_up I 0 16 (bI (((false || bey (J 11 0) n (J 11 1)) || bey (J 11 2) n (J 11 3)) || bey (J 11 4) n (J 11 5)))) (J := fh_up (fh_up (fh_up (fh_up (fh_up (fh_up J 12 0 v0) 12 1 (J 11 0)) 12 2 v1) 12 3 (J 11 2)) 12 4 v2) 12 5 (J 11 4)) (a := J 11 6) (n := n) (b := J 11 7) (by0 := (((false || bey (J 11 0) n (J 11 1)) || bey (J 11 2) n (J 11 3)) || bey (J 11 4) n (J 11 5))) c0.2.2.1 (up_s _ _ _ _)
  have e : ∀ f, z_X12_readsOther_b2 TB 0 (f + 3) (I, J, rB) n 0 = some (fh_up I 0 16 (bI ((((false || bey (J 11 0) n (J 11 1)) || bey (J 11 2) n (J 11 3)) || bey (J 11 4) n (J 11 5)) || bey (J 11 6) n (J 11 7))), fh_up (fh_up (fh_up (fh_up (fh_up (fh_up (fh_up (fh_up J 12 0 v0) 12 1 (J 11 0)) 12 2 v1) 12 3 (J 11 2)) 12 4 v2) 12 5 (J 11 4)) 12 6 v3) 12 7 (J 11 6), rB) := by
    intro f
    rw [z_X12_readsOther_b2]
    simp (disch := omega) only [ck_t, b1_s, b2_s, let_e, nn_s, nn_n, sI_e, sJ_e, sR_e, kB_0, kB_1, kB_2, kB_3, kB_4, kB_5, kB_6, kB_7, kB_8, kB_9, kB_10, kB_11, kB_12, kB_13, kB_14, kB_15, kB_16, kB_17, lB_1, lB_2, lB_3, lB_4, lB_5, lB_6, lB_7, lB_8, lB_9, lB_10, lB_11, lB_12, lB_13, lB_14, lB_15, lB_16, lB_17, rB_0, rB_1, rB_4, rB_5, rB_6, rB_7, rB_8, rB_9, rB_10, rB_11, rB_13, rB_14, rB_26, rB_27, rB_31, rB_33, rB_34, Int32.reduceAdd, Int32.reduceSub, Int32.reduceMul, Int32.reduceLE, Int32.reduceLT, Int32.reduceToNatClampNeg, if_true, if_false, eq_self, up_s, up_a, up_k, ne_0_1, ne_0_2, ne_0_3, ne_0_4, ne_0_5, ne_0_6, ne_0_7, ne_1_0, ne_1_2, ne_1_3, ne_1_4, ne_1_5, ne_1_6, ne_1_7, ne_2_0, ne_2_1, ne_2_3, ne_2_4, ne_2_5, ne_2_6, ne_2_7, ne_3_0, ne_3_1, ne_3_2, ne_3_4, ne_3_5, ne_3_6, ne_3_7, ne_4_0, ne_4_1, ne_4_2, ne_4_3, ne_4_5, ne_4_6, ne_4_7, ne_5_0, ne_5_1, ne_5_2, ne_5_3, ne_5_4, ne_5_6, ne_5_7, ne_6_0, ne_6_1, ne_6_2, ne_6_3, ne_6_4, ne_6_5, ne_6_7, ne_7_0, ne_7_1, ne_7_2, ne_7_3, ne_7_4, ne_7_5, ne_7_6, ne_m_0, ne_0_m, ne_m_1, ne_1_m, ne_m_2, ne_2_m, ne_m_3, ne_3_m, ne_m_4, ne_4_m, ne_m_5, ne_5_m, ne_m_6, ne_6_m, ne_m_7, ne_7_m, in8_0, in8_1, in8_2, in8_3, in8_4, in8_5, in8_6, in8_7, e0, e1, up_up]
    rw [z_X12_readsOther_b2]
    simp (disch := omega) only [ck_t, b1_s, b2_s, let_e, nn_s, nn_n, sI_e, sJ_e, sR_e, kB_0, kB_1, kB_2, kB_3, kB_4, kB_5, kB_6, kB_7, kB_8, kB_9, kB_10, kB_11, kB_12, kB_13, kB_14, kB_15, kB_16, kB_17, lB_1, lB_2, lB_3, lB_4, lB_5, lB_6, lB_7, lB_8, lB_9, lB_10, lB_11, lB_12, lB_13, lB_14, lB_15, lB_16, lB_17, rB_0, rB_1, rB_4, rB_5, rB_6, rB_7, rB_8, rB_9, rB_10, rB_11, rB_13, rB_14, rB_26, rB_27, rB_31, rB_33, rB_34, Int32.reduceAdd, Int32.reduceSub, Int32.reduceMul, Int32.reduceLE, Int32.reduceLT, Int32.reduceToNatClampNeg, if_true, if_false, eq_self, up_s, up_a, up_k, ne_0_1, ne_0_2, ne_0_3, ne_0_4, ne_0_5, ne_0_6, ne_0_7, ne_1_0, ne_1_2, ne_1_3, ne_1_4, ne_1_5, ne_1_6, ne_1_7, ne_2_0, ne_2_1, ne_2_3, ne_2_4, ne_2_5, ne_2_6, ne_2_7, ne_3_0, ne_3_1, ne_3_2, ne_3_4, ne_3_5, ne_3_6, ne_3_7, ne_4_0, ne_4_1, ne_4_2, ne_4_3, ne_4_5, ne_4_6, ne_4_7, ne_5_0, ne_5_1, ne_5_2, ne_5_3, ne_5_4, ne_5_6, ne_5_7, ne_6_0, ne_6_1, ne_6_2, ne_6_3, ne_6_4, ne_6_5, ne_6_7, ne_7_0, ne_7_1, ne_7_2, ne_7_3, ne_7_4, ne_7_5, ne_7_6, ne_m_0, ne_0_m, ne_m_1, ne_1_m, ne_m_2, ne_2_m, ne_m_3, ne_3_m, ne_m_4, ne_4_m, ne_m_5, ne_5_m, ne_m_6, ne_6_m, ne_m_7, ne_7_m, in8_0, in8_1, in8_2, in8_3, in8_4, in8_5, in8_6, in8_7, e2, e3, up_up]
    rw [z_X12_readsOther_b2]
    simp (disch := omega) only [ck_t, b1_s, b2_s, let_e, nn_s, nn_n, sI_e, sJ_e, sR_e, kB_0, kB_1, kB_2, kB_3, kB_4, kB_5, kB_6, kB_7, kB_8, kB_9, kB_10, kB_11, kB_12, kB_13, kB_14, kB_15, kB_16, kB_17, lB_1, lB_2, lB_3, lB_4, lB_5, lB_6, lB_7, lB_8, lB_9, lB_10, lB_11, lB_12, lB_13, lB_14, lB_15, lB_16, lB_17, rB_0, rB_1, rB_4, rB_5, rB_6, rB_7, rB_8, rB_9, rB_10, rB_11, rB_13, rB_14, rB_26, rB_27, rB_31, rB_33, rB_34, Int32.reduceAdd, Int32.reduceSub, Int32.reduceMul, Int32.reduceLE, Int32.reduceLT, Int32.reduceToNatClampNeg, if_true, if_false, eq_self, up_s, up_a, up_k, ne_0_1, ne_0_2, ne_0_3, ne_0_4, ne_0_5, ne_0_6, ne_0_7, ne_1_0, ne_1_2, ne_1_3, ne_1_4, ne_1_5, ne_1_6, ne_1_7, ne_2_0, ne_2_1, ne_2_3, ne_2_4, ne_2_5, ne_2_6, ne_2_7, ne_3_0, ne_3_1, ne_3_2, ne_3_4, ne_3_5, ne_3_6, ne_3_7, ne_4_0, ne_4_1, ne_4_2, ne_4_3, ne_4_5, ne_4_6, ne_4_7, ne_5_0, ne_5_1, ne_5_2, ne_5_3, ne_5_4, ne_5_6, ne_5_7, ne_6_0, ne_6_1, ne_6_2, ne_6_3, ne_6_4, ne_6_5, ne_6_7, ne_7_0, ne_7_1, ne_7_2, ne_7_3, ne_7_4, ne_7_5, ne_7_6, ne_m_0, ne_0_m, ne_m_1, ne_1_m, ne_m_2, ne_2_m, ne_m_3, ne_3_m, ne_m_4, ne_4_m, ne_m_5, ne_5_m, ne_m_6, ne_6_m, ne_m_7, ne_7_m, in8_0, in8_1, in8_2, in8_3, in8_4, in8_5, in8_6, in8_7]
  have hb : ((((false || bey (J 11 0) n (J 11 1)) || bey (J 11 2) n (J 11 3)) || bey (J 11 4) n (J 11 5)) || bey (J 11 6) n (J 11 7)) = (by2 (k4 J 11 0) n || by2 (k4 J 11 4) n) := by
    unfold by2 k4; dsimp only; rw [Bool.false_or, Bool.or_assoc (bey (J 11 0) n (J 11 1) || bey (J 11 2) n (J 11 3))]
  refine ⟨_, by rw [← hb]; exact e 19997, fun b j hb => ?_, fun h => ?_⟩
  · simp only [up_a _ _ _ _ hb]
  · simp only [by2, Bool.or_eq_false_iff] at h
    unfold k4 rd2
    simp (disch := omega) only [ck_t, b1_s, b2_s, let_e, nn_s, nn_n, sI_e, sJ_e, sR_e, kB_0, kB_1, kB_2, kB_3, kB_4, kB_5, kB_6, kB_7, kB_8, kB_9, kB_10, kB_11, kB_12, kB_13, kB_14, kB_15, kB_16, kB_17, lB_1, lB_2, lB_3, lB_4, lB_5, lB_6, lB_7, lB_8, lB_9, lB_10, lB_11, lB_12, lB_13, lB_14, lB_15, lB_16, lB_17, rB_0, rB_1, rB_4, rB_5, rB_6, rB_7, rB_8, rB_9, rB_10, rB_11, rB_13, rB_14, rB_26, rB_27, rB_31, rB_33, rB_34, Int32.reduceAdd, Int32.reduceSub, Int32.reduceMul, Int32.reduceLE, Int32.reduceLT, Int32.reduceToNatClampNeg, if_true, if_false, eq_self, up_s, up_a, up_k, ne_0_1, ne_0_2, ne_0_3, ne_0_4, ne_0_5, ne_0_6, ne_0_7, ne_1_0, ne_1_2, ne_1_3, ne_1_4, ne_1_5, ne_1_6, ne_1_7, ne_2_0, ne_2_1, ne_2_3, ne_2_4, ne_2_5, ne_2_6, ne_2_7, ne_3_0, ne_3_1, ne_3_2, ne_3_4, ne_3_5, ne_3_6, ne_3_7, ne_4_0, ne_4_1, ne_4_2, ne_4_3, ne_4_5, ne_4_6, ne_4_7, ne_5_0, ne_5_1, ne_5_2, ne_5_3, ne_5_4, ne_5_6, ne_5_7, ne_6_0, ne_6_1, ne_6_2, ne_6_3, ne_6_4, ne_6_5, ne_6_7, ne_7_0, ne_7_1, ne_7_2, ne_7_3, ne_7_4, ne_7_5, ne_7_6, ne_m_0, ne_0_m, ne_m_1, ne_1_m, ne_m_2, ne_2_m, ne_m_3, ne_3_m, ne_m_4, ne_4_m, ne_m_5, ne_5_m, ne_m_6, ne_6_m, ne_m_7, ne_7_m, in8_0, in8_1, in8_2, in8_3, in8_4, in8_5, in8_6, in8_7, w0 h.1.1, w1 h.1.2, w2 h.2.1, w3 h.2.2, Nat.reduceAdd, and_self]
