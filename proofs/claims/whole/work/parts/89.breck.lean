/-! the reference's reckoner -/
theorem in8_0 : fh_in (0 : Int32) 8 = true := by decide
theorem in8_1 : fh_in (1 : Int32) 8 = true := by decide
theorem in8_2 : fh_in (2 : Int32) 8 = true := by decide
theorem in8_3 : fh_in (3 : Int32) 8 = true := by decide
theorem in8_4 : fh_in (4 : Int32) 8 = true := by decide
theorem in8_5 : fh_in (5 : Int32) 8 = true := by decide
theorem in8_6 : fh_in (6 : Int32) 8 = true := by decide
theorem in8_7 : fh_in (7 : Int32) 8 = true := by decide
theorem up_up {α : Type} (f : Nat → Nat → α) (a k : Nat) (v w : α) : fh_up (fh_up f a k v) a k w = fh_up f a k w := by
  funext b j
  unfold fh_up
  by_cases h : b = a ∧ j = k
  · rw [if_pos h, if_pos h]
  · rw [if_neg h, if_neg h, if_neg h]
def k4 (J : Nat → Nat → Int64) (u k : Nat) : H4 := (J u k, J u (k + 1), J u (k + 2), J u (k + 3))
def mB (two : Bool) (A : H4) : H4 := if two then A else (A.1, A.2.2.1, 0, 0)
theorem mB_1 (two : Bool) (A : H4) : (mB two A).1 = A.1 := by cases two <;> rfl
def rkB (I : Nat → Nat → Int32) (J : Nat → Nat → Int64) (two : Bool) (i j : Nat) (σ : rS) : Prop := k4 J 11 0 = mB two σ.1 ∧ k4 J 11 4 = mB two σ.2.1 ∧ I 0 15 = bI two ∧ I 0 17 = bI σ.2.2.2.2.2.1 ∧ I 0 18 = bI σ.2.2.2.2.2.2.1 ∧ (¬ (σ.2.2.2.2.2.1 = true ∧ σ.2.2.2.2.2.2.1 = true) → I 0 19 = bI (!nxf σ.2.2.2.2.2.1 σ.2.2.2.2.2.2.1 σ.2.2.2.2.2.2.2)) ∧ I 0 20 = nI i ∧ (two = true → I 0 21 = nI j) ∧ I 0 22 = nI σ.2.2.1 ∧ I 0 23 = nI σ.2.2.2.1 ∧ I 0 24 = nI σ.2.2.2.2.1
theorem b_hasEnded {I : Nat → Nat → Int32} {J : Nat → Nat → Int64} {two : Bool} {i j : Nat} {A B : H4} {x y s : Nat} {e1 e2 tk : Bool} (h : rkB I J two i j (A, B, x, y, s, e1, e2, tk)) : z_X12_hasEnded TB (I, J, rB) 0 = some (if e1 = true ∧ e2 = true ∧ B.1 = 0 then 1 else 0) := by
  obtain ⟨mA, mBB, i15, i17, i18, i19, i20, i21, i22, i23, i24⟩ := h
  dsimp only at i17 i18 mBB
  have hJ : J 11 4 = B.1 := by rw [← mB_1 two B, ← mBB]; rfl
  unfold z_X12_hasEnded
  simp only [i17, i18]
  cases e1
  · rw [if_pos (show bI false = 0 from rfl), if_neg (fun q => by cases q.1)]
  cases e2
  · rw [if_neg (show ¬ bI true = 0 by decide), if_pos (show bI false = 0 from rfl), if_neg (fun q => by cases q.2.1)]
  rw [if_neg (show ¬ bI true = 0 by decide), if_neg (show ¬ bI true = 0 by decide)]
  simp (disch := omega) only [ck_t, b1_s, b2_s, let_e, nn_s, nn_n, sI_e, sJ_e, sR_e, kB_0, kB_1, kB_2, kB_3, kB_4, kB_5, kB_6, kB_7, kB_8, kB_9, kB_10, kB_11, kB_12, kB_13, kB_14, kB_15, kB_16, kB_17, lB_1, lB_2, lB_3, lB_4, lB_5, lB_6, lB_7, lB_8, lB_9, lB_10, lB_11, lB_12, lB_13, lB_14, lB_15, lB_16, lB_17, rB_0, rB_1, rB_4, rB_5, rB_6, rB_7, rB_8, rB_9, rB_10, rB_11, rB_13, rB_14, rB_26, rB_27, rB_31, rB_33, rB_34, Int32.reduceAdd, Int32.reduceSub, Int32.reduceMul, Int32.reduceLE, Int32.reduceLT, Int32.reduceToNatClampNeg, if_true, if_false, eq_self, up_s, up_a, up_k, ne_0_1, ne_0_2, ne_0_3, ne_0_4, ne_0_5, ne_0_6, ne_0_7, ne_1_0, ne_1_2, ne_1_3, ne_1_4, ne_1_5, ne_1_6, ne_1_7, ne_2_0, ne_2_1, ne_2_3, ne_2_4, ne_2_5, ne_2_6, ne_2_7, ne_3_0, ne_3_1, ne_3_2, ne_3_4, ne_3_5, ne_3_6, ne_3_7, ne_4_0, ne_4_1, ne_4_2, ne_4_3, ne_4_5, ne_4_6, ne_4_7, ne_5_0, ne_5_1, ne_5_2, ne_5_3, ne_5_4, ne_5_6, ne_5_7, ne_6_0, ne_6_1, ne_6_2, ne_6_3, ne_6_4, ne_6_5, ne_6_7, ne_7_0, ne_7_1, ne_7_2, ne_7_3, ne_7_4, ne_7_5, ne_7_6, ne_m_0, ne_0_m, ne_m_1, ne_1_m, ne_m_2, ne_2_m, ne_m_3, ne_3_m, ne_m_4, ne_4_m, ne_m_5, ne_5_m, ne_m_6, ne_6_m, ne_m_7, ne_7_m, in8_0, in8_1, in8_2, in8_3, in8_4, in8_5, in8_6, in8_7, hJ]
  by_cases c : B.1 = 0
  · simp [c]
  · simp [c]
theorem nxle {x : Nat} (h : x < 1000) : nI x ≤ 0 ↔ ¬ 0 < x := by
  rw [show (0 : Int32) = nI 0 from rfl, nI_leI (by omega) (by omega)]; omega
theorem b_mbs {I : Nat → Nat → Int32} {J : Nat → Nat → Int64} {two : Bool} {i j : Nat} {A B : H4} {x y s : Nat} {e1 e2 tk : Bool} (h : rkB I J two i j (A, B, x, y, s, e1, e2, tk)) (h2 : two = false → e2 = true) (hx : x < 1000) (hy : y < 1000) : z_X12_mayBeSure TB (I, J, rB) 0 = some (bI ((e1 || decide (0 < x)) && (e2 || decide (0 < y)))) := by
  obtain ⟨mA, mBB, i15, i17, i18, i19, i20, i21, i22, i23, i24⟩ := h
  dsimp only at i17 i18 i22 i23
  unfold z_X12_mayBeSure z_X12_mayBeSure_b19
  simp only [i15, i17, i18, i22, i23]
  by_cases c : 0 < x
  · rw [if_neg (show ¬ nI x ≤ 0 from fun q => (nxle hx).mp q c), decide_eq_true c]
    by_cases d : 0 < y
    · rw [if_neg (show ¬ nI y ≤ 0 from fun q => (nxle hy).mp q d), decide_eq_true d]
      cases e1 <;> cases e2 <;> cases two <;> rfl
    · rw [if_pos (show nI y ≤ 0 from (nxle hy).mpr d), decide_eq_false d]
      cases two
      · rw [h2 rfl]; cases e1 <;> rfl
      · cases e1 <;> cases e2 <;> rfl
  · rw [if_pos (show nI x ≤ 0 from (nxle hx).mpr c), decide_eq_false c]
    by_cases d : 0 < y
    · rw [if_neg (show ¬ nI y ≤ 0 from fun q => (nxle hy).mp q d), decide_eq_true d]
      cases e1 <;> cases e2 <;> cases two <;> rfl
    · rw [if_pos (show nI y ≤ 0 from (nxle hy).mpr d), decide_eq_false d]
      cases two
      · rw [h2 rfl]; cases e1 <;> rfl
      · cases e1 <;> cases e2 <;> rfl
abbrev oneS (a b : Int64) : Prop := (0 < a ∧ 0 < b) ∨ (a < 0 ∧ b < 0)
theorem b_sign (a b : Int64) : (oneS a b ∧ z_X12_haveOneSign a b = some 1) ∨ (¬ oneS a b ∧ z_X12_haveOneSign a b = some 0) := by
  unfold z_X12_haveOneSign z_X12_haveOneSign_b12 oneS
  simp only [Int64.lt_iff_toInt_lt, Int64.le_iff_toInt_le, show (0 : Int64).toInt = 0 from rfl]
  by_cases c1 : a.toInt ≤ 0
  · rw [if_pos c1]
    by_cases c2 : 0 ≤ a.toInt
    · rw [if_pos c2]; right; exact ⟨by omega, rfl⟩
    · rw [if_neg c2]
      by_cases c3 : 0 ≤ b.toInt
      · rw [if_pos c3]; right; exact ⟨by omega, rfl⟩
      · rw [if_neg c3]; left; exact ⟨by omega, rfl⟩
  · rw [if_neg c1]
    by_cases c2 : 0 < b.toInt
    · rw [if_pos c2]; left; exact ⟨by omega, rfl⟩
    · rw [if_neg c2, if_pos (by omega)]; right; exact ⟨by omega, rfl⟩
theorem oneS_ne {a b : Int64} (h : oneS a b) : ¬ b = 0 := fun e => by
  subst e
  rcases h with h | h
  · exact absurd h.2 (by decide)
  · exact absurd h.2 (by decide)
theorem b_s38 {I : Nat → Nat → Int32} {J : Nat → Nat → Int64} {f : Nat} {q n d : Int64} {k c : Int32} (hc : z_X12_corners TB (I, J, rB) 0 = some c) (hk : ¬ c ≤ k) (h4 : z_X12_corner TB (I, J, rB) 0 4 k = some d) (h0 : z_X12_corner TB (I, J, rB) 0 0 k = some n) : z_X12_isSure_b38 TB 0 (f + 1) (I, J, rB) q k = if oneS (J 11 4) d ∧ fd n d = q then z_X12_isSure_b38 TB 0 f (I, J, rB) q (k + 1) else some 0 := by
  rw [z_X12_isSure_b38, hc, b1_s, if_neg hk, h4, b1_s]
  rcases b_sign (J 11 4) d with ⟨hs, e⟩ | ⟨hs, e⟩
  · simp (disch := omega) only [ck_t, b1_s, b2_s, let_e, nn_s, nn_n, sI_e, sJ_e, sR_e, kB_0, kB_1, kB_2, kB_3, kB_4, kB_5, kB_6, kB_7, kB_8, kB_9, kB_10, kB_11, kB_12, kB_13, kB_14, kB_15, kB_16, kB_17, lB_1, lB_2, lB_3, lB_4, lB_5, lB_6, lB_7, lB_8, lB_9, lB_10, lB_11, lB_12, lB_13, lB_14, lB_15, lB_16, lB_17, rB_0, rB_1, rB_4, rB_5, rB_6, rB_7, rB_8, rB_9, rB_10, rB_11, rB_13, rB_14, rB_26, rB_27, rB_31, rB_33, rB_34, Int32.reduceAdd, Int32.reduceSub, Int32.reduceMul, Int32.reduceLE, Int32.reduceLT, Int32.reduceToNatClampNeg, if_true, if_false, eq_self, up_s, up_a, up_k, ne_0_1, ne_0_2, ne_0_3, ne_0_4, ne_0_5, ne_0_6, ne_0_7, ne_1_0, ne_1_2, ne_1_3, ne_1_4, ne_1_5, ne_1_6, ne_1_7, ne_2_0, ne_2_1, ne_2_3, ne_2_4, ne_2_5, ne_2_6, ne_2_7, ne_3_0, ne_3_1, ne_3_2, ne_3_4, ne_3_5, ne_3_6, ne_3_7, ne_4_0, ne_4_1, ne_4_2, ne_4_3, ne_4_5, ne_4_6, ne_4_7, ne_5_0, ne_5_1, ne_5_2, ne_5_3, ne_5_4, ne_5_6, ne_5_7, ne_6_0, ne_6_1, ne_6_2, ne_6_3, ne_6_4, ne_6_5, ne_6_7, ne_7_0, ne_7_1, ne_7_2, ne_7_3, ne_7_4, ne_7_5, ne_7_6, ne_m_0, ne_0_m, ne_m_1, ne_1_m, ne_m_2, ne_2_m, ne_m_3, ne_3_m, ne_m_4, ne_4_m, ne_m_5, ne_5_m, ne_m_6, ne_6_m, ne_m_7, ne_7_m, in8_0, in8_1, in8_2, in8_3, in8_4, in8_5, in8_6, in8_7, e, h0, fd_z (oneS_ne hs)]
    by_cases c : fd n d = q
    · rw [if_pos c, if_pos ⟨hs, c⟩]
    · rw [if_neg c, if_neg (fun z => c z.2)]
  · simp (disch := omega) only [ck_t, b1_s, b2_s, let_e, nn_s, nn_n, sI_e, sJ_e, sR_e, kB_0, kB_1, kB_2, kB_3, kB_4, kB_5, kB_6, kB_7, kB_8, kB_9, kB_10, kB_11, kB_12, kB_13, kB_14, kB_15, kB_16, kB_17, lB_1, lB_2, lB_3, lB_4, lB_5, lB_6, lB_7, lB_8, lB_9, lB_10, lB_11, lB_12, lB_13, lB_14, lB_15, lB_16, lB_17, rB_0, rB_1, rB_4, rB_5, rB_6, rB_7, rB_8, rB_9, rB_10, rB_11, rB_13, rB_14, rB_26, rB_27, rB_31, rB_33, rB_34, Int32.reduceAdd, Int32.reduceSub, Int32.reduceMul, Int32.reduceLE, Int32.reduceLT, Int32.reduceToNatClampNeg, if_true, if_false, eq_self, up_s, up_a, up_k, ne_0_1, ne_0_2, ne_0_3, ne_0_4, ne_0_5, ne_0_6, ne_0_7, ne_1_0, ne_1_2, ne_1_3, ne_1_4, ne_1_5, ne_1_6, ne_1_7, ne_2_0, ne_2_1, ne_2_3, ne_2_4, ne_2_5, ne_2_6, ne_2_7, ne_3_0, ne_3_1, ne_3_2, ne_3_4, ne_3_5, ne_3_6, ne_3_7, ne_4_0, ne_4_1, ne_4_2, ne_4_3, ne_4_5, ne_4_6, ne_4_7, ne_5_0, ne_5_1, ne_5_2, ne_5_3, ne_5_4, ne_5_6, ne_5_7, ne_6_0, ne_6_1, ne_6_2, ne_6_3, ne_6_4, ne_6_5, ne_6_7, ne_7_0, ne_7_1, ne_7_2, ne_7_3, ne_7_4, ne_7_5, ne_7_6, ne_m_0, ne_0_m, ne_m_1, ne_1_m, ne_m_2, ne_2_m, ne_m_3, ne_3_m, ne_m_4, ne_4_m, ne_m_5, ne_5_m, ne_m_6, ne_6_m, ne_m_7, ne_7_m, in8_0, in8_1, in8_2, in8_3, in8_4, in8_5, in8_6, in8_7, e]
    rw [if_neg (fun z => hs z.1)]
theorem b_c4 {I : Nat → Nat → Int32} {J : Nat → Nat → Int64} : z_X12_corner TB (I, J, rB) 0 4 1 = some (J 11 4 + J 11 5) ∧ z_X12_corner TB (I, J, rB) 0 4 2 = some (J 11 4 + J 11 6) ∧ z_X12_corner TB (I, J, rB) 0 4 3 = some (J 11 4 + J 11 5 + J 11 6 + J 11 7) := by
  refine ⟨?_, ?_, ?_⟩ <;> simp (disch := omega) only [ck_t, b1_s, b2_s, let_e, nn_s, nn_n, sI_e, sJ_e, sR_e, kB_0, kB_1, kB_2, kB_3, kB_4, kB_5, kB_6, kB_7, kB_8, kB_9, kB_10, kB_11, kB_12, kB_13, kB_14, kB_15, kB_16, kB_17, lB_1, lB_2, lB_3, lB_4, lB_5, lB_6, lB_7, lB_8, lB_9, lB_10, lB_11, lB_12, lB_13, lB_14, lB_15, lB_16, lB_17, rB_0, rB_1, rB_4, rB_5, rB_6, rB_7, rB_8, rB_9, rB_10, rB_11, rB_13, rB_14, rB_26, rB_27, rB_31, rB_33, rB_34, Int32.reduceAdd, Int32.reduceSub, Int32.reduceMul, Int32.reduceLE, Int32.reduceLT, Int32.reduceToNatClampNeg, if_true, if_false, eq_self, up_s, up_a, up_k, ne_0_1, ne_0_2, ne_0_3, ne_0_4, ne_0_5, ne_0_6, ne_0_7, ne_1_0, ne_1_2, ne_1_3, ne_1_4, ne_1_5, ne_1_6, ne_1_7, ne_2_0, ne_2_1, ne_2_3, ne_2_4, ne_2_5, ne_2_6, ne_2_7, ne_3_0, ne_3_1, ne_3_2, ne_3_4, ne_3_5, ne_3_6, ne_3_7, ne_4_0, ne_4_1, ne_4_2, ne_4_3, ne_4_5, ne_4_6, ne_4_7, ne_5_0, ne_5_1, ne_5_2, ne_5_3, ne_5_4, ne_5_6, ne_5_7, ne_6_0, ne_6_1, ne_6_2, ne_6_3, ne_6_4, ne_6_5, ne_6_7, ne_7_0, ne_7_1, ne_7_2, ne_7_3, ne_7_4, ne_7_5, ne_7_6, ne_m_0, ne_0_m, ne_m_1, ne_1_m, ne_m_2, ne_2_m, ne_m_3, ne_3_m, ne_m_4, ne_4_m, ne_m_5, ne_5_m, ne_m_6, ne_6_m, ne_m_7, ne_7_m, in8_0, in8_1, in8_2, in8_3, in8_4, in8_5, in8_6, in8_7, z_X12_corner, z_X12_corner_b17, z_X12_corner_b38, z_X12_corner_b49]
theorem b_c0 {I : Nat → Nat → Int32} {J : Nat → Nat → Int64} : z_X12_corner TB (I, J, rB) 0 0 1 = some (J 11 0 + J 11 1) ∧ z_X12_corner TB (I, J, rB) 0 0 2 = some (J 11 0 + J 11 2) ∧ z_X12_corner TB (I, J, rB) 0 0 3 = some (J 11 0 + J 11 1 + J 11 2 + J 11 3) := by
  refine ⟨?_, ?_, ?_⟩ <;> simp (disch := omega) only [ck_t, b1_s, b2_s, let_e, nn_s, nn_n, sI_e, sJ_e, sR_e, kB_0, kB_1, kB_2, kB_3, kB_4, kB_5, kB_6, kB_7, kB_8, kB_9, kB_10, kB_11, kB_12, kB_13, kB_14, kB_15, kB_16, kB_17, lB_1, lB_2, lB_3, lB_4, lB_5, lB_6, lB_7, lB_8, lB_9, lB_10, lB_11, lB_12, lB_13, lB_14, lB_15, lB_16, lB_17, rB_0, rB_1, rB_4, rB_5, rB_6, rB_7, rB_8, rB_9, rB_10, rB_11, rB_13, rB_14, rB_26, rB_27, rB_31, rB_33, rB_34, Int32.reduceAdd, Int32.reduceSub, Int32.reduceMul, Int32.reduceLE, Int32.reduceLT, Int32.reduceToNatClampNeg, if_true, if_false, eq_self, up_s, up_a, up_k, ne_0_1, ne_0_2, ne_0_3, ne_0_4, ne_0_5, ne_0_6, ne_0_7, ne_1_0, ne_1_2, ne_1_3, ne_1_4, ne_1_5, ne_1_6, ne_1_7, ne_2_0, ne_2_1, ne_2_3, ne_2_4, ne_2_5, ne_2_6, ne_2_7, ne_3_0, ne_3_1, ne_3_2, ne_3_4, ne_3_5, ne_3_6, ne_3_7, ne_4_0, ne_4_1, ne_4_2, ne_4_3, ne_4_5, ne_4_6, ne_4_7, ne_5_0, ne_5_1, ne_5_2, ne_5_3, ne_5_4, ne_5_6, ne_5_7, ne_6_0, ne_6_1, ne_6_2, ne_6_3, ne_6_4, ne_6_5, ne_6_7, ne_7_0, ne_7_1, ne_7_2, ne_7_3, ne_7_4, ne_7_5, ne_7_6, ne_m_0, ne_0_m, ne_m_1, ne_1_m, ne_m_2, ne_2_m, ne_m_3, ne_3_m, ne_m_4, ne_4_m, ne_m_5, ne_5_m, ne_m_6, ne_6_m, ne_m_7, ne_7_m, in8_0, in8_1, in8_2, in8_3, in8_4, in8_5, in8_6, in8_7, z_X12_corner, z_X12_corner_b17, z_X12_corner_b38, z_X12_corner_b49]
theorem b_sure {I : Nat → Nat → Int32} {J : Nat → Nat → Int64} {two : Bool} {X Y : List Int32 × Int32} {i j : Nat} {A B : H4} {x y s : Nat} {e1 e2 tk : Bool} (h : rkB I J two i j (A, B, x, y, s, e1, e2, tk)) (ok : rOK two X Y (A, B, x, y, s, e1, e2, tk)) (hx : x < 1000) (hy : y < 1000) : z_X12_isSure TB (I, J, rB) 0 = some (bI (sur A B x y e1 e2)) := by
  obtain ⟨-, -, -, -, -, -, -, hsing⟩ := ok
  have hmb := b_mbs h (fun t => (hsing t).1) hx hy
  obtain ⟨mA, mBB, i15, i17, i18, i19, i20, i21, i22, i23, i24⟩ := h
  dsimp only at mA mBB
  have a0 : J 11 0 = (mB two A).1 := by rw [← mA]; rfl
  have a1 : J 11 1 = (mB two A).2.1 := by rw [← mA]; rfl
  have a2 : J 11 2 = (mB two A).2.2.1 := by rw [← mA]; rfl
  have a3 : J 11 3 = (mB two A).2.2.2 := by rw [← mA]; rfl
  have b0 : J 11 4 = (mB two B).1 := by rw [← mBB]; rfl
  have b1 : J 11 5 = (mB two B).2.1 := by rw [← mBB]; rfl
  have b2 : J 11 6 = (mB two B).2.2.1 := by rw [← mBB]; rfl
  have b3 : J 11 7 = (mB two B).2.2.2 := by rw [← mBB]; rfl
  have hnum : (¬ (J 11 4 = 0) → z_X12_isSure_b38 TB 0 20000 (I, J, rB) (fd A.1 B.1) 1 = some (bI (sg4 B && eq4 A B))) := by
    intro hne
    obtain ⟨p1, p2, p3⟩ := b_c4 (I := I) (J := J)
    obtain ⟨q1, q2, q3⟩ := b_c0 (I := I) (J := J)
    have z : (0 : Int64).toInt = 0 := rfl
    cases two
    · have hc : z_X12_corners TB (I, J, rB) 0 = some 2 := by unfold z_X12_corners; simp only [i15]; rfl
      obtain ⟨-, -, g1, g2, g3, g4⟩ := hsing rfl
      rw [b_s38 (f := 19999) hc (by decide) p1 q1]
      rw [show (1 : Int32) + 1 = 2 from rfl, z_X12_isSure_b38, hc, b1_s, if_pos (show (2 : Int32) ≤ 2 by decide)]
      rw [a0, a1, b0, b1]
      rw [show (mB false A).1 = A.1 from rfl, show (mB false A).2.1 = A.2.2.1 from rfl, show (mB false B).1 = B.1 from rfl, show (mB false B).2.1 = B.2.2.1 from rfl]
      have e : (oneS B.1 (B.1 + B.2.2.1) ∧ fd (A.1 + A.2.2.1) (B.1 + B.2.2.1) = fd A.1 B.1) ↔ (sg4 B && eq4 A B) = true := by
        unfold sg4 eq4 oneS
        rw [g1, g2, g3, g4]
        simp only [Int64.add_zero, Bool.and_eq_true, Bool.or_eq_true, decide_eq_true_eq]
        constructor
        · rintro ⟨h1, h2⟩
          refine ⟨h1.imp (fun h => ⟨h.1, h.1, h.2, h.2⟩) (fun h => ⟨h.1, h.1, h.2, h.2⟩), trivial, h2.symm, h2.symm⟩
        · rintro ⟨h1, -, h2, -⟩
          exact ⟨h1.imp (fun h => ⟨h.1, h.2.2.1⟩) (fun h => ⟨h.1, h.2.2.1⟩), h2.symm⟩
      by_cases c : (sg4 B && eq4 A B) = true
      · rw [if_pos (e.mpr c), c]; rfl
      · rw [if_neg (fun q => c (e.mp q))]; rw [Bool.not_eq_true] at c; rw [c]; rfl
    · have hc : z_X12_corners TB (I, J, rB) 0 = some 4 := by unfold z_X12_corners; simp only [i15]; rfl
      rw [b_s38 (f := 19999) hc (by decide) p1 q1, show (1 : Int32) + 1 = 2 from rfl, b_s38 (f := 19998) hc (by decide) p2 q2, show (2 : Int32) + 1 = 3 from rfl, b_s38 (f := 19997) hc (by decide) p3 q3, show (3 : Int32) + 1 = 4 from rfl, z_X12_isSure_b38, hc, b1_s, if_pos (show (4 : Int32) ≤ 4 by decide)]
      rw [a0, a1, a2, a3, b0, b1, b2, b3]
      rw [show mB true A = A from rfl, show mB true B = B from rfl]
      have e : ((oneS B.1 (B.1 + B.2.1) ∧ fd (A.1 + A.2.1) (B.1 + B.2.1) = fd A.1 B.1) ∧ (oneS B.1 (B.1 + B.2.2.1) ∧ fd (A.1 + A.2.2.1) (B.1 + B.2.2.1) = fd A.1 B.1) ∧ (oneS B.1 (B.1 + B.2.1 + B.2.2.1 + B.2.2.2) ∧ fd (A.1 + A.2.1 + A.2.2.1 + A.2.2.2) (B.1 + B.2.1 + B.2.2.1 + B.2.2.2) = fd A.1 B.1)) ↔ (sg4 B && eq4 A B) = true := by
        unfold sg4 eq4 oneS
        simp only [Bool.and_eq_true, Bool.or_eq_true, decide_eq_true_eq]
        constructor
        · rintro ⟨⟨h1, k1⟩, ⟨h2, k2⟩, h3, k3⟩
          refine ⟨?_, k1.symm, k2.symm, k3.symm⟩
          simp only [Int64.lt_iff_toInt_lt, z] at h1 h2 h3 ⊢
          omega
        · rintro ⟨h1, k1, k2, k3⟩
          refine ⟨⟨?_, k1.symm⟩, ⟨?_, k2.symm⟩, ?_, k3.symm⟩
          · exact h1.imp (fun h => ⟨h.1, h.2.1⟩) (fun h => ⟨h.1, h.2.1⟩)
          · exact h1.imp (fun h => ⟨h.1, h.2.2.1⟩) (fun h => ⟨h.1, h.2.2.1⟩)
          · exact h1.imp (fun h => ⟨h.1, h.2.2.2⟩) (fun h => ⟨h.1, h.2.2.2⟩)
      by_cases c : (sg4 B && eq4 A B) = true
      · obtain ⟨z1, z2, z3⟩ := e.mpr c
        rw [if_pos z1, if_pos z2, if_pos z3, c]; rfl
      · have hcf : (sg4 B && eq4 A B) = false := by rw [← Bool.not_eq_true]; exact c
        rw [hcf]
        split
        · rename_i z1
          split
          · rename_i z2
            split
            · rename_i z3; exact absurd (e.mp ⟨z1, z2, z3⟩) c
            · rfl
          · rfl
        · rfl
  unfold z_X12_isSure
  rw [hmb, b1_s]
  unfold sur
  by_cases c : ((e1 || decide (0 < x)) && (e2 || decide (0 < y))) = true
  · rw [c, if_neg (by decide), Bool.true_and]
    by_cases hne : J 11 4 = 0
    · have hB : B.1 = 0 := by rw [← mB_1 two B, ← b0]; exact hne
      have hsf : sg4 B = false := by
        unfold sg4; rw [hB]
        rw [decide_eq_false (fun q => absurd q.1 (by decide)), decide_eq_false (fun q => absurd q.1 (by decide))]; rfl
      simp (disch := omega) only [ck_t, b1_s, b2_s, let_e, nn_s, nn_n, sI_e, sJ_e, sR_e, kB_0, kB_1, kB_2, kB_3, kB_4, kB_5, kB_6, kB_7, kB_8, kB_9, kB_10, kB_11, kB_12, kB_13, kB_14, kB_15, kB_16, kB_17, lB_1, lB_2, lB_3, lB_4, lB_5, lB_6, lB_7, lB_8, lB_9, lB_10, lB_11, lB_12, lB_13, lB_14, lB_15, lB_16, lB_17, rB_0, rB_1, rB_4, rB_5, rB_6, rB_7, rB_8, rB_9, rB_10, rB_11, rB_13, rB_14, rB_26, rB_27, rB_31, rB_33, rB_34, Int32.reduceAdd, Int32.reduceSub, Int32.reduceMul, Int32.reduceLE, Int32.reduceLT, Int32.reduceToNatClampNeg, if_true, if_false, eq_self, up_s, up_a, up_k, ne_0_1, ne_0_2, ne_0_3, ne_0_4, ne_0_5, ne_0_6, ne_0_7, ne_1_0, ne_1_2, ne_1_3, ne_1_4, ne_1_5, ne_1_6, ne_1_7, ne_2_0, ne_2_1, ne_2_3, ne_2_4, ne_2_5, ne_2_6, ne_2_7, ne_3_0, ne_3_1, ne_3_2, ne_3_4, ne_3_5, ne_3_6, ne_3_7, ne_4_0, ne_4_1, ne_4_2, ne_4_3, ne_4_5, ne_4_6, ne_4_7, ne_5_0, ne_5_1, ne_5_2, ne_5_3, ne_5_4, ne_5_6, ne_5_7, ne_6_0, ne_6_1, ne_6_2, ne_6_3, ne_6_4, ne_6_5, ne_6_7, ne_7_0, ne_7_1, ne_7_2, ne_7_3, ne_7_4, ne_7_5, ne_7_6, ne_m_0, ne_0_m, ne_m_1, ne_1_m, ne_m_2, ne_2_m, ne_m_3, ne_3_m, ne_m_4, ne_4_m, ne_m_5, ne_5_m, ne_m_6, ne_6_m, ne_m_7, ne_7_m, in8_0, in8_1, in8_2, in8_3, in8_4, in8_5, in8_6, in8_7, hne]
      rw [hsf]; rfl
    · have hB : ¬ B.1 = 0 := by rw [← mB_1 two B, ← b0]; exact hne
      have e0 : J 11 0 = A.1 := by rw [a0, mB_1]
      have e4 : J 11 4 = B.1 := by rw [b0, mB_1]
      have := hnum hne
      simp (disch := omega) only [ck_t, b1_s, b2_s, let_e, nn_s, nn_n, sI_e, sJ_e, sR_e, kB_0, kB_1, kB_2, kB_3, kB_4, kB_5, kB_6, kB_7, kB_8, kB_9, kB_10, kB_11, kB_12, kB_13, kB_14, kB_15, kB_16, kB_17, lB_1, lB_2, lB_3, lB_4, lB_5, lB_6, lB_7, lB_8, lB_9, lB_10, lB_11, lB_12, lB_13, lB_14, lB_15, lB_16, lB_17, rB_0, rB_1, rB_4, rB_5, rB_6, rB_7, rB_8, rB_9, rB_10, rB_11, rB_13, rB_14, rB_26, rB_27, rB_31, rB_33, rB_34, Int32.reduceAdd, Int32.reduceSub, Int32.reduceMul, Int32.reduceLE, Int32.reduceLT, Int32.reduceToNatClampNeg, if_true, if_false, eq_self, up_s, up_a, up_k, ne_0_1, ne_0_2, ne_0_3, ne_0_4, ne_0_5, ne_0_6, ne_0_7, ne_1_0, ne_1_2, ne_1_3, ne_1_4, ne_1_5, ne_1_6, ne_1_7, ne_2_0, ne_2_1, ne_2_3, ne_2_4, ne_2_5, ne_2_6, ne_2_7, ne_3_0, ne_3_1, ne_3_2, ne_3_4, ne_3_5, ne_3_6, ne_3_7, ne_4_0, ne_4_1, ne_4_2, ne_4_3, ne_4_5, ne_4_6, ne_4_7, ne_5_0, ne_5_1, ne_5_2, ne_5_3, ne_5_4, ne_5_6, ne_5_7, ne_6_0, ne_6_1, ne_6_2, ne_6_3, ne_6_4, ne_6_5, ne_6_7, ne_7_0, ne_7_1, ne_7_2, ne_7_3, ne_7_4, ne_7_5, ne_7_6, ne_m_0, ne_0_m, ne_m_1, ne_1_m, ne_m_2, ne_2_m, ne_m_3, ne_3_m, ne_m_4, ne_4_m, ne_m_5, ne_5_m, ne_m_6, ne_6_m, ne_m_7, ne_7_m, in8_0, in8_1, in8_2, in8_3, in8_4, in8_5, in8_6, in8_7, e0, e4, hB, fd_z hB]
      exact this
  · rw [Bool.not_eq_true] at c
    rw [c, if_pos (by decide), Bool.false_and, Bool.false_and]; rfl
