/-! the reference's reckoner: on to the next term, the row laid -/
theorem sur_ne {A B : H4} {x y : Nat} {e1 e2 : Bool} (h : sur A B x y e1 e2 = true) : ¬ B.1 = 0 := by
  unfold sur sg4 at h
  simp only [Bool.and_eq_true, Bool.or_eq_true, decide_eq_true_eq] at h
  intro e
  rw [e] at h
  rcases h.1.2 with q | q
  · exact absurd q.1 (by decide)
  · exact absurd q.1 (by decide)
theorem b_gn1 {I : Nat → Nat → Int32} {J : Nat → Nat → Int64} {two : Bool} {X Y : List Int32 × Int32} {i j f : Nat} {A B : H4} {x y s : Nat} {e1 e2 tk : Bool} (h : rkB I J two i j (A, B, x, y, s, e1, e2, tk)) (ok : rOK two X Y (A, B, x, y, s, e1, e2, tk)) (hX : srcB I i X) (hY : two = true → srcB I j Y) :
    ∃ I' J', z_X12_goesToNext_b0 TB 0 (f + 1) (I, J, rB) = (if (r1 X Y A B x y s e1 e2 tk).1 = 4 then z_X12_goesToNext_b0 TB 0 f (I', J', rB) else some (if (r1 X Y A B x y s e1 e2 tk).1 = 5 then -1 else (r1 X Y A B x y s e1 e2 tk).1, (I', J', rB))) ∧ sF I I' ∧ I' 0 22 = nI (r1 X Y A B x y s e1 e2 tk).2.2.2.1 ∧ I' 0 23 = nI (r1 X Y A B x y s e1 e2 tk).2.2.2.2.1 ∧ ((r1 X Y A B x y s e1 e2 tk).1 = 4 ∨ (r1 X Y A B x y s e1 e2 tk).1 = 5 → rkB I' J' two i j (r1 X Y A B x y s e1 e2 tk).2) ∧ ((r1 X Y A B x y s e1 e2 tk).1 = 5 → J' 0 25 = fd A.1 B.1) := by
  have hxl : x < 1000 := by have := ok.2.2.1; have := hX.2.2; omega
  have hyl : y < 1000 := by
    cases two
    · have := (ok.2.2.2.2.2.2.2 rfl).2.1; omega
    · have := ok.2.2.2.1 rfl; have := (hY rfl).2.2; omega
  have hs100 : s ≤ 100 := ok.2.2.2.2.1
  have he := b_hasEnded h
  have hsu := b_sure h ok hxl hyl
  have h0 := h
  obtain ⟨mA, mBB, i15, i17, i18, i19, i20, i21, i22, i23, i24⟩ := h
  dsimp only at mA mBB i17 i18 i19 i22 i23 i24
  rw [z_X12_goesToNext_b0, he, b1_s]
  have hstp := r1_ok ok
  unfold r1 at hstp ⊢
  by_cases c1 : e1 = true ∧ e2 = true ∧ B.1 = 0
  · rw [if_pos c1, if_pos c1, if_neg (by decide)]
    exact ⟨I, J, rfl, sF.rf, i22, i23, fun q => q.elim (fun q => absurd q n14) (fun q => absurd q n15), fun q => absurd q n15⟩
  rw [if_neg c1] at hstp ⊢
  rw [if_pos (show (0 : Int32) = 0 from rfl), hsu, b1_s, if_neg c1]
  by_cases c2 : sur A B x y e1 e2 = true
  · have hB0 := sur_ne c2
    rw [if_pos c2] at hstp ⊢
    rw [c2, if_neg (show ¬ bI true = 0 by decide)]
    have j0 : J 11 0 = A.1 := by have := congrArg (fun t => t.1) mA; rw [← mB_1 two A]; exact this
    have j4' : J 11 4 = B.1 := by have := congrArg (fun t => t.1) mBB; rw [← mB_1 two B]; exact this
    have mA1 : k4 (fh_up J 0 25 (fd A.1 B.1)) 11 0 = mB two A := by rw [← mA]; unfold k4; simp (disch := omega) only [up_a]
    have mB1 : k4 (fh_up J 0 25 (fd A.1 B.1)) 11 4 = mB two B := by rw [← mBB]; unfold k4; simp (disch := omega) only [up_a]
    have hall := m_all mA1 mB1 ok.1 ok.2.1
    by_cases c3 : (big (fd A.1 B.1) || byL A B (fd A.1 B.1)) = true
    · rw [if_pos c3]
      have c3' : (big (fd A.1 B.1) || orb (fd A.1 B.1) (fun j => fh_up J 0 25 (fd A.1 B.1) 11 j) 4) = true := by
        by_cases hb : big (fd A.1 B.1) = true
        · rw [hb, Bool.true_or]
        · rw [Bool.not_eq_true] at hb
          rw [orb_byL mA1 mB1 ok hb]; exact c3
      obtain ⟨I', J', e, hF⟩ := b_let0 (I := I) hall c3'
      refine ⟨I', J', ?_, fun b k q => hF b k (fun e => q ⟨e.1, by omega, by omega⟩), ?_, ?_, fun q => q.elim (fun q => absurd q n24) (fun q => absurd q n25), fun q => absurd q n25⟩
      · rw [if_neg n24, if_neg n25]
        simp (disch := omega) only [ck_t, b1_s, b2_s, let_e, nn_s, nn_n, sI_e, sJ_e, sR_e, kB_0, kB_1, kB_2, kB_3, kB_4, kB_5, kB_6, kB_7, kB_8, kB_9, kB_10, kB_11, kB_12, kB_13, kB_14, kB_15, kB_16, kB_17, lB_1, lB_2, lB_3, lB_4, lB_5, lB_6, lB_7, lB_8, lB_9, lB_10, lB_11, lB_12, lB_13, lB_14, lB_15, lB_16, lB_17, rB_0, rB_1, rB_4, rB_5, rB_6, rB_7, rB_8, rB_9, rB_10, rB_11, rB_13, rB_14, rB_26, rB_27, rB_31, rB_33, rB_34, Int32.reduceAdd, Int32.reduceSub, Int32.reduceMul, Int32.reduceLE, Int32.reduceLT, Int32.reduceToNatClampNeg, if_true, if_false, eq_self, up_s, up_a, up_k, ne_0_1, ne_0_2, ne_0_3, ne_0_4, ne_0_5, ne_0_6, ne_0_7, ne_1_0, ne_1_2, ne_1_3, ne_1_4, ne_1_5, ne_1_6, ne_1_7, ne_2_0, ne_2_1, ne_2_3, ne_2_4, ne_2_5, ne_2_6, ne_2_7, ne_3_0, ne_3_1, ne_3_2, ne_3_4, ne_3_5, ne_3_6, ne_3_7, ne_4_0, ne_4_1, ne_4_2, ne_4_3, ne_4_5, ne_4_6, ne_4_7, ne_5_0, ne_5_1, ne_5_2, ne_5_3, ne_5_4, ne_5_6, ne_5_7, ne_6_0, ne_6_1, ne_6_2, ne_6_3, ne_6_4, ne_6_5, ne_6_7, ne_7_0, ne_7_1, ne_7_2, ne_7_3, ne_7_4, ne_7_5, ne_7_6, ne_m_0, ne_0_m, ne_m_1, ne_1_m, ne_m_2, ne_2_m, ne_m_3, ne_3_m, ne_m_4, ne_4_m, ne_m_5, ne_5_m, ne_m_6, ne_6_m, ne_m_7, ne_7_m, in8_0, in8_1, in8_2, in8_3, in8_4, in8_5, in8_6, in8_7, j0, j4', fd_z hB0, e]
      · rw [hF 0 22 (fun q => by have := q.2; omega)]; exact i22
      · rw [hF 0 23 (fun q => by have := q.2; omega)]; exact i23
    · rw [if_neg c3]
      rw [Bool.not_eq_true] at c3
      have hb := (Bool.or_eq_false_iff.mp c3).1
      have c3' : (big (fd A.1 B.1) || orb (fd A.1 B.1) (fun j => fh_up J 0 25 (fd A.1 B.1) 11 j) 4) = false := by
        rw [orb_byL mA1 mB1 ok hb]; exact c3
      obtain ⟨J', e, hF, g0, g4⟩ := b_let1 (I := I) hall c3'
      refine ⟨fh_up (fh_up I 0 16 0) 0 24 0, J', ?_, (sF.rf.up (by decide) (by decide)).up (by decide) (by decide), ?_, ?_, fun _ => ?_, fun _ => ?_⟩
      · rw [if_neg (show ¬ (5 : Int32) = 4 by decide), if_pos (show (5 : Int32) = 5 from rfl)]
        simp (disch := omega) only [ck_t, b1_s, b2_s, let_e, nn_s, nn_n, sI_e, sJ_e, sR_e, kB_0, kB_1, kB_2, kB_3, kB_4, kB_5, kB_6, kB_7, kB_8, kB_9, kB_10, kB_11, kB_12, kB_13, kB_14, kB_15, kB_16, kB_17, lB_1, lB_2, lB_3, lB_4, lB_5, lB_6, lB_7, lB_8, lB_9, lB_10, lB_11, lB_12, lB_13, lB_14, lB_15, lB_16, lB_17, rB_0, rB_1, rB_4, rB_5, rB_6, rB_7, rB_8, rB_9, rB_10, rB_11, rB_13, rB_14, rB_26, rB_27, rB_31, rB_33, rB_34, Int32.reduceAdd, Int32.reduceSub, Int32.reduceMul, Int32.reduceLE, Int32.reduceLT, Int32.reduceToNatClampNeg, if_true, if_false, eq_self, up_s, up_a, up_k, ne_0_1, ne_0_2, ne_0_3, ne_0_4, ne_0_5, ne_0_6, ne_0_7, ne_1_0, ne_1_2, ne_1_3, ne_1_4, ne_1_5, ne_1_6, ne_1_7, ne_2_0, ne_2_1, ne_2_3, ne_2_4, ne_2_5, ne_2_6, ne_2_7, ne_3_0, ne_3_1, ne_3_2, ne_3_4, ne_3_5, ne_3_6, ne_3_7, ne_4_0, ne_4_1, ne_4_2, ne_4_3, ne_4_5, ne_4_6, ne_4_7, ne_5_0, ne_5_1, ne_5_2, ne_5_3, ne_5_4, ne_5_6, ne_5_7, ne_6_0, ne_6_1, ne_6_2, ne_6_3, ne_6_4, ne_6_5, ne_6_7, ne_7_0, ne_7_1, ne_7_2, ne_7_3, ne_7_4, ne_7_5, ne_7_6, ne_m_0, ne_0_m, ne_m_1, ne_1_m, ne_m_2, ne_2_m, ne_m_3, ne_3_m, ne_m_4, ne_4_m, ne_m_5, ne_5_m, ne_m_6, ne_6_m, ne_m_7, ne_7_m, in8_0, in8_1, in8_2, in8_3, in8_4, in8_5, in8_6, in8_7, j0, j4', fd_z hB0, e]
      · simp (disch := omega) only [ck_t, b1_s, b2_s, let_e, nn_s, nn_n, sI_e, sJ_e, sR_e, Int32.reduceAdd, Int32.reduceSub, Int32.reduceMul, Int32.reduceLE, Int32.reduceLT, Int32.reduceToNatClampNeg, if_true, if_false, eq_self, up_s, up_a, up_k, ne_0_1, ne_0_2, ne_0_3, ne_0_4, ne_0_5, ne_0_6, ne_0_7, ne_1_0, ne_1_2, ne_1_3, ne_1_4, ne_1_5, ne_1_6, ne_1_7, ne_2_0, ne_2_1, ne_2_3, ne_2_4, ne_2_5, ne_2_6, ne_2_7, ne_3_0, ne_3_1, ne_3_2, ne_3_4, ne_3_5, ne_3_6, ne_3_7, ne_4_0, ne_4_1, ne_4_2, ne_4_3, ne_4_5, ne_4_6, ne_4_7, ne_5_0, ne_5_1, ne_5_2, ne_5_3, ne_5_4, ne_5_6, ne_5_7, ne_6_0, ne_6_1, ne_6_2, ne_6_3, ne_6_4, ne_6_5, ne_6_7, ne_7_0, ne_7_1, ne_7_2, ne_7_3, ne_7_4, ne_7_5, ne_7_6, ne_m_0, ne_0_m, ne_m_1, ne_1_m, ne_m_2, ne_2_m, ne_m_3, ne_3_m, ne_m_4, ne_4_m, ne_m_5, ne_5_m, ne_m_6, ne_6_m, ne_m_7, ne_7_m, i22]
      · simp (disch := omega) only [ck_t, b1_s, b2_s, let_e, nn_s, nn_n, sI_e, sJ_e, sR_e, Int32.reduceAdd, Int32.reduceSub, Int32.reduceMul, Int32.reduceLE, Int32.reduceLT, Int32.reduceToNatClampNeg, if_true, if_false, eq_self, up_s, up_a, up_k, ne_0_1, ne_0_2, ne_0_3, ne_0_4, ne_0_5, ne_0_6, ne_0_7, ne_1_0, ne_1_2, ne_1_3, ne_1_4, ne_1_5, ne_1_6, ne_1_7, ne_2_0, ne_2_1, ne_2_3, ne_2_4, ne_2_5, ne_2_6, ne_2_7, ne_3_0, ne_3_1, ne_3_2, ne_3_4, ne_3_5, ne_3_6, ne_3_7, ne_4_0, ne_4_1, ne_4_2, ne_4_3, ne_4_5, ne_4_6, ne_4_7, ne_5_0, ne_5_1, ne_5_2, ne_5_3, ne_5_4, ne_5_6, ne_5_7, ne_6_0, ne_6_1, ne_6_2, ne_6_3, ne_6_4, ne_6_5, ne_6_7, ne_7_0, ne_7_1, ne_7_2, ne_7_3, ne_7_4, ne_7_5, ne_7_6, ne_m_0, ne_0_m, ne_m_1, ne_1_m, ne_m_2, ne_2_m, ne_m_3, ne_3_m, ne_m_4, ne_4_m, ne_m_5, ne_5_m, ne_m_6, ne_6_m, ne_m_7, ne_7_m, i23]
      · refine ⟨by rw [g0]; exact mB1, by rw [g4, lo_mB mA1 mB1], ?_, ?_, ?_, fun hq => ?_, ?_, fun t => ?_, ?_, ?_, ?_⟩
        · simp (disch := omega) only [ck_t, b1_s, b2_s, let_e, nn_s, nn_n, sI_e, sJ_e, sR_e, Int32.reduceAdd, Int32.reduceSub, Int32.reduceMul, Int32.reduceLE, Int32.reduceLT, Int32.reduceToNatClampNeg, if_true, if_false, eq_self, up_s, up_a, up_k, ne_0_1, ne_0_2, ne_0_3, ne_0_4, ne_0_5, ne_0_6, ne_0_7, ne_1_0, ne_1_2, ne_1_3, ne_1_4, ne_1_5, ne_1_6, ne_1_7, ne_2_0, ne_2_1, ne_2_3, ne_2_4, ne_2_5, ne_2_6, ne_2_7, ne_3_0, ne_3_1, ne_3_2, ne_3_4, ne_3_5, ne_3_6, ne_3_7, ne_4_0, ne_4_1, ne_4_2, ne_4_3, ne_4_5, ne_4_6, ne_4_7, ne_5_0, ne_5_1, ne_5_2, ne_5_3, ne_5_4, ne_5_6, ne_5_7, ne_6_0, ne_6_1, ne_6_2, ne_6_3, ne_6_4, ne_6_5, ne_6_7, ne_7_0, ne_7_1, ne_7_2, ne_7_3, ne_7_4, ne_7_5, ne_7_6, ne_m_0, ne_0_m, ne_m_1, ne_1_m, ne_m_2, ne_2_m, ne_m_3, ne_3_m, ne_m_4, ne_4_m, ne_m_5, ne_5_m, ne_m_6, ne_6_m, ne_m_7, ne_7_m, i15]
        · simp (disch := omega) only [ck_t, b1_s, b2_s, let_e, nn_s, nn_n, sI_e, sJ_e, sR_e, Int32.reduceAdd, Int32.reduceSub, Int32.reduceMul, Int32.reduceLE, Int32.reduceLT, Int32.reduceToNatClampNeg, if_true, if_false, eq_self, up_s, up_a, up_k, ne_0_1, ne_0_2, ne_0_3, ne_0_4, ne_0_5, ne_0_6, ne_0_7, ne_1_0, ne_1_2, ne_1_3, ne_1_4, ne_1_5, ne_1_6, ne_1_7, ne_2_0, ne_2_1, ne_2_3, ne_2_4, ne_2_5, ne_2_6, ne_2_7, ne_3_0, ne_3_1, ne_3_2, ne_3_4, ne_3_5, ne_3_6, ne_3_7, ne_4_0, ne_4_1, ne_4_2, ne_4_3, ne_4_5, ne_4_6, ne_4_7, ne_5_0, ne_5_1, ne_5_2, ne_5_3, ne_5_4, ne_5_6, ne_5_7, ne_6_0, ne_6_1, ne_6_2, ne_6_3, ne_6_4, ne_6_5, ne_6_7, ne_7_0, ne_7_1, ne_7_2, ne_7_3, ne_7_4, ne_7_5, ne_7_6, ne_m_0, ne_0_m, ne_m_1, ne_1_m, ne_m_2, ne_2_m, ne_m_3, ne_3_m, ne_m_4, ne_4_m, ne_m_5, ne_5_m, ne_m_6, ne_6_m, ne_m_7, ne_7_m, i17]
        · simp (disch := omega) only [ck_t, b1_s, b2_s, let_e, nn_s, nn_n, sI_e, sJ_e, sR_e, Int32.reduceAdd, Int32.reduceSub, Int32.reduceMul, Int32.reduceLE, Int32.reduceLT, Int32.reduceToNatClampNeg, if_true, if_false, eq_self, up_s, up_a, up_k, ne_0_1, ne_0_2, ne_0_3, ne_0_4, ne_0_5, ne_0_6, ne_0_7, ne_1_0, ne_1_2, ne_1_3, ne_1_4, ne_1_5, ne_1_6, ne_1_7, ne_2_0, ne_2_1, ne_2_3, ne_2_4, ne_2_5, ne_2_6, ne_2_7, ne_3_0, ne_3_1, ne_3_2, ne_3_4, ne_3_5, ne_3_6, ne_3_7, ne_4_0, ne_4_1, ne_4_2, ne_4_3, ne_4_5, ne_4_6, ne_4_7, ne_5_0, ne_5_1, ne_5_2, ne_5_3, ne_5_4, ne_5_6, ne_5_7, ne_6_0, ne_6_1, ne_6_2, ne_6_3, ne_6_4, ne_6_5, ne_6_7, ne_7_0, ne_7_1, ne_7_2, ne_7_3, ne_7_4, ne_7_5, ne_7_6, ne_m_0, ne_0_m, ne_m_1, ne_1_m, ne_m_2, ne_2_m, ne_m_3, ne_3_m, ne_m_4, ne_4_m, ne_m_5, ne_5_m, ne_m_6, ne_6_m, ne_m_7, ne_7_m, i18]
        · simp (disch := omega) only [ck_t, b1_s, b2_s, let_e, nn_s, nn_n, sI_e, sJ_e, sR_e, Int32.reduceAdd, Int32.reduceSub, Int32.reduceMul, Int32.reduceLE, Int32.reduceLT, Int32.reduceToNatClampNeg, if_true, if_false, eq_self, up_s, up_a, up_k, ne_0_1, ne_0_2, ne_0_3, ne_0_4, ne_0_5, ne_0_6, ne_0_7, ne_1_0, ne_1_2, ne_1_3, ne_1_4, ne_1_5, ne_1_6, ne_1_7, ne_2_0, ne_2_1, ne_2_3, ne_2_4, ne_2_5, ne_2_6, ne_2_7, ne_3_0, ne_3_1, ne_3_2, ne_3_4, ne_3_5, ne_3_6, ne_3_7, ne_4_0, ne_4_1, ne_4_2, ne_4_3, ne_4_5, ne_4_6, ne_4_7, ne_5_0, ne_5_1, ne_5_2, ne_5_3, ne_5_4, ne_5_6, ne_5_7, ne_6_0, ne_6_1, ne_6_2, ne_6_3, ne_6_4, ne_6_5, ne_6_7, ne_7_0, ne_7_1, ne_7_2, ne_7_3, ne_7_4, ne_7_5, ne_7_6, ne_m_0, ne_0_m, ne_m_1, ne_1_m, ne_m_2, ne_2_m, ne_m_3, ne_3_m, ne_m_4, ne_4_m, ne_m_5, ne_5_m, ne_m_6, ne_6_m, ne_m_7, ne_7_m]
          exact i19 hq
        · simp (disch := omega) only [ck_t, b1_s, b2_s, let_e, nn_s, nn_n, sI_e, sJ_e, sR_e, Int32.reduceAdd, Int32.reduceSub, Int32.reduceMul, Int32.reduceLE, Int32.reduceLT, Int32.reduceToNatClampNeg, if_true, if_false, eq_self, up_s, up_a, up_k, ne_0_1, ne_0_2, ne_0_3, ne_0_4, ne_0_5, ne_0_6, ne_0_7, ne_1_0, ne_1_2, ne_1_3, ne_1_4, ne_1_5, ne_1_6, ne_1_7, ne_2_0, ne_2_1, ne_2_3, ne_2_4, ne_2_5, ne_2_6, ne_2_7, ne_3_0, ne_3_1, ne_3_2, ne_3_4, ne_3_5, ne_3_6, ne_3_7, ne_4_0, ne_4_1, ne_4_2, ne_4_3, ne_4_5, ne_4_6, ne_4_7, ne_5_0, ne_5_1, ne_5_2, ne_5_3, ne_5_4, ne_5_6, ne_5_7, ne_6_0, ne_6_1, ne_6_2, ne_6_3, ne_6_4, ne_6_5, ne_6_7, ne_7_0, ne_7_1, ne_7_2, ne_7_3, ne_7_4, ne_7_5, ne_7_6, ne_m_0, ne_0_m, ne_m_1, ne_1_m, ne_m_2, ne_2_m, ne_m_3, ne_3_m, ne_m_4, ne_4_m, ne_m_5, ne_5_m, ne_m_6, ne_6_m, ne_m_7, ne_7_m, i20]
        · simp (disch := omega) only [ck_t, b1_s, b2_s, let_e, nn_s, nn_n, sI_e, sJ_e, sR_e, Int32.reduceAdd, Int32.reduceSub, Int32.reduceMul, Int32.reduceLE, Int32.reduceLT, Int32.reduceToNatClampNeg, if_true, if_false, eq_self, up_s, up_a, up_k, ne_0_1, ne_0_2, ne_0_3, ne_0_4, ne_0_5, ne_0_6, ne_0_7, ne_1_0, ne_1_2, ne_1_3, ne_1_4, ne_1_5, ne_1_6, ne_1_7, ne_2_0, ne_2_1, ne_2_3, ne_2_4, ne_2_5, ne_2_6, ne_2_7, ne_3_0, ne_3_1, ne_3_2, ne_3_4, ne_3_5, ne_3_6, ne_3_7, ne_4_0, ne_4_1, ne_4_2, ne_4_3, ne_4_5, ne_4_6, ne_4_7, ne_5_0, ne_5_1, ne_5_2, ne_5_3, ne_5_4, ne_5_6, ne_5_7, ne_6_0, ne_6_1, ne_6_2, ne_6_3, ne_6_4, ne_6_5, ne_6_7, ne_7_0, ne_7_1, ne_7_2, ne_7_3, ne_7_4, ne_7_5, ne_7_6, ne_m_0, ne_0_m, ne_m_1, ne_1_m, ne_m_2, ne_2_m, ne_m_3, ne_3_m, ne_m_4, ne_4_m, ne_m_5, ne_5_m, ne_m_6, ne_6_m, ne_m_7, ne_7_m, i21 t]
        · simp (disch := omega) only [ck_t, b1_s, b2_s, let_e, nn_s, nn_n, sI_e, sJ_e, sR_e, Int32.reduceAdd, Int32.reduceSub, Int32.reduceMul, Int32.reduceLE, Int32.reduceLT, Int32.reduceToNatClampNeg, if_true, if_false, eq_self, up_s, up_a, up_k, ne_0_1, ne_0_2, ne_0_3, ne_0_4, ne_0_5, ne_0_6, ne_0_7, ne_1_0, ne_1_2, ne_1_3, ne_1_4, ne_1_5, ne_1_6, ne_1_7, ne_2_0, ne_2_1, ne_2_3, ne_2_4, ne_2_5, ne_2_6, ne_2_7, ne_3_0, ne_3_1, ne_3_2, ne_3_4, ne_3_5, ne_3_6, ne_3_7, ne_4_0, ne_4_1, ne_4_2, ne_4_3, ne_4_5, ne_4_6, ne_4_7, ne_5_0, ne_5_1, ne_5_2, ne_5_3, ne_5_4, ne_5_6, ne_5_7, ne_6_0, ne_6_1, ne_6_2, ne_6_3, ne_6_4, ne_6_5, ne_6_7, ne_7_0, ne_7_1, ne_7_2, ne_7_3, ne_7_4, ne_7_5, ne_7_6, ne_m_0, ne_0_m, ne_m_1, ne_1_m, ne_m_2, ne_2_m, ne_m_3, ne_3_m, ne_m_4, ne_4_m, ne_m_5, ne_5_m, ne_m_6, ne_6_m, ne_m_7, ne_7_m, i22]
        · simp (disch := omega) only [ck_t, b1_s, b2_s, let_e, nn_s, nn_n, sI_e, sJ_e, sR_e, Int32.reduceAdd, Int32.reduceSub, Int32.reduceMul, Int32.reduceLE, Int32.reduceLT, Int32.reduceToNatClampNeg, if_true, if_false, eq_self, up_s, up_a, up_k, ne_0_1, ne_0_2, ne_0_3, ne_0_4, ne_0_5, ne_0_6, ne_0_7, ne_1_0, ne_1_2, ne_1_3, ne_1_4, ne_1_5, ne_1_6, ne_1_7, ne_2_0, ne_2_1, ne_2_3, ne_2_4, ne_2_5, ne_2_6, ne_2_7, ne_3_0, ne_3_1, ne_3_2, ne_3_4, ne_3_5, ne_3_6, ne_3_7, ne_4_0, ne_4_1, ne_4_2, ne_4_3, ne_4_5, ne_4_6, ne_4_7, ne_5_0, ne_5_1, ne_5_2, ne_5_3, ne_5_4, ne_5_6, ne_5_7, ne_6_0, ne_6_1, ne_6_2, ne_6_3, ne_6_4, ne_6_5, ne_6_7, ne_7_0, ne_7_1, ne_7_2, ne_7_3, ne_7_4, ne_7_5, ne_7_6, ne_m_0, ne_0_m, ne_m_1, ne_1_m, ne_m_2, ne_2_m, ne_m_3, ne_3_m, ne_m_4, ne_4_m, ne_m_5, ne_5_m, ne_m_6, ne_6_m, ne_m_7, ne_7_m, i23]
        · simp (disch := omega) only [ck_t, b1_s, b2_s, let_e, nn_s, nn_n, sI_e, sJ_e, sR_e, Int32.reduceAdd, Int32.reduceSub, Int32.reduceMul, Int32.reduceLE, Int32.reduceLT, Int32.reduceToNatClampNeg, if_true, if_false, eq_self, up_s, up_a, up_k, ne_0_1, ne_0_2, ne_0_3, ne_0_4, ne_0_5, ne_0_6, ne_0_7, ne_1_0, ne_1_2, ne_1_3, ne_1_4, ne_1_5, ne_1_6, ne_1_7, ne_2_0, ne_2_1, ne_2_3, ne_2_4, ne_2_5, ne_2_6, ne_2_7, ne_3_0, ne_3_1, ne_3_2, ne_3_4, ne_3_5, ne_3_6, ne_3_7, ne_4_0, ne_4_1, ne_4_2, ne_4_3, ne_4_5, ne_4_6, ne_4_7, ne_5_0, ne_5_1, ne_5_2, ne_5_3, ne_5_4, ne_5_6, ne_5_7, ne_6_0, ne_6_1, ne_6_2, ne_6_3, ne_6_4, ne_6_5, ne_6_7, ne_7_0, ne_7_1, ne_7_2, ne_7_3, ne_7_4, ne_7_5, ne_7_6, ne_m_0, ne_0_m, ne_m_1, ne_1_m, ne_m_2, ne_2_m, ne_m_3, ne_3_m, ne_m_4, ne_4_m, ne_m_5, ne_5_m, ne_m_6, ne_6_m, ne_m_7, ne_7_m]
          rfl
      · rw [hF 0 25 (by decide) (by decide), up_s]
  rw [if_neg c2] at hstp ⊢
  rw [show sur A B x y e1 e2 = false by rw [← Bool.not_eq_true]; exact c2, if_pos (show bI false = 0 from rfl)]
  by_cases c3 : 100 ≤ s
  · rw [if_pos c3]
    obtain rfl : s = 100 := by omega
    refine ⟨I, J, ?_, sF.rf, i22, i23, fun q => q.elim (fun q => absurd q n34) (fun q => absurd q n35), fun q => absurd q n35⟩
    have er : z_X12_reads TB (I, J, rB) 0 = some (3, (I, J, rB)) := by
      unfold z_X12_reads
      simp only [i24]
      rw [if_pos (show nI 100 = (100 : Int32) from rfl)]
    rw [er, b2_s, if_neg (by decide), if_neg n34, if_neg n35]
  rw [if_neg c3] at hstp ⊢
  by_cases c4 : nxf e1 e2 tk = true
  · rw [if_pos c4] at hstp ⊢
    have he1 := nxf_yes c4
    subst he1
    obtain ⟨I', J', e, hF, g2, g3, hk⟩ := b_readX h0 ok c4 (by omega) hX
    have hne : ¬ (rX X A B x y s false e2).1 = 5 := by
      unfold rX
      split
      · dsimp only; split <;> decide
      · split <;> (dsimp only; decide)
    refine ⟨I', J', ?_, hF, g2, g3, fun q => hk (q.elim id (fun q => absurd q hne)), fun q => absurd q hne⟩
    rw [e, b2_s, if_neg hne]
    by_cases c5 : (rX X A B x y s false e2).1 = 4
    · rw [if_pos c5, if_pos c5, if_pos rfl]
    · rw [if_neg c5, if_neg c5]
      have : ¬ (rX X A B x y s false e2).1 = -1 := by
        rcases hstp with q | q | q
        · rcases q with q | q | q <;> rw [q] <;> decide
        · exact absurd q.1 c5
        · exact absurd q.1 hne
      rw [if_neg this]
  · rw [if_neg c4] at hstp ⊢
    obtain ⟨he2, ht⟩ := nxf_no ok c1 c2 c4
    subst he2
    subst ht
    rw [Bool.not_eq_true] at c4
    obtain ⟨I', J', e, hF, g2, g3, hk⟩ := b_readY h0 ok c4 (by omega) (hY rfl)
    have hne : ¬ (rY Y A B x y s e1 false).1 = 5 := by
      unfold rY
      split
      · dsimp only; split <;> decide
      · split <;> (dsimp only; decide)
    refine ⟨I', J', ?_, hF, g2, g3, fun q => hk (q.elim id (fun q => absurd q hne)), fun q => absurd q hne⟩
    rw [e, b2_s, if_neg hne]
    by_cases c5 : (rY Y A B x y s e1 false).1 = 4
    · rw [if_pos c5, if_pos c5, if_pos rfl]
    · rw [if_neg c5, if_neg c5]
      have : ¬ (rY Y A B x y s e1 false).1 = -1 := by
        rcases hstp with q | q | q
        · rcases q with q | q | q <;> rw [q] <;> decide
        · exact absurd q.1 c5
        · exact absurd q.1 hne
      rw [if_neg this]
theorem srcB_s {I I' : Nat → Nat → Int32} {i : Nat} {X : List Int32 × Int32} (hF : sF I I') (h : srcB I i X) : srcB I' i X := by
  obtain ⟨hi, ⟨h4, hl, h5⟩, hn⟩ := h
  exact ⟨hi, ⟨by rw [hF 4 i (fun q => by omega)]; exact h4, lst_cong hl (fun j _ _ => hF 3 j (fun q => by omega)), by rw [hF 5 i (fun q => by omega)]; exact h5⟩, hn⟩
/-- on to the next term: what that is of the whole reckoning -/
theorem b_goes {two : Bool} {X Y : List Int32 × Int32} {i j most : Nat} : ∀ (n fuel : Nat) (I : Nat → Nat → Int32) (J : Nat → Nat → Int64) (σ : rS) (out : List rT), rmu two X Y σ + (most - out.length) + 1 ≤ n → rmu two X Y σ < fuel → out.length < most → rkB I J two i j σ → rOK two X Y σ → srcB I i X → (two = true → srcB I j Y) →
    ∃ I' J' c, z_X12_goesToNext_b0 TB 0 fuel (I, J, rB) = some (c, (I', J', rB)) ∧ sF I I' ∧ ((c = -1 ∧ ∃ (t : rS) (q : Int64) (n' : Nat), al X Y most n σ out = al X Y most n' t (out ++ [(q.toInt32, nI t.2.2.1, nI t.2.2.2.1)]) ∧ J' 0 25 = q ∧ rkB I' J' two i j t ∧ rOK two X Y t ∧ rmu two X Y t + (most - (out.length + 1)) + 1 ≤ n' ∧ rmu two X Y t ≤ rmu two X Y σ) ∨ (¬ c = -1 ∧ ∃ x y : Nat, al X Y most n σ out = (out, c, nI (x + y)) ∧ I' 0 22 = nI x ∧ I' 0 23 = nI y)) := by
  intro n
  induction n with
  | zero => intro fuel I J σ out hn; omega
  | succ n ih =>
    intro fuel I J σ out hn hf hlt h ok hX hY
    obtain ⟨f, rfl⟩ : ∃ f, fuel = f + 1 := ⟨fuel - 1, by omega⟩
    obtain ⟨A, B, x, y, s, e1, e2, tk⟩ := σ
    obtain ⟨I1, J1, e, hF, g2, g3, hk, h25⟩ := b_gn1 (f := f) h ok hX hY
    have hstp := r1_ok ok
    rw [e, al, if_neg (show ¬ most ≤ out.length by omega)]
    dsimp only
    by_cases c4 : (r1 X Y A B x y s e1 e2 tk).1 = 4
    · rw [if_pos c4, if_pos c4]
      have hq : rOK two X Y (r1 X Y A B x y s e1 e2 tk).2 ∧ rmu two X Y (r1 X Y A B x y s e1 e2 tk).2 < rmu two X Y (A, B, x, y, s, e1, e2, tk) := by
        rcases hstp with q | q | q
        · rw [c4] at q; exact absurd q (by decide)
        · exact q.2
        · rw [c4] at q; exact absurd q.1 (by decide)
      obtain ⟨I2, J2, c, e2', hF2, hr⟩ := ih f I1 J1 (r1 X Y A B x y s e1 e2 tk).2 out (by omega) (by omega) hlt (hk (Or.inl c4)) hq.1 (srcB_s hF hX) (fun t => srcB_s hF (hY t))
      refine ⟨I2, J2, c, e2', hF.trans hF2, hr.imp (fun hr => ⟨hr.1, ?_⟩) id⟩
      obtain ⟨t, q, n', a1, a2, a3, a4, a5, a6⟩ := hr.2
      exact ⟨t, q, n', a1, a2, a3, a4, a5, by omega⟩
    · rw [if_neg c4, if_neg c4]
      by_cases c5 : (r1 X Y A B x y s e1 e2 tk).1 = 5
      · rw [if_pos c5, if_pos c5]
        have hq : rOK two X Y (r1 X Y A B x y s e1 e2 tk).2 ∧ rmu two X Y (r1 X Y A B x y s e1 e2 tk).2 = rmu two X Y (A, B, x, y, s, e1, e2, tk) := by
          rcases hstp with q | q | q
          · rw [c5] at q; exact absurd q (by decide)
          · exact absurd q.1 c4
          · exact q.2
        have hxy : (r1 X Y A B x y s e1 e2 tk).2.2.2.1 = x ∧ (r1 X Y A B x y s e1 e2 tk).2.2.2.2.1 = y := by
          unfold r1 at c5 ⊢
          split at c5
          · exact absurd c5 n15
          rename_i d1
          rw [if_neg d1]
          split at c5
          · rename_i d2
            rw [if_pos d2]
            split at c5
            · exact absurd c5 n25
            · rename_i d3; rw [if_neg d3]; exact ⟨rfl, rfl⟩
          rename_i d2
          split at c5
          · exact absurd c5 n35
          split at c5
          · exfalso
            revert c5
            unfold rX
            split
            · dsimp only; split <;> decide
            · split <;> (dsimp only; decide)
          · exfalso
            revert c5
            unfold rY
            split
            · dsimp only; split <;> decide
            · split <;> (dsimp only; decide)
        refine ⟨I1, J1, -1, rfl, hF, Or.inl ⟨rfl, (r1 X Y A B x y s e1 e2 tk).2, fd A.1 B.1, n, ?_, h25 c5, hk (Or.inr c5), hq.1, by omega, by omega⟩⟩
        rw [hxy.1, hxy.2]
      · rw [if_neg c5, if_neg c5]
        have hq : ¬ (r1 X Y A B x y s e1 e2 tk).1 = -1 := by
          rcases hstp with q | q | q
          · rcases q with q | q | q <;> rw [q] <;> decide
          · exact absurd q.1 c4
          · exact absurd q.1 c5
        exact ⟨I1, J1, _, rfl, hF, Or.inr ⟨hq, _, _, rfl, g2, g3⟩⟩
