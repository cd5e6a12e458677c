/-! the words once more, such that their use is no unfolding -/
theorem ck_N {α : Type} (f : Option α) : fh_ck true f = f := id rfl
theorem b1_N {α β : Type} (a : α) (f : α → Option β) : fh_b1 (some a) f = f a := id rfl
theorem b2_N {α β : Type} (a : α) (k : fh_H) (f : α → fh_H → Option β) : fh_b2 (some (a, k)) f = f a k := id rfl
theorem let_N {α β : Type} (a : α) (f : α → β) : fh_let a f = f a := id rfl
theorem nn_Ns {α : Type} (j : Nat) (f : Option α) (k : Nat → Option α) : fh_nn (some j) f k = k j := id rfl
theorem nn_Nn {α : Type} (f : Option α) (k : Nat → Option α) : fh_nn none f k = f := id rfl
theorem sI_N (I : Nat → Nat → Int32) (J : Nat → Nat → Int64) (R : Nat → Nat → Option Nat) (a k : Nat) (v : Int32) : fh_sI (I, J, R) a k v = (fh_up I a k v, J, R) := id rfl
theorem sJ_N (I : Nat → Nat → Int32) (J : Nat → Nat → Int64) (R : Nat → Nat → Option Nat) (a k : Nat) (v : Int64) : fh_sJ (I, J, R) a k v = (I, fh_up J a k v, R) := id rfl
theorem sR_N (I : Nat → Nat → Int32) (J : Nat → Nat → Int64) (R : Nat → Nat → Option Nat) (a k : Nat) (v : Option Nat) : fh_sR (I, J, R) a k v = (I, J, fh_up R a k v) := id rfl
theorem kB_N0 : fh_kq TB 0 12 = true := id kB_0
theorem kB_N1 : fh_kq TB 1 13 = true := id kB_1
theorem kB_N2 : fh_kq TB 2 13 = true := id kB_2
theorem kB_N3 : fh_kq TB 3 13 = true := id kB_3
theorem kB_N4 : fh_kq TB 4 13 = true := id kB_4
theorem kB_N5 : fh_kq TB 5 13 = true := id kB_5
theorem kB_N6 : fh_kq TB 6 13 = true := id kB_6
theorem kB_N7 : fh_kq TB 7 13 = true := id kB_7
theorem kB_N8 : fh_kq TB 8 13 = true := id kB_8
theorem kB_N9 : fh_kq TB 9 14 = true := id kB_9
theorem kB_N10 : fh_kq TB 10 14 = true := id kB_10
theorem kB_N11 : fh_kq TB 11 14 = true := id kB_11
theorem kB_N12 : fh_kq TB 12 14 = true := id kB_12
theorem kB_N13 : fh_kq TB 13 14 = true := id kB_13
theorem kB_N14 : fh_kq TB 14 14 = true := id kB_14
theorem kB_N15 : fh_kq TB 15 13 = true := id kB_15
theorem kB_N16 : fh_kq TB 16 13 = true := id kB_16
theorem kB_N17 : fh_kq TB 17 13 = true := id kB_17
theorem lB_N1 : TB.2.2 1 = 1090 := id lB_1
theorem lB_N2 : TB.2.2 2 = 17440 := id lB_2
theorem lB_N3 : TB.2.2 3 = 600 := id lB_3
theorem lB_N4 : TB.2.2 4 = 10 := id lB_4
theorem lB_N5 : TB.2.2 5 = 10 := id lB_5
theorem lB_N6 : TB.2.2 6 = 10 := id lB_6
theorem lB_N7 : TB.2.2 7 = 600 := id lB_7
theorem lB_N8 : TB.2.2 8 = 600 := id lB_8
theorem lB_N9 : TB.2.2 9 = 60 := id lB_9
theorem lB_N10 : TB.2.2 10 = 60 := id lB_10
theorem lB_N11 : TB.2.2 11 = 8 := id lB_11
theorem lB_N12 : TB.2.2 12 = 8 := id lB_12
theorem lB_N13 : TB.2.2 13 = 60 := id lB_13
theorem lB_N14 : TB.2.2 14 = 60 := id lB_14
theorem lB_N15 : TB.2.2 15 = 900 := id lB_15
theorem lB_N16 : TB.2.2 16 = 200 := id lB_16
theorem lB_N17 : TB.2.2 17 = 100 := id lB_17
theorem rB_N0 : rB 0 0 = some 1 := id rB_0
theorem rB_N1 : rB 0 1 = some 2 := id rB_1
theorem rB_N4 : rB 0 4 = some 3 := id rB_4
theorem rB_N5 : rB 0 5 = some 4 := id rB_5
theorem rB_N6 : rB 0 6 = some 5 := id rB_6
theorem rB_N7 : rB 0 7 = some 6 := id rB_7
theorem rB_N8 : rB 0 8 = some 7 := id rB_8
theorem rB_N9 : rB 0 9 = some 8 := id rB_9
theorem rB_N10 : rB 0 10 = some 9 := id rB_10
theorem rB_N11 : rB 0 11 = some 10 := id rB_11
theorem rB_N13 : rB 0 13 = some 11 := id rB_13
theorem rB_N14 : rB 0 14 = some 12 := id rB_14
theorem rB_N26 : rB 0 26 = some 13 := id rB_26
theorem rB_N27 : rB 0 27 = some 14 := id rB_27
theorem rB_N31 : rB 0 31 = some 15 := id rB_31
theorem rB_N33 : rB 0 33 = some 16 := id rB_33
theorem rB_N34 : rB 0 34 = some 17 := id rB_34
/-! the reference's reckoner: the beginnings, the row laid, one term asked alone -/
def s0 (a b c d : Int32) : rS := ((a.toInt64, 0, b.toInt64, 0), (c.toInt64, 0, d.toInt64, 0), 0, 0, 0, false, true, false)
def d0 (how : Int32) : rS := if how = 0 then ((0, 1, 1, 0), (0, 0, 0, 1), 0, 0, 0, false, false, false) else if how = 1 then ((0, 1, -1, 0), (0, 0, 0, 1), 0, 0, 0, false, false, false) else if how = 2 then ((1, 0, 0, 0), (0, 0, 0, 1), 0, 0, 0, false, false, false) else ((0, 1, 0, 0), (0, 0, 1, 0), 0, 0, 0, false, false, false)
theorem bd_i (v : Int32) : bd v.toInt64 := by
  unfold bd
  rw [Int32.toInt_toInt64]
  have h1 := v.toInt_lt
  have h2 := v.le_toInt
  omega
theorem bd_0 : bd 0 := ⟨by decide, by decide⟩
theorem bd_1 : bd 1 := ⟨by decide, by decide⟩
theorem bd_m1 : bd (-1) := ⟨by decide, by decide⟩
theorem s0_ok (a b c d : Int32) (X Y : List Int32 × Int32) : rOK false X Y (s0 a b c d) := ⟨⟨bd_i a, bd_0, bd_i b, bd_0⟩, ⟨bd_i c, bd_0, bd_i d, bd_0⟩, Nat.zero_le _, (fun h => by cases h), by decide, (fun h => by cases h), (fun h => by cases h), fun _ => ⟨rfl, rfl, rfl, rfl, rfl, rfl⟩⟩
theorem d0_ok (how : Int32) (X Y : List Int32 × Int32) : rOK true X Y (d0 how) := by
  unfold d0
  split
  · exact ⟨⟨bd_0, bd_1, bd_1, bd_0⟩, ⟨bd_0, bd_0, bd_0, bd_1⟩, Nat.zero_le _, fun _ => Nat.zero_le _, by decide, (fun h => by cases h), (fun _ h => by cases h), (fun h => by cases h)⟩
  split
  · exact ⟨⟨bd_0, bd_1, bd_m1, bd_0⟩, ⟨bd_0, bd_0, bd_0, bd_1⟩, Nat.zero_le _, fun _ => Nat.zero_le _, by decide, (fun h => by cases h), (fun _ h => by cases h), (fun h => by cases h)⟩
  split
  · exact ⟨⟨bd_1, bd_0, bd_0, bd_0⟩, ⟨bd_0, bd_0, bd_0, bd_1⟩, Nat.zero_le _, fun _ => Nat.zero_le _, by decide, (fun h => by cases h), (fun _ h => by cases h), (fun h => by cases h)⟩
  · exact ⟨⟨bd_0, bd_1, bd_0, bd_0⟩, ⟨bd_0, bd_0, bd_1, bd_0⟩, Nat.zero_le _, fun _ => Nat.zero_le _, by decide, (fun h => by cases h), (fun _ h => by cases h), (fun h => by cases h)⟩
theorem rmu_le {two : Bool} {X Y : List Int32 × Int32} {σ : rS} (hX : X.1.length ≤ 60) (hY : two = true → Y.1.length ≤ 60) : rmu two X Y σ ≤ 122 := by
  obtain ⟨A, B, x, y, s, e1, e2, tk⟩ := σ
  unfold rmu
  dsimp only
  cases two
  · simp only [Bool.false_eq_true, if_false]
    split <;> split <;> omega
  · have := hY rfl
    simp only [if_true]
    split <;> split <;> omega
theorem b_numbers {I : Nat → Nat → Int32} {J : Nat → Nat → Int64} {a b c d e f g h : Int32} : ∃ J', z_X12_numbers TB (I, J, rB) 0 a b c d e f g h = some (I, J', rB) ∧ k4 J' 11 0 = (a.toInt64, b.toInt64, c.toInt64, d.toInt64) ∧ k4 J' 11 4 = (e.toInt64, f.toInt64, g.toInt64, h.toInt64) := by
  refine ⟨fh_up (fh_up (fh_up (fh_up (fh_up (fh_up (fh_up (fh_up J 11 0 a.toInt64) 11 1 b.toInt64) 11 2 c.toInt64) 11 3 d.toInt64) 11 4 e.toInt64) 11 5 f.toInt64) 11 6 g.toInt64) 11 7 h.toInt64, ?_, ?_, ?_⟩
  · unfold z_X12_numbers
    simp (disch := omega) only [ck_t, b1_s, b2_s, let_e, nn_s, nn_n, sI_e, sJ_e, sR_e, kB_0, kB_1, kB_2, kB_3, kB_4, kB_5, kB_6, kB_7, kB_8, kB_9, kB_10, kB_11, kB_12, kB_13, kB_14, kB_15, kB_16, kB_17, lB_1, lB_2, lB_3, lB_4, lB_5, lB_6, lB_7, lB_8, lB_9, lB_10, lB_11, lB_12, lB_13, lB_14, lB_15, lB_16, lB_17, rB_0, rB_1, rB_4, rB_5, rB_6, rB_7, rB_8, rB_9, rB_10, rB_11, rB_13, rB_14, rB_26, rB_27, rB_31, rB_33, rB_34, Int32.reduceAdd, Int32.reduceSub, Int32.reduceMul, Int32.reduceLE, Int32.reduceLT, Int32.reduceToNatClampNeg, if_true, if_false, eq_self, up_s, up_a, up_k, ne_0_1, ne_0_2, ne_0_3, ne_0_4, ne_0_5, ne_0_6, ne_0_7, ne_1_0, ne_1_2, ne_1_3, ne_1_4, ne_1_5, ne_1_6, ne_1_7, ne_2_0, ne_2_1, ne_2_3, ne_2_4, ne_2_5, ne_2_6, ne_2_7, ne_3_0, ne_3_1, ne_3_2, ne_3_4, ne_3_5, ne_3_6, ne_3_7, ne_4_0, ne_4_1, ne_4_2, ne_4_3, ne_4_5, ne_4_6, ne_4_7, ne_5_0, ne_5_1, ne_5_2, ne_5_3, ne_5_4, ne_5_6, ne_5_7, ne_6_0, ne_6_1, ne_6_2, ne_6_3, ne_6_4, ne_6_5, ne_6_7, ne_7_0, ne_7_1, ne_7_2, ne_7_3, ne_7_4, ne_7_5, ne_7_6, ne_m_0, ne_0_m, ne_m_1, ne_1_m, ne_m_2, ne_2_m, ne_m_3, ne_3_m, ne_m_4, ne_4_m, ne_m_5, ne_5_m, ne_m_6, ne_6_m, ne_m_7, ne_7_m, in8_0, in8_1, in8_2, in8_3, in8_4, in8_5, in8_6, in8_7]
  · unfold k4
    simp (disch := omega) only [ck_t, b1_s, b2_s, let_e, nn_s, nn_n, sI_e, sJ_e, sR_e, kB_0, kB_1, kB_2, kB_3, kB_4, kB_5, kB_6, kB_7, kB_8, kB_9, kB_10, kB_11, kB_12, kB_13, kB_14, kB_15, kB_16, kB_17, lB_1, lB_2, lB_3, lB_4, lB_5, lB_6, lB_7, lB_8, lB_9, lB_10, lB_11, lB_12, lB_13, lB_14, lB_15, lB_16, lB_17, rB_0, rB_1, rB_4, rB_5, rB_6, rB_7, rB_8, rB_9, rB_10, rB_11, rB_13, rB_14, rB_26, rB_27, rB_31, rB_33, rB_34, Int32.reduceAdd, Int32.reduceSub, Int32.reduceMul, Int32.reduceLE, Int32.reduceLT, Int32.reduceToNatClampNeg, if_true, if_false, eq_self, up_s, up_a, up_k, ne_0_1, ne_0_2, ne_0_3, ne_0_4, ne_0_5, ne_0_6, ne_0_7, ne_1_0, ne_1_2, ne_1_3, ne_1_4, ne_1_5, ne_1_6, ne_1_7, ne_2_0, ne_2_1, ne_2_3, ne_2_4, ne_2_5, ne_2_6, ne_2_7, ne_3_0, ne_3_1, ne_3_2, ne_3_4, ne_3_5, ne_3_6, ne_3_7, ne_4_0, ne_4_1, ne_4_2, ne_4_3, ne_4_5, ne_4_6, ne_4_7, ne_5_0, ne_5_1, ne_5_2, ne_5_3, ne_5_4, ne_5_6, ne_5_7, ne_6_0, ne_6_1, ne_6_2, ne_6_3, ne_6_4, ne_6_5, ne_6_7, ne_7_0, ne_7_1, ne_7_2, ne_7_3, ne_7_4, ne_7_5, ne_7_6, ne_m_0, ne_0_m, ne_m_1, ne_1_m, ne_m_2, ne_2_m, ne_m_3, ne_3_m, ne_m_4, ne_4_m, ne_m_5, ne_5_m, ne_m_6, ne_6_m, ne_m_7, ne_7_m, in8_0, in8_1, in8_2, in8_3, in8_4, in8_5, in8_6, in8_7, Nat.reduceAdd]
  · unfold k4
    simp (disch := omega) only [ck_t, b1_s, b2_s, let_e, nn_s, nn_n, sI_e, sJ_e, sR_e, kB_0, kB_1, kB_2, kB_3, kB_4, kB_5, kB_6, kB_7, kB_8, kB_9, kB_10, kB_11, kB_12, kB_13, kB_14, kB_15, kB_16, kB_17, lB_1, lB_2, lB_3, lB_4, lB_5, lB_6, lB_7, lB_8, lB_9, lB_10, lB_11, lB_12, lB_13, lB_14, lB_15, lB_16, lB_17, rB_0, rB_1, rB_4, rB_5, rB_6, rB_7, rB_8, rB_9, rB_10, rB_11, rB_13, rB_14, rB_26, rB_27, rB_31, rB_33, rB_34, Int32.reduceAdd, Int32.reduceSub, Int32.reduceMul, Int32.reduceLE, Int32.reduceLT, Int32.reduceToNatClampNeg, if_true, if_false, eq_self, up_s, up_a, up_k, ne_0_1, ne_0_2, ne_0_3, ne_0_4, ne_0_5, ne_0_6, ne_0_7, ne_1_0, ne_1_2, ne_1_3, ne_1_4, ne_1_5, ne_1_6, ne_1_7, ne_2_0, ne_2_1, ne_2_3, ne_2_4, ne_2_5, ne_2_6, ne_2_7, ne_3_0, ne_3_1, ne_3_2, ne_3_4, ne_3_5, ne_3_6, ne_3_7, ne_4_0, ne_4_1, ne_4_2, ne_4_3, ne_4_5, ne_4_6, ne_4_7, ne_5_0, ne_5_1, ne_5_2, ne_5_3, ne_5_4, ne_5_6, ne_5_7, ne_6_0, ne_6_1, ne_6_2, ne_6_3, ne_6_4, ne_6_5, ne_6_7, ne_7_0, ne_7_1, ne_7_2, ne_7_3, ne_7_4, ne_7_5, ne_7_6, ne_m_0, ne_0_m, ne_m_1, ne_1_m, ne_m_2, ne_2_m, ne_m_3, ne_3_m, ne_m_4, ne_4_m, ne_m_5, ne_5_m, ne_m_6, ne_6_m, ne_m_7, ne_7_m, in8_0, in8_1, in8_2, in8_3, in8_4, in8_5, in8_6, in8_7, Nat.reduceAdd]
theorem b_begins {I : Nat → Nat → Int32} {J : Nat → Nat → Int64} {i j : Int32} {two : Bool} : ∃ I', z_X12_begins TB (I, J, rB) 0 i j (bI two) = some (I', J, rB) ∧ sF I I' ∧ I' 0 15 = bI two ∧ I' 0 17 = bI false ∧ I' 0 18 = bI (!two) ∧ I' 0 19 = bI false ∧ I' 0 20 = i ∧ I' 0 21 = j ∧ I' 0 22 = nI 0 ∧ I' 0 23 = nI 0 ∧ I' 0 24 = nI 0 := by
  have e : z_X12_begins TB (I, J, rB) 0 i j (bI two) = some (fh_up (fh_up (fh_up (fh_up (fh_up (fh_up (fh_up (fh_up (fh_up (fh_up I 0 20 i) 0 21 j) 0 15 (bI two)) 0 17 0) 0 18 (bI (!two))) 0 19 0) 0 22 0) 0 23 0) 0 24 0) 0 16 0, J, rB) := by
    unfold z_X12_begins z_X12_begins_b30
    cases two <;> rfl
  refine ⟨_, e, ?_, ?_, ?_, ?_, ?_, ?_, ?_, ?_, ?_, ?_⟩
  · exact (((((((((sF.rf.up (by decide) (by decide)).up (by decide) (by decide)).up (by decide) (by decide)).up (by decide) (by decide)).up (by decide) (by decide)).up (by decide) (by decide)).up (by decide) (by decide)).up (by decide) (by decide)).up (by decide) (by decide)).up (by decide) (by decide)
  · simp (disch := omega) only [ck_t, b1_s, b2_s, let_e, nn_s, nn_n, sI_e, sJ_e, sR_e, Int32.reduceAdd, Int32.reduceSub, Int32.reduceMul, Int32.reduceLE, Int32.reduceLT, Int32.reduceToNatClampNeg, if_true, if_false, eq_self, up_s, up_a, up_k, ne_0_1, ne_0_2, ne_0_3, ne_0_4, ne_0_5, ne_0_6, ne_0_7, ne_1_0, ne_1_2, ne_1_3, ne_1_4, ne_1_5, ne_1_6, ne_1_7, ne_2_0, ne_2_1, ne_2_3, ne_2_4, ne_2_5, ne_2_6, ne_2_7, ne_3_0, ne_3_1, ne_3_2, ne_3_4, ne_3_5, ne_3_6, ne_3_7, ne_4_0, ne_4_1, ne_4_2, ne_4_3, ne_4_5, ne_4_6, ne_4_7, ne_5_0, ne_5_1, ne_5_2, ne_5_3, ne_5_4, ne_5_6, ne_5_7, ne_6_0, ne_6_1, ne_6_2, ne_6_3, ne_6_4, ne_6_5, ne_6_7, ne_7_0, ne_7_1, ne_7_2, ne_7_3, ne_7_4, ne_7_5, ne_7_6, ne_m_0, ne_0_m, ne_m_1, ne_1_m, ne_m_2, ne_2_m, ne_m_3, ne_3_m, ne_m_4, ne_4_m, ne_m_5, ne_5_m, ne_m_6, ne_6_m, ne_m_7, ne_7_m]
  · simp (disch := omega) only [ck_t, b1_s, b2_s, let_e, nn_s, nn_n, sI_e, sJ_e, sR_e, Int32.reduceAdd, Int32.reduceSub, Int32.reduceMul, Int32.reduceLE, Int32.reduceLT, Int32.reduceToNatClampNeg, if_true, if_false, eq_self, up_s, up_a, up_k, ne_0_1, ne_0_2, ne_0_3, ne_0_4, ne_0_5, ne_0_6, ne_0_7, ne_1_0, ne_1_2, ne_1_3, ne_1_4, ne_1_5, ne_1_6, ne_1_7, ne_2_0, ne_2_1, ne_2_3, ne_2_4, ne_2_5, ne_2_6, ne_2_7, ne_3_0, ne_3_1, ne_3_2, ne_3_4, ne_3_5, ne_3_6, ne_3_7, ne_4_0, ne_4_1, ne_4_2, ne_4_3, ne_4_5, ne_4_6, ne_4_7, ne_5_0, ne_5_1, ne_5_2, ne_5_3, ne_5_4, ne_5_6, ne_5_7, ne_6_0, ne_6_1, ne_6_2, ne_6_3, ne_6_4, ne_6_5, ne_6_7, ne_7_0, ne_7_1, ne_7_2, ne_7_3, ne_7_4, ne_7_5, ne_7_6, ne_m_0, ne_0_m, ne_m_1, ne_1_m, ne_m_2, ne_2_m, ne_m_3, ne_3_m, ne_m_4, ne_4_m, ne_m_5, ne_5_m, ne_m_6, ne_6_m, ne_m_7, ne_7_m]
    rfl
  · simp (disch := omega) only [ck_t, b1_s, b2_s, let_e, nn_s, nn_n, sI_e, sJ_e, sR_e, Int32.reduceAdd, Int32.reduceSub, Int32.reduceMul, Int32.reduceLE, Int32.reduceLT, Int32.reduceToNatClampNeg, if_true, if_false, eq_self, up_s, up_a, up_k, ne_0_1, ne_0_2, ne_0_3, ne_0_4, ne_0_5, ne_0_6, ne_0_7, ne_1_0, ne_1_2, ne_1_3, ne_1_4, ne_1_5, ne_1_6, ne_1_7, ne_2_0, ne_2_1, ne_2_3, ne_2_4, ne_2_5, ne_2_6, ne_2_7, ne_3_0, ne_3_1, ne_3_2, ne_3_4, ne_3_5, ne_3_6, ne_3_7, ne_4_0, ne_4_1, ne_4_2, ne_4_3, ne_4_5, ne_4_6, ne_4_7, ne_5_0, ne_5_1, ne_5_2, ne_5_3, ne_5_4, ne_5_6, ne_5_7, ne_6_0, ne_6_1, ne_6_2, ne_6_3, ne_6_4, ne_6_5, ne_6_7, ne_7_0, ne_7_1, ne_7_2, ne_7_3, ne_7_4, ne_7_5, ne_7_6, ne_m_0, ne_0_m, ne_m_1, ne_1_m, ne_m_2, ne_2_m, ne_m_3, ne_3_m, ne_m_4, ne_4_m, ne_m_5, ne_5_m, ne_m_6, ne_6_m, ne_m_7, ne_7_m]
  · simp (disch := omega) only [ck_t, b1_s, b2_s, let_e, nn_s, nn_n, sI_e, sJ_e, sR_e, Int32.reduceAdd, Int32.reduceSub, Int32.reduceMul, Int32.reduceLE, Int32.reduceLT, Int32.reduceToNatClampNeg, if_true, if_false, eq_self, up_s, up_a, up_k, ne_0_1, ne_0_2, ne_0_3, ne_0_4, ne_0_5, ne_0_6, ne_0_7, ne_1_0, ne_1_2, ne_1_3, ne_1_4, ne_1_5, ne_1_6, ne_1_7, ne_2_0, ne_2_1, ne_2_3, ne_2_4, ne_2_5, ne_2_6, ne_2_7, ne_3_0, ne_3_1, ne_3_2, ne_3_4, ne_3_5, ne_3_6, ne_3_7, ne_4_0, ne_4_1, ne_4_2, ne_4_3, ne_4_5, ne_4_6, ne_4_7, ne_5_0, ne_5_1, ne_5_2, ne_5_3, ne_5_4, ne_5_6, ne_5_7, ne_6_0, ne_6_1, ne_6_2, ne_6_3, ne_6_4, ne_6_5, ne_6_7, ne_7_0, ne_7_1, ne_7_2, ne_7_3, ne_7_4, ne_7_5, ne_7_6, ne_m_0, ne_0_m, ne_m_1, ne_1_m, ne_m_2, ne_2_m, ne_m_3, ne_3_m, ne_m_4, ne_4_m, ne_m_5, ne_5_m, ne_m_6, ne_6_m, ne_m_7, ne_7_m]
    rfl
  · simp (disch := omega) only [ck_t, b1_s, b2_s, let_e, nn_s, nn_n, sI_e, sJ_e, sR_e, Int32.reduceAdd, Int32.reduceSub, Int32.reduceMul, Int32.reduceLE, Int32.reduceLT, Int32.reduceToNatClampNeg, if_true, if_false, eq_self, up_s, up_a, up_k, ne_0_1, ne_0_2, ne_0_3, ne_0_4, ne_0_5, ne_0_6, ne_0_7, ne_1_0, ne_1_2, ne_1_3, ne_1_4, ne_1_5, ne_1_6, ne_1_7, ne_2_0, ne_2_1, ne_2_3, ne_2_4, ne_2_5, ne_2_6, ne_2_7, ne_3_0, ne_3_1, ne_3_2, ne_3_4, ne_3_5, ne_3_6, ne_3_7, ne_4_0, ne_4_1, ne_4_2, ne_4_3, ne_4_5, ne_4_6, ne_4_7, ne_5_0, ne_5_1, ne_5_2, ne_5_3, ne_5_4, ne_5_6, ne_5_7, ne_6_0, ne_6_1, ne_6_2, ne_6_3, ne_6_4, ne_6_5, ne_6_7, ne_7_0, ne_7_1, ne_7_2, ne_7_3, ne_7_4, ne_7_5, ne_7_6, ne_m_0, ne_0_m, ne_m_1, ne_1_m, ne_m_2, ne_2_m, ne_m_3, ne_3_m, ne_m_4, ne_4_m, ne_m_5, ne_5_m, ne_m_6, ne_6_m, ne_m_7, ne_7_m]
  · simp (disch := omega) only [ck_t, b1_s, b2_s, let_e, nn_s, nn_n, sI_e, sJ_e, sR_e, Int32.reduceAdd, Int32.reduceSub, Int32.reduceMul, Int32.reduceLE, Int32.reduceLT, Int32.reduceToNatClampNeg, if_true, if_false, eq_self, up_s, up_a, up_k, ne_0_1, ne_0_2, ne_0_3, ne_0_4, ne_0_5, ne_0_6, ne_0_7, ne_1_0, ne_1_2, ne_1_3, ne_1_4, ne_1_5, ne_1_6, ne_1_7, ne_2_0, ne_2_1, ne_2_3, ne_2_4, ne_2_5, ne_2_6, ne_2_7, ne_3_0, ne_3_1, ne_3_2, ne_3_4, ne_3_5, ne_3_6, ne_3_7, ne_4_0, ne_4_1, ne_4_2, ne_4_3, ne_4_5, ne_4_6, ne_4_7, ne_5_0, ne_5_1, ne_5_2, ne_5_3, ne_5_4, ne_5_6, ne_5_7, ne_6_0, ne_6_1, ne_6_2, ne_6_3, ne_6_4, ne_6_5, ne_6_7, ne_7_0, ne_7_1, ne_7_2, ne_7_3, ne_7_4, ne_7_5, ne_7_6, ne_m_0, ne_0_m, ne_m_1, ne_1_m, ne_m_2, ne_2_m, ne_m_3, ne_3_m, ne_m_4, ne_4_m, ne_m_5, ne_5_m, ne_m_6, ne_6_m, ne_m_7, ne_7_m]
  · simp (disch := omega) only [ck_t, b1_s, b2_s, let_e, nn_s, nn_n, sI_e, sJ_e, sR_e, Int32.reduceAdd, Int32.reduceSub, Int32.reduceMul, Int32.reduceLE, Int32.reduceLT, Int32.reduceToNatClampNeg, if_true, if_false, eq_self, up_s, up_a, up_k, ne_0_1, ne_0_2, ne_0_3, ne_0_4, ne_0_5, ne_0_6, ne_0_7, ne_1_0, ne_1_2, ne_1_3, ne_1_4, ne_1_5, ne_1_6, ne_1_7, ne_2_0, ne_2_1, ne_2_3, ne_2_4, ne_2_5, ne_2_6, ne_2_7, ne_3_0, ne_3_1, ne_3_2, ne_3_4, ne_3_5, ne_3_6, ne_3_7, ne_4_0, ne_4_1, ne_4_2, ne_4_3, ne_4_5, ne_4_6, ne_4_7, ne_5_0, ne_5_1, ne_5_2, ne_5_3, ne_5_4, ne_5_6, ne_5_7, ne_6_0, ne_6_1, ne_6_2, ne_6_3, ne_6_4, ne_6_5, ne_6_7, ne_7_0, ne_7_1, ne_7_2, ne_7_3, ne_7_4, ne_7_5, ne_7_6, ne_m_0, ne_0_m, ne_m_1, ne_1_m, ne_m_2, ne_2_m, ne_m_3, ne_3_m, ne_m_4, ne_4_m, ne_m_5, ne_5_m, ne_m_6, ne_6_m, ne_m_7, ne_7_m]
    rfl
  · simp (disch := omega) only [ck_t, b1_s, b2_s, let_e, nn_s, nn_n, sI_e, sJ_e, sR_e, Int32.reduceAdd, Int32.reduceSub, Int32.reduceMul, Int32.reduceLE, Int32.reduceLT, Int32.reduceToNatClampNeg, if_true, if_false, eq_self, up_s, up_a, up_k, ne_0_1, ne_0_2, ne_0_3, ne_0_4, ne_0_5, ne_0_6, ne_0_7, ne_1_0, ne_1_2, ne_1_3, ne_1_4, ne_1_5, ne_1_6, ne_1_7, ne_2_0, ne_2_1, ne_2_3, ne_2_4, ne_2_5, ne_2_6, ne_2_7, ne_3_0, ne_3_1, ne_3_2, ne_3_4, ne_3_5, ne_3_6, ne_3_7, ne_4_0, ne_4_1, ne_4_2, ne_4_3, ne_4_5, ne_4_6, ne_4_7, ne_5_0, ne_5_1, ne_5_2, ne_5_3, ne_5_4, ne_5_6, ne_5_7, ne_6_0, ne_6_1, ne_6_2, ne_6_3, ne_6_4, ne_6_5, ne_6_7, ne_7_0, ne_7_1, ne_7_2, ne_7_3, ne_7_4, ne_7_5, ne_7_6, ne_m_0, ne_0_m, ne_m_1, ne_1_m, ne_m_2, ne_2_m, ne_m_3, ne_3_m, ne_m_4, ne_4_m, ne_m_5, ne_5_m, ne_m_6, ne_6_m, ne_m_7, ne_7_m]
    rfl
  · simp (disch := omega) only [ck_t, b1_s, b2_s, let_e, nn_s, nn_n, sI_e, sJ_e, sR_e, Int32.reduceAdd, Int32.reduceSub, Int32.reduceMul, Int32.reduceLE, Int32.reduceLT, Int32.reduceToNatClampNeg, if_true, if_false, eq_self, up_s, up_a, up_k, ne_0_1, ne_0_2, ne_0_3, ne_0_4, ne_0_5, ne_0_6, ne_0_7, ne_1_0, ne_1_2, ne_1_3, ne_1_4, ne_1_5, ne_1_6, ne_1_7, ne_2_0, ne_2_1, ne_2_3, ne_2_4, ne_2_5, ne_2_6, ne_2_7, ne_3_0, ne_3_1, ne_3_2, ne_3_4, ne_3_5, ne_3_6, ne_3_7, ne_4_0, ne_4_1, ne_4_2, ne_4_3, ne_4_5, ne_4_6, ne_4_7, ne_5_0, ne_5_1, ne_5_2, ne_5_3, ne_5_4, ne_5_6, ne_5_7, ne_6_0, ne_6_1, ne_6_2, ne_6_3, ne_6_4, ne_6_5, ne_6_7, ne_7_0, ne_7_1, ne_7_2, ne_7_3, ne_7_4, ne_7_5, ne_7_6, ne_m_0, ne_0_m, ne_m_1, ne_1_m, ne_m_2, ne_2_m, ne_m_3, ne_3_m, ne_m_4, ne_4_m, ne_m_5, ne_5_m, ne_m_6, ne_6_m, ne_m_7, ne_7_m]
    rfl
theorem b_bSingle {I : Nat → Nat → Int32} {J : Nat → Nat → Int64} {i j : Nat} {a b c d : Int32} : ∃ I' J', z_X12_beginsSingle TB (I, J, rB) 0 (nI i) a b c d = some (I', J', rB) ∧ sF I I' ∧ rkB I' J' false i j (s0 a b c d) := by
  obtain ⟨I', e, hF, h15, h17, h18, h19, h20, h21, h22, h23, h24⟩ := b_begins (I := I) (J := J) (i := nI i) (j := nI i) (two := false)
  obtain ⟨J', e2, k0, k1⟩ := b_numbers (I := I') (J := J) (a := a) (b := b) (c := 0) (d := 0) (e := c) (f := d) (g := 0) (h := 0)
  refine ⟨I', J', ?_, hF, ⟨k0, k1, h15, h17, h18, fun _ => h19, h20, (fun h => by cases h), h22, h23, h24⟩⟩
  unfold z_X12_beginsSingle
  rw [show (0 : Int32) = bI false from rfl, e, b1_s, show bI false = (0 : Int32) from rfl, e2, b1_s]
theorem b_bDouble {I : Nat → Nat → Int32} {J : Nat → Nat → Int64} {i j : Nat} {how : Int32} : ∃ I' J', z_X12_beginsDouble TB (I, J, rB) 0 how (nI i) (nI j) = some (I', J', rB) ∧ sF I I' ∧ rkB I' J' true i j (d0 how) := by
  obtain ⟨I', e, hF, h15, h17, h18, h19, h20, h21, h22, h23, h24⟩ := b_begins (I := I) (J := J) (i := nI i) (j := nI j) (two := true)
  unfold z_X12_beginsDouble d0
  rw [show z_X12_begins TB (I, J, rB) 0 (nI i) (nI j) 1 = some (I', J, rB) from e, b1_s]
  by_cases c0 : how = 0
  · rw [if_pos c0, if_pos c0]
    obtain ⟨J', e2, k0, k1⟩ := b_numbers (I := I') (J := J) (a := 0) (b := 1) (c := 1) (d := 0) (e := 0) (f := 0) (g := 0) (h := 1)
    rw [e2, b1_s]
    exact ⟨I', J', rfl, hF, ⟨k0, k1, h15, h17, h18, fun _ => h19, h20, fun _ => h21, h22, h23, h24⟩⟩
  rw [if_neg c0, if_neg c0]
  by_cases c1 : how = 1
  · rw [if_pos c1, if_pos c1]
    obtain ⟨J', e2, k0, k1⟩ := b_numbers (I := I') (J := J) (a := 0) (b := 1) (c := -1) (d := 0) (e := 0) (f := 0) (g := 0) (h := 1)
    rw [e2, b1_s]
    exact ⟨I', J', rfl, hF, ⟨k0, k1, h15, h17, h18, fun _ => h19, h20, fun _ => h21, h22, h23, h24⟩⟩
  rw [if_neg c1, if_neg c1]
  by_cases c2 : how = 2
  · rw [if_pos c2, if_pos c2]
    obtain ⟨J', e2, k0, k1⟩ := b_numbers (I := I') (J := J) (a := 1) (b := 0) (c := 0) (d := 0) (e := 0) (f := 0) (g := 0) (h := 1)
    rw [e2, b1_s]
    exact ⟨I', J', rfl, hF, ⟨k0, k1, h15, h17, h18, fun _ => h19, h20, fun _ => h21, h22, h23, h24⟩⟩
  rw [if_neg c2, if_neg c2]
  obtain ⟨J', e2, k0, k1⟩ := b_numbers (I := I') (J := J) (a := 0) (b := 1) (c := 0) (d := 0) (e := 0) (f := 0) (g := 1) (h := 0)
  rw [e2, b1_s]
  exact ⟨I', J', rfl, hF, ⟨k0, k1, h15, h17, h18, fun _ => h19, h20, fun _ => h21, h22, h23, h24⟩⟩
def outB (I : Nat → Nat → Int32) (r : Nat) (l : List rT) : Prop := I 4 r = nI l.length ∧ lst (I 3) (60 * r) (l.map (fun t => t.1)) ∧ lst (I 7) (60 * r) (l.map (fun t => t.2.1)) ∧ lst (I 8) (60 * r) (l.map (fun t => t.2.2))
def rowB3 (I : Nat → Nat → Int32) (r : Nat) (D : List rT × Int32 × Int32) : Prop := outB I r D.1 ∧ I 5 r = D.2.1 ∧ I 6 r = D.2.2
theorem outB_s {I I' : Nat → Nat → Int32} {r : Nat} {l : List rT} (hF : sF I I') (h : outB I r l) : outB I' r l := by
  obtain ⟨h1, h2, h3, h4⟩ := h
  exact ⟨by rw [hF 4 r (fun q => by omega)]; exact h1, lst_cong h2 (fun j _ _ => hF 3 j (fun q => by omega)), lst_cong h3 (fun j _ _ => hF 7 j (fun q => by omega)), lst_cong h4 (fun j _ _ => hF 8 j (fun q => by omega))⟩
theorem rkB_I {I I' : Nat → Nat → Int32} {J : Nat → Nat → Int64} {two : Bool} {i j : Nat} {σ : rS} (h : rkB I J two i j σ) (e : ∀ k, I' 0 k = I 0 k) : rkB I' J two i j σ := by
  unfold rkB at h ⊢
  simp only [e]
  exact h
theorem srcB_b {I I' : Nat → Nat → Int32} {i r : Nat} {X : List Int32 × Int32} (hF : bF r I I') (hi : i ≠ r) (h : srcB I i X) : srcB I' i X := by
  obtain ⟨h10, ⟨h4, hl, h5⟩, hn⟩ := h
  refine ⟨h10, ⟨?_, lst_cong hl (fun j j1 j2 => hF 3 j ?_), ?_⟩, hn⟩
  · rw [hF 4 i (by unfold bS; omega)]; exact h4
  · unfold bS; omega
  · rw [hF 5 i (by unfold bS; omega)]; exact h5
theorem outB_add {I : Nat → Nat → Int32} {r : Nat} {l : List rT} {v x y : Int32} (h : outB I r l) : outB (fh_up (fh_up (fh_up (fh_up I 7 (60 * r + l.length) x) 8 (60 * r + l.length) y) 3 (60 * r + l.length) v) 4 r (nI (l.length + 1))) r (l ++ [(v, x, y)]) := by
  obtain ⟨h1, h2, h3, h4⟩ := h
  refine ⟨?_, ?_, ?_, ?_⟩
  · simp (disch := omega) only [up_s, List.length_append, List.length_singleton]
  · rw [List.map_append]
    refine lst_snoc (lst_cong h2 (fun j j1 j2 => ?_)) ?_
    · rw [List.length_map] at j2
      simp (disch := omega) only [up_a, up_k]
    · rw [List.length_map]
      simp (disch := omega) only [up_a, up_s]
  · rw [List.map_append]
    refine lst_snoc (lst_cong h3 (fun j j1 j2 => ?_)) ?_
    · rw [List.length_map] at j2
      simp (disch := omega) only [up_a, up_k]
    · rw [List.length_map]
      simp (disch := omega) only [up_a, up_s]
  · rw [List.map_append]
    refine lst_snoc (lst_cong h4 (fun j j1 j2 => ?_)) ?_
    · rw [List.length_map] at j2
      simp (disch := omega) only [up_a, up_k]
    · rw [List.length_map]
      simp (disch := omega) only [up_a, up_s]
theorem b_156 {I : Nat → Nat → Int32} {J : Nat → Nat → Int64} {r x y : Nat} {c : Int32} {out : List rT} (hr : r < 10) (hout : outB I r out) (h5 : I 5 r = c) (i22 : I 0 22 = nI x) (i23 : I 0 23 = nI y) : ∃ I', z_X12_layMade_b156 TB 0 (I, J, rB) (nI r) = some (I', J, rB) ∧ bF r I I' ∧ rowB3 I' r (out, c, nI (x + y)) := by
  refine ⟨fh_up I 6 r (nI (x + y)), ?_, bF.rf.up (bS_6 r), ⟨⟨?_, ?_, ?_, ?_⟩, ?_, up_s _ _ _ _⟩⟩
  · unfold z_X12_layMade_b156
    simp (disch := omega) only [ck_t, b1_s, b2_s, let_e, nn_s, nn_n, sI_e, sJ_e, sR_e, kB_0, kB_1, kB_2, kB_3, kB_4, kB_5, kB_6, kB_7, kB_8, kB_9, kB_10, kB_11, kB_12, kB_13, kB_14, kB_15, kB_16, kB_17, lB_1, lB_2, lB_3, lB_4, lB_5, lB_6, lB_7, lB_8, lB_9, lB_10, lB_11, lB_12, lB_13, lB_14, lB_15, lB_16, lB_17, rB_0, rB_1, rB_4, rB_5, rB_6, rB_7, rB_8, rB_9, rB_10, rB_11, rB_13, rB_14, rB_26, rB_27, rB_31, rB_33, rB_34, Int32.reduceAdd, Int32.reduceSub, Int32.reduceMul, Int32.reduceLE, Int32.reduceLT, Int32.reduceToNatClampNeg, if_true, if_false, eq_self, up_s, up_a, up_k, ne_0_1, ne_0_2, ne_0_3, ne_0_4, ne_0_5, ne_0_6, ne_0_7, ne_1_0, ne_1_2, ne_1_3, ne_1_4, ne_1_5, ne_1_6, ne_1_7, ne_2_0, ne_2_1, ne_2_3, ne_2_4, ne_2_5, ne_2_6, ne_2_7, ne_3_0, ne_3_1, ne_3_2, ne_3_4, ne_3_5, ne_3_6, ne_3_7, ne_4_0, ne_4_1, ne_4_2, ne_4_3, ne_4_5, ne_4_6, ne_4_7, ne_5_0, ne_5_1, ne_5_2, ne_5_3, ne_5_4, ne_5_6, ne_5_7, ne_6_0, ne_6_1, ne_6_2, ne_6_3, ne_6_4, ne_6_5, ne_6_7, ne_7_0, ne_7_1, ne_7_2, ne_7_3, ne_7_4, ne_7_5, ne_7_6, ne_m_0, ne_0_m, ne_m_1, ne_1_m, ne_m_2, ne_2_m, ne_m_3, ne_3_m, ne_m_4, ne_4_m, ne_m_5, ne_5_m, ne_m_6, ne_6_m, ne_m_7, ne_7_m, in8_0, in8_1, in8_2, in8_3, in8_4, in8_5, in8_6, in8_7, in_n, nI_clamp, i22, i23, nI_add]
  · rw [up_a _ _ _ _ (by decide)]; exact hout.1
  · exact lst_cong hout.2.1 (fun j _ _ => up_a _ _ _ _ (by decide))
  · exact lst_cong hout.2.2.1 (fun j _ _ => up_a _ _ _ _ (by decide))
  · exact lst_cong hout.2.2.2 (fun j _ _ => up_a _ _ _ _ (by decide))
  · rw [up_a _ _ _ _ (by decide)]; exact h5
theorem b_gg {h : fh_H} : z_X12_goesToNext TB h 0 = z_X12_goesToNext_b0 TB 0 (20000 + 1) h := by
  rw [z_X12_goesToNext_b0, z_X12_goesToNext]
theorem b_goes2 {two : Bool} {X Y : List Int32 × Int32} {i j most n : Nat} {I : Nat → Nat → Int32} {J : Nat → Nat → Int64} {σ : rS} {out : List rT} (hn : rmu two X Y σ + (most - out.length) + 1 ≤ n) (hlt : out.length < most) (h : rkB I J two i j σ) (ok : rOK two X Y σ) (hX : srcB I i X) (hY : two = true → srcB I j Y) :
    ∃ I' J' c, z_X12_goesToNext TB (I, J, rB) 0 = some (c, (I', J', rB)) ∧ sF I I' ∧ ((c = -1 ∧ ∃ (t : rS) (q : Int64) (n' : Nat), al X Y most n σ out = al X Y most n' t (out ++ [(q.toInt32, nI t.2.2.1, nI t.2.2.2.1)]) ∧ J' 0 25 = q ∧ rkB I' J' two i j t ∧ rOK two X Y t ∧ rmu two X Y t + (most - (out.length + 1)) + 1 ≤ n' ∧ rmu two X Y t ≤ rmu two X Y σ) ∨ (¬ c = -1 ∧ ∃ x y : Nat, al X Y most n σ out = (out, c, nI (x + y)) ∧ I' 0 22 = nI x ∧ I' 0 23 = nI y)) := by
  have hmu := rmu_le (two := two) (X := X) (Y := Y) (σ := σ) hX.2.2 (fun t => (hY t).2.2)
  have := b_goes (most := most) n (20000 + 1) I J σ out hn (by omega) hlt h ok hX hY
  rw [← b_gg] at this
  exact this
theorem bS_7 {r j : Nat} (h : j < 60) : bS r 7 (60 * r + j) := Or.inl ⟨Or.inr (Or.inl rfl), by omega, by omega⟩
theorem bS_8 {r j : Nat} (h : j < 60) : bS r 8 (60 * r + j) := Or.inl ⟨Or.inr (Or.inr rfl), by omega, by omega⟩
theorem b_lay79 {two : Bool} {X Y : List Int32 × Int32} {i j r : Nat} (hr : r < 10) (hir : i ≠ r) (hjr : two = true → j ≠ r) : ∀ (m fuel n : Nat) (I : Nat → Nat → Int32) (J : Nat → Nat → Int64) (σ : rS) (out : List rT), m < fuel → out.length + m = 60 → rmu two X Y σ + m + 1 ≤ n → rkB I J two i j σ → rOK two X Y σ → srcB I i X → (two = true → srcB I j Y) → outB I r out → I 5 r = 0 →
    ∃ I' J', z_X12_layMade_b79 TB 0 fuel (I, J, rB) (nI r) (if m = 0 then 0 else 1) = some (I', J', rB) ∧ bF r I I' ∧ rowB3 I' r (al X Y 60 n σ out) := by
  intro m
  induction m with
  | zero =>
    intro fuel n I J σ out hf hm hn h ok hX hY hout h5
    obtain ⟨f, rfl⟩ : ∃ f, fuel = f + 1 := ⟨fuel - 1, by omega⟩
    obtain ⟨n, rfl⟩ : ∃ n', n = n' + 1 := ⟨n - 1, by omega⟩
    obtain ⟨A, B, x, y, s, e1, e2, tk⟩ := σ
    obtain ⟨mA, mBB, i15, i17, i18, i19, i20, i21, i22, i23, i24⟩ := h
    obtain ⟨I', e, hF, hrow⟩ := b_156 (J := J) hr hout h5 i22 i23
    refine ⟨I', J, ?_, hF, ?_⟩
    · rw [z_X12_layMade_b79, if_pos rfl, if_pos rfl]; exact e
    · rw [al, if_pos (by omega)]; exact hrow
  | succ m ih =>
    intro fuel n I J σ out hf hm hn h ok hX hY hout h5
    obtain ⟨f, rfl⟩ : ∃ f, fuel = f + 1 := ⟨fuel - 1, by omega⟩
    obtain ⟨I1, J1, c, e, hF, hr1⟩ := b_goes2 (most := 60) (n := n) (out := out) (by omega) (by omega) h ok hX hY
    rw [z_X12_layMade_b79, if_neg (show ¬ m + 1 = 0 by omega), if_neg (show ¬ (1 : Int32) = 0 by decide), e, b2_s]
    have hout1 := outB_s hF hout
    have h51 : I1 5 r = 0 := by rw [hF 5 r (fun q => by omega)]; exact h5
    rcases hr1 with ⟨rfl, t, q, n', a1, a2, a3, a4, a5, a6⟩ | ⟨hc, x, y, a1, a2, a3⟩
    · rw [if_pos rfl]
      have i22 : I1 0 22 = nI t.2.2.1 := a3.2.2.2.2.2.2.2.2.1
      have i23 : I1 0 23 = nI t.2.2.2.1 := a3.2.2.2.2.2.2.2.2.2.1
      have hm4 := hout1.1
      have hl60 : out.length < 60 := by omega
      have hF2 : bF r I1 (fh_up (fh_up (fh_up (fh_up I1 7 (60 * r + out.length) (nI t.2.2.1)) 8 (60 * r + out.length) (nI t.2.2.2.1)) 3 (60 * r + out.length) q.toInt32) 4 r (nI (out.length + 1))) := (((bF.rf.up (bS_7 hl60)).up (bS_8 hl60)).up (bS_3 hl60)).up (bS_4 r)
      obtain ⟨I2, J2, e2, hF3, hrow⟩ := ih f n' (fh_up (fh_up (fh_up (fh_up I1 7 (60 * r + out.length) (nI t.2.2.1)) 8 (60 * r + out.length) (nI t.2.2.2.1)) 3 (60 * r + out.length) q.toInt32) 4 r (nI (out.length + 1))) J1 t (out ++ [(q.toInt32, nI t.2.2.1, nI t.2.2.2.1)]) (by omega) (by rw [List.length_append, List.length_singleton]; omega) (by omega) (rkB_I a3 (fun k => by simp (disch := omega) only [up_a])) a4 (srcB_b hF2 hir (srcB_s hF hX)) (fun t => srcB_b hF2 (hjr t) (srcB_s hF (hY t))) (outB_add hout1) (by simp (disch := omega) only [up_a]; exact h51)
      refine ⟨I2, J2, ?_, ((hF.b r).trans hF2).trans hF3, by rw [a1]; exact hrow⟩
      rw [← e2]
      have hk := b_knows (I := fh_up (fh_up I1 7 (60 * r + out.length) (nI t.2.2.1)) 8 (60 * r + out.length) (nI t.2.2.2.1)) (J := J1) hr hl60 (by simp (disch := omega) only [up_a]; exact hm4) q
      have hif : (if out.length + 1 < 60 then (1 : Int32) else 0) = if m = 0 then 0 else 1 := by
        by_cases h : m = 0
        · rw [if_pos h, if_neg (by omega)]
        · rw [if_neg h, if_pos (by omega)]
      rw [hif] at hk
      have e60 : (60 : Int32) * nI r + nI out.length = nI (60 * r + out.length) := by rw [show (60 : Int32) = nI 60 from rfl, nI_mul, nI_add]
      simp (disch := omega) only [ck_N, b1_N, b2_N, let_N, nn_Ns, nn_Nn, sI_N, sJ_N, sR_N, kB_N0, kB_N1, kB_N2, kB_N3, kB_N4, kB_N5, kB_N6, kB_N7, kB_N8, kB_N9, kB_N10, kB_N11, kB_N12, kB_N13, kB_N14, kB_N15, kB_N16, kB_N17, lB_N1, lB_N2, lB_N3, lB_N4, lB_N5, lB_N6, lB_N7, lB_N8, lB_N9, lB_N10, lB_N11, lB_N12, lB_N13, lB_N14, lB_N15, lB_N16, lB_N17, rB_N0, rB_N1, rB_N4, rB_N5, rB_N6, rB_N7, rB_N8, rB_N9, rB_N10, rB_N11, rB_N13, rB_N14, rB_N26, rB_N27, rB_N31, rB_N33, rB_N34, Int32.reduceAdd, Int32.reduceSub, Int32.reduceMul, Int32.reduceLE, Int32.reduceLT, Int32.reduceToNatClampNeg, if_true, if_false, eq_self, up_s, up_a, up_k, ne_0_1, ne_0_2, ne_0_3, ne_0_4, ne_0_5, ne_0_6, ne_0_7, ne_1_0, ne_1_2, ne_1_3, ne_1_4, ne_1_5, ne_1_6, ne_1_7, ne_2_0, ne_2_1, ne_2_3, ne_2_4, ne_2_5, ne_2_6, ne_2_7, ne_3_0, ne_3_1, ne_3_2, ne_3_4, ne_3_5, ne_3_6, ne_3_7, ne_4_0, ne_4_1, ne_4_2, ne_4_3, ne_4_5, ne_4_6, ne_4_7, ne_5_0, ne_5_1, ne_5_2, ne_5_3, ne_5_4, ne_5_6, ne_5_7, ne_6_0, ne_6_1, ne_6_2, ne_6_3, ne_6_4, ne_6_5, ne_6_7, ne_7_0, ne_7_1, ne_7_2, ne_7_3, ne_7_4, ne_7_5, ne_7_6, ne_m_0, ne_0_m, ne_m_1, ne_1_m, ne_m_2, ne_2_m, ne_m_3, ne_3_m, ne_m_4, ne_4_m, ne_m_5, ne_5_m, ne_m_6, ne_6_m, ne_m_7, ne_7_m, in8_0, in8_1, in8_2, in8_3, in8_4, in8_5, in8_6, in8_7, in_n, nI_clamp, hm4, e60, i22, i23, a2, hk]
    · rw [if_neg hc]
      obtain ⟨I', e2, hF2, hrow⟩ := b_156 (I := fh_up I1 5 r c) (J := J1) (c := c) (x := x) (y := y) (out := out) hr ⟨by rw [up_a _ _ _ _ (by decide)]; exact hout1.1, lst_cong hout1.2.1 (fun j _ _ => up_a _ _ _ _ (by decide)), lst_cong hout1.2.2.1 (fun j _ _ => up_a _ _ _ _ (by decide)), lst_cong hout1.2.2.2 (fun j _ _ => up_a _ _ _ _ (by decide))⟩ (up_s _ _ _ _) (by rw [up_a _ _ _ _ (by decide)]; exact a2) (by rw [up_a _ _ _ _ (by decide)]; exact a3)
      refine ⟨I', J1, ?_, ((hF.b r).trans (bF.rf.up (bS_5 r))).trans hF2, by rw [a1]; exact hrow⟩
      simp (disch := omega) only [ck_N, b1_N, b2_N, let_N, nn_Ns, nn_Nn, sI_N, sJ_N, sR_N, kB_N0, kB_N1, kB_N2, kB_N3, kB_N4, kB_N5, kB_N6, kB_N7, kB_N8, kB_N9, kB_N10, kB_N11, kB_N12, kB_N13, kB_N14, kB_N15, kB_N16, kB_N17, lB_N1, lB_N2, lB_N3, lB_N4, lB_N5, lB_N6, lB_N7, lB_N8, lB_N9, lB_N10, lB_N11, lB_N12, lB_N13, lB_N14, lB_N15, lB_N16, lB_N17, rB_N0, rB_N1, rB_N4, rB_N5, rB_N6, rB_N7, rB_N8, rB_N9, rB_N10, rB_N11, rB_N13, rB_N14, rB_N26, rB_N27, rB_N31, rB_N33, rB_N34, Int32.reduceAdd, Int32.reduceSub, Int32.reduceMul, Int32.reduceLE, Int32.reduceLT, Int32.reduceToNatClampNeg, if_true, if_false, eq_self, up_s, up_a, up_k, ne_0_1, ne_0_2, ne_0_3, ne_0_4, ne_0_5, ne_0_6, ne_0_7, ne_1_0, ne_1_2, ne_1_3, ne_1_4, ne_1_5, ne_1_6, ne_1_7, ne_2_0, ne_2_1, ne_2_3, ne_2_4, ne_2_5, ne_2_6, ne_2_7, ne_3_0, ne_3_1, ne_3_2, ne_3_4, ne_3_5, ne_3_6, ne_3_7, ne_4_0, ne_4_1, ne_4_2, ne_4_3, ne_4_5, ne_4_6, ne_4_7, ne_5_0, ne_5_1, ne_5_2, ne_5_3, ne_5_4, ne_5_6, ne_5_7, ne_6_0, ne_6_1, ne_6_2, ne_6_3, ne_6_4, ne_6_5, ne_6_7, ne_7_0, ne_7_1, ne_7_2, ne_7_3, ne_7_4, ne_7_5, ne_7_6, ne_m_0, ne_0_m, ne_m_1, ne_1_m, ne_m_2, ne_2_m, ne_m_3, ne_3_m, ne_m_4, ne_4_m, ne_m_5, ne_5_m, ne_m_6, ne_6_m, ne_m_7, ne_7_m, in8_0, in8_1, in8_2, in8_3, in8_4, in8_5, in8_6, in8_7, in_n, nI_clamp, e2]
