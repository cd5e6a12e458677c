/-! root rows of the class -/
theorem ne_0_1 : ((0 : Int32) = 1) = False := eq_false (by decide)
theorem ne_0_2 : ((0 : Int32) = 2) = False := eq_false (by decide)
theorem ne_0_3 : ((0 : Int32) = 3) = False := eq_false (by decide)
theorem ne_0_4 : ((0 : Int32) = 4) = False := eq_false (by decide)
theorem ne_0_5 : ((0 : Int32) = 5) = False := eq_false (by decide)
theorem ne_0_6 : ((0 : Int32) = 6) = False := eq_false (by decide)
theorem ne_0_7 : ((0 : Int32) = 7) = False := eq_false (by decide)
theorem ne_1_0 : ((1 : Int32) = 0) = False := eq_false (by decide)
theorem ne_1_2 : ((1 : Int32) = 2) = False := eq_false (by decide)
theorem ne_1_3 : ((1 : Int32) = 3) = False := eq_false (by decide)
theorem ne_1_4 : ((1 : Int32) = 4) = False := eq_false (by decide)
theorem ne_1_5 : ((1 : Int32) = 5) = False := eq_false (by decide)
theorem ne_1_6 : ((1 : Int32) = 6) = False := eq_false (by decide)
theorem ne_1_7 : ((1 : Int32) = 7) = False := eq_false (by decide)
theorem ne_2_0 : ((2 : Int32) = 0) = False := eq_false (by decide)
theorem ne_2_1 : ((2 : Int32) = 1) = False := eq_false (by decide)
theorem ne_2_3 : ((2 : Int32) = 3) = False := eq_false (by decide)
theorem ne_2_4 : ((2 : Int32) = 4) = False := eq_false (by decide)
theorem ne_2_5 : ((2 : Int32) = 5) = False := eq_false (by decide)
theorem ne_2_6 : ((2 : Int32) = 6) = False := eq_false (by decide)
theorem ne_2_7 : ((2 : Int32) = 7) = False := eq_false (by decide)
theorem ne_3_0 : ((3 : Int32) = 0) = False := eq_false (by decide)
theorem ne_3_1 : ((3 : Int32) = 1) = False := eq_false (by decide)
theorem ne_3_2 : ((3 : Int32) = 2) = False := eq_false (by decide)
theorem ne_3_4 : ((3 : Int32) = 4) = False := eq_false (by decide)
theorem ne_3_5 : ((3 : Int32) = 5) = False := eq_false (by decide)
theorem ne_3_6 : ((3 : Int32) = 6) = False := eq_false (by decide)
theorem ne_3_7 : ((3 : Int32) = 7) = False := eq_false (by decide)
theorem ne_4_0 : ((4 : Int32) = 0) = False := eq_false (by decide)
theorem ne_4_1 : ((4 : Int32) = 1) = False := eq_false (by decide)
theorem ne_4_2 : ((4 : Int32) = 2) = False := eq_false (by decide)
theorem ne_4_3 : ((4 : Int32) = 3) = False := eq_false (by decide)
theorem ne_4_5 : ((4 : Int32) = 5) = False := eq_false (by decide)
theorem ne_4_6 : ((4 : Int32) = 6) = False := eq_false (by decide)
theorem ne_4_7 : ((4 : Int32) = 7) = False := eq_false (by decide)
theorem ne_5_0 : ((5 : Int32) = 0) = False := eq_false (by decide)
theorem ne_5_1 : ((5 : Int32) = 1) = False := eq_false (by decide)
theorem ne_5_2 : ((5 : Int32) = 2) = False := eq_false (by decide)
theorem ne_5_3 : ((5 : Int32) = 3) = False := eq_false (by decide)
theorem ne_5_4 : ((5 : Int32) = 4) = False := eq_false (by decide)
theorem ne_5_6 : ((5 : Int32) = 6) = False := eq_false (by decide)
theorem ne_5_7 : ((5 : Int32) = 7) = False := eq_false (by decide)
theorem ne_6_0 : ((6 : Int32) = 0) = False := eq_false (by decide)
theorem ne_6_1 : ((6 : Int32) = 1) = False := eq_false (by decide)
theorem ne_6_2 : ((6 : Int32) = 2) = False := eq_false (by decide)
theorem ne_6_3 : ((6 : Int32) = 3) = False := eq_false (by decide)
theorem ne_6_4 : ((6 : Int32) = 4) = False := eq_false (by decide)
theorem ne_6_5 : ((6 : Int32) = 5) = False := eq_false (by decide)
theorem ne_6_7 : ((6 : Int32) = 7) = False := eq_false (by decide)
theorem ne_7_0 : ((7 : Int32) = 0) = False := eq_false (by decide)
theorem ne_7_1 : ((7 : Int32) = 1) = False := eq_false (by decide)
theorem ne_7_2 : ((7 : Int32) = 2) = False := eq_false (by decide)
theorem ne_7_3 : ((7 : Int32) = 3) = False := eq_false (by decide)
theorem ne_7_4 : ((7 : Int32) = 4) = False := eq_false (by decide)
theorem ne_7_5 : ((7 : Int32) = 5) = False := eq_false (by decide)
theorem ne_7_6 : ((7 : Int32) = 6) = False := eq_false (by decide)
theorem ne_m_0 : ((-1 : Int32) = 0) = False := eq_false (by decide)
theorem ne_0_m : ((0 : Int32) = -1) = False := eq_false (by decide)
theorem ne_m_1 : ((-1 : Int32) = 1) = False := eq_false (by decide)
theorem ne_1_m : ((1 : Int32) = -1) = False := eq_false (by decide)
theorem ne_m_2 : ((-1 : Int32) = 2) = False := eq_false (by decide)
theorem ne_2_m : ((2 : Int32) = -1) = False := eq_false (by decide)
theorem ne_m_3 : ((-1 : Int32) = 3) = False := eq_false (by decide)
theorem ne_3_m : ((3 : Int32) = -1) = False := eq_false (by decide)
theorem ne_m_4 : ((-1 : Int32) = 4) = False := eq_false (by decide)
theorem ne_4_m : ((4 : Int32) = -1) = False := eq_false (by decide)
theorem ne_m_5 : ((-1 : Int32) = 5) = False := eq_false (by decide)
theorem ne_5_m : ((5 : Int32) = -1) = False := eq_false (by decide)
theorem ne_m_6 : ((-1 : Int32) = 6) = False := eq_false (by decide)
theorem ne_6_m : ((6 : Int32) = -1) = False := eq_false (by decide)
theorem ne_m_7 : ((-1 : Int32) = 7) = False := eq_false (by decide)
theorem ne_7_m : ((7 : Int32) = -1) = False := eq_false (by decide)
def surdA (J : Nat → Nat → Int64) (p d q : Int64) (k : Nat) : Prop := J 46 0 = (rst p d q k).1 ∧ J 46 1 = (rsc p d q).2.1 ∧ J 46 2 = (rst p d q k).2 ∧ J 46 3 = wr (rsc p d q).2.1
theorem a_start {I : Nat → Nat → Int32} {J : Nat → Nat → Int64} {R : Nat → Nat → Option Nat} {p d q : Int32} (ok : okR p d q) (hn : ¬ sqq d.toInt64) : ∃ J', z_X9_start SA (I, J, R) 46 p.toInt64 d.toInt64 q.toInt64 = some (I, J', R) ∧ surdA J' p.toInt64 d.toInt64 q.toInt64 0 := by
  obtain ⟨D, e1, e2, -⟩ := rst_ok ok hn
  have e3 := a_wr e2
  rw [← e1] at e3
  have hq0 := okR_q ok
  unfold z_X9_start surdA rst ssq
  simp (disch := omega) only [ck_t, b1_s, b2_s, let_e, nn_s, nn_n, sI_e, sJ_e, sR_e, in_n, nI_clamp, lit, nI_mul, nI_add, nI_leI, nI_ltI, nI_eq, up_s, up_a, up_k]
  rw [if_neg hq0, show decide (¬ q.toInt64 = 0) = true from decide_eq_true hq0, ck_t]
  unfold rsc at e3 ⊢
  split
  · rename_i hc
    rw [if_pos hc] at e3
    dsimp only at e3 ⊢
    rw [e3, b1_s]
    exact ⟨_, rfl, by simp (disch := omega) only [ck_t, b1_s, b2_s, let_e, nn_s, nn_n, sI_e, sJ_e, sR_e, in_n, nI_clamp, lit, nI_mul, nI_add, nI_leI, nI_ltI, nI_eq, up_s, up_a, up_k], by simp (disch := omega) only [ck_t, b1_s, b2_s, let_e, nn_s, nn_n, sI_e, sJ_e, sR_e, in_n, nI_clamp, lit, nI_mul, nI_add, nI_leI, nI_ltI, nI_eq, up_s, up_a, up_k], by simp (disch := omega) only [ck_t, b1_s, b2_s, let_e, nn_s, nn_n, sI_e, sJ_e, sR_e, in_n, nI_clamp, lit, nI_mul, nI_add, nI_leI, nI_ltI, nI_eq, up_s, up_a, up_k], by simp (disch := omega) only [ck_t, b1_s, b2_s, let_e, nn_s, nn_n, sI_e, sJ_e, sR_e, in_n, nI_clamp, lit, nI_mul, nI_add, nI_leI, nI_ltI, nI_eq, up_s, up_a, up_k]⟩
  · rename_i hc
    rw [if_neg hc] at e3
    dsimp only at e3 ⊢
    rw [abs_s]
    simp (disch := omega) only [ck_t, b1_s, b2_s, let_e, nn_s, nn_n, sI_e, sJ_e, sR_e, in_n, nI_clamp, lit, nI_mul, nI_add, nI_leI, nI_ltI, nI_eq, up_s, up_a, up_k]
    rw [e3, b1_s]
    exact ⟨_, rfl, by simp (disch := omega) only [ck_t, b1_s, b2_s, let_e, nn_s, nn_n, sI_e, sJ_e, sR_e, in_n, nI_clamp, lit, nI_mul, nI_add, nI_leI, nI_ltI, nI_eq, up_s, up_a, up_k], by simp (disch := omega) only [ck_t, b1_s, b2_s, let_e, nn_s, nn_n, sI_e, sJ_e, sR_e, in_n, nI_clamp, lit, nI_mul, nI_add, nI_leI, nI_ltI, nI_eq, up_s, up_a, up_k], by simp (disch := omega) only [ck_t, b1_s, b2_s, let_e, nn_s, nn_n, sI_e, sJ_e, sR_e, in_n, nI_clamp, lit, nI_mul, nI_add, nI_leI, nI_ltI, nI_eq, up_s, up_a, up_k], by simp (disch := omega) only [ck_t, b1_s, b2_s, let_e, nn_s, nn_n, sI_e, sJ_e, sR_e, in_n, nI_clamp, lit, nI_mul, nI_add, nI_leI, nI_ltI, nI_eq, up_s, up_a, up_k]⟩
theorem a_whole {I : Nat → Nat → Int32} {J : Nat → Nat → Int64} {R : Nat → Nat → Option Nat} {p d q : Int64} {k : Nat} (h : surdA J p d q k) (hq : ¬ (rst p d q k).2 = 0) : z_X9_whole SA (I, J, R) 46 = some (rtv p d q k) := by
  obtain ⟨h0, h1, h2, h3⟩ := h
  unfold z_X9_whole rtv sfo
  simp only [h0, h1, h2, h3, if_neg hq, fd_z hq, b1_s]
  split <;> rfl
theorem a_leave {I : Nat → Nat → Int32} {J : Nat → Nat → Int64} {R : Nat → Nat → Option Nat} {p d q : Int64} {k : Nat} (h : surdA J p d q k) (hq : ¬ (rst p d q k).2 = 0) : ∃ J', z_X9_leave SA (I, J, R) 46 (rtv p d q k) = some (I, J', R) ∧ surdA J' p d q (k + 1) := by
  obtain ⟨h0, h1, h2, h3⟩ := h
  refine ⟨fh_up (fh_up J 46 0 (rst p d q (k + 1)).1) 46 2 (rst p d q (k + 1)).2, ?_, ?_, ?_, ?_, ?_⟩
  · unfold z_X9_leave
    simp (disch := omega) only [ck_t, b1_s, b2_s, let_e, nn_s, nn_n, sI_e, sJ_e, sR_e, in_n, nI_clamp, lit, nI_mul, nI_add, nI_leI, nI_ltI, nI_eq, up_s, up_a, up_k, h0, h1, h2, h3, if_neg hq, decide_eq_true hq]
    rfl
  · simp (disch := omega) only [ck_t, b1_s, b2_s, let_e, nn_s, nn_n, sI_e, sJ_e, sR_e, in_n, nI_clamp, lit, nI_mul, nI_add, nI_leI, nI_ltI, nI_eq, up_s, up_a, up_k]
  · simp (disch := omega) only [ck_t, b1_s, b2_s, let_e, nn_s, nn_n, sI_e, sJ_e, sR_e, in_n, nI_clamp, lit, nI_mul, nI_add, nI_leI, nI_ltI, nI_eq, up_s, up_a, up_k, h1]
  · simp (disch := omega) only [ck_t, b1_s, b2_s, let_e, nn_s, nn_n, sI_e, sJ_e, sR_e, in_n, nI_clamp, lit, nI_mul, nI_add, nI_leI, nI_ltI, nI_eq, up_s, up_a, up_k]
  · simp (disch := omega) only [ck_t, b1_s, b2_s, let_e, nn_s, nn_n, sI_e, sJ_e, sR_e, in_n, nI_clamp, lit, nI_mul, nI_add, nI_leI, nI_ltI, nI_eq, up_s, up_a, up_k, h3]
theorem a_isSq {n : Nat} (h : n < 268435456) : z_X11_isSquare (lN n) = some (if wr (lN n) * wr (lN n) = lN n then 1 else 0) := by
  unfold z_X11_isSquare
  rw [a_wr h, b1_s]
  split <;> rfl
theorem a_root94 {R : Nat → Nat → Option Nat} (hR : RA R) {a : Nat} (ha : rwA a) {p d q : Int64} (hx : ∀ k, k < 60 → ¬ (rst p d q k).2 = 0) : ∀ (k fuel : Nat) (I : Nat → Nat → Int32) (J : Nat → Nat → Int64) (n : Nat), k < fuel → n + k = 60 → surdA J p d q n → I a 6 = nI n → lst (I (a + 1)) 0 (rtl p d q n) →
    ∃ I' J', z_X11_reckonRoot_b94 SA 0 fuel (I, J, R) a (nI n) = some (I', J', R) ∧ aF a I I' ∧ rowA I' a (rtl p d q 60) 0 ∧ I' a 8 = I a 8 := by
  obtain ⟨k0, k1, k2, k3⟩ := rwA_k ha
  intro k
  induction k with
  | zero =>
    intro fuel I J n hf hn hs hm hl
    obtain ⟨f, rfl⟩ : ∃ f, fuel = f + 1 := ⟨fuel - 1, by omega⟩
    obtain rfl : n = 60 := by omega
    refine ⟨fh_up I a 7 0, J, ?_, aF.rf.up (aS_7 a), ⟨?_, ?_, ?_⟩, ?_⟩
    · rw [z_X11_reckonRoot_b94, if_pos (by decide), k0]; rfl
    · rw [up_k _ _ _ _ (by decide), rtl_len]; exact hm
    · exact lst_cong hl (fun j _ _ => up_a _ _ _ _ (by omega))
    · rw [up_s]
    · rw [up_k _ _ _ _ (by decide)]
  | succ k ih =>
    intro fuel I J n hf hn hs hm hl
    obtain ⟨f, rfl⟩ : ∃ f, fuel = f + 1 := ⟨fuel - 1, by omega⟩
    have hlen1 : (rtl p d q n).length = n := rtl_len _ _ _ _
    obtain ⟨hl2, hm2⟩ := addA_row (I := I) (a := a) (v := (rtv p d q n).toInt32) (x := 0) (y := 0) hl
    rw [← rtl_snoc] at hl2 hm2
    rw [hlen1] at hl2 hm2
    rw [rtl_len] at hm2
    obtain ⟨J1, e1, s1⟩ := a_leave (I := addA I a n (rtv p d q n).toInt32 0 0) (R := R) hs (hx n (by omega))
    obtain ⟨I', J', e, hF, hrow, h6⟩ := ih f (addA I a n (rtv p d q n).toInt32 0 0) J1 (n + 1) (by omega) (by omega) s1 hm2 hl2
    refine ⟨I', J', ?_, addA_F.trans hF, hrow, ?_⟩
    · rw [z_X11_reckonRoot_b94, if_neg (show ¬ (60 : Int32) ≤ nI n from nI_ge (b := 60) (by omega) (by omega))]
      simp (disch := omega) only [ck_t, b1_s, b2_s, let_e, nn_s, nn_n, sI_e, sJ_e, sR_e, kA_0, kA_1, kA_2, kA_3, kA_4, kA_5, kA_8, kA_9, kA_10, kA_43, kA_44, kA_45, kA_46, kA_47, kA_48, kA_49, kA_50, kA_51, kA_52, kA_53, kA_54, kA_55, kA_56, kA_57, kA_118, lA_1, lA_3, lA_4, lA_5, lA_9, lA_10, lA_49, lA_50, lA_51, lA_52, lA_54, lA_57, lA_118, rA_0_0 hR, rA_0_1 hR, rA_0_2 hR, rA_0_3 hR, rA_0_4 hR, rA_0_5 hR, rA_0_6 hR, rA_0_7 hR, rA_0_8 hR, rA_0_9 hR, rA_8_0 hR, rA_8_1 hR, rA_48_0 hR, rA_48_1 hR, rA_48_2 hR, rA_48_3 hR, rA_53_0 hR, rA_53_1 hR, rA_55_0 hR, rA_56_0 hR, Int32.reduceAdd, Int32.reduceSub, Int32.reduceMul, Int32.reduceLE, Int32.reduceLT, Int32.reduceToNatClampNeg, if_true, if_false, eq_self, up_s, up_a, up_k, ne_0_1, ne_0_2, ne_0_3, ne_0_4, ne_0_5, ne_0_6, ne_0_7, ne_1_0, ne_1_2, ne_1_3, ne_1_4, ne_1_5, ne_1_6, ne_1_7, ne_2_0, ne_2_1, ne_2_3, ne_2_4, ne_2_5, ne_2_6, ne_2_7, ne_3_0, ne_3_1, ne_3_2, ne_3_4, ne_3_5, ne_3_6, ne_3_7, ne_4_0, ne_4_1, ne_4_2, ne_4_3, ne_4_5, ne_4_6, ne_4_7, ne_5_0, ne_5_1, ne_5_2, ne_5_3, ne_5_4, ne_5_6, ne_5_7, ne_6_0, ne_6_1, ne_6_2, ne_6_3, ne_6_4, ne_6_5, ne_6_7, ne_7_0, ne_7_1, ne_7_2, ne_7_3, ne_7_4, ne_7_5, ne_7_6, ne_m_0, ne_0_m, ne_m_1, ne_1_m, ne_m_2, ne_2_m, ne_m_3, ne_3_m, ne_m_4, ne_4_m, ne_m_5, ne_5_m, ne_m_6, ne_6_m, ne_m_7, ne_7_m, a_whole hs (hx n (by omega)), k0, a_add hR ha (show n < 60 by omega) hm, e1, nI_1]
      exact e
    · rw [h6]; unfold addA; simp (disch := omega) only [up_a, up_k]
theorem a_rootRow {I : Nat → Nat → Int32} {J : Nat → Nat → Int64} {R : Nat → Nat → Option Nat} (hR : RA R) {a m : Nat} {p d q : Int32} (ha : rwA a) (hd : mdA m) (hRm : R a 4 = some m) (ok : okR p d q) (h1 : I m 3 = p) (h2 : I m 4 = d) (h3 : I m 5 = q) (hm : I a 6 = 0) :
    ∃ I' J', z_X11_reckonRoot SA (I, J, R) 0 a = some (I', J', R) ∧ aF a I I' ∧ rowA I' a (rtD p.toInt64 d.toInt64 q.toInt64).1 (rtD p.toInt64 d.toInt64 q.toInt64).2 ∧ I' a 8 = I a 8 := by
  obtain ⟨n, hn9, ed⟩ := okR_d ok
  obtain ⟨k0, k1, k2, k3⟩ := rwA_k ha
  obtain ⟨m0, -, -⟩ := mdA_k hd
  unfold z_X11_reckonRoot
  simp (disch := omega) only [ck_t, b1_s, b2_s, let_e, nn_s, nn_n, sI_e, sJ_e, sR_e, kA_0, kA_1, kA_2, kA_3, kA_4, kA_5, kA_8, kA_9, kA_10, kA_43, kA_44, kA_45, kA_46, kA_47, kA_48, kA_49, kA_50, kA_51, kA_52, kA_53, kA_54, kA_55, kA_56, kA_57, kA_118, lA_1, lA_3, lA_4, lA_5, lA_9, lA_10, lA_49, lA_50, lA_51, lA_52, lA_54, lA_57, lA_118, rA_0_0 hR, rA_0_1 hR, rA_0_2 hR, rA_0_3 hR, rA_0_4 hR, rA_0_5 hR, rA_0_6 hR, rA_0_7 hR, rA_0_8 hR, rA_0_9 hR, rA_8_0 hR, rA_8_1 hR, rA_48_0 hR, rA_48_1 hR, rA_48_2 hR, rA_48_3 hR, rA_53_0 hR, rA_53_1 hR, rA_55_0 hR, rA_56_0 hR, Int32.reduceAdd, Int32.reduceSub, Int32.reduceMul, Int32.reduceLE, Int32.reduceLT, Int32.reduceToNatClampNeg, if_true, if_false, eq_self, up_s, up_a, up_k, ne_0_1, ne_0_2, ne_0_3, ne_0_4, ne_0_5, ne_0_6, ne_0_7, ne_1_0, ne_1_2, ne_1_3, ne_1_4, ne_1_5, ne_1_6, ne_1_7, ne_2_0, ne_2_1, ne_2_3, ne_2_4, ne_2_5, ne_2_6, ne_2_7, ne_3_0, ne_3_1, ne_3_2, ne_3_4, ne_3_5, ne_3_6, ne_3_7, ne_4_0, ne_4_1, ne_4_2, ne_4_3, ne_4_5, ne_4_6, ne_4_7, ne_5_0, ne_5_1, ne_5_2, ne_5_3, ne_5_4, ne_5_6, ne_5_7, ne_6_0, ne_6_1, ne_6_2, ne_6_3, ne_6_4, ne_6_5, ne_6_7, ne_7_0, ne_7_1, ne_7_2, ne_7_3, ne_7_4, ne_7_5, ne_7_6, ne_m_0, ne_0_m, ne_m_1, ne_1_m, ne_m_2, ne_2_m, ne_m_3, ne_3_m, ne_m_4, ne_4_m, ne_m_5, ne_5_m, ne_m_6, ne_6_m, ne_m_7, ne_7_m, hRm, m0, h1, h2, h3]
  rw [show z_X11_isSquare d.toInt64 = some (if wr d.toInt64 * wr d.toInt64 = d.toInt64 then 1 else 0) by rw [ed]; exact a_isSq (by omega), b1_s]
  by_cases hc : wr d.toInt64 * wr d.toInt64 = d.toInt64
  · rw [if_pos hc, if_neg (show ¬ (1 : Int32) = 0 by decide)]
    rw [show z_X11_wholeRoot d.toInt64 = some (wr d.toInt64) by rw [ed]; exact a_wr (by omega), b1_s]
    have hq : (0 : Int64) ≤ q.toInt64 ↔ (0 : Int32) ≤ q := by
      rw [Int64.le_iff_toInt_le, Int32.le_iff_toInt_le, Int32.toInt_toInt64]; exact Iff.rfl
    have hng : (-q).toInt64 = -q.toInt64 := by
      apply Int64.toInt_inj.mp
      have := ok.2.2.1
      rw [Int32.toInt_toInt64, i64_neg (by rw [Int32.toInt_toInt64]; omega), Int32.toInt_toInt64, Int32.toInt_neg]
      exact Int.bmod_eq_of_le (by omega) (by omega)
    obtain ⟨I', e, hF, hrow, h6⟩ := a_div (J := J) hR ha hm (if 0 ≤ q.toInt64 then p.toInt64 + wr d.toInt64 else -(p.toInt64 + wr d.toInt64)) (if 0 ≤ q.toInt64 then q.toInt64 else -q.toInt64)
    refine ⟨I', J, ?_, hF, ?_, h6⟩
    · by_cases hq0 : (0 : Int32) ≤ q
      · rw [if_pos (hq.mpr hq0), if_pos (hq.mpr hq0)] at e
        rw [if_pos hq0]
        unfold z_X11_reckonRoot_b45
        simp (disch := omega) only [ck_t, b1_s, b2_s, let_e, nn_s, nn_n, sI_e, sJ_e, sR_e, Int32.reduceAdd, Int32.reduceSub, Int32.reduceMul, Int32.reduceLE, Int32.reduceLT, Int32.reduceToNatClampNeg, if_true, if_false, eq_self, up_s, up_a, up_k, ne_0_1, ne_0_2, ne_0_3, ne_0_4, ne_0_5, ne_0_6, ne_0_7, ne_1_0, ne_1_2, ne_1_3, ne_1_4, ne_1_5, ne_1_6, ne_1_7, ne_2_0, ne_2_1, ne_2_3, ne_2_4, ne_2_5, ne_2_6, ne_2_7, ne_3_0, ne_3_1, ne_3_2, ne_3_4, ne_3_5, ne_3_6, ne_3_7, ne_4_0, ne_4_1, ne_4_2, ne_4_3, ne_4_5, ne_4_6, ne_4_7, ne_5_0, ne_5_1, ne_5_2, ne_5_3, ne_5_4, ne_5_6, ne_5_7, ne_6_0, ne_6_1, ne_6_2, ne_6_3, ne_6_4, ne_6_5, ne_6_7, ne_7_0, ne_7_1, ne_7_2, ne_7_3, ne_7_4, ne_7_5, ne_7_6, ne_m_0, ne_0_m, ne_m_1, ne_1_m, ne_m_2, ne_2_m, ne_m_3, ne_3_m, ne_m_4, ne_4_m, ne_m_5, ne_5_m, ne_m_6, ne_6_m, ne_m_7, ne_7_m, m0, k0, h3, if_pos hq0]
        rw [e]; rfl
      · rw [if_neg (fun h => hq0 (hq.mp h)), if_neg (fun h => hq0 (hq.mp h))] at e
        rw [if_neg hq0]
        unfold z_X11_reckonRoot_b45
        simp (disch := omega) only [ck_t, b1_s, b2_s, let_e, nn_s, nn_n, sI_e, sJ_e, sR_e, Int32.reduceAdd, Int32.reduceSub, Int32.reduceMul, Int32.reduceLE, Int32.reduceLT, Int32.reduceToNatClampNeg, if_true, if_false, eq_self, up_s, up_a, up_k, ne_0_1, ne_0_2, ne_0_3, ne_0_4, ne_0_5, ne_0_6, ne_0_7, ne_1_0, ne_1_2, ne_1_3, ne_1_4, ne_1_5, ne_1_6, ne_1_7, ne_2_0, ne_2_1, ne_2_3, ne_2_4, ne_2_5, ne_2_6, ne_2_7, ne_3_0, ne_3_1, ne_3_2, ne_3_4, ne_3_5, ne_3_6, ne_3_7, ne_4_0, ne_4_1, ne_4_2, ne_4_3, ne_4_5, ne_4_6, ne_4_7, ne_5_0, ne_5_1, ne_5_2, ne_5_3, ne_5_4, ne_5_6, ne_5_7, ne_6_0, ne_6_1, ne_6_2, ne_6_3, ne_6_4, ne_6_5, ne_6_7, ne_7_0, ne_7_1, ne_7_2, ne_7_3, ne_7_4, ne_7_5, ne_7_6, ne_m_0, ne_0_m, ne_m_1, ne_1_m, ne_m_2, ne_2_m, ne_m_3, ne_3_m, ne_m_4, ne_4_m, ne_m_5, ne_5_m, ne_m_6, ne_6_m, ne_m_7, ne_7_m, m0, k0, h3, if_neg hq0]
        rw [hng, e]; rfl
    · unfold rtD; rw [if_pos hc]; exact hrow
  · rw [if_neg hc, if_pos (show (0 : Int32) = 0 from rfl)]
    obtain ⟨J1, e1, s1⟩ := a_start (I := I) (J := J) (R := R) ok hc
    rw [e1, b1_s]
    obtain ⟨I', J', e2, hF, hrow, h6⟩ := a_root94 hR ha (fun k hk => rst_ne ok hc (show k ≤ 100 by omega)) 60 20000 I J1 0 (by omega) (by omega) s1 hm (lst_nil _ _)
    refine ⟨I', J', e2, hF, ?_, h6⟩
    unfold rtD; rw [if_neg hc]; exact hrow
