/-! the class reckons a row -/
def mkr (f g t : Nat → Int32) : Prop := g 0 = f 0 ∧ (f 0 = 0 → g 3 = f 1 ∧ g 4 = f 2) ∧ (f 0 = 1 → g 3 = f 1 ∧ g 4 = f 2 ∧ g 5 = f 3) ∧
  (f 0 = 2 → g 7 = nI (tln (f 7).toNatClampNeg (f 8).toNatClampNeg) ∧ ∀ j, j < tln (f 7).toNatClampNeg (f 8).toNatClampNeg → t j = tla (fun k => f (9 + k)) (f 7).toNatClampNeg (f 8).toNatClampNeg j) ∧
  (f 0 = 3 → g 1 = f 5 ∧ g 2 = f 5 ∧ g 3 = f 1 ∧ g 4 = f 2 ∧ g 5 = f 3 ∧ g 6 = f 4) ∧ (f 0 = 4 → g 1 = f 5 ∧ g 2 = f 6 ∧ g 3 = f 1)
theorem a_find {I : Nat → Nat → Int32} {J : Nat → Nat → Int64} {R : Nat → Nat → Option Nat} (hR : RA R) {i : Nat} (hi : i < 10) : z_X11_find SA (I, J, R) 0 (nI i) = some (some (58 + 6 * i)) := by
  unfold z_X11_find
  rw [if_neg (nI_pos (by omega))]
  simp only [rA_0_0 hR, b1_N, kA_1, ck_N, lA_1]
  rw [if_neg (show ¬ Int32.ofNat 10 ≤ nI i from nI_ge (b := 10) (by omega) (by omega)), in_n (by omega) (by omega), ck_N, nI_clamp (by omega), rA_row hR hi, nn_Ns]
theorem a_find_no {I : Nat → Nat → Int32} {J : Nat → Nat → Int64} {R : Nat → Nat → Option Nat} (hR : RA R) {x : Int32} (hx : ¬ ∃ i : Nat, i < 10 ∧ x = nI i) : z_X11_find SA (I, J, R) 0 x = some none := by
  unfold z_X11_find
  by_cases c : x < 0
  · rw [if_pos c]
  rw [if_neg c]
  obtain ⟨j, hj, rfl⟩ := nI_of c
  simp only [rA_0_0 hR, b1_N, kA_1, ck_N, lA_1]
  rw [if_pos (show Int32.ofNat 10 ≤ nI j from nI_le (a := 10) (Nat.not_lt.mp (fun q => hx ⟨j, q, rfl⟩)) (by omega))]
theorem rowA_ex {I : Nat → Nat → Int32} {a : Nat} {k : Int32} {D : Dat} (h : dA I a k D) : rowA I a (dsr D).1 (dsr D).2 := h.1
theorem rwA_r {r : Nat} (h : r < 10) : rwA (58 + 6 * r) := Or.inr ⟨r, h, rfl⟩
theorem a_reckon {I : Nat → Nat → Int32} {J : Nat → Nat → Int64} {R : Nat → Nat → Option Nat} {r m : Nat} {f : Nat → Int32} {L : Nat → Dat} {K : Nat → Int32} (hR : RA R) (hh : hw R) (hr : r < 10) (hRm : R (58 + 6 * r) 4 = some m) (hd : mdA m) (hmk : mkr f (I m) (I (m + 1))) (ok : okr f r) (hL : ∀ i, i < r → dA I (58 + 6 * i) (K i) (L i) ∧ (L i).1.length ≤ 60) :
    ∃ I' J' R', z_X11_reckon SA (I, J, R) 0 (58 + 6 * r) = some (I', J', R') ∧ aF (58 + 6 * r) I I' ∧ RA R' ∧ rF R R' ∧ hw R' ∧ dA I' (58 + 6 * r) (f 0) (dn f L) := by
  have ha := rwA_r hr
  obtain ⟨d1, d2, d3, d4⟩ := md_rw ha hd
  obtain ⟨km, -, -⟩ := mdA_k hd
  obtain ⟨I1, eI1⟩ : ∃ z, z = fh_up (fh_up (fh_up I (58 + 6 * r) 6 0) (58 + 6 * r) 7 0) (58 + 6 * r) 8 0 := ⟨_, rfl⟩
  have hF1 : aF (58 + 6 * r) I I1 := by rw [eI1]; exact ((aF.rf.up (aS_6 _)).up (aS_7 _)).up (aS_8 _)
  have h6 : I1 (58 + 6 * r) 6 = 0 := by rw [eI1]; simp (disch := omega) only [ck_t, b1_s, b2_s, let_e, nn_s, nn_n, sI_e, sJ_e, sR_e, Int32.reduceAdd, Int32.reduceSub, Int32.reduceMul, Int32.reduceLE, Int32.reduceLT, Int32.reduceToNatClampNeg, if_true, if_false, eq_self, up_s, up_a, up_k, ne_0_1, ne_0_2, ne_0_3, ne_0_4, ne_0_5, ne_0_6, ne_0_7, ne_1_0, ne_1_2, ne_1_3, ne_1_4, ne_1_5, ne_1_6, ne_1_7, ne_2_0, ne_2_1, ne_2_3, ne_2_4, ne_2_5, ne_2_6, ne_2_7, ne_3_0, ne_3_1, ne_3_2, ne_3_4, ne_3_5, ne_3_6, ne_3_7, ne_4_0, ne_4_1, ne_4_2, ne_4_3, ne_4_5, ne_4_6, ne_4_7, ne_5_0, ne_5_1, ne_5_2, ne_5_3, ne_5_4, ne_5_6, ne_5_7, ne_6_0, ne_6_1, ne_6_2, ne_6_3, ne_6_4, ne_6_5, ne_6_7, ne_7_0, ne_7_1, ne_7_2, ne_7_3, ne_7_4, ne_7_5, ne_7_6, ne_m_0, ne_0_m, ne_m_1, ne_1_m, ne_m_2, ne_2_m, ne_m_3, ne_3_m, ne_m_4, ne_4_m, ne_m_5, ne_5_m, ne_m_6, ne_6_m, ne_m_7, ne_7_m]
  have h8 : I1 (58 + 6 * r) 8 = 0 := by rw [eI1]; simp (disch := omega) only [ck_t, b1_s, b2_s, let_e, nn_s, nn_n, sI_e, sJ_e, sR_e, Int32.reduceAdd, Int32.reduceSub, Int32.reduceMul, Int32.reduceLE, Int32.reduceLT, Int32.reduceToNatClampNeg, if_true, if_false, eq_self, up_s, up_a, up_k, ne_0_1, ne_0_2, ne_0_3, ne_0_4, ne_0_5, ne_0_6, ne_0_7, ne_1_0, ne_1_2, ne_1_3, ne_1_4, ne_1_5, ne_1_6, ne_1_7, ne_2_0, ne_2_1, ne_2_3, ne_2_4, ne_2_5, ne_2_6, ne_2_7, ne_3_0, ne_3_1, ne_3_2, ne_3_4, ne_3_5, ne_3_6, ne_3_7, ne_4_0, ne_4_1, ne_4_2, ne_4_3, ne_4_5, ne_4_6, ne_4_7, ne_5_0, ne_5_1, ne_5_2, ne_5_3, ne_5_4, ne_5_6, ne_5_7, ne_6_0, ne_6_1, ne_6_2, ne_6_3, ne_6_4, ne_6_5, ne_6_7, ne_7_0, ne_7_1, ne_7_2, ne_7_3, ne_7_4, ne_7_5, ne_7_6, ne_m_0, ne_0_m, ne_m_1, ne_1_m, ne_m_2, ne_2_m, ne_m_3, ne_3_m, ne_m_4, ne_4_m, ne_m_5, ne_5_m, ne_m_6, ne_6_m, ne_m_7, ne_7_m]
  have em : ∀ j, I1 m j = I m j := fun j => aF_out hF1 ⟨d1, d3⟩ j
  have em1 : ∀ j, I1 (m + 1) j = I (m + 1) j := fun j => aF_out hF1 ⟨d2, d4⟩ j
  obtain ⟨g0, m0, m1, m2, m3, m4⟩ := hmk
  have hcl : z_X6_clear SA (I, J, R) (58 + 6 * r) = some (I1, J, R) := by rw [eI1]; rfl
  have hsrc : ∀ (R' : Nat → Nat → Option Nat) (k i : Nat), i < r → R' 43 k = some (58 + 6 * i) → srcA I1 R' (58 + 6 * r) k (dsr (L i)) := fun R' k i hi hk => ⟨58 + 6 * i, rwA_r (by omega), by omega, hk, rowA_F hF1 ha (rwA_r (by omega)) (by omega) (rowA_ex (hL i hi).1), by rw [dsr_len]; exact (hL i hi).2⟩
  have e0 : z_X11_reckon SA (I, J, R) 0 (58 + 6 * r) = (fun v6 : Int32 => if v6 = 0 then (fh_b1 (z_X6_divide SA (I1, J, R) (58 + 6 * r) (Int32.toInt64 (I1 m 3)) (Int32.toInt64 (I1 m 4))) (fun h8 => some h8)) else (if v6 = 1 then (fh_b1 (z_X11_reckonRoot SA (I1, J, R) 0 (58 + 6 * r)) (fun h11 => some h11)) else (if v6 = 2 then (fh_b1 (z_X6_copyTold SA (I1, J, R) (58 + 6 * r) m) (fun h14 => some h14)) else (if v6 = 3 then (fh_b1 (z_X11_find SA (I1, J, R) 0 (I1 m 1)) (fun r19 => fh_nn r19 (fh_b1 (z_X5_startSingle SA (I1, J, R) 43 none (I1 m 3) (I1 m 4) (I1 m 5) (I1 m 6)) (fun h23 => fh_b1 (h23.2.2 0 3) (fun j25 => fh_ck (fh_kq SA j25 5) (fh_b1 (z_X5_run SA h23 j25 (58 + 6 * r) (60 : Int32)) (fun h28 => some h28))))) (fun j21 => fh_b1 (z_X5_startSingle SA (I1, J, R) 43 (some j21) (I1 m 3) (I1 m 4) (I1 m 5) (I1 m 6)) (fun h31 => fh_b1 (h31.2.2 0 3) (fun j33 => fh_ck (fh_kq SA j33 5) (fh_b1 (z_X5_run SA h31 j33 (58 + 6 * r) (60 : Int32)) (fun h36 => some h36))))))) else (fh_b1 (z_X11_find SA (I1, J, R) 0 (I1 m 1)) (fun r40 => fh_nn r40 (fh_b1 (z_X11_find SA (I1, J, R) 0 (I1 m 2)) (fun r43 => fh_nn r43 (fh_b1 (z_X5_startDouble SA (I1, J, R) 43 (I1 m 3) none none) (fun h47 => fh_b1 (h47.2.2 0 3) (fun j49 => fh_ck (fh_kq SA j49 5) (fh_b1 (z_X5_run SA h47 j49 (58 + 6 * r) (60 : Int32)) (fun h52 => some h52))))) (fun j45 => fh_b1 (z_X5_startDouble SA (I1, J, R) 43 (I1 m 3) none (some j45)) (fun h55 => fh_b1 (h55.2.2 0 3) (fun j57 => fh_ck (fh_kq SA j57 5) (fh_b1 (z_X5_run SA h55 j57 (58 + 6 * r) (60 : Int32)) (fun h60 => some h60))))))) (fun j42 => fh_b1 (z_X11_find SA (I1, J, R) 0 (I1 m 2)) (fun r62 => fh_nn r62 (fh_b1 (z_X5_startDouble SA (I1, J, R) 43 (I1 m 3) (some j42) none) (fun h66 => fh_b1 (h66.2.2 0 3) (fun j68 => fh_ck (fh_kq SA j68 5) (fh_b1 (z_X5_run SA h66 j68 (58 + 6 * r) (60 : Int32)) (fun h71 => some h71))))) (fun j64 => fh_b1 (z_X5_startDouble SA (I1, J, R) 43 (I1 m 3) (some j42) (some j64)) (fun h74 => fh_b1 (h74.2.2 0 3) (fun j76 => fh_ck (fh_kq SA j76 5) (fh_b1 (z_X5_run SA h74 j76 (58 + 6 * r) (60 : Int32)) (fun h79 => some h79))))))))))))) (f 0) := by
    unfold z_X11_reckon
    simp only [hRm, b1_N, hcl, km, ck_N, let_N, em, g0, rA_0_3 hR, kA_43]
  rw [e0]
  dsimp only
  have p0 := em 0
  rcases ok with ⟨k0, hq⟩ | ⟨k0, hRo⟩ | ⟨k0, a, g, ha', hg, hag, -⟩ | ⟨k0, i, hi, h5⟩ | ⟨k0, ⟨i, hi, h5⟩, ⟨j, hj, h6j⟩, hhow⟩
  · rw [if_pos k0]
    obtain ⟨q1, q2⟩ := m0 k0
    rw [em 3, em 4, q1, q2]
    obtain ⟨I', e, hF, hrow, g8⟩ := a_div (J := J) hR ha h6 (f 1).toInt64 (f 2).toInt64
    refine ⟨I', J, R, by rw [e]; rfl, hF1.trans hF, hR, fun _ _ _ => rfl, hh, ?_⟩
    unfold dn
    rw [if_pos k0]
    exact dA_b hrow (by rw [g8]; exact h8) (by rw [k0]; decide)
  · rw [if_neg (by rw [k0]; decide), if_pos k0]
    obtain ⟨q1, q2, q3⟩ := m1 k0
    obtain ⟨I', J', e, hF, hrow, g8⟩ := a_rootRow (J := J) hR ha hd hRm hRo (by rw [em 3]; exact q1) (by rw [em 4]; exact q2) (by rw [em 5]; exact q3) h6
    refine ⟨I', J', R, by rw [e]; rfl, hF1.trans hF, hR, fun _ _ _ => rfl, hh, ?_⟩
    unfold dn
    rw [if_neg (by rw [k0]; decide), if_pos k0]
    exact dA_b hrow (by rw [g8]; exact h8) (by rw [k0]; decide)
  · rw [if_neg (by rw [k0]; decide), if_neg (by rw [k0]; decide), if_pos k0]
    obtain ⟨q1, q2⟩ := m2 k0
    rw [ha', hg, nI_clamp (by omega), nI_clamp (by omega)] at q1 q2
    obtain ⟨I', e, hF, hrow, g8⟩ := a_told (J := J) (f := tla (fun k => f (9 + k)) a g) hR ha hd (tln_le a g) (by rw [em 7]; exact q1) (fun j hj => by rw [em1 j]; exact q2 j hj) h6
    refine ⟨I', J, R, by rw [e]; rfl, hF1.trans hF, hR, fun _ _ _ => rfl, hh, ?_⟩
    unfold dn
    rw [if_neg (by rw [k0]; decide), if_neg (by rw [k0]; decide), if_pos k0]
    unfold tlf
    rw [ha', hg, nI_clamp (by omega), nI_clamp (by omega)]
    exact dA_b hrow (by rw [g8]; exact h8) (by rw [k0]; decide)
  · rw [if_neg (by rw [k0]; decide), if_neg (by rw [k0]; decide), if_neg (by rw [k0]; decide), if_pos k0]
    obtain ⟨q1, q2, q3, q4, q5, q6⟩ := m3 k0
    rw [em 1, em 3, em 4, em 5, em 6, q1, q3, q4, q5, q6, h5, a_find hR (show i < 10 by omega), b1_N, nn_Ns]
    unfold dn
    rw [if_neg (by rw [k0]; decide), if_neg (by rw [k0]; decide), if_neg (by rw [k0]; decide), if_pos k0, h5, nI_clamp (by omega)]
    obtain ⟨J1, e1, hk1⟩ := a_stS (I := I1) (J := J) hh (x := 58 + 6 * i) (a := f 1) (b := f 2) (c := f 3) (d := f 4)
    have hR1 : RA (fh_up (fh_up R 43 2 (some (58 + 6 * i))) 43 3 none) := RA_43 (RA_43 hR 2 _) 3 _
    have fI : aF (58 + 6 * r) I1 (I43 I1 1) := aF_43 (fun b j hb => I43_o j hb)
    obtain ⟨I2, J2, R2, e2, hF2, hR2, fR2, hrow, hh2⟩ := a_runX (most := 60) (two := false) (Y := dsr (L i)) hR1 ha (by decide) hk1 (s0_ok _ _ _ _ _ _) (srcA_F (R := fh_up (fh_up R 43 2 (some (58 + 6 * i))) 43 3 none) fI ha rfl (hsrc _ 2 i hi (by rw [up_k _ _ _ _ (by decide), up_s]))) (fun h => by cases h) (by rw [I43_o 6 (by omega)]; exact h6)
    refine ⟨I2, J2, R2, ?_, (hF1.trans fI).trans hF2, hR2, fun b j hb => by rw [fR2 b j hb, up_a _ _ _ _ hb, up_a _ _ _ _ hb], hh2, dA_3 hrow⟩
    rw [e1, b1_N]
    have e2' : z_X5_run SA (I43 I1 1, J1, fh_up (fh_up R 43 2 (some (58 + 6 * i))) 43 3 none) 43 (58 + 6 * r) 60 = some (I2, J2, R2) := e2
    simp only [rA_0_3 hR1, b1_N, kA_43, ck_N, e2']
  · rw [if_neg (by rw [k0]; decide), if_neg (by rw [k0]; decide), if_neg (by rw [k0]; decide), if_neg (by rw [k0]; decide)]
    obtain ⟨q1, q2, q3⟩ := m4 k0
    rw [em 1, em 2, em 3, q1, q2, q3, h5, h6j, a_find hR (show i < 10 by omega), b1_N, nn_Ns, a_find hR (show j < 10 by omega), b1_N, nn_Ns]
    unfold dn
    rw [if_neg (by rw [k0]; decide), if_neg (by rw [k0]; decide), if_neg (by rw [k0]; decide), if_neg (by rw [k0]; decide), h5, h6j, nI_clamp (by omega), nI_clamp (by omega)]
    obtain ⟨J1, e1, hk1⟩ := a_stD (I := I1) (J := J) hh (x := 58 + 6 * i) (y := 58 + 6 * j) (how := f 1) hhow
    have hR1 : RA (fh_up (fh_up R 43 2 (some (58 + 6 * i))) 43 3 (some (58 + 6 * j))) := RA_43 (RA_43 hR 2 _) 3 _
    have fI : aF (58 + 6 * r) I1 (I43 I1 0) := aF_43 (fun b j hb => I43_o j hb)
    obtain ⟨I2, J2, R2, e2, hF2, hR2, fR2, hrow, hh2⟩ := a_runX (most := 60) (two := true) hR1 ha (by decide) hk1 (d0_ok _ _ _) (srcA_F (R := fh_up (fh_up R 43 2 (some (58 + 6 * i))) 43 3 (some (58 + 6 * j))) fI ha rfl (hsrc _ 2 i hi (by rw [up_k _ _ _ _ (by decide), up_s]))) (fun _ => srcA_F (R := fh_up (fh_up R 43 2 (some (58 + 6 * i))) 43 3 (some (58 + 6 * j))) fI ha rfl (hsrc _ 3 j hj (up_s _ _ _ _))) (by rw [I43_o 6 (by omega)]; exact h6)
    refine ⟨I2, J2, R2, ?_, (hF1.trans fI).trans hF2, hR2, fun b j hb => by rw [fR2 b j hb, up_a _ _ _ _ hb, up_a _ _ _ _ hb], hh2, dA_3 hrow⟩
    rw [e1, b1_N]
    have e2' : z_X5_run SA (I43 I1 0, J1, fh_up (fh_up R 43 2 (some (58 + 6 * i))) 43 3 (some (58 + 6 * j))) 43 (58 + 6 * r) 60 = some (I2, J2, R2) := e2
    simp only [rA_0_3 hR1, b1_N, kA_43, ck_N, e2']
