/-! calls that ask for rows -/
theorem u3 {I : Nat → Nat → Int32} {J : Nat → Nat → Int64} {R : Nat → Nat → Option Nat} {v : Int32} : ((fh_up I 0 3 v, J, R) : fh_H).1 0 3 = v := up_s I 0 3 v
theorem sett_no {I : Nat → Nat → Int32} {J : Nat → Nat → Int64} {R : Nat → Nat → Option Nat} {n : Nat} {P : Nat → Rcp} {t : Nat} {b : Nat → Nat} {fp : Int32} {s : Nat} {c : Nat → Int32} {x : Int32} (h : invA I R n P t b fp s c) (hx : ¬ ∃ r : Nat, r < 10 ∧ x = nI r) : z_X11_settled SA (I, J, R) 0 x = some (Sum.inl 1, (I, J, R)) := a_settled_no h.1 hx
theorem a_req1 {I : Nat → Nat → Int32} {J : Nat → Nat → Int64} {R : Nat → Nat → Option Nat} {a k N : Nat} (h6 : I a 6 = nI N) (hN : N ≤ 60) (hk : k < N) : z_X11_requireTerm SA (I, J, R) a (nI k) = some (Sum.inr (), (I, J, R)) := by
  unfold z_X11_requireTerm
  rw [a_kn1 h6 hN hk, b1_N, if_neg one0]
theorem a_req0 {I : Nat → Nat → Int32} {J : Nat → Nat → Int64} {R : Nat → Nat → Option Nat} {a N : Nat} {x : Int32} (h6 : I a 6 = nI N) (hN : N ≤ 60) (hx : ¬ ∃ k, k < N ∧ x = nI k) : z_X11_requireTerm SA (I, J, R) a x = some (Sum.inl 1, (I, J, R)) := by
  unfold z_X11_requireTerm
  rw [a_kn0 h6 hN hx, b1_N, if_pos rfl]
theorem op_term {h h2 : fh_H} (i : Inv h h2) (x1 x2 : Int32) : opx none (some 1) (z_X11_term SA h 0 x1 x2) (z_X12_term TB h2 0 x1 x2) := by
  obtain ⟨I, J, R, I', J', n, P, t, b, fp, s, c, rfl, rfl, ok, hA, hB⟩ := i.cases
  unfold z_X11_term z_X12_term
  rw [let_N, sI_N]
  by_cases hx : ∃ r : Nat, r < 10 ∧ x1 = nI r
  · obtain ⟨r, hr, rfl⟩ := hx
    obtain ⟨I1, J1, R1, e, iA, hf, -⟩ := a_set (J := J) hr hA
    have rA := rw_A hr iA (hf r (Nat.le_refl _))
    have rB3 := rw_B hr (invB_3 hB 0)
    have hL := rwL_le (P n) r
    rw [e, bx_Nr, b1_N, (rwA_k (rwA_r hr)).1, ck_N, b_isRow hr, b1_N, if_neg one0]
    by_cases hk : ∃ k, k < rwL (P n) r ∧ x2 = nI k
    · obtain ⟨k, hk, rfl⟩ := hk
      rw [a_req1 rA.1 hL hk, bx_Nr, a_tm iA.1 (rwA_r hr) (show k < 60 by omega), b1_N, rA.2.1 k hk, b_kn1 hr rB3.1 hL hk, b1_N, if_neg one0, b_termOf hr (show k < 60 by omega), b1_N, rB3.2.1 k hk]
      exact opx_r (Inv.mk ok iA (invB_3 hB 0)) rfl rfl u3
    · rw [a_req0 rA.1 hL hk, bx_Nl, b_kn0 hr rB3.1 hL hk, b1_N, if_pos rfl, b_fail, b2_N]
      exact opx_l1 (Inv.mk ok iA (invB_3 hB 1)) rfl rfl u3
  · rw [sett_no hA hx, bx_Nl, b_isRow_no hx, b1_N, if_pos rfl, b_fail, b2_N]
    exact opx_l1 (Inv.mk ok hA (invB_3 hB 1)) rfl rfl u3
theorem op_often {h h2 : fh_H} (i : Inv h h2) (x1 x2 : Int32) : opx none (some 1) (z_X11_often SA h 0 x1 x2) (z_X12_often TB h2 0 x1 x2) := by
  obtain ⟨I, J, R, I', J', n, P, t, b, fp, s, c, rfl, rfl, ok, hA, hB⟩ := i.cases
  unfold z_X11_often z_X12_often
  rw [let_N, sI_N]
  by_cases hx : ∃ r : Nat, r < 10 ∧ x1 = nI r
  · obtain ⟨r, hr, rfl⟩ := hx
    obtain ⟨I1, J1, R1, e, iA, hf, -⟩ := a_set (J := J) hr hA
    have rA := rw_A hr iA (hf r (Nat.le_refl _))
    have rB3 := rw_B hr (invB_3 hB 0)
    have hL := rwL_le (P n) r
    have q1 := a_often12 (J := J1) (v := x2) iA.1 (rwA_r hr) rA (rwL (P n) r - 1) 20000 1 0 (by omega) rfl (by omega)
    have q2 := b_often23 (J := J') (v := x2) hr rB3 (rwL (P n) r - 1) 20000 1 0 (by omega) rfl (by omega)
    rw [e, bx_Nr, b1_N, b_isRow hr, b1_N, if_neg one0]
    exact opx_r (Inv.mk ok iA (invB_3 hB 0)) q1 q2 u3
  · rw [sett_no hA hx, bx_Nl, b_isRow_no hx, b1_N, if_pos rfl, b_fail, b2_N]
    exact opx_l1 (Inv.mk ok hA (invB_3 hB 1)) rfl rfl u3
theorem op_alike {h h2 : fh_H} (i : Inv h h2) (x1 x2 : Int32) : opx none (some 1) (z_X11_alike SA h 0 x1 x2) (z_X12_alike TB h2 0 x1 x2) := by
  obtain ⟨I, J, R, I', J', n, P, t, b, fp, s, c, rfl, rfl, ok, hA, hB⟩ := i.cases
  unfold z_X11_alike z_X12_alike z_X11_placesAlike z_X12_alikeTo
  rw [let_N, sI_N]
  by_cases hx : ∃ r : Nat, r < 10 ∧ x1 = nI r
  · obtain ⟨r, hr, rfl⟩ := hx
    obtain ⟨I1, J1, R1, e, iA, hf, -⟩ := a_set (J := J) hr hA
    rw [e, bx_Nr, b1_N, b_isRow hr, b1_N, if_neg one0]
    by_cases hx2 : ∃ r : Nat, r < 10 ∧ x2 = nI r
    · obtain ⟨r2, hr2, rfl⟩ := hx2
      obtain ⟨I2, J2, R2, e2, iA2, hf2, mono⟩ := a_set (J := J1) hr2 iA
      have rA := rw_A hr iA2 (mono r (hf r (Nat.le_refl _)))
      have rA2 := rw_A hr2 iA2 (hf2 r2 (Nat.le_refl _))
      have wB := rw_B hr (invB_3 hB 0)
      have wB2 := rw_B hr2 (invB_3 hB 0)
      have hL := rwL_le (P n) r
      have q1 := a_places (J := J2) iA2.1 (rwA_r hr) (rwA_r hr2) rA rA2 (min (rwL (P n) r) (rwL (P n) r2)) 20000 0 (by omega) (by omega)
      have q2 := b_places (J := J') hr hr2 wB wB2 (min (rwL (P n) r) (rwL (P n) r2)) 20000 0 (by omega) (by omega)
      rw [nI_0] at q1 q2
      rw [e2, bx_Nr, b1_N, (rwA_k (rwA_r hr)).1, ck_N, (rwA_k (rwA_r hr2)).1, ck_N, q1, b1_N, b_isRow hr2, b1_N, if_neg one0, q2, b1_N]
      exact opx_r (Inv.mk ok iA2 (invB_3 hB 0)) rfl rfl u3
    · rw [sett_no iA hx2, bx_Nl, b_isRow_no hx2, b1_N, if_pos rfl, b_fail, b2_N]
      exact opx_l1 (Inv.mk ok iA (invB_3 hB 1)) rfl rfl u3
  · rw [sett_no hA hx, bx_Nl, b_isRow_no hx, b1_N, if_pos rfl, b_fail, b2_N]
    exact opx_l1 (Inv.mk ok hA (invB_3 hB 1)) rfl rfl u3
theorem a_unk1 {I : Nat → Nat → Int32} {J : Nat → Nat → Int64} {R : Nat → Nat → Option Nat} {a k N : Nat} (h6 : I a 6 = nI N) (hN : N ≤ 60) (hk : k < N) : z_X6_unknownAt SA (I, J, R) a (nI k) = some 0 := by
  unfold z_X6_unknownAt
  rw [a_kn1 h6 hN hk, b1_N, if_neg one0]
theorem a_unk0 {I : Nat → Nat → Int32} {J : Nat → Nat → Int64} {R : Nat → Nat → Option Nat} {a N : Nat} {x st : Int32} (h6 : I a 6 = nI N) (h7 : I a 7 = st) (hN : N ≤ 60) (hx : ¬ ∃ k, k < N ∧ x = nI k) : z_X6_unknownAt SA (I, J, R) a x = some (if st = 1 then 0 else 1) := by
  unfold z_X6_unknownAt
  rw [a_kn0 h6 hN hx, b1_N, if_pos rfl]
  simp only [h7]
  split <;> rfl
theorem nk_no {k N : Nat} (hk : N ≤ k) (h : k < 2000) : ¬ ∃ j, j < N ∧ nI k = nI j := fun ⟨j, q1, q2⟩ => by
  rw [nI_eq (by omega) (by omega)] at q2; omega
theorem op_compare {h h2 : fh_H} (i : Inv h h2) (x1 x2 : Int32) : opx none (some 1) (z_X11_compare SA h 0 x1 x2) (z_X12_compare TB h2 0 x1 x2) := by
  obtain ⟨I, J, R, I', J', n, P, t, b, fp, s, c, rfl, rfl, ok, hA, hB⟩ := i.cases
  unfold z_X11_compare z_X12_compare z_X11_placesAlike z_X12_alikeTo
  rw [let_N, sI_N]
  by_cases hx : ∃ r : Nat, r < 10 ∧ x1 = nI r
  · obtain ⟨r, hr, rfl⟩ := hx
    obtain ⟨I1, J1, R1, e, iA, hf, -⟩ := a_set (J := J) hr hA
    rw [e, bx_Nr, b1_N, b_isRow hr, b1_N, if_neg one0]
    by_cases hx2 : ∃ r : Nat, r < 10 ∧ x2 = nI r
    · obtain ⟨r2, hr2, rfl⟩ := hx2
      obtain ⟨I2, J2, R2, e2, iA2, hf2, mono⟩ := a_set (J := J1) hr2 iA
      have rA := rw_A hr iA2 (mono r (hf r (Nat.le_refl _)))
      have rA2 := rw_A hr2 iA2 (hf2 r2 (Nat.le_refl _))
      have hB0 := invB_3 hB 0
      have wB := rw_B hr hB0
      have wB2 := rw_B hr2 hB0
      have hL := rwL_le (P n) r
      have hL2 := rwL_le (P n) r2
      have q1 := a_places (J := J2) iA2.1 (rwA_r hr) (rwA_r hr2) rA rA2 (min (rwL (P n) r) (rwL (P n) r2)) 20000 0 (by omega) (by omega)
      have q2 := b_places (J := J') hr hr2 wB wB2 (min (rwL (P n) r) (rwL (P n) r2)) 20000 0 (by omega) (by omega)
      have hk := (alk_le (rwG (P n) r) (rwG (P n) r2) (min (rwL (P n) r) (rwL (P n) r2)) 0).2
      generalize hkk : alk (rwG (P n) r) (rwG (P n) r2) (min (rwL (P n) r) (rwL (P n) r2)) 0 = k at *
      rw [nI_0] at q1 q2
      rw [e2, bx_Nr, b1_N, (rwA_k (rwA_r hr)).1, ck_N, (rwA_k (rwA_r hr2)).1, ck_N, q1, b1_N, b_isRow hr2, b1_N, if_neg one0, q2, b1_N]
      have i1 : fh_in (nI r) 10 = true := in_n hr (by omega)
      have k1 : (nI r).toNatClampNeg = r := nI_clamp (by omega)
      have i2 : fh_in (nI r2) 10 = true := in_n hr2 (by omega)
      have k2 : (nI r2).toNatClampNeg = r2 := nI_clamp (by omega)
      have fin : ∀ v : Int32, opx none (some 1) (some (Sum.inr v, (I2, J2, R2))) (some (v, (fh_up I' 0 3 0, J', rB))) := fun v => opx_r (Inv.mk ok iA2 hB0) rfl rfl u3
      have par : ∀ b : Int32, (z_X11_compare_b119 SA 0 (I2, J2, R2) (nI k) 1 = some (Sum.inr ((z_X12_byPlace (nI k) 1).getD 0), (I2, J2, R2))) ∧ (z_X11_compare_b119 SA 0 (I2, J2, R2) (nI k) 0 = some (Sum.inr ((z_X12_byPlace (nI k) 0).getD 0), (I2, J2, R2))) ∧ z_X12_byPlace (nI k) 1 = some ((z_X12_byPlace (nI k) 1).getD 0) ∧ z_X12_byPlace (nI k) 0 = some ((z_X12_byPlace (nI k) 0).getD 0) := fun b => by
        unfold z_X11_compare_b119 z_X12_byPlace
        by_cases c : nI k - nI k / 2 * 2 = 0
        · simp only [if_pos c]; exact ⟨rfl, rfl, rfl, rfl⟩
        · simp only [if_neg c]; exact ⟨rfl, rfl, rfl, rfl⟩
      obtain ⟨p1, p2, p3, p4⟩ := par 0
      generalize (z_X12_byPlace (nI k) 1).getD 0 = w1 at p1 p3
      generalize (z_X12_byPlace (nI k) 0).getD 0 = w0 at p2 p4
      by_cases c1 : k < rwL (P n) r
      · rw [a_unk1 rA.1 hL c1, b1_N, if_pos rfl, b_kn1 hr wB.1 hL c1, b1_N, a_kn1 rA.1 hL c1]
        by_cases c2 : k < rwL (P n) r2
        · rw [a_unk1 rA2.1 hL2 c2, b1_N, if_pos rfl, b1_N, if_neg one0, b_kn1 hr2 wB2.1 hL2 c2, b1_N, if_neg one0, if_neg one0, b_termOf hr (show k < 60 by omega), b1_N, b_termOf hr2 (show k < 60 by omega), b1_N, wB.2.1 k c1, wB2.2.1 k c2]
          unfold z_X11_compare_b57 z_X11_compare_b88
          rw [(rwA_k (rwA_r hr2)).1, ck_N, a_kn1 rA2.1 hL2 c2, b1_N, if_neg one0, if_pos rfl, if_pos rfl, if_pos rfl, (rwA_k (rwA_r hr)).1, ck_N, a_tm iA2.1 (rwA_r hr) (show k < 60 by omega), b1_N, ck_N, a_tm iA2.1 (rwA_r hr2) (show k < 60 by omega), b1_N, rA.2.1 k c1, rA2.2.1 k c2]
          by_cases c3 : rwG (P n) r2 k ≤ rwG (P n) r k
          · rw [if_pos c3, if_pos c3, p2, p4, b1_N]; exact fin _
          · rw [if_neg c3, if_neg c3, p1, p3, b1_N]; exact fin _
        · have u2 := a_unk0 (J := J2) (R := R2) rA2.1 rA2.2.2 hL2 (nk_no (k := k) (by omega) (by omega))
          have v2 := b_kn0 (J := J') hr2 wB2.1 hL2 (nk_no (k := k) (by omega) (by omega))
          have w2 := a_kn0 (J := J2) (R := R2) rA2.1 hL2 (nk_no (k := k) (by omega) (by omega))
          unfold z_X12_compare_b83 z_X12_compare_b98 z_X12_compare_b116 z_X11_compare_b57 z_X11_compare_b88
          by_cases c3 : rwS (P n) r2 = 1
          · simp only [u2, v2, w2, b1_N, one0, if_false, eq_self, if_true, c3, rB_6, kB_N5, ck_N, lB_N5, i2, k2, wB2.2.2, p1, p3, (rwA_k (rwA_r hr2)).1]
            exact fin _
          · simp only [u2, v2, w2, b1_N, one0, if_false, eq_self, if_true, c3, rB_6, kB_N5, ck_N, lB_N5, i2, k2, wB2.2.2, p1, p3, (rwA_k (rwA_r hr2)).1]
            exact fin _
      · have u1 := a_unk0 (J := J2) (R := R2) rA.1 rA.2.2 hL (nk_no (k := k) (by omega) (by omega))
        have v1 := b_kn0 (J := J') hr wB.1 hL (nk_no (k := k) (by omega) (by omega))
        have w1' := a_kn0 (J := J2) (R := R2) rA.1 hL (nk_no (k := k) (by omega) (by omega))
        unfold z_X12_compare_b83 z_X12_compare_b98 z_X12_compare_b116 z_X11_compare_b57 z_X11_compare_b88
        by_cases c2 : k < rwL (P n) r2
        · have u2 := a_unk1 (J := J2) (R := R2) rA2.1 hL2 c2
          have v2 := b_kn1 (J := J') hr2 wB2.1 hL2 c2
          have w2 := a_kn1 (J := J2) (R := R2) rA2.1 hL2 c2
          by_cases c3 : rwS (P n) r = 1
          · simp only [u1, v1, w1', u2, v2, w2, b1_N, one0, if_false, eq_self, if_true, c3, rB_6, kB_N5, ck_N, lB_N5, i1, k1, wB.2.2, p2, p4, (rwA_k (rwA_r hr2)).1]
            exact fin _
          · simp only [u1, v1, w1', u2, v2, w2, b1_N, one0, if_false, eq_self, if_true, c3, rB_6, kB_N5, ck_N, lB_N5, i1, k1, wB.2.2, p2, p4, (rwA_k (rwA_r hr2)).1]
            exact fin _
        · have u2 := a_unk0 (J := J2) (R := R2) rA2.1 rA2.2.2 hL2 (nk_no (k := k) (by omega) (by omega))
          have v2 := b_kn0 (J := J') hr2 wB2.1 hL2 (nk_no (k := k) (by omega) (by omega))
          have w2 := a_kn0 (J := J2) (R := R2) rA2.1 hL2 (nk_no (k := k) (by omega) (by omega))
          by_cases c3 : rwS (P n) r = 1
          · by_cases c4 : rwS (P n) r2 = 1
            · simp only [u1, v1, w1', u2, v2, w2, b1_N, one0, if_false, eq_self, if_true, c3, c4, rB_6, kB_N5, ck_N, lB_N5, i1, k1, i2, k2, wB.2.2, wB2.2.2, (rwA_k (rwA_r hr2)).1]
              exact fin _
            · simp only [u1, v1, w1', u2, v2, w2, b1_N, one0, if_false, eq_self, if_true, c3, c4, rB_6, kB_N5, ck_N, lB_N5, i1, k1, i2, k2, wB.2.2, wB2.2.2, (rwA_k (rwA_r hr2)).1]
              exact fin _
          · simp only [u1, v1, w1', u2, v2, w2, b1_N, one0, if_false, eq_self, if_true, c3, rB_6, kB_N5, ck_N, lB_N5, i1, k1, i2, k2, wB.2.2, wB2.2.2, (rwA_k (rwA_r hr2)).1]
            exact fin _
    · rw [sett_no iA hx2, bx_Nl, b_isRow_no hx2, b1_N, if_pos rfl, b_fail, b2_N]
      exact opx_l1 (Inv.mk ok iA (invB_3 hB 1)) rfl rfl u3
  · rw [sett_no hA hx, bx_Nl, b_isRow_no hx, b1_N, if_pos rfl, b_fail, b2_N]
    exact opx_l1 (Inv.mk ok hA (invB_3 hB 1)) rfl rfl u3
theorem a_stopq {I : Nat → Nat → Int32} {J : Nat → Nat → Int64} {R : Nat → Nat → Option Nat} {n : Nat} {P : Nat → Rcp} {t : Nat} {b : Nat → Nat} {fp : Int32} {s : Nat} {c : Nat → Int32} (h : invA I R n P t b fp s c) (K : Int32) : ∃ I' J' R', z_X11_rowsThatStop SA (I, J, R) 0 K = some (Sum.inr (cn (fun r => decide (rwS (P n) r = K)) 10 0 0), (I', J', R')) ∧ invA I' R' n P t b fp s c := by
  obtain ⟨I1, J1, R1, e, iA, hf, -⟩ := a_set (J := J) (r := 9) (by omega) h
  refine ⟨I1, J1, R1, ?_, iA⟩
  unfold z_X11_rowsThatStop
  have e' : z_X11_settled SA (I, J, R) 0 9 = some (Sum.inr (some (58 + 6 * 9)), (I1, J1, R1)) := e
  rw [e', bx_Nr, b1_N]
  exact a_stops iA.1 (fun r hr => (rw_A hr iA (hf r (by omega))).2.2) 10 20000 0 0 (by omega) (by omega)
theorem op_count {h h2 : fh_H} (i : Inv h h2) (x : Int32) : opx none (some 1) (z_X11_count SA h 0 x) (z_X12_count TB h2 0 x) := by
  obtain ⟨I, J, R, I', J', n, P, t, b, fp, s, c, rfl, rfl, ok, hA, hB⟩ := i.cases
  have hB0 := invB_3 hB 0
  unfold z_X11_count z_X12_count z_X11_rowsOfKind z_X12_kindMany z_X12_stopMany
  rw [let_N, sI_N]
  have kA : ∀ K : Int32, z_X11_rowsOfKind_b4 SA 0 20000 (I, J, R) K 0 0 = some (cn (fun r => decide (P n r 0 = K)) 10 0 0) := fun K => a_kinds hA.1 hA.2.2.1 10 20000 0 0 (by omega) (by omega)
  have kB : ∀ K : Int32, z_X12_kindMany_b4 TB 0 20000 (fh_up I' 0 3 0, J', rB) K 0 0 = some (cn (fun r => decide (P n r 0 = K)) 10 0 0) := fun K => b_kinds hB0.1.1 10 20000 0 0 (by omega) (by omega)
  have sB : ∀ K : Int32, z_X12_stopMany_b4 TB 0 20000 (fh_up I' 0 3 0, J', rB) K 0 0 = some (cn (fun r => decide (rwS (P n) r = K)) 10 0 0) := fun K => b_stops (fun r hr => (rw_B hr hB0).2.2) 10 20000 0 0 (by omega) (by omega)
  by_cases h0 : x = 0
  · rw [if_pos h0, if_pos h0]
    obtain ⟨μ, o, -, -, h3, -⟩ := hA.2.2.2.1
    simp only [rA_0_2 hA.1, b1_N, kA_8, ck_N, h3, hB0.2.1.1]
    exact opx_r (Inv.mk ok hA hB0) rfl rfl u3
  rw [if_neg h0, if_neg h0]
  by_cases h1 : x = 1
  · rw [if_pos h1, if_pos h1]
    simp only [rA_0_6 hA.1, b1_N, kA_48, ck_N, hA.2.2.2.2.1.1, hB0.2.2.1.1]
    exact opx_r (Inv.mk ok hA hB0) rfl rfl u3
  rw [if_neg h1, if_neg h1]
  by_cases h2 : x = 2
  · rw [if_pos h2, if_pos h2, kA, b1_N, h2, kB, b1_N]
    exact opx_r (Inv.mk ok hA hB0) rfl rfl u3
  rw [if_neg h2, if_neg h2]
  by_cases h3 : x = 3
  · rw [if_pos h3, if_pos h3, kA, b1_N, h3, kB, b1_N]
    exact opx_r (Inv.mk ok hA hB0) rfl rfl u3
  rw [if_neg h3, if_neg h3]
  by_cases h4 : x = 4
  · obtain ⟨I1, J1, R1, e, iA⟩ := a_stopq (J := J) hA 0
    rw [if_pos h4, if_pos h4, e, bx_Nr, h4, sB, b1_N]
    exact opx_r (Inv.mk ok iA hB0) rfl rfl u3
  rw [if_neg h4, if_neg h4]
  by_cases h5 : x = 5
  · obtain ⟨I1, J1, R1, e, iA⟩ := a_stopq (J := J) hA 1
    rw [if_pos h5, if_pos h5, e, bx_Nr, h5, sB, b1_N]
    exact opx_r (Inv.mk ok iA hB0) rfl rfl u3
  rw [if_neg h5, if_neg h5]
  by_cases h6 : x = 6
  · obtain ⟨I1, J1, R1, e, iA⟩ := a_stopq (J := J) hA 2
    rw [if_pos h6, if_pos h6, e, bx_Nr, h6, sB, b1_N]
    exact opx_r (Inv.mk ok iA hB0) rfl rfl u3
  rw [if_neg h6, if_neg h6]
  by_cases h7 : x = 7
  · obtain ⟨I1, J1, R1, e, iA⟩ := a_stopq (J := J) hA 3
    rw [if_pos h7, if_pos h7, e, bx_Nr, h7, sB, b1_N]
    exact opx_r (Inv.mk ok iA hB0) rfl rfl u3
  rw [if_neg h7, if_neg h7, b_fail, b2_N]
  exact opx_l1 (Inv.mk ok hA (invB_3 hB 1)) rfl rfl u3
theorem op_of {h h2 : fh_H} (i : Inv h h2) (x1 x2 : Int32) : opx none (some 1) (z_X11_of SA h 0 x1 x2) (z_X12_of TB h2 0 x1 x2) := by
  obtain ⟨I, J, R, I', J', n, P, t, b, fp, s, c, rfl, rfl, ok, hA, hB⟩ := i.cases
  have hB0 := invB_3 hB 0
  unfold z_X11_of z_X12_of z_X11_rowsMadeOf z_X12_madeOf z_X6_greatestBehindFirst z_X12_greatestOf z_X6_wrappedSum
  rw [let_N, sI_N]
  by_cases hx : ∃ r : Nat, r < 10 ∧ x1 = nI r
  · obtain ⟨r, hr, rfl⟩ := hx
    obtain ⟨I1, J1, R1, e, iA, hf, -⟩ := a_set (J := J) hr hA
    have rA := rw_A hr iA (hf r (Nat.le_refl _))
    have wB := rw_B hr hB0
    have hL := rwL_le (P n) r
    have i1 : fh_in (nI r) 10 = true := in_n hr (by omega)
    have k1 : (nI r).toNatClampNeg = r := nI_clamp (by omega)
    have k6 := (rwA_k (rwA_r hr)).1
    have eI : z_X12_isIn x2.toInt64 0 6 = some (if 0 ≤ x2 ∧ x2 ≤ 6 then 1 else 0) := b_isIn x2 0 6
    have fin : ∀ v : Int32, opx none (some 1) (some (Sum.inr v, (I1, J1, R1))) (some (v, (fh_up I' 0 3 0, J', rB))) := fun v => opx_r (Inv.mk ok iA hB0) rfl rfl u3
    rw [e, bx_Nr, b1_N, b_isRow hr, b1_N, if_neg one0, eI, b1_N, k6, ck_N]
    have inn : ∀ k : Nat, k ≤ 6 → x2 = nI k → 0 ≤ x2 ∧ x2 ≤ 6 := fun k hk e => by
      rw [e]; exact ⟨nI_pos' (by omega), nI_le (b := 6) (by omega) (by omega)⟩
    by_cases h0 : x2 = 0
    · rw [if_pos h0, if_pos (inn 0 (by omega) h0), if_neg one0, if_pos h0]
      obtain ⟨m, m1, m2, m3, -⟩ := iA.2.2.1 r hr
      have o0 : z_X12_of1 TB (fh_up I' 0 3 0, J', rB) 0 (nI r) 0 = some (P n r 0) := by
        have := b_of1 (I := fh_up I' 0 3 0) (J := J') (r := r) (j := 0) hr (by omega)
        rw [hB0.1.1 r hr 0 (by omega)] at this; exact this
      simp only [m1, b1_N, (mdA_k m2).1, ck_N, m3.1, o0]
      exact fin _
    rw [if_neg h0]
    by_cases h1 : x2 = 1
    · rw [if_pos h1, if_pos (inn 1 (by omega) h1), if_neg one0, if_neg h0, if_pos h1]
      simp only [rA.1, rB_5, b1_N, kB_N4, ck_N, lB_N4, i1, k1, wB.1]
      exact fin _
    rw [if_neg h1]
    by_cases h2 : x2 = 2
    · rw [if_pos h2, if_pos (inn 2 (by omega) h2), if_neg one0, if_neg h0, if_neg h1, if_pos h2]
      simp only [rA.2.2, rB_6, b1_N, kB_N5, ck_N, lB_N5, i1, k1, wB.2.2]
      exact fin _
    rw [if_neg h2]
    by_cases h3 : x2 = 3
    · rw [if_pos h3, if_pos (inn 3 (by omega) h3), if_neg one0, if_neg h0, if_neg h1, if_neg h2, if_pos h3]
      have r8 := (a_fresh hr iA (hf r (Nat.le_refl _))).2.1
      have r6 := (hB0.1.2 r hr).2.1
      simp only [r8, rB_7, b1_N, kB_N6, ck_N, lB_N6, i1, k1, r6]
      exact fin _
    rw [if_neg h3]
    by_cases h4 : x2 = 4
    · have q1 := a_great (J := J1) iA.1 (rwA_r hr) rA (rwL (P n) r - 1) 20000 1 0 (by omega) rfl (by omega)
      have q2 := b_great (J := J') hr wB (rwL (P n) r - 1) 20000 1 0 (by omega) rfl (by omega)
      have q1' : z_X6_greatestBehindFirst_b4 SA (58 + 6 * r) 20000 (I1, J1, R1) 0 1 = _ := q1
      have q2' : z_X12_greatestOf_b4 TB 0 20000 (fh_up I' 0 3 0, J', rB) (nI r) 0 1 = _ := q2
      rw [if_pos h4, if_pos (inn 4 (by omega) h4), if_neg one0, if_neg h0, if_neg h1, if_neg h2, if_neg h3, if_pos h4, q1', b1_N, q2', b1_N]
      exact fin _
    rw [if_neg h4]
    by_cases h5 : x2 = 5
    · have q1 := a_wsum (J := J1) iA.1 (rwA_r hr) rA (rwL (P n) r) 20000 0 0 (by omega) (by omega) (by omega)
      have q1' : z_X6_wrappedSum_b4 SA (58 + 6 * r) 20000 (I1, J1, R1) 0 0 = _ := q1
      rw [if_pos h5, if_pos (inn 5 (by omega) h5), if_neg one0, if_neg h0, if_neg h1, if_neg h2, if_neg h3, if_neg h4, if_pos h5, q1', b1_N]
      simp only [rB_5, b1_N, kB_N4, ck_N, lB_N4, i1, k1, wB.1, b_sum hr wB (Nat.le_refl _), sml_i]
      exact fin _
    rw [if_neg h5]
    by_cases h6 : x2 = 6
    · have q1 := a_madeOf (J := J1) (x := nI r) iA.1 iA.2.2.1 10 20000 0 0 (by omega) (by omega)
      have q2 := b_madeOf (J := J') (x := nI r) hB0.1.1 (ok.1 n (Nat.le_refl _)) 10 20000 0 0 (by omega) (by omega)
      have q1' : z_X11_rowsMadeOf_b4 SA 0 20000 (I1, J1, R1) (nI r) 0 0 = _ := q1
      have q2' : z_X12_madeOf_b4 TB 0 20000 (fh_up I' 0 3 0, J', rB) (nI r) 0 0 = _ := q2
      rw [if_pos h6, if_pos (inn 6 (by omega) h6), if_neg one0, if_neg h0, if_neg h1, if_neg h2, if_neg h3, if_neg h4, if_neg h5, q1', b1_N, q2', b1_N]
      exact fin _
    have hno : ¬ (0 ≤ x2 ∧ x2 ≤ 6) := fun q => by
      obtain ⟨k, hk, e⟩ := nI_of2 (M := 6) (n := 6) rfl (i32_nlt.mpr q.1) q.2
      rcases (by omega : k = 0 ∨ k = 1 ∨ k = 2 ∨ k = 3 ∨ k = 4 ∨ k = 5 ∨ k = 6) with rfl | rfl | rfl | rfl | rfl | rfl | rfl
      · exact h0 e
      · exact h1 e
      · exact h2 e
      · exact h3 e
      · exact h4 e
      · exact h5 e
      · exact h6 e
    rw [if_neg h6, if_neg hno, if_pos rfl, b_fail, b2_N]
    exact opx_l1 (Inv.mk ok iA (invB_3 hB 1)) rfl rfl u3
  · rw [sett_no hA hx, bx_Nl, b_isRow_no hx, b1_N, if_pos rfl, b_fail, b2_N]
    exact opx_l1 (Inv.mk ok hA (invB_3 hB 1)) rfl rfl u3
