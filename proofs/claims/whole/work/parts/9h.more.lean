/-! read, said, left, floor, would -/
theorem in_iff {x : Int32} {N : Nat} (hN : N < 2 ^ 31) : (0 ≤ x ∧ x ≤ nI N) ↔ ∃ k, k ≤ N ∧ x = nI k := by
  constructor
  · rintro ⟨a, q⟩
    obtain ⟨j, hj, e⟩ := nI_of (i32_nlt.mpr a)
    rw [e, nI_leI hj hN] at q
    exact ⟨j, q, e⟩
  · rintro ⟨i, hi, rfl⟩
    exact ⟨nI_pos' (by omega), nI_le hi hN⟩
theorem b_in1 {x : Int32} {N : Nat} (hN : N < 2 ^ 31) (h : ∃ k, k ≤ N ∧ x = nI k) : z_X12_isIn x.toInt64 0 (nI N).toInt64 = some 1 := by
  rw [show (0 : Int64) = (0 : Int32).toInt64 from rfl, b_isIn, if_pos ((in_iff hN).mpr h)]
theorem b_in0 {x : Int32} {N : Nat} (hN : N < 2 ^ 31) (h : ¬ ∃ k, k ≤ N ∧ x = nI k) : z_X12_isIn x.toInt64 0 (nI N).toInt64 = some 0 := by
  rw [show (0 : Int64) = (0 : Int32).toInt64 from rfl, b_isIn, if_neg (fun q => h ((in_iff hN).mp q))]
theorem a_rd1 {I : Nat → Nat → Int32} {J : Nat → Nat → Int64} {R : Nat → Nat → Option Nat} (hR : RA R) {a k : Nat} (ha : rwA a) (hk : k < 60) : z_X6_firstReadsAt SA (I, J, R) a (nI k) = some (I (a + 2) k) := by
  have c0 : ¬ nI k < 0 := nI_pos (by omega)
  have c1 : ¬ Int32.ofNat 60 ≤ nI k := nI_ge (b := 60) hk (by omega)
  have i1 : fh_in (nI k) 60 = true := in_n hk (by omega)
  have k1 : (nI k).toNatClampNeg = k := nI_clamp (by omega)
  unfold z_X6_firstReadsAt
  simp only [c0, if_false, (rA_arr hR ha).2.1, b1_N, (rwA_k ha).2.2.1, ck_N, (rwA_l ha).2.1, c1, i1, k1]
theorem a_rd2 {I : Nat → Nat → Int32} {J : Nat → Nat → Int64} {R : Nat → Nat → Option Nat} (hR : RA R) {a k : Nat} (ha : rwA a) (hk : k < 60) : z_X6_secondReadsAt SA (I, J, R) a (nI k) = some (I (a + 3) k) := by
  have c0 : ¬ nI k < 0 := nI_pos (by omega)
  have c1 : ¬ Int32.ofNat 60 ≤ nI k := nI_ge (b := 60) hk (by omega)
  have i1 : fh_in (nI k) 60 = true := in_n hk (by omega)
  have k1 : (nI k).toNatClampNeg = k := nI_clamp (by omega)
  unfold z_X6_secondReadsAt
  simp only [c0, if_false, (rA_arr hR ha).2.2, b1_N, (rwA_k ha).2.2.2, ck_N, (rwA_l ha).2.2, c1, i1, k1]
theorem op_read {h h2 : fh_H} (i : Inv h h2) (x1 x2 x3 : Int32) : opx none (some 1) (z_X11_read SA h 0 x1 x2 x3) (z_X12_read TB h2 0 x1 x2 x3) := by
  obtain ⟨I, J, R, I', J', n, P, t, b, fp, s, c, rfl, rfl, ok, hA, hB⟩ := i.cases
  have hB0 := invB_3 hB 0
  unfold z_X11_read z_X12_read
  rw [let_N, sI_N]
  by_cases hx : ∃ r : Nat, r < 10 ∧ x1 = nI r
  · obtain ⟨r, hr, rfl⟩ := hx
    obtain ⟨I1, J1, R1, e, iA, hf, -⟩ := a_set (J := J) hr hA
    have rA := rw_A hr iA (hf r (Nat.le_refl _))
    have wB := rw_B hr hB0
    have hL := rwL_le (P n) r
    obtain ⟨m, m1, m2, m3, -⟩ := iA.2.2.1 r hr
    have o0 : z_X12_of1 TB (fh_up I' 0 3 0, J', rB) 0 (nI r) 0 = some (P n r 0) := by
      have := b_of1 (I := fh_up I' 0 3 0) (J := J') (r := r) (j := 0) hr (by omega)
      rw [hB0.1.1 r hr 0 (by omega)] at this; exact this
    have bad : opx none (some 1) (some (Sum.inl 1, (I1, J1, R1))) (some (0, (fh_up I' 0 3 1, J', rB))) := opx_l1 (Inv.mk ok iA (invB_3 hB 1)) rfl rfl u3
    have fin : ∀ v : Int32, opx none (some 1) (some (Sum.inr v, (I1, J1, R1))) (some (v, (fh_up I' 0 3 0, J', rB))) := fun v => opx_r (Inv.mk ok iA hB0) rfl rfl u3
    rw [e, bx_Nr, b1_N, (rwA_k (rwA_r hr)).1, ck_N, b_isRow hr, b1_N, if_neg one0, o0, b1_N]
    unfold z_X12_read_b27
    by_cases hk : ∃ k, k < rwL (P n) r ∧ x2 = nI k
    · obtain ⟨k, hk, rfl⟩ := hk
      have v1 := b_kn1 (J := J') hr wB.1 hL hk
      have e60 : (60 : Int32) * nI r + nI k = nI (60 * r + k) := by rw [show (60 : Int32) = nI 60 from rfl, nI_mul, nI_add]
      have i1 : fh_in (nI (60 * r + k)) 600 = true := in_n (by omega) (by omega)
      have k1 : (nI (60 * r + k)).toNatClampNeg = 60 * r + k := nI_clamp (by omega)
      have d1 := a_rd1 (I := I1) (J := J1) iA.1 (rwA_r hr) (show k < 60 by omega)
      have d2 := a_rd2 (I := I1) (J := J1) iA.1 (rwA_r hr) (show k < 60 by omega)
      rw [a_req1 rA.1 hL hk, bx_Nr]
      simp only [m1, b1_N, (mdA_k m2).1, ck_N, let_N, m3.1, v1, one0, if_false]
      unfold z_X11_read_b49
      have dAr := (a_fresh hr iA (hf r (Nat.le_refl _))).2.2
      have dBr := (hB0.1.2 r hr).2.2
      by_cases k4 : P n r 0 = 4
      · have n3 : ¬ (4 : Int32) < 3 := by decide
        have n4 : ¬ (4 : Int32) < 4 := by decide
        have qa := dAr (Or.inr k4)
        have qb := dBr (Or.inr k4)
        have ea1 := qa.1 k (by rw [List.length_map]; exact hk)
        have ea2 := qa.2 k (by rw [List.length_map]; exact hk)
        have eb1 := qb.1 k (by rw [List.length_map]; exact hk)
        have eb2 := qb.2 k (by rw [List.length_map]; exact hk)
        rw [Nat.zero_add] at ea1 ea2
        by_cases c3 : x3 = 0
        · simp only [k4, if_true, c3, (rwA_k (rwA_r hr)).1, ck_N, d1, b1_N, n3, if_false, rB_8, kB_N7, lB_N7, e60, i1, k1, ea1, eb1]
          exact fin _
        · simp only [k4, if_true, c3, (rwA_k (rwA_r hr)).1, ck_N, d2, b1_N, n4, if_false, rB_9, kB_N8, lB_N8, e60, i1, k1, ea2, eb2]
          exact fin _
      · by_cases k3 : P n r 0 = 3
        · have n3 : ¬ (3 : Int32) < 3 := by decide
          have n4 : (3 : Int32) < 4 := by decide
          have n34 : ¬ (3 : Int32) = 4 := by decide
          have qa := dAr (Or.inl k3)
          have qb := dBr (Or.inl k3)
          have ea1 := qa.1 k (by rw [List.length_map]; exact hk)
          have eb1 := qb.1 k (by rw [List.length_map]; exact hk)
          rw [Nat.zero_add] at ea1
          by_cases c3 : x3 = 0
          · simp only [k3, n34, if_true, c3, (rwA_k (rwA_r hr)).1, ck_N, d1, b1_N, n3, if_false, rB_8, kB_N7, lB_N7, e60, i1, k1, ea1, eb1]
            exact fin _
          · simp only [k3, n34, c3, n4, if_false, if_true, b_fail, b2_N]
            exact bad
        · have l4 : P n r 0 < 4 ∧ P n r 0 < 3 := by
            rcases okr_k (ok.1 n (Nat.le_refl _) r hr) with q | q | q | q | q
            · rw [q]; decide
            · rw [q]; decide
            · rw [q]; decide
            · exact absurd q k3
            · exact absurd q k4
          by_cases c3 : x3 = 0
          · simp only [k4, k3, c3, l4.2, if_false, if_true, b_fail, b2_N]
            exact bad
          · simp only [k4, k3, c3, l4.1, if_false, if_true, b_fail, b2_N]
            exact bad
    · have v0 := b_kn0 (J := J') hr wB.1 hL hk
      rw [a_req0 rA.1 hL hk, bx_Nl]
      simp only [v0, b1_N, if_true, b_fail, b2_N, ite_self]
      exact bad
  · rw [sett_no hA hx, bx_Nl, b_isRow_no hx, b1_N, if_pos rfl, b_fail, b2_N]
    exact opx_l1 (Inv.mk ok hA (invB_3 hB 1)) rfl rfl u3
theorem op_said {h h2 : fh_H} (i : Inv h h2) (x : Int32) {KK : fh_H → fh_H → Option Unit} (hK : ∀ h h2, Inv h h2 → KK h h2 = some ()) : fh_b1 (z_X11_said SA h 0 x) (fun r2 => fh_b2 (z_X12_said TB h2 0 x) (fun r4 h6 => if r2 = r4 then (KK h h6) else none)) = some () := by
  obtain ⟨I, J, R, I', J', n, P, t, b, fp, s, c, rfl, rfl, ok, hA, hB⟩ := i.cases
  have hB0 := invB_3 hB 0
  have hR := hA.1
  obtain ⟨s1, s2⟩ := hA.2.2.2.2.2
  obtain ⟨t1, t2⟩ := hB0.2.2.2
  have hs := ok.2.2.2
  have key : ∃ v, z_X11_said SA (I, J, R) 0 x = some v ∧ z_X12_said TB (I', J', rB) 0 x = some (v, (fh_up I' 0 3 0, J', rB)) := by
    unfold z_X11_said z_X12_said z_X8_byteAt
    by_cases hx : ∃ k, k < s ∧ x = nI k
    · obtain ⟨k, hk, rfl⟩ := hx
      have c0 : ¬ nI k < 0 := nI_pos (by omega)
      have c1 : ¬ nI s ≤ nI k := nI_ge hk (by omega)
      have c2 : ¬ Int32.ofNat 800 ≤ nI k := nI_ge (b := 800) (by omega) (by omega)
      have i1 : fh_in (nI k) 800 = true := in_n (by omega) (by omega)
      have i2 : fh_in (nI k) 900 = true := in_n (by omega) (by omega)
      have k1 : (nI k).toNatClampNeg = k := nI_clamp (by omega)
      have e1 : nI s - 1 = nI (s - 1) := nI_subn (b := 1) (by omega)
      have q := b_in1 (N := s - 1) (by omega) ⟨k, by omega, rfl⟩ (x := nI k)
      refine ⟨c k, ?_, ?_⟩
      · simp only [rA_0_9 hR, b1_N, kA_56, ck_N, c0, if_false, s1, c1, rA_56_0 hR, kA_57, lA_57, c2, i1, k1, s2 k hk]
      · simp only [let_N, sI_N, t1, e1, q, b1_N, one0, if_false, rB_31, kB_N15, ck_N, lB_N15, i2, k1, t2 k hk]
    · refine ⟨-1, ?_, ?_⟩
      · by_cases c0 : x < 0
        · simp only [rA_0_9 hR, b1_N, kA_56, ck_N, c0, if_true]
        · obtain ⟨j, hj, rfl⟩ := nI_of c0
          have c1 : nI s ≤ nI j := nI_le (Nat.not_lt.mp (fun q => hx ⟨j, q, rfl⟩)) hj
          simp only [rA_0_9 hR, b1_N, kA_56, ck_N, c0, if_false, s1, c1, if_true]
      · have q : z_X12_isIn x.toInt64 0 (nI s - 1).toInt64 = some 0 := by
          by_cases h0 : s = 0
          · rw [show (0 : Int64) = (0 : Int32).toInt64 from rfl, b_isIn, if_neg]
            rintro ⟨a, q⟩
            rw [h0] at q
            have h1 := Int32.le_iff_toInt_le.mp a
            have h2 := Int32.le_iff_toInt_le.mp q
            have h3 : (0 : Int32).toInt = 0 := rfl
            have h4 : (nI 0 - 1).toInt = -1 := rfl
            omega
          · rw [show nI s - 1 = nI (s - 1) from nI_subn (b := 1) (by omega)]
            exact b_in0 (by omega) (fun ⟨k, a1, a2⟩ => hx ⟨k, by omega, a2⟩)
        simp only [let_N, sI_N, t1, q, b1_N, if_true]
  obtain ⟨v, e1, e2⟩ := key
  rw [e1, b1_N, e2, b2_N, if_pos rfl]
  exact hK _ _ (Inv.mk ok hA hB0)
theorem a_left117 {I : Nat → Nat → Int32} {R : Nat → Nat → Option Nat} {p d q : Int64} {k : Nat} {x3 : Int32} (hR : RA R) (hk : k < 60) (hne : ∀ j, j ≤ 100 → ¬ (rst p d q j).2 = 0) : ∀ (m fuel : Nat) (J : Nat → Nat → Int64) (j : Nat), m < fuel → j + m = k → surdA J p d q j →
    ∃ J', z_X11_left_b117 SA 0 fuel (I, J, R) (nI k) x3 (nI j) = some (Sum.inr (if x3 = 0 then (rst p d q k).1.toInt32 else (rst p d q k).2.toInt32), (I, J', R)) := by
  intro m
  induction m with
  | zero =>
    intro fuel J j hf hm h
    obtain ⟨f, rfl⟩ : ∃ f, fuel = f + 1 := ⟨fuel - 1, by omega⟩
    obtain rfl : j = k := by omega
    refine ⟨J, ?_⟩
    rw [z_X11_left_b117, if_pos (nI_le (Nat.le_refl _) (by omega))]
    simp only [rA_0_4 hR, b1_N, kA_46, ck_N, h.1, h.2.2.1]
    split <;> rfl
  | succ m ih =>
    intro fuel J j hf hm h
    obtain ⟨f, rfl⟩ : ∃ f, fuel = f + 1 := ⟨fuel - 1, by omega⟩
    obtain ⟨J1, e1, h1⟩ := a_leave (I := I) (R := R) h (hne j (by omega))
    obtain ⟨J2, e2⟩ := ih f J1 (j + 1) (by omega) (by omega) h1
    refine ⟨J2, ?_⟩
    rw [z_X11_left_b117, if_neg (nI_ge (show j < k by omega) (by omega))]
    simp only [rA_0_4 hR, b1_N, kA_46, ck_N, a_whole h (hne j (by omega)), e1, let_N, nI_1, e2]
theorem op_left {h h2 : fh_H} (i : Inv h h2) (x1 x2 x3 : Int32) : opx none (some 1) (z_X11_left SA h 0 x1 x2 x3) (z_X12_left TB h2 0 x1 x2 x3) := by
  obtain ⟨I, J, R, I', J', n, P, t, b, fp, s, c, rfl, rfl, ok, hA, hB⟩ := i.cases
  have hB0 := invB_3 hB 0
  unfold z_X11_left z_X12_left
  rw [let_N, sI_N]
  have bad : opx none (some 1) (some (Sum.inl 1, (I, J, R))) (some (0, (fh_up I' 0 3 1, J', rB))) := opx_l1 (Inv.mk ok hA (invB_3 hB 1)) rfl rfl u3
  by_cases hx : ∃ r : Nat, r < 10 ∧ x1 = nI r
  · obtain ⟨r, hr, rfl⟩ := hx
    obtain ⟨m, m1, m2, m3, m4, -⟩ := hA.2.2.1 r hr
    have o : ∀ j, j < 109 → z_X12_of1 TB (fh_up I' 0 3 0, J', rB) 0 (nI r) (nI j) = some (P n r j) := fun j hj => by rw [b_of1 hr hj, hB0.1.1 r hr j hj]
    have o0 : z_X12_of1 TB (fh_up I' 0 3 0, J', rB) 0 (nI r) 0 = some (P n r 0) := o 0 (by decide)
    have k6 := (rwA_k (rwA_r hr)).1
    have k3 := (mdA_k m2).1
    rw [a_find hA.1 hr, b1_N, nn_Ns, b_isRow hr, b1_N, if_neg one0, o0, b1_N]
    by_cases hk : P n r 0 = 1
    · obtain ⟨g3, g4, g5⟩ := m3.2.2.1 hk
      have okr1 : okR (P n r 1) (P n r 2) (P n r 3) := by
        rcases m4 with ⟨q, -⟩ | ⟨q, w⟩ | ⟨q, -⟩ | ⟨q, -⟩ | ⟨q, -⟩
        · rw [hk] at q; exact absurd q (by decide)
        · exact w
        · rw [hk] at q; exact absurd q (by decide)
        · rw [hk] at q; exact absurd q (by decide)
        · rw [hk] at q; exact absurd q (by decide)
      obtain ⟨d, hd, ed⟩ := okR_d okr1
      have sA : z_X11_isSquare (P n r 2).toInt64 = some (if wr (P n r 2).toInt64 * wr (P n r 2).toInt64 = (P n r 2).toInt64 then 1 else 0) := by rw [ed]; exact a_isSq (by omega)
      have sB := b_isSq (I := fh_up I' 0 3 0) (J := J') hr okr1 (hB0.1.1 r hr 2 (by decide))
      simp only [k6, k3, ck_N, m1, b1_N, m3.1, hk, if_true, g4, sA, sB]
      by_cases hq : wr (P n r 2).toInt64 * wr (P n r 2).toInt64 = (P n r 2).toInt64
      · simp only [hq, if_true, one0, if_false, b_fail, b2_N]
        exact bad
      · simp only [hq, if_true, if_false]
        by_cases hk2 : ∃ k, k ≤ 59 ∧ x2 = nI k
        · have q1 : z_X12_isIn x2.toInt64 0 59 = some 1 := b_in1 (N := 59) (by omega) hk2
          obtain ⟨k, hk, rfl⟩ := hk2
          have c0 : ¬ nI k < 0 := nI_pos (by omega)
          have c1 : ¬ (60 : Int32) ≤ nI k := nI_ge (b := 60) (by omega) (by omega)
          simp only [q1, c0, c1, b1_N, one0, if_false]
          by_cases hw : ∃ w, w ≤ 1 ∧ x3 = nI w
          · have q2 : z_X12_isIn x3.toInt64 0 1 = some 1 := b_in1 (N := 1) (by omega) hw
            have hw' : x3 = 0 ∨ x3 = 1 := by
              obtain ⟨w, hw, e⟩ := hw
              rcases (by omega : w = 0 ∨ w = 1) with rfl | rfl
              · exact Or.inl e
              · exact Or.inr e
            obtain ⟨J1, e1, h1⟩ := a_start (I := I) (J := J) (R := R) okr1 hq
            obtain ⟨J2, e2⟩ := a_left117 (I := I) (x3 := x3) hA.1 (show k < 60 by omega) (fun j hj => rst_ne okr1 hq hj) k 20000 J1 0 (by omega) (by omega) h1
            have e80 : z_X11_left_b80 SA 0 (I, J, R) (nI k) x3 (58 + 6 * r) = some (Sum.inr (if x3 = 0 then (rst (P n r 1).toInt64 (P n r 2).toInt64 (P n r 3).toInt64 k).1.toInt32 else (rst (P n r 1).toInt64 (P n r 2).toInt64 (P n r 3).toInt64 k).2.toInt32), (I, J2, R)) := by
              unfold z_X11_left_b80
              simp only [rA_0_4 hA.1, b1_N, k6, ck_N, m1, k3, kA_46, g3, g4, g5, e1]
              exact e2
            obtain ⟨J3, e3, -, e4⟩ := b_states (J := J') hr okr1 hq (hB0.1.1 r hr 1 (by decide)) (hB0.1.1 r hr 2 (by decide)) (hB0.1.1 r hr 3 (by decide))
            have i1 : fh_in (nI k) 60 = true := in_n (by omega) (by omega)
            have k1 : (nI k).toNatClampNeg = k := nI_clamp (by omega)
            simp only [e80, q2, b1_N, one0, if_false, e3, rB_10, rB_11, kB_N9, kB_N10, ck_N, lB_N9, lB_N10, i1, k1, (e4 k (by omega)).1, (e4 k (by omega)).2]
            rcases hw' with hw' | hw'
            · simp only [hw', if_true]
              exact opx_r (Inv.mk ok hA hB0) rfl rfl u3
            · simp only [hw', one0, if_false, if_true]
              exact opx_r (Inv.mk ok hA hB0) rfl rfl u3
          · have q2 : z_X12_isIn x3.toInt64 0 1 = some 0 := b_in0 (N := 1) (by omega) hw
            have w0 : ¬ x3 = 0 := fun e => hw ⟨0, by omega, e⟩
            have w1 : ¬ x3 = 1 := fun e => hw ⟨1, by omega, e⟩
            simp only [w0, w1, if_false, q2, b1_N, if_true, b_fail, b2_N]
            exact bad
        · have q1 : z_X12_isIn x2.toInt64 0 59 = some 0 := b_in0 (N := 59) (by omega) hk2
          simp only [q1, b1_N, if_true, b_fail, b2_N]
          by_cases c0 : x2 < 0
          · rw [if_pos c0]; exact bad
          · rw [if_neg c0]
            obtain ⟨j, hj, rfl⟩ := nI_of c0
            have c1 : (60 : Int32) ≤ nI j := nI_le (a := 60) (Nat.not_lt.mp (fun q => hk2 ⟨j, by omega, rfl⟩)) hj
            rw [if_pos c1]; exact bad
    · simp only [k6, k3, ck_N, m1, b1_N, m3.1, hk, if_false, b_fail, b2_N]
      exact bad
  · rw [a_find_no hA.1 hx, b1_N, nn_Nn, b_isRow_no hx, b1_N, if_pos rfl, b_fail, b2_N]
    exact bad
/-! a term of another number by a row -/
def trd (X : List Int32 × Int32) (σ : rS) (k : Nat) : Int32 := if k < (al X X (k + 1) 200 σ []).1.length then ((al X X (k + 1) 200 σ []).1.getD k (0, 0, 0)).1 else -1000000000
theorem getD_map1 (l : List rT) {k : Nat} (hk : k < l.length) : (l.map (fun t => t.1)).getD k 0 = (l.getD k (0, 0, 0)).1 := by
  simp [List.getD_eq_getElem?_getD, hk]
theorem a_tried {I : Nat → Nat → Int32} {J : Nat → Nat → Int64} {R : Nat → Nat → Option Nat} {n : Nat} {P : Nat → Rcp} {t : Nat} {b : Nat → Nat} {fp : Int32} {s : Nat} {c : Nat → Int32} {r k : Nat} {a0 b0 c0 d0 : Int32} (hr : r < 10) (hk : k < 60) (h : invA I R n P t b fp s c) (h5 : I (58 + 6 * r) 5 = 0) :
    ∃ I' J' R', fh_b1 (z_X5_startSingle SA (I, J, R) 43 (some (58 + 6 * r)) a0 b0 c0 d0) (fun h10 => fh_b2 (z_X11_triedTerm SA h10 0 (nI k)) (fun r12 h13 => some ((Sum.inr r12 : Nat ⊕ Int32), h13))) = some (Sum.inr (trd (dsr (dd (P n) r)) (s0 a0 b0 c0 d0) k), (I', J', R')) ∧ invA I' R' n P t b fp s c := by
  have hR := h.1
  obtain ⟨J1, e1, hk1⟩ := a_stS (I := I) (J := J) h.2.1 (x := 58 + 6 * r) (a := a0) (b := b0) (c := c0) (d := d0)
  obtain ⟨R1, eR1⟩ : ∃ z, z = fh_up (fh_up R 43 2 (some (58 + 6 * r))) 43 3 none := ⟨_, rfl⟩
  rw [← eR1] at e1 hk1
  have hR1 : RA R1 := by rw [eR1]; exact RA_43 (RA_43 hR 2 _) 3 _
  obtain ⟨I2, eI2⟩ : ∃ z, z = fh_up (fh_up (fh_up (I43 I 1) 2 6 0) 2 7 0) 2 8 0 := ⟨_, rfl⟩
  have hcl : z_X6_clear SA (I43 I 1, J1, R1) 2 = some (I2, J1, R1) := by rw [eI2]; rfl
  have o2 : ∀ b j, b ≠ 2 → b ≠ 43 → I2 b j = I b j := fun b j q1 q2 => by
    rw [eI2, up_a _ _ _ _ q1, up_a _ _ _ _ q1, up_a _ _ _ _ q1, I43_o j q2]
  have hk2 : rkA I2 J1 R1 (s0 a0 b0 c0 d0) := by
    have q : ∀ j, I2 43 j = I43 I 1 43 j := fun j => by rw [eI2, up_a _ _ _ _ (by decide), up_a _ _ _ _ (by decide), up_a _ _ _ _ (by decide)]
    unfold rkA at hk1 ⊢
    simp only [q]
    exact hk1
  have hd := a_fresh hr h h5
  have hsrc : srcA I2 R1 2 2 (dsr (dd (P n) r)) := by
    refine ⟨58 + 6 * r, rwA_r hr, by omega, by rw [eR1, up_k _ _ _ _ (by decide), up_s], ?_, by rw [dsr_len]; exact dd_len _ _⟩
    obtain ⟨q1, q2, q3⟩ := rowA_ex hd
    exact ⟨by rw [o2 _ _ (by omega) (by omega)]; exact q1, lst_cong q2 (fun j _ _ => o2 _ _ (by omega) (by omega)), by rw [o2 _ _ (by omega) (by omega)]; exact q3⟩
  obtain ⟨I3, J3, R3, e3, hF3, hR3, fR3, hrow, hh3⟩ := a_runX (most := k + 1) (two := false) (Y := dsr (dd (P n) r)) hR1 (Or.inl rfl) (by omega) hk2 (s0_ok _ _ _ _ _ _) hsrc (fun h => by cases h) (by rw [eI2, up_k _ _ _ _ (by decide), up_k _ _ _ _ (by decide), up_s])
  have hlen := al_len (dsr (dd (P n) r)) (dsr (dd (P n) r)) (k + 1) 200 (s0 a0 b0 c0 d0) [] (Nat.zero_le _)
  refine ⟨I3, J3, R3, ?_, invA_keep h (fun b j q => ?_) hR3 hh3 (fun b j q1 q2 => by rw [fR3 b j q1, eR1, up_a _ _ _ _ q1, up_a _ _ _ _ q1])⟩
  · rw [e1, b1_N]
    unfold z_X11_triedTerm
    obtain ⟨⟨w6, w1, -, -⟩, -, -⟩ := hrow
    unfold trd
    by_cases c1 : k < (al (dsr (dd (P n) r)) (dsr (dd (P n) r)) (k + 1) 200 (s0 a0 b0 c0 d0) []).1.length
    · have v := w1 k (by rw [List.length_map]; exact c1)
      rw [Nat.zero_add, getD_map1 _ c1] at v
      have v' : I3 3 k = _ := v
      simp only [rA_0_1 hR1, b1_N, kA_2, ck_N, hcl, rA_0_3 hR1, kA_43, nI_1, e3, rA_0_1 hR3, a_kn1 w6 (by omega) c1, one0, if_false, a_tm hR3 (Or.inl rfl) hk, v', b2_N, c1, if_true]
    · simp only [rA_0_1 hR1, b1_N, kA_2, ck_N, hcl, rA_0_3 hR1, kA_43, nI_1, e3, rA_0_1 hR3, a_kn0 w6 (by omega) (nk_no (k := k) (by omega) (by omega)), if_true, b2_N, c1, if_false]
  · unfold kpA at q
    rw [aF_out hF3 ⟨by omega, by omega⟩ j, o2 _ _ (by omega) (by omega)]
theorem b_told15 {X : List Int32 × Int32} {i j k : Nat} (hk : k < 60) : ∀ (m fuel n : Nat) (I : Nat → Nat → Int32) (J : Nat → Nat → Int64) (σ : rS) (out : List rT), m < fuel → out.length + m = k + 1 → rmu false X X σ + m + 1 ≤ n → rkB I J false i j σ → rOK false X X σ → srcB I i X → (0 < out.length → (out.getD (out.length - 1) (0, 0, 0)).1 = (J 0 25).toInt32) →
    ∃ I' J', z_X12_toldBySingle_b15 TB 0 fuel (I, J, rB) (nI k) (nI out.length) = some (if k < (al X X (k + 1) n σ out).1.length then ((al X X (k + 1) n σ out).1.getD k (0, 0, 0)).1 else -1000000000, (I', J', rB)) ∧ sF I I' := by
  intro m
  induction m with
  | zero =>
    intro fuel n I J σ out hf hm hn h ok hX hq
    obtain ⟨f, rfl⟩ : ∃ f, fuel = f + 1 := ⟨fuel - 1, by omega⟩
    obtain ⟨n, rfl⟩ : ∃ n', n = n' + 1 := ⟨n - 1, by omega⟩
    obtain ⟨A, B, x, y, s, e1, e2, tk⟩ := σ
    refine ⟨I, J, ?_, fun _ _ _ => rfl⟩
    have q := hq (by omega)
    rw [show out.length - 1 = k by omega] at q
    have ea : al X X (k + 1) (n + 1) (A, B, x, y, s, e1, e2, tk) out = (out, 0, nI (x + y)) := by
      rw [al, if_pos (show k + 1 ≤ out.length by omega)]
    rw [z_X12_toldBySingle_b15, if_pos (nI_lt (by omega) (by omega)), ea, if_pos (show k < out.length by omega)]
    show some ((J 0 25).toInt32, (I, J, rB)) = some ((out.getD k (0, 0, 0)).1, (I, J, rB))
    rw [q]
  | succ m ih =>
    intro fuel n I J σ out hf hm hn h ok hX hq
    obtain ⟨f, rfl⟩ : ∃ f, fuel = f + 1 := ⟨fuel - 1, by omega⟩
    obtain ⟨I1, J1, c, e, hF, hr1⟩ := b_goes2 (most := k + 1) (n := n) (out := out) (by omega) (by omega) h ok hX (fun h => by cases h)
    rw [z_X12_toldBySingle_b15, if_neg (nI_nlt (by omega) (by omega)), e, b2_N]
    rcases hr1 with ⟨rfl, t, q, n', a1, a2, a3, a4, a5, a6⟩ | ⟨hc, x, y, a1, a2, a3⟩
    · rw [if_pos rfl, let_N, nI_1, a1]
      obtain ⟨I2, J2, e2, hF2⟩ := ih f n' I1 J1 t (out ++ [(q.toInt32, nI t.2.2.1, nI t.2.2.2.1)]) (by omega) (by rw [List.length_append, List.length_singleton]; omega) (by omega) a3 a4 (srcB_s hF hX) (fun _ => by rw [a2, List.length_append, List.length_singleton, Nat.add_sub_cancel]; simp)
      rw [List.length_append, List.length_singleton] at e2
      exact ⟨I2, J2, e2, fun b k' hb => (hF2 b k' hb).trans (hF b k' hb)⟩
    · rw [if_neg hc, a1, if_neg (by show ¬ k < out.length; omega)]
      exact ⟨I1, J1, rfl, hF⟩
theorem b_tried {I : Nat → Nat → Int32} {J : Nat → Nat → Int64} {n : Nat} {P : Nat → Rcp} {t : Nat} {b : Nat → Nat} {fp : Int32} {s : Nat} {c : Nat → Int32} {r k : Nat} {a0 b0 c0 d0 : Int32} (hr : r < 10) (hk : k < 60) (h : invB I n P t b fp s c) :
    ∃ I' J', z_X12_toldBySingle TB (I, J, rB) 0 (nI r) (nI k) a0 b0 c0 d0 = some (trd (dsr (dd (P n) r)) (s0 a0 b0 c0 d0) k, (I', J', rB)) ∧ I' 0 3 = I 0 3 ∧ invB I' n P t b fp s c := by
  obtain ⟨I1, J1, e1, hF1, hk1⟩ := b_bSingle (I := I) (J := J) (i := r) (j := r) (a := a0) (b := b0) (c := c0) (d := d0)
  have hX := dB_src (h.1.2 r hr) hr (dd_len _ _)
  have hmu := rmu_le (two := false) (X := dsr (dd (P n) r)) (Y := dsr (dd (P n) r)) (σ := s0 a0 b0 c0 d0) hX.2.2 (fun h => by cases h)
  obtain ⟨I2, J2, e2, hF2⟩ := b_told15 (j := r) hk (k + 1) 20000 200 I1 J1 (s0 a0 b0 c0 d0) [] (by omega) (by rw [List.length_nil]; omega) (by omega) hk1 (s0_ok _ _ _ _ _ _) (srcB_s hF1 hX) (fun q => absurd q (Nat.lt_irrefl _))
  refine ⟨I2, J2, ?_, by rw [hF2 _ _ (by omega), hF1 _ _ (by omega)], invB_keep h (fun b j q => ?_)⟩
  · unfold z_X12_toldBySingle
    rw [e1, b1_N]
    exact e2
  · unfold kpB at q
    rw [hF2 _ _ (by omega), hF1 _ _ (by omega)]
theorem op_floor {h h2 : fh_H} (i : Inv h h2) (x1 x2 : Int32) : opx (some 2) (some 1) (z_X11_floor SA h 0 x1 x2) (z_X12_floor TB h2 0 x1 x2) := by
  obtain ⟨I, J, R, I', J', n, P, t, b, fp, s, c, rfl, rfl, ok, hA, hB⟩ := i.cases
  unfold z_X11_floor z_X12_floor z_X12_floor_b29
  have up3 : ∀ v : Int32, fh_up I' 0 3 v 0 3 = v := fun v => up_s _ _ _ _
  have l0 : (0 : Int32) ≤ 0 := by decide
  have l1 : ¬ (1 : Int32) ≤ 0 := by decide
  have l2 : ¬ (2 : Int32) ≤ 0 := by decide
  have eI : z_X12_isIn x2.toInt64 1 9999 = some (if 1 ≤ x2 ∧ x2 ≤ 9999 then 1 else 0) := b_isIn x2 1 9999
  by_cases hx : ∃ r : Nat, r < 10 ∧ x1 = nI r
  · obtain ⟨r, hr, rfl⟩ := hx
    obtain ⟨I1, J1, R1, e, iA, hf, -⟩ := a_set (J := J) hr hA
    rw [e, bx_Nr, b1_N, b_isRow hr, b1_N, if_neg one0, eI, b1_N]
    by_cases hq : 1 ≤ x2 ∧ x2 ≤ 9999
    · obtain ⟨I2, J2, R2, e2, iA2⟩ := a_tried (J := J1) (k := 0) (a0 := x2) (b0 := 0) (c0 := 0) (d0 := 1) hr (by omega) iA (hf r (Nat.le_refl _))
      obtain ⟨I3, J3, e3, e30, iB3⟩ := b_tried (J := J') (k := 0) (a0 := x2) (b0 := 0) (c0 := 0) (d0 := 1) hr (by omega) (invB_3 hB 0)
      rw [nI_0] at e2 e3
      have h1 : ¬ x2 < 1 := i32_nlt.mpr hq.1
      simp only [h1, if_false, hq.2, if_true, rA_0_3 iA.1, b1_N, kA_43, ck_N, e2, hq, and_self, one0, kB_N0, let_N, sI_N, up3, l0, e3, b2_N]
      exact opx_r (Inv.mk ok iA2 iB3) rfl rfl (e30.trans (up_s _ _ _ _))
    · simp only [hq, if_false, if_true, kB_N0, ck_N, let_N, sI_N, up3, l2]
      have fin : opx (some 2) (some 1) (some (Sum.inl 0, (I1, J1, R1))) (some ((0 : Int32), (fh_up I' 0 3 2, J', rB))) := opx_l0 (Inv.mk ok iA (invB_3 hB 2)) rfl rfl u3 (by decide)
      by_cases h1 : x2 < 1
      · rw [if_pos h1]; exact fin
      · rw [if_neg h1, if_neg (fun h2 => hq ⟨i32_nlt.mp h1, h2⟩)]; exact fin
  · rw [sett_no hA hx, bx_Nl, b_isRow_no hx, b1_N, if_pos rfl]
    simp only [kB_N0, ck_N, let_N, sI_N, up3, l1, if_false]
    exact opx_l1 (Inv.mk ok hA (invB_3 hB 1)) rfl rfl u3
theorem op_would {h h2 : fh_H} (i : Inv h h2) (x1 x2 x3 x4 x5 x6 : Int32) : opx (some 2) (some 1) (z_X11_would SA h 0 x1 x2 x3 x4 x5 x6) (z_X12_would TB h2 0 x1 x2 x3 x4 x5 x6) := by
  obtain ⟨I, J, R, I', J', n, P, t, b, fp, s, c, rfl, rfl, ok, hA, hB⟩ := i.cases
  unfold z_X11_would z_X12_would z_X12_would_b42
  have up3 : ∀ v : Int32, fh_up I' 0 3 v 0 3 = v := fun v => up_s _ _ _ _
  have l0 : (0 : Int32) ≤ 0 := by decide
  have l1 : ¬ (1 : Int32) ≤ 0 := by decide
  have l2 : ¬ (2 : Int32) ≤ 0 := by decide
  by_cases hx : ∃ r : Nat, r < 10 ∧ x1 = nI r
  · obtain ⟨r, hr, rfl⟩ := hx
    obtain ⟨I1, J1, R1, e, iA, hf, -⟩ := a_set (J := J) hr hA
    rw [e, bx_Nr, b1_N, b_isRow hr, b1_N, if_neg one0]
    by_cases hk : ∃ k, k ≤ 59 ∧ x2 = nI k
    · have q1 : z_X12_isIn x2.toInt64 0 59 = some 1 := b_in1 (N := 59) (by omega) hk
      obtain ⟨k, hk, rfl⟩ := hk
      have c0 : ¬ nI k < 0 := nI_pos (by omega)
      have c1 : nI k < (60 : Int32) := nI_lt (b := 60) (by omega) (by omega)
      by_cases hs : smal x3 x4 x5 x6
      · obtain ⟨I2, J2, R2, e2, iA2⟩ := a_tried (J := J1) (k := k) (a0 := x3) (b0 := x4) (c0 := x5) (d0 := x6) hr (by omega) iA (hf r (Nat.le_refl _))
        obtain ⟨I3, J3, e3, e30, iB3⟩ := b_tried (J := J') (k := k) (a0 := x3) (b0 := x4) (c0 := x5) (d0 := x6) hr (by omega) (invB_3 hB 0)
        simp only [c0, if_false, c1, if_true, a_fits.1 hs, b1_N, one0, rA_0_3 iA.1, kA_43, ck_N, e2, q1, b_small.1 hs, kB_N0, let_N, sI_N, up3, l0, e3, b2_N]
        exact opx_r (Inv.mk ok iA2 iB3) rfl rfl (e30.trans (up_s _ _ _ _))
      · simp only [c0, if_false, c1, if_true, a_fits.2 hs, b1_N, one0, q1, b_small.2 hs, kB_N0, ck_N, let_N, sI_N, up3, l2]
        exact opx_l0 (Inv.mk ok iA (invB_3 hB 2)) rfl rfl u3 (by decide)
    · have q1 : z_X12_isIn x2.toInt64 0 59 = some 0 := b_in0 (N := 59) (by omega) hk
      simp only [q1, b1_N, if_true, kB_N0, ck_N, let_N, sI_N, up3, l1, if_false]
      have fin : opx (some 2) (some 1) (some (Sum.inl 1, (I1, J1, R1))) (some ((0 : Int32), (fh_up I' 0 3 1, J', rB))) := opx_l1 (Inv.mk ok iA (invB_3 hB 1)) rfl rfl u3
      by_cases c0 : x2 < 0
      · rw [if_pos c0]; exact fin
      · obtain ⟨j, hj, rfl⟩ := nI_of c0
        rw [if_neg c0, if_neg (show ¬ nI j < (60 : Int32) from nI_nlt (b := 60) (Nat.not_lt.mp (fun q => hk ⟨j, by omega, rfl⟩)) hj)]; exact fin
  · rw [sett_no hA hx, bx_Nl, b_isRow_no hx, b1_N, if_pos rfl]
    simp only [kB_N0, ck_N, let_N, sI_N, up3, l1, if_false]
    exact opx_l1 (Inv.mk ok hA (invB_3 hB 1)) rfl rfl u3
