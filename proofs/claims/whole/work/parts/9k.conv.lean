/-! convergent, mediant, nearest -/
theorem opy_r {c0 c1 : Option Int32} {zA : Option ((Nat ⊕ Int64) × fh_H)} {zB : Option (Int64 × fh_H)} {h1 h2 : fh_H} {v : Int64} (i : Inv h1 h2) (eA : zA = some (Sum.inr v, h1)) (eB : zB = some (v, h2)) (e3 : h2.1 0 3 = 0) : opy c0 c1 zA zB := ⟨h1, v, h2, i, eB, Or.inl ⟨eA, e3⟩⟩
theorem opy_l1 {c0 : Option Int32} {zA : Option ((Nat ⊕ Int64) × fh_H)} {zB : Option (Int64 × fh_H)} {h1 h2 : fh_H} {v : Int64} (i : Inv h1 h2) (eA : zA = some (Sum.inl 1, h1)) (eB : zB = some (v, h2)) (e3 : h2.1 0 3 = 1) : opy c0 (some 1) zA zB := ⟨h1, v, h2, i, eB, Or.inr ⟨1, 1, eA, e3, by decide, Or.inr ⟨rfl, rfl⟩⟩⟩
theorem kp47 {I I' : Nat → Nat → Int32} (o : ∀ b j, ¬ (b = 47 ∧ j = 4) → I' b j = I b j) : ∀ b j, kpA b j → I' b j = I b j := fun b j q => o b j (fun z => by unfold kpA at q; omega)
theorem oF_kp {I I' : Nat → Nat → Int32} (o : oF I I') : ∀ b j, kpB b j → I' b j = I b j := fun b j q => o b j (fun z => by unfold kpB at q; omega)
theorem op_convergent {h h2 : fh_H} (i : Inv h h2) (x1 x2 x3 : Int32) : opy none (some 1) (z_X11_convergent SA h 0 x1 x2 x3) (z_X12_convergent TB h2 0 x1 x2 x3) := by
  obtain ⟨I, J, R, I', J', n, P, t, b, fp, s, c, rfl, rfl, ok, hA, hB⟩ := i.cases
  have hB0 := invB_3 hB 0
  unfold z_X11_convergent z_X12_convergent
  rw [let_N, sI_N]
  by_cases hx : ∃ r : Nat, r < 10 ∧ x1 = nI r
  · obtain ⟨r, hr, rfl⟩ := hx
    obtain ⟨I1, J1, R1, e, iA, hf, -⟩ := a_set (J := J) hr hA
    have rA := rw_A hr iA (hf r (Nat.le_refl _))
    have wB := rw_B hr hB0
    have hL := rwL_le (P n) r
    rw [e, bx_Nr, b1_N, (rwA_k (rwA_r hr)).1, ck_N, b_isRow hr, b1_N, if_neg one0]
    by_cases hk : ∃ k, k < rwL (P n) r ∧ x2 = nI k
    · obtain ⟨k, hk, rfl⟩ := hk
      obtain ⟨I2, J2, e2, h2, o2⟩ := a_climb (J := J1) (g := rwG (P n) r) iA.1 (rwA_r hr) (show k < 60 by omega) (fun j hj => rA.2.1 j (by omega))
      obtain ⟨I3, J3, q, e3, o3, hq, q28, qJ, qb, qt⟩ := b_cv (J := J') hr wB
      have iA2 : invA I2 R1 n P t b fp s c := invA_keep iA (kp47 o2) iA.1 iA.2.1 (fun _ _ _ _ => rfl)
      have iB3 : invB I3 n P t b fp s c := invB_keep hB0 (oF_kp o3)
      have i3 : I3 0 3 = 0 := by rw [o3 _ _ (by omega)]; exact up_s _ _ _ _
      have fin : ∀ v : Int64, opy none (some 1) (some (Sum.inr v, (I2, J2, R1))) (some (v, (I3, J3, rB))) := fun v => opy_r (Inv.mk ok iA2 iB3) rfl rfl i3
      rw [a_req1 rA.1 hL hk, bx_Nr, b_kn1 hr wB.1 hL hk, b1_N, if_neg one0, e3, b1_N]
      simp only [rA_0_5 iA.1, b1_N, kA_47, ck_N, e2]
      have i1 : fh_in (nI k) 60 = true := in_n (by omega) (by omega)
      have k1 : (nI k).toNatClampNeg = k := nI_clamp (by omega)
      rcases h2 with ⟨hb, h4⟩ | ⟨hb, h4, g0, g1, -, -⟩
      · have c1 : ¬ nI k < nI q := nI_nlt (Nat.not_lt.mp (fun z => by
          rw [ldB_le (show k + 1 ≤ q by omega) qb] at hb; exact absurd hb (by decide))) (by omega)
        simp only [h4, one0, if_false, q28, c1]
        exact fin _
      · have hkq : k < q := Nat.not_le.mp (fun z => by
          have := ldB_mono (qt (by omega)) (k - q)
          rw [show q + 1 + (k - q) = k + 1 by omega, hb] at this; exact absurd this (by decide))
        have c1 : nI k < nI q := nI_lt hkq (by omega)
        simp only [h4, if_true, g0, g1, q28, c1, rB_26, rB_27, b1_N, kB_N13, kB_N14, ck_N, lB_N13, lB_N14, i1, k1, (qJ k hkq).1, (qJ k hkq).2]
        by_cases c3 : x3 = 0
        · rw [if_pos c3, if_pos c3]; exact fin _
        · rw [if_neg c3, if_neg c3]; exact fin _
    · rw [a_req0 rA.1 hL hk, bx_Nl, b_kn0 hr wB.1 hL hk, b1_N, if_pos rfl, b_fail, b2_N]
      exact opy_l1 (Inv.mk ok iA (invB_3 hB 1)) rfl rfl u3
  · rw [sett_no hA hx, bx_Nl, b_isRow_no hx, b1_N, if_pos rfl, b_fail, b2_N]
    exact opy_l1 (Inv.mk ok hA (invB_3 hB 1)) rfl rfl u3
theorem op_mediant {h h2 : fh_H} (i : Inv h h2) (x1 x2 x3 x4 : Int32) : opy none (some 1) (z_X11_mediant SA h 0 x1 x2 x3 x4) (z_X12_mediant TB h2 0 x1 x2 x3 x4) := by
  obtain ⟨I, J, R, I', J', n, P, t, b, fp, s, c, rfl, rfl, ok, hA, hB⟩ := i.cases
  have hB0 := invB_3 hB 0
  unfold z_X11_mediant z_X12_mediant
  rw [let_N, sI_N]
  by_cases hx : ∃ r : Nat, r < 10 ∧ x1 = nI r
  · obtain ⟨r, hr, rfl⟩ := hx
    obtain ⟨I1, J1, R1, e, iA, hf, -⟩ := a_set (J := J) hr hA
    have rA := rw_A hr iA (hf r (Nat.le_refl _))
    have wB := rw_B hr hB0
    have hL := rwL_le (P n) r
    have bad : opy none (some 1) (some (Sum.inl 1, (I1, J1, R1))) (some ((Int32.toInt64 0), (fh_up I' 0 3 1, J', rB))) := opy_l1 (Inv.mk ok iA (invB_3 hB 1)) rfl rfl u3
    rw [e, bx_Nr, b1_N, (rwA_k (rwA_r hr)).1, ck_N, b_isRow hr, b1_N, if_neg one0, b_fail]
    simp only [b2_N, rA.1]
    by_cases c0 : x2 < 0
    · simp only [c0, if_true]; exact bad
    obtain ⟨k, hk31, rfl⟩ := nI_of c0
    simp only [c0, if_false]
    by_cases hk : k + 2 < rwL (P n) r
    · have a2 : nI (rwL (P n) r) - 2 = nI (rwL (P n) r - 2) := nI_subn (b := 2) (by omega)
      have c1 : ¬ nI (rwL (P n) r - 2) ≤ nI k := nI_ge (by omega) (by omega)
      have c2 : ¬ (60 : Int32) ≤ nI k := nI_ge (b := 60) (by omega) (by omega)
      have p2 : nI k + 2 = nI (k + 2) := nI_add k 2
      have p1 : nI k + 1 = nI (k + 1) := nI_1 k
      have t1 := a_tm (I := I1) (J := J1) iA.1 (rwA_r hr) (show k + 2 < 60 by omega)
      rw [rA.2.1 (k + 2) hk] at t1
      have t2 := b_termOf (I := fh_up I' 0 3 0) (J := J') hr (show k + 2 < 60 by omega)
      rw [wB.2.1 (k + 2) hk] at t2
      have k2 := b_kn1 (J := J') hr wB.1 hL hk
      have eI : z_X12_isIn x3.toInt64 0 (rwG (P n) r (k + 2)).toInt64 = some (if 0 ≤ x3 ∧ x3 ≤ rwG (P n) r (k + 2) then 1 else 0) := b_isIn x3 0 _
      simp only [a2, c1, if_false, c2, p2, p1, t1, b1_N, t2, k2, one0, eI]
      by_cases hm : 0 ≤ x3 ∧ x3 ≤ rwG (P n) r (k + 2)
      · have c3 : ¬ x3 < 0 := i32_nlt.mpr hm.1
        obtain ⟨I2, J2, e2, h2, o2⟩ := a_climb (J := J1) (g := rwG (P n) r) iA.1 (rwA_r hr) (show k + 1 < 60 by omega) (fun j hj => rA.2.1 j (by omega))
        obtain ⟨I3, J3, q, e3, o3, hq, q28, qJ, qb, qt⟩ := b_cv (J := J') hr wB
        have iA2 : invA I2 R1 n P t b fp s c := invA_keep iA (kp47 o2) iA.1 iA.2.1 (fun _ _ _ _ => rfl)
        have iB3 : invB I3 n P t b fp s c := invB_keep hB0 (oF_kp o3)
        have i3 : I3 0 3 = 0 := by rw [o3 _ _ (by omega)]; exact up_s _ _ _ _
        simp only [hm, and_self, if_true, c3, if_false, one0, rA_0_5 iA.1, b1_N, kA_47, ck_N, e2, e3, q28]
        have ik : fh_in (nI k) 60 = true := in_n (by omega) (by omega)
        have kk : (nI k).toNatClampNeg = k := nI_clamp (by omega)
        have ik1 : fh_in (nI (k + 1)) 60 = true := in_n (by omega) (by omega)
        have kk1 : (nI (k + 1)).toNatClampNeg = k + 1 := nI_clamp (by omega)
        rcases h2 with ⟨hb, h4⟩ | ⟨hb, h4, g0, g1, g2, g3⟩
        · have c4 : ¬ nI (k + 1) < nI q := nI_nlt (Nat.not_lt.mp (fun z => by
            rw [ldB_le (show k + 1 + 1 ≤ q by omega) qb] at hb; exact absurd hb (by decide))) (by omega)
          simp only [h4, one0, if_false, c4]
          exact opy_r (Inv.mk ok iA2 iB3) rfl rfl i3
        · have hkq : k + 1 < q := Nat.not_le.mp (fun z => by
            have := ldB_mono (qt (by omega)) (k + 1 - q)
            rw [show q + 1 + (k + 1 - q) = k + 1 + 1 by omega, hb] at this; exact absurd this (by decide))
          have c4 : nI (k + 1) < nI q := nI_lt hkq (by omega)
          obtain ⟨d1, d2, d3, d4⟩ := lad_bd _ _ hb
          obtain ⟨v1, f1, hv1⟩ := b_times (I := fh_up I3 0 16 0) (J := J3) (n := x3.toInt64) (b := (lad (rwG (P n) r) (k + 1 + 1)).2.2.1) (by0 := false) d1 (up_s _ _ _ _)
          rw [Bool.false_or] at f1
          generalize hc1 : bey (lad (rwG (P n) r) (k + 1 + 1)).1 x3.toInt64 (lad (rwG (P n) r) (k + 1 + 1)).2.2.1 = b1 at *
          obtain ⟨v2, f2, hv2⟩ := b_times (I := fh_up (fh_up I3 0 16 0) 0 16 (bI b1)) (J := J3) (n := x3.toInt64) (b := (lad (rwG (P n) r) (k + 1 + 1)).2.2.2) (by0 := b1) d2 (up_s _ _ _ _)
          generalize hc2 : bey (lad (rwG (P n) r) (k + 1 + 1)).2.1 x3.toInt64 (lad (rwG (P n) r) (k + 1 + 1)).2.2.2 = b2 at *
          have s1 := (qJ (k + 1) hkq).1
          have s2 := (qJ (k + 1) hkq).2
          have s3 : J3 13 k = (lad (rwG (P n) r) (k + 1 + 1)).2.2.1 := (qJ k (by omega)).1
          have s4 : J3 14 k = (lad (rwG (P n) r) (k + 1 + 1)).2.2.2 := (qJ k (by omega)).2
          have u16 : fh_up (fh_up (fh_up I3 0 16 0) 0 16 (bI b1)) 0 16 (bI (b1 || b2)) 0 16 = bI (b1 || b2) := up_s _ _ _ _
          have iB4 : ∀ x y : Int32, invB (fh_up (fh_up (fh_up I3 0 16 0) 0 16 x) 0 16 y) n P t b fp s c := fun x y => invB_keep iB3 (fun b j q => by
            have z : ¬ (b = 0 ∧ j = 16) := fun z => by unfold kpB at q; omega
            simp only [fh_up, z, if_false])
          have i34 : ∀ x y : Int32, fh_up (fh_up (fh_up I3 0 16 0) 0 16 x) 0 16 y 0 3 = 0 := fun x y => by rw [up_k _ _ _ _ (by decide), up_k _ _ _ _ (by decide), up_k _ _ _ _ (by decide)]; exact i3
          simp only [h4, if_true, g0, g1, g2, g3, a_grown, hc1, hc2, b1_N, c4, let_N, sI_N, rB_26, rB_27, kB_N13, kB_N14, ck_N, lB_N13, lB_N14, ik, kk, ik1, kk1, s1, s2, s3, s4, f1, f2, b2_N, u16]
          cases b1 with
          | true =>
            simp only [Bool.true_or, if_true, bI_t, one0, if_false]
            exact opy_r (Inv.mk ok iA2 (iB4 1 1)) rfl rfl (i34 1 1)
          | false =>
            have n1 := bd_ne (bey_ok (i32_64r x3) d3 hc1).2
            cases b2 with
            | true =>
              simp only [Bool.or_true, if_true, bI_t, one0, if_false, Bool.false_eq_true, n1]
              exact opy_r (Inv.mk ok iA2 (iB4 (bI false) 1)) rfl rfl (i34 (bI false) 1)
            | false =>
              have n2 := bd_ne (bey_ok (i32_64r x3) d4 hc2).2
              simp only [Bool.or_false, bI_f, if_true, if_false, Bool.false_eq_true, n1, n2, hv1 rfl, hv2 rfl]
              by_cases c5 : x4 = 0
              · rw [if_pos c5, if_pos c5]
                exact opy_r (Inv.mk ok iA2 (iB4 0 0)) rfl rfl (i34 0 0)
              · rw [if_neg c5, if_neg c5]
                exact opy_r (Inv.mk ok iA2 (iB4 0 0)) rfl rfl (i34 0 0)
      · simp only [hm, if_false, if_true]
        by_cases c3 : x3 < 0
        · simp only [c3, if_true]; exact bad
        · have c4 : ¬ x3 ≤ rwG (P n) r (k + 2) := fun q => hm ⟨i32_nlt.mp c3, q⟩
          simp only [c3, if_false, c4]; exact bad
    · have c1 : nI (rwL (P n) r) - 2 ≤ nI k := by
        by_cases h2 : 2 ≤ rwL (P n) r
        · rw [show nI (rwL (P n) r) - 2 = nI (rwL (P n) r - 2) from nI_subn (b := 2) h2]; exact nI_le (by omega) hk31
        · have z := nI_toInt (n := k) hk31
          rw [Int32.le_iff_toInt_le, z]
          rcases (by omega : rwL (P n) r = 0 ∨ rwL (P n) r = 1) with q | q
          · rw [q]; have : (nI 0 - 2).toInt = -2 := by decide
            omega
          · rw [q]; have : (nI 1 - 2).toInt = -1 := by decide
            omega
      simp only [c1, if_true]
      by_cases c2 : (60 : Int32) ≤ nI k
      · simp only [c2, if_true]; exact bad
      · have hk60 : k < 60 := Nat.not_le.mp (fun q => c2 (nI_le (a := 60) q hk31))
        have p2 : nI k + 2 = nI (k + 2) := nI_add k 2
        simp only [c2, if_false, p2, b_kn0 hr wB.1 hL (nk_no (k := k + 2) (by omega) (by omega)), b1_N, if_true]; exact bad
  · rw [sett_no hA hx, bx_Nl, b_isRow_no hx, b1_N, if_pos rfl, b_fail, b2_N]
    exact opy_l1 (Inv.mk ok hA (invB_3 hB 1)) rfl rfl u3
/-! nearest -/
def nr (q : Nat → Bool) : Nat → Nat → Int32 → Int32
  | 0, _, y => y
  | m + 1, k, y => nr q m (k + 1) (if q k = true then nI k else y)
theorem nr_no {q : Nat → Bool} : ∀ (m k : Nat) (y : Int32), (∀ j, k ≤ j → q j = false) → nr q m k y = y := by
  intro m
  induction m with
  | zero => intro k y h; rfl
  | succ m ih =>
    intro k y h
    rw [nr, h k (Nat.le_refl _), if_neg (by decide)]
    exact ih (k + 1) y (fun j hj => h j (by omega))
theorem nr_no2 {q : Nat → Bool} : ∀ (m k : Nat) (y : Int32), (∀ j, k ≤ j → j < k + m → q j = false) → nr q m k y = y := by
  intro m
  induction m with
  | zero => intro k y h; rfl
  | succ m ih =>
    intro k y h
    rw [nr, h k (Nat.le_refl _) (by omega), if_neg (by decide)]
    exact ih (k + 1) y (fun j hj hj2 => h j (by omega) (by omega))
theorem b_near53 {I : Nat → Nat → Int32} {J : Nat → Nat → Int64} {g : Nat → Int32} {c : Nat} {x : Int32} (hc : c ≤ 60) (h28 : I 0 28 = nI c) (hJ : cvB J g c) : ∀ (m fuel k : Nat) (y : Int32), m < fuel → k + m = c → z_X12_nearest_b53 TB 0 fuel (I, J, rB) x y (nI k) = some (nr (fun j => !decide (x.toInt64 < (lad g (j + 1)).2.1)) m k y, (I, J, rB)) := by
  intro m
  induction m with
  | zero =>
    intro fuel k y hf hm
    obtain ⟨f, rfl⟩ : ∃ f, fuel = f + 1 := ⟨fuel - 1, by omega⟩
    have c0 : nI c ≤ nI k := nI_le (by omega) (by omega)
    rw [z_X12_nearest_b53]
    simp only [h28, c0, if_true, nr]
  | succ m ih =>
    intro fuel k y hf hm
    obtain ⟨f, rfl⟩ : ∃ f, fuel = f + 1 := ⟨fuel - 1, by omega⟩
    have c0 : ¬ nI c ≤ nI k := nI_ge (by omega) (by omega)
    have i1 : fh_in (nI k) 60 = true := in_n (by omega) (by omega)
    have k1 : (nI k).toNatClampNeg = k := nI_clamp (by omega)
    rw [z_X12_nearest_b53, nr]
    simp only [h28, c0, if_false, rB_27, b1_N, kB_N14, ck_N, lB_N14, i1, k1, (hJ k (by omega)).2, let_N, nI_1]
    by_cases c1 : x.toInt64 < (lad g (k + 1)).2.1
    · rw [if_pos c1, decide_eq_true c1, if_neg (by decide)]
      exact ih f (k + 1) y (by omega) (by omega)
    · rw [if_neg c1, decide_eq_false c1, if_pos (by decide)]
      exact ih f (k + 1) (nI k) (by omega) (by omega)
theorem lad_pos {g : Nat → Int32} {L : Nat} (hpos : ∀ k, 1 ≤ k → k < L → 1 ≤ (g k).toInt) : ∀ k, k < L → ldB g (k + 1) = false → 1 ≤ (lad g (k + 1)).2.1.toInt ∧ 0 ≤ (lad g (k + 1)).2.2.2.toInt := by
  intro k
  induction k with
  | zero =>
    intro _ h
    obtain ⟨h0, h1, h2⟩ := ldB_f h
    obtain ⟨a1, a2, a3, a4⟩ := lad_bd g 0 h0
    have e := (bey_ok (i32_64r _) a4 h2).1
    have e' : (lad g 1).2.1.toInt = (lad g 0).2.1.toInt * (g 0).toInt64.toInt + (lad g 0).2.2.2.toInt := e
    have z1 : (lad g 0).2.1.toInt = 0 := rfl
    have z2 : (lad g 0).2.2.2.toInt = 1 := rfl
    have z3 : (lad g 1).2.2.2.toInt = 0 := rfl
    rw [z1, z2] at e'
    rw [e', z3]
    omega
  | succ k ih =>
    intro hk h
    obtain ⟨h0, h1, h2⟩ := ldB_f h
    obtain ⟨a1, a2, a3, a4⟩ := lad_bd g (k + 1) h0
    obtain ⟨p1, p2⟩ := ih (by omega) h0
    have e := (bey_ok (i32_64r _) a4 h2).1
    have e' : (lad g (k + 1 + 1)).2.1.toInt = (lad g (k + 1)).2.1.toInt * (g (k + 1)).toInt64.toInt + (lad g (k + 1)).2.2.2.toInt := e
    have z3 : (lad g (k + 1 + 1)).2.2.2 = (lad g (k + 1)).2.1 := rfl
    have hp := hpos (k + 1) (by omega) hk
    rw [Int32.toInt_toInt64] at e'
    rw [e', z3]
    have := Int.mul_le_mul p1 hp (by omega) (by omega)
    omega
theorem lad_up {g : Nat → Int32} {L : Nat} (hpos : ∀ k, 1 ≤ k → k < L → 1 ≤ (g k).toInt) {k : Nat} (hk : k + 1 < L) (h : ldB g (k + 1 + 1) = false) : (lad g (k + 1)).2.1.toInt ≤ (lad g (k + 1 + 1)).2.1.toInt := by
  obtain ⟨h0, h1, h2⟩ := ldB_f h
  obtain ⟨a1, a2, a3, a4⟩ := lad_bd g (k + 1) h0
  obtain ⟨p1, p2⟩ := lad_pos hpos k (by omega) h0
  have e' : (lad g (k + 1 + 1)).2.1.toInt = (lad g (k + 1)).2.1.toInt * (g (k + 1)).toInt64.toInt + (lad g (k + 1)).2.2.2.toInt := (bey_ok (i32_64r _) a4 h2).1
  have hp := hpos (k + 1) (by omega) hk
  rw [Int32.toInt_toInt64] at e'
  rw [e']
  have := Int.mul_le_mul_of_nonneg_left hp (show 0 ≤ (lad g (k + 1)).2.1.toInt by omega)
  omega
theorem lad_up2 {g : Nat → Int32} {L k : Nat} (hpos : ∀ k, 1 ≤ k → k < L → 1 ≤ (g k).toInt) : ∀ m, k + m < L → ldB g (k + m + 1) = false → (lad g (k + 1)).2.1.toInt ≤ (lad g (k + m + 1)).2.1.toInt := by
  intro m
  induction m with
  | zero => intro _ _; exact Int.le_refl _
  | succ m ih =>
    intro hk h
    have h1 := ih (by omega) (ldB_le (by omega) h)
    have h2 := lad_up hpos (k := k + m) (by omega) h
    exact Int.le_trans h1 h2
theorem a_near39 {R : Nat → Nat → Option Nat} {P : Rcp} {r a c : Nat} {x : Int32} (hR : RA R) (ha : rwA a) (hpos : ∀ k, 1 ≤ k → k < rwL P r → 1 ≤ (rwG P r k).toInt) (hc : c ≤ rwL P r) (hb : ldB (rwG P r) c = false) (ht : c < rwL P r → ldB (rwG P r) (c + 1) = true) : ∀ (m fuel : Nat) (I : Nat → Nat → Int32) (J : Nat → Nat → Int64) (k : Nat) (y : Int32), m < fuel → k + m = rwL P r → k ≤ c → rwA3 I a P r → ldA I J (rwG P r) k →
    ∃ I' J', z_X11_nearest_b39 SA 0 fuel (I, J, R) x a y (nI k) = some (Sum.inr (nr (fun j => !decide (x.toInt64 < (lad (rwG P r) (j + 1)).2.1)) (c - k) k y), (I', J', R)) ∧ ∀ b j, ¬ (b = 47 ∧ j = 4) → I' b j = I b j := by
  have hL := rwL_le P r
  have k6 := (rwA_k ha).1
  have n47 := rw47 ha
  intro m
  induction m with
  | zero =>
    intro fuel I J k y hf hm hkc h hd
    obtain ⟨f, rfl⟩ : ∃ f, fuel = f + 1 := ⟨fuel - 1, by omega⟩
    have c0 : nI (rwL P r) ≤ nI k := nI_le (by omega) (by omega)
    refine ⟨I, J, ?_, fun _ _ _ => rfl⟩
    rw [z_X11_nearest_b39, show c - k = 0 by omega, nr]
    simp only [k6, ck_N, h.1, c0, if_true]
  | succ m ih =>
    intro fuel I J k y hf hm hkc h hd
    obtain ⟨f, rfl⟩ : ∃ f, fuel = f + 1 := ⟨fuel - 1, by omega⟩
    have hk : k < rwL P r := by omega
    have c0 : ¬ nI (rwL P r) ≤ nI k := nI_ge hk (by omega)
    obtain ⟨I1, J1, e1, h1, o1⟩ := a_climb1 (R := R) hd
    have tm := a_tm (I := I) (J := J) hR ha (show k < 60 by omega)
    rw [h.2.1 k hk] at tm
    rw [z_X11_nearest_b39]
    simp only [k6, ck_N, h.1, c0, if_false, rA_0_5 hR, b1_N, tm, kA_47, e1]
    have h' : rwA3 I1 a P r := ⟨by rw [o1 _ _ (by omega)]; exact h.1, fun j hj => by rw [o1 _ _ (by omega)]; exact h.2.1 j hj, by rw [o1 _ _ (by omega)]; exact h.2.2⟩
    rcases h1 with ⟨hb1, h4⟩ | ⟨hb1, h4, g0, g1, g2, g3⟩
    · have hck : c = k := by
        rcases Nat.lt_or_ge k c with q | q
        · rw [ldB_le (show k + 1 ≤ c by omega) hb] at hb1; exact absurd hb1 (by decide)
        · omega
      refine ⟨I1, J1, ?_, o1⟩
      rw [show c - k = 0 by omega, nr]
      simp only [h4, one0, if_false]
    · have hck : k < c := by
        rcases Nat.lt_or_ge k c with q | q
        · exact q
        · have z : c = k := by omega
          rw [← z, ht (by omega)] at hb1; exact absurd hb1 (by decide)
      rw [show c - k = (c - (k + 1)) + 1 by omega, nr]
      simp only [h4, if_true, g1]
      by_cases c1 : x.toInt64 < (lad (rwG P r) (k + 1)).2.1
      · rw [if_neg (n64_le.mpr c1), decide_eq_true c1, if_neg (by decide), nr_no2]
        · exact ⟨I1, J1, rfl, o1⟩
        · intro j hj1 hj2
          have hbj : ldB (rwG P r) (j + 1) = false := ldB_le (by omega) hb
          have := lad_up2 hpos (k := k) (j - k) (by omega) (by rw [show k + (j - k) = j by omega]; exact hbj)
          rw [show k + (j - k) = j by omega] at this
          rw [Int64.lt_iff_toInt_lt] at c1
          have c2 : x.toInt64 < (lad (rwG P r) (j + 1)).2.1 := Int64.lt_iff_toInt_lt.mpr (by omega)
          rw [decide_eq_true c2]; rfl
      · rw [if_pos (n64_lt.mp c1), decide_eq_false c1, if_pos (by decide), let_N, nI_1]
        obtain ⟨I2, J2, e2, o2⟩ := ih f I1 J1 (k + 1) (nI k) (by omega) (by omega) (by omega) h' (Or.inr ⟨hb1, h4, g0, g1, g2, g3⟩)
        exact ⟨I2, J2, e2, fun b j q => (o2 b j q).trans (o1 b j q)⟩
theorem op_nearest {h h2 : fh_H} (i : Inv h h2) (x1 x2 : Int32) (hpos : ∀ F : Rcp, (∀ r, r < 10 → okr (F r) r) → ∀ r, r < 10 → ∀ k, 1 ≤ k → k < rwL F r → 1 ≤ (rwG F r k).toInt) : opx (some 2) (some 1) (z_X11_nearest SA h 0 x1 x2) (z_X12_nearest TB h2 0 x1 x2) := by
  obtain ⟨I, J, R, I', J', n, P, t, b, fp, s, c, rfl, rfl, ok, hA, hB⟩ := i.cases
  unfold z_X11_nearest z_X12_nearest z_X12_nearest_b31
  have up3 : ∀ v : Int32, fh_up I' 0 3 v 0 3 = v := fun v => up_s _ _ _ _
  have l0 : (0 : Int32) ≤ 0 := by decide
  have l1 : ¬ (1 : Int32) ≤ 0 := by decide
  have l2 : ¬ (2 : Int32) ≤ 0 := by decide
  by_cases hx : ∃ r : Nat, r < 10 ∧ x1 = nI r
  · obtain ⟨r, hr, rfl⟩ := hx
    obtain ⟨I1, J1, R1, e, iA, hf, -⟩ := a_set (J := J) hr hA
    have rA := rw_A hr iA (hf r (Nat.le_refl _))
    have wB0 := rw_B hr hB
    have hL := rwL_le (P n) r
    have i1 : fh_in (nI r) 10 = true := in_n hr (by omega)
    have k1 : (nI r).toNatClampNeg = r := nI_clamp (by omega)
    rw [e, bx_Nr, b1_N, (rwA_k (rwA_r hr)).1, ck_N, b_isRow hr, b1_N, if_neg one0]
    simp only [rB_5, b1_N, kB_N4, ck_N, lB_N4, i1, k1, wB0.1, kB_N0, let_N, sI_N, up3]
    by_cases h0 : rwL (P n) r = 0
    · have c0 : nI (rwL (P n) r) = 0 := by rw [h0]; rfl
      have q0 := a_req0 (J := J1) (R := R1) (x := 0) rA.1 hL (fun ⟨k, hk, _⟩ => by omega)
      simp only [q0, bx_Nl, c0, if_true, l1, if_false]
      exact opx_l1 (Inv.mk ok iA (invB_3 hB 1)) rfl rfl u3
    · have c0 : ¬ nI (rwL (P n) r) = 0 := nI_ne0 (by omega) (by omega)
      have q0 : z_X11_requireTerm SA (I1, J1, R1) (58 + 6 * r) 0 = some (Sum.inr (), (I1, J1, R1)) := a_req1 (k := 0) rA.1 hL (by omega)
      simp only [q0, bx_Nr, c0, if_false]
      by_cases c1 : 1 ≤ x2
      · obtain ⟨I3, J3, q, e3, o3, hq, q28, qJ, qb, qt⟩ := b_cv (J := J') hr (rw_B hr (invB_3 hB 0))
        obtain ⟨J2, e2, h2⟩ := a_start2 (I := I1) (J := J1) (R := R1) (g := rwG (P n) r)
        have rA2 : rwA3 (fh_up I1 47 4 0) (58 + 6 * r) (P n) r := ⟨by rw [up47 _ _ (by omega)]; exact rA.1, fun j hj => by rw [up47 _ _ (by omega)]; exact rA.2.1 j hj, by rw [up47 _ _ (by omega)]; exact rA.2.2⟩
        obtain ⟨I4, J4, e4, o4⟩ := a_near39 (x := x2) iA.1 (rwA_r hr) (hpos (P n) (ok.1 n (Nat.le_refl _)) r hr) hq qb qt (rwL (P n) r) 20000 (fh_up I1 47 4 0) J2 0 0 (by omega) (by omega) (Nat.zero_le _) rA2 h2
        have e5 := b_near53 (x := x2) (by omega) q28 qJ q 20000 0 0 (by omega) (by omega)
        have e4' : z_X11_nearest_b39 SA 0 20000 (fh_up I1 47 4 0, J2, R1) x2 (58 + 6 * r) 0 0 = _ := e4
        have e5' : z_X12_nearest_b53 TB 0 20000 (I3, J3, rB) x2 0 0 = _ := e5
        have i3 : I3 0 3 = 0 := by rw [o3 _ _ (by omega)]; exact up_s _ _ _ _
        simp only [c1, if_true, rA_0_5 iA.1, b1_N, kA_47, ck_N, e2, e4', l0, e3, e5', Nat.sub_zero]
        exact opx_r (Inv.mk ok (invA_keep iA (kp47 (fun b j q => (o4 b j q).trans (up47 b j q))) iA.1 iA.2.1 (fun _ _ _ _ => rfl)) (invB_keep (invB_3 hB 0) (oF_kp o3))) rfl rfl i3
      · simp only [c1, if_false, l2]
        exact opx_l0 (Inv.mk ok iA (invB_3 hB 2)) rfl rfl u3 (by decide)
  · rw [sett_no hA hx, bx_Nl, b_isRow_no hx, b1_N, if_pos rfl]
    simp only [kB_N0, ck_N, let_N, sI_N, up3, l1, if_false]
    exact opx_l1 (Inv.mk ok hA (invB_3 hB 1)) rfl rfl u3
