theorem b_bec17 {I I1 : Nat → Nat → Int32} {J : Nat → Nat → Int64} {n : Nat} {P : Nat → Rcp} {r j : Nat} (hr : r < 10) (hh : hisB I n P) (hrec : ∀ r, r < 10 → ∀ j, j < 109 → I 1 (109 * r + j) = P n r j) {k0 a0 b0 c0 d0 : Int32} (e : z_X12_become TB (I, J, rB) 0 (nI r) k0 a0 b0 c0 d0 = some (I1, J, rB)) : I1 17 j = I 17 j := by
  obtain ⟨I2, e1, g1, g2, g3⟩ := b_keep (J := J) hh hrec
  obtain ⟨I3, e2, f1, f2⟩ := b_become7 (J := J) hr k0 a0 b0 c0 d0 109 20000 I2 0 (by omega) (by omega) (fun j hj => absurd hj (Nat.not_lt_zero _))
  unfold z_X12_become at e
  rw [e1, b1_N] at e
  have e3 : (I3, J, rB) = (I1, J, rB) := Option.some.inj (e2.symm.trans e)
  have e4 : I3 = I1 := congrArg Prod.fst e3
  rw [← e4, f1 _ _ (fun q => by omega), g1 _ _ (by decide) (fun q => by omega)]
/-! a row told in words -/
theorem op_told {h h2 : fh_H} (i : Inv h h2) (x1 x2 : Int32) : opx (some 1) none (z_X11_told SA h 0 x1 x2) (z_X12_told TB h2 0 x1 x2) := by
  obtain ⟨I, J, R, I', J', n, P, t, b, fp, s, c, rfl, rfl, ok, hA, hB⟩ := i.cases
  have no : z_X11_told SA (I, J, R) 0 x1 x2 = some (Sum.inl 0, (I, J, R)) → z_X12_isRight TB (fh_up I' 0 3 0, J', rB) 0 x1 x2 = some 0 → opx (some 1) none (z_X11_told SA (I, J, R) 0 x1 x2) (z_X12_told TB (I', J', rB) 0 x1 x2) := fun e1 e2 => by
    refine opx_l0 (k := 1) (v := 0) (h2 := (fh_up I' 0 3 1, J', rB)) (Inv.mk ok hA (invB_3 hB 1)) e1 ?_ u3 (by decide)
    unfold z_X12_told
    rw [let_N, sI_N, e2, b1_N, if_pos rfl, b_fail, b2_N]
  have h35 : fh_up I' 0 3 0 0 35 = nI t := by rw [up_k _ _ _ _ (by decide)]; exact hB.2.2.1.1
  have t200 := ok.2.1
  by_cases hx : ∃ r : Nat, r < 10 ∧ x1 = nI r
  · obtain ⟨r, hr, rfl⟩ := hx
    have k6 := (rwA_k (rwA_r hr)).1
    have eR : z_X12_isRight TB (fh_up I' 0 3 0, J', rB) 0 (nI r) x2 = fh_b1 (z_X12_isIn x2.toInt64 0 (nI t).toInt64) (fun r4 => if r4 = 0 then some 0 else some 1) := by
      unfold z_X12_isRight
      simp only [b_isRow hr, b1_N, one0, if_false, h35]
    have eA : z_X11_told SA (I, J, R) 0 (nI r) x2 = if x2 < 0 then some (Sum.inl 0, (I, J, R)) else if x2 ≤ nI t then (fh_b1 (z_X10_open SA (I, J, R) 48 x2) (fun h9 => fh_b1 (h9.2.2 0 7) (fun j11 => fh_ck (fh_kq SA j11 7) (fh_b1 (z_X7_parse SA h9 j11) (fun h14 => fh_b1 (h14.2.2 0 6) (fun j16 => fh_ck (fh_kq SA j16 10) (fh_b1 (z_X10_empty SA h14 j16) (fun h19 => fh_b1 (h19.2.2 0 6) (fun j21 => fh_ck (fh_kq SA j21 10) (if (h19.1 j21 7) = 0 then (fh_ck (fh_kq SA (58 + 6 * r) 6) (fh_b2 (z_X11_act SA h19 0 (58 + 6 * r)) (fun r26 h27 => fh_b1 r26 (fun j29 => fh_ck (fh_kq SA j29 3) (fh_b1 (z_X3_become SA h27 j29 (2 : Int32) (0 : Int32) (0 : Int32) (0 : Int32) (0 : Int32) (0 : Int32) (0 : Int32)) (fun h31 => fh_b1 (h31.2.2 0 7) (fun j33 => fh_ck (fh_kq SA j33 7) (fh_b1 (z_X7_tellTo SA h31 j33 j29) (fun h36 => fh_b1 (h36.2.2 0 7) (fun j38 => fh_ck (fh_kq SA j38 7) (some (Sum.inr (h36.1 j38 3), h36)))))))))))) else (some (Sum.inr ((-10 : Int32) - (h19.1 j21 7)), h19)))))))))))) else some (Sum.inl 0, (I, J, R)) := by
      unfold z_X11_told
      simp only [a_find hA.1 hr, b1_N, nn_Ns, rA_0_6 hA.1, kA_48, ck_N, hA.2.2.2.2.1.1]
    by_cases hx2 : ∃ q, q ≤ t ∧ x2 = nI q
    · rw [b_in1 (by omega) hx2, b1_N, if_neg one0] at eR
      obtain ⟨q, hq, rfl⟩ := hx2
      rw [if_neg (nI_pos (by omega)), if_pos (nI_le hq (by omega))] at eA
      have hb2 := ok.2.2.1
      obtain ⟨I1, N, e1, ⟨k4, k5⟩, g1, g2, g3, g4, g5, g6, o1⟩ := a_open (J := J) (n := q) hA.1 hb2 (by omega) (fun i hi => hA.2.2.2.2.1.2.1 i (by omega))
      have ht : tkc b q N := ⟨hb2, by omega, g3, g1, g2⟩
      obtain ⟨I1', e1', p1', h44, o1'⟩ := b_opens (I' := fh_up I' 0 3 0) (J' := J') (n := q) hb2 (by omega) (fun i hi => by rw [up_a _ _ _ _ (by decide)]; exact hB.2.2.1.2.1 i (by omega))
      have p1 : psA I1 b q N (0, 0, -1) := ⟨fun i hi => k5 i (by omega), g4, g5, g6, Nat.zero_le _⟩
      obtain ⟨I2, I2', e2, e2', ⟨σ, a, g, o, T, ha, hg1, hg0⟩, f2, f2'⟩ := t_parse (J := J) (J' := J') hA.1 ht p1 p1' h44
      -- the tape is emptied
      obtain ⟨I3, e3⟩ : ∃ z, z = fh_up I2 48 6 0 := ⟨_, rfl⟩
      have o3 : ∀ b j, ¬ (b = 48 ∧ j = 6) → I3 b j = I2 b j := fun b j z => by rw [e3]; simp only [fh_up, z, if_false]
      have em : z_X10_empty SA (I2, J, R) 48 = some (I3, J, R) := by rw [e3]; rfl
      obtain ⟨I3', e3'⟩ : ∃ z, z = fh_up (fh_up I2' 0 35 0) 0 43 (if σ.2.1 = 0 then -1 else σ.2.2) := ⟨_, rfl⟩
      have o3' : ∀ b j, ¬ (b = 0 ∧ (j = 35 ∨ j = 43)) → I3' b j = I2' b j := fun b j z => by
        have z1 : ¬ (b = 0 ∧ j = 35) := fun y => z ⟨y.1, Or.inl y.2⟩
        have z2 : ¬ (b = 0 ∧ j = 43) := fun y => z ⟨y.1, Or.inr y.2⟩
        rw [e3']; simp only [fh_up, z1, z2, if_false]
      have ee : z_X12_ends TB (I2', J', rB) 0 = some (σ.2.1, (I3', J', rB)) := by
        unfold z_X12_ends
        have u41 : fh_up I2' 0 35 0 0 41 = σ.2.1 := by rw [up_k _ _ _ _ (by decide)]; exact T.2.1.2.2.1
        have v41 : ∀ v : Int32, fh_up (fh_up I2' 0 35 0) 0 43 v 0 41 = σ.2.1 := fun v => by rw [up_k _ _ _ _ (by decide)]; exact u41
        rw [e3']
        by_cases c0 : σ.2.1 = 0
        · rw [if_pos c0]
          simp only [let_N, sI_N, u41, c0, if_true, v41]
        · have u42 : fh_up I2' 0 35 0 0 42 = σ.2.2 := by rw [up_k _ _ _ _ (by decide)]; exact T.2.1.2.2.2.2 c0
          rw [if_neg c0]
          simp only [let_N, sI_N, u41, c0, if_false, v41, u42]
      have fpe : (if σ.2.1 = 0 then -1 else σ.2.2) = σ.2.2 := by
        by_cases c0 : σ.2.1 = 0
        · rw [if_pos c0]; exact (T.2.2.2.2.2 c0).2.2.2.2.2.2.2.symm
        · rw [if_neg c0]
      have h8 : I3 48 8 = σ.2.2 := by rw [o3 _ _ (by omega)]; exact T.1.2.2.2.1
      have h7 : I3 48 7 = σ.2.1 := by rw [o3 _ _ (by omega)]; exact T.1.2.2.1
      have iA3 : invA I3 R n P 0 b σ.2.2 s c := invA_gen hA (fun b j z1 z2 z3 z4 z5 => by
        unfold kpA at z1
        rw [o3 _ _ (by omega), f2 _ _ (by omega) (by omega) (by omega), o1 _ _ (by omega)]) ⟨by rw [e3, up_s]; rfl, fun j hj => absurd hj (Nat.not_lt_zero _), h8⟩ ⟨by rw [o3 _ _ (by omega), f2 _ _ (by omega) (by omega) (by omega), o1 _ _ (by omega)]; exact hA.2.2.2.2.2.1, fun j hj => by rw [o3 _ _ (by omega), f2 _ _ (by omega) (by omega) (by omega), o1 _ _ (by omega)]; exact hA.2.2.2.2.2.2 j hj⟩ hA.1 hA.2.1 (fun _ _ _ _ => rfl)
      have oB : ∀ b j, ¬ (b = 0 ∧ ((35 ≤ j ∧ j ≤ 46) ∨ j = 3)) → b ≠ 17 → I3' b j = I' b j := fun b j z1 z2 => by
        rw [o3' _ _ (by omega), f2' _ _ (by omega) z2, o1' _ _ (by omega)]
        have z3 : ¬ (b = 0 ∧ j = 3) := fun y => z1 ⟨y.1, Or.inr y.2⟩
        simp only [fh_up, z3, if_false]
      have o33 : I3' 0 3 = 0 := by
        rw [o3' _ _ (by omega), f2' _ _ (by omega) (by omega), o1' _ _ (by omega), up_s]
      have iB3 : invB I3' n P 0 b σ.2.2 s c := invB_gen hB (fun b j z => oB b j (by omega) (by omega)) ⟨by rw [e3', up_k _ _ _ _ (by decide), up_s]; rfl, fun j hj => absurd hj (Nat.not_lt_zero _), by rw [e3', up_s]; exact fpe⟩ ⟨by rw [oB _ _ (by omega) (by omega)]; exact hB.2.2.2.1, fun j hj => by rw [oB _ _ (by omega) (by omega)]; exact hB.2.2.2.2 j hj⟩
      have ok3 : okP n P 0 b s := ⟨ok.1, Nat.zero_le _, ok.2.2.1, ok.2.2.2⟩
      rw [e1, b1_N] at eA
      simp only [rA_0_7 hA.1, b1_N, kA_53, ck_N, e2, rA_0_6 hA.1, kA_48, em, h7, k6] at eA
      have eB : z_X12_told TB (I', J', rB) 0 (nI r) (nI q) = if σ.2.1 = 0 then (fh_b1 (z_X12_become TB (I3', J', rB) 0 (nI r) (2 : Int32) (0 : Int32) (0 : Int32) (0 : Int32) (0 : Int32)) (fun h13 => fh_b1 (z_X12_put TB h13 0 (nI r) (7 : Int32) (h13.1 0 45)) (fun h15 => fh_b1 (z_X12_put TB h15 0 (nI r) (8 : Int32) (h15.1 0 46)) (fun h17 => z_X12_told_b78 TB 0 20000 h17 (nI r) (0 : Int32))))) else (some (((-10 : Int32) - σ.2.1), (I3', J', rB))) := by
        unfold z_X12_told
        rw [let_N, sI_N, eR, b1_N, if_neg one0, e1', b1_N, e2', b1_N, ee, b2_N]
      by_cases c0 : σ.2.1 = 0
      · rw [if_pos c0] at eA eB
        obtain ⟨d1, d2, d3, d4, d5, d6, d7, d8⟩ := T.2.2.2.2.2 c0
        have hN := T.1.2.2.2.2
        have hL : a + g ≤ 100 := by omega
        obtain ⟨w, ew⟩ : ∃ z : Nat → Int32, z = fun j => if j < a + g then I2' 17 j else 0 := ⟨_, rfl⟩
        have w1 : ∀ j, j < a + g → w j = I2' 17 j := fun j hj => by rw [ew]; exact if_pos hj
        have w0 : ∀ j, a + g ≤ j → w j = 0 := fun j hj => by rw [ew]; exact if_neg (by omega)
        -- what the row becomes
        obtain ⟨f, ef⟩ : ∃ z, z = tf w a g (a + g) := ⟨_, rfl⟩
        have fk : ∀ k, f (9 + k) = w k := fun k => by rw [ef]; exact tf_k w0 k
        have f0 : f 0 = 2 := by rw [ef]; rfl
        have f7 : f 7 = nI a := by rw [ef]; rfl
        have f8 : f 8 = nI g := by rw [ef]; rfl
        have okf : okr f r := Or.inr (Or.inr (Or.inl ⟨f0, a, g, f7, f8, hL, ha, fun k z1 z2 => by rw [fk, w1 k z2]; exact d2 k z1 z2, by
          have := fk 0
          rw [Nat.add_zero] at this
          rw [this, w1 0 (by omega)]; exact d3 (by omega)⟩))
        -- the class
        obtain ⟨I4, R4, m, e4, hm, hR4, hh4, out, key⟩ := a_act (J := J) hr hB.2.1.2.1 (ok.1 n (Nat.le_refl _)) iA3
        have rg := md_rng hm
        obtain ⟨v0, -, -, -, -, -, -⟩ := becI_v (I := I4) (m := m) (k := 2) (i := 0) (j := 0) (a := 0) (b := 0) (c := 0) (d := 0)
        have o5 : ∀ b j, b ≠ m → b ≠ 8 → b < 58 → becI I4 m 2 0 0 0 0 0 0 b j = I3 b j := fun b j z1 z2 z3 => by rw [becI_o j z1]; exact out b j z2 z3
        obtain ⟨I5, e5, q7, q8, o6⟩ := a_tell (J := J) (I := becI I4 m 2 0 0 0 0 0 0) (w := w) (a := a) (g := g) (o := o) hR4 hm hL (by rw [o5 _ _ (by omega) (by omega) (by omega), o3 _ _ (by omega)]; exact T.2.2.1) (by rw [o5 _ _ (by omega) (by omega) (by omega), o3 _ _ (by omega)]; exact T.2.2.2.1) ⟨hg1, hg0⟩ (fun i z1 z2 => by rw [o5 _ _ (by omega) (by omega) (by omega), o3 _ _ (by omega), w1 i z1]; exact d1 i z1 z2)
        have iA5 := key I5 f (fun b j z1 z2 z3 => by rw [o6 b j (by omega) z2 (by unfold kpA at z3; omega), becI_o j z1]) ⟨by rw [o6 _ _ (by omega) (by omega) (by omega), v0, f0], fun z => by rw [f0] at z; exact absurd z (by decide), fun z => by rw [f0] at z; exact absurd z (by decide), fun _ => by
          rw [f7, f8, nI_clamp (by omega), nI_clamp (by omega), show (fun k => f (9 + k)) = w from funext fk]
          exact ⟨q7, q8⟩, fun z => by rw [f0] at z; exact absurd z (by decide), fun z => by rw [f0] at z; exact absurd z (by decide)⟩ okf
        have z53 : I5 53 3 = nI (a + g) := by rw [o6 _ _ (by omega) (by omega) (by omega), o5 _ _ (by omega) (by omega) (by omega), o3 _ _ (by omega)]; exact T.2.2.1
        -- the reference
        obtain ⟨I4', e4', mid, o4'⟩ := b_become (J := J') hr iB3.2.1 iB3.1.1 2 0 0 0 0
        have z45 : I4' 0 45 = nI a := by rw [o4' _ (by decide), o3' _ _ (by omega)]; exact d4
        have z46 : I4' 0 46 = nI g := by rw [o4' _ (by decide), o3' _ _ (by omega)]; exact d5
        have z17 : ∀ j, j < a + g → I4' 17 j = w j := fun j hj => by rw [b_bec17 hr iB3.2.1 iB3.1.1 e4', o3' _ _ (by omega), w1 j hj]
        have mid2 := midB_put (j0 := 8) (v := nI g) hr (by decide) (midB_put (j0 := 7) (v := nI a) hr (by decide) mid)
        have ef0 : (fun j => if j = 8 then nI g else (fun j => if j = 7 then nI a else bec 2 0 0 0 0 j) j) = tf w a g 0 := by
          funext j
          unfold tf bec
          dsimp only
          by_cases c8 : j = 8
          · rw [if_pos c8, if_neg (by omega), if_neg (by omega), if_pos c8]
          · rw [if_neg c8]
            by_cases c7 : j = 7
            · rw [if_pos c7, if_neg (by omega), if_pos c7]
            · rw [if_neg c7, if_neg c7, if_neg c8, if_neg (show ¬ (9 ≤ j ∧ j < 9 + 0) by omega)]
              split
              · rfl
              · split
                · rfl
                · split
                  · rfl
                  · split
                    · rfl
                    · split <;> rfl
        rw [ef0] at mid2
        obtain ⟨I5', e5'⟩ : ∃ z, z = fh_up (fh_up I4' 1 (109 * r + 7) (nI a)) 1 (109 * r + 8) (nI g) := ⟨_, rfl⟩
        have o5' : ∀ b j, b ≠ 1 → I5' b j = I4' b j := fun b j z => by rw [e5', up_a _ _ _ _ z, up_a _ _ _ _ z]
        rw [← e5'] at mid2
        obtain ⟨I6', e6', mid6, o6'⟩ := b_told78 (J := J') (w := w) (a := a) (g := g) hr hL (a + g) 20000 I5' 0 (by omega) (by omega) (by rw [o5' _ _ (by decide)]; exact z45) (by rw [o5' _ _ (by decide)]; exact z46) (fun j hj => by rw [o5' _ _ (by decide)]; exact z17 j hj) mid2
        rw [← ef] at mid6
        have o0 : ∀ j, j ≠ 2 → I6' 0 j = I3' 0 j := fun j hj => by rw [o6' _ _ (by decide), o5' _ _ (by decide)]; exact o4' j hj
        obtain ⟨I7', J7', e7', o7', iB7⟩ := b_chg2 (J := J') (c := c) (fp := σ.2.2) hr ok3 iB3 okf mid6 ⟨(o0 35 (by decide)).trans iB3.2.2.1.1, fun j hj => absurd hj (Nat.not_lt_zero _), (o0 43 (by decide)).trans iB3.2.2.1.2.2⟩ ⟨(o0 32 (by decide)).trans iB3.2.2.2.1, fun j hj => (mid6.1 15 j (by unfold kpB; omega) (by decide) (by omega) (by omega)).trans (iB3.2.2.2.2 j hj)⟩
        have y45 : I7' 0 45 = nI a := by rw [o7' _ (by omega), o6' _ _ (by decide), o5' _ _ (by decide)]; exact z45
        have y46 : I7' 0 46 = nI g := by rw [o7' _ (by omega), o6' _ _ (by decide), o5' _ _ (by decide)]; exact z46
        have y46' : fh_up I4' 1 (109 * r + 7) (nI a) 0 46 = nI g := by rw [up_a _ _ _ _ (by decide)]; exact z46
        have p7 := fun (I : Nat → Nat → Int32) (v : Int32) => b_put (I := I) (J := J') (j := 7) hr (by decide) v
        have p8 := fun (I : Nat → Nat → Int32) (v : Int32) => b_put (I := I) (J := J') (j := 8) hr (by decide) v
        have n7 : nI 7 = 7 := rfl
        have n8 : nI 8 = 8 := rfl
        rw [n7] at p7
        rw [n8] at p8
        rw [nI_0] at e6'
        simp only [e4', b1_N, z45, p7, y46', p8, ← e5', e6', e7', y45, y46, nI_add] at eB
        simp only [e4, b2_N, b1_N, (mdA_k hm).1, ck_N, a_become, rA_0_7 hR4, kA_53, e5, z53] at eA
        exact opx_r (Inv.mk (okP_n ok3 okf) iA5 iB7) eA eB ((o7' 3 (by omega)).trans ((o0 3 (by decide)).trans o33))
      · rw [if_neg c0] at eA eB
        exact opx_r (Inv.mk ok3 iA3 iB3) eA eB o33
    · rw [b_in0 (by omega) hx2, b1_N, if_pos rfl] at eR
      refine no ?_ eR
      rw [eA]
      by_cases z : x2 < 0
      · rw [if_pos z]
      · rw [if_neg z, if_neg (fun z2 => hx2 ((in_iff (by omega)).mp ⟨i32_nlt.mp z, z2⟩))]
  · refine no ?_ ?_
    · unfold z_X11_told
      rw [a_find_no hA.1 hx, b1_N, nn_Nn]
    · unfold z_X12_isRight
      rw [b_isRow_no hx, b1_N, if_pos rfl]
