/-! a question: the reference's loop over the places -/
section
variable {I' : Nat → Nat → Int32} {J' : Nat → Nat → Int64} {b : Nat → Nat} {n : Nat} {P : Rcp} {r : Nat} {sem : Nat → Bool}
theorem b_70c {y3 : Int32} (hy : y3 = 0) (hr : r < 10) (hQ : ∀ (I' : Nat → Nat → Int32) (k : Nat), gdQ I' b n P r → k < rwL P r → ∃ I1, z_X12_readQuestion TB (I', J', rB) 0 (nI n) (nI k) = some (bI (sem k), (I1, J', rB)) ∧ frQ I' I1) : ∀ (m fuel : Nat) (I' : Nat → Nat → Int32) (k : Nat), m < fuel → k + m = rwL P r → gdQ I' b n P r → ∃ I1, z_X12_ask_b70 TB 0 fuel (I', J', rB) (nI r) (nI n) y3 (nI (bcn sem k)) (nI k) = some (nI (bcn sem (rwL P r)), (I1, J', rB)) ∧ frQ I' I1 := by
  have hl := rwL_le P r
  have i1 : fh_in (nI r) 10 = true := in_n (by omega) (by omega)
  have k1 : (nI r).toNatClampNeg = r := nI_clamp (by omega)
  intro m
  induction m with
  | zero =>
    intro fuel I' k hf hk hg
    obtain ⟨f, rfl⟩ : ∃ f, fuel = f + 1 := ⟨fuel - 1, by omega⟩
    refine ⟨I', ?_, frQ.rf⟩
    rw [z_X12_ask_b70]
    simp only [rB_5, b1_N, kB_N4, ck_N, lB_N4, i1, k1, hg.1.1]
    rw [if_pos (nI_le (by omega) (by omega)), if_pos hy, show k = rwL P r by omega]
  | succ m ih =>
    intro fuel I' k hf hk hg
    obtain ⟨f, rfl⟩ : ∃ f, fuel = f + 1 := ⟨fuel - 1, by omega⟩
    obtain ⟨I1, e1, f1⟩ := hQ I' k hg (by omega)
    obtain ⟨I2, e2, f2⟩ := ih f I1 (k + 1) (by omega) (by omega) (gdQ_f hg f1)
    refine ⟨I2, ?_, f1.trans f2⟩
    rw [z_X12_ask_b70]
    simp only [rB_5, b1_N, kB_N4, ck_N, lB_N4, i1, k1, hg.1.1]
    rw [if_neg (nI_ge (by omega) (by omega)), e1, b2_N]
    rw [bcn] at e2
    cases q : sem k with
    | true =>
      rw [q, if_pos rfl] at e2
      rw [if_neg (show ¬ bI true = 0 by decide), if_pos hy, let_N, let_N, nI_1, nI_1]
      exact e2
    | false =>
      rw [q, if_neg (by decide)] at e2
      rw [if_pos (show bI false = 0 from rfl), let_N, nI_1]
      exact e2
theorem b_70f {y3 : Int32} (hy : ¬ y3 = 0) (hr : r < 10) (hQ : ∀ (I' : Nat → Nat → Int32) (k : Nat), gdQ I' b n P r → k < rwL P r → ∃ I1, z_X12_readQuestion TB (I', J', rB) 0 (nI n) (nI k) = some (bI (sem k), (I1, J', rB)) ∧ frQ I' I1) : ∀ (m fuel : Nat) (I' : Nat → Nat → Int32) (k : Nat), m < fuel → k + m = rwL P r → gdQ I' b n P r → ∃ I1, z_X12_ask_b70 TB 0 fuel (I', J', rB) (nI r) (nI n) y3 0 (nI k) = some (fsp sem m k, (I1, J', rB)) ∧ frQ I' I1 := by
  have hl := rwL_le P r
  have i1 : fh_in (nI r) 10 = true := in_n (by omega) (by omega)
  have k1 : (nI r).toNatClampNeg = r := nI_clamp (by omega)
  intro m
  induction m with
  | zero =>
    intro fuel I' k hf hk hg
    obtain ⟨f, rfl⟩ : ∃ f, fuel = f + 1 := ⟨fuel - 1, by omega⟩
    refine ⟨I', ?_, frQ.rf⟩
    rw [z_X12_ask_b70]
    simp only [rB_5, b1_N, kB_N4, ck_N, lB_N4, i1, k1, hg.1.1]
    rw [if_pos (nI_le (by omega) (by omega)), if_neg hy, fsp]
  | succ m ih =>
    intro fuel I' k hf hk hg
    obtain ⟨f, rfl⟩ : ∃ f, fuel = f + 1 := ⟨fuel - 1, by omega⟩
    obtain ⟨I1, e1, f1⟩ := hQ I' k hg (by omega)
    obtain ⟨I2, e2, f2⟩ := ih f I1 (k + 1) (by omega) (by omega) (gdQ_f hg f1)
    rw [z_X12_ask_b70]
    simp only [rB_5, b1_N, kB_N4, ck_N, lB_N4, i1, k1, hg.1.1]
    rw [if_neg (nI_ge (by omega) (by omega)), e1, b2_N, fsp]
    cases q : sem k with
    | true =>
      refine ⟨I1, ?_, f1⟩
      rw [if_neg (show ¬ bI true = 0 by decide), if_neg hy, if_pos rfl]
    | false =>
      refine ⟨I2, ?_, f1.trans f2⟩
      rw [if_pos (show bI false = 0 from rfl), let_N, nI_1, if_neg (by decide)]
      exact e2
theorem b_ends {σ : PS} (hp : psB I' b n σ) : z_X12_ends TB (I', J', rB) 0 = some (σ.2.1, (fh_up (fh_up I' 0 35 0) 0 43 (if σ.2.1 = 0 then -1 else σ.2.2), J', rB)) := by
  unfold z_X12_ends
  have u41 : fh_up I' 0 35 0 0 41 = σ.2.1 := by rw [up_k _ _ _ _ (by decide)]; exact hp.2.2.1
  have v41 : ∀ v : Int32, fh_up (fh_up I' 0 35 0) 0 43 v 0 41 = σ.2.1 := fun v => by rw [up_k _ _ _ _ (by decide)]; exact u41
  by_cases c0 : σ.2.1 = 0
  · rw [if_pos c0]
    simp only [let_N, sI_N, u41, c0, if_true, v41]
  · have u42 : fh_up I' 0 35 0 0 42 = σ.2.2 := by rw [up_k _ _ _ _ (by decide)]; exact hp.2.2.2.2 c0
    rw [if_neg c0]
    simp only [let_N, sI_N, u41, c0, if_false, v41, u42]
end
/-! a row asked in words -/
theorem op_ask {h h2 : fh_H} (i : Inv h h2) (x1 x2 : Int32) : opx (some 1) none (z_X11_ask SA h 0 x1 x2) (z_X12_ask TB h2 0 x1 x2) := by
  obtain ⟨I, J, R, I', J', n, P, t, b, fp, s, c, rfl, rfl, ok, hA, hB⟩ := i.cases
  have no : z_X11_ask SA (I, J, R) 0 x1 x2 = some (Sum.inl 0, (I, J, R)) → z_X12_isRight TB (fh_up I' 0 3 0, J', rB) 0 x1 x2 = some 0 → opx (some 1) none (z_X11_ask SA (I, J, R) 0 x1 x2) (z_X12_ask TB (I', J', rB) 0 x1 x2) := fun e1 e2 => by
    refine opx_l0 (k := 1) (v := 0) (h2 := (fh_up I' 0 3 1, J', rB)) (Inv.mk ok hA (invB_3 hB 1)) e1 ?_ u3 (by decide)
    unfold z_X12_ask
    rw [let_N, sI_N, e2, b1_N, if_pos rfl, b_fail, b2_N]
  have h35 : fh_up I' 0 3 0 0 35 = nI t := by rw [up_k _ _ _ _ (by decide)]; exact hB.2.2.1.1
  have t200 := ok.2.1
  by_cases hx : ∃ r : Nat, r < 10 ∧ x1 = nI r
  · obtain ⟨r, hr, rfl⟩ := hx
    have k6 := (rwA_k (rwA_r hr)).1
    have eR : z_X12_isRight TB (fh_up I' 0 3 0, J', rB) 0 (nI r) x2 = fh_b1 (z_X12_isIn x2.toInt64 0 (nI t).toInt64) (fun r4 => if r4 = 0 then some 0 else some 1) := by
      unfold z_X12_isRight
      simp only [b_isRow hr, b1_N, one0, if_false, h35]
    have eA : z_X11_ask SA (I, J, R) 0 (nI r) x2 = if x2 < 0 then some (Sum.inl 0, (I, J, R)) else if x2 ≤ nI t then (fh_b1 (z_X10_open SA (I, J, R) 48 x2) (fun h9 => fh_b1 (h9.2.2 0 8) (fun j11 => fh_bx (z_X11_settled SA h9 0 (nI r)) (fun r13 h14 => fh_b1 r13 (fun j16 => fh_ck (fh_kq SA j11 4) (fh_ck (fh_kq SA j16 6) (fh_b2 (z_X4_answer SA h14 j11 j16) (fun r19 h20 => fh_b1 (h20.2.2 0 6) (fun j22 => fh_ck (fh_kq SA j22 10) (fh_b1 (z_X10_empty SA h20 j22) (fun h25 => some (Sum.inr r19, h25)))))))))))) else some (Sum.inl 0, (I, J, R)) := by
      unfold z_X11_ask
      simp only [a_find hA.1 hr, b1_N, nn_Ns, rA_0_6 hA.1, kA_48, ck_N, hA.2.2.2.2.1.1]
    by_cases hx2 : ∃ q, q ≤ t ∧ x2 = nI q
    · rw [b_in1 (by omega) hx2, b1_N, if_neg one0] at eR
      obtain ⟨q, hq, rfl⟩ := hx2
      rw [if_neg (nI_pos (by omega)), if_pos (nI_le hq (by omega))] at eA
      have hb2 := ok.2.2.1
      obtain ⟨I1, N, e1, ⟨k4, k5⟩, g1, g2, g3, g4, g5, g6, o1⟩ := a_open (J := J) (n := q) hA.1 hb2 (by omega) (fun i hi => hA.2.2.2.2.1.2.1 i (by omega))
      have ht : tkc b q N := ⟨hb2, by omega, g3, g1, g2⟩
      have p1 : psA I1 b q N (0, 0, -1) := ⟨fun i hi => k5 i (by omega), g4, g5, g6, Nat.zero_le _⟩
      have iA1 : invA I1 R n P t b (-1) s c := invA_gen hA (fun b j z1 z2 z3 z4 z5 => by
        unfold kpA at z1
        rw [o1 _ _ (by omega)]) ⟨by rw [o1 _ _ (by omega)]; exact hA.2.2.2.2.1.1, fun j hj => by rw [o1 _ _ (by omega)]; exact hA.2.2.2.2.1.2.1 j hj, g6⟩ ⟨by rw [o1 _ _ (by omega)]; exact hA.2.2.2.2.2.1, fun j hj => by rw [o1 _ _ (by omega)]; exact hA.2.2.2.2.2.2 j hj⟩ hA.1 hA.2.1 (fun _ _ _ _ => rfl)
      obtain ⟨I2, J2, R2, e2, s1, hR2, hh2, rf2, hv2, s2, s3⟩ := a_settled (J := J) hr iA1.1 iA1.2.1 iA1.2.2.1
      have iA2 := invA_set iA1 s1 hR2 hh2 rf2 hv2
      have p2 : psA I2 b q N (0, 0, -1) := psA_k p1 (fun b j z => s1 b j (by omega) (fun r hr => by omega))
      have w3 := rw_A hr iA2 (s2 r (Nat.le_refl _))
      obtain ⟨R3, eR3⟩ : ∃ z, z = fh_up R2 55 1 (some (58 + 6 * r)) := ⟨_, rfl⟩
      obtain ⟨J3, eJ3⟩ : ∃ z, z = fh_up J2 55 2 (((1 : Int64) <<< (Int32.toInt64 (nI (rwL (P n) r)) &&& 63)) - 1) := ⟨_, rfl⟩
      have hR3 : RA R3 := by rw [eR3]; exact RA_55 hR2 _
      have hall : ∀ i, mbt (J3 55 2) i = decide (i < rwL (P n) r) := fun i => by rw [eJ3, up_s]; exact mbt_all (rwL_le _ _) i
      obtain ⟨σ', sem, fA, fB, st⟩ := t_whole (P := P n) (d := 0) (σ := qS1 b q) hr hR3 ht hall (fun σ hσ => f_fact ht hR3 hall hr 40 0 σ (by omega) (by omega) hσ) (stp_q1 ht).1
      have stt := (stp_q1 ht).trans st
      rw [eR3, eJ3] at fA
      obtain ⟨I3, e3, p3, f3⟩ := a_ans hR2 hr ht p2 w3 fA
      rw [← eR3, ← eJ3] at e3
      obtain ⟨σ, eσ⟩ : ∃ z, z = qFin b q σ' := ⟨_, rfl⟩
      rw [← eσ] at e3 p3
      have un : σ.2.1 = 0 → σ.2.2 = -1 := fun z => by
        rw [eσ] at z
        have z2 := qFin_0 z
        rw [eσ, z2.2.2]
        exact stt.2.2.2.2 z2.1
      -- the class's tape is emptied
      obtain ⟨I4, e4⟩ : ∃ z, z = fh_up I3 48 6 0 := ⟨_, rfl⟩
      have o4 : ∀ b j, ¬ (b = 48 ∧ j = 6) → I4 b j = I3 b j := fun b j z => by rw [e4]; simp only [fh_up, z, if_false]
      have em : z_X10_empty SA (I3, J3, R3) 48 = some (I4, J3, R3) := by rw [e4]; rfl
      have eA2 : z_X11_ask SA (I, J, R) 0 (nI r) (nI q) = some (Sum.inr (if σ.2.1 = 0 then (if isC b q 258 (0, 0, -1) = true then nI (bcn sem (rwL (P n) r)) else fsp sem (rwL (P n) r) 0) else -1000000000 - σ.2.1), (I4, J3, R3)) := by
        rw [eA, e1, b1_N]
        simp only [rA_0_8 hA.1, b1_N, e2, bx_Nr, kA_55, ck_N, k6, e3, b2_N, rA_0_6 hR3, kA_48, em]
      have h8 : I4 48 8 = σ.2.2 := by rw [o4 _ _ (by omega)]; exact p3.2.2.2.1
      have iA4 : invA I4 R3 n P 0 b σ.2.2 s c := invA_gen iA2 (fun b j z1 z2 z3 z4 z5 => by
        unfold kpA at z1
        rw [o4 _ _ (by omega), f3 _ _ (by omega)]) ⟨by rw [e4, up_s]; rfl, fun j hj => absurd hj (Nat.not_lt_zero _), h8⟩ ⟨by rw [o4 _ _ (by omega), f3 _ _ (by omega)]; exact iA2.2.2.2.2.2.1, fun j hj => by rw [o4 _ _ (by omega), f3 _ _ (by omega)]; exact iA2.2.2.2.2.2.2 j hj⟩ hR3 (by
          obtain ⟨u, w, z1, z2, z3⟩ := hh2
          exact ⟨u, w, z1, by rw [eR3, up_a _ _ _ _ (by decide)]; exact z2, by rw [eR3, up_a _ _ _ _ (by decide)]; exact z3⟩) (fun b j z1 z2 => by rw [eR3, up_a _ _ _ _ z2])
      -- the reference
      obtain ⟨Ia, ea⟩ : ∃ z, z = fh_up (fh_up I' 0 3 0) 0 47 (nI r) := ⟨_, rfl⟩
      have oa : ∀ b j, ¬ (b = 0 ∧ (j = 3 ∨ j = 47)) → Ia b j = I' b j := fun b j z => by
        have z1 : ¬ (b = 0 ∧ j = 3) := fun y => z ⟨y.1, Or.inl y.2⟩
        have z2 : ¬ (b = 0 ∧ j = 47) := fun y => z ⟨y.1, Or.inr y.2⟩
        rw [ea]; simp only [fh_up, z1, z2, if_false]
      have a3 : Ia 0 3 = 0 := by rw [ea, up_k _ _ _ _ (by decide), up_s]
      have rb := rw_B hr hB
      have ga : gdQ Ia b q (P n) r := ⟨⟨by rw [oa _ _ (by omega)]; exact rb.1, fun j hj => by rw [oa _ _ (by omega)]; exact rb.2.1 j hj, by rw [oa _ _ (by omega)]; exact rb.2.2⟩, by rw [ea, up_s], fun i hi => by rw [oa _ _ (by omega)]; exact hB.2.2.1.2.1 i (by omega)⟩
      obtain ⟨Ib, eb, pb, -, ob⟩ := b_opens (I' := Ia) (J' := J') (n := q) hb2 (by omega) ga.2.2
      have fb : frQ Ia Ib := fun b j z => ob b j (by omega)
      have w1 : z_X12_isWord TB (Ib, J', rB) 0 1 = some (bI (isC b q 259 (0, 0, -1))) := b_isW ht pb (by decide)
      obtain ⟨Ic, vc, ec, pc, fc, -⟩ := b_quest (J' := J') (ask := -1) hr ht (gdQ_f ga fb) (Or.inl rfl) st.1 fB
      rw [← eσ] at pc
      have ed := b_ends (J' := J') pc
      obtain ⟨Id, eId⟩ : ∃ z, z = fh_up (fh_up Ic 0 35 0) 0 43 (if σ.2.1 = 0 then -1 else σ.2.2) := ⟨_, rfl⟩
      rw [← eId] at ed
      have od : ∀ b j, ¬ (b = 0 ∧ (j = 35 ∨ j = 43)) → Id b j = Ic b j := fun b j z => by
        have z1 : ¬ (b = 0 ∧ j = 35) := fun y => z ⟨y.1, Or.inl y.2⟩
        have z2 : ¬ (b = 0 ∧ j = 43) := fun y => z ⟨y.1, Or.inr y.2⟩
        rw [eId]; simp only [fh_up, z1, z2, if_false]
      have d35 : Id 0 35 = nI 0 := by rw [eId, up_k _ _ _ _ (by decide), up_s]; rfl
      have d43 : Id 0 43 = σ.2.2 := by
        rw [eId, up_s]
        by_cases c0 : σ.2.1 = 0
        · rw [if_pos c0, un c0]
        · rw [if_neg c0]
      have gd : gdQ Id b q (P n) r := by
        obtain ⟨⟨z1, z2, z3⟩, z4, z5⟩ := gdQ_f (gdQ_f ga fb) fc
        exact ⟨⟨by rw [od _ _ (by omega)]; exact z1, fun j hj => by rw [od _ _ (by omega)]; exact z2 j hj, by rw [od _ _ (by omega)]; exact z3⟩, by rw [od _ _ (by omega)]; exact z4, fun i hi => by rw [od _ _ (by omega)]; exact z5 i hi⟩
      have eB : z_X12_ask TB (I', J', rB) 0 (nI r) (nI q) = if σ.2.1 = 0 then z_X12_ask_b70 TB 0 20000 (Id, J', rB) (nI r) (nI q) (bI (isC b q 259 (0, 0, -1))) 0 0 else some (-1000000000 - σ.2.1, (Id, J', rB)) := by
        unfold z_X12_ask
        rw [let_N, sI_N, eR, b1_N, if_neg one0, let_N, sI_N, ← ea, eb, b1_N, w1, b1_N, ec, b2_N, ed, b2_N]
      -- in the end
      have fin : ∀ Ie : Nat → Nat → Int32, frQ Id Ie → invB Ie n P 0 b σ.2.2 s c ∧ Ie 0 3 = 0 := fun Ie fe => by
        have oe : ∀ b j, ¬ (b = 0 ∧ (36 ≤ j ∨ j = 3 ∨ j = 35)) → Ie b j = I' b j := fun b j z => by
          rw [fe _ _ (by omega), od _ _ (by omega), fc _ _ (by omega), fb _ _ (by omega), oa _ _ (by omega)]
        refine ⟨invB_gen hB (fun b j z => oe b j (by omega)) ⟨by rw [fe _ _ (by omega)]; exact d35, fun j hj => absurd hj (Nat.not_lt_zero _), by rw [fe _ _ (by omega)]; exact d43⟩ ⟨by rw [oe _ _ (by omega)]; exact hB.2.2.2.1, fun j hj => by rw [oe _ _ (by omega)]; exact hB.2.2.2.2 j hj⟩, ?_⟩
        rw [fe _ _ (by omega), od _ _ (by omega), fc _ _ (by omega), fb _ _ (by omega)]; exact a3
      have ok3 : okP n P 0 b s := ⟨ok.1, Nat.zero_le _, ok.2.2.1, ok.2.2.2⟩
      by_cases c0 : σ.2.1 = 0
      · rw [if_pos c0] at eA2 eB
        have hQ : ∀ (I' : Nat → Nat → Int32) (k : Nat), gdQ I' b q (P n) r → k < rwL (P n) r → ∃ I1, z_X12_readQuestion TB (I', J', rB) 0 (nI q) (nI k) = some (bI (sem k), (I1, J', rB)) ∧ frQ I' I1 := fun Iq k gq hk => by
          obtain ⟨Ir, v, er, -, fr, hv⟩ := b_quest (J' := J') (ask := nI k) hr ht gq (Or.inr ⟨k, hk, rfl⟩) st.1 fB
          rw [← eσ] at hv
          rw [hv c0 k rfl hk] at er
          exact ⟨Ir, er, fr⟩
        cases q8 : isC b q 258 (0, 0, -1) with
        | true =>
          have q9 : isC b q 259 (0, 0, -1) = false := isC_ne q8 (by decide)
          obtain ⟨Ie, ee, fe⟩ := b_70c (y3 := 0) rfl hr hQ (rwL (P n) r) 20000 Id 0 (by have := rwL_le (P n) r; omega) (by omega) gd
          have ee' : z_X12_ask_b70 TB 0 20000 (Id, J', rB) (nI r) (nI q) 0 0 0 = some (nI (bcn sem (rwL (P n) r)), (Ie, J', rB)) := ee
          rw [q8, if_pos rfl] at eA2
          rw [q9, show bI false = 0 from rfl, ee'] at eB
          obtain ⟨z1, z2⟩ := fin Ie fe
          exact opx_r (Inv.mk ok3 iA4 z1) eA2 eB z2
        | false =>
          have q9 : isC b q 259 (0, 0, -1) = true := by
            have z0 : σ'.2.1 = 0 := by rw [eσ] at c0; exact (qFin_0 c0).1
            have z1 := (st.2.2.1 z0).1
            unfold qS1 at z1
            rw [if_neg (by rw [q8]; decide)] at z1
            cases q9 : isC b q 259 (0, 0, -1) with
            | true => rfl
            | false =>
              unfold exC at z1
              rw [q9, if_neg (by decide)] at z1
              exact absurd z1 (flw_nz (by decide))
          obtain ⟨Ie, ee, fe⟩ := b_70f (y3 := bI true) (by decide) hr hQ (rwL (P n) r) 20000 Id 0 (by have := rwL_le (P n) r; omega) (by omega) gd
          have ee' : z_X12_ask_b70 TB 0 20000 (Id, J', rB) (nI r) (nI q) (bI true) 0 0 = some (fsp sem (rwL (P n) r) 0, (Ie, J', rB)) := ee
          rw [q8, if_neg (by decide)] at eA2
          rw [q9, ee'] at eB
          obtain ⟨z1, z2⟩ := fin Ie fe
          exact opx_r (Inv.mk ok3 iA4 z1) eA2 eB z2
      · rw [if_neg c0] at eA2 eB
        obtain ⟨z1, z2⟩ := fin Id frQ.rf
        exact opx_r (Inv.mk ok3 iA4 z1) eA2 eB z2
    · rw [b_in0 (by omega) hx2, b1_N, if_pos rfl] at eR
      refine no ?_ eR
      rw [eA]
      by_cases z : x2 < 0
      · rw [if_pos z]
      · rw [if_neg z, if_neg (fun z2 => hx2 ((in_iff (by omega)).mp ⟨i32_nlt.mp z, z2⟩))]
  · refine no ?_ ?_
    · unfold z_X11_ask
      rw [a_find_no hA.1 hx, b1_N, nn_Nn]
    · unfold z_X12_isRight
      rw [b_isRow_no hx, b1_N, if_pos rfl]
