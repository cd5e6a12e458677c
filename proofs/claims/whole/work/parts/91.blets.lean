/-! the reference's reckoner: letting out -/
def sF (I I' : Nat → Nat → Int32) : Prop := ∀ b k, ¬ (b = 0 ∧ 15 ≤ k ∧ k ≤ 24) → I' b k = I b k
theorem sF.rf {I : Nat → Nat → Int32} : sF I I := fun _ _ _ => rfl
theorem sF.trans {I I' I2 : Nat → Nat → Int32} (h : sF I I') (h2 : sF I' I2) : sF I I2 := fun b k q => (h2 b k q).trans (h b k q)
theorem sF.up {I I' : Nat → Nat → Int32} {k : Nat} {v : Int32} (h : sF I I') (h1 : 15 ≤ k) (h2 : k ≤ 24) : sF I (fh_up I' 0 k v) := fun b j q => by
  rw [← h b j q]
  by_cases e : b = 0 ∧ j = k
  · exact absurd ⟨e.1, by omega, by omega⟩ q
  · simp only [fh_up, e, if_false]
theorem sF.b {I I' : Nat → Nat → Int32} (h : sF I I') (r : Nat) : bF r I I' := fun b j q => h b j (fun e => q (Or.inr (Or.inr e)))
def orb (q : Int64) (m : Nat → Int64) : Nat → Bool
  | 0 => false
  | n + 1 => orb q m n || bey (-(m (n + 4))) q (m n)
theorem bd_neg {a : Int64} (h : bd a) : bd (-a) := by
  obtain ⟨h1, h2⟩ := h
  unfold bd
  rw [i64_neg (by omega)]; omega
theorem b_lets25 {q : Int64} {m : Nat → Int64} (hm : ∀ j, j < 8 → bd (m j)) : ∀ (k fuel : Nat) (I : Nat → Nat → Int32) (J : Nat → Nat → Int64) (n : Nat), k < fuel → n + k = 4 → I 0 16 = bI (orb q m n) → (∀ j, j < 8 → J 11 j = m j) → (orb q m n = false → ∀ j, j < n → J 12 j = m (j + 4) ∧ J 12 (j + 4) = -(m (j + 4)) * q + m j) →
    ∃ J', z_X12_letsOut_b25 TB 0 fuel (I, J, rB) q (nI n) = (if orb q m 4 = true then some (0, (fh_up I 0 16 1, J', rB)) else fh_b1 (z_X12_takesThen TB (fh_up I 0 16 0, J', rB) 0) (fun h3 => some (1, fh_sI h3 0 24 0))) ∧ jF J J' 12 ∧ (orb q m 4 = false → ∀ j, j < 4 → J' 12 j = m (j + 4) ∧ J' 12 (j + 4) = -(m (j + 4)) * q + m j) := by
  intro k
  induction k with
  | zero =>
    intro fuel I J n hf hn h16 hJ hT
    obtain ⟨f, rfl⟩ : ∃ f, fuel = f + 1 := ⟨fuel - 1, by omega⟩
    obtain rfl : n = 4 := by omega
    refine ⟨J, ?_, fun _ _ _ => rfl, hT⟩
    rw [z_X12_letsOut_b25, if_pos (by decide)]
    simp only [h16]
    have eI : fh_up I 0 16 (bI (orb q m 4)) = I := by
      funext b j
      unfold fh_up
      by_cases h : b = 0 ∧ j = 16
      · rw [if_pos h, h.1, h.2, h16]
      · rw [if_neg h]
    cases c : orb q m 4
    · rw [c] at eI
      rw [if_pos (show bI false = 0 from rfl), if_neg (by decide), show (0 : Int32) = bI false from rfl, eI]; rfl
    · rw [c] at eI
      rw [if_neg (show ¬ bI true = 0 by decide), if_pos rfl, show (1 : Int32) = bI true from rfl, eI]
  | succ k ih =>
    intro fuel I J n hf hn h16 hJ hT
    obtain ⟨f, rfl⟩ : ∃ f, fuel = f + 1 := ⟨fuel - 1, by omega⟩
    obtain ⟨v, e, w⟩ := b_times (I := I) (J := fh_up J 12 n (m (n + 4))) (a := -(m (n + 4))) (n := q) (b := m n) (by0 := orb q m n) (bd_neg (hm _ (by omega))) h16
    have g4 := hJ (n + 4) (by omega)
    have g0 := hJ n (by omega)
    obtain ⟨J', e2, hF, h2⟩ := ih f (fh_up I 0 16 (bI (orb q m n || bey (-(m (n + 4))) q (m n)))) (fh_up (fh_up J 12 n (m (n + 4))) 12 (n + 4) v) (n + 1) (by omega) (by omega) (up_s _ _ _ _) (fun j hj => by simp (disch := omega) only [up_a]; exact hJ j hj) (fun hc j hj => by
      rw [orb, Bool.or_eq_false_iff] at hc
      by_cases hjn : j = n
      · subst hjn
        simp (disch := omega) only [up_k, up_s]
        exact ⟨trivial, w hc.2⟩
      · have := hT hc.1 j (by omega)
        simp (disch := omega) only [up_k]
        exact this)
    refine ⟨J', ?_, fun b j hb => by rw [hF b j hb, up_a _ _ _ _ hb, up_a _ _ _ _ hb], h2⟩
    rw [up_up, up_up] at e2
    rw [← e2, z_X12_letsOut_b25, if_neg (show ¬ (4 : Int32) ≤ nI n from nI_ge (b := 4) (by omega) (by omega))]
    simp (disch := omega) only [ck_t, b1_s, b2_s, let_e, nn_s, nn_n, sI_e, sJ_e, sR_e, kB_0, kB_1, kB_2, kB_3, kB_4, kB_5, kB_6, kB_7, kB_8, kB_9, kB_10, kB_11, kB_12, kB_13, kB_14, kB_15, kB_16, kB_17, lB_1, lB_2, lB_3, lB_4, lB_5, lB_6, lB_7, lB_8, lB_9, lB_10, lB_11, lB_12, lB_13, lB_14, lB_15, lB_16, lB_17, rB_0, rB_1, rB_4, rB_5, rB_6, rB_7, rB_8, rB_9, rB_10, rB_11, rB_13, rB_14, rB_26, rB_27, rB_31, rB_33, rB_34, in_n, nI_clamp, lit, nI_mul, nI_add, nI_leI, nI_ltI, nI_eq, up_s, up_a, up_k, g4, g0, e]
theorem b_let0 {I : Nat → Nat → Int32} {J : Nat → Nat → Int64} {q : Int64} (hm : ∀ j, j < 8 → bd (J 11 j)) : (big q || orb q (fun j => J 11 j) 4) = true → ∃ I' J', z_X12_letsOut TB (I, J, rB) 0 q = some (0, (I', J', rB)) ∧ (∀ b j, ¬ (b = 0 ∧ j = 16) → I' b j = I b j) := by
  intro hc
  unfold z_X12_letsOut
  by_cases c1 : (1000000000 : Int64) < q
  · rw [if_pos c1]; exact ⟨I, J, rfl, fun _ _ _ => rfl⟩
  rw [if_neg c1]
  by_cases c2 : (-1000000000 : Int64) ≤ q
  · rw [if_pos c2]
    have hb : big q = false := by
      unfold big; rw [decide_eq_false c1, decide_eq_false (n64_lt.mpr c2)]; rfl
    rw [hb, Bool.false_or] at hc
    obtain ⟨J', e, -, -⟩ := b_lets25 (q := q) (m := fun j => J 11 j) hm 4 20000 (fh_up I 0 16 0) J 0 (by omega) (by omega) (up_s _ _ _ _) (fun _ _ => rfl) (fun _ j hj => absurd hj (Nat.not_lt_zero _))
    rw [if_pos hc, up_up] at e
    refine ⟨fh_up I 0 16 1, J', e, fun b j q => ?_⟩
    simp only [fh_up, q, if_false]
  · rw [if_neg c2]; exact ⟨I, J, rfl, fun _ _ _ => rfl⟩
theorem b_let1 {I : Nat → Nat → Int32} {J : Nat → Nat → Int64} {q : Int64} (hm : ∀ j, j < 8 → bd (J 11 j)) (hc : (big q || orb q (fun j => J 11 j) 4) = false) : ∃ J', z_X12_letsOut TB (I, J, rB) 0 q = some (1, (fh_up (fh_up I 0 16 0) 0 24 0, J', rB)) ∧ (∀ b j, b ≠ 11 → b ≠ 12 → J' b j = J b j) ∧ k4 J' 11 0 = k4 J 11 4 ∧ k4 J' 11 4 = (-(J 11 4) * q + J 11 0, -(J 11 5) * q + J 11 1, -(J 11 6) * q + J 11 2, -(J 11 7) * q + J 11 3) := by
  rw [Bool.or_eq_false_iff] at hc
  have hc1 := hc.1
  simp only [big, Bool.or_eq_false_iff, decide_eq_false_iff_not] at hc1
  obtain ⟨J1, e, hF, h1⟩ := b_lets25 (q := q) (m := fun j => J 11 j) hm 4 20000 (fh_up I 0 16 0) J 0 (by omega) (by omega) (up_s _ _ _ _) (fun _ _ => rfl) (fun _ j hj => absurd hj (Nat.not_lt_zero _))
  rw [if_neg (by rw [hc.2]; decide), up_up] at e
  obtain ⟨J2, e2, hF2, g0, g4⟩ := b_take (I := fh_up I 0 16 0) (J := J1)
  rw [e2, b1_s] at e
  have h1 := h1 hc.2
  refine ⟨J2, ?_, fun b j b1 b2 => (hF2 b j b1).trans (hF b j b2), ?_, ?_⟩
  · unfold z_X12_letsOut
    rw [if_neg hc1.1, if_pos (n64_lt.mp hc1.2)]
    exact e
  · rw [g0]; unfold k4
    rw [(h1 0 (by decide)).1, (h1 (0 + 1) (by decide)).1, (h1 (0 + 2) (by decide)).1, (h1 (0 + 3) (by decide)).1]
  · rw [g4]; unfold k4
    rw [show J1 12 4 = _ from (h1 0 (by decide)).2, show J1 12 (4 + 1) = _ from (h1 1 (by decide)).2, show J1 12 (4 + 2) = _ from (h1 2 (by decide)).2, show J1 12 (4 + 3) = _ from (h1 3 (by decide)).2]
theorem m_all {J : Nat → Nat → Int64} {two : Bool} {A B : H4} (mA : k4 J 11 0 = mB two A) (mBB : k4 J 11 4 = mB two B) (hA : bd4 A) (hB : bd4 B) : ∀ j, j < 8 → bd (J 11 j) := by
  have z : bd 0 := ⟨by decide, by decide⟩
  have f : ∀ C : H4, bd4 C → bd4 (mB two C) := fun C hC => by
    cases two
    · exact ⟨hC.1, hC.2.2.1, z, z⟩
    · exact hC
  have a := f A hA
  have b := f B hB
  rw [← mA] at a
  rw [← mBB] at b
  intro j hj
  rcases j with _ | _ | _ | _ | _ | _ | _ | _ | j
  · exact a.1
  · exact a.2.1
  · exact a.2.2.1
  · exact a.2.2.2
  · exact b.1
  · exact b.2.1
  · exact b.2.2.1
  · exact b.2.2.2
  · omega
theorem big_q {q : Int64} (h : big q = false) : -9000000000000000000 ≤ q.toInt ∧ q.toInt ≤ 9000000000000000000 := by
  have := big_rng h; omega
theorem orb_byL {J : Nat → Nat → Int64} {two : Bool} {X Y : List Int32 × Int32} {A B : H4} {x y s : Nat} {e1 e2 tk : Bool} {q : Int64} (mA : k4 J 11 0 = mB two A) (mBB : k4 J 11 4 = mB two B) (ok : rOK two X Y (A, B, x, y, s, e1, e2, tk)) (hq : big q = false) : orb q (fun j => J 11 j) 4 = byL A B q := by
  obtain ⟨hA, hB, -, -, -, -, -, hs⟩ := ok
  have hr := big_q hq
  have hn := big_neg hq
  have a0 : J 11 0 = (mB two A).1 := by rw [← mA]; rfl
  have a1 : J 11 1 = (mB two A).2.1 := by rw [← mA]; rfl
  have a2 : J 11 2 = (mB two A).2.2.1 := by rw [← mA]; rfl
  have a3 : J 11 3 = (mB two A).2.2.2 := by rw [← mA]; rfl
  have b0 : J 11 4 = (mB two B).1 := by rw [← mBB]; rfl
  have b1 : J 11 5 = (mB two B).2.1 := by rw [← mBB]; rfl
  have b2 : J 11 6 = (mB two B).2.2.1 := by rw [← mBB]; rfl
  have b3 : J 11 7 = (mB two B).2.2.2 := by rw [← mBB]; rfl
  show ((((false || bey (-(J 11 4)) q (J 11 0)) || bey (-(J 11 5)) q (J 11 1)) || bey (-(J 11 6)) q (J 11 2)) || bey (-(J 11 7)) q (J 11 3)) = _
  rw [a0, a1, a2, a3, b0, b1, b2, b3, Bool.false_or]
  unfold byL
  have z : bd 0 := ⟨by decide, by decide⟩
  cases two
  · obtain ⟨-, -, g1, g2, g3, g4⟩ := hs rfl
    show (((bey (-B.1) q A.1 || bey (-B.2.2.1) q A.2.2.1) || bey (-0) q 0) || bey (-0) q 0) = _
    rw [g1, g2, g3, g4, (bey_neg hB.1 hr).1, (bey_neg hB.2.2.1 hr).1, (bey_neg z hr).1, bey_z hn, Bool.or_false, Bool.or_false, Bool.or_false, Bool.or_false]
  · show (((bey (-B.1) q A.1 || bey (-B.2.1) q A.2.1) || bey (-B.2.2.1) q A.2.2.1) || bey (-B.2.2.2) q A.2.2.2) = _
    rw [(bey_neg hB.1 hr).1, (bey_neg hB.2.1 hr).1, (bey_neg hB.2.2.1 hr).1, (bey_neg hB.2.2.2 hr).1]
theorem lo_mB {J : Nat → Nat → Int64} {two : Bool} {A B : H4} {q : Int64} (mA : k4 J 11 0 = mB two A) (mBB : k4 J 11 4 = mB two B) : (-(J 11 4) * q + J 11 0, -(J 11 5) * q + J 11 1, -(J 11 6) * q + J 11 2, -(J 11 7) * q + J 11 3) = mB two (lo4 A B q) := by
  have a0 : J 11 0 = (mB two A).1 := by rw [← mA]; rfl
  have a1 : J 11 1 = (mB two A).2.1 := by rw [← mA]; rfl
  have a2 : J 11 2 = (mB two A).2.2.1 := by rw [← mA]; rfl
  have a3 : J 11 3 = (mB two A).2.2.2 := by rw [← mA]; rfl
  have b0 : J 11 4 = (mB two B).1 := by rw [← mBB]; rfl
  have b1 : J 11 5 = (mB two B).2.1 := by rw [← mBB]; rfl
  have b2 : J 11 6 = (mB two B).2.2.1 := by rw [← mBB]; rfl
  have b3 : J 11 7 = (mB two B).2.2.2 := by rw [← mBB]; rfl
  rw [a0, a1, a2, a3, b0, b1, b2, b3]
  have e : ∀ c a : Int64, -c * q + a = c * -q + a := fun c a => by rw [Int64.neg_mul, Int64.mul_neg]
  cases two
  · show (-B.1 * q + A.1, -B.2.2.1 * q + A.2.2.1, -0 * q + 0, -0 * q + 0) = (B.1 * -q + A.1, B.2.2.1 * -q + A.2.2.1, 0, 0)
    rw [e, e, e, z64]
  · show (-B.1 * q + A.1, -B.2.1 * q + A.2.1, -B.2.2.1 * q + A.2.2.1, -B.2.2.2 * q + A.2.2.2) = lo4 A B q
    rw [e, e, e, e]; rfl
theorem b_turns {I : Nat → Nat → Int32} {J : Nat → Nat → Int64} {e1 e2 on : Bool} (i17 : I 0 17 = bI e1) (i18 : I 0 18 = bI e2) (i19 : I 0 19 = bI on) : z_X12_turns TB (I, J, rB) 0 = some (fh_up I 0 19 (bI (if on = true then e1 else !e2)), J, rB) := by
  unfold z_X12_turns
  simp only [let_e, i17, i18, i19]
  cases on <;> cases e1 <;> cases e2 <;> rfl
