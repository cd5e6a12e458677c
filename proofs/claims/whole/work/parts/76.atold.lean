/-! told rows of the class -/
theorem md_rw {a m : Nat} (ha : rwA a) (hm : mdA m) : (m < a ∨ a + 3 < m) ∧ (m + 1 < a ∨ a + 3 < m + 1) ∧ m ≠ 43 ∧ m + 1 ≠ 43 := by
  rcases ha with rfl | ⟨r, hr, rfl⟩ <;> rcases hm with rfl | ⟨i, hi, rfl⟩ | ⟨q, hq, rfl⟩ <;> omega
theorem aF_out {a b : Nat} {I I' : Nat → Nat → Int32} (h : aF a I I') (hb : (b < a ∨ a + 3 < b) ∧ b ≠ 43) (j : Nat) : I' b j = I b j := h b j (fun q => by
  rcases q with ⟨q, -⟩ | q | q <;> omega)
theorem a_told37 {I : Nat → Nat → Int32} {J : Nat → Nat → Int64} {R : Nat → Nat → Option Nat} {a n : Nat} (hn : n ≤ 60) (hm : I a 6 = nI n) : z_X6_copyTold_b37 SA a (I, J, R) = some (fh_up I a 7 (if n = 60 then 0 else 1), J, R) := by
  unfold z_X6_copyTold_b37
  simp (disch := omega) only [ck_t, b1_s, b2_s, let_e, nn_s, nn_n, sI_e, sJ_e, sR_e, in_n, nI_clamp, lit, nI_mul, nI_add, nI_leI, nI_ltI, nI_eq, up_s, up_a, up_k, hm]
  by_cases h : n = 60
  · rw [if_pos (by omega), if_pos h]
  · rw [if_neg (by omega), if_neg h]
theorem a_told2 {J : Nat → Nat → Int64} {R : Nat → Nat → Option Nat} (hR : RA R) {a m N : Nat} {f : Nat → Int32} (ha : rwA a) (hd : mdA m) (hN : N ≤ 60) : ∀ (k fuel : Nat) (I : Nat → Nat → Int32) (n : Nat), k < fuel → n + k = N → I m 7 = nI N → (∀ j, j < N → I (m + 1) j = f j) → I a 6 = nI n → lst (I (a + 1)) 0 ((List.range n).map f) →
    ∃ I', z_X6_copyTold_b2 SA a fuel (I, J, R) m (nI n) = some (I', J, R) ∧ aF a I I' ∧ rowA I' a ((List.range N).map f) (if N = 60 then 0 else 1) ∧ I' a 8 = I a 8 := by
  obtain ⟨k0, k1, k2⟩ := mdA_k hd
  have hr8 := rA_md hR hd
  obtain ⟨d1, d2, d3, d4⟩ := md_rw ha hd
  intro k
  induction k with
  | zero =>
    intro fuel I n hf hlen h7 hrec hm hl
    obtain ⟨f', rfl⟩ : ∃ f', fuel = f' + 1 := ⟨fuel - 1, by omega⟩
    obtain rfl : n = N := by omega
    refine ⟨fh_up I a 7 (if n = 60 then 0 else 1), ?_, aF.rf.up (aS_7 a), ⟨?_, ?_, up_s _ _ _ _⟩, ?_⟩
    · rw [z_X6_copyTold_b2, k0, ck_t]
      show (if I m 7 ≤ nI n then _ else _) = _
      rw [h7, if_pos (nI_le (Nat.le_refl _) (by omega)), a_told37 hN hm]
    · rw [up_k _ _ _ _ (by decide), hm]; simp
    · exact lst_cong hl (fun j _ _ => up_a _ _ _ _ (by omega))
    · rw [up_k _ _ _ _ (by decide)]
  | succ k ih =>
    intro fuel I n hf hlen h7 hrec hm hl
    obtain ⟨f', rfl⟩ : ∃ f', fuel = f' + 1 := ⟨fuel - 1, by omega⟩
    have hlen1 : ((List.range n).map f).length = n := by simp
    obtain ⟨hl2, hm2⟩ := addA_row (I := I) (a := a) (v := f n) (x := 0) (y := 0) hl
    rw [← rng_snoc] at hl2 hm2
    rw [hlen1] at hl2 hm2
    rw [show ((List.range (n + 1)).map f).length = n + 1 by simp] at hm2
    have hF0 : aF a I (addA I a n (f n) 0 0) := addA_F
    obtain ⟨I', e, hF, hrow, h6⟩ := ih f' (addA I a n (f n) 0 0) (n + 1) (by omega) (by omega) (by rw [aF_out hF0 ⟨d1, d3⟩]; exact h7) (fun j hj => by rw [aF_out hF0 ⟨d2, d4⟩]; exact hrec j hj) hm2 hl2
    refine ⟨I', ?_, hF0.trans hF, hrow, ?_⟩
    · rw [z_X6_copyTold_b2, k0, ck_t]
      show (if I m 7 ≤ nI n then _ else fh_b1 (R m 8) _) = _
      rw [h7, if_neg (nI_ge (by omega) (by omega)), hr8, b1_s, k1, ck_t, k2, if_neg (show ¬ Int32.ofNat 60 ≤ nI n from nI_ge (b := 60) (by omega) (by omega)), in_n (by omega) (by omega), ck_t]
      show fh_b1 (z_X6_add SA (I, J, R) a (I (m + 1) (nI n).toNatClampNeg) 0 0) _ = _
      rw [nI_clamp (by omega), hrec n (by omega), a_add hR ha (by omega) hm, b1_s, let_e, show nI n + 1 = nI (n + 1) from nI_1 n]
      exact e
    · rw [h6]; unfold addA; simp (disch := omega) only [up_a, up_k]
theorem a_told {I : Nat → Nat → Int32} {J : Nat → Nat → Int64} {R : Nat → Nat → Option Nat} (hR : RA R) {a m N : Nat} {f : Nat → Int32} (ha : rwA a) (hd : mdA m) (hN : N ≤ 60) (h7 : I m 7 = nI N) (hrec : ∀ j, j < N → I (m + 1) j = f j) (hm : I a 6 = 0) :
    ∃ I', z_X6_copyTold SA (I, J, R) a m = some (I', J, R) ∧ aF a I I' ∧ rowA I' a ((List.range N).map f) (if N = 60 then 0 else 1) ∧ I' a 8 = I a 8 :=
  a_told2 hR ha hd hN N 20000 I 0 (by omega) (by omega) h7 hrec hm (lst_nil _ _)
