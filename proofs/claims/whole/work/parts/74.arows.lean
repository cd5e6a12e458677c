/-! the class's rows: their terms, as lists -/
def aS (a : Nat) (b j : Nat) : Prop := (b = a ∧ 6 ≤ j ∧ j ≤ 8) ∨ (a + 1 ≤ b ∧ b ≤ a + 3) ∨ b = 43
def aF (a : Nat) (I I' : Nat → Nat → Int32) : Prop := ∀ b j, ¬ aS a b j → I' b j = I b j
theorem aF.rf {a : Nat} {I : Nat → Nat → Int32} : aF a I I := fun _ _ _ => rfl
theorem aF.trans {a : Nat} {I I' I2 : Nat → Nat → Int32} (h : aF a I I') (h2 : aF a I' I2) : aF a I I2 := fun b j q => (h2 b j q).trans (h b j q)
theorem aF.up {a : Nat} {I I' : Nat → Nat → Int32} {b j : Nat} {v : Int32} (h : aF a I I') (q : aS a b j) : aF a I (fh_up I' b j v) := fun b' j' q' => by
  by_cases e : b' = b ∧ j' = j
  · obtain ⟨rfl, rfl⟩ := e; exact absurd q q'
  · simp only [fh_up, e, if_false]; exact h b' j' q'
theorem aS_6 (a : Nat) : aS a a 6 := Or.inl ⟨rfl, by decide, by decide⟩
theorem aS_7 (a : Nat) : aS a a 7 := Or.inl ⟨rfl, by decide, by decide⟩
theorem aS_8 (a : Nat) : aS a a 8 := Or.inl ⟨rfl, by decide, by decide⟩
theorem aS_1 (a j : Nat) : aS a (a + 1) j := Or.inr (Or.inl ⟨by omega, by omega⟩)
theorem aS_2 (a j : Nat) : aS a (a + 2) j := Or.inr (Or.inl ⟨by omega, by omega⟩)
theorem aS_3 (a j : Nat) : aS a (a + 3) j := Or.inr (Or.inl ⟨by omega, by omega⟩)
def rowA (I : Nat → Nat → Int32) (a : Nat) (l : List Int32) (st : Int32) : Prop := I a 6 = nI l.length ∧ lst (I (a + 1)) 0 l ∧ I a 7 = st
def addA (I : Nat → Nat → Int32) (a n : Nat) (v x y : Int32) : Nat → Nat → Int32 := fh_up (fh_up (fh_up (fh_up I (a + 1) n v) (a + 2) n x) (a + 3) n y) a 6 (nI (n + 1))
theorem addA_F {I : Nat → Nat → Int32} {a n : Nat} {v x y : Int32} : aF a I (addA I a n v x y) := (((aF.rf.up (aS_1 a n)).up (aS_2 a n)).up (aS_3 a n)).up (aS_6 a)
theorem a_add {I : Nat → Nat → Int32} {J : Nat → Nat → Int64} {R : Nat → Nat → Option Nat} (hR : RA R) {a n : Nat} (ha : rwA a) (hn : n < 60) (hm : I a 6 = nI n) (v x y : Int32) : z_X6_add SA (I, J, R) a v x y = some (addA I a n v x y, J, R) := by
  obtain ⟨k0, k1, k2, k3⟩ := rwA_k ha
  obtain ⟨l1, l2, l3⟩ := rwA_l ha
  obtain ⟨r1, r2, r3⟩ := rA_arr hR ha
  unfold z_X6_add addA
  simp (disch := omega) only [ck_t, b1_s, b2_s, let_e, nn_s, nn_n, sI_e, sJ_e, sR_e, in_n, nI_clamp, lit, nI_mul, nI_add, nI_leI, nI_ltI, nI_eq, up_s, up_a, up_k, hm, k1, k2, k3, l1, l2, l3, r1, r2, r3]
  rw [if_neg (by omega), if_neg (by omega)]
theorem addA_row {I : Nat → Nat → Int32} {a : Nat} {l : List Int32} {v x y : Int32} (hl : lst (I (a + 1)) 0 l) : lst (addA I a l.length v x y (a + 1)) 0 (l ++ [v]) ∧ addA I a l.length v x y a 6 = nI (l ++ [v]).length := by
  unfold addA
  refine ⟨lst_snoc (lst_cong hl (fun j h1 h2 => ?_)) ?_, ?_⟩
  · simp (disch := omega) only [up_a, up_k]
  · simp (disch := omega) only [up_a, up_s, Nat.zero_add]
  · simp (disch := omega) only [up_s, List.length_append, List.length_singleton]
theorem a_div65 {I : Nat → Nat → Int32} {J : Nat → Nat → Int64} {R : Nat → Nat → Option Nat} {a n : Nat} (hn : n ≤ 60) (hm : I a 6 = nI n) : z_X6_divide_b65 SA a (I, J, R) = some (fh_up I a 7 (if n = 60 then 0 else 1), J, R) := by
  unfold z_X6_divide_b65
  simp (disch := omega) only [ck_t, b1_s, b2_s, let_e, nn_s, nn_n, sI_e, sJ_e, sR_e, in_n, nI_clamp, lit, nI_mul, nI_add, nI_leI, nI_ltI, nI_eq, up_s, up_a, up_k, hm]
  by_cases h : n = 60
  · rw [if_pos (by omega), if_pos h]
  · rw [if_neg (by omega), if_neg h]
theorem a_div9 {J : Nat → Nat → Int64} {R : Nat → Nat → Option Nat} (hR : RA R) {a : Nat} (ha : rwA a) : ∀ (k fuel : Nat) (I : Nat → Nat → Int32) (l : List Int32) (p q : Int64), k < fuel → l.length + k = 60 → I a 6 = nI l.length → lst (I (a + 1)) 0 l →
    ∃ I', z_X6_divide_b9 SA a fuel (I, J, R) p q (nI l.length) = some (I', J, R) ∧ aF a I I' ∧ rowA I' a (l ++ dv k p q) (if (l ++ dv k p q).length = 60 then 0 else 1) ∧ I' a 8 = I a 8 := by
  intro k
  induction k with
  | zero =>
    intro fuel I l p q hf hlen hm hl
    obtain ⟨f, rfl⟩ : ∃ f, fuel = f + 1 := ⟨fuel - 1, by omega⟩
    refine ⟨fh_up I a 7 0, ?_, aF.rf.up (aS_7 a), ⟨?_, ?_, ?_⟩, ?_⟩
    · rw [z_X6_divide_b9, a_div65 (show l.length ≤ 60 by omega) hm]
      simp (disch := omega) only [ck_t, b1_s, b2_s, let_e, nn_s, nn_n, sI_e, sJ_e, sR_e, in_n, nI_clamp, lit, nI_mul, nI_add, nI_leI, nI_ltI, nI_eq, up_s, up_a, up_k]
      rw [if_pos (by omega), if_pos (by omega)]
    · rw [dv, List.append_nil, up_k _ _ _ _ (by decide)]; exact hm
    · rw [dv, List.append_nil]; exact lst_cong hl (fun j _ _ => up_a _ _ _ _ (by omega))
    · rw [dv, List.append_nil, if_pos (by omega), up_s]
    · rw [up_k _ _ _ _ (by decide)]
  | succ k ih =>
    intro fuel I l p q hf hlen hm hl
    obtain ⟨f, rfl⟩ : ∃ f, fuel = f + 1 := ⟨fuel - 1, by omega⟩
    rw [z_X6_divide_b9, if_neg (show ¬ (60 : Int32) ≤ nI l.length from nI_ge (b := 60) (by omega) (by omega))]
    by_cases hq : q = 0
    · refine ⟨fh_up I a 7 1, ?_, aF.rf.up (aS_7 a), ⟨?_, ?_, ?_⟩, ?_⟩
      · rw [if_pos hq, a_div65 (show l.length ≤ 60 by omega) hm, if_neg (by omega)]
      · rw [dv, if_pos hq, List.append_nil, up_k _ _ _ _ (by decide)]; exact hm
      · rw [dv, if_pos hq, List.append_nil]; exact lst_cong hl (fun j _ _ => up_a _ _ _ _ (by omega))
      · rw [dv, if_pos hq, List.append_nil, if_neg (by omega), up_s]
      · rw [up_k _ _ _ _ (by decide)]
    · have hn : l.length < 60 := by omega
      obtain ⟨hl2, hm2⟩ := addA_row (I := I) (a := a) (v := (fd p q).toInt32) (x := 0) (y := 0) hl
      obtain ⟨I', e, hF, hrow, h6⟩ := ih f _ (l ++ [(fd p q).toInt32]) q (p - fd p q * q) (by omega) (by simp; omega) hm2 hl2
      refine ⟨I', ?_, addA_F.trans hF, ?_, ?_⟩
      · rw [if_neg hq, fd_z hq]
        simp only [b1_s, let_e, a_add hR ha hn hm]
        rw [← e]
        simp only [nI_1, List.length_append, List.length_singleton]
      · rw [dv, if_neg hq, List.append_cons]
        exact hrow
      · rw [h6]; unfold addA; simp (disch := omega) only [up_a, up_k]
theorem a_div {I : Nat → Nat → Int32} {J : Nat → Nat → Int64} {R : Nat → Nat → Option Nat} (hR : RA R) {a : Nat} (ha : rwA a) (hm : I a 6 = 0) (p q : Int64) :
    ∃ I', z_X6_divide SA (I, J, R) a p q = some (I', J, R) ∧ aF a I I' ∧ rowA I' a (dv 60 p q) (if (dv 60 p q).length = 60 then 0 else 1) ∧ I' a 8 = I a 8 := a_div9 hR ha 60 20000 I [] p q (by omega) rfl hm (lst_nil _ _)
