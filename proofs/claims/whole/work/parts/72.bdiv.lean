/-! a fraction's terms, and the reference's laying of them -/
def fd (p q : Int64) : Int64 := if (0 : Int64) ≤ (p ^^^ q) then p / q else if (p / q) * q = p then p / q else p / q - 1
theorem fd_z {p q : Int64} (h : ¬ q = 0) : z_J9_floorDiv_f86c9 p q = some (fd p q) := by
  unfold z_J9_floorDiv_f86c9 fd
  rw [show decide (¬ q = 0) = true from decide_eq_true h]
  simp only [ck_t, let_e]
  split
  · rfl
  · split <;> rfl
def dv : Nat → Int64 → Int64 → List Int32
  | 0, _, _ => []
  | n + 1, p, q => if q = 0 then [] else (fd p q).toInt32 :: dv n q (p - fd p q * q)
/-- a row of the reference: its terms, how it stops -/
def rowB (I : Nat → Nat → Int32) (r : Nat) (l : List Int32) (st : Int32) : Prop := I 4 r = nI l.length ∧ lst (I 3) (60 * r) l ∧ I 5 r = st
theorem b_more {I : Nat → Nat → Int32} {r : Nat} {l : List Int32} {v : Int32} (hl : lst (I 3) (60 * r) l) (hm : I 4 r = nI l.length) : lst (fh_up (fh_up I 3 (60 * r + l.length) v) 4 r (nI (l.length + 1)) 3) (60 * r) (l ++ [v]) ∧ fh_up (fh_up I 3 (60 * r + l.length) v) 4 r (nI (l.length + 1)) 4 r = nI (l ++ [v]).length := by
  refine ⟨lst_snoc (lst_cong hl (fun j h1 h2 => ?_)) ?_, ?_⟩
  · simp (disch := omega) only [up_a, up_k]
  · simp (disch := omega) only [up_a, up_s]
  · simp (disch := omega) only [up_s, List.length_append, List.length_singleton]
theorem b_div93 {I : Nat → Nat → Int32} {J : Nat → Nat → Int64} {r : Nat} (hr : r < 10) (y : Int32) : z_X12_divides_b93 TB 0 (I, J, rB) (nI r) y = some (if y = 0 then I else fh_up I 5 r 1, J, rB) := by
  unfold z_X12_divides_b93
  simp (disch := omega) only [ck_t, b1_s, b2_s, let_e, nn_s, nn_n, sI_e, sJ_e, sR_e, kB_0, kB_1, kB_2, kB_3, kB_4, kB_5, kB_6, kB_7, kB_8, kB_9, kB_10, kB_11, kB_12, kB_13, kB_14, kB_15, kB_16, kB_17, lB_1, lB_2, lB_3, lB_4, lB_5, lB_6, lB_7, lB_8, lB_9, lB_10, lB_11, lB_12, lB_13, lB_14, lB_15, lB_16, lB_17, rB_0, rB_1, rB_4, rB_5, rB_6, rB_7, rB_8, rB_9, rB_10, rB_11, rB_13, rB_14, rB_26, rB_27, rB_31, rB_33, rB_34, in_n, nI_clamp, lit, nI_mul, nI_add, nI_leI, nI_ltI, nI_eq, up_s, up_a, up_k]
  split <;> rename_i h <;> simp only [h, if_true, if_false]
theorem bS_4 (r : Nat) : bS r 4 r := Or.inr (Or.inl ⟨Or.inl rfl, rfl⟩)
theorem bS_5 (r : Nat) : bS r 5 r := Or.inr (Or.inl ⟨Or.inr (Or.inl rfl), rfl⟩)
theorem bS_6 (r : Nat) : bS r 6 r := Or.inr (Or.inl ⟨Or.inr (Or.inr rfl), rfl⟩)
theorem bS_3 {r j : Nat} (h : j < 60) : bS r 3 (60 * r + j) := Or.inl ⟨Or.inl rfl, by omega, by omega⟩
theorem b_div42 {J : Nat → Nat → Int64} {r : Nat} (hr : r < 10) : ∀ (k fuel : Nat) (I : Nat → Nat → Int32) (l : List Int32) (p q : Int64), k < fuel → l.length + k = 60 → I 4 r = nI l.length → lst (I 3) (60 * r) l → I 5 r = 0 →
    ∃ I', z_X12_divides_b42 TB 0 fuel (I, J, rB) (nI r) p q (if k = 0 then 0 else 1) = some (I', J, rB) ∧ bF r I I' ∧ rowB I' r (l ++ dv k p q) (if (l ++ dv k p q).length = 60 then 0 else 1) ∧ I' 6 r = I 6 r := by
  intro k
  induction k with
  | zero =>
    intro fuel I l p q hf hlen hm hl hs
    obtain ⟨f, rfl⟩ : ∃ f, fuel = f + 1 := ⟨fuel - 1, by omega⟩
    refine ⟨I, ?_, bF.rf, ⟨?_, ?_, ?_⟩, rfl⟩
    · rw [z_X12_divides_b42, if_pos rfl, b_div93 hr]; rfl
    · rw [dv, List.append_nil]; exact hm
    · rw [dv, List.append_nil]; exact hl
    · rw [dv, List.append_nil, if_pos (by omega)]; exact hs
  | succ k ih =>
    intro fuel I l p q hf hlen hm hl hs
    obtain ⟨f, rfl⟩ : ∃ f, fuel = f + 1 := ⟨fuel - 1, by omega⟩
    rw [z_X12_divides_b42, if_neg (show ¬ k + 1 = 0 by omega), if_neg (show ¬ (1 : Int32) = 0 by decide)]
    by_cases hq : q = 0
    · refine ⟨fh_up I 5 r 1, ?_, bF.rf.up (bS_5 r), ⟨?_, ?_, ?_⟩, ?_⟩
      · rw [if_pos hq, b_div93 hr]; rfl
      · rw [dv, if_pos hq, List.append_nil, up_a _ _ _ _ (by decide)]; exact hm
      · rw [dv, if_pos hq, List.append_nil]
        exact lst_cong hl (fun j _ _ => up_a _ _ _ _ (by decide))
      · rw [dv, if_pos hq, List.append_nil, if_neg (by omega), up_s]
      · rw [up_a _ _ _ _ (by decide)]
    · have hn : l.length < 60 := by omega
      obtain ⟨hl2, hm2⟩ := b_more (v := (fd p q).toInt32) hl hm
      have hif : (if l.length + 1 < 60 then (1 : Int32) else 0) = if k = 0 then 0 else 1 := by
        by_cases h : k = 0
        · rw [if_pos h, if_neg (by omega)]
        · rw [if_neg h, if_pos (by omega)]
      obtain ⟨I', e, hF, hrow, h6⟩ := ih f _ (l ++ [(fd p q).toInt32]) q (p - fd p q * q) (by omega) (by simp; omega) hm2 hl2 (by simp (disch := omega) only [up_a]; exact hs)
      refine ⟨I', ?_, ((bF.rf.up (bS_3 hn)).up (bS_4 r)).trans hF, ?_, ?_⟩
      · rw [if_neg hq, fd_z hq]
        simp only [b1_s, let_e, b_knows hr hn hm, b2_s, hif]
        exact e
      · rw [dv, if_neg hq, List.append_cons]
        exact hrow
      · rw [h6]; simp (disch := omega) only [up_a]
theorem b_div {I : Nat → Nat → Int32} {J : Nat → Nat → Int64} {r : Nat} (hr : r < 10) (hm : I 4 r = 0) (p q : Int64) :
    ∃ I', z_X12_divides TB (I, J, rB) 0 (nI r) p q = some (I', J, rB) ∧ bF r I I' ∧ rowB I' r (dv 60 (if 0 ≤ q then p else -p) (if 0 ≤ q then q else -q)) (if (dv 60 (if 0 ≤ q then p else -p) (if 0 ≤ q then q else -q)).length = 60 then 0 else 1) ∧ I' 6 r = I 6 r := by
  obtain ⟨I', e, hF, hrow, h6⟩ := b_div42 (J := J) hr 60 20000 (fh_up I 5 r 0) [] (if 0 ≤ q then p else -p) (if 0 ≤ q then q else -q) (by omega) rfl (by simp (disch := omega) only [up_a]; exact hm) (lst_nil _ _) (up_s _ _ _ _)
  refine ⟨I', ?_, (bF.rf.up (bS_5 r)).trans hF, hrow, by rw [h6]; simp (disch := omega) only [up_a]⟩
  rw [← e]
  unfold z_X12_divides z_X12_divides_b13 z_X12_divides_b30
  by_cases h : (0 : Int64) ≤ q
  · simp only [if_pos h]
    simp (disch := omega) only [ck_t, b1_s, b2_s, let_e, nn_s, nn_n, sI_e, sJ_e, sR_e, kB_0, kB_1, kB_2, kB_3, kB_4, kB_5, kB_6, kB_7, kB_8, kB_9, kB_10, kB_11, kB_12, kB_13, kB_14, kB_15, kB_16, kB_17, lB_1, lB_2, lB_3, lB_4, lB_5, lB_6, lB_7, lB_8, lB_9, lB_10, lB_11, lB_12, lB_13, lB_14, lB_15, lB_16, lB_17, rB_0, rB_1, rB_4, rB_5, rB_6, rB_7, rB_8, rB_9, rB_10, rB_11, rB_13, rB_14, rB_26, rB_27, rB_31, rB_33, rB_34, in_n, nI_clamp, lit, nI_mul, nI_add, nI_leI, nI_ltI, nI_eq, up_s, up_a, up_k]
    rfl
  · simp only [if_neg h]
    simp (disch := omega) only [ck_t, b1_s, b2_s, let_e, nn_s, nn_n, sI_e, sJ_e, sR_e, kB_0, kB_1, kB_2, kB_3, kB_4, kB_5, kB_6, kB_7, kB_8, kB_9, kB_10, kB_11, kB_12, kB_13, kB_14, kB_15, kB_16, kB_17, lB_1, lB_2, lB_3, lB_4, lB_5, lB_6, lB_7, lB_8, lB_9, lB_10, lB_11, lB_12, lB_13, lB_14, lB_15, lB_16, lB_17, rB_0, rB_1, rB_4, rB_5, rB_6, rB_7, rB_8, rB_9, rB_10, rB_11, rB_13, rB_14, rB_26, rB_27, rB_31, rB_33, rB_34, in_n, nI_clamp, lit, nI_mul, nI_add, nI_leI, nI_ltI, nI_eq, up_s, up_a, up_k]
    rfl
