/-! the reference's rows: their terms, as lists -/
/-- a list stands in a row of cells from a place on -/
def lst (f : Nat → Int32) (o : Nat) (l : List Int32) : Prop := ∀ j, j < l.length → f (o + j) = l.getD j 0
theorem lst_nil (f : Nat → Int32) (o : Nat) : lst f o [] := fun j h => absurd h (Nat.not_lt_zero _)
theorem lst_snoc {f : Nat → Int32} {o : Nat} {l : List Int32} {v : Int32} (h : lst f o l) (hv : f (o + l.length) = v) : lst f o (l ++ [v]) := by
  intro j hj
  rw [List.length_append, List.length_singleton] at hj
  rcases Nat.lt_or_ge j l.length with q | q
  · rw [h j q, List.getD_eq_getElem?_getD, List.getD_eq_getElem?_getD, List.getElem?_append_left q]
  · have : j = l.length := by omega
    subst this
    rw [hv]; simp
theorem lst_cong {f g : Nat → Int32} {o : Nat} {l : List Int32} (h : lst f o l) (e : ∀ j, o ≤ j → j < o + l.length → g j = f j) : lst g o l := fun j hj => by
  rw [e (o + j) (by omega) (by omega)]; exact h j hj
/-- what laying a row may change: the row's own cells, and what is written anew each time -/
def bS (r : Nat) (b j : Nat) : Prop := ((b = 3 ∨ b = 7 ∨ b = 8) ∧ 60 * r ≤ j ∧ j < 60 * r + 60) ∨ ((b = 4 ∨ b = 5 ∨ b = 6) ∧ j = r) ∨ (b = 0 ∧ 15 ≤ j ∧ j ≤ 24)
def bF (r : Nat) (I I' : Nat → Nat → Int32) : Prop := ∀ b j, ¬ bS r b j → I' b j = I b j
theorem bF.rf {r : Nat} {I : Nat → Nat → Int32} : bF r I I := fun _ _ _ => rfl
theorem bF.trans {r : Nat} {I I' I2 : Nat → Nat → Int32} (h : bF r I I') (h2 : bF r I' I2) : bF r I I2 := fun b j q => (h2 b j q).trans (h b j q)
theorem bF.up {r : Nat} {I I' : Nat → Nat → Int32} {b j : Nat} {v : Int32} (h : bF r I I') (q : bS r b j) : bF r I (fh_up I' b j v) := fun b' j' q' => by
  by_cases e : b' = b ∧ j' = j
  · obtain ⟨rfl, rfl⟩ := e; exact absurd q q'
  · simp only [fh_up, e, if_false]; exact h b' j' q'
theorem b_knows {I : Nat → Nat → Int32} {J : Nat → Nat → Int64} {r n : Nat} (hr : r < 10) (hn : n < 60) (hm : I 4 r = nI n) (v : Int64) : z_X12_knows TB (I, J, rB) 0 (nI r) v = some ((if n + 1 < 60 then 1 else 0), (fh_up (fh_up I 3 (60 * r + n) v.toInt32) 4 r (nI (n + 1)), J, rB)) := by
  unfold z_X12_knows
  simp (disch := omega) only [ck_t, b1_s, b2_s, let_e, nn_s, nn_n, sI_e, sJ_e, sR_e, kB_0, kB_1, kB_2, kB_3, kB_4, kB_5, kB_6, kB_7, kB_8, kB_9, kB_10, kB_11, kB_12, kB_13, kB_14, kB_15, kB_16, kB_17, lB_1, lB_2, lB_3, lB_4, lB_5, lB_6, lB_7, lB_8, lB_9, lB_10, lB_11, lB_12, lB_13, lB_14, lB_15, lB_16, lB_17, rB_0, rB_1, rB_4, rB_5, rB_6, rB_7, rB_8, rB_9, rB_10, rB_11, rB_13, rB_14, rB_26, rB_27, rB_31, rB_33, rB_34, in_n, nI_clamp, lit, nI_mul, nI_add, nI_leI, nI_ltI, nI_eq, up_s, up_a, up_k, hm]
  by_cases h : n + 1 < 60
  · rw [if_pos h, if_neg (by omega)]
  · rw [if_neg h, if_pos (by omega)]
