/-! told rows -/
def tla (f : Nat → Int32) (a g k : Nat) : Int32 := if k < a then f k else f (a + (k - a) % g)
def tln (a g : Nat) : Nat := if g = 0 then min a 60 else 60
def tl (f : Nat → Int32) (a g : Nat) : List Int32 := (List.range (tln a g)).map (tla f a g)
theorem tl_len (f : Nat → Int32) (a g : Nat) : (tl f a g).length = tln a g := by simp [tl]
theorem tln_le (a g : Nat) : tln a g ≤ 60 := by
  unfold tln; split <;> omega
theorem rng_snoc (f : Nat → Int32) (n : Nat) : (List.range (n + 1)).map f = (List.range n).map f ++ [f n] := by rw [List.range_succ, List.map_append]; rfl
theorem b_of1 {I : Nat → Nat → Int32} {J : Nat → Nat → Int64} {r j : Nat} (hr : r < 10) (hj : j < 109) : z_X12_of1 TB (I, J, rB) 0 (nI r) (nI j) = some (I 1 (109 * r + j)) := by
  unfold z_X12_of1
  simp (disch := omega) only [ck_t, b1_s, b2_s, let_e, nn_s, nn_n, sI_e, sJ_e, sR_e, kB_0, kB_1, kB_2, kB_3, kB_4, kB_5, kB_6, kB_7, kB_8, kB_9, kB_10, kB_11, kB_12, kB_13, kB_14, kB_15, kB_16, kB_17, lB_1, lB_2, lB_3, lB_4, lB_5, lB_6, lB_7, lB_8, lB_9, lB_10, lB_11, lB_12, lB_13, lB_14, lB_15, lB_16, lB_17, rB_0, rB_1, rB_4, rB_5, rB_6, rB_7, rB_8, rB_9, rB_10, rB_11, rB_13, rB_14, rB_26, rB_27, rB_31, rB_33, rB_34, in_n, nI_clamp, lit, nI_mul, nI_add, nI_leI, nI_ltI, nI_eq, up_s, up_a, up_k]
theorem i32_64 (x : Int32) : (Int32.toInt64 x).toInt32 = x := by
  apply Int32.toInt_inj.mp
  rw [Int64.toInt_toInt32, Int32.toInt_toInt64]
  have h1 := x.toInt_lt
  have h2 := x.le_toInt
  exact Int.bmod_eq_of_le (by omega) (by omega)
theorem b_told100 {I : Nat → Nat → Int32} {J : Nat → Nat → Int64} {r : Nat} (hr : r < 10) (y : Int32) : z_X12_layTold_b100 TB 0 (I, J, rB) (nI r) y = some (fh_up I 5 r (if y = 0 then 0 else 1), J, rB) := by
  unfold z_X12_layTold_b100
  simp (disch := omega) only [ck_t, b1_s, b2_s, let_e, nn_s, nn_n, sI_e, sJ_e, sR_e, kB_0, kB_1, kB_2, kB_3, kB_4, kB_5, kB_6, kB_7, kB_8, kB_9, kB_10, kB_11, kB_12, kB_13, kB_14, kB_15, kB_16, kB_17, lB_1, lB_2, lB_3, lB_4, lB_5, lB_6, lB_7, lB_8, lB_9, lB_10, lB_11, lB_12, lB_13, lB_14, lB_15, lB_16, lB_17, rB_0, rB_1, rB_4, rB_5, rB_6, rB_7, rB_8, rB_9, rB_10, rB_11, rB_13, rB_14, rB_26, rB_27, rB_31, rB_33, rB_34, in_n, nI_clamp, lit, nI_mul, nI_add, nI_leI, nI_ltI, nI_eq, up_s, up_a, up_k]
  split <;> rename_i h <;> simp only [h, if_true, if_false]
theorem rowB_of {I : Nat → Nat → Int32} {r n a g : Nat} {f : Nat → Int32} {st : Int32} (hn : n = tln a g) (hm : I 4 r = nI n) (hl : lst (I 3) (60 * r) ((List.range n).map (tla f a g))) (hs : I 5 r = st) : rowB I r (tl f a g) st := by
  subst hn
  exact ⟨by rw [tl_len]; exact hm, hl, hs⟩
theorem b_told60 {J : Nat → Nat → Int64} {r a g : Nat} {f : Nat → Int32} (hr : r < 10) (hag : a + g ≤ 100) : ∀ (k fuel : Nat) (I : Nat → Nat → Int32) (n i : Nat), k < fuel → n + k = 60 → n ≤ tln a g → (k ≠ 0 → g = 0 → n = a) → (k ≠ 0 → g ≠ 0 → a ≤ n ∧ i = (n - a) % g) → (∀ j, j < a + g → I 1 (109 * r + (9 + j)) = f j) → I 4 r = nI n → lst (I 3) (60 * r) ((List.range n).map (tla f a g)) →
    ∃ I', z_X12_layTold_b60 TB 0 fuel (I, J, rB) (nI r) (nI a) (nI g) (if k = 0 then 0 else 1) (nI i) = some (I', J, rB) ∧ bF r I I' ∧ rowB I' r (tl f a g) (if tln a g = 60 then 0 else 1) ∧ I' 6 r = I 6 r := by
  intro k
  induction k with
  | zero =>
    intro fuel I n i hf hlen hn h0 hg hrec hm hl
    obtain ⟨f', rfl⟩ : ∃ f', fuel = f' + 1 := ⟨fuel - 1, by omega⟩
    have ht : tln a g = 60 := by have := tln_le a g; omega
    refine ⟨fh_up I 5 r 0, ?_, bF.rf.up (bS_5 r), rowB_of (n := n) (by omega) ?_ ?_ ?_, ?_⟩
    · rw [z_X12_layTold_b60, if_pos rfl, if_pos rfl, b_told100 hr, if_pos rfl]
    · rw [up_a _ _ _ _ (by decide)]; exact hm
    · exact lst_cong hl (fun j _ _ => up_a _ _ _ _ (by decide))
    · rw [up_s, if_pos ht]
    · rw [up_a _ _ _ _ (by decide)]
  | succ k ih =>
    intro fuel I n i hf hlen hn h0 hg hrec hm hl
    obtain ⟨f', rfl⟩ : ∃ f', fuel = f' + 1 := ⟨fuel - 1, by omega⟩
    rw [z_X12_layTold_b60, if_neg (show ¬ k + 1 = 0 by omega), if_neg (show ¬ (1 : Int32) = 0 by decide)]
    by_cases hg0 : g = 0
    · have hna := h0 (by omega) hg0
      have ht : tln a g = n := by unfold tln; rw [if_pos hg0]; omega
      refine ⟨fh_up I 5 r 1, ?_, bF.rf.up (bS_5 r), rowB_of (n := n) ht.symm ?_ ?_ ?_, ?_⟩
      · subst hg0
        rw [if_pos (show nI 0 ≤ 0 from by decide), b_told100 hr, if_neg (by decide)]
      · rw [up_a _ _ _ _ (by decide)]; exact hm
      · exact lst_cong hl (fun j _ _ => up_a _ _ _ _ (by decide))
      · rw [up_s, if_neg (by omega)]
      · rw [up_a _ _ _ _ (by decide)]
    · obtain ⟨han, hi⟩ := hg (by omega) hg0
      have hig : i < g := by rw [hi]; exact Nat.mod_lt _ (by omega)
      have hv : I 1 (109 * r + (9 + (a + i))) = tla f a g n := by
        rw [hrec (a + i) (by omega)]
        unfold tla
        rw [if_neg (by omega), hi]
      have hlen1 : ((List.range n).map (tla f a g)).length = n := by simp
      have hm1 : I 4 r = nI ((List.range n).map (tla f a g)).length := by rw [hlen1]; exact hm
      obtain ⟨hl2, hm2⟩ := b_more (v := tla f a g n) hl hm1
      rw [← rng_snoc] at hl2 hm2
      rw [hlen1] at hl2 hm2
      rw [show ((List.range (n + 1)).map (tla f a g)).length = n + 1 by simp] at hm2
      have hif : (if n + 1 < 60 then (1 : Int32) else 0) = if k = 0 then 0 else 1 := by
        by_cases h : k = 0
        · rw [if_pos h, if_neg (by omega)]
        · rw [if_neg h, if_pos (by omega)]
      have hmod : (n + 1 - a) % g = (i + 1) % g := by
        rw [hi, show n + 1 - a = (n - a) + 1 by omega, Nat.mod_add_mod]
      obtain ⟨I', e, hF, hrow, h6⟩ := ih f' (fh_up (fh_up I 3 (60 * r + n) (tla f a g n)) 4 r (nI (n + 1))) (n + 1) ((i + 1) % g) (by omega) (by omega) (by unfold tln; rw [if_neg hg0]; omega) (fun _ h => absurd h hg0) (fun _ _ => ⟨by omega, hmod.symm⟩) (fun j hj => by simp (disch := omega) only [up_a]; exact hrec j hj) hm2 hl2
      refine ⟨I', ?_, ((bF.rf.up (bS_3 (by omega))).up (bS_4 r)).trans hF, hrow, ?_⟩
      · rw [if_neg (show ¬ nI g ≤ 0 from nI_nle (by omega) (by omega)), show (9 : Int32) + nI a + nI i = nI (9 + (a + i)) from by rw [show (9 : Int32) = nI 9 from rfl, nI_add, nI_add, Nat.add_assoc], b_of1 hr (by omega), b1_s, hv, b_knows hr (by omega) hm, b2_s, i32_64, hif, show decide (¬ nI g = 0) = true from decide_eq_true (nI_ne0 (by omega) (by omega)), ck_t, let_e, show nI i + 1 = nI (i + 1) from nI_1 i, pk_rem (by omega) (by omega) (by omega)]
        exact e
      · rw [h6]; simp (disch := omega) only [up_a]
theorem b_told22 {J : Nat → Nat → Int64} {r a g : Nat} {f : Nat → Int32} (hr : r < 10) (hag : a + g ≤ 100) : ∀ (k fuel : Nat) (I : Nat → Nat → Int32) (n : Nat), k < fuel → n + k = 60 → n ≤ a → (∀ j, j < a + g → I 1 (109 * r + (9 + j)) = f j) → I 4 r = nI n → lst (I 3) (60 * r) ((List.range n).map (tla f a g)) →
    ∃ I', z_X12_layTold_b22 TB 0 fuel (I, J, rB) (nI r) (nI a) (nI g) (if k = 0 then 0 else 1) (nI n) = some (I', J, rB) ∧ bF r I I' ∧ rowB I' r (tl f a g) (if tln a g = 60 then 0 else 1) ∧ I' 6 r = I 6 r := by
  intro k
  induction k with
  | zero =>
    intro fuel I n hf hlen hn hrec hm hl
    obtain ⟨f', rfl⟩ : ∃ f', fuel = f' + 1 := ⟨fuel - 1, by omega⟩
    rw [z_X12_layTold_b22, if_pos rfl, if_pos rfl]
    exact b_told60 hr hag 0 20000 I n 0 (by omega) hlen (by unfold tln; split <;> omega) (fun h => absurd rfl h) (fun h => absurd rfl h) hrec hm hl
  | succ k ih =>
    intro fuel I n hf hlen hn hrec hm hl
    obtain ⟨f', rfl⟩ : ∃ f', fuel = f' + 1 := ⟨fuel - 1, by omega⟩
    rw [z_X12_layTold_b22, if_neg (show ¬ k + 1 = 0 by omega), if_neg (show ¬ (1 : Int32) = 0 by decide)]
    by_cases hna : n = a
    · rw [if_pos (nI_le (by omega) (by omega))]
      have := b_told60 (J := J) (f := f) hr hag (k + 1) 20000 I n 0 (by omega) hlen (by unfold tln; split <;> omega) (fun _ _ => hna) (fun _ hg => ⟨by omega, by rw [hna, Nat.sub_self, Nat.zero_mod]⟩) hrec hm hl
      rw [if_neg (show ¬ k + 1 = 0 by omega)] at this
      exact this
    · have hv : I 1 (109 * r + (9 + n)) = tla f a g n := by
        rw [hrec n (by omega)]
        unfold tla
        rw [if_pos (by omega)]
      have hlen1 : ((List.range n).map (tla f a g)).length = n := by simp
      have hm1 : I 4 r = nI ((List.range n).map (tla f a g)).length := by rw [hlen1]; exact hm
      obtain ⟨hl2, hm2⟩ := b_more (v := tla f a g n) hl hm1
      rw [← rng_snoc] at hl2 hm2
      rw [hlen1] at hl2 hm2
      rw [show ((List.range (n + 1)).map (tla f a g)).length = n + 1 by simp] at hm2
      have hif : (if n + 1 < 60 then (1 : Int32) else 0) = if k = 0 then 0 else 1 := by
        by_cases h : k = 0
        · rw [if_pos h, if_neg (by omega)]
        · rw [if_neg h, if_pos (by omega)]
      obtain ⟨I', e, hF, hrow, h6⟩ := ih f' (fh_up (fh_up I 3 (60 * r + n) (tla f a g n)) 4 r (nI (n + 1))) (n + 1) (by omega) (by omega) (by omega) (fun j hj => by simp (disch := omega) only [up_a]; exact hrec j hj) hm2 hl2
      refine ⟨I', ?_, ((bF.rf.up (bS_3 (by omega))).up (bS_4 r)).trans hF, hrow, ?_⟩
      · rw [if_neg (nI_ge (by omega) (by omega)), show (9 : Int32) + nI n = nI (9 + n) from nI_add 9 n, b_of1 hr (by omega), b1_s, hv, b_knows hr (by omega) hm, b2_s, i32_64, hif, let_e, show nI n + 1 = nI (n + 1) from nI_1 n]
        exact e
      · rw [h6]; simp (disch := omega) only [up_a]
theorem b_told {I : Nat → Nat → Int32} {J : Nat → Nat → Int64} {r a g : Nat} {f : Nat → Int32} (hr : r < 10) (hag : a + g ≤ 100) (ha : I 1 (109 * r + 7) = nI a) (hg : I 1 (109 * r + 8) = nI g) (hrec : ∀ j, j < a + g → I 1 (109 * r + (9 + j)) = f j) (hm : I 4 r = 0) :
    ∃ I', z_X12_layTold TB (I, J, rB) 0 (nI r) = some (I', J, rB) ∧ bF r I I' ∧ rowB I' r (tl f a g) (if tln a g = 60 then 0 else 1) ∧ I' 6 r = I 6 r := by
  have := b_told22 (J := J) hr hag 60 20000 I 0 (by omega) rfl (Nat.zero_le _) hrec hm (lst_nil _ _)
  rw [if_neg (by decide)] at this
  unfold z_X12_layTold
  rw [show (7 : Int32) = nI 7 from rfl, show (8 : Int32) = nI 8 from rfl, b_of1 hr (by omega), b1_s, b_of1 hr (by omega), b1_s, ha, hg]
  exact this
