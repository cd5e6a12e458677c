/-! root rows, of both -/
def wr (x : Int64) : Int64 := (z_X11_wholeRoot x).getD 0
theorem a_wr {D : Nat} (hD : D < 268435456) : z_X11_wholeRoot (lN D) = some (wr (lN D)) := by
  obtain ⟨t, e, -, -⟩ := a_root hD
  unfold wr; rw [e]; rfl
theorem wr_sq {D : Nat} (hD : D < 268435456) : ∃ t, wr (lN D) = lN t ∧ isq D t := by
  obtain ⟨t, e, h, -⟩ := a_root hD
  exact ⟨t, by unfold wr; rw [e]; rfl, h⟩
theorem b_wr {D : Nat} (hD : D < 268435456) : z_X12_rootOf (lN D) = some (wr (lN D)) := by
  obtain ⟨t, e, h, -⟩ := b_root hD
  obtain ⟨u, e2, h2⟩ := wr_sq hD
  rw [e, e2, isq_one h h2]
def sqq (d : Int64) : Prop := wr d * wr d = d
def rst (p d q : Int64) (k : Nat) : Int64 × Int64 := ssq (rsc p d q).2.1 (wr (rsc p d q).2.1) ((rsc p d q).1, (rsc p d q).2.2) k
def rtv (p d q : Int64) (k : Nat) : Int64 := sfo (rst p d q k).1 (wr (rsc p d q).2.1) (rst p d q k).2
def okR (p d q : Int32) : Prop := (-999 ≤ p.toInt ∧ p.toInt ≤ 999) ∧ (0 ≤ d.toInt ∧ d.toInt ≤ 9999) ∧ (-99 ≤ q.toInt ∧ q.toInt ≤ 99) ∧ q.toInt ≠ 0
theorem okR_d {p d q : Int32} (h : okR p d q) : ∃ n : Nat, n ≤ 9999 ∧ d.toInt64 = lN n := by
  obtain ⟨-, ⟨d0, d1⟩, -⟩ := h
  refine ⟨d.toInt.toNat, by omega, Int64.toInt_inj.mp ?_⟩
  rw [Int32.toInt_toInt64, l64 (by omega)]; omega
theorem okR_q {p d q : Int32} (h : okR p d q) : ¬ q.toInt64 = 0 := ne_of_toInt (by rw [Int32.toInt_toInt64]; exact h.2.2.2)
theorem sq_of {n : Nat} (h : n < 268435456) (hn : ¬ sqq (lN n)) : ∀ u : Nat, n ≠ u * u := by
  intro u e
  obtain ⟨t, et, ht⟩ := wr_sq h
  have hu : u = t := isq_one ⟨by omega, by rw [e]; exact Nat.mul_lt_mul_of_lt_of_le (by omega) (by omega) (by omega)⟩ ht
  refine hn ?_
  unfold sqq
  rw [et, lN_mul, ← hu, ← e]
theorem rst_ok {p d q : Int32} (h : okR p d q) (hn : ¬ sqq d.toInt64) : ∃ D : Nat, (rsc p.toInt64 d.toInt64 q.toInt64).2.1 = lN D ∧ D < 268435456 ∧ sIv (rsc p.toInt64 d.toInt64 q.toInt64).2.1 (wr (rsc p.toInt64 d.toInt64 q.toInt64).2.1) ((rsc p.toInt64 d.toInt64 q.toInt64).1, (rsc p.toInt64 d.toInt64 q.toInt64).2.2) 100000 := by
  obtain ⟨n, hn9, e⟩ := okR_d h
  rw [e] at hn ⊢
  obtain ⟨hp, -, hq, hq0⟩ := h
  obtain ⟨D, e1, e2, e3⟩ := rsc_ok (p := p.toInt64) (q := q.toInt64) (d := n) (by rw [Int32.toInt_toInt64]; exact hp) hn9 (by rw [Int32.toInt_toInt64]; exact hq) (by rw [Int32.toInt_toInt64]; exact hq0) (sq_of (by omega) hn)
  obtain ⟨t, et, ht⟩ := wr_sq e2
  refine ⟨D, e1, e2, ?_⟩
  have := e3 t ht
  rw [e1] at this ⊢
  rw [et]
  exact this
theorem rst_ne {p d q : Int32} (h : okR p d q) (hn : ¬ sqq d.toInt64) {k : Nat} (hk : k ≤ 100) : ¬ (rst p.toInt64 d.toInt64 q.toInt64 k).2 = 0 := by
  obtain ⟨D, -, -, e⟩ := rst_ok h hn
  exact ssq_ne e hk
theorem rtv_one {p d q : Int32} (h : okR p d q) (hn : ¬ sqq d.toInt64) {k : Nat} (hk : k < 99) : 1 ≤ (rtv p.toInt64 d.toInt64 q.toInt64 (k + 1)).toInt ∧ (rtv p.toInt64 d.toInt64 q.toInt64 (k + 1)).toInt ≤ 100000000 := by
  obtain ⟨D, -, -, e⟩ := rst_ok h hn
  have h2 := ssq_ok e (k + 1) (by omega)
  have := sfo_rng h2 (by omega)
  exact ⟨ssq_one e hk, by unfold rtv rst; omega⟩
theorem rtv_rng {p d q : Int32} (h : okR p d q) (hn : ¬ sqq d.toInt64) {k : Nat} (hk : k < 99) : -100000000 ≤ (rtv p.toInt64 d.toInt64 q.toInt64 k).toInt ∧ (rtv p.toInt64 d.toInt64 q.toInt64 k).toInt ≤ 100000000 := by
  obtain ⟨D, -, -, e⟩ := rst_ok h hn
  have h2 := ssq_ok e k (by omega)
  have := sfo_rng h2 (by omega)
  unfold rtv rst; omega
theorem b_floor {p s q : Int64} (hq : ¬ q = 0) : z_X12_floorOf p s q = some (sfo p s q) := by
  unfold z_X12_floorOf sfo
  rw [fd_z hq, fd_z hq, b1_s, b1_s]
  split <;> rfl
theorem b_st81 {I : Nat → Nat → Int32} {d s : Int64} {x : Int64 × Int64} (hx : ∀ k, k < 60 → ¬ (ssq d s x k).2 = 0) : ∀ (k fuel : Nat) (J : Nat → Nat → Int64) (n : Nat), k < fuel → n + k = 60 → J 0 12 = s → (∀ j, j < n → J 9 j = (ssq d s x j).1 ∧ J 10 j = (ssq d s x j).2) →
    ∃ J', z_X12_layStates_b81 TB 0 fuel (I, J, rB) (ssq d s x n).1 d (ssq d s x n).2 (nI n) = some (I, J', rB) ∧ J' 0 12 = s ∧ ∀ j, j < 60 → J' 9 j = (ssq d s x j).1 ∧ J' 10 j = (ssq d s x j).2 := by
  intro k
  induction k with
  | zero =>
    intro fuel J n hf hn hs hj
    obtain ⟨f, rfl⟩ : ∃ f, fuel = f + 1 := ⟨fuel - 1, by omega⟩
    obtain rfl : n = 60 := by omega
    exact ⟨J, by rw [z_X12_layStates_b81, if_pos (by decide)], hs, hj⟩
  | succ k ih =>
    intro fuel J n hf hn hs hj
    obtain ⟨f, rfl⟩ : ∃ f, fuel = f + 1 := ⟨fuel - 1, by omega⟩
    obtain ⟨J', e, h2⟩ := ih f (fh_up (fh_up J 9 n (ssq d s x n).1) 10 n (ssq d s x n).2) (n + 1) (by omega) (by omega) (by simp (disch := omega) only [up_a]; exact hs) (fun j hjn => by
      by_cases q : j = n
      · subst q
        simp (disch := omega) only [up_a, up_s, and_self]
      · simp (disch := omega) only [up_a, up_k]
        exact hj j (by omega))
    refine ⟨J', ?_, h2⟩
    rw [z_X12_layStates_b81, if_neg (show ¬ (60 : Int32) ≤ nI n from nI_ge (b := 60) (by omega) (by omega))]
    simp (disch := omega) only [ck_t, b1_s, b2_s, let_e, nn_s, nn_n, sI_e, sJ_e, sR_e, kB_0, kB_1, kB_2, kB_3, kB_4, kB_5, kB_6, kB_7, kB_8, kB_9, kB_10, kB_11, kB_12, kB_13, kB_14, kB_15, kB_16, kB_17, lB_1, lB_2, lB_3, lB_4, lB_5, lB_6, lB_7, lB_8, lB_9, lB_10, lB_11, lB_12, lB_13, lB_14, lB_15, lB_16, lB_17, rB_0, rB_1, rB_4, rB_5, rB_6, rB_7, rB_8, rB_9, rB_10, rB_11, rB_13, rB_14, rB_26, rB_27, rB_31, rB_33, rB_34, in_n, nI_clamp, lit, nI_mul, nI_add, nI_leI, nI_ltI, nI_eq, up_s, up_a, up_k, b_floor (hx n (by omega)), hs, decide_eq_true (hx n (by omega)), nI_1]
    exact e
theorem abs_s (x : Int64) : z_J9_abs_067f4 x = some (if 0 ≤ x then x else -x) := by
  unfold z_J9_abs_067f4; split <;> rfl
theorem b_states {I : Nat → Nat → Int32} {J : Nat → Nat → Int64} {r : Nat} {p d q : Int32} (hr : r < 10) (ok : okR p d q) (hn : ¬ sqq d.toInt64) (h1 : I 1 (109 * r + 1) = p) (h2 : I 1 (109 * r + 2) = d) (h3 : I 1 (109 * r + 3) = q) :
    ∃ J', z_X12_layStates TB (I, J, rB) 0 (nI r) = some (I, J', rB) ∧ J' 0 12 = wr (rsc p.toInt64 d.toInt64 q.toInt64).2.1 ∧ ∀ j, j < 60 → J' 9 j = (rst p.toInt64 d.toInt64 q.toInt64 j).1 ∧ J' 10 j = (rst p.toInt64 d.toInt64 q.toInt64 j).2 := by
  obtain ⟨D, e1, e2, -⟩ := rst_ok ok hn
  have e3 := b_wr e2
  rw [← e1] at e3
  have hq0 := okR_q ok
  obtain ⟨J', e, g⟩ := b_st81 (I := I) (fun k hk => rst_ne ok hn (show k ≤ 100 by omega)) 60 20000 (fh_up J 0 12 (wr (rsc p.toInt64 d.toInt64 q.toInt64).2.1)) 0 (by omega) (by omega) (up_s _ _ _ _) (fun j hj => absurd hj (Nat.not_lt_zero _))
  refine ⟨J', ?_, g⟩
  have hs0 : ∀ (d s : Int64) (x : Int64 × Int64), ssq d s x 0 = x := fun _ _ _ => rfl
  simp only [hs0, nI_0] at e
  unfold z_X12_layStates
  generalize (20000 : Nat) = fl at e ⊢
  rw [show (1 : Int32) = nI 1 from rfl, show (2 : Int32) = nI 2 from rfl, show (3 : Int32) = nI 3 from rfl, b_of1 hr (by omega), b_of1 hr (by omega), b_of1 hr (by omega), h1, h2, h3]
  rw [b1_s, let_e, b1_s, let_e, b1_s, let_e]
  rw [show decide (¬ q.toInt64 = 0) = true from decide_eq_true hq0, ck_t]
  by_cases hc : (d.toInt64 - p.toInt64 * p.toInt64) - (d.toInt64 - p.toInt64 * p.toInt64) / q.toInt64 * q.toInt64 = 0
  · have hr : rsc p.toInt64 d.toInt64 q.toInt64 = (p.toInt64, d.toInt64, q.toInt64) := by unfold rsc; rw [if_pos hc]
    rw [hr] at e e3
    dsimp only at e e3
    rw [if_pos hc, e3, b1_s, let_e, sJ_e]
    exact e
  · have hr : rsc p.toInt64 d.toInt64 q.toInt64 = (p.toInt64 * (if 0 ≤ q.toInt64 then q.toInt64 else -q.toInt64), d.toInt64 * ((if 0 ≤ q.toInt64 then q.toInt64 else -q.toInt64) * (if 0 ≤ q.toInt64 then q.toInt64 else -q.toInt64)), q.toInt64 * (if 0 ≤ q.toInt64 then q.toInt64 else -q.toInt64)) := by unfold rsc; rw [if_neg hc]
    rw [hr] at e e3
    dsimp only at e e3
    rw [if_neg hc, abs_s, b1_s, let_e, let_e, let_e, e3, b1_s, let_e, sJ_e]
    exact e
def rtl (p d q : Int64) (n : Nat) : List Int32 := (List.range n).map (fun k => (rtv p d q k).toInt32)
theorem rtl_len (p d q : Int64) (n : Nat) : (rtl p d q n).length = n := by simp [rtl]
theorem rtl_snoc (p d q : Int64) (n : Nat) : rtl p d q (n + 1) = rtl p d q n ++ [(rtv p d q n).toInt32] := rng_snoc _ n
theorem b_root48 {J : Nat → Nat → Int64} {r : Nat} {p d q : Int64} (hr : r < 10) (hx : ∀ k, k < 60 → ¬ (rst p d q k).2 = 0) (hs : J 0 12 = wr (rsc p d q).2.1) (hJ : ∀ j, j < 60 → J 9 j = (rst p d q j).1 ∧ J 10 j = (rst p d q j).2) : ∀ (k fuel : Nat) (I : Nat → Nat → Int32) (n : Nat), k < fuel → n + k = 60 → I 4 r = nI n → lst (I 3) (60 * r) (rtl p d q n) →
    ∃ I', z_X12_layRoot_b48 TB 0 fuel (I, J, rB) (nI r) (if k = 0 then 0 else 1) (nI n) = some (I', J, rB) ∧ bF r I I' ∧ rowB I' r (rtl p d q 60) 0 ∧ I' 6 r = I 6 r := by
  intro k
  induction k with
  | zero =>
    intro fuel I n hf hn hm hl
    obtain ⟨f, rfl⟩ : ∃ f, fuel = f + 1 := ⟨fuel - 1, by omega⟩
    obtain rfl : n = 60 := by omega
    refine ⟨fh_up I 5 r 0, ?_, bF.rf.up (bS_5 r), ⟨?_, ?_, ?_⟩, ?_⟩
    · rw [z_X12_layRoot_b48, if_pos rfl, if_pos rfl]
      simp (disch := omega) only [ck_t, b1_s, b2_s, let_e, nn_s, nn_n, sI_e, sJ_e, sR_e, kB_0, kB_1, kB_2, kB_3, kB_4, kB_5, kB_6, kB_7, kB_8, kB_9, kB_10, kB_11, kB_12, kB_13, kB_14, kB_15, kB_16, kB_17, lB_1, lB_2, lB_3, lB_4, lB_5, lB_6, lB_7, lB_8, lB_9, lB_10, lB_11, lB_12, lB_13, lB_14, lB_15, lB_16, lB_17, rB_0, rB_1, rB_4, rB_5, rB_6, rB_7, rB_8, rB_9, rB_10, rB_11, rB_13, rB_14, rB_26, rB_27, rB_31, rB_33, rB_34, in_n, nI_clamp, lit, nI_mul, nI_add, nI_leI, nI_ltI, nI_eq, up_s, up_a, up_k]
    · rw [up_a _ _ _ _ (by decide), rtl_len]; exact hm
    · exact lst_cong hl (fun j _ _ => up_a _ _ _ _ (by decide))
    · rw [up_s]
    · rw [up_a _ _ _ _ (by decide)]
  | succ k ih =>
    intro fuel I n hf hn hm hl
    obtain ⟨f, rfl⟩ : ∃ f, fuel = f + 1 := ⟨fuel - 1, by omega⟩
    have hlen1 : (rtl p d q n).length = n := rtl_len _ _ _ _
    have hm1 : I 4 r = nI (rtl p d q n).length := by rw [hlen1]; exact hm
    obtain ⟨hl2, hm2⟩ := b_more (v := (rtv p d q n).toInt32) hl hm1
    rw [← rtl_snoc] at hl2 hm2
    rw [hlen1] at hl2 hm2
    rw [rtl_len] at hm2
    have hif : (if n + 1 < 60 then (1 : Int32) else 0) = if k = 0 then 0 else 1 := by
      by_cases h : k = 0
      · rw [if_pos h, if_neg (by omega)]
      · rw [if_neg h, if_pos (by omega)]
    obtain ⟨I', e, hF, hrow, h6⟩ := ih f (fh_up (fh_up I 3 (60 * r + n) (rtv p d q n).toInt32) 4 r (nI (n + 1))) (n + 1) (by omega) (by omega) hm2 hl2
    refine ⟨I', ?_, ((bF.rf.up (bS_3 (by omega))).up (bS_4 r)).trans hF, hrow, ?_⟩
    · rw [z_X12_layRoot_b48, if_neg (show ¬ k + 1 = 0 by omega), if_neg (show ¬ (1 : Int32) = 0 by decide)]
      simp (disch := omega) only [ck_t, b1_s, b2_s, let_e, nn_s, nn_n, sI_e, sJ_e, sR_e, kB_0, kB_1, kB_2, kB_3, kB_4, kB_5, kB_6, kB_7, kB_8, kB_9, kB_10, kB_11, kB_12, kB_13, kB_14, kB_15, kB_16, kB_17, lB_1, lB_2, lB_3, lB_4, lB_5, lB_6, lB_7, lB_8, lB_9, lB_10, lB_11, lB_12, lB_13, lB_14, lB_15, lB_16, lB_17, rB_0, rB_1, rB_4, rB_5, rB_6, rB_7, rB_8, rB_9, rB_10, rB_11, rB_13, rB_14, rB_26, rB_27, rB_31, rB_33, rB_34, in_n, nI_clamp, lit, nI_mul, nI_add, nI_leI, nI_ltI, nI_eq, up_s, up_a, up_k, (hJ n (by omega)).1, (hJ n (by omega)).2, hs, b_floor (hx n (by omega))]
      rw [show sfo (rst p d q n).1 (wr (rsc p d q).2.1) (rst p d q n).2 = rtv p d q n from rfl, b_knows hr (by omega) hm]
      simp only [b2_s, hif]
      exact e
    · rw [h6]; simp (disch := omega) only [up_a]
def rtD (p d q : Int64) : List Int32 × Int32 := if wr d * wr d = d then (dv 60 (if 0 ≤ q then p + wr d else -(p + wr d)) (if 0 ≤ q then q else -q), if (dv 60 (if 0 ≤ q then p + wr d else -(p + wr d)) (if 0 ≤ q then q else -q)).length = 60 then 0 else 1) else (rtl p d q 60, 0)
theorem b_isSq {I : Nat → Nat → Int32} {J : Nat → Nat → Int64} {r : Nat} {p d q : Int32} (hr : r < 10) (ok : okR p d q) (h2 : I 1 (109 * r + 2) = d) : z_X12_isSquare TB (I, J, rB) 0 (nI r) = some (if wr d.toInt64 * wr d.toInt64 = d.toInt64 then 1 else 0) := by
  obtain ⟨n, hn9, ed⟩ := okR_d ok
  unfold z_X12_isSquare
  rw [show (2 : Int32) = nI 2 from rfl, b_of1 hr (by omega), h2]
  simp only [b1_s, let_e, ed, b_wr (show n < 268435456 by omega)]
  split <;> rfl
theorem b_rootRow {I : Nat → Nat → Int32} {J : Nat → Nat → Int64} {r : Nat} {p d q : Int32} (hr : r < 10) (ok : okR p d q) (h1 : I 1 (109 * r + 1) = p) (h2 : I 1 (109 * r + 2) = d) (h3 : I 1 (109 * r + 3) = q) (hm : I 4 r = 0) :
    ∃ I' J', z_X12_layRoot TB (I, J, rB) 0 (nI r) = some (I', J', rB) ∧ bF r I I' ∧ rowB I' r (rtD p.toInt64 d.toInt64 q.toInt64).1 (rtD p.toInt64 d.toInt64 q.toInt64).2 ∧ I' 6 r = I 6 r := by
  obtain ⟨n, hn9, ed⟩ := okR_d ok
  unfold z_X12_layRoot
  rw [b_isSq hr ok h2, b1_s]
  by_cases hc : wr d.toInt64 * wr d.toInt64 = d.toInt64
  · rw [if_pos hc, if_neg (show ¬ (1 : Int32) = 0 by decide)]
    obtain ⟨I', e, hF, hrow, h6⟩ := b_div (J := J) hr hm (p.toInt64 + wr d.toInt64) q.toInt64
    refine ⟨I', J, ?_, hF, ?_, h6⟩
    · rw [show (1 : Int32) = nI 1 from rfl, show (2 : Int32) = nI 2 from rfl, show (3 : Int32) = nI 3 from rfl, b_of1 hr (by omega), b_of1 hr (by omega), b_of1 hr (by omega), h1, h2, h3]
      simp only [b1_s]
      rw [show z_X12_rootOf d.toInt64 = some (wr d.toInt64) by rw [ed]; exact b_wr (by omega)]
      simp only [b1_s]
      rw [e]; rfl
    · unfold rtD; rw [if_pos hc]; exact hrow
  · rw [if_neg hc, if_pos (show (0 : Int32) = 0 from rfl)]
    obtain ⟨J', e, hs, hJ⟩ := b_states (J := J) hr ok hc h1 h2 h3
    obtain ⟨I', e2, hF, hrow, h6⟩ := b_root48 hr (fun k hk => rst_ne ok hc (show k ≤ 100 by omega)) hs hJ 60 20000 I 0 (by omega) (by omega) hm (lst_nil _ _)
    refine ⟨I', J', ?_, hF, ?_, h6⟩
    · rw [e, b1_s]; exact e2
    · unfold rtD; rw [if_neg hc]; exact hrow
