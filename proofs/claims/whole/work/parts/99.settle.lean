/-! all rows: the reference lays them, the class settles them -/
def tb (F : Nat → Nat → Int32) : Nat → Nat → Dat
  | 0, _ => ([], 0, 0)
  | n + 1, i => if i = n then dn (F n) (tb F n) else tb F n i
def dd (F : Nat → Nat → Int32) (r : Nat) : Dat := dn (F r) (tb F r)
theorem tb_lt (F : Nat → Nat → Int32) : ∀ (n i : Nat), i < n → tb F n i = dd F i := by
  intro n
  induction n with
  | zero => intro i h; omega
  | succ n ih =>
    intro i h
    rw [tb]
    by_cases c : i = n
    · rw [if_pos c, c]; rfl
    · rw [if_neg c]; exact ih i (by omega)
theorem dd_len (F : Nat → Nat → Int32) (r : Nat) : (dd F r).1.length ≤ 60 := dn_len _ _
theorem dn_same {f : Nat → Int32} {r : Nat} {L L' : Nat → Dat} (ok : okr f r) (h : (f 0 = 3 ∨ f 0 = 4) → ∀ i, i < r → (f 5 = nI i ∨ (f 0 = 4 ∧ f 6 = nI i)) → L i = L' i) (hr : r < 1000) : dn f L = dn f L' := by
  unfold dn
  rcases ok with ⟨k0, hq⟩ | ⟨k0, hRo⟩ | ⟨k0, a, g, ha', hg, hag, -⟩ | ⟨k0, i, hi, h5⟩ | ⟨k0, ⟨i, hi, h5⟩, ⟨j, hj, h6j⟩, hhow⟩
  · rw [if_pos k0, if_pos k0]
  · rw [if_neg (by rw [k0]; decide), if_pos k0, if_neg (by rw [k0]; decide), if_pos k0]
  · have n0 : ¬ f 0 = 0 := by rw [k0]; decide
    have n1 : ¬ f 0 = 1 := by rw [k0]; decide
    rw [if_neg n0, if_neg n1, if_pos k0, if_neg n0, if_neg n1, if_pos k0]
  · rw [if_neg (by rw [k0]; decide), if_neg (by rw [k0]; decide), if_neg (by rw [k0]; decide), if_pos k0, if_neg (by rw [k0]; decide), if_neg (by rw [k0]; decide), if_neg (by rw [k0]; decide), if_pos k0, h5, nI_clamp (by omega), h (Or.inl k0) i hi (Or.inl h5)]
  · rw [if_neg (by rw [k0]; decide), if_neg (by rw [k0]; decide), if_neg (by rw [k0]; decide), if_neg (by rw [k0]; decide), if_neg (by rw [k0]; decide), if_neg (by rw [k0]; decide), if_neg (by rw [k0]; decide), if_neg (by rw [k0]; decide), h5, h6j, nI_clamp (by omega), nI_clamp (by omega), h (Or.inr k0) i hi (Or.inl h5), h (Or.inr k0) j hj (Or.inr ⟨k0, h6j⟩)]
def lF (I I' : Nat → Nat → Int32) : Prop := ∀ b j, ¬ ((3 ≤ b ∧ b ≤ 8) ∨ (b = 0 ∧ 15 ≤ j ∧ j ≤ 24)) → I' b j = I b j
theorem bF.l {r : Nat} {I I' : Nat → Nat → Int32} (h : bF r I I') : lF I I' := fun b j q => h b j (fun e => q (by unfold bS at e; omega))
theorem lF.trans {I I' I2 : Nat → Nat → Int32} (h : lF I I') (h2 : lF I' I2) : lF I I2 := fun b j q => (h2 b j q).trans (h b j q)
theorem dB_F {I I' : Nat → Nat → Int32} {i r : Nat} {k : Int32} {D : Dat} (hF : bF r I I') (hi : i ≠ r) (hl : D.1.length ≤ 60) (h : dB I i k D) : dB I' i k D := by
  obtain ⟨⟨h4, h3, h5⟩, h6, h7⟩ := h
  refine ⟨⟨?_, lst_cong h3 (fun j j1 j2 => hF 3 j ?_), ?_⟩, ?_, fun q => ⟨lst_cong (h7 q).1 (fun j j1 j2 => hF 7 j ?_), lst_cong (h7 q).2 (fun j j1 j2 => hF 8 j ?_)⟩⟩
  · rw [hF 4 i (by unfold bS; omega)]; exact h4
  · rw [dsr_len] at j2; unfold bS; omega
  · rw [hF 5 i (by unfold bS; omega)]; exact h5
  · rw [hF 6 i (by unfold bS; omega)]; exact h6
  · rw [List.length_map] at j2; unfold bS; omega
  · rw [List.length_map] at j2; unfold bS; omega
theorem b_all2 {F : Nat → Nat → Int32} (ok : ∀ r, r < 10 → okr (F r) r) : ∀ (k fuel : Nat) (I : Nat → Nat → Int32) (J : Nat → Nat → Int64) (n : Nat), k < fuel → n + k = 10 → (∀ r, r < 10 → ∀ j, j < 109 → I 1 (109 * r + j) = F r j) → (∀ i, i < n → dB I i (F i 0) (dd F i)) →
    ∃ I' J', z_X12_layAll_b2 TB 0 fuel (I, J, rB) (nI n) = some (I', J', rB) ∧ lF I I' ∧ ∀ i, i < 10 → dB I' i (F i 0) (dd F i) := by
  intro k
  induction k with
  | zero =>
    intro fuel I J n hf hn hrec hd
    obtain ⟨f, rfl⟩ : ∃ f, fuel = f + 1 := ⟨fuel - 1, by omega⟩
    obtain rfl : n = 10 := by omega
    exact ⟨I, J, by rw [z_X12_layAll_b2, if_pos (by decide)], fun _ _ _ => rfl, hd⟩
  | succ k ih =>
    intro fuel I J n hf hn hrec hd
    obtain ⟨f, rfl⟩ : ∃ f, fuel = f + 1 := ⟨fuel - 1, by omega⟩
    have hn10 : n < 10 := by omega
    have hF0 : bF n I (fh_up (fh_up I 4 n 0) 6 n 0) := (bF.rf.up (bS_4 n)).up (bS_6 n)
    obtain ⟨I1, J1, e, hF1, hdn⟩ := b_lay (I := fh_up (fh_up I 4 n 0) 6 n 0) (J := J) (r := n) (f := F n) (L := tb F n) (K := fun i => F i 0) hn10 (fun j hj => by rw [up_a _ _ _ _ (by decide), up_a _ _ _ _ (by decide)]; exact hrec n hn10 j hj) (ok n hn10) (by rw [up_a _ _ _ _ (by decide), up_s]) (up_s _ _ _ _) (fun i hi => by
      rw [tb_lt F n i hi]
      exact ⟨dB_F hF0 (by omega) (dd_len F i) (hd i hi), dd_len F i⟩)
    have hF2 := hF0.trans hF1
    obtain ⟨I2, J2, e2, hl, hall⟩ := ih f I1 J1 (n + 1) (by omega) (by omega) (fun r hr j hj => by rw [hF2.l 1 _ (by omega)]; exact hrec r hr j hj) (fun i hi => by
      by_cases c : i = n
      · subst c; exact hdn
      · exact dB_F hF2 c (dd_len F i) (hd i (by omega)))
    refine ⟨I2, J2, ?_, hF2.l.trans hl, hall⟩
    rw [z_X12_layAll_b2, if_neg (show ¬ (10 : Int32) ≤ nI n from nI_ge (b := 10) (by omega) (by omega))]
    simp (disch := omega) only [ck_N, b1_N, b2_N, let_N, nn_Ns, nn_Nn, sI_N, sJ_N, sR_N, kB_N0, kB_N1, kB_N2, kB_N3, kB_N4, kB_N5, kB_N6, kB_N7, kB_N8, kB_N9, kB_N10, kB_N11, kB_N12, kB_N13, kB_N14, kB_N15, kB_N16, kB_N17, lB_N1, lB_N2, lB_N3, lB_N4, lB_N5, lB_N6, lB_N7, lB_N8, lB_N9, lB_N10, lB_N11, lB_N12, lB_N13, lB_N14, lB_N15, lB_N16, lB_N17, rB_N0, rB_N1, rB_N4, rB_N5, rB_N6, rB_N7, rB_N8, rB_N9, rB_N10, rB_N11, rB_N13, rB_N14, rB_N26, rB_N27, rB_N31, rB_N33, rB_N34, Int32.reduceAdd, Int32.reduceSub, Int32.reduceMul, Int32.reduceLE, Int32.reduceLT, Int32.reduceToNatClampNeg, if_true, if_false, eq_self, up_s, up_a, up_k, ne_0_1, ne_0_2, ne_0_3, ne_0_4, ne_0_5, ne_0_6, ne_0_7, ne_1_0, ne_1_2, ne_1_3, ne_1_4, ne_1_5, ne_1_6, ne_1_7, ne_2_0, ne_2_1, ne_2_3, ne_2_4, ne_2_5, ne_2_6, ne_2_7, ne_3_0, ne_3_1, ne_3_2, ne_3_4, ne_3_5, ne_3_6, ne_3_7, ne_4_0, ne_4_1, ne_4_2, ne_4_3, ne_4_5, ne_4_6, ne_4_7, ne_5_0, ne_5_1, ne_5_2, ne_5_3, ne_5_4, ne_5_6, ne_5_7, ne_6_0, ne_6_1, ne_6_2, ne_6_3, ne_6_4, ne_6_5, ne_6_7, ne_7_0, ne_7_1, ne_7_2, ne_7_3, ne_7_4, ne_7_5, ne_7_6, ne_m_0, ne_0_m, ne_m_1, ne_1_m, ne_m_2, ne_2_m, ne_m_3, ne_3_m, ne_m_4, ne_4_m, ne_m_5, ne_5_m, ne_m_6, ne_6_m, ne_m_7, ne_7_m, in8_0, in8_1, in8_2, in8_3, in8_4, in8_5, in8_6, in8_7, in_n, nI_clamp, e, nI_1, e2]
theorem b_layAll {F : Nat → Nat → Int32} {I : Nat → Nat → Int32} {J : Nat → Nat → Int64} (ok : ∀ r, r < 10 → okr (F r) r) (hrec : ∀ r, r < 10 → ∀ j, j < 109 → I 1 (109 * r + j) = F r j) : ∃ I' J', z_X12_layAll TB (I, J, rB) 0 = some (I', J', rB) ∧ lF I I' ∧ ∀ i, i < 10 → dB I' i (F i 0) (dd F i) :=
  b_all2 ok 10 20000 I J 0 (by omega) (by omega) hrec (fun i hi => absurd hi (Nat.not_lt_zero _))
/-! the class -/
def vA (I : Nat → Nat → Int32) (R : Nat → Nat → Option Nat) (F : Nat → Nat → Int32) : Prop := ∀ r, r < 10 → ∃ m, R (58 + 6 * r) 4 = some m ∧ mdA m ∧ mkr (F r) (I m) (I (m + 1)) ∧ okr (F r) r ∧ I (58 + 6 * r) 0 = nI r ∧ ((I (58 + 6 * r) 5 = 0 ∧ dA I (58 + 6 * r) (F r 0) (dd F r)) ∨ I (58 + 6 * r) 5 = 1)
/-- what settling may change -/
def sfA (I I' : Nat → Nat → Int32) : Prop := ∀ b j, b ≠ 43 → (∀ r, r < 10 → b < 58 + 6 * r ∨ 61 + 6 * r < b) → I' b j = I b j
theorem sfA.rf {I : Nat → Nat → Int32} : sfA I I := fun _ _ _ _ => rfl
theorem sfA.trans {I I' I2 : Nat → Nat → Int32} (h : sfA I I') (h2 : sfA I' I2) : sfA I I2 := fun b j q q2 => (h2 b j q q2).trans (h b j q q2)
theorem sfA_a {I I' : Nat → Nat → Int32} {r : Nat} (hr : r < 10) (h : aF (58 + 6 * r) I I') : sfA I I' := fun b j q q2 => aF_out h ⟨by have := q2 r hr; omega, q⟩ j
theorem sfA_5 {I : Nat → Nat → Int32} {r : Nat} {v : Int32} (hr : r < 10) : sfA I (fh_up I (58 + 6 * r) 5 v) := fun b j q q2 => up_a _ _ _ _ (by have := q2 r hr; omega)
theorem dA_F {a b : Nat} {I I' : Nat → Nat → Int32} {k : Int32} {D : Dat} (hF : aF a I I') (ha : rwA a) (hb : rwA b) (h : b ≠ a) (hd : dA I b k D) : dA I' b k D := by
  have h1 := rw_rw ha hb h
  have h2 := rw43 hb
  have e : ∀ c j, b ≤ c → c ≤ b + 3 → I' c j = I c j := fun c j c1 c2 => aF_out hF ⟨by omega, by omega⟩ j
  obtain ⟨q1, q2, q3⟩ := hd
  exact ⟨rowA_F hF ha hb h q1, by rw [e b 8 (by omega) (by omega)]; exact q2, fun z => ⟨lst_cong (q3 z).1 (fun j _ _ => e (b + 2) j (by omega) (by omega)), lst_cong (q3 z).2 (fun j _ _ => e (b + 3) j (by omega) (by omega))⟩⟩
theorem dA_5 {r s : Nat} {I : Nat → Nat → Int32} {k v : Int32} {D : Dat} (hd : dA I (58 + 6 * r) k D) : dA (fh_up I (58 + 6 * s) 5 v) (58 + 6 * r) k D := by
  obtain ⟨⟨q1, q2, q3⟩, q4, q5⟩ := hd
  refine ⟨⟨by rw [up_k _ _ _ _ (by decide)]; exact q1, lst_cong q2 (fun j _ _ => up_a _ _ _ _ (by omega)), by rw [up_k _ _ _ _ (by decide)]; exact q3⟩, by rw [up_k _ _ _ _ (by decide)]; exact q4, fun z => ⟨lst_cong (q5 z).1 (fun j _ _ => up_a _ _ _ _ (by omega)), lst_cong (q5 z).2 (fun j _ _ => up_a _ _ _ _ (by omega))⟩⟩
theorem md_58 {m r : Nat} (hm : mdA m) (hr : r < 10) : m ≠ 58 + 6 * r ∧ m + 1 ≠ 58 + 6 * r := by
  have := md_rw (rwA_r hr) hm
  omega
theorem funI {I I' : Nat → Nat → Int32} {m : Nat} (h : ∀ j, I' m j = I m j) : I' m = I m := funext h
theorem vA_step {I I1 : Nat → Nat → Int32} {R R1 : Nat → Nat → Option Nat} {F : Nat → Nat → Int32} {n : Nat} (hn : n < 10) (hv : vA I R F) (hF : aF (58 + 6 * n) I I1) (fR : rF R R1) (hd : dA I1 (58 + 6 * n) (F n 0) (dd F n)) : vA (fh_up I1 (58 + 6 * n) 5 0) R1 F := by
  intro r hr
  obtain ⟨m, h1, h2, h3, h4, h5, h6⟩ := hv r hr
  obtain ⟨d1, d2, d3, d4⟩ := md_rw (rwA_r hn) h2
  have q1 := md_58 h2 hn
  refine ⟨m, by rw [fR _ _ (by omega)]; exact h1, h2, ?_, h4, ?_, ?_⟩
  · rw [funI (fun j => by rw [up_a _ _ _ _ q1.1]; exact aF_out hF ⟨d1, d3⟩ j : ∀ j, fh_up I1 (58 + 6 * n) 5 0 m j = I m j), funI (fun j => by rw [up_a _ _ _ _ q1.2]; exact aF_out hF ⟨d2, d4⟩ j : ∀ j, fh_up I1 (58 + 6 * n) 5 0 (m + 1) j = I (m + 1) j)]; exact h3
  · rw [up_k _ _ _ _ (by decide), hF _ _ (by unfold aS; omega)]; exact h5
  · by_cases c : r = n
    · subst c
      exact Or.inl ⟨up_s _ _ _ _, dA_5 hd⟩
    · rcases h6 with ⟨a1, a2⟩ | a1
      · exact Or.inl ⟨by rw [up_a _ _ _ _ (by omega), hF _ _ (by unfold aS; omega)]; exact a1, dA_5 (dA_F hF (rwA_r hn) (rwA_r hr) (by omega) a2)⟩
      · exact Or.inr (by rw [up_a _ _ _ _ (by omega), hF _ _ (by unfold aS; omega)]; exact a1)
theorem a_settle23 {F : Nat → Nat → Int32} {row : Nat} (hrow : row < 10) : ∀ (k fuel : Nat) (I : Nat → Nat → Int32) (J : Nat → Nat → Int64) (R : Nat → Nat → Option Nat) (n : Nat), k < fuel → n + k = row + 1 → RA R → hw R → vA I R F → (∀ i, i < n → I (58 + 6 * i) 5 = 0) →
    ∃ I' J' R', z_X11_settled_b23 SA 0 fuel (I, J, R) (nI row) (58 + 6 * row) (nI n) = some (Sum.inr (some (58 + 6 * row)), (I', J', R')) ∧ sfA I I' ∧ RA R' ∧ hw R' ∧ rF R R' ∧ vA I' R' F ∧ (∀ i, i ≤ row → I' (58 + 6 * i) 5 = 0) ∧ ∀ i, I (58 + 6 * i) 5 = 0 → I' (58 + 6 * i) 5 = 0 := by
  intro k
  induction k with
  | zero =>
    intro fuel I J R n hf hn hR hh hv h0
    obtain ⟨f, rfl⟩ : ∃ f, fuel = f + 1 := ⟨fuel - 1, by omega⟩
    refine ⟨I, J, R, ?_, sfA.rf, hR, hh, fun _ _ _ => rfl, hv, fun i hi => h0 i (by omega), fun i hi => hi⟩
    rw [z_X11_settled_b23, if_pos (nI_lt (by omega) (by omega))]
  | succ k ih =>
    intro fuel I J R n hf hn hR hh hv h0
    obtain ⟨f, rfl⟩ : ∃ f, fuel = f + 1 := ⟨fuel - 1, by omega⟩
    have hn10 : n < 10 := by omega
    obtain ⟨m, h1, h2, h3, h4, h5, h6⟩ := hv n hn10
    have kn := (rwA_k (rwA_r hn10)).1
    have el : ¬ Int32.ofNat 10 ≤ nI n := nI_ge (b := 10) (by omega) (by omega)
    have hrn := rA_row hR hn10
    rw [z_X11_settled_b23, if_neg (nI_nlt (by omega) (by omega))]
    rcases h6 with ⟨s0, hd⟩ | s1
    · obtain ⟨I', J', R', e, g⟩ := ih f I J R (n + 1) (by omega) (by omega) hR hh hv (fun i hi => by
        by_cases c : i = n
        · rw [c]; exact s0
        · exact h0 i (by omega))
      refine ⟨I', J', R', ?_, g⟩
      simp (disch := omega) only [ck_N, b1_N, b2_N, let_N, nn_Ns, nn_Nn, sI_N, sJ_N, sR_N, kA_0, kA_1, kA_2, kA_3, kA_4, kA_5, kA_8, kA_9, kA_10, kA_43, kA_44, kA_45, kA_46, kA_47, kA_48, kA_49, kA_50, kA_51, kA_52, kA_53, kA_54, kA_55, kA_56, kA_57, kA_118, lA_1, lA_3, lA_4, lA_5, lA_9, lA_10, lA_49, lA_50, lA_51, lA_52, lA_54, lA_57, lA_118, rA_0_0 hR, rA_0_1 hR, rA_0_2 hR, rA_0_3 hR, rA_0_4 hR, rA_0_5 hR, rA_0_6 hR, rA_0_7 hR, rA_0_8 hR, rA_0_9 hR, rA_8_0 hR, rA_8_1 hR, rA_48_0 hR, rA_48_1 hR, rA_48_2 hR, rA_48_3 hR, rA_53_0 hR, rA_53_1 hR, rA_55_0 hR, rA_56_0 hR, Int32.reduceAdd, Int32.reduceSub, Int32.reduceMul, Int32.reduceLE, Int32.reduceLT, Int32.reduceToNatClampNeg, if_true, if_false, eq_self, up_s, up_a, up_k, ne_0_1, ne_0_2, ne_0_3, ne_0_4, ne_0_5, ne_0_6, ne_0_7, ne_1_0, ne_1_2, ne_1_3, ne_1_4, ne_1_5, ne_1_6, ne_1_7, ne_2_0, ne_2_1, ne_2_3, ne_2_4, ne_2_5, ne_2_6, ne_2_7, ne_3_0, ne_3_1, ne_3_2, ne_3_4, ne_3_5, ne_3_6, ne_3_7, ne_4_0, ne_4_1, ne_4_2, ne_4_3, ne_4_5, ne_4_6, ne_4_7, ne_5_0, ne_5_1, ne_5_2, ne_5_3, ne_5_4, ne_5_6, ne_5_7, ne_6_0, ne_6_1, ne_6_2, ne_6_3, ne_6_4, ne_6_5, ne_6_7, ne_7_0, ne_7_1, ne_7_2, ne_7_3, ne_7_4, ne_7_5, ne_7_6, ne_m_0, ne_0_m, ne_m_1, ne_1_m, ne_m_2, ne_2_m, ne_m_3, ne_3_m, ne_m_4, ne_4_m, ne_m_5, ne_5_m, ne_m_6, ne_6_m, ne_m_7, ne_7_m, lA_1, el, in_n, nI_clamp, hrn, kn, s0, nI_1, e]
    · obtain ⟨I1, J1, R1, e1, hF, hR1, fR, hh1, hd⟩ := a_reckon (J := J) (f := F n) (L := tb F n) (K := fun i => F i 0) hR hh hn10 h1 h2 h3 h4 (fun i hi => by
        obtain ⟨m', -, -, -, -, -, g6⟩ := hv i (by omega)
        rw [tb_lt F n i hi]
        refine ⟨g6.elim (fun q => q.2) (fun q => ?_), dd_len F i⟩
        rw [h0 i hi] at q; exact absurd q (by decide))
      have hv1 := vA_step hn10 hv hF fR hd
      obtain ⟨I', J', R', e, g1, g2, g3, g4, g5, g6, g7⟩ := ih f (fh_up I1 (58 + 6 * n) 5 0) J1 R1 (n + 1) (by omega) (by omega) hR1 hh1 hv1 (fun i hi => by
        by_cases c : i = n
        · rw [c]; exact up_s _ _ _ _
        · rw [up_a _ _ _ _ (by omega), hF _ _ (by unfold aS; omega)]; exact h0 i (by omega))
      refine ⟨I', J', R', ?_, ((sfA_a hn10 hF).trans (sfA_5 hn10)).trans g1, g2, g3, fun b j hb => (g4 b j hb).trans (fR b j hb), g5, g6, fun i hi => g7 i (by
        by_cases c : i = n
        · rw [c]; exact up_s _ _ _ _
        · rw [up_a _ _ _ _ (by omega), hF _ _ (by unfold aS; omega)]; exact hi)⟩
      simp (disch := omega) only [ck_N, b1_N, b2_N, let_N, nn_Ns, nn_Nn, sI_N, sJ_N, sR_N, kA_0, kA_1, kA_2, kA_3, kA_4, kA_5, kA_8, kA_9, kA_10, kA_43, kA_44, kA_45, kA_46, kA_47, kA_48, kA_49, kA_50, kA_51, kA_52, kA_53, kA_54, kA_55, kA_56, kA_57, kA_118, lA_1, lA_3, lA_4, lA_5, lA_9, lA_10, lA_49, lA_50, lA_51, lA_52, lA_54, lA_57, lA_118, rA_0_0 hR, rA_0_1 hR, rA_0_2 hR, rA_0_3 hR, rA_0_4 hR, rA_0_5 hR, rA_0_6 hR, rA_0_7 hR, rA_0_8 hR, rA_0_9 hR, rA_8_0 hR, rA_8_1 hR, rA_48_0 hR, rA_48_1 hR, rA_48_2 hR, rA_48_3 hR, rA_53_0 hR, rA_53_1 hR, rA_55_0 hR, rA_56_0 hR, Int32.reduceAdd, Int32.reduceSub, Int32.reduceMul, Int32.reduceLE, Int32.reduceLT, Int32.reduceToNatClampNeg, if_true, if_false, eq_self, up_s, up_a, up_k, ne_0_1, ne_0_2, ne_0_3, ne_0_4, ne_0_5, ne_0_6, ne_0_7, ne_1_0, ne_1_2, ne_1_3, ne_1_4, ne_1_5, ne_1_6, ne_1_7, ne_2_0, ne_2_1, ne_2_3, ne_2_4, ne_2_5, ne_2_6, ne_2_7, ne_3_0, ne_3_1, ne_3_2, ne_3_4, ne_3_5, ne_3_6, ne_3_7, ne_4_0, ne_4_1, ne_4_2, ne_4_3, ne_4_5, ne_4_6, ne_4_7, ne_5_0, ne_5_1, ne_5_2, ne_5_3, ne_5_4, ne_5_6, ne_5_7, ne_6_0, ne_6_1, ne_6_2, ne_6_3, ne_6_4, ne_6_5, ne_6_7, ne_7_0, ne_7_1, ne_7_2, ne_7_3, ne_7_4, ne_7_5, ne_7_6, ne_m_0, ne_0_m, ne_m_1, ne_1_m, ne_m_2, ne_2_m, ne_m_3, ne_3_m, ne_m_4, ne_4_m, ne_m_5, ne_5_m, ne_m_6, ne_6_m, ne_m_7, ne_7_m, lA_1, el, in_n, nI_clamp, hrn, kn, s1, e1, nI_1, e]
theorem a_settled {F : Nat → Nat → Int32} {I : Nat → Nat → Int32} {J : Nat → Nat → Int64} {R : Nat → Nat → Option Nat} {row : Nat} (hrow : row < 10) (hR : RA R) (hh : hw R) (hv : vA I R F) :
    ∃ I' J' R', z_X11_settled SA (I, J, R) 0 (nI row) = some (Sum.inr (some (58 + 6 * row)), (I', J', R')) ∧ sfA I I' ∧ RA R' ∧ hw R' ∧ rF R R' ∧ vA I' R' F ∧ (∀ i, i ≤ row → I' (58 + 6 * i) 5 = 0) ∧ ∀ i, I (58 + 6 * i) 5 = 0 → I' (58 + 6 * i) 5 = 0 := by
  obtain ⟨I', J', R', e, g⟩ := a_settle23 hrow (row + 1) 20000 I J R 0 (by omega) (by omega) hR hh hv (fun i hi => absurd hi (Nat.not_lt_zero _))
  refine ⟨I', J', R', ?_, g⟩
  unfold z_X11_settled
  rw [a_find hR hrow, b1_N, nn_Ns]
  exact e
theorem a_settled_no {I : Nat → Nat → Int32} {J : Nat → Nat → Int64} {R : Nat → Nat → Option Nat} (hR : RA R) {x : Int32} (hx : ¬ ∃ i : Nat, i < 10 ∧ x = nI i) : z_X11_settled SA (I, J, R) 0 x = some (Sum.inl 1, (I, J, R)) := by
  unfold z_X11_settled
  rw [a_find_no hR hx, b1_N, nn_Nn]
