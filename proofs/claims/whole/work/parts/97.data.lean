/-! what is known of a row, by its recipe -/
abbrev Dat : Type := List rT × Int32 × Int32
def bas (l : List Int32) (st : Int32) : Dat := (l.map (fun v => (v, 0, 0)), st, 0)
def dsr (D : Dat) : List Int32 × Int32 := (D.1.map (fun t => t.1), D.2.1)
def tlf (f : Nat → Int32) : List Int32 := tl (fun k => f (9 + k)) (f 7).toNatClampNeg (f 8).toNatClampNeg
def dn (f : Nat → Int32) (L : Nat → Dat) : Dat :=
  if f 0 = 0 then bas (dv 60 (f 1).toInt64 (f 2).toInt64) (if (dv 60 (f 1).toInt64 (f 2).toInt64).length = 60 then 0 else 1)
  else if f 0 = 1 then bas (rtD (f 1).toInt64 (f 2).toInt64 (f 3).toInt64).1 (rtD (f 1).toInt64 (f 2).toInt64 (f 3).toInt64).2
  else if f 0 = 2 then bas (tlf f) (if tln (f 7).toNatClampNeg (f 8).toNatClampNeg = 60 then 0 else 1)
  else if f 0 = 3 then al (dsr (L (f 5).toNatClampNeg)) (dsr (L (f 5).toNatClampNeg)) 60 200 (s0 (f 1) (f 2) (f 3) (f 4)) []
  else al (dsr (L (f 5).toNatClampNeg)) (dsr (L (f 6).toNatClampNeg)) 60 200 (d0 (f 1)) []
/-- told terms behind the first are 1 at least -/
def tlq (f : Nat → Int32) (a g : Nat) : Prop := 1 ≤ a ∧ (∀ k, 1 ≤ k → k < a + g → 1 ≤ (f (9 + k)).toInt) ∧ -9999 ≤ (f 9).toInt
def okr (f : Nat → Int32) (r : Nat) : Prop :=
  (f 0 = 0 ∧ (0 : Int64) ≤ (f 2).toInt64 ∧ -9999 ≤ (f 1).toInt) ∨ (f 0 = 1 ∧ okR (f 1) (f 2) (f 3)) ∨ (f 0 = 2 ∧ ∃ a g : Nat, f 7 = nI a ∧ f 8 = nI g ∧ a + g ≤ 100 ∧ tlq f a g) ∨
  (f 0 = 3 ∧ ∃ i : Nat, i < r ∧ f 5 = nI i) ∨ (f 0 = 4 ∧ (∃ i : Nat, i < r ∧ f 5 = nI i) ∧ (∃ j : Nat, j < r ∧ f 6 = nI j) ∧ (f 1 = 0 ∨ f 1 = 1 ∨ f 1 = 2 ∨ f 1 = 3))
theorem bas_1 (l : List Int32) (st : Int32) : (bas l st).1.map (fun t => t.1) = l := by
  unfold bas
  simp only [List.map_map]
  exact List.map_id l
theorem bas_len (l : List Int32) (st : Int32) : (bas l st).1.length = l.length := by simp [bas]
theorem dv_len : ∀ (n : Nat) (p q : Int64), (dv n p q).length ≤ n := by
  intro n
  induction n with
  | zero => intro p q; exact Nat.le_refl _
  | succ n ih =>
    intro p q
    rw [dv]
    split
    · exact Nat.zero_le _
    · rw [List.length_cons]; have := ih q (p - fd p q * q); omega
theorem al_len (X Y : List Int32 × Int32) (most : Nat) : ∀ (n : Nat) (σ : rS) (out : List rT), out.length ≤ most → (al X Y most n σ out).1.length ≤ most := by
  intro n
  induction n with
  | zero =>
    intro σ out h
    obtain ⟨A, B, x, y, s, e1, e2, tk⟩ := σ
    exact h
  | succ n ih =>
    intro σ out h
    obtain ⟨A, B, x, y, s, e1, e2, tk⟩ := σ
    rw [al]
    by_cases c : most ≤ out.length
    · rw [if_pos c]; exact h
    · rw [if_neg c]
      dsimp only
      split
      · exact ih _ _ h
      · split
        · exact ih _ _ (by rw [List.length_append, List.length_singleton]; omega)
        · exact h
theorem dn_len (f : Nat → Int32) (L : Nat → Dat) : (dn f L).1.length ≤ 60 := by
  unfold dn
  split
  · rw [bas_len]; exact dv_len _ _ _
  split
  · rw [bas_len]
    unfold rtD
    split
    · exact dv_len _ _ _
    · rw [rtl_len]; exact Nat.le_refl _
  split
  · rw [bas_len, tlf, tl_len]; exact tln_le _ _
  split
  · exact al_len _ _ _ _ _ _ (Nat.zero_le _)
  · exact al_len _ _ _ _ _ _ (Nat.zero_le _)
theorem dsr_len (D : Dat) : (dsr D).1.length = D.1.length := by simp [dsr]
/-- the reference holds what is known of a row -/
def dB (I : Nat → Nat → Int32) (r : Nat) (k : Int32) (D : Dat) : Prop := rowB I r (dsr D).1 D.2.1 ∧ I 6 r = D.2.2 ∧ (k = 3 ∨ k = 4 → lst (I 7) (60 * r) (D.1.map (fun t => t.2.1)) ∧ lst (I 8) (60 * r) (D.1.map (fun t => t.2.2)))
def dA (I : Nat → Nat → Int32) (a : Nat) (k : Int32) (D : Dat) : Prop := rowA I a (dsr D).1 D.2.1 ∧ I a 8 = D.2.2 ∧ (k = 3 ∨ k = 4 → lst (I (a + 2)) 0 (D.1.map (fun t => t.2.1)) ∧ lst (I (a + 3)) 0 (D.1.map (fun t => t.2.2)))
theorem dB_3 {I : Nat → Nat → Int32} {r : Nat} {k : Int32} {D : Dat} (h : rowB3 I r D) : dB I r k D := by
  obtain ⟨⟨h1, h2, h3, h4⟩, h5, h6⟩ := h
  exact ⟨⟨by rw [dsr_len]; exact h1, h2, h5⟩, h6, fun _ => ⟨h3, h4⟩⟩
theorem dA_3 {I : Nat → Nat → Int32} {a : Nat} {k : Int32} {D : Dat} (h : rowA3 I a D) : dA I a k D := by
  obtain ⟨⟨h1, h2, h3, h4⟩, h5, h6⟩ := h
  exact ⟨⟨by rw [dsr_len]; exact h1, h2, h5⟩, h6, fun _ => ⟨h3, h4⟩⟩
theorem dB_b {I : Nat → Nat → Int32} {r : Nat} {k : Int32} {l : List Int32} {st : Int32} (h : rowB I r l st) (h6 : I 6 r = 0) (hk : ¬ (k = 3 ∨ k = 4)) : dB I r k (bas l st) := by
  refine ⟨?_, h6, fun q => absurd q hk⟩
  rw [show (dsr (bas l st)).1 = l from bas_1 l st]; exact h
theorem dA_b {I : Nat → Nat → Int32} {a : Nat} {k : Int32} {l : List Int32} {st : Int32} (h : rowA I a l st) (h6 : I a 8 = 0) (hk : ¬ (k = 3 ∨ k = 4)) : dA I a k (bas l st) := by
  refine ⟨?_, h6, fun q => absurd q hk⟩
  rw [show (dsr (bas l st)).1 = l from bas_1 l st]; exact h
theorem dB_src {I : Nat → Nat → Int32} {r : Nat} {k : Int32} {D : Dat} (h : dB I r k D) (hr : r < 10) (hl : D.1.length ≤ 60) : srcB I r (dsr D) := ⟨hr, h.1, by rw [dsr_len]; exact hl⟩
/-- the reference lays a row -/
theorem b_lay {I : Nat → Nat → Int32} {J : Nat → Nat → Int64} {r : Nat} {f : Nat → Int32} {L : Nat → Dat} {K : Nat → Int32} (hr : r < 10) (hf : ∀ k, k < 109 → I 1 (109 * r + k) = f k) (ok : okr f r) (h4 : I 4 r = 0) (h6 : I 6 r = 0) (hL : ∀ i, i < r → dB I i (K i) (L i) ∧ (L i).1.length ≤ 60) :
    ∃ I' J', z_X12_lay TB (I, J, rB) 0 (nI r) = some (I', J', rB) ∧ bF r I I' ∧ dB I' r (f 0) (dn f L) := by
  have o : ∀ k, k < 109 → z_X12_of1 TB (I, J, rB) 0 (nI r) (nI k) = some (f k) := fun k hk => by rw [b_of1 hr hk, hf k hk]
  have o0 : z_X12_of1 TB (I, J, rB) 0 (nI r) 0 = some (f 0) := o 0 (by decide)
  have o1 : z_X12_of1 TB (I, J, rB) 0 (nI r) 1 = some (f 1) := o 1 (by decide)
  have o2 : z_X12_of1 TB (I, J, rB) 0 (nI r) 2 = some (f 2) := o 2 (by decide)
  have o3 : z_X12_of1 TB (I, J, rB) 0 (nI r) 3 = some (f 3) := o 3 (by decide)
  have o4 : z_X12_of1 TB (I, J, rB) 0 (nI r) 4 = some (f 4) := o 4 (by decide)
  have o5 : z_X12_of1 TB (I, J, rB) 0 (nI r) 5 = some (f 5) := o 5 (by decide)
  have o6 : z_X12_of1 TB (I, J, rB) 0 (nI r) 6 = some (f 6) := o 6 (by decide)
  unfold z_X12_lay
  rw [o0, b1_N]
  rcases ok with ⟨k0, hq⟩ | ⟨k0, hR⟩ | ⟨k0, a, g, ha, hg, hag, -⟩ | ⟨k0, i, hi, h5⟩ | ⟨k0, ⟨i, hi, h5⟩, ⟨j, hj, h6j⟩, hhow⟩
  · rw [if_pos k0, o1, b1_N, o2, b1_N]
    obtain ⟨I', e, hF, hrow, g6⟩ := b_div (J := J) hr h4 (f 1).toInt64 (f 2).toInt64
    rw [if_pos hq.1, if_pos hq.1] at hrow
    refine ⟨I', J, by rw [e]; rfl, hF, ?_⟩
    unfold dn
    rw [if_pos k0]
    exact dB_b hrow (by rw [g6]; exact h6) (by rw [k0]; decide)
  · rw [if_neg (by rw [k0]; decide), if_pos k0]
    obtain ⟨I', J', e, hF, hrow, g6⟩ := b_rootRow (J := J) hr hR (hf 1 (by decide)) (hf 2 (by decide)) (hf 3 (by decide)) h4
    refine ⟨I', J', by rw [e]; rfl, hF, ?_⟩
    unfold dn
    rw [if_neg (by rw [k0]; decide), if_pos k0]
    exact dB_b hrow (by rw [g6]; exact h6) (by rw [k0]; decide)
  · rw [if_neg (by rw [k0]; decide), if_neg (by rw [k0]; decide), if_pos k0]
    obtain ⟨I', e, hF, hrow, g6⟩ := b_told (J := J) (f := fun k => f (9 + k)) hr hag (by rw [hf 7 (by decide)]; exact ha) (by rw [hf 8 (by decide)]; exact hg) (fun j hj => hf (9 + j) (by omega)) h4
    refine ⟨I', J, by rw [e]; rfl, hF, ?_⟩
    unfold dn
    rw [if_neg (by rw [k0]; decide), if_neg (by rw [k0]; decide), if_pos k0]
    unfold tlf
    rw [ha, hg, nI_clamp (by omega), nI_clamp (by omega)]
    exact dB_b hrow (by rw [g6]; exact h6) (by rw [k0]; decide)
  · rw [if_neg (by rw [k0]; decide), if_neg (by rw [k0]; decide), if_neg (by rw [k0]; decide)]
    unfold dn
    rw [if_neg (by rw [k0]; decide), if_neg (by rw [k0]; decide), if_neg (by rw [k0]; decide), if_pos k0, h5, nI_clamp (by omega)]
    obtain ⟨I1, J1, e1, hF1, hk1⟩ := b_bSingle (I := I) (J := J) (i := i) (j := i) (a := f 1) (b := f 2) (c := f 3) (d := f 4)
    have hX := dB_src (hL i hi).1 (by omega) (hL i hi).2
    have fb : bF r I1 (fh_up I1 5 r 0) := bF.rf.up (bS_5 r)
    have hX1 := srcB_b fb (show i ≠ r by omega) (srcB_s hF1 hX)
    obtain ⟨I2, J2, e2, hF2, hrow⟩ := b_lay79 (two := false) (Y := dsr (L i)) (j := i) hr (show i ≠ r by omega) (fun h => by cases h) 60 20000 200 (fh_up I1 5 r 0) J1 (s0 (f 1) (f 2) (f 3) (f 4)) [] (by omega) (by rfl) (by have := rmu_le (two := false) (X := dsr (L i)) (Y := dsr (L i)) (σ := s0 (f 1) (f 2) (f 3) (f 4)) hX.2.2 (fun h => by cases h); omega) (rkB_I hk1 (fun k => up_a _ _ _ _ (by decide))) (s0_ok _ _ _ _ _ _) hX1 (fun h => by cases h) ⟨by rw [up_a _ _ _ _ (by decide), hF1 4 r (fun q => by omega)]; exact h4, lst_nil _ _, lst_nil _ _, lst_nil _ _⟩ (up_s _ _ _ _)
    refine ⟨I2, J2, ?_, ((hF1.b r).trans fb).trans hF2, dB_3 hrow⟩
    unfold z_X12_layMade
    rw [o0, b1_N, if_pos k0, o5, b1_N, o1, b1_N, o2, b1_N, o3, b1_N, o4, b1_N, h5, e1, b1_N]
    have e2' : z_X12_layMade_b79 TB 0 20000 (fh_up I1 5 r 0, J1, rB) (nI r) 1 = some (I2, J2, rB) := e2
    simp (disch := omega) only [ck_N, b1_N, b2_N, let_N, nn_Ns, nn_Nn, sI_N, sJ_N, sR_N, kB_N0, kB_N1, kB_N2, kB_N3, kB_N4, kB_N5, kB_N6, kB_N7, kB_N8, kB_N9, kB_N10, kB_N11, kB_N12, kB_N13, kB_N14, kB_N15, kB_N16, kB_N17, lB_N1, lB_N2, lB_N3, lB_N4, lB_N5, lB_N6, lB_N7, lB_N8, lB_N9, lB_N10, lB_N11, lB_N12, lB_N13, lB_N14, lB_N15, lB_N16, lB_N17, rB_N0, rB_N1, rB_N4, rB_N5, rB_N6, rB_N7, rB_N8, rB_N9, rB_N10, rB_N11, rB_N13, rB_N14, rB_N26, rB_N27, rB_N31, rB_N33, rB_N34, Int32.reduceAdd, Int32.reduceSub, Int32.reduceMul, Int32.reduceLE, Int32.reduceLT, Int32.reduceToNatClampNeg, if_true, if_false, eq_self, up_s, up_a, up_k, ne_0_1, ne_0_2, ne_0_3, ne_0_4, ne_0_5, ne_0_6, ne_0_7, ne_1_0, ne_1_2, ne_1_3, ne_1_4, ne_1_5, ne_1_6, ne_1_7, ne_2_0, ne_2_1, ne_2_3, ne_2_4, ne_2_5, ne_2_6, ne_2_7, ne_3_0, ne_3_1, ne_3_2, ne_3_4, ne_3_5, ne_3_6, ne_3_7, ne_4_0, ne_4_1, ne_4_2, ne_4_3, ne_4_5, ne_4_6, ne_4_7, ne_5_0, ne_5_1, ne_5_2, ne_5_3, ne_5_4, ne_5_6, ne_5_7, ne_6_0, ne_6_1, ne_6_2, ne_6_3, ne_6_4, ne_6_5, ne_6_7, ne_7_0, ne_7_1, ne_7_2, ne_7_3, ne_7_4, ne_7_5, ne_7_6, ne_m_0, ne_0_m, ne_m_1, ne_1_m, ne_m_2, ne_2_m, ne_m_3, ne_3_m, ne_m_4, ne_4_m, ne_m_5, ne_5_m, ne_m_6, ne_6_m, ne_m_7, ne_7_m, in8_0, in8_1, in8_2, in8_3, in8_4, in8_5, in8_6, in8_7, in_n, nI_clamp, e2']
  · rw [if_neg (by rw [k0]; decide), if_neg (by rw [k0]; decide), if_neg (by rw [k0]; decide)]
    unfold dn
    rw [if_neg (by rw [k0]; decide), if_neg (by rw [k0]; decide), if_neg (by rw [k0]; decide), if_neg (by rw [k0]; decide), h5, h6j, nI_clamp (by omega), nI_clamp (by omega)]
    obtain ⟨I1, J1, e1, hF1, hk1⟩ := b_bDouble (I := I) (J := J) (i := i) (j := j) (how := f 1)
    have hX := dB_src (hL i hi).1 (by omega) (hL i hi).2
    have hY := dB_src (hL j hj).1 (by omega) (hL j hj).2
    have fb : bF r I1 (fh_up I1 5 r 0) := bF.rf.up (bS_5 r)
    have hX1 := srcB_b fb (show i ≠ r by omega) (srcB_s hF1 hX)
    have hY1 := srcB_b fb (show j ≠ r by omega) (srcB_s hF1 hY)
    obtain ⟨I2, J2, e2, hF2, hrow⟩ := b_lay79 (two := true) hr (show i ≠ r by omega) (fun _ => show j ≠ r by omega) 60 20000 200 (fh_up I1 5 r 0) J1 (d0 (f 1)) [] (by omega) (by rfl) (by have := rmu_le (two := true) (X := dsr (L i)) (Y := dsr (L j)) (σ := d0 (f 1)) hX.2.2 (fun _ => hY.2.2); omega) (rkB_I hk1 (fun k => up_a _ _ _ _ (by decide))) (d0_ok _ _ _) hX1 (fun _ => hY1) ⟨by rw [up_a _ _ _ _ (by decide), hF1 4 r (fun q => by omega)]; exact h4, lst_nil _ _, lst_nil _ _, lst_nil _ _⟩ (up_s _ _ _ _)
    refine ⟨I2, J2, ?_, ((hF1.b r).trans fb).trans hF2, dB_3 hrow⟩
    unfold z_X12_layMade
    rw [o0, b1_N, if_neg (by rw [k0]; decide), o1, b1_N, o5, b1_N, o6, b1_N, h5, h6j, e1, b1_N]
    have e2' : z_X12_layMade_b79 TB 0 20000 (fh_up I1 5 r 0, J1, rB) (nI r) 1 = some (I2, J2, rB) := e2
    simp (disch := omega) only [ck_N, b1_N, b2_N, let_N, nn_Ns, nn_Nn, sI_N, sJ_N, sR_N, kB_N0, kB_N1, kB_N2, kB_N3, kB_N4, kB_N5, kB_N6, kB_N7, kB_N8, kB_N9, kB_N10, kB_N11, kB_N12, kB_N13, kB_N14, kB_N15, kB_N16, kB_N17, lB_N1, lB_N2, lB_N3, lB_N4, lB_N5, lB_N6, lB_N7, lB_N8, lB_N9, lB_N10, lB_N11, lB_N12, lB_N13, lB_N14, lB_N15, lB_N16, lB_N17, rB_N0, rB_N1, rB_N4, rB_N5, rB_N6, rB_N7, rB_N8, rB_N9, rB_N10, rB_N11, rB_N13, rB_N14, rB_N26, rB_N27, rB_N31, rB_N33, rB_N34, Int32.reduceAdd, Int32.reduceSub, Int32.reduceMul, Int32.reduceLE, Int32.reduceLT, Int32.reduceToNatClampNeg, if_true, if_false, eq_self, up_s, up_a, up_k, ne_0_1, ne_0_2, ne_0_3, ne_0_4, ne_0_5, ne_0_6, ne_0_7, ne_1_0, ne_1_2, ne_1_3, ne_1_4, ne_1_5, ne_1_6, ne_1_7, ne_2_0, ne_2_1, ne_2_3, ne_2_4, ne_2_5, ne_2_6, ne_2_7, ne_3_0, ne_3_1, ne_3_2, ne_3_4, ne_3_5, ne_3_6, ne_3_7, ne_4_0, ne_4_1, ne_4_2, ne_4_3, ne_4_5, ne_4_6, ne_4_7, ne_5_0, ne_5_1, ne_5_2, ne_5_3, ne_5_4, ne_5_6, ne_5_7, ne_6_0, ne_6_1, ne_6_2, ne_6_3, ne_6_4, ne_6_5, ne_6_7, ne_7_0, ne_7_1, ne_7_2, ne_7_3, ne_7_4, ne_7_5, ne_7_6, ne_m_0, ne_0_m, ne_m_1, ne_1_m, ne_m_2, ne_2_m, ne_m_3, ne_3_m, ne_m_4, ne_4_m, ne_m_5, ne_5_m, ne_m_6, ne_6_m, ne_m_7, ne_7_m, in8_0, in8_1, in8_2, in8_3, in8_4, in8_5, in8_6, in8_7, in_n, nI_clamp, e2']
