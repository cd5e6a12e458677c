/-! a question: the answer -/
def qS1 (b : Nat → Nat) (n : Nat) : PS := if isC b n 258 (0, 0, -1) = true then adv (0, 0, -1) else exC b n 259 (0, 0, -1)
def qFin (b : Nat → Nat) (n : Nat) (σ : PS) : PS := if isC b n 257 σ = true then σ else flw b n 1 σ
theorem qFin_0 {b : Nat → Nat} {n : Nat} {σ : PS} (h : (qFin b n σ).2.1 = 0) : σ.2.1 = 0 ∧ isC b n 257 σ = true ∧ qFin b n σ = σ := by
  unfold qFin at h ⊢
  by_cases c : isC b n 257 σ = true
  · rw [if_pos c]; exact ⟨isC_0 c, c, rfl⟩
  · rw [if_neg c] at h; exact absurd h (flw_nz (by decide))
theorem stp_q1 {b : Nat → Nat} {n N : Nat} (ht : tkc b n N) : stp N (0, 0, -1) (qS1 b n) := by
  unfold qS1
  by_cases c : isC b n 258 (0, 0, -1) = true
  · rw [if_pos c]; exact stp_adv ht (by decide) (Nat.zero_le _) c
  · rw [if_neg c]; exact stp_exC ht (by decide) (Nat.zero_le _)
def frQ (I I1 : Nat → Nat → Int32) : Prop := ∀ b j, ¬ (b = 0 ∧ ((36 ≤ j ∧ j ≤ 44 ∧ j ≠ 43) ∨ j = 48)) → I1 b j = I b j
theorem frQ.rf {I : Nat → Nat → Int32} : frQ I I := fun _ _ _ => rfl
theorem frQ.trans {I I1 I2 : Nat → Nat → Int32} (h : frQ I I1) (h2 : frQ I1 I2) : frQ I I2 := fun b j q => (h2 b j q).trans (h b j q)
theorem gF4.q {I I1 : Nat → Nat → Int32} (h : gF4 I I1) : frQ I I1 := fun b j q => h b j (by omega)
theorem gF.q {I I1 : Nat → Nat → Int32} (h : gF I I1) : frQ I I1 := h.s4.q
def gdQ (I' : Nat → Nat → Int32) (b : Nat → Nat) (n : Nat) (P : Rcp) (r : Nat) : Prop := rwB3 I' P r ∧ I' 0 47 = nI r ∧ ∀ i, i < n → I' 16 i = nI (b i)
theorem gdQ_f {I I1 : Nat → Nat → Int32} {b : Nat → Nat} {n : Nat} {P : Rcp} {r : Nat} (h : gdQ I b n P r) (f : frQ I I1) : gdQ I1 b n P r := by
  obtain ⟨⟨h1, h2, h3⟩, h4, h5⟩ := h
  exact ⟨⟨by rw [f _ _ (by omega)]; exact h1, fun j hj => by rw [f _ _ (by omega)]; exact h2 j hj, by rw [f _ _ (by omega)]; exact h3⟩, by rw [f _ _ (by omega)]; exact h4, fun i hi => by rw [f _ _ (by omega)]; exact h5 i hi⟩
section
variable {I I' : Nat → Nat → Int32} {J J' : Nat → Nat → Int64} {R : Nat → Nat → Option Nat} {b : Nat → Nat} {n N : Nat} {P : Rcp} {r : Nat} {ask : Int32} {σ' : PS} {sem : Nat → Bool}
theorem min60 {K : Nat} (h : K ≤ 60) : z_J9_min_7cf53 (nI K) 60 = some (nI K) := by
  unfold z_J9_min_7cf53
  exact if_neg (i32_nlt.mpr (nI_le (b := 60) h (by omega)))
theorem a_b47 {y2 : Int32} {S1 : PS} (hR : RA R) (hr : r < 10) (ht : tkc b n N) (hp : psA I b n N S1) (hq : qA I R P r) (hA : FA (fun h a x => z_X4_parseTest SA (z_X4_parseFact SA 40) h a x) J R b n N P r 0 S1 σ' sem) : ∃ I1, z_X4_answer_b47 SA 55 (I, J, R) y2 = some ((if (qFin b n σ').2.1 = 0 then (if y2 = 0 then fsp sem (rwL P r) 0 else nI (bcn sem (rwL P r))) else -1000000000 - (qFin b n σ').2.1), (I1, J, R)) ∧ psA I1 b n N (qFin b n σ') ∧ fA5 I I1 := by
  have hl := rwL_le P r
  obtain ⟨I2, m, e2, p2, f2, hm⟩ := hA I hp hq
  have e2' : z_X4_parseTest SA (z_X4_parseFact SA 40) (I, J, R) 55 0 = some (m, (I2, J, R)) := e2
  obtain ⟨I3, e3, p3, f3⟩ := a_expE (J := J) hR ht p2
  have p3' : psA I3 b n N (qFin b n σ') := p3
  refine ⟨I3, ?_, p3', f2.trans f3⟩
  have h7 : I3 48 7 = (qFin b n σ').2.1 := p3'.2.2.1
  unfold z_X4_answer_b47
  simp only [e2', b2_N, rA_55_0 hR, b1_N, kA_48, ck_N, e3, h7]
  by_cases c : (qFin b n σ').2.1 = 0
  · have hm' := hm (qFin_0 c).1
    rw [if_pos c, if_pos c, a_firstP hl hm', a_countP hl hm', b1_N, b1_N]
    by_cases c2 : y2 = 0
    · rw [if_pos c2, if_pos c2]
    · rw [if_neg c2, if_neg c2]
  · rw [if_neg c, if_neg c]
theorem a_ans (hR : RA R) (hr : r < 10) (ht : tkc b n N) (hp : psA I b n N (0, 0, -1)) (h3 : rwA3 I (58 + 6 * r) P r) (hA : FA (fun h a x => z_X4_parseTest SA (z_X4_parseFact SA 40) h a x) (fh_up J 55 2 (((1 : Int64) <<< (Int32.toInt64 (nI (rwL P r)) &&& 63)) - 1)) (fh_up R 55 1 (some (58 + 6 * r))) b n N P r 0 (qS1 b n) σ' sem) : ∃ I1, z_X4_answer SA (I, J, R) 55 (58 + 6 * r) = some ((if (qFin b n σ').2.1 = 0 then (if isC b n 258 (0, 0, -1) = true then nI (bcn sem (rwL P r)) else fsp sem (rwL P r) 0) else -1000000000 - (qFin b n σ').2.1), (I1, fh_up J 55 2 (((1 : Int64) <<< (Int32.toInt64 (nI (rwL P r)) &&& 63)) - 1), fh_up R 55 1 (some (58 + 6 * r)))) ∧ psA I1 b n N (qFin b n σ') ∧ fA5 I I1 := by
  obtain ⟨R2, eR2⟩ : ∃ z, z = fh_up R 55 1 (some (58 + 6 * r)) := ⟨_, rfl⟩
  obtain ⟨J2, eJ2⟩ : ∃ z, z = fh_up J 55 2 (((1 : Int64) <<< (Int32.toInt64 (nI (rwL P r)) &&& 63)) - 1) := ⟨_, rfl⟩
  rw [← eR2, ← eJ2] at hA ⊢
  have hR2 : RA R2 := by rw [eR2]; exact RA_55 hR _
  have hq : qA I R2 P r := ⟨hR2, by rw [eR2, up_s], h3⟩
  obtain ⟨I1, e1, p1, f1⟩ := a_take (J := J2) (c := 258) hR2 ht hp (by decide)
  unfold z_X4_answer
  simp only [let_N, sR_N, h3.1, min60 (rwL_le P r), b1_N, sJ_N, ← eR2, ← eJ2, rA_55_0 hR2, kA_48, ck_N, e1, b2_N]
  cases q : isC b n 258 (0, 0, -1) with
  | true =>
    rw [q, if_pos rfl] at p1
    have eS : qS1 b n = adv (0, 0, -1) := by unfold qS1; rw [if_pos q]
    rw [eS] at hA
    obtain ⟨I3, e3, p3, f3⟩ := a_b47 (y2 := bI true) hR2 hr ht p1 (qA_f hr hq f1) hA
    refine ⟨I3, ?_, p3, f1.trans f3⟩
    rw [if_neg (show ¬ bI true = 0 by decide), e3, if_neg (show ¬ bI true = 0 by decide), if_pos rfl]
  | false =>
    rw [q, if_neg (by decide)] at p1
    have eS : qS1 b n = exC b n 259 (0, 0, -1) := by unfold qS1; rw [if_neg (by rw [q]; decide)]
    rw [eS] at hA
    obtain ⟨I2, e2, p2, f2⟩ := a_expC (J := J2) (c := 259) hR2 ht p1 (by decide)
    obtain ⟨I3, e3, p3, f3⟩ := a_b47 (y2 := bI false) hR2 hr ht p2 (qA_f hr hq (f1.trans f2)) hA
    refine ⟨I3, ?_, p3, f1.trans (f2.trans f3)⟩
    rw [if_pos (show bI false = 0 from rfl)]
    simp only [e2, b1_N]
    rw [e3, if_pos (show bI false = 0 from rfl), if_neg (show ¬ false = true by decide)]
theorem b_b35 {τ S1 : PS} (hr : r < 10) (ht : tkc b n N) (hp : psB I' b n τ) (hS : S1 = if τ.2.1 = 0 then adv τ else τ) (hq : qB I' P r ask) (h44 : I' 0 44 = nI 0) (hN : σ'.1 ≤ N) (hB : FB (fun h a => z_X12_readTest TB (z_X12_readFact TB 40) h a) b n P r 0 S1 σ' sem) : ∃ I1 v, z_X12_readQuestion_b35 TB 0 (I', J', rB) = some (v, (I1, J', rB)) ∧ psB I1 b n (qFin b n σ') ∧ frQ I' I1 ∧ ((qFin b n σ').2.1 = 0 → ∀ k, ask = nI k → k < rwL P r → v = bI (sem k)) := by
  have pas : ∃ I1, z_X12_pass TB (I', J', rB) 0 = some (I1, J', rB) ∧ psB I1 b n S1 ∧ gF I' I1 := by
    by_cases c : τ.2.1 = 0
    · rw [if_pos c] at hS
      rw [hS]
      exact b_pass0 ht hp c
    · rw [if_neg c] at hS
      rw [hS]
      exact ⟨I', b_passN hp c, hp, gF.rf⟩
  obtain ⟨I1, e1, p1, g1⟩ := pas
  obtain ⟨I2, v, e2, p2, k2, g2, hv, hw⟩ := hB I1 J' ask p1 (qB_g hq g1) ((g1 _ _ (by omega)).trans h44)
  have e2' : z_X12_readTest TB (z_X12_readFact TB 40) (I1, J', rB) 0 = some (v, (I2, J', rB)) := e2
  have h41 : I2 0 41 = σ'.2.1 := p2.2.2.1
  unfold z_X12_readQuestion_b35
  simp only [e1, b1_N, e2', b2_N, h41, decide_eq_true hv, ck_N]
  by_cases c : σ'.2.1 = 0
  · have h38 : I2 0 38 = nI (kd b n (tS b n σ'.1)) := (p2.2.2.2.1 c).1
    have cn := (cd_num (b := b) (n := n) (s := tS b n σ'.1) ht.1).2
    rw [if_pos c, h38]
    by_cases c2 : kd b n (tS b n σ'.1) = 0
    · have q : isC b n 257 σ' = true := by unfold isC; rw [decide_eq_true_eq]; exact ⟨c, cn.mpr c2⟩
      have eF : qFin b n σ' = σ' := by unfold qFin; rw [if_pos q]
      rw [eF]
      refine ⟨I2, v, ?_, p2, g1.q.trans g2.q, hw⟩
      rw [c2, if_pos (show nI 0 = 0 from rfl)]
    · have q : isC b n 257 σ' = false := by unfold isC; rw [decide_eq_false_iff_not]; exact fun z => c2 (cn.mp z.2)
      have eF : qFin b n σ' = flw b n 1 σ' := by unfold qFin; rw [if_neg (by rw [q]; decide)]
      obtain ⟨I3, e3, p3, g3⟩ := b_wrongK (J := J') (k := 1) p2 (by decide)
      rw [eF]
      refine ⟨I3, v, ?_, p3, g1.q.trans (g2.q.trans g3.q), fun z => absurd z (flw_nz (by decide))⟩
      rw [if_neg (show ¬ nI (kd b n (tS b n σ'.1)) = 0 from fun z => c2 ((nI_eq (b := 0) (by rcases kd_le b n (tS b n σ'.1) with y | y | y | y <;> omega) (by omega)).mp z)), e3, b1_N]
  · have eF : qFin b n σ' = σ' := by unfold qFin; rw [isC_n c, if_neg (by decide), flw_n c]
    rw [eF]
    refine ⟨I2, v, ?_, p2, g1.q.trans g2.q, hw⟩
    rw [if_neg c]
theorem b_quest (hr : r < 10) (ht : tkc b n N) (hg : gdQ I' b n P r) (ha : ask = -1 ∨ ∃ k, k < rwL P r ∧ ask = nI k) (hN : σ'.1 ≤ N) (hB : FB (fun h a => z_X12_readTest TB (z_X12_readFact TB 40) h a) b n P r 0 (qS1 b n) σ' sem) : ∃ I1 v, z_X12_readQuestion TB (I', J', rB) 0 (nI n) ask = some (v, (I1, J', rB)) ∧ psB I1 b n (qFin b n σ') ∧ frQ I' I1 ∧ ((qFin b n σ').2.1 = 0 → ∀ k, ask = nI k → k < rwL P r → v = bI (sem k)) := by
  obtain ⟨I0, e0⟩ : ∃ z, z = fh_up I' 0 48 ask := ⟨_, rfl⟩
  have o0 : ∀ b j, ¬ (b = 0 ∧ j = 48) → I0 b j = I' b j := fun b j z => by rw [e0]; simp only [fh_up, z, if_false]
  have f0 : frQ I' I0 := fun b j z => o0 b j (by omega)
  have g0 := gdQ_f hg f0
  obtain ⟨I1, e1, p1, h44, o1⟩ := b_opens (I' := I0) (J' := J') (n := n) ht.1 ht.2.1 g0.2.2
  have f1 : frQ I0 I1 := fun b j z => o1 b j (by omega)
  have g1 := gdQ_f g0 f1
  have hq : qB I1 P r ask := ⟨g1.1, g1.2.1, by rw [o1 _ _ (by omega), e0, up_s], ha⟩
  have w0 : z_X12_isWord TB (I1, J', rB) 0 0 = some (bI (isC b n 258 (0, 0, -1))) := b_isW ht p1 (by decide)
  have w1 : z_X12_isWord TB (I1, J', rB) 0 1 = some (bI (isC b n 259 (0, 0, -1))) := b_isW ht p1 (by decide)
  unfold z_X12_readQuestion
  simp only [let_N, sI_N, ← e0, e1, b1_N, w0, w1]
  cases q : isC b n 258 (0, 0, -1) with
  | true =>
    obtain ⟨I2, v, e2, p2, f2, hw⟩ := b_b35 (J' := J') (τ := (0, 0, -1)) hr ht p1 (by unfold qS1; rw [if_pos q]; exact (if_pos rfl).symm) hq h44 hN hB
    refine ⟨I2, v, ?_, p2, f0.trans (f1.trans f2), hw⟩
    rw [if_neg (show ¬ bI true = 0 by decide), e2]
  | false =>
    have qn : ¬ isC b n 258 (0, 0, -1) = true := by rw [q]; decide
    rw [if_pos (show bI false = 0 from rfl)]
    cases q1 : isC b n 259 (0, 0, -1) with
    | true =>
      obtain ⟨I2, v, e2, p2, f2, hw⟩ := b_b35 (J' := J') (τ := (0, 0, -1)) hr ht p1 (by unfold qS1 exC; rw [if_neg qn, if_pos q1]; exact (if_pos rfl).symm) hq h44 hN hB
      refine ⟨I2, v, ?_, p2, f0.trans (f1.trans f2), hw⟩
      rw [if_neg (show ¬ bI true = 0 by decide), e2]
    | false =>
      have qn1 : ¬ isC b n 259 (0, 0, -1) = true := by rw [q1]; decide
      obtain ⟨I3, e3, p3, g3⟩ := b_wrongK (J := J') (k := 1) p1 (by decide)
      obtain ⟨I2, v, e2, p2, f2, hw⟩ := b_b35 (J' := J') (τ := flw b n 1 (0, 0, -1)) hr ht p3 (by unfold qS1 exC; rw [if_neg qn, if_neg qn1, if_neg (flw_nz (by decide))]) (qB_g hq g3) ((g3 _ _ (by omega)).trans h44) hN hB
      refine ⟨I2, v, ?_, p2, f0.trans (f1.trans (g3.q.trans f2)), hw⟩
      rw [if_pos (show bI false = 0 from rfl), e3, b1_N, e2]
end
