/-! a row told in words: the loops -/
def isM (b : Nat → Nat) (n : Nat) (σ : PS) : Bool := isC b n 59 σ || isC b n 44 σ
theorem isM_lt {b : Nat → Nat} {n N : Nat} {σ : PS} (ht : tkc b n N) (hN : σ.1 ≤ N) (h : isM b n σ = true) : σ.1 < N ∧ σ.2.1 = 0 := by
  unfold isM at h
  rw [Bool.or_eq_true] at h
  rcases h with h | h
  · exact ⟨isC_lt ht (by decide) hN h, isC_0 h⟩
  · exact ⟨isC_lt ht (by decide) hN h, isC_0 h⟩
section
variable {I I' : Nat → Nat → Int32} {J J' : Nat → Nat → Int64} {R : Nat → Nat → Option Nat} {b : Nat → Nat} {n N : Nat} {σ : PS} {a g : Nat} {o : Bool}
theorem a_mark7 (hR : RA R) (ht : tkc b n N) (h : psA I b n N σ) : ∃ I1, z_X7_takeMark SA (I, J, R) 53 = some (bI (isM b n σ), (I1, J, R)) ∧ psA I1 b n N (if isM b n σ = true then adv σ else σ) ∧ fA5 I I1 := by
  obtain ⟨I1, e1, p1, f1⟩ := a_take (J := J) (c := 59) hR ht h (by decide)
  unfold z_X7_takeMark isM
  simp only [rA_53_0 hR, b1_N, kA_48, ck_N, e1, b2_N]
  cases q : isC b n 59 σ with
  | true =>
    rw [q, if_pos rfl] at p1
    rw [if_neg (show ¬ bI true = 0 by decide), Bool.true_or, if_pos rfl]
    exact ⟨I1, rfl, p1, f1⟩
  | false =>
    rw [q, if_neg (by decide)] at p1
    obtain ⟨I2, e2, p2, f2⟩ := a_take (J := J) (c := 44) hR ht p1 (by decide)
    rw [if_pos (show bI false = 0 from rfl), e2, b2_N, Bool.false_or]
    refine ⟨I2, ?_, p2, f1.trans f2⟩
    cases isC b n 44 σ <;> rfl
theorem b_isNx (ht : tkc b n N) (h : psB I' b n σ) (hN : σ.1 ≤ N) : z_X12_isNext TB (I', J', rB) 0 = some (bI (isM b n σ)) := by
  unfold z_X12_isNext isM
  rw [show (59 : Int32) = nI 59 from rfl, show (44 : Int32) = nI 44 from rfl, b_isS ht h (by decide) hN, b1_N, b_isS ht h (by decide) hN, b1_N]
  cases isC b n (nI 59) σ <;> cases isC b n (nI 44) σ <;> rfl
theorem t_must (hR : RA R) (ht : tkc b n N) (h : TR I I' b n N σ a g o) {c : Nat} (hc : c < 256) : ∃ I1 I1', z_X10_expect SA (I, J, R) 48 (nI c) = some (I1, J, R) ∧ z_X12_must TB (I', J', rB) 0 (nI c) = some (I1', J', rB) ∧ TR I1 I1' b n N (exC b n (nI c) σ) a g o ∧ fA6 I I1 ∧ fB6 I' I1' := by
  obtain ⟨I1, e1, p1, f1⟩ := a_expC (J := J) (c := nI c) hR ht h.1 (fun q => by
    have := (nI_eq (b := 257) (by omega) (by omega)).mp q
    omega)
  obtain ⟨I1', e1', p1', f1'⟩ := b_mustC (J := J') ht h.2.1 hc h.1.2.2.2.2
  exact ⟨I1, I1', e1, e1', TR_step h p1 p1' f1 f1' (fun q => by
    obtain ⟨q1, q2⟩ := exC_0 q
    rw [q2]; exact ⟨q1, Nat.le_succ _, rfl⟩), f1.s, f1'.s⟩
theorem t_end (hR : RA R) (ht : tkc b n N) (h : TR I I' b n N σ a g o) : ∃ I1 I1' σ', z_X7_parse_b121 SA 53 (I, J, R) = some (I1, J, R) ∧ z_X12_readTold_b103 TB 0 (I', J', rB) = some (I1', J', rB) ∧ TR I1 I1' b n N σ' a g o ∧ fA6 I I1 ∧ fB6 I' I1' := by
  obtain ⟨I1, I1', e1, e1', T, f1, f1'⟩ := t_must (J := J) (J' := J') (c := 93) hR ht h (by decide)
  obtain ⟨τ, eτ⟩ : ∃ z, z = exC b n (nI 93) σ := ⟨_, rfl⟩
  rw [← eτ] at T
  obtain ⟨I2, e2, p2, f2⟩ := a_expE (J := J) hR ht T.1
  have e1a : z_X10_expect SA (I, J, R) 48 93 = some (I1, J, R) := e1
  have e1b : z_X12_must TB (I', J', rB) 0 93 = some (I1', J', rB) := e1'
  have h41 := T.2.1.2.2.1
  unfold z_X7_parse_b121 z_X12_readTold_b103
  simp only [rA_53_0 hR, b1_N, kA_48, ck_N, e1a, e1b, e2, h41]
  by_cases c : τ.2.1 = 0
  · obtain ⟨a1, -⟩ := T.2.1.2.2.2.1 c
    by_cases ck : kd b n (tS b n τ.1) = 0
    · have q : isC b n 257 τ = true := decide_eq_true ⟨c, (cd_num ht.1).2.mpr ck⟩
      rw [q, if_pos rfl] at p2
      rw [if_pos c, if_pos (show I1' 0 38 = 0 by rw [a1, ck]; rfl)]
      exact ⟨I2, I1', τ, rfl, rfl, TR_step T p2 T.2.1 f2 gF.rf (fun z => ⟨z, Nat.le_refl _, rfl⟩), f1.trans f2.s, f1'⟩
    · have q : isC b n 257 τ = false := decide_eq_false (fun z => ck ((cd_num ht.1).2.mp z.2))
      rw [q, if_neg (by decide)] at p2
      obtain ⟨I3, e3, p3, f3⟩ := b_wrongK (J := J') (k := 1) T.2.1 one0
      have k0 : ¬ I1' 0 38 = 0 := by
        rw [a1]
        rcases kd_le b n (tS b n τ.1) with z | z | z | z
        · exact absurd z ck
        all_goals (rw [z]; decide)
      rw [if_pos c, if_neg k0, e3, b1_N]
      refine ⟨I2, I3, flw b n 1 τ, rfl, rfl, TR_step T p2 p3 f2 f3 (fun z => ?_), f1.trans f2.s, f1'.trans f3.s⟩
      rw [flw_0 c] at z; exact absurd z one0
  · have q : isC b n 257 τ = false := isC_n c
    rw [q, if_neg (by decide), flw_n c] at p2
    rw [if_neg c]
    exact ⟨I2, I1', τ, rfl, rfl, TR_step T p2 T.2.1 f2 gF.rf (fun z => ⟨z, Nat.le_refl _, rfl⟩), f1.trans f2.s, f1'⟩
theorem sg_id (v : Nat) (h1 : 1 ≤ v) (h2 : v ≤ 9999) : -9999 ≤ (id (nI v)).toInt ∧ 1 ≤ (id (nI v)).toInt := by
  show -9999 ≤ (nI v).toInt ∧ 1 ≤ (nI v).toInt
  rw [nI_toInt (by omega)]; omega
theorem t_br (hR : RA R) (ht : tkc b n N) : ∀ (m fuel fuel' : Nat) (I I' : Nat → Nat → Int32) (σ : PS) (g y : Nat), m < fuel → m < fuel' → (σ.2.1 = 0 → N - σ.1 ≤ m ∧ 2 * (y + 1) ≤ σ.1) → 1 ≤ g → TR I I' b n N σ a g true →
    ∃ I1 I1' σ' g', z_X7_parseBrackets_b14 SA 53 fuel (I, J, R) (nI y) = some (I1, J, R) ∧ z_X12_readAgainOnes_b21 TB 0 fuel' (I', J', rB) = some (I1', J', rB) ∧ TR I1 I1' b n N σ' a g' true ∧ 1 ≤ g' ∧ (σ'.2.1 = 0 → σ.2.1 = 0 ∧ σ.1 < σ'.1) ∧ fA6 I I1 ∧ fB6 I' I1' := by
  have n200 := ht.2.1
  have Nn := ht.2.2.1
  intro m
  induction m with
  | zero =>
    intro fuel fuel' I I' σ g y hf hf' hm hg h
    obtain ⟨f, rfl⟩ : ∃ f, fuel = f + 1 := ⟨fuel - 1, by omega⟩
    obtain ⟨f', rfl⟩ : ∃ f, fuel' = f + 1 := ⟨fuel' - 1, by omega⟩
    have hN := h.1.2.2.2.2
    have q : isM b n σ = false := by
      cases q : isM b n σ with
      | false => rfl
      | true => obtain ⟨q1, q2⟩ := isM_lt ht hN q; have := hm q2; omega
    obtain ⟨I1, e1, p1, f1⟩ := a_mark7 (J := J) hR ht h.1
    rw [q, if_neg (by decide)] at p1
    have T1 := TR_step h p1 h.2.1 f1 gF.rf (fun z => ⟨z, Nat.le_refl _, rfl⟩)
    obtain ⟨I2, I2', e2, e2', T2, f2, f2'⟩ := t_must (J := J) (J' := J') (c := 41) hR ht h (by decide)
    obtain ⟨I3, I3', e3, e3', T3, f3, f3'⟩ := t_must (J := J) (J' := J') (c := 41) hR ht T1 (by decide)
    have e2a : z_X10_expect SA (I, J, R) 48 41 = some (I2, J, R) := e2
    have e2b : z_X12_must TB (I', J', rB) 0 41 = some (I2', J', rB) := e2'
    have e3a : z_X10_expect SA (I1, J, R) 48 41 = some (I3, J, R) := e3
    have e3b : z_X12_must TB (I', J', rB) 0 41 = some (I3', J', rB) := e3'
    have fin : (exC b n (nI 41) σ).2.1 = 0 → σ.2.1 = 0 ∧ σ.1 < (exC b n (nI 41) σ).1 := fun z => by
      obtain ⟨z1, z2⟩ := exC_0 z
      rw [z2]; exact ⟨z1, Nat.lt_succ_self _⟩
    rw [z_X7_parseBrackets_b14, z_X12_readAgainOnes_b21, b_isNx ht h.2.1 hN, b1_N, q, if_pos (show bI false = 0 from rfl)]
    by_cases c : (200 : Int32) ≤ nI y
    · rw [if_pos c, e2b, b1_N]
      simp only [rA_53_0 hR, b1_N, kA_48, ck_N, e2a]
      exact ⟨I2, I2', _, g, rfl, rfl, T2, hg, fin, f2, f2'⟩
    · rw [if_neg c, e1, b2_N, q, if_pos (show bI false = 0 from rfl), e3b, b1_N]
      simp only [rA_53_0 hR, b1_N, kA_48, ck_N, e3a]
      exact ⟨I3, I3', _, g, rfl, rfl, T3, hg, fin, f1.s.trans f3, f3'⟩
  | succ m ih =>
    intro fuel fuel' I I' σ g y hf hf' hm hg h
    obtain ⟨f, rfl⟩ : ∃ f, fuel = f + 1 := ⟨fuel - 1, by omega⟩
    obtain ⟨f', rfl⟩ : ∃ f, fuel' = f + 1 := ⟨fuel' - 1, by omega⟩
    have hN := h.1.2.2.2.2
    obtain ⟨I1, e1, p1, f1⟩ := a_mark7 (J := J) hR ht h.1
    rw [z_X7_parseBrackets_b14, z_X12_readAgainOnes_b21, b_isNx ht h.2.1 hN, b1_N]
    cases q : isM b n σ with
    | false =>
      rw [q, if_neg (by decide)] at p1
      have T1 := TR_step h p1 h.2.1 f1 gF.rf (fun z => ⟨z, Nat.le_refl _, rfl⟩)
      obtain ⟨I2, I2', e2, e2', T2, f2, f2'⟩ := t_must (J := J) (J' := J') (c := 41) hR ht h (by decide)
      obtain ⟨I3, I3', e3, e3', T3, f3, f3'⟩ := t_must (J := J) (J' := J') (c := 41) hR ht T1 (by decide)
      have e2a : z_X10_expect SA (I, J, R) 48 41 = some (I2, J, R) := e2
      have e2b : z_X12_must TB (I', J', rB) 0 41 = some (I2', J', rB) := e2'
      have e3a : z_X10_expect SA (I1, J, R) 48 41 = some (I3, J, R) := e3
      have e3b : z_X12_must TB (I', J', rB) 0 41 = some (I3', J', rB) := e3'
      have fin : (exC b n (nI 41) σ).2.1 = 0 → σ.2.1 = 0 ∧ σ.1 < (exC b n (nI 41) σ).1 := fun z => by
        obtain ⟨z1, z2⟩ := exC_0 z
        rw [z2]; exact ⟨z1, Nat.lt_succ_self _⟩
      rw [if_pos (show bI false = 0 from rfl)]
      by_cases c : (200 : Int32) ≤ nI y
      · rw [if_pos c, e2b, b1_N]
        simp only [rA_53_0 hR, b1_N, kA_48, ck_N, e2a]
        exact ⟨I2, I2', _, g, rfl, rfl, T2, hg, fin, f2, f2'⟩
      · rw [if_neg c, e1, b2_N, q, if_pos (show bI false = 0 from rfl), e3b, b1_N]
        simp only [rA_53_0 hR, b1_N, kA_48, ck_N, e3a]
        exact ⟨I3, I3', _, g, rfl, rfl, T3, hg, fin, f1.s.trans f3, f3'⟩
    | true =>
      obtain ⟨q1, q2⟩ := isM_lt ht hN q
      obtain ⟨m1, m2⟩ := hm q2
      rw [q, if_pos rfl] at p1
      obtain ⟨I1', e1', p1', f1'⟩ := b_pass0 (J := J') ht h.2.1 q2
      have T1 := TR_step h p1 p1' f1 f1' (fun z => ⟨q2, Nat.le_succ _, rfl⟩)
      have d7 := (h.2.2.2.2.2 q2).2.2.2.2.2.2.1
      obtain ⟨Ia, I2, v, Ib, I2', v', e2, e3, e2', e3', T2, f2, f2'⟩ := t_num (J := J) (J' := J') (L := 1) hR ht T1 (by omega) (by omega) id (fun _ => by show _ ≤ σ.1 + 1; omega) (fun v h1 h2 => ⟨fun _ => (sg_id v h1 h2).1, fun _ => (sg_id v h1 h2).2⟩)
      have hfl : (fgs b n 1 (adv σ)).2.1 = 0 → fgs b n 1 (adv σ) = adv (adv σ) := fun z => (fgs_0 z).2.2
      obtain ⟨I3, I3', σ', g', e4, e4', T3, hg', hs', f3, f3'⟩ := ih f f' I2 I2' (fgs b n 1 (adv σ)) (g + 1) (y + 1) (by omega) (by omega) (fun z => by
        rw [hfl z]
        show N - (σ.1 + 1 + 1) ≤ m ∧ 2 * (y + 1 + 1) ≤ σ.1 + 1 + 1
        omega) (by omega) T2
      have c : ¬ (200 : Int32) ≤ nI y := nI_ge (b := 200) (by omega) (by omega)
      have e2a : z_X10_takeFigures SA (I1, J, R) 48 1 = some (v, (Ia, J, R)) := e2
      have e2b : z_X12_number TB (I1', J', rB) 0 1 9999 = some (v', (Ib, J', rB)) := e2'
      have e3a : z_X7_keep SA (Ia, J, R) 53 v = some (I2, J, R) := e3
      have e3b : z_X12_keepsTerm TB (Ib, J', rB) 0 v' = some (I2', J', rB) := e3'
      refine ⟨I3, I3', σ', g', ?_, ?_, T3, hg', fun z => ?_, f1.s.trans (f2.trans f3), f1'.s.trans (f2'.trans f3')⟩
      · rw [if_neg c, e1, b2_N, q, if_neg (show ¬ bI true = 0 by decide)]
        simp only [rA_53_0 hR, b1_N, kA_48, ck_N, e2a, b2_N, e3a, let_N, nI_1]
        exact e4
      · rw [if_neg (show ¬ bI true = 0 by decide), e1', b1_N, e2b, b2_N, e3b, b1_N]
        exact e4'
      · obtain ⟨z1, z2⟩ := hs' z
        rw [hfl z1] at z2
        exact ⟨q2, by have : σ.1 + 1 + 1 < σ'.1 := z2; omega⟩
end
