/-! a row told in words: the whole reading -/
section
variable {I I' : Nat → Nat → Int32} {J J' : Nat → Nat → Int64} {R : Nat → Nat → Option Nat} {b : Nat → Nat} {n N : Nat} {σ : PS} {a g : Nat}
def TE (I1 I1' : Nat → Nat → Int32) (b : Nat → Nat) (n N : Nat) : Prop := ∃ σ a g o, TR I1 I1' b n N σ a g o ∧ 1 ≤ a ∧ (o = true → 1 ≤ g) ∧ (o = false → g = 0)
/-- behind the brackets -/
theorem t_out {f f' y : Nat} (hR : RA R) (ht : tkc b n N) (h : TR I I' b n N σ a g true) (hg : 1 ≤ g) : ∃ I1 I1', z_X7_parse_b54 SA 53 (f + 1) (I, J, R) (nI y) = some (I1, J, R) ∧ z_X12_readTold_b54 TB 0 (f' + 1) (I', J', rB) = some (I1', J', rB) ∧ TE I1 I1' b n N ∧ fA6 I I1 ∧ fB6 I' I1' := by
  obtain ⟨I1, I1', σ', e1, e1', T, f1, f1'⟩ := t_end (J := J) (J' := J') hR ht h
  obtain ⟨a1, a2⟩ := h.2.2.2.2.1 rfl
  have h2 : ¬ I 53 2 = -1 := by
    rw [h.2.2.2.1, if_pos rfl]
    intro e
    have := congrArg Int32.toInt e
    rw [nI_toInt (by omega)] at this
    have h1 : (-1 : Int32).toInt = -1 := rfl
    omega
  refine ⟨I1, I1', ?_, ?_, ⟨σ', a, g, true, T, a1, fun _ => hg, fun q => by cases q⟩, f1, f1'⟩
  · rw [z_X7_parse_b54]
    simp only [h2, if_false, e1]
    split <;> rfl
  · rw [z_X12_readTold_b54, b_isNx ht h.2.1 h.1.2.2.2.2, b1_N]
    cases q : isM b n σ with
    | false => rw [if_pos (show bI false = 0 from rfl)]; exact e1'
    | true =>
      have q2 := (isM_lt ht h.1.2.2.2.2 q).2
      have h44 := (h.2.2.2.2.2 q2).2.2.2.2.2.1
      rw [if_neg (show ¬ bI true = 0 by decide), if_neg (show ¬ I' 0 44 = 0 by rw [h44]; decide)]
      exact e1'
theorem t_loop (hR : RA R) (ht : tkc b n N) : ∀ (m fuel fuel' : Nat) (I I' : Nat → Nat → Int32) (σ : PS) (a y : Nat), m + 1 < fuel → m + 1 < fuel' → 1 ≤ a → (σ.2.1 = 0 → N - σ.1 ≤ m ∧ 2 * (y + 1) ≤ σ.1) → TR I I' b n N σ a 0 false →
    ∃ I1 I1', z_X7_parse_b54 SA 53 fuel (I, J, R) (nI y) = some (I1, J, R) ∧ z_X12_readTold_b54 TB 0 fuel' (I', J', rB) = some (I1', J', rB) ∧ TE I1 I1' b n N ∧ fA6 I I1 ∧ fB6 I' I1' := by
  have n200 := ht.2.1
  have Nn := ht.2.2.1
  intro m
  induction m with
  | zero =>
    intro fuel fuel' I I' σ a y hf hf' ha hm h
    obtain ⟨f, rfl⟩ : ∃ f, fuel = f + 1 := ⟨fuel - 1, by omega⟩
    obtain ⟨f', rfl⟩ : ∃ f, fuel' = f + 1 := ⟨fuel' - 1, by omega⟩
    have hN := h.1.2.2.2.2
    have q : isM b n σ = false := by
      cases q : isM b n σ with
      | false => rfl
      | true => obtain ⟨q1, q2⟩ := isM_lt ht hN q; have := hm q2; omega
    obtain ⟨I1, e1, p1, f1⟩ := a_mark7 (J := J) hR ht h.1
    rw [q, if_neg (by decide)] at p1
    have T1 := TR_step h p1 h.2.1 f1 gF.rf (fun z => ⟨z, Nat.le_refl _, rfl⟩)
    obtain ⟨I2, I2', σ2, e2, e2', T2, f2, f2'⟩ := t_end (J := J) (J' := J') hR ht h
    obtain ⟨I3, I3', σ3, e3, e3', T3, f3, f3'⟩ := t_end (J := J) (J' := J') hR ht T1
    have h2 : I 53 2 = -1 := h.2.2.2.1
    rw [z_X7_parse_b54, z_X12_readTold_b54, b_isNx ht h.2.1 hN, b1_N, q, if_pos (show bI false = 0 from rfl)]
    by_cases c : (200 : Int32) ≤ nI y
    · rw [if_pos c]
      exact ⟨I2, I2', e2, e2', ⟨σ2, a, 0, false, T2, ha, (fun z => by cases z), fun _ => rfl⟩, f2, f2'⟩
    · rw [if_neg c]
      simp only [h2, if_true, e1, b2_N, q]
      rw [if_pos (show bI false = 0 from rfl)]
      exact ⟨I3, I3', e3, e3', ⟨σ3, a, 0, false, T3, ha, (fun z => by cases z), fun _ => rfl⟩, f1.s.trans f3, f3'⟩
  | succ m ih =>
    intro fuel fuel' I I' σ a y hf hf' ha hm h
    obtain ⟨f, rfl⟩ : ∃ f, fuel = f + 1 := ⟨fuel - 1, by omega⟩
    obtain ⟨f', rfl⟩ : ∃ f, fuel' = f + 1 := ⟨fuel' - 1, by omega⟩
    have hN := h.1.2.2.2.2
    have h2 : I 53 2 = -1 := h.2.2.2.1
    obtain ⟨I1, e1, p1, f1⟩ := a_mark7 (J := J) hR ht h.1
    rw [z_X7_parse_b54, z_X12_readTold_b54, b_isNx ht h.2.1 hN, b1_N]
    cases q : isM b n σ with
    | false =>
      rw [q, if_neg (by decide)] at p1
      have T1 := TR_step h p1 h.2.1 f1 gF.rf (fun z => ⟨z, Nat.le_refl _, rfl⟩)
      obtain ⟨I2, I2', σ2, e2, e2', T2, f2, f2'⟩ := t_end (J := J) (J' := J') hR ht h
      obtain ⟨I3, I3', σ3, e3, e3', T3, f3, f3'⟩ := t_end (J := J) (J' := J') hR ht T1
      rw [if_pos (show bI false = 0 from rfl)]
      by_cases c : (200 : Int32) ≤ nI y
      · rw [if_pos c]
        exact ⟨I2, I2', e2, e2', ⟨σ2, a, 0, false, T2, ha, (fun z => by cases z), fun _ => rfl⟩, f2, f2'⟩
      · rw [if_neg c]
        simp only [h2, if_true, e1, b2_N, q]
        rw [if_pos (show bI false = 0 from rfl)]
        exact ⟨I3, I3', e3, e3', ⟨σ3, a, 0, false, T3, ha, (fun z => by cases z), fun _ => rfl⟩, f1.s.trans f3, f3'⟩
    | true =>
      obtain ⟨q1, q2⟩ := isM_lt ht hN q
      obtain ⟨m1, m2⟩ := hm q2
      rw [q, if_pos rfl] at p1
      obtain ⟨I1', e1', p1', f1'⟩ := b_pass0 (J := J') ht h.2.1 q2
      have T1 := TR_step h p1 p1' f1 f1' (fun z => ⟨q2, Nat.le_succ _, rfl⟩)
      have d7 := (h.2.2.2.2.2 q2).2.2.2.2.2.2.1
      have h44 : I' 0 44 = 0 := (h.2.2.2.2.2 q2).2.2.2.2.2.1
      have c : ¬ (200 : Int32) ≤ nI y := nI_ge (b := 200) (by omega) (by omega)
      have n2 : (adv σ).2.1 = 0 := q2
      have eb := b_isS (J := J') (c := 40) ht p1' (by decide) p1.2.2.2.2
      have eb' : z_X12_isSign TB (I1', J', rB) 0 40 = some (bI (isC b n 40 (adv σ))) := eb
      obtain ⟨I2, e2, p2, f2⟩ := a_take (J := J) (c := 40) hR ht p1 (by decide)
      rw [if_neg (show ¬ bI true = 0 by decide), if_neg c]
      simp only [h2, if_true, e1, b2_N, q, h44, e1', b1_N, eb', rA_53_0 hR, kA_48, ck_N, e2]
      rw [if_neg (show ¬ bI true = 0 by decide)]
      cases w : isC b n 40 (adv σ) with
      | false =>
        rw [w, if_neg (by decide)] at p2
        have T2 := TR_step T1 p2 p1' f2 gF.rf (fun z => ⟨z, Nat.le_refl _, rfl⟩)
        obtain ⟨Ia, I3, v, Ib, I3', v', g1, g2, g1', g2', T3, f3, f3'⟩ := t_num (J := J) (J' := J') (L := 1) hR ht T2 (by omega) (by omega) id (fun _ => by show _ ≤ σ.1 + 1; omega) (fun v h1 h2 => ⟨fun _ => (sg_id v h1 h2).1, fun _ => (sg_id v h1 h2).2⟩)
        have hfl : (fgs b n 1 (adv σ)).2.1 = 0 → fgs b n 1 (adv σ) = adv (adv σ) := fun z => (fgs_0 z).2.2
        obtain ⟨I4, I4', e4, e4', TT, f4, f4'⟩ := ih f f' I3 I3' (fgs b n 1 (adv σ)) (a + 1) (y + 1) (by omega) (by omega) (by omega) (fun z => by
          rw [hfl z]
          show N - (σ.1 + 1 + 1) ≤ m ∧ 2 * (y + 1 + 1) ≤ σ.1 + 1 + 1
          omega) T3
        have g1a : z_X10_takeFigures SA (I2, J, R) 48 1 = some (v, (Ia, J, R)) := g1
        have g1b : z_X12_number TB (I1', J', rB) 0 1 9999 = some (v', (Ib, J', rB)) := g1'
        have g2a : z_X7_keep SA (Ia, J, R) 53 v = some (I3, J, R) := g2
        have g2b : z_X12_keepsTerm TB (Ib, J', rB) 0 v' = some (I3', J', rB) := g2'
        refine ⟨I4, I4', ?_, ?_, TT, f1.s.trans (f2.s.trans (f3.trans f4)), f1'.s.trans (f3'.trans f4')⟩
        · rw [if_pos (show bI false = 0 from rfl), g1a, b2_N, g2a, b1_N, let_N, nI_1]
          exact e4
        · rw [if_pos (show bI false = 0 from rfl), g1b, b2_N, g2b, b1_N]
          exact e4'
      | true =>
        rw [w, if_pos rfl] at p2
        have hlt := isC_lt ht (by decide) p1.2.2.2.2 w
        obtain ⟨I2', e2', p2', f2'⟩ := b_pass0 (J := J') ht p1' q2
        have T2 := TR_step T1 p2 p2' f2 f2' (fun z => ⟨q2, Nat.le_succ _, rfl⟩)
        -- both note that the brackets are open
        obtain ⟨I3, e3⟩ : ∃ z, z = fh_up I2 53 2 (I2 53 3) := ⟨_, rfl⟩
        obtain ⟨I3', e3'⟩ : ∃ z, z = fh_up I2' 0 44 1 := ⟨_, rfl⟩
        have o3 : ∀ b j, ¬ (b = 53 ∧ j = 2) → I3 b j = I2 b j := fun b j z => by rw [e3]; simp only [fh_up, z, if_false]
        have o3' : ∀ b j, ¬ (b = 0 ∧ j = 44) → I3' b j = I2' b j := fun b j z => by rw [e3']; simp only [fh_up, z, if_false]
        have T3 : TR I3 I3' b n N (adv (adv σ)) a 0 true := by
          obtain ⟨-, -, t3, t2, to, t0⟩ := T2
          obtain ⟨d1, d2, d3, d4, d5, d6, d8, d9⟩ := t0 q2
          refine ⟨psA_k p2 (fun b j z => o3 b j (by omega)), psB_k p2' (fun b j z => o3' b j (by omega)), by rw [o3 _ _ (by omega)]; exact t3, by rw [e3, up_s, t3, if_pos rfl]; rfl, fun _ => ⟨ha, by omega⟩, fun _ => ⟨fun j z1 z2 => ?_, fun j z1 z2 => ?_, fun z => ?_, ?_, ?_, by rw [e3', up_s]; rfl, d8, d9⟩⟩
          · rw [o3 _ _ (by omega), o3' _ _ (by omega)]; exact d1 j z1 z2
          · rw [o3' _ _ (by omega)]; exact d2 j z1 z2
          · rw [o3' _ _ (by omega)]; exact d3 z
          · rw [o3' _ _ (by omega)]; exact d4
          · rw [o3' _ _ (by omega)]; exact d5
        have fo : fA6 I2 I3 := fun b j _ z _ => o3 b j (by omega)
        have fo' : fB6 I2' I3' := fun b j z _ => o3' b j (by omega)
        obtain ⟨Ia, I4, v, Ib, I4', v', g1, g2, g1', g2', T4, f4, f4'⟩ := t_num (J := J) (J' := J') (L := 1) hR ht T3 (by omega) (by omega) id (fun _ => by show _ ≤ σ.1 + 1 + 1; omega) (fun v h1 h2 => ⟨fun _ => (sg_id v h1 h2).1, fun _ => (sg_id v h1 h2).2⟩)
        have g1a : z_X10_takeFigures SA (I3, J, R) 48 1 = some (v, (Ia, J, R)) := g1
        have g1b : z_X12_number TB (I3', J', rB) 0 1 9999 = some (v', (Ib, J', rB)) := g1'
        have g2a : z_X7_keep SA (Ia, J, R) 53 v = some (I4, J, R) := g2
        have g2b : z_X12_keepsTerm TB (Ib, J', rB) 0 v' = some (I4', J', rB) := g2'
        have hfl : (fgs b n 1 (adv (adv σ))).2.1 = 0 → fgs b n 1 (adv (adv σ)) = adv (adv (adv σ)) := fun z => (fgs_0 z).2.2
        obtain ⟨I5, I5', σ5, g5, e5, e5', T5, hg5, hs5, f5, f5'⟩ := t_br (J := J) (J' := J') (a := a) hR ht N 20000 20000 I4 I4' (fgs b n 1 (adv (adv σ))) 1 0 (by omega) (by omega) (fun z => by
          rw [hfl z]
          show N - (σ.1 + 1 + 1 + 1) ≤ N ∧ 2 * (0 + 1) ≤ σ.1 + 1 + 1 + 1
          omega) (by omega) T4
        obtain ⟨fx, rfl⟩ : ∃ x, f = x + 1 := ⟨f - 1, by omega⟩
        obtain ⟨fx', rfl⟩ : ∃ x, f' = x + 1 := ⟨f' - 1, by omega⟩
        obtain ⟨I6, I6', e6, e6', TT, f6, f6'⟩ := t_out (J := J) (J' := J') (f := fx) (f' := fx') (y := y + 1) hR ht T5 hg5
        have e5a : z_X7_parseBrackets_b14 SA 53 20000 (I4, J, R) 0 = some (I5, J, R) := e5
        have eA : z_X7_parseBrackets SA (I3, J, R) 53 = some (I5, J, R) := by
          unfold z_X7_parseBrackets
          simp only [rA_53_0 hR, b1_N, kA_48, ck_N, g1a, b2_N, g2a]
          exact e5a
        have eB : z_X12_readAgainOnes TB (I1', J', rB) 0 = some (I5', J', rB) := by
          unfold z_X12_readAgainOnes
          rw [e2', b1_N, sI_N, let_N, ← e3', g1b, b2_N, g2b, b1_N]
          exact e5'
        refine ⟨I6, I6', ?_, ?_, TT, f1.s.trans (f2.s.trans (fo.trans (f4.trans (f5.trans f6)))), f1'.s.trans (f2'.s.trans (fo'.trans (f4'.trans (f5'.trans f6'))))⟩
        · rw [if_neg (show ¬ bI true = 0 by decide), sI_N, let_N, ← e3, eA, b1_N, let_N, nI_1]
          exact e6
        · rw [if_neg (show ¬ bI true = 0 by decide), eB, b1_N]
          exact e6'
theorem sg_neg (v : Nat) (h2 : v ≤ 9999) : -9999 ≤ (-(nI v)).toInt := by
  rw [i32_neg' (nI_toInt (n := v) (by omega)) (by omega)]; omega
/-- from the first token on -/
theorem t_parse (hR : RA R) (ht : tkc b n N) (p : psA I b n N (0, 0, -1)) (p' : psB I' b n (0, 0, -1)) (h44 : I' 0 44 = 0) : ∃ I1 I1', z_X7_parse SA (I, J, R) 53 = some (I1, J, R) ∧ z_X12_readTold TB (I', J', rB) 0 = some (I1', J', rB) ∧ TE I1 I1' b n N ∧ fA6 I I1 ∧ fB6 I' I1' := by
  have n200 := ht.2.1
  have Nn := ht.2.2.1
  obtain ⟨Ia, ea⟩ : ∃ z, z = fh_up (fh_up I 53 3 0) 53 2 (-1) := ⟨_, rfl⟩
  obtain ⟨Ia', ea'⟩ : ∃ z, z = fh_up (fh_up I' 0 45 0) 0 46 0 := ⟨_, rfl⟩
  have oa : ∀ b j, b ≠ 53 → Ia b j = I b j := fun b j z => by rw [ea, up_a _ _ _ _ z, up_a _ _ _ _ z]
  have oa' : ∀ b j, ¬ (b = 0 ∧ (j = 45 ∨ j = 46)) → Ia' b j = I' b j := fun b j z => by
    have z1 : ¬ (b = 0 ∧ j = 45) := fun y => z ⟨y.1, Or.inl y.2⟩
    have z2 : ¬ (b = 0 ∧ j = 46) := fun y => z ⟨y.1, Or.inr y.2⟩
    rw [ea']; simp only [fh_up, z1, z2, if_false]
  have T0 : TR Ia Ia' b n N (0, 0, -1) 0 0 false := ⟨psA_k p (fun b j z => oa b j (by omega)), psB_k p' (fun b j z => oa' b j (by omega)), by rw [ea, up_k _ _ _ _ (by decide), up_s]; rfl, by rw [ea, up_s]; rfl, (fun z => by cases z), fun _ => ⟨fun j z => by omega, fun j z1 z2 => by omega, fun z => by omega, by rw [ea', up_k _ _ _ _ (by decide), up_s]; rfl, by rw [ea', up_s]; rfl, by rw [oa' _ _ (by omega)]; exact h44, Nat.le_refl _, rfl⟩⟩
  have fa : fA6 I Ia := fun b j _ z _ => oa b j z
  have fa' : fB6 I' Ia' := fun b j z _ => oa' b j (by omega)
  obtain ⟨I1, I1', e1, e1', T1, f1, f1'⟩ := t_must (J := J) (J' := J') (c := 91) hR ht T0 (by decide)
  have e1a : z_X10_expect SA (Ia, J, R) 48 91 = some (I1, J, R) := e1
  have e1b : z_X12_must TB (Ia', J', rB) 0 91 = some (I1', J', rB) := e1'
  obtain ⟨τ, eτ⟩ : ∃ z, z = exC b n (nI 91) (0, 0, -1) := ⟨_, rfl⟩
  have hτ : τ.2.1 = 0 → 1 ≤ τ.1 := fun z => by
    rw [eτ] at z ⊢
    obtain ⟨z1, z2⟩ := exC_0 z
    rw [z2]; exact Nat.le_refl _
  rw [← eτ] at T1
  obtain ⟨I2, e2, p2, f2⟩ := a_take (J := J) (c := 45) hR ht T1.1 (by decide)
  have eb := b_isS (J := J') (c := 45) ht T1.2.1 (by decide) T1.1.2.2.2.2
  have eb' : z_X12_isSign TB (I1', J', rB) 0 45 = some (bI (isC b n 45 τ)) := eb
  unfold z_X7_parse z_X12_readTold
  simp only [sI_N, let_N, ← ea, ← ea', rA_53_0 hR, b1_N, kA_48, ck_N, e1a, e1b, e2, b2_N, eb']
  cases w : isC b n 45 τ with
  | false =>
    rw [w, if_neg (by decide)] at p2
    have T2 := TR_step T1 p2 T1.2.1 f2 gF.rf (fun z => ⟨z, Nat.le_refl _, rfl⟩)
    obtain ⟨Ib, I3, v, Ic, I3', v', g1, g2, g1', g2', T3, f3, f3'⟩ := t_num (J := J) (J' := J') (L := 0) hR ht T2 (by omega) (by omega) id (fun z => by have := hτ z; omega) (fun v h1 h2 => ⟨fun _ => by show -9999 ≤ (nI v).toInt; rw [nI_toInt (by omega)]; omega, fun z => by omega⟩)
    have g1a : z_X10_takeFigures SA (I2, J, R) 48 0 = some (v, (Ib, J, R)) := g1
    have g1b : z_X12_number TB (I1', J', rB) 0 0 9999 = some (v', (Ic, J', rB)) := g1'
    have g2a : z_X7_keep SA (Ib, J, R) 53 v = some (I3, J, R) := g2
    have g2b : z_X12_keepsTerm TB (Ic, J', rB) 0 v' = some (I3', J', rB) := g2'
    obtain ⟨I4, I4', e4, e4', TT, f4, f4'⟩ := t_loop (J := J) (J' := J') hR ht N 20000 20000 I3 I3' (fgs b n 0 τ) 1 0 (by omega) (by omega) (by omega) (fun z => by
      obtain ⟨z1, z2, z3⟩ := fgs_0 z
      have := hτ z1
      rw [z3]
      show N - (τ.1 + 1) ≤ N ∧ 2 * (0 + 1) ≤ τ.1 + 1
      omega) T3
    refine ⟨I4, I4', ?_, ?_, TT, fa.trans (f1.trans (f2.s.trans (f3.trans f4))), fa'.trans (f1'.trans (f3'.trans f4'))⟩
    · rw [g1a, b2_N, if_pos (show bI false = 0 from rfl), g2a, b1_N]
      exact e4
    · rw [if_pos (show bI false = 0 from rfl)]
      unfold z_X12_readTold_b31
      rw [g1b, b2_N, if_pos (show bI false = 0 from rfl), g2b, b1_N]
      exact e4'
  | true =>
    rw [w, if_pos rfl] at p2
    have q2 := isC_0 w
    obtain ⟨I2', e2', p2', f2'⟩ := b_pass0 (J := J') ht T1.2.1 q2
    have T2 := TR_step T1 p2 p2' f2 f2' (fun z => ⟨q2, Nat.le_succ _, rfl⟩)
    obtain ⟨Ib, I3, v, Ic, I3', v', g1, g2, g1', g2', T3, f3, f3'⟩ := t_num (J := J) (J' := J') (L := 0) hR ht T2 (by omega) (by omega) (fun v => -v) (fun z => by show _ ≤ τ.1 + 1; omega) (fun v h1 h2 => ⟨fun _ => sg_neg v h2, fun z => by omega⟩)
    have g1a : z_X10_takeFigures SA (I2, J, R) 48 0 = some (v, (Ib, J, R)) := g1
    have g1b : z_X12_number TB (I2', J', rB) 0 0 9999 = some (v', (Ic, J', rB)) := g1'
    have g2a : z_X7_keep SA (Ib, J, R) 53 (-v) = some (I3, J, R) := g2
    have g2b : z_X12_keepsTerm TB (Ic, J', rB) 0 (-v') = some (I3', J', rB) := g2'
    obtain ⟨I4, I4', e4, e4', TT, f4, f4'⟩ := t_loop (J := J) (J' := J') hR ht N 20000 20000 I3 I3' (fgs b n 0 (adv τ)) 1 0 (by omega) (by omega) (by omega) (fun z => by
      obtain ⟨z1, z2, z3⟩ := fgs_0 z
      rw [z3]
      show N - (τ.1 + 1 + 1) ≤ N ∧ 2 * (0 + 1) ≤ τ.1 + 1 + 1
      omega) T3
    refine ⟨I4, I4', ?_, ?_, TT, fa.trans (f1.trans (f2.s.trans (f3.trans f4))), fa'.trans (f1'.trans (f2'.s.trans (f3'.trans f4')))⟩
    · rw [g1a, b2_N, if_neg (show ¬ bI true = 0 by decide), g2a, b1_N]
      exact e4
    · rw [if_neg (show ¬ bI true = 0 by decide), e2', b1_N]
      unfold z_X12_readTold_b31
      rw [g1b, b2_N, if_neg (show ¬ bI true = 0 by decide), g2b, b1_N]
      exact e4'
end
