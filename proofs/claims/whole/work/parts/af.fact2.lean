/-! a question: facts, both, the whole -/
section
variable {J : Nat → Nat → Int64} {R : Nat → Nat → Option Nat} {b : Nat → Nat} {n N : Nat} {P : Rcp} {r : Nat}
theorem f_cmp {f d : Nat} {σ : PS} (hr : r < 10) (ht : tkc b n N) (hσ : σ.1 ≤ N) (h4 : isC b n 262 σ = false) (h123 : isC b n 123 σ = false) : FD (z_X4_parseFact SA (f + 1)) (z_X12_readFact TB (f + 1)) J R b n N P r d σ := by
  refine ⟨cqS b n σ, cqV b n σ (rwG P r) (rwL P r), ?_, ?_, stp_cqS ht hσ⟩
  · intro I hp hq
    obtain ⟨I1, m, e, p, g, hm⟩ := a_factC (J := J) (PF := z_X4_parseFact SA f) (x := nI d) hr ht hp hq h4 h123
    exact ⟨I1, m, e, p, g, hm⟩
  · intro I' J' ask hp hq h44
    obtain ⟨I1, v, e, p, g, hv, hw⟩ := b_cmp (J' := J') (PF := z_X12_readFact TB f) hr ht hσ hp hq h4 h123
    exact ⟨I1, v, e, p, (g _ _ (by omega)).trans h44, g.s4, hv, hw⟩
theorem b_not {PF : fh_H → Nat → Option (Int32 × fh_H)} {I' : Nat → Nat → Int32} {J' : Nat → Nat → Int64} {σ : PS} (ht : tkc b n N) (hp : psB I' b n σ) (q : isC b n 262 σ = true) : z_X12_readFact_F TB PF (I', J', rB) 0 = fh_b1 (z_X12_goesIn TB (I', J', rB) 0) (fun h40 => fh_b2 (PF h40 0) (fun r42 h43 => fh_let (fh_sI h43 0 44 ((h43.1 0 44) - (1 : Int32))) (fun h45 => if r42 = 0 then (some ((1 : Int32), h45)) else (some ((0 : Int32), h45))))) := by
  have w : z_X12_isWord TB (I', J', rB) 0 4 = some (bI (isC b n 262 σ)) := b_isW ht hp (by decide)
  unfold z_X12_readFact_F
  rw [w, b1_N, q, if_neg (show ¬ bI true = 0 by decide)]
theorem b_brace {PF : fh_H → Nat → Option (Int32 × fh_H)} {I' : Nat → Nat → Int32} {J' : Nat → Nat → Int64} {σ : PS} (ht : tkc b n N) (hσ : σ.1 ≤ N) (hp : psB I' b n σ) (q0 : isC b n 262 σ = false) (q : isC b n 123 σ = true) : z_X12_readFact_F TB PF (I', J', rB) 0 = fh_b1 (z_X12_goesIn TB (I', J', rB) 0) (fun h31 => fh_b2 (z_X12_readTest TB PF h31 0) (fun r33 h34 => fh_b1 (z_X12_must TB h34 0 (125 : Int32)) (fun h36 => fh_let (fh_sI h36 0 44 ((h36.1 0 44) - (1 : Int32))) (fun h38 => fh_ck (decide (r33 = 0 ∨ r33 = 1)) (some (r33, h38)))))) := by
  have w : z_X12_isWord TB (I', J', rB) 0 4 = some (bI (isC b n 262 σ)) := b_isW ht hp (by decide)
  have w2 : z_X12_isSign TB (I', J', rB) 0 123 = some (bI (isC b n 123 σ)) := b_isS (c := 123) ht hp (by decide) hσ
  unfold z_X12_readFact_F
  rw [w, b1_N, q0, if_pos (show bI false = 0 from rfl), w2, b1_N, q, if_neg (show ¬ bI true = 0 by decide)]
theorem f_six {f : Nat} {σ : PS} (hr : r < 10) (ht : tkc b n N) (hσ : σ.1 ≤ N) (h : isC b n 262 σ = true ∨ isC b n 123 σ = true) : FD (z_X4_parseFact SA (f + 2)) (z_X12_readFact TB (f + 2)) J R b n N P r 6 σ := by
  have σ0 : σ.2.1 = 0 := by rcases h with q | q <;> exact isC_0 q
  have st := stp_flw (b := b) (n := n) (k := 3) (N := N) (σ := σ) (by decide) hσ
  have fl : ¬ (flw b n 3 σ).2.1 = 0 := flw_nz (by decide)
  refine ⟨flw b n 3 σ, fun _ => true, ?_, ?_, st⟩
  · intro I hp hq
    obtain ⟨I1, e, p, g⟩ := a_f6 (J := J) (PF := z_X4_parseFact SA (f + 1)) ht hq.1 hp
    exact ⟨I1, 0, (q_fin ht hq.1 hp h).trans e, p, g, fun z => absurd z fl⟩
  · intro I' J' ask hp hq h44
    obtain ⟨I1, e1, p1, k1, g1⟩ := q_goes6 (J' := J') ht hp σ0 h44
    have hq1 := qB_4 hq g1
    have s7 : nI 7 - 1 = nI 6 := rfl
    cases q : isC b n 262 σ with
    | true =>
      obtain ⟨I2, v, e2, p2, g2, hv⟩ := b_factN (J' := J') (f := f) hr ht st.1 p1 hq1 fl
      have k2 : I2 0 44 = nI 7 := (g2 _ _ (by omega)).trans k1
      refine ⟨fh_up I2 0 44 (nI 6), (if v = 0 then 1 else 0), ?_, p44 p2, up_s _ _ _ _, g1.trans (g2.s4.trans g44), ?_, fun z => absurd z fl⟩
      · show z_X12_readFact_F TB (z_X12_readFact TB (f + 1)) (I', J', rB) 0 = _
        rw [b_not ht hp q, e1, b1_N, e2, b2_N]
        simp only [let_N, sI_N, k2, s7]
        by_cases c : v = 0
        · rw [if_pos c, if_pos c]
        · rw [if_neg c, if_neg c]
      · by_cases c : v = 0
        · rw [if_pos c]; exact Or.inr rfl
        · rw [if_neg c]; exact Or.inl rfl
    | false =>
      have q1 := h.resolve_left (by rw [q]; decide)
      obtain ⟨I2, v, e2, p2, g2, hv⟩ := b_testN (J' := J') (f := f) hr ht st.1 p1 hq1 fl
      obtain ⟨I3, e3, p3, g3⟩ := b_mustC (J := J') (c := 125) ht p2 (by decide) st.1
      have e3' : z_X12_must TB (I2, J', rB) 0 125 = some (I3, J', rB) := e3
      have ex : exC b n (nI 125) (flw b n 3 σ) = flw b n 3 σ := by
        unfold exC
        rw [isC_n fl, if_neg (by decide), flw_n fl]
      rw [ex] at p3
      have k3 : I3 0 44 = nI 7 := (g3 _ _ (by omega)).trans ((g2 _ _ (by omega)).trans k1)
      refine ⟨fh_up I3 0 44 (nI 6), v, ?_, p44 p3, up_s _ _ _ _, g1.trans (g2.s4.trans (g3.s4.trans g44)), hv, fun z => absurd z fl⟩
      show z_X12_readFact_F TB (z_X12_readFact TB (f + 1)) (I', J', rB) 0 = _
      rw [b_brace ht hσ hp q q1, e1, b1_N, e2, b2_N, e3', b1_N]
      simp only [let_N, sI_N, k3, s7]
      rw [decide_eq_true hv, ck_N]
theorem f_not {f d : Nat} {σ : PS} (ht : tkc b n N) (hR : RA R) (hall : ∀ i, mbt (J 55 2) i = decide (i < rwL P r)) (hr : r < 10) (hσ : σ.1 ≤ N) (hd : d < 6) (q : isC b n 262 σ = true) (ih : FD (z_X4_parseFact SA f) (z_X12_readFact TB f) J R b n N P r (d + 1) (adv σ)) : FD (z_X4_parseFact SA (f + 1)) (z_X12_readFact TB (f + 1)) J R b n N P r d σ := by
  have σ0 : σ.2.1 = 0 := isC_0 q
  have hl := rwL_le P r
  obtain ⟨σ', sem, hA, hB, st⟩ := ih
  refine ⟨σ', fun i => ! sem i, ?_, ?_, (stp_adv ht (by decide) hσ q).trans st⟩
  · intro I hp hq
    obtain ⟨I1, e1, p1, f1⟩ := a_take (J := J) (c := 262) hR ht hp (by decide)
    rw [if_pos q] at p1
    obtain ⟨I2, m, e2, p2, f2, hm⟩ := hA I1 p1 (qA_f hr hq f1)
    refine ⟨I2, J 55 2 &&& (m ^^^ (-1)), ?_, p2, f1.trans f2, fun z i => ?_⟩
    · show z_X4_parseFact_F SA (z_X4_parseFact SA f) (I, J, R) 55 (nI d) = _
      rw [q_fin ht hR hp (Or.inl q)]
      unfold z_X4_parseFact_b32
      rw [if_pos (d6lt d hd)]
      simp only [rA_55_0 hR, b1_N, kA_48, ck_N, e1, b2_N]
      rw [q, if_neg (show ¬ bI true = 0 by decide), nI_1, e2, b2_N]
    · rw [mbt_and, hall]
      by_cases c : i < rwL P r
      · rw [decide_eq_true c, Bool.true_and, Bool.true_and, mbt_xor, mbt_m1 i (by omega), hm z i, decide_eq_true c, Bool.true_and, Bool.xor_true]
      · rw [decide_eq_false c, Bool.false_and, Bool.false_and]
  · intro I' J' ask hp hq h44
    obtain ⟨I1, e1, p1, k1, g1⟩ := q_goes (J' := J') ht hp σ0 h44 hd
    obtain ⟨I2, v, e2, p2, k2, g2, hv, hw⟩ := hB I1 J' ask p1 (qB_4 hq g1) k1
    refine ⟨fh_up I2 0 44 (nI d), (if v = 0 then 1 else 0), ?_, p44 p2, up_s _ _ _ _, g1.trans (g2.trans g44), ?_, fun z k ek hk => ?_⟩
    · show z_X12_readFact_F TB (z_X12_readFact TB f) (I', J', rB) 0 = _
      rw [b_not ht hp q, e1, b1_N, e2, b2_N]
      simp only [let_N, sI_N, k2, nI_pred]
      by_cases c : v = 0
      · rw [if_pos c, if_pos c]
      · rw [if_neg c, if_neg c]
    · by_cases c : v = 0
      · rw [if_pos c]; exact Or.inr rfl
      · rw [if_neg c]; exact Or.inl rfl
    · rw [hw z k ek hk]
      show (if bI (sem k) = 0 then (1 : Int32) else 0) = bI (! sem k)
      cases sem k with
      | true => rw [if_neg (show ¬ bI true = 0 by decide)]; rfl
      | false => rw [if_pos (show bI false = 0 from rfl)]; rfl
theorem f_brace {f d : Nat} {σ : PS} (ht : tkc b n N) (hR : RA R) (hall : ∀ i, mbt (J 55 2) i = decide (i < rwL P r)) (hr : r < 10) (hσ : σ.1 ≤ N) (hd : d < 6) (q0 : isC b n 262 σ = false) (q : isC b n 123 σ = true) (ih : ∀ σ : PS, σ.1 ≤ N → FD (z_X4_parseFact SA f) (z_X12_readFact TB f) J R b n N P r (d + 1) σ) : FD (z_X4_parseFact SA (f + 1)) (z_X12_readFact TB (f + 1)) J R b n N P r d σ := by
  have σ0 : σ.2.1 = 0 := isC_0 q
  have s1 := stp_adv (b := b) (n := n) ht (by decide) hσ q
  obtain ⟨σ', sem, hA, hB, st⟩ := t_whole hr hR ht hall ih s1.1
  have s3 := stp_exC (b := b) (n := n) (c := 125) ht (by decide) st.1
  refine ⟨exC b n 125 σ', sem, ?_, ?_, s1.trans (st.trans s3)⟩
  · intro I hp hq
    obtain ⟨I0, e0, p0, f0⟩ := a_take (J := J) (c := 262) hR ht hp (by decide)
    rw [q0, if_neg (by decide)] at p0
    obtain ⟨I1, e1, p1, f1⟩ := a_expC (J := J) (c := 123) hR ht p0 (by decide)
    have ex : exC b n 123 σ = adv σ := by unfold exC; rw [if_pos q]
    rw [ex] at p1
    obtain ⟨I2, m, e2, p2, f2, hm⟩ := hA I1 p1 (qA_f hr hq (f0.trans f1))
    obtain ⟨I3, e3, p3, f3⟩ := a_expC (J := J) (c := 125) hR ht p2 (by decide)
    refine ⟨I3, m, ?_, p3, f0.trans (f1.trans (f2.trans f3)), fun z => hm (exC_0 z).1⟩
    show z_X4_parseFact_F SA (z_X4_parseFact SA f) (I, J, R) 55 (nI d) = _
    rw [q_fin ht hR hp (Or.inr q)]
    unfold z_X4_parseFact_b32
    rw [if_pos (d6lt d hd)]
    simp only [rA_55_0 hR, b1_N, kA_48, ck_N, e0, b2_N]
    rw [q0, if_pos (show bI false = 0 from rfl)]
    simp only [e1, b1_N, nI_1]
    have e2' : z_X4_parseTest SA (z_X4_parseFact SA f) (I1, J, R) 55 (nI (d + 1)) = some (m, (I2, J, R)) := e2
    simp only [e2', b2_N, rA_55_0 hR, b1_N, kA_48, ck_N, e3]
  · intro I' J' ask hp hq h44
    obtain ⟨I1, e1, p1, k1, g1⟩ := q_goes (J' := J') ht hp σ0 h44 hd
    obtain ⟨I2, v, e2, p2, k2, g2, hv, hw⟩ := hB I1 J' ask p1 (qB_4 hq g1) k1
    have e2' : z_X12_readTest TB (z_X12_readFact TB f) (I1, J', rB) 0 = some (v, (I2, J', rB)) := e2
    obtain ⟨I3, e3, p3, g3⟩ := b_mustC (J := J') (c := 125) ht p2 (by decide) st.1
    have e3' : z_X12_must TB (I2, J', rB) 0 125 = some (I3, J', rB) := e3
    have k3 : I3 0 44 = nI (d + 1) := (g3 _ _ (by omega)).trans k2
    refine ⟨fh_up I3 0 44 (nI d), v, ?_, p44 p3, up_s _ _ _ _, g1.trans (g2.trans (g3.s4.trans g44)), hv, fun z => hw (exC_0 z).1⟩
    show z_X12_readFact_F TB (z_X12_readFact TB f) (I', J', rB) 0 = _
    rw [b_brace ht hσ hp q0 q, e1, b1_N, e2', b2_N, e3', b1_N]
    simp only [let_N, sI_N, k3, nI_pred]
    rw [decide_eq_true hv, ck_N]
theorem f_fact (ht : tkc b n N) (hR : RA R) (hall : ∀ i, mbt (J 55 2) i = decide (i < rwL P r)) (hr : r < 10) : ∀ (f d : Nat) (σ : PS), 8 ≤ f + d → d ≤ 6 → σ.1 ≤ N → FD (z_X4_parseFact SA f) (z_X12_readFact TB f) J R b n N P r d σ := by
  intro f
  induction f with
  | zero => intro d σ h1 h2; exact absurd h1 (by omega)
  | succ f ih =>
    intro d σ h1 h2 hσ
    cases q0 : isC b n 262 σ with
    | true =>
      by_cases c : d = 6
      · subst c
        cases f with
        | zero => exact absurd h1 (by omega)
        | succ f => exact f_six hr ht hσ (Or.inl q0)
      · exact f_not ht hR hall hr hσ (by omega) q0 (ih (d + 1) (adv σ) (by omega) (by omega) (isC_lt ht (by decide) hσ q0))
    | false =>
    cases q : isC b n 123 σ with
    | true =>
      by_cases c : d = 6
      · subst c
        cases f with
        | zero => exact absurd h1 (by omega)
        | succ f => exact f_six hr ht hσ (Or.inr q)
      · exact f_brace ht hR hall hr hσ (by omega) q0 q (fun τ hτ => ih (d + 1) τ (by omega) (by omega) hτ)
    | false => exact f_cmp hr ht hσ q0 q
end
