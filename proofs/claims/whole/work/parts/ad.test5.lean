/-! a question: a test, both, the loop -/
theorem b2_b2 {α β γ : Type} (x : Option (α × fh_H)) (f : α → fh_H → Option (β × fh_H)) (g : β → fh_H → Option γ) : fh_b2 (fh_b2 x f) g = fh_b2 x (fun a h => fh_b2 (f a h) g) := by
  cases x with
  | none => rfl
  | some p => rfl
theorem ann_1 {v : Int32} (h : v = 0 ∨ v = 1) : ann 1 v = v := by
  rcases h with rfl | rfl <;> decide
theorem orr_0 {v : Int32} (h : v = 0 ∨ v = 1) : orr 0 v = v := by
  rcases h with rfl | rfl <;> decide
theorem b5_or {PF : fh_H → Nat → Option (Int32 × fh_H)} (K : fh_H → Int32 → Option (Int32 × fh_H)) : ∀ (f : Nat) (h : fh_H) (y : Int32), fh_b2 (z_X12_readBoth_b5 TB 0 PF f h y) (fun q h => K h q) = fh_b2 (z_X12_readBoth_b5 TB 0 PF f h y) (fun q h => K h (orr 0 q)) := by
  intro f
  induction f with
  | zero => intro h y; rfl
  | succ f ih =>
    intro h y
    rw [z_X12_readBoth_b5]
    cases z_X12_isWord TB h 0 3 with
    | none => rfl
    | some r1 =>
      rw [b1_N]
      by_cases c : r1 = 0
      · rw [if_pos c]
        by_cases c2 : y = 0 ∨ y = 1
        · rw [decide_eq_true c2, ck_N, b2_N, b2_N, orr_0 c2]
        · rw [decide_eq_false c2]; rfl
      · rw [if_neg c]
        cases z_X12_pass TB h 0 with
        | none => rfl
        | some h5 =>
          rw [b1_N]
          cases PF h5 0 with
          | none => rfl
          | some p =>
            obtain ⟨r7, h8⟩ := p
            rw [b2_N]
            by_cases c3 : y = 0
            · rw [if_pos c3]; exact ih _ _
            · rw [if_neg c3]
              by_cases c4 : r7 = 0
              · rw [if_pos c4]; exact ih _ _
              · rw [if_neg c4]; exact ih _ _
section
variable {J : Nat → Nat → Int64} {R : Nat → Nat → Option Nat} {b : Nat → Nat} {n N : Nat} {P : Rcp} {r d : Nat} {PA : fh_H → Nat → Int32 → Option (Int64 × fh_H)} {PB : fh_H → Nat → Option (Int32 × fh_H)}
theorem t_test (hr : r < 10) (hR : RA R) (ht : tkc b n N) (hall : ∀ i, mbt (J 55 2) i = decide (i < rwL P r)) (hPF : ∀ σ : PS, σ.1 ≤ N → FD PA PB J R b n N P r d σ) : ∀ (m : Nat) (σ : PS) (y : Nat) (aO aA : Nat → Bool), m ≤ 300 → σ.1 ≤ N → N - σ.1 < m → (σ.2.1 = 0 → 2 * y ≤ σ.1) → (¬ σ.2.1 = 0 → y = 0) → ∃ σ' sem, stp N σ σ' ∧ CA PA J R b n N P r d m σ σ' y aO aA sem ∧ CB PB b n P r d m σ σ' aO aA sem := by
  have hN2 : N ≤ 200 := Nat.le_trans ht.2.2.1 ht.2.1
  intro m
  induction m with
  | zero => intro σ y aO aA _ _ h; exact absurd h (by omega)
  | succ m ih =>
    intro σ y aO aA hm3 hσN hlt hy0 hy1
    obtain ⟨τ, s0, hA, hB, hs⟩ := hPF σ hσN
    have hy : y < 200 := by
      by_cases c : σ.2.1 = 0
      · have := hy0 c; omega
      · have := hy1 c; omega
    cases q : isC b n 261 τ with
    | true =>
      have τ0 := isC_0 q
      have σ0 := (hs.2.2.1 τ0).1
      have σlt := (hs.2.2.1 τ0).2
      have τN : τ.1 < N := isC_lt ht (by decide) hs.1 q
      have y2 := hy0 σ0
      obtain ⟨σ', sem, st, ca, cb⟩ := ih (adv τ) (y + 1) aO (fun i => aA i && s0 i) (by omega) (show τ.1 + 1 ≤ N by omega) (show N - (τ.1 + 1) < m by omega) (fun _ => show 2 * (y + 1) ≤ τ.1 + 1 by omega) (fun z => absurd τ0 z)
      have st1 : τ.1 + 1 ≤ σ'.1 := st.2.1
      refine ⟨σ', sem, ⟨st.1, by omega, fun _ => ⟨σ0, by omega⟩, fun z => absurd σ0 z, fun z => (st.2.2.2.2 z).trans (hs.2.2.2.2 τ0)⟩, ?_, ?_⟩
      · intro I fuel mo ma hf hp hq hm
        cases fuel with
        | zero => exact absurd hf (by omega)
        | succ f =>
          obtain ⟨I1, m1, p1, f1, hm1, e⟩ := a_turn (f := f) (y := y) (mo := mo) (ma := ma) hR ht hA hp hq hy
          rw [if_pos q] at p1 e
          obtain ⟨I2, m2, e2, p2, f2, h2⟩ := ca I1 f mo (ma &&& m1) (by omega) p1 (qA_f hr hq f1) (fun _ => ⟨(hm σ0).1, mks_and (hm σ0).2 (hm1 τ0)⟩)
          exact ⟨I2, m2, e.trans e2, p2, f1.trans f2, h2⟩
      · intro I' J' ask f1 f2 vo va h1 h2 hp hq h44 hv
        obtain ⟨I1, v1, e1, p1, q44, g1, hv1, hvv⟩ := hB I' J' ask hp hq h44
        cases f1 with
        | zero => exact absurd h1 (by omega)
        | succ f1 =>
          obtain ⟨I2, e2, p2, g2⟩ := b_pass0 (J := J') ht p1 τ0
          rw [e1, b2_N, b_both5 ht p1 (ann_01 _ _), if_pos q, e2, b1_N, b2_b2]
          obtain ⟨I3, v3, e3, p3, k44, g3, hv3, hw3⟩ := cb I2 J' ask f1 f2 vo (ann va v1) (by omega) (by omega) p2 (qB_g (qB_4 hq g1) g2) ((g2 _ _ (by omega)).trans q44) (fun _ k ek hk => ⟨(hv σ0 k ek hk).1, by rw [(hv σ0 k ek hk).2, hvv τ0 k ek hk, ann_b]⟩)
          exact ⟨I3, v3, e3, p3, k44, g1.trans (g2.s4.trans g3), hv3, hw3⟩
    | false =>
    cases q0 : isC b n 260 τ with
    | true =>
      have τ0 := isC_0 q0
      have σ0 := (hs.2.2.1 τ0).1
      have σlt := (hs.2.2.1 τ0).2
      have τN : τ.1 < N := isC_lt ht (by decide) hs.1 q0
      have y2 := hy0 σ0
      obtain ⟨σ', sem, st, ca, cb⟩ := ih (adv τ) (y + 1) (fun i => aO i || (aA i && s0 i)) (fun _ => true) (by omega) (show τ.1 + 1 ≤ N by omega) (show N - (τ.1 + 1) < m by omega) (fun _ => show 2 * (y + 1) ≤ τ.1 + 1 by omega) (fun z => absurd τ0 z)
      have st1 : τ.1 + 1 ≤ σ'.1 := st.2.1
      have qn : ¬ isC b n 261 τ = true := by rw [q]; decide
      refine ⟨σ', sem, ⟨st.1, by omega, fun _ => ⟨σ0, by omega⟩, fun z => absurd σ0 z, fun z => (st.2.2.2.2 z).trans (hs.2.2.2.2 τ0)⟩, ?_, ?_⟩
      · intro I fuel mo ma hf hp hq hm
        cases fuel with
        | zero => exact absurd hf (by omega)
        | succ f =>
          obtain ⟨I1, m1, p1, f1, hm1, e⟩ := a_turn (f := f) (y := y) (mo := mo) (ma := ma) hR ht hA hp hq hy
          rw [if_neg qn, if_pos q0] at p1 e
          obtain ⟨I2, m2, e2, p2, f2, h2⟩ := ca I1 f (mo ||| (ma &&& m1)) (J 55 2) (by omega) p1 (qA_f hr hq f1) (fun _ => ⟨mks_or (hm σ0).1 (mks_and (hm σ0).2 (hm1 τ0)), fun i => by rw [hall, Bool.and_true]⟩)
          exact ⟨I2, m2, e.trans e2, p2, f1.trans f2, h2⟩
      · intro I' J' ask f1 f2 vo va h1 h2 hp hq h44 hv
        obtain ⟨I1, v1, e1, p1, q44, g1, hv1, hvv⟩ := hB I' J' ask hp hq h44
        cases f1 with
        | zero => exact absurd h1 (by omega)
        | succ f1 =>
        cases f2 with
        | zero => exact absurd h2 (by omega)
        | succ f2 =>
          obtain ⟨I2, e2, p2, g2⟩ := b_pass0 (J := J') ht p1 τ0
          have hq2 := qB_g (qB_4 hq g1) g2
          have h442 : I2 0 44 = nI d := (g2 _ _ (by omega)).trans q44
          obtain ⟨I3, v3, e3, p3, k44, g3, hv3, hw3⟩ := cb I2 J' ask 20000 f2 (orr vo (ann va v1)) 1 (by omega) (by omega) p2 hq2 h442 (fun _ k ek hk => ⟨by rw [(hv σ0 k ek hk).1, (hv σ0 k ek hk).2, hvv τ0 k ek hk, ann_b, orr_b], rfl⟩)
          obtain ⟨ρ, s1, -, hB1, -⟩ := hPF (adv τ) (show τ.1 + 1 ≤ N by omega)
          obtain ⟨I4, v4, e4, -, -, -, hv4, -⟩ := hB1 I2 J' ask p2 hq2 h442
          refine ⟨I3, v3, ?_, p3, k44, g1.trans (g2.s4.trans g3), hv3, hw3⟩
          rw [e4, b2_N, ann_1 hv4] at e3
          rw [e1, b2_N, b_both5 ht p1 (ann_01 _ _), if_neg qn, b2_N, b_test5 ht p1 (orr_01 _ _), if_pos q0, e2, b1_N]
          unfold z_X12_readBoth
          rw [e4, b2_N]
          exact e3
    | false =>
      have qn : ¬ isC b n 261 τ = true := by rw [q]; decide
      have qn0 : ¬ isC b n 260 τ = true := by rw [q0]; decide
      refine ⟨τ, fun i => aO i || (aA i && s0 i), hs, ?_, ?_⟩
      · intro I fuel mo ma hf hp hq hm
        cases fuel with
        | zero => exact absurd hf (by omega)
        | succ f =>
          obtain ⟨I1, m1, p1, f1, hm1, e⟩ := a_turn (f := f) (y := y) (mo := mo) (ma := ma) hR ht hA hp hq hy
          rw [if_neg qn, if_neg qn0] at p1 e
          exact ⟨I1, _, e, p1, f1, fun τ0 => mks_or (hm (hs.2.2.1 τ0).1).1 (mks_and (hm (hs.2.2.1 τ0).1).2 (hm1 τ0))⟩
      · intro I' J' ask f1 f2 vo va h1 h2 hp hq h44 hv
        obtain ⟨I1, v1, e1, p1, q44, g1, hv1, hvv⟩ := hB I' J' ask hp hq h44
        cases f1 with
        | zero => exact absurd h1 (by omega)
        | succ f1 =>
        cases f2 with
        | zero => exact absurd h2 (by omega)
        | succ f2 =>
          refine ⟨I1, orr vo (ann va v1), ?_, p1, q44, g1, orr_01 _ _, fun τ0 k ek hk => ?_⟩
          · rw [e1, b2_N, b_both5 ht p1 (ann_01 _ _), if_neg qn, b2_N, b_test5 ht p1 (orr_01 _ _), if_neg qn0]
          · have σ0 := (hs.2.2.1 τ0).1
            rw [(hv σ0 k ek hk).1, (hv σ0 k ek hk).2, hvv τ0 k ek hk, ann_b, orr_b]
/-- a whole test: the class's parseTest and the reference's readTest -/
theorem t_whole (hr : r < 10) (hR : RA R) (ht : tkc b n N) (hall : ∀ i, mbt (J 55 2) i = decide (i < rwL P r)) (hPF : ∀ σ : PS, σ.1 ≤ N → FD PA PB J R b n N P r d σ) {σ : PS} (hσ : σ.1 ≤ N) : FD (fun h a x => z_X4_parseTest SA PA h a x) (fun h a => z_X12_readTest TB PB h a) J R b n N P r d σ := by
  have hN2 : N ≤ 200 := Nat.le_trans ht.2.2.1 ht.2.1
  obtain ⟨σ', sem, st, ca, cb⟩ := t_test hr hR ht hall hPF 202 σ 0 (fun _ => false) (fun _ => true) (by omega) hσ (by omega) (fun _ => by omega) (fun _ => rfl)
  refine ⟨σ', sem, ?_, ?_, st⟩
  · intro I hp hq
    obtain ⟨I1, m, e, p, f, h⟩ := ca I 20000 0 (J 55 2) (by omega) hp hq (fun _ => ⟨fun i => by rw [mbt_0, Bool.and_false], fun i => by rw [hall, Bool.and_true]⟩)
    exact ⟨I1, m, e, p, f, h⟩
  · intro I' J' ask hp hq h44
    obtain ⟨I1, v, e, p, k44, g, hv, hw⟩ := cb I' J' ask 20000 20000 0 1 (by omega) (by omega) hp hq h44 (fun _ k _ _ => ⟨rfl, rfl⟩)
    refine ⟨I1, v, ?_, p, k44, g, hv, hw⟩
    obtain ⟨ρ, s1, -, hB1, -⟩ := hPF σ hσ
    obtain ⟨I4, v4, e4, p4, -, -, hv4, -⟩ := hB1 I' J' ask hp hq h44
    show z_X12_readTest TB PB (I', J', rB) 0 = _
    unfold z_X12_readTest z_X12_readBoth
    rw [e4, b2_N, ann_1 hv4] at e
    rw [e4, b2_N]
    rw [← e]
    exact b5_or (fun h q => z_X12_readTest_b5 TB 0 PB 20000 h q) 20000 _ _
end
