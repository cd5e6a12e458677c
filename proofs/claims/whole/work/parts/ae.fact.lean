/-! a question: facts, both -/
theorem u44 {I : Nat → Nat → Int32} {v : Int32} {b j : Nat} (h : ¬ (b = 0 ∧ j = 44)) : fh_up I 0 44 v b j = I b j := by simp only [fh_up, h, if_false]
theorem g44 {I : Nat → Nat → Int32} {v : Int32} : gF4 I (fh_up I 0 44 v) := fun b j q => u44 (fun z => q (by omega))
theorem d6lt : ∀ d, d < 6 → nI d < 6 := by decide
theorem d6ne : ∀ d, d < 6 → ¬ nI d = 6 := by decide
section
variable {b : Nat → Nat} {n N : Nat} {σ τ ρ : PS}
theorem stp.trans (h1 : stp N σ τ) (h2 : stp N τ ρ) : stp N σ ρ := by
  refine ⟨h2.1, Nat.le_trans h1.2.1 h2.2.1, fun z => ?_, fun z => ?_, fun z => (h2.2.2.2.2 z).trans (h1.2.2.2.2 (h2.2.2.1 z).1)⟩
  · have a := h2.2.2.1 z
    have c := h1.2.2.1 a.1
    exact ⟨c.1, Nat.lt_trans c.2 a.2⟩
  · have e := h1.2.2.2.1 z
    rw [e] at h2
    exact h2.2.2.2.1 z
theorem stp_flw {k : Int32} (hk : ¬ k = 0) (hN : σ.1 ≤ N) : stp N σ (flw b n k σ) := by
  by_cases c : σ.2.1 = 0
  · rw [flw_0 c]; exact ⟨hN, Nat.le_refl _, fun z => absurd z hk, fun z => absurd c z, fun z => absurd z hk⟩
  · rw [flw_n c]; exact ⟨hN, Nat.le_refl _, fun z => absurd z c, fun _ => rfl, fun _ => rfl⟩
theorem stp_adv {c : Int32} (ht : tkc b n N) (hc : ¬ c = 257) (hN : σ.1 ≤ N) (q : isC b n c σ = true) : stp N σ (adv σ) :=
  ⟨isC_lt ht hc hN q, Nat.le_succ _, fun _ => ⟨isC_0 q, Nat.lt_succ_self _⟩, fun z => absurd (isC_0 q) z, fun _ => rfl⟩
theorem stp_fgs {L : Nat} (ht : tkc b n N) (hN : σ.1 ≤ N) : stp N σ (fgs b n L σ) := by
  unfold fgs
  by_cases c : fgo b n L σ = true
  · rw [if_pos c]
    unfold fgo at c
    rw [Bool.and_eq_true] at c
    exact stp_adv ht (by decide) hN c.1
  · rw [if_neg c]
    by_cases c2 : isC b n 256 σ = true
    · rw [if_pos c2]; exact stp_flw (by decide) hN
    · rw [if_neg c2]; exact stp_flw (by decide) hN
theorem stp_vS (ht : tkc b n N) (hN : σ.1 ≤ N) : stp N σ (vS b n σ) := by
  unfold vS
  by_cases c : vcd b n σ = 256
  · rw [if_pos c]; exact stp_fgs ht hN
  · rw [if_neg c]
    unfold vcd at c
    by_cases c1 : isC b n 263 σ = true
    · exact stp_adv ht (by decide) hN c1
    · rw [if_neg c1] at c
      by_cases c2 : isC b n 264 σ = true
      · exact stp_adv ht (by decide) hN c2
      · rw [if_neg c2] at c
        by_cases c3 : isC b n 265 σ = true
        · exact stp_adv ht (by decide) hN c3
        · rw [if_neg c3] at c
          by_cases c4 : isC b n 266 σ = true
          · exact stp_adv ht (by decide) hN c4
          · rw [if_neg c4] at c
            by_cases c5 : isC b n 267 σ = true
            · exact stp_adv ht (by decide) hN c5
            · rw [if_neg c5] at c
              exact absurd rfl c
theorem stp_csS (ht : tkc b n N) (hN : σ.1 ≤ N) : stp N σ (csS b n σ) := by
  unfold csS
  by_cases c1 : isC b n 60 σ = true
  · rw [if_pos c1]; exact stp_adv ht (by decide) hN c1
  · rw [if_neg c1]
    by_cases c2 : isC b n 62 σ = true
    · rw [if_pos c2]; exact stp_adv ht (by decide) hN c2
    · rw [if_neg c2]
      by_cases c3 : isC b n 61 σ = true
      · rw [if_pos c3]; exact stp_adv ht (by decide) hN c3
      · rw [if_neg c3]; exact stp_flw (by decide) hN
theorem stp_cqS (ht : tkc b n N) (hN : σ.1 ≤ N) : stp N σ (cqS b n σ) := by
  unfold cqS
  have h1 := stp_vS (b := b) (n := n) ht hN
  have h2 := stp_csS (b := b) (n := n) ht h1.1
  exact h1.trans (h2.trans (stp_vS ht h2.1))
theorem stp_exC {c : Int32} (ht : tkc b n N) (hc : ¬ c = 257) (hN : σ.1 ≤ N) : stp N σ (exC b n c σ) := by
  unfold exC
  by_cases c1 : isC b n c σ = true
  · rw [if_pos c1]; exact stp_adv ht hc hN c1
  · rw [if_neg c1]; exact stp_flw (by decide) hN
end
section
variable {I I' : Nat → Nat → Int32} {J J' : Nat → Nat → Int64} {R : Nat → Nat → Option Nat} {b : Nat → Nat} {n N : Nat} {σ : PS} {P : Rcp} {r d : Nat} {ask v : Int32}
theorem p44 (h : psB I b n σ) : psB (fh_up I 0 44 v) b n σ := psB_k h (fun b j q => u44 (by omega))
theorem b_passN (hp : psB I' b n σ) (c : ¬ σ.2.1 = 0) : z_X12_pass TB (I', J', rB) 0 = some (I', J', rB) := by
  have e : ¬ I' 0 41 = 0 := by rw [hp.2.2.1]; exact c
  unfold z_X12_pass
  rw [if_neg e]
theorem q_goes (ht : tkc b n N) (hp : psB I' b n σ) (c : σ.2.1 = 0) (h44 : I' 0 44 = nI d) (hd : d < 6) : ∃ I1, z_X12_goesIn TB (I', J', rB) 0 = some (I1, J', rB) ∧ psB I1 b n (adv σ) ∧ I1 0 44 = nI (d + 1) ∧ gF4 I' I1 := by
  have h41 : I' 0 41 = 0 := hp.2.2.1.trans c
  obtain ⟨I1, e1, p1, g1⟩ := b_pass0 (J := J') (I := fh_up I' 0 44 (nI (d + 1))) ht (p44 hp) c
  refine ⟨I1, ?_, p1, by rw [g1 _ _ (by omega), up_s], g44.trans g1.s4⟩
  unfold z_X12_goesIn z_X12_goesIn_b21
  simp only [h41, if_true, h44, d6ne d hd, if_false, sI_N, let_N, nI_1, e1, b1_N]
theorem q_goes6 (ht : tkc b n N) (hp : psB I' b n σ) (c : σ.2.1 = 0) (h44 : I' 0 44 = nI 6) : ∃ I1, z_X12_goesIn TB (I', J', rB) 0 = some (I1, J', rB) ∧ psB I1 b n (flw b n 3 σ) ∧ I1 0 44 = nI 7 ∧ gF4 I' I1 := by
  have h41 : I' 0 41 = 0 := hp.2.2.1.trans c
  obtain ⟨I1, e1, p1, g1⟩ := b_wrongK (J := J') (k := 3) hp (by decide)
  have e44 : I1 0 44 = nI 6 := (g1 _ _ (by omega)).trans h44
  have e2 := b_passN (J' := J') (I' := fh_up I1 0 44 (nI 7)) (p44 p1) (flw_nz (by decide))
  refine ⟨fh_up I1 0 44 (nI 7), ?_, p44 p1, up_s _ _ _ _, g1.s4.trans g44⟩
  unfold z_X12_goesIn z_X12_goesIn_b21
  have s6 : nI 6 = (6 : Int32) := rfl
  have s7 : nI 6 + 1 = nI 7 := rfl
  simp only [h41, if_true, h44, e1, b1_N, e44, sI_N, let_N, s7]
  rw [if_pos s6, e2, b1_N]
theorem q_fin {PF : fh_H → Nat → Int32 → Option (Int64 × fh_H)} {x : Int32} (ht : tkc b n N) (hR : RA R) (hp : psA I b n N σ) (h : isC b n 262 σ = true ∨ isC b n 123 σ = true) : z_X4_parseFact_F SA PF (I, J, R) 55 x = z_X4_parseFact_b32 SA 55 PF (I, J, R) x := by
  have w4 := a_isN (J := J) hR ht hp 262
  have w123 := a_isN (J := J) hR ht hp 123
  unfold z_X4_parseFact_F
  simp only [rA_55_0 hR, b1_N, kA_48, ck_N, w4, w123]
  cases q : isC b n 262 σ with
  | true => rw [if_neg (show ¬ bI true = 0 by decide)]
  | false =>
    rw [if_pos (show bI false = 0 from rfl), h.resolve_left (by rw [q]; decide), if_neg (show ¬ bI true = 0 by decide)]
theorem a_f6 {PF : fh_H → Nat → Int32 → Option (Int64 × fh_H)} (ht : tkc b n N) (hR : RA R) (hp : psA I b n N σ) : ∃ I1, z_X4_parseFact_b32 SA 55 PF (I, J, R) (nI 6) = some (0, (I1, J, R)) ∧ psA I1 b n N (flw b n 3 σ) ∧ fA5 I I1 := by
  obtain ⟨I1, e1, p1, f1⟩ := a_failK (J := J) (k := 3) hR ht hp
  refine ⟨I1, ?_, p1, f1⟩
  unfold z_X4_parseFact_b32
  rw [if_neg (show ¬ nI 6 < 6 by decide)]
  simp only [rA_55_0 hR, b1_N, kA_48, ck_N, e1]
theorem b_testN {f : Nat} (hr : r < 10) (ht : tkc b n N) (hN : σ.1 ≤ N) (hp : psB I' b n σ) (h : qB I' P r ask) (hfl : ¬ σ.2.1 = 0) : ∃ I1 v, z_X12_readTest TB (z_X12_readFact TB (f + 1)) (I', J', rB) 0 = some (v, (I1, J', rB)) ∧ psB I1 b n σ ∧ gF I' I1 ∧ (v = 0 ∨ v = 1) := by
  obtain ⟨I1, v, e, p, g, hv⟩ := b_factN (J' := J') (f := f) hr ht hN hp h hfl
  refine ⟨I1, v, ?_, p, g, hv⟩
  have n261 : ¬ isC b n 261 σ = true := by rw [isC_n hfl]; decide
  have n260 : ¬ isC b n 260 σ = true := by rw [isC_n hfl]; decide
  unfold z_X12_readTest z_X12_readBoth
  rw [e, b2_N, b_both5 (f := 19999) ht p hv, if_neg n261, b2_N, b_test5 (f := 19999) ht p hv, if_neg n260]
end
