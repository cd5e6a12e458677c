/-! a question: a test, the class's turn -/
section
variable {I : Nat → Nat → Int32} {J : Nat → Nat → Int64} {R : Nat → Nat → Option Nat} {b : Nat → Nat} {n N : Nat} {σ σ' : PS} {P : Rcp} {r d : Nat} {sem : Nat → Bool}
theorem a_turn {PF : fh_H → Nat → Int32 → Option (Int64 × fh_H)} {f y : Nat} {mo ma : Int64} (hR : RA R) (ht : tkc b n N) (hA : FA PF J R b n N P r d σ σ' sem) (hp : psA I b n N σ) (hq : qA I R P r) (hy : y < 200) : ∃ I1 m, psA I1 b n N (if isC b n 261 σ' = true then adv σ' else if isC b n 260 σ' = true then adv σ' else σ') ∧ fA5 I I1 ∧ (σ'.2.1 = 0 → mks m (rwL P r) sem) ∧
    z_X4_parseTest_b11 SA 55 PF (f + 1) (I, J, R) (nI d) mo ma (nI y) = if isC b n 261 σ' = true then z_X4_parseTest_b11 SA 55 PF f (I1, J, R) (nI d) mo (ma &&& m) (nI (y + 1)) else if isC b n 260 σ' = true then z_X4_parseTest_b11 SA 55 PF f (I1, J, R) (nI d) (mo ||| (ma &&& m)) (J 55 2) (nI (y + 1)) else some (mo ||| (ma &&& m), (I1, J, R)) := by
  obtain ⟨I1, m, e1, p1, f1, hm⟩ := hA I hp hq
  obtain ⟨I2, e2, p2, f2⟩ := a_take (J := J) (c := 261) hR ht p1 (by decide)
  have c : ¬ (200 : Int32) ≤ nI y := nI_ge (b := 200) hy (by omega)
  rw [z_X4_parseTest_b11, if_neg c]
  simp only [e1, b2_N, let_N, rA_55_0 hR, b1_N, kA_48, ck_N, e2]
  cases q : isC b n 261 σ' with
  | true =>
    rw [q, if_pos rfl] at p2
    refine ⟨I2, m, by rw [if_pos rfl]; exact p2, f1.trans f2, hm, ?_⟩
    rw [if_neg (show ¬ bI true = 0 by decide), if_pos rfl, nI_1]
  | false =>
    rw [q, if_neg (by decide)] at p2
    obtain ⟨I3, e3, p3, f3⟩ := a_take (J := J) (c := 260) hR ht p2 (by decide)
    refine ⟨I3, m, by rw [if_neg (by decide)]; exact p3, f1.trans (f2.trans f3), hm, ?_⟩
    rw [if_pos (show bI false = 0 from rfl), if_neg (by decide), e3, b2_N]
    cases isC b n 260 σ' with
    | true => rw [if_neg (show ¬ bI true = 0 by decide), if_pos rfl, nI_1]
    | false => rw [if_pos (show bI false = 0 from rfl), if_neg (by decide)]
end
