/-! a question: one comparison, the reference -/
def cm (s : Int32) (x y : Int64) : Bool := if s = -1 then decide (¬ y ≤ x) else if s = 1 then decide (¬ x ≤ y) else decide (x = y)
def cqS (b : Nat → Nat) (n : Nat) (σ : PS) : PS := vS b n (csS b n (vS b n σ))
def cqV (b : Nat → Nat) (n : Nat) (σ : PS) (g : Nat → Int32) (K k : Nat) : Bool := cm (csg b n (vS b n σ)) (vV b n σ g K k) (vV b n (csS b n (vS b n σ)) g K k)
section
variable {I' : Nat → Nat → Int32} {J' : Nat → Nat → Int64} {b : Nat → Nat} {n N : Nat} {σ : PS} {P : Rcp} {r : Nat} {ask : Int32}
theorem isC_ne {c d : Int32} (h : isC b n c σ = true) (hcd : c ≠ d) : isC b n d σ = false := by
  unfold isC at h ⊢
  rw [decide_eq_true_eq] at h
  exact decide_eq_false (fun q => hcd (h.2.symm.trans q.2))
theorem vS_0 (h : (vS b n σ).2.1 = 0) : σ.2.1 = 0 := by
  unfold vS at h
  by_cases c : vcd b n σ = 256
  · rw [if_pos c] at h; exact (fgs_0 h).1
  · rw [if_neg c] at h; exact h
theorem flw_nz {k : Int32} (hk : ¬ k = 0) : ¬ (flw b n k σ).2.1 = 0 := by
  by_cases c : σ.2.1 = 0
  · rw [flw_0 c]; exact hk
  · rw [flw_n c]; exact c
theorem b_131 {PF : fh_H → Nat → Option (Int32 × fh_H)} {τ : PS} {x : Int64} {s : Int32} (hr : r < 10) (ht : tkc b n N) (hp : psB I' b n τ) (h : qB I' P r ask) (hs : s = -1 ∨ s = 0 ∨ s = 1 ∨ (s = 2 ∧ ¬ τ.2.1 = 0)) : ∃ I1 v, z_X12_readFact_b131 TB 0 PF (I', J', rB) x s = some (v, (I1, J', rB)) ∧ psB I1 b n (vS b n (if τ.2.1 = 0 then adv τ else τ)) ∧ gF I' I1 ∧ (v = 0 ∨ v = 1) ∧ ((vS b n (if τ.2.1 = 0 then adv τ else τ)).2.1 = 0 → ∀ k, ask = nI k → k < rwL P r → v = bI (cm s x (vV b n (if τ.2.1 = 0 then adv τ else τ) (rwG P r) (rwL P r) k))) := by
  obtain ⟨I1, e1, p1, f1⟩ : ∃ I1, z_X12_pass TB (I', J', rB) 0 = some (I1, J', rB) ∧ psB I1 b n (if τ.2.1 = 0 then adv τ else τ) ∧ gF I' I1 := by
    by_cases c : τ.2.1 = 0
    · rw [if_pos c]; exact b_pass0 ht hp c
    · rw [if_neg c]; exact ⟨I', b_pass1 hp c, hp, gF.rf⟩
  obtain ⟨I2, y, e2, p2, f2, hv⟩ := b_value (J' := J') hr ht p1 (qB_g h f1)
  unfold z_X12_readFact_b131
  rw [e1, b1_N, e2, b2_N]
  rcases hs with rfl | rfl | rfl | ⟨rfl, hfl⟩
  · rw [if_neg (show ¬ (0 : Int32) ≤ -1 by decide)]
    by_cases c : y ≤ x
    · rw [if_pos c]
      refine ⟨I2, 0, rfl, p2, f1.trans f2, Or.inl rfl, fun q k e hk => ?_⟩
      rw [← hv q k e hk]; unfold cm
      rw [if_pos rfl, decide_eq_false (fun z => z c)]; rfl
    · rw [if_neg c]
      refine ⟨I2, 1, rfl, p2, f1.trans f2, Or.inr rfl, fun q k e hk => ?_⟩
      rw [← hv q k e hk]; unfold cm
      rw [if_pos rfl, decide_eq_true c]; rfl
  · rw [if_pos (show (0 : Int32) ≤ 0 by decide), if_pos rfl]
    by_cases c : x = y
    · rw [if_pos c]
      refine ⟨I2, 1, rfl, p2, f1.trans f2, Or.inr rfl, fun q k e hk => ?_⟩
      rw [← hv q k e hk]; unfold cm
      rw [if_neg (by decide), if_neg (by decide), decide_eq_true c]; rfl
    · rw [if_neg c]
      refine ⟨I2, 0, rfl, p2, f1.trans f2, Or.inl rfl, fun q k e hk => ?_⟩
      rw [← hv q k e hk]; unfold cm
      rw [if_neg (by decide), if_neg (by decide), decide_eq_false c]; rfl
  · rw [if_pos (show (0 : Int32) ≤ 1 by decide), if_neg one0]
    by_cases c : x ≤ y
    · rw [if_pos c]
      refine ⟨I2, 0, rfl, p2, f1.trans f2, Or.inl rfl, fun q k e hk => ?_⟩
      rw [← hv q k e hk]; unfold cm
      rw [if_neg (by decide), if_pos rfl, decide_eq_false (fun z => z c)]; rfl
    · rw [if_neg c]
      refine ⟨I2, 1, rfl, p2, f1.trans f2, Or.inr rfl, fun q k e hk => ?_⟩
      rw [← hv q k e hk]; unfold cm
      rw [if_neg (by decide), if_pos rfl, decide_eq_true c]; rfl
  · rw [if_pos (show (0 : Int32) ≤ 2 by decide), if_neg (show ¬ (2 : Int32) = 0 by decide)]
    have no : (vS b n (if τ.2.1 = 0 then adv τ else τ)).2.1 = 0 → False := fun q => by
      rw [if_neg hfl] at q; exact hfl (vS_0 q)
    by_cases c : x ≤ y
    · rw [if_pos c]; exact ⟨I2, 0, rfl, p2, f1.trans f2, Or.inl rfl, fun q => absurd q no⟩
    · rw [if_neg c]; exact ⟨I2, 1, rfl, p2, f1.trans f2, Or.inr rfl, fun q => absurd q no⟩
end
