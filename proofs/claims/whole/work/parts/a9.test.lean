/-! a question: facts and tests, what they mean for both -/
def gF4 (I I1 : Nat → Nat → Int32) : Prop := ∀ b j, ¬ (b = 0 ∧ 37 ≤ j ∧ j ≤ 44 ∧ j ≠ 43) → I1 b j = I b j
theorem gF4.rf {I : Nat → Nat → Int32} : gF4 I I := fun _ _ _ => rfl
theorem gF4.trans {I I1 I2 : Nat → Nat → Int32} (h : gF4 I I1) (h2 : gF4 I1 I2) : gF4 I I2 := fun b j q => (h2 b j q).trans (h b j q)
theorem gF.s4 {I I1 : Nat → Nat → Int32} (h : gF I I1) : gF4 I I1 := fun b j q => h b j (fun z => q (by omega))
theorem qB_4 {I I1 : Nat → Nat → Int32} {P : Rcp} {r : Nat} {ask : Int32} (h : qB I P r ask) (f : gF4 I I1) : qB I1 P r ask := qB_k h (fun b j q => f b j (by omega))
def FA (PF : fh_H → Nat → Int32 → Option (Int64 × fh_H)) (J : Nat → Nat → Int64) (R : Nat → Nat → Option Nat) (b : Nat → Nat) (n N : Nat) (P : Rcp) (r d : Nat) (σ σ' : PS) (sem : Nat → Bool) : Prop := ∀ I, psA I b n N σ → qA I R P r → ∃ I1 m, PF (I, J, R) 55 (nI d) = some (m, (I1, J, R)) ∧ psA I1 b n N σ' ∧ fA5 I I1 ∧ (σ'.2.1 = 0 → ∀ i, mbt m i = (decide (i < rwL P r) && sem i))
def FB (PF : fh_H → Nat → Option (Int32 × fh_H)) (b : Nat → Nat) (n : Nat) (P : Rcp) (r d : Nat) (σ σ' : PS) (sem : Nat → Bool) : Prop := ∀ (I' : Nat → Nat → Int32) (J' : Nat → Nat → Int64) (ask : Int32), psB I' b n σ → qB I' P r ask → I' 0 44 = nI d → ∃ I1 v, PF (I', J', rB) 0 = some (v, (I1, J', rB)) ∧ psB I1 b n σ' ∧ I1 0 44 = nI d ∧ gF4 I' I1 ∧ (v = 0 ∨ v = 1) ∧ (σ'.2.1 = 0 → ∀ k, ask = nI k → k < rwL P r → v = bI (sem k))
def stp (N : Nat) (σ σ' : PS) : Prop := σ'.1 ≤ N ∧ σ.1 ≤ σ'.1 ∧ (σ'.2.1 = 0 → σ.2.1 = 0 ∧ σ.1 < σ'.1) ∧ (¬ σ.2.1 = 0 → σ' = σ) ∧ (σ'.2.1 = 0 → σ'.2.2 = σ.2.2)
def FD (PA : fh_H → Nat → Int32 → Option (Int64 × fh_H)) (PB : fh_H → Nat → Option (Int32 × fh_H)) (J : Nat → Nat → Int64) (R : Nat → Nat → Option Nat) (b : Nat → Nat) (n N : Nat) (P : Rcp) (r d : Nat) (σ : PS) : Prop := ∃ σ' sem, FA PA J R b n N P r d σ σ' sem ∧ FB PB b n P r d σ σ' sem ∧ stp N σ σ'
