/-! a question: a test -/
def orr (v r : Int32) : Int32 := if v = 0 then (if r = 0 then 0 else 1) else 1
def ann (v r : Int32) : Int32 := if v = 0 then 0 else (if r = 0 then 0 else 1)
theorem orr_b (x y : Bool) : orr (bI x) (bI y) = bI (x || y) := by cases x <;> cases y <;> rfl
theorem ann_b (x y : Bool) : ann (bI x) (bI y) = bI (x && y) := by cases x <;> cases y <;> rfl
theorem orr_01 (v r : Int32) : orr v r = 0 ∨ orr v r = 1 := by
  unfold orr
  split
  · split
    · exact Or.inl rfl
    · exact Or.inr rfl
  · exact Or.inr rfl
theorem ann_01 (v r : Int32) : ann v r = 0 ∨ ann v r = 1 := by
  unfold ann
  split
  · exact Or.inl rfl
  · split
    · exact Or.inl rfl
    · exact Or.inr rfl
def mks (m : Int64) (K : Nat) (p : Nat → Bool) : Prop := ∀ i, mbt m i = (decide (i < K) && p i)
theorem mks_or {m m' : Int64} {K : Nat} {p q : Nat → Bool} (h : mks m K p) (h' : mks m' K q) : mks (m ||| m') K (fun i => p i || q i) := fun i => by
  rw [mbt_or, h i, h' i]; cases decide (i < K) <;> rfl
theorem mks_and {m m' : Int64} {K : Nat} {p q : Nat → Bool} (h : mks m K p) (h' : mks m' K q) : mks (m &&& m') K (fun i => p i && q i) := fun i => by
  rw [mbt_and, h i, h' i]; cases decide (i < K) <;> rfl
section
variable {I I' : Nat → Nat → Int32} {J J' : Nat → Nat → Int64} {b : Nat → Nat} {n N : Nat} {σ : PS} {P : Rcp} {r : Nat}
theorem b_both5 {PF : fh_H → Nat → Option (Int32 × fh_H)} {f : Nat} {y : Int32} (ht : tkc b n N) (hp : psB I' b n σ) (hy : y = 0 ∨ y = 1) : z_X12_readBoth_b5 TB 0 PF (f + 1) (I', J', rB) y = if isC b n 261 σ = true then fh_b1 (z_X12_pass TB (I', J', rB) 0) (fun h5 => fh_b2 (PF h5 0) (fun r7 h8 => z_X12_readBoth_b5 TB 0 PF f h8 (ann y r7))) else some (y, (I', J', rB)) := by
  have w : z_X12_isWord TB (I', J', rB) 0 3 = some (bI (isC b n 261 σ)) := b_isW ht hp (by decide)
  rw [z_X12_readBoth_b5, w, b1_N]
  cases isC b n 261 σ with
  | true =>
    rw [if_neg (show ¬ bI true = 0 by decide), if_pos rfl]
    congr 1; funext h5; congr 1; funext r7 h8
    unfold ann
    split
    · rfl
    · split <;> rfl
  | false => rw [if_pos (show bI false = 0 from rfl), if_neg (by decide), decide_eq_true hy, ck_N]
theorem b_test5 {PF : fh_H → Nat → Option (Int32 × fh_H)} {f : Nat} {y : Int32} (ht : tkc b n N) (hp : psB I' b n σ) (hy : y = 0 ∨ y = 1) : z_X12_readTest_b5 TB 0 PF (f + 1) (I', J', rB) y = if isC b n 260 σ = true then fh_b1 (z_X12_pass TB (I', J', rB) 0) (fun h5 => fh_b2 (z_X12_readBoth TB PF h5 0) (fun r7 h8 => z_X12_readTest_b5 TB 0 PF f h8 (orr y r7))) else some (y, (I', J', rB)) := by
  have w : z_X12_isWord TB (I', J', rB) 0 2 = some (bI (isC b n 260 σ)) := b_isW ht hp (by decide)
  rw [z_X12_readTest_b5, w, b1_N]
  cases isC b n 260 σ with
  | true =>
    rw [if_neg (show ¬ bI true = 0 by decide), if_pos rfl]
    congr 1; funext h5; congr 1; funext r7 h8
    unfold orr
    split
    · split <;> rfl
    · rfl
  | false => rw [if_pos (show bI false = 0 from rfl), if_neg (by decide), decide_eq_true hy, ck_N]
end
