/-! a question: a comparison, the class -/
theorem sml_snoc (g : Nat → Int32) : ∀ (m k : Nat) (y : Int64), sml g (m + 1) k y = sml g m k y + (g (k + m)).toInt64 := by
  intro m
  induction m with
  | zero => intro k y; rfl
  | succ m ih => intro k y; rw [sml, ih (k + 1) (y + (g k).toInt64), sml, show k + 1 + m = k + (m + 1) by omega]
theorem i64_anti {x y : Int64} (h1 : x ≤ y) (h2 : y ≤ x) : x = y := by
  rw [Int64.le_iff_toInt_le] at h1 h2
  exact Int64.toInt_inj.mp (by omega)
theorem i64_tot {x y : Int64} (h : ¬ x ≤ y) : y ≤ x := by
  rw [Int64.le_iff_toInt_le] at h ⊢; omega
def qA (I : Nat → Nat → Int32) (R : Nat → Nat → Option Nat) (P : Rcp) (r : Nat) : Prop := RA R ∧ R 55 1 = some (58 + 6 * r) ∧ rwA3 I (58 + 6 * r) P r
section
variable {I : Nat → Nat → Int32} {J : Nat → Nat → Int64} {R : Nat → Nat → Option Nat} {b : Nat → Nat} {n : Nat} {σ σ2 : PS} {P : Rcp} {r : Nat}
theorem vcd_or : vcd b n σ = 263 ∨ vcd b n σ = 264 ∨ vcd b n σ = 265 ∨ vcd b n σ = 266 ∨ vcd b n σ = 267 ∨ vcd b n σ = 256 := by
  unfold vcd
  split
  · exact Or.inl rfl
  · split
    · exact Or.inr (Or.inl rfl)
    · split
      · exact Or.inr (Or.inr (Or.inl rfl))
      · split
        · exact Or.inr (Or.inr (Or.inr (Or.inl rfl)))
        · split
          · exact Or.inr (Or.inr (Or.inr (Or.inr (Or.inl rfl))))
          · exact Or.inr (Or.inr (Or.inr (Or.inr (Or.inr rfl))))
theorem a_valAt (hr : r < 10) (h : qA I R P r) (hv : ¬ vcd b n σ = 256) {k : Nat} (hk : k < rwL P r) : z_X4_valueAt SA (I, J, R) 55 (vcd b n σ) (nI k) (sml (rwG P r) (k + 1) 0 0) = some (vV b n σ (rwG P r) (rwL P r) k) := by
  obtain ⟨hR, h1, h6, ht, -⟩ := h
  have hl := rwL_le P r
  have k6 := (rwA_k (rwA_r hr)).1
  have tm : ∀ j, j < rwL P r → z_X6_termAt SA (I, J, R) (58 + 6 * r) (nI j) = some (rwG P r j) := fun j hj => by rw [a_tm hR (rwA_r hr) (show j < 60 by omega), ht j hj]
  unfold z_X4_valueAt
  rcases vcd_or (b := b) (n := n) (σ := σ) with e | e | e | e | e | e
  · rw [vV_3 e, e, if_pos rfl]
  · rw [vV_4 e, e, if_neg (show ¬ (264 : Int32) = 263 by decide), if_pos rfl]
    simp only [h1, b1_N, k6, ck_N, tm k hk]
  · rw [vV_5 e, e, if_neg (show ¬ (265 : Int32) = 263 by decide), if_neg (show ¬ (265 : Int32) = 264 by decide), if_pos rfl]
    by_cases c : k = 0
    · rw [if_pos c, if_pos (show nI k = 0 by rw [c]; rfl)]
    · rw [if_neg c, if_neg (nI_ne0 (by omega) (by omega)), show nI k - 1 = nI (k - 1) from nI_subn (b := 1) (by omega)]
      simp only [h1, b1_N, k6, ck_N, tm (k - 1) (by omega)]
  · rw [vV_6 e, e, if_neg (show ¬ (266 : Int32) = 263 by decide), if_neg (show ¬ (266 : Int32) = 264 by decide), if_neg (show ¬ (266 : Int32) = 265 by decide), if_pos rfl]
  · rw [vV_7 e, e, if_neg (show ¬ (267 : Int32) = 263 by decide), if_neg (show ¬ (267 : Int32) = 264 by decide), if_neg (show ¬ (267 : Int32) = 265 by decide), if_neg (show ¬ (267 : Int32) = 266 by decide)]
    have e6 : nI (rwL P r) - 1 - nI k = nI (rwL P r - 1 - k) := by rw [show nI (rwL P r) - 1 = nI (rwL P r - 1) from nI_subn (b := 1) (by omega), nI_subn (by omega)]
    simp only [h1, b1_N, k6, ck_N, h6, e6]
  · exact absurd e hv
theorem a_186 {K : fh_H → Int32 → Int32 → Int32 → Int32 → Int32 → Int64 → Int64 → Int32 → Option (Int64 × fh_H)} {hh : fh_H} {y1 y2 s y4 y5 : Int32} {m t x y : Int64} {k : Nat} (hs : s = -1 ∨ s = 0 ∨ s = 1) : z_X4_parseComparison_b158 SA 55 K hh y1 y2 s y4 y5 m t (nI k) x y = K hh y1 y2 s y4 y5 (if cm s x y = true then m ||| ((1 : Int64) <<< (Int32.toInt64 (nI k) &&& 63)) else m) t (nI (k + 1)) := by
  unfold z_X4_parseComparison_b158 z_X4_parseComparison_b186
  simp only [let_N, nI_1]
  have key : ∀ q : Int32, (if s = q then K hh y1 y2 s y4 y5 (m ||| ((1 : Int64) <<< (Int32.toInt64 (nI k) &&& 63))) t (nI (k + 1)) else K hh y1 y2 s y4 y5 m t (nI (k + 1))) = K hh y1 y2 s y4 y5 (if s = q then m ||| ((1 : Int64) <<< (Int32.toInt64 (nI k) &&& 63)) else m) t (nI (k + 1)) := fun q => by split <;> rfl
  rw [key, key, key]
  have m0 : ¬ (-1 : Int32) = 0 := by decide
  have m1 : ¬ (-1 : Int32) = 1 := by decide
  have z1 : ¬ (0 : Int32) = 1 := by decide
  have zm : ¬ (0 : Int32) = -1 := by decide
  have om : ¬ (1 : Int32) = -1 := by decide
  by_cases c1 : y ≤ x
  · rw [if_pos c1]
    by_cases c2 : x ≤ y
    · have e := i64_anti c2 c1
      rw [if_pos c2]
      congr 1
      rcases hs with rfl | rfl | rfl <;> unfold cm
      · rw [if_neg m0, if_pos rfl, decide_eq_false (fun z => z c1), if_neg (by decide)]
      · rw [if_pos rfl, if_neg zm, if_neg z1, decide_eq_true e, if_pos rfl]
      · rw [if_neg one0, if_neg om, if_pos rfl, decide_eq_false (fun z => z c2), if_neg (by decide)]
    · rw [if_neg c2]
      congr 1
      rcases hs with rfl | rfl | rfl <;> unfold cm
      · rw [if_neg m1, if_pos rfl, decide_eq_false (fun z => z c1), if_neg (by decide)]
      · rw [if_neg z1, if_neg zm, if_neg z1, decide_eq_false (fun e => c2 (by rw [e] at c1 ⊢; exact c1)), if_neg (by decide)]
      · rw [if_pos rfl, if_neg om, if_pos rfl, decide_eq_true c2, if_pos rfl]
  · rw [if_neg c1]
    have c2 := i64_tot c1
    congr 1
    rcases hs with rfl | rfl | rfl <;> unfold cm
    · rw [if_pos rfl, if_pos rfl, decide_eq_true c1, if_pos rfl]
    · rw [if_neg zm, if_neg zm, if_neg z1, decide_eq_false (fun e => c1 (by rw [e] at c2 ⊢; exact c2)), if_neg (by decide)]
    · rw [if_neg om, if_neg om, if_pos rfl, decide_eq_false (fun z => z c2), if_neg (by decide)]
end
