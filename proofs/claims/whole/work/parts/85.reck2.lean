/-! what is kept while it is reckoned -/
theorem n14 : ¬ (1 : Int32) = 4 := by decide
theorem n15 : ¬ (1 : Int32) = 5 := by decide
theorem n24 : ¬ (2 : Int32) = 4 := by decide
theorem n25 : ¬ (2 : Int32) = 5 := by decide
theorem n34 : ¬ (3 : Int32) = 4 := by decide
theorem n35 : ¬ (3 : Int32) = 5 := by decide
theorem i32_n (v : Int32) : -9000000000000000000 ≤ v.toInt64.toInt ∧ v.toInt64.toInt ≤ 9000000000000000000 := by
  rw [Int32.toInt_toInt64]
  have h1 := v.toInt_lt
  have h2 := v.le_toInt
  omega
theorem rd1_bd {A : H4} {v : Int32} (h : bd4 A) (hb : by1 A v.toInt64 = false) : bd4 (rd1 A v.toInt64) := by
  simp only [by1, Bool.or_eq_false_iff] at hb
  exact ⟨(bey_ok (i32_n v) h.2.2.1 hb.1).2, (bey_ok (i32_n v) h.2.2.2 hb.2).2, h.1, h.2.1⟩
theorem rd2_bd {A : H4} {v : Int32} (h : bd4 A) (hb : by2 A v.toInt64 = false) : bd4 (rd2 A v.toInt64) := by
  simp only [by2, Bool.or_eq_false_iff] at hb
  exact ⟨(bey_ok (i32_n v) h.2.1 hb.1).2, h.1, (bey_ok (i32_n v) h.2.2.2 hb.2).2, h.2.2.1⟩
theorem big_rng {q : Int64} (h : big q = false) : -1000000000 ≤ q.toInt ∧ q.toInt ≤ 1000000000 := by
  simp only [big, Bool.or_eq_false_iff, decide_eq_false_iff_not, Int64.lt_iff_toInt_lt] at h
  have e3 : (-1000000000 : Int64).toInt = -1000000000 := rfl
  have e4 : (1000000000 : Int64).toInt = 1000000000 := rfl
  omega
theorem big_neg {q : Int64} (h : big q = false) : -9000000000000000000 ≤ (-q).toInt ∧ (-q).toInt ≤ 9000000000000000000 := by
  have := big_rng h
  rw [i64_neg (by omega)]; omega
theorem lo4_bd {A B : H4} {q : Int64} (h : bd4 A) (hq : big q = false) (hb : byL A B q = false) : bd4 (lo4 A B q) := by
  simp only [byL, Bool.or_eq_false_iff] at hb
  have hn := big_neg hq
  exact ⟨(bey_ok hn h.1 hb.1.1.1).2, (bey_ok hn h.2.1 hb.1.1.2).2, (bey_ok hn h.2.2.1 hb.1.2).2, (bey_ok hn h.2.2.2 hb.2).2⟩
theorem z64 (n : Int64) : (0 : Int64) * n + 0 = 0 := by simp
theorem rX_ok {two : Bool} {X Y : List Int32 × Int32} {A B : H4} {x y s : Nat} {e2 tk : Bool} (h : rOK two X Y (A, B, x, y, s, false, e2, tk)) (hs : s < 100) (hc : (rX X A B x y s false e2).1 = 4) : rOK two X Y (rX X A B x y s false e2).2 := by
  obtain ⟨hA, hB, hx, hy, -, -, h2, h3⟩ := h
  unfold rX at hc ⊢
  by_cases hl : x < X.1.length
  · rw [if_pos hl] at hc ⊢
    have hb : (by1 A (X.1.getD x 0).toInt64 || by1 B (X.1.getD x 0).toInt64) = false := by
      cases hq : (by1 A (X.1.getD x 0).toInt64 || by1 B (X.1.getD x 0).toInt64)
      · rfl
      · rw [hq] at hc; exact absurd hc n24
    rw [Bool.or_eq_false_iff] at hb
    refine ⟨rd1_bd hA hb.1, rd1_bd hB hb.2, by omega, hy, by omega, fun h => by simp at h, fun t e => ?_, fun t => ?_⟩
    · obtain ⟨a1, a2, a3, a4⟩ := h2 t e
      simp only [rd1, a1, a2, a3, a4, and_self]
    · obtain ⟨a0, a1, a2, a3, a4, a5⟩ := h3 t
      simp only [rd1, a0, a1, a2, a3, a4, a5, z64, and_self]
  · rw [if_neg hl] at hc ⊢
    by_cases he : X.2 = 1
    · rw [if_pos he]
      refine ⟨⟨hA.1, hA.2.1, hA.1, hA.2.1⟩, ⟨hB.1, hB.2.1, hB.1, hB.2.1⟩, hx, hy, by omega, fun _ => ⟨rfl, rfl, rfl, rfl⟩, fun t e => ?_, fun t => ?_⟩
      · obtain ⟨a1, a2, a3, a4⟩ := h2 t e
        exact ⟨a1, a1, a3, a3⟩
      · obtain ⟨a0, a1, a2, a3, a4, a5⟩ := h3 t
        exact ⟨a0, a1, a2, a2, a4, a4⟩
    · rw [if_neg he] at hc; exact absurd hc n34
theorem rY_ok {X Y : List Int32 × Int32} {A B : H4} {x y s : Nat} {e1 tk : Bool} (h : rOK true X Y (A, B, x, y, s, e1, false, tk)) (hs : s < 100) (hc : (rY Y A B x y s e1 false).1 = 4) : rOK true X Y (rY Y A B x y s e1 false).2 := by
  obtain ⟨hA, hB, hx, hy, -, h1, -, -⟩ := h
  have hy := hy rfl
  unfold rY at hc ⊢
  by_cases hl : y < Y.1.length
  · rw [if_pos hl] at hc ⊢
    have hb : (by2 A (Y.1.getD y 0).toInt64 || by2 B (Y.1.getD y 0).toInt64) = false := by
      cases hq : (by2 A (Y.1.getD y 0).toInt64 || by2 B (Y.1.getD y 0).toInt64)
      · rfl
      · rw [hq] at hc; exact absurd hc n24
    rw [Bool.or_eq_false_iff] at hb
    refine ⟨rd2_bd hA hb.1, rd2_bd hB hb.2, hx, fun _ => by omega, by omega, fun e => ?_, fun t e => by simp at e, fun t => by simp at t⟩
    obtain ⟨a1, a2, a3, a4⟩ := h1 e
    simp only [rd2, a1, a2, a3, a4, and_self]
  · rw [if_neg hl] at hc ⊢
    by_cases he : Y.2 = 1
    · rw [if_pos he]
      refine ⟨⟨hA.1, hA.1, hA.2.2.1, hA.2.2.1⟩, ⟨hB.1, hB.1, hB.2.2.1, hB.2.2.1⟩, hx, fun _ => hy, by omega, fun e => ?_, fun _ _ => ⟨rfl, rfl, rfl, rfl⟩, fun t => by simp at t⟩
      obtain ⟨a1, a2, a3, a4⟩ := h1 e
      exact ⟨a1, a1, a3, a3⟩
    · rw [if_neg he] at hc; exact absurd hc n34
theorem lo_ok {two : Bool} {X Y : List Int32 × Int32} {A B : H4} {x y s : Nat} {e1 e2 tk : Bool} {q : Int64} (h : rOK two X Y (A, B, x, y, s, e1, e2, tk)) (hq : big q = false) (hb : byL A B q = false) : rOK two X Y (B, lo4 A B q, x, y, 0, e1, e2, tk) := by
  obtain ⟨hA, hB, hx, hy, -, h1, h2, h3⟩ := h
  refine ⟨hB, lo4_bd hA hq hb, hx, hy, by omega, fun e => ?_, fun t e => ?_, fun t => ?_⟩
  · obtain ⟨a1, a2, a3, a4⟩ := h1 e
    simp only [lo4, a1, a2, a3, a4, and_self]
  · obtain ⟨a1, a2, a3, a4⟩ := h2 t e
    simp only [lo4, a1, a2, a3, a4, and_self]
  · obtain ⟨a0, a1, a2, a3, a4, a5⟩ := h3 t
    simp only [lo4, a0, a1, a2, a3, a4, a5, z64, and_self]
theorem fl_uni {P Q V W : Int} (hQ : 0 < Q) (h1 : V * Q ≤ P) (h2 : P < V * Q + Q) (h3 : W * Q ≤ P) (h4 : P < W * Q + Q) : V = W := by
  rcases Int.lt_trichotomy V W with h | h | h
  · have := Int.mul_nonneg (show 0 ≤ W - V - 1 by omega) (show 0 ≤ Q by omega)
    have e : (W - V - 1) * Q = W * Q - V * Q - Q := by grind
    omega
  · exact h
  · have := Int.mul_nonneg (show 0 ≤ V - W - 1 by omega) (show 0 ≤ Q by omega)
    have e : (V - W - 1) * Q = V * Q - W * Q - Q := by grind
    omega
/-- rounding down doesn't change, if both numbers are taken k times -/
theorem fd_mul {p q P Q : Int64} {k : Int} (hk : 1 ≤ k ∧ k ≤ 4) (hp : bd p) (hq : bd q) (h0 : q.toInt ≠ 0) (eP : P.toInt = k * p.toInt) (eQ : Q.toInt = k * q.toInt) : fd p q = fd P Q := by
  apply Int64.toInt_inj.mp
  obtain ⟨p1, p2⟩ := hp
  have hPr := mul_rng (A := 4) (B := 1000000000000000) (a := k) (b := p.toInt) (by omega) (by omega)
  rcases Int.lt_or_gt_of_ne h0 with hn | hp0
  · obtain ⟨a, b⟩ := fd_neg (p := p) (q := q) (by omega) hn
    have hQ : Q.toInt < 0 := by
      have := Int.mul_pos (show 0 < k by omega) (show 0 < -q.toInt by omega)
      have e : k * -q.toInt = -(k * q.toInt) := by grind
      omega
    obtain ⟨c, d⟩ := fd_neg (p := P) (q := Q) (by omega) hQ
    generalize (fd p q).toInt = V at *
    generalize (fd P Q).toInt = W at *
    rw [eP, eQ] at c d
    have c1 := Int.mul_nonneg (show 0 ≤ k by omega) (show 0 ≤ V * q.toInt - p.toInt by omega)
    have e1 : k * (V * q.toInt - p.toInt) = V * (k * q.toInt) - k * p.toInt := by grind
    have c2 := Int.mul_pos (show 0 < k by omega) (show 0 < p.toInt - V * q.toInt - q.toInt by omega)
    have e2 : k * (p.toInt - V * q.toInt - q.toInt) = k * p.toInt - V * (k * q.toInt) - k * q.toInt := by grind
    refine fl_uni (P := -(k * p.toInt)) (Q := -(k * q.toInt)) (by omega) ?_ ?_ ?_ ?_
    · have : V * -(k * q.toInt) = -(V * (k * q.toInt)) := by grind
      omega
    · have : V * -(k * q.toInt) = -(V * (k * q.toInt)) := by grind
      omega
    · have : W * -(k * q.toInt) = -(W * (k * q.toInt)) := by grind
      omega
    · have : W * -(k * q.toInt) = -(W * (k * q.toInt)) := by grind
      omega
  · obtain ⟨a, b⟩ := fd_pos (p := p) (q := q) (by omega) hp0
    have hQ : 0 < Q.toInt := by
      have := Int.mul_pos (show 0 < k by omega) hp0
      omega
    obtain ⟨c, d⟩ := fd_pos (p := P) (q := Q) (by omega) hQ
    generalize (fd p q).toInt = V at *
    generalize (fd P Q).toInt = W at *
    rw [eP, eQ] at c d
    have c1 := Int.mul_nonneg (show 0 ≤ k by omega) (show 0 ≤ p.toInt - V * q.toInt by omega)
    have e1 : k * (p.toInt - V * q.toInt) = k * p.toInt - V * (k * q.toInt) := by grind
    have c2 := Int.mul_pos (show 0 < k by omega) (show 0 < V * q.toInt + q.toInt - p.toInt by omega)
    have e2 : k * (V * q.toInt + q.toInt - p.toInt) = V * (k * q.toInt) + k * q.toInt - k * p.toInt := by grind
    exact fl_uni (P := k * p.toInt) (Q := k * q.toInt) (by omega) (by omega) (by omega) c d
theorem bd_2 {a : Int64} (h : bd a) : (a + a).toInt = 2 * a.toInt := by
  obtain ⟨h1, h2⟩ := h
  rw [i64_add (by omega) (by omega)]; omega
theorem bd_4 {a : Int64} (h : bd a) : (a + a + a + a).toInt = 4 * a.toInt := by
  have h0 := h
  obtain ⟨h1, h2⟩ := h
  have e3 : (a + a + a).toInt = 3 * a.toInt := by
    have := bd_2 h0
    rw [i64_add (by omega) (by omega)]; omega
  rw [i64_add (by omega) (by omega)]; omega
theorem sg_of {e a b c : Int64} (h0 : e.toInt ≠ 0) (ha : ∃ k : Int, 1 ≤ k ∧ a.toInt = k * e.toInt) (hb : ∃ k : Int, 1 ≤ k ∧ b.toInt = k * e.toInt) (hc : ∃ k : Int, 1 ≤ k ∧ c.toInt = k * e.toInt) : (0 < e ∧ 0 < a ∧ 0 < b ∧ 0 < c) ∨ (e < 0 ∧ a < 0 ∧ b < 0 ∧ c < 0) := by
  have z : (0 : Int64).toInt = 0 := rfl
  simp only [Int64.lt_iff_toInt_lt, z]
  obtain ⟨k1, p1, e1⟩ := ha
  obtain ⟨k2, p2, e2⟩ := hb
  obtain ⟨k3, p3, e3⟩ := hc
  rw [e1, e2, e3]
  rcases Int.lt_or_gt_of_ne h0 with hn | hp0
  · right
    have f : ∀ k : Int, 1 ≤ k → k * e.toInt < 0 := fun k hk => by
      have := Int.mul_pos (show 0 < k by omega) (show 0 < -e.toInt by omega)
      have e : k * -e.toInt = -(k * e.toInt) := by grind
      omega
    exact ⟨hn, f _ p1, f _ p2, f _ p3⟩
  · left
    exact ⟨hp0, Int.mul_pos (by omega) hp0, Int.mul_pos (by omega) hp0, Int.mul_pos (by omega) hp0⟩
/-- once both ended, it is sure or it ends -/
theorem both_sure {two : Bool} {X Y : List Int32 × Int32} {A B : H4} {x y s : Nat} {tk : Bool} (h : rOK two X Y (A, B, x, y, s, true, true, tk)) (h0 : ¬ B.1 = 0) : sur A B x y true true = true := by
  obtain ⟨hA, hB, -, -, -, h1, h2, h3⟩ := h
  have hb0 : B.1.toInt ≠ 0 := fun e => h0 (Int64.toInt_inj.mp (by rw [e]; rfl))
  have g1 := h1 rfl
  unfold sur sg4 eq4
  simp only [Bool.true_or, Bool.true_and, Bool.and_eq_true, Bool.or_eq_true, decide_eq_true_eq]
  cases two with
  | true =>
    have g2 := h2 rfl rfl
    have eA : A = (A.1, A.1, A.1, A.1) := by
      obtain ⟨a, b, c, d⟩ := A
      simp only at g1 g2 ⊢
      rw [← g1.1, ← g2.1, ← g1.2.1, ← g2.1]
    have eB : B = (B.1, B.1, B.1, B.1) := by
      obtain ⟨a, b, c, d⟩ := B
      simp only at g1 g2 ⊢
      rw [← g1.2.2.1, ← g2.2.2.1, ← g1.2.2.2, ← g2.2.2.1]
    have a0 := hA.1
    have b0 := hB.1
    rw [eA, eB]
    simp only
    refine ⟨sg_of hb0 ⟨2, by omega, bd_2 b0⟩ ⟨2, by omega, bd_2 b0⟩ ⟨4, by omega, bd_4 b0⟩, ?_, ?_, ?_⟩
    · exact fd_mul (k := 2) (by omega) a0 b0 hb0 (bd_2 a0) (bd_2 b0)
    · exact fd_mul (k := 2) (by omega) a0 b0 hb0 (bd_2 a0) (bd_2 b0)
    · exact fd_mul (k := 4) (by omega) a0 b0 hb0 (bd_4 a0) (bd_4 b0)
  | false =>
    obtain ⟨-, -, g2, g3, g4, g5⟩ := h3 rfl
    have eA : A = (A.1, 0, A.1, 0) := by
      obtain ⟨a, b, c, d⟩ := A
      simp only at g1 g2 g3 ⊢
      rw [g1.1, g2, g3]
    have eB : B = (B.1, 0, B.1, 0) := by
      obtain ⟨a, b, c, d⟩ := B
      simp only at g1 g4 g5 ⊢
      rw [g1.2.2.1, g4, g5]
    have a0 := hA.1
    have b0 := hB.1
    rw [eA, eB]
    simp only [Int64.add_zero]
    refine ⟨sg_of hb0 ⟨1, by omega, by omega⟩ ⟨2, by omega, bd_2 b0⟩ ⟨2, by omega, bd_2 b0⟩, trivial, ?_, ?_⟩
    · exact fd_mul (k := 2) (by omega) a0 b0 hb0 (bd_2 a0) (bd_2 b0)
    · exact fd_mul (k := 2) (by omega) a0 b0 hb0 (bd_2 a0) (bd_2 b0)
/-- what is left to be read -/
def rmu (two : Bool) (X Y : List Int32 × Int32) (σ : rS) : Nat := match σ with
  | (_, _, x, y, _, e1, e2, _) => (X.1.length - x) + (if two then Y.1.length - y else 0) + (if e1 then 0 else 1) + (if e2 then 0 else 1)
theorem r1_ok {two : Bool} {X Y : List Int32 × Int32} {A B : H4} {x y s : Nat} {e1 e2 tk : Bool} (h : rOK two X Y (A, B, x, y, s, e1, e2, tk)) :
    ((r1 X Y A B x y s e1 e2 tk).1 = 1 ∨ (r1 X Y A B x y s e1 e2 tk).1 = 2 ∨ (r1 X Y A B x y s e1 e2 tk).1 = 3) ∨
    ((r1 X Y A B x y s e1 e2 tk).1 = 4 ∧ rOK two X Y (r1 X Y A B x y s e1 e2 tk).2 ∧ rmu two X Y (r1 X Y A B x y s e1 e2 tk).2 < rmu two X Y (A, B, x, y, s, e1, e2, tk)) ∨
    ((r1 X Y A B x y s e1 e2 tk).1 = 5 ∧ rOK two X Y (r1 X Y A B x y s e1 e2 tk).2 ∧ rmu two X Y (r1 X Y A B x y s e1 e2 tk).2 = rmu two X Y (A, B, x, y, s, e1, e2, tk)) := by
  unfold r1
  by_cases c1 : e1 = true ∧ e2 = true ∧ B.1 = 0
  · rw [if_pos c1]; exact Or.inl (Or.inl rfl)
  rw [if_neg c1]
  by_cases c2 : sur A B x y e1 e2 = true
  · rw [if_pos c2]
    by_cases c3 : (big (fd A.1 B.1) || byL A B (fd A.1 B.1)) = true
    · rw [if_pos c3]; exact Or.inl (Or.inr (Or.inl rfl))
    · rw [if_neg c3]
      rw [Bool.not_eq_true, Bool.or_eq_false_iff] at c3
      exact Or.inr (Or.inr ⟨rfl, lo_ok h c3.1 c3.2, rfl⟩)
  rw [if_neg c2]
  by_cases c3 : 100 ≤ s
  · rw [if_pos c3]; exact Or.inl (Or.inr (Or.inr rfl))
  rw [if_neg c3]
  by_cases c4 : nxf e1 e2 tk = true
  · rw [if_pos c4]
    have he : e1 = false := by
      cases e1
      · rfl
      · simp [nxf] at c4
    subst he
    by_cases c5 : (rX X A B x y s false e2).1 = 4
    · refine Or.inr (Or.inl ⟨c5, rX_ok h (by omega) c5, ?_⟩)
      unfold rX at c5 ⊢
      by_cases hl : x < X.1.length
      · simp only [if_pos hl, rmu]; omega
      · rw [if_neg hl] at c5 ⊢
        by_cases he : X.2 = 1
        · simp only [if_pos he, rmu, if_true, Bool.false_eq_true, if_false]; omega
        · rw [if_neg he] at c5; exact absurd c5 n34
    · left
      unfold rX at c5 ⊢
      by_cases hl : x < X.1.length
      · simp only [if_pos hl] at c5 ⊢
        split at c5
        · rename_i hq; rw [if_pos hq]; exact Or.inr (Or.inl rfl)
        · exact absurd rfl c5
      · rw [if_neg hl] at c5 ⊢
        by_cases he : X.2 = 1
        · rw [if_pos he] at c5; exact absurd rfl c5
        · rw [if_neg he]; exact Or.inr (Or.inr rfl)
  · rw [if_neg c4]
    have he : e2 = false := by
      cases e2
      · rfl
      · cases e1
        · simp [nxf] at c4
        · exact absurd (both_sure h (fun q => c1 ⟨rfl, rfl, q⟩)) c2
    subst he
    have ht : two = true := by
      cases two
      · have := (h.2.2.2.2.2.2.2 rfl).1; cases this
      · rfl
    subst ht
    by_cases c5 : (rY Y A B x y s e1 false).1 = 4
    · refine Or.inr (Or.inl ⟨c5, rY_ok h (by omega) c5, ?_⟩)
      unfold rY at c5 ⊢
      by_cases hl : y < Y.1.length
      · simp only [if_pos hl, rmu, if_true]; omega
      · rw [if_neg hl] at c5 ⊢
        by_cases he : Y.2 = 1
        · simp only [if_pos he, rmu, if_true, Bool.false_eq_true, if_false]; omega
        · rw [if_neg he] at c5; exact absurd c5 n34
    · left
      unfold rY at c5 ⊢
      by_cases hl : y < Y.1.length
      · simp only [if_pos hl] at c5 ⊢
        split at c5
        · rename_i hq; rw [if_pos hq]; exact Or.inr (Or.inl rfl)
        · exact absurd rfl c5
      · rw [if_neg hl] at c5 ⊢
        by_cases he : Y.2 = 1
        · rw [if_pos he] at c5; exact absurd rfl c5
        · rw [if_neg he]; exact Or.inr (Or.inr rfl)
