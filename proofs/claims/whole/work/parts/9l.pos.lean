/-! terms behind the first are 1 at least -/
def pr (u v : Int) : Prop := 0 ≤ v ∧ v < u
abbrev Z4 : Type := Int × Int × Int × Int
def z4 (e : Int) (A : H4) : Z4 := (e * A.1.toInt, e * A.2.1.toInt, e * A.2.2.1.toInt, e * A.2.2.2.toInt)
def gz (A B : Z4) : Prop := pr A.1 B.1 ∧ pr (A.1 + A.2.1) (B.1 + B.2.1) ∧ pr (A.1 + A.2.2.1) (B.1 + B.2.2.1) ∧ pr (A.1 + A.2.1 + A.2.2.1 + A.2.2.2) (B.1 + B.2.1 + B.2.2.1 + B.2.2.2)
def gd (A B : H4) : Prop := ∃ e : Int, (e = 1 ∨ e = -1) ∧ gz (z4 e A) (z4 e B)
theorem comb {a b c d n : Int} (hn : 1 ≤ n) (h0 : pr a b) (h2 : pr (a + c) (b + d)) : pr (a * n + c) (b * n + d) ∧ pr (a * n + c + a) (b * n + d + b) := by
  obtain ⟨m, hm⟩ : ∃ m, n = m + 1 := ⟨n - 1, by omega⟩
  subst hm
  have hm : 0 ≤ m := by omega
  obtain ⟨p1, p2⟩ := h0
  obtain ⟨p3, p4⟩ := h2
  have q1 := Int.mul_nonneg p1 hm
  have q2 := Int.mul_nonneg (show 0 ≤ a - b by omega) hm
  rw [Int.sub_mul] at q2
  rw [Int.mul_add, Int.mul_one, Int.mul_add, Int.mul_one]
  unfold pr
  omega
def rz1 (A : Z4) (n : Int) : Z4 := (A.1 * n + A.2.2.1, A.2.1 * n + A.2.2.2, A.1, A.2.1)
def rz2 (A : Z4) (n : Int) : Z4 := (A.1 * n + A.2.1, A.1, A.2.2.1 * n + A.2.2.2, A.2.2.1)
theorem pr_e {u v u' v' : Int} (h : pr u v) (e1 : u' = u) (e2 : v' = v) : pr u' v' := by rw [e1, e2]; exact h
theorem gz_r1 {A B : Z4} {n : Int} (hn : 1 ≤ n) (h : gz A B) : gz (rz1 A n) (rz1 B n) := by
  obtain ⟨a, b, c, d⟩ := A
  obtain ⟨a', b', c', d'⟩ := B
  obtain ⟨h0, h1, h2, h3⟩ := h
  dsimp only at h0 h1 h2 h3
  have k0 := comb hn h0 h2
  have k1 := comb (c := c + d) (d := c' + d') hn h1 (pr_e h3 (by omega) (by omega))
  have e1 : (a + b) * n = a * n + b * n := Int.add_mul _ _ _
  have e2 : (a' + b') * n = a' * n + b' * n := Int.add_mul _ _ _
  exact ⟨k0.1, pr_e k1.1 (by dsimp only [rz1]; omega) (by dsimp only [rz1]; omega), k0.2, pr_e k1.2 (by dsimp only [rz1]; omega) (by dsimp only [rz1]; omega)⟩
theorem gz_r2 {A B : Z4} {n : Int} (hn : 1 ≤ n) (h : gz A B) : gz (rz2 A n) (rz2 B n) := by
  obtain ⟨a, b, c, d⟩ := A
  obtain ⟨a', b', c', d'⟩ := B
  obtain ⟨h0, h1, h2, h3⟩ := h
  dsimp only at h0 h1 h2 h3
  have k0 := comb hn h0 h1
  have k1 := comb (c := b + d) (d := b' + d') hn h2 (pr_e h3 (by omega) (by omega))
  have e1 : (a + c) * n = a * n + c * n := Int.add_mul _ _ _
  have e2 : (a' + c') * n = a' * n + c' * n := Int.add_mul _ _ _
  exact ⟨k0.1, k0.2, pr_e k1.1 (by dsimp only [rz2]; omega) (by dsimp only [rz2]; omega), pr_e k1.2 (by dsimp only [rz2]; omega) (by dsimp only [rz2]; omega)⟩
theorem e_lin (e a n c : Int) : e * (a * n + c) = e * a * n + e * c := by rw [Int.mul_add, Int.mul_assoc]
theorem z4_r1 {A : H4} {v : Int32} {e : Int} (h : bd4 A) (hb : by1 A v.toInt64 = false) : z4 e (rd1 A v.toInt64) = rz1 (z4 e A) v.toInt := by
  obtain ⟨h1, h2, h3, h4⟩ := h
  unfold by1 at hb
  rw [Bool.or_eq_false_iff] at hb
  have e1 := (bey_ok (i32_n v) h3 hb.1).1
  have e2 := (bey_ok (i32_n v) h4 hb.2).1
  rw [Int32.toInt_toInt64] at e1 e2
  unfold z4 rd1 rz1
  dsimp only
  rw [e1, e2, e_lin, e_lin]
theorem z4_r2 {A : H4} {v : Int32} {e : Int} (h : bd4 A) (hb : by2 A v.toInt64 = false) : z4 e (rd2 A v.toInt64) = rz2 (z4 e A) v.toInt := by
  obtain ⟨h1, h2, h3, h4⟩ := h
  unfold by2 at hb
  rw [Bool.or_eq_false_iff] at hb
  have e1 := (bey_ok (i32_n v) h2 hb.1).1
  have e2 := (bey_ok (i32_n v) h4 hb.2).1
  rw [Int32.toInt_toInt64] at e1 e2
  unfold z4 rd2 rz2
  dsimp only
  rw [e1, e2, e_lin, e_lin]
theorem gd_r1 {A B : H4} {v : Int32} (hA : bd4 A) (hB : bd4 B) (h1 : by1 A v.toInt64 = false) (h2 : by1 B v.toInt64 = false) (hv : 1 ≤ v.toInt) (h : gd A B) : gd (rd1 A v.toInt64) (rd1 B v.toInt64) := by
  obtain ⟨e, he, g⟩ := h
  exact ⟨e, he, by rw [z4_r1 hA h1, z4_r1 hB h2]; exact gz_r1 hv g⟩
theorem gd_r2 {A B : H4} {v : Int32} (hA : bd4 A) (hB : bd4 B) (h1 : by2 A v.toInt64 = false) (h2 : by2 B v.toInt64 = false) (hv : 1 ≤ v.toInt) (h : gd A B) : gd (rd2 A v.toInt64) (rd2 B v.toInt64) := by
  obtain ⟨e, he, g⟩ := h
  exact ⟨e, he, by rw [z4_r2 hA h1, z4_r2 hB h2]; exact gz_r2 hv g⟩
def ez1 (A : Z4) : Z4 := (A.1, A.2.1, A.1, A.2.1)
def ez2 (A : Z4) : Z4 := (A.1, A.1, A.2.2.1, A.2.2.1)
theorem gz_e1 {A B : Z4} (h : gz A B) : gz (ez1 A) (ez1 B) := by
  obtain ⟨a, b, c, d⟩ := A
  obtain ⟨a', b', c', d'⟩ := B
  obtain ⟨⟨h0, h0'⟩, ⟨h1, h1'⟩, h2, h3⟩ := h
  dsimp only at h0 h0' h1 h1'
  exact ⟨⟨h0, h0'⟩, ⟨h1, h1'⟩, ⟨by dsimp only [ez1]; omega, by dsimp only [ez1]; omega⟩, ⟨by dsimp only [ez1]; omega, by dsimp only [ez1]; omega⟩⟩
theorem gz_e2 {A B : Z4} (h : gz A B) : gz (ez2 A) (ez2 B) := by
  obtain ⟨a, b, c, d⟩ := A
  obtain ⟨a', b', c', d'⟩ := B
  obtain ⟨⟨h0, h0'⟩, h1, ⟨h2, h2'⟩, h3⟩ := h
  dsimp only at h0 h0' h2 h2'
  exact ⟨⟨h0, h0'⟩, ⟨by dsimp only [ez2]; omega, by dsimp only [ez2]; omega⟩, ⟨h2, h2'⟩, ⟨by dsimp only [ez2]; omega, by dsimp only [ez2]; omega⟩⟩
theorem z4_e1 (e : Int) (A : H4) : z4 e (en1 A) = ez1 (z4 e A) := by
  obtain ⟨a, b, c, d⟩ := A
  rfl
theorem z4_e2 (e : Int) (A : H4) : z4 e (en2 A) = ez2 (z4 e A) := by
  obtain ⟨a, b, c, d⟩ := A
  rfl
theorem gd_e1 {A B : H4} (h : gd A B) : gd (en1 A) (en1 B) := by
  obtain ⟨e, he, g⟩ := h
  exact ⟨e, he, by rw [z4_e1, z4_e1]; exact gz_e1 g⟩
theorem gd_e2 {A B : H4} (h : gd A B) : gd (en2 A) (en2 B) := by
  obtain ⟨e, he, g⟩ := h
  exact ⟨e, he, by rw [z4_e2, z4_e2]; exact gz_e2 g⟩
theorem s2 {a b : Int64} (ha : bd a) (hb : bd b) : (a + b).toInt = a.toInt + b.toInt := by
  obtain ⟨a1, a2⟩ := ha
  obtain ⟨b1, b2⟩ := hb
  exact i64_add (by omega) (by omega)
theorem s4 {a b c d : Int64} (ha : bd a) (hb : bd b) (hc : bd c) (hd : bd d) : (a + b + c + d).toInt = a.toInt + b.toInt + c.toInt + d.toInt := by
  have e1 := s2 ha hb
  obtain ⟨a1, a2⟩ := ha
  obtain ⟨b1, b2⟩ := hb
  obtain ⟨c1, c2⟩ := hc
  obtain ⟨d1, d2⟩ := hd
  have e2 : (a + b + c).toInt = a.toInt + b.toInt + c.toInt := by rw [i64_add (by omega) (by omega), e1]
  rw [i64_add (by omega) (by omega), e2]
theorem gd_lo {A B : H4} {x y : Nat} {e1 e2 : Bool} (hA : bd4 A) (hB : bd4 B) (hs : sur A B x y e1 e2 = true) (hq : big (fd A.1 B.1) = false) (hb : byL A B (fd A.1 B.1) = false) : gd B (lo4 A B (fd A.1 B.1)) := by
  obtain ⟨a, b, c, d⟩ := A
  obtain ⟨a', b', c', d'⟩ := B
  dsimp only at *
  unfold sur at hs
  rw [Bool.and_eq_true, Bool.and_eq_true] at hs
  obtain ⟨⟨-, hsg⟩, heq⟩ := hs
  unfold eq4 at heq
  rw [decide_eq_true_eq] at heq
  dsimp only at heq
  obtain ⟨q1, q2, q3⟩ := heq
  generalize hQ : fd a a' = q at *
  have hqr := big_rng hq
  have hqn := big_neg hq
  have nq : (-q).toInt = -q.toInt := i64_neg (by omega)
  unfold byL at hb
  rw [Bool.or_eq_false_iff, Bool.or_eq_false_iff, Bool.or_eq_false_iff] at hb
  obtain ⟨⟨⟨b1, b2⟩, b3⟩, b4⟩ := hb
  dsimp only at b1 b2 b3 b4
  obtain ⟨A1, A2, A3, A4⟩ := hA
  obtain ⟨B1, B2, B3, B4⟩ := hB
  dsimp only at A1 A2 A3 A4 B1 B2 B3 B4
  have l1 := (bey_ok hqn A1 b1).1
  have l2 := (bey_ok hqn A2 b2).1
  have l3 := (bey_ok hqn A3 b3).1
  have l4 := (bey_ok hqn A4 b4).1
  rw [nq, Int.mul_neg] at l1 l2 l3 l4
  have sA := s2 A1 A2
  have sA3 := s2 A1 A3
  have sA4 := s4 A1 A2 A3 A4
  have sB := s2 B1 B2
  have sB3 := s2 B1 B3
  have sB4 := s4 B1 B2 B3 B4
  have m1 : q.toInt * (a'.toInt + b'.toInt) = a'.toInt * q.toInt + b'.toInt * q.toInt := by rw [Int.mul_comm, Int.add_mul]
  have m2 : q.toInt * (a'.toInt + c'.toInt) = a'.toInt * q.toInt + c'.toInt * q.toInt := by rw [Int.mul_comm, Int.add_mul]
  have m3 : q.toInt * (a'.toInt + b'.toInt + c'.toInt + d'.toInt) = a'.toInt * q.toInt + b'.toInt * q.toInt + c'.toInt * q.toInt + d'.toInt * q.toInt := by rw [Int.mul_comm, Int.add_mul, Int.add_mul, Int.add_mul]
  have m0 : q.toInt * a'.toInt = a'.toInt * q.toInt := Int.mul_comm _ _
  obtain ⟨rA1, rA2⟩ := A1
  obtain ⟨rA3, rA4⟩ := A2
  obtain ⟨rA5, rA6⟩ := A3
  obtain ⟨rA7, rA8⟩ := A4
  have z : (0 : Int64).toInt = 0 := rfl
  unfold sg4 at hsg
  rw [Bool.or_eq_true, decide_eq_true_eq, decide_eq_true_eq] at hsg
  dsimp only at hsg
  rcases hsg with ⟨g1, g2, g3, g4⟩ | ⟨g1, g2, g3, g4⟩
  · rw [Int64.lt_iff_toInt_lt, z] at g1 g2 g3 g4
    have f1 := fd_pos (p := a) (q := a') (by omega) g1
    have f2 := fd_pos (p := a + b) (q := a' + b') (by omega) g2
    have f3 := fd_pos (p := a + c) (q := a' + c') (by omega) g3
    have f4 := fd_pos (p := a + b + c + d) (q := a' + b' + c' + d') (by omega) g4
    rw [hQ, m0] at f1
    rw [← q1, sA, sB, m1] at f2
    rw [← q2, sA3, sB3, m2] at f3
    rw [← q3, sA4, sB4, m3] at f4
    refine ⟨1, Or.inl rfl, ?_, ?_, ?_, ?_⟩ <;> unfold pr z4 lo4 <;> dsimp only <;> simp only [Int.one_mul, l1, l2, l3, l4] <;> omega
  · rw [Int64.lt_iff_toInt_lt, z] at g1 g2 g3 g4
    have f1 := fd_neg (p := a) (q := a') (by omega) g1
    have f2 := fd_neg (p := a + b) (q := a' + b') (by omega) g2
    have f3 := fd_neg (p := a + c) (q := a' + c') (by omega) g3
    have f4 := fd_neg (p := a + b + c + d) (q := a' + b' + c' + d') (by omega) g4
    rw [hQ, m0] at f1
    rw [← q1, sA, sB, m1] at f2
    rw [← q2, sA3, sB3, m2] at f3
    rw [← q3, sA4, sB4, m3] at f4
    refine ⟨-1, Or.inr rfl, ?_, ?_, ?_, ?_⟩ <;> unfold pr z4 lo4 <;> dsimp only <;> simp only [Int.neg_mul, Int.one_mul, l1, l2, l3, l4] <;> omega
theorem sur_b {A B : H4} {x y : Nat} {e1 e2 : Bool} (hs : sur A B x y e1 e2 = true) : (e1 = true ∨ 0 < x) ∧ (e2 = true ∨ 0 < y) ∧ B.1.toInt ≠ 0 := by
  unfold sur at hs
  rw [Bool.and_eq_true, Bool.and_eq_true, Bool.and_eq_true, Bool.or_eq_true, Bool.or_eq_true, decide_eq_true_eq, decide_eq_true_eq] at hs
  obtain ⟨⟨⟨h1, h2⟩, h3⟩, -⟩ := hs
  refine ⟨h1, h2, fun e => ?_⟩
  unfold sg4 at h3
  rw [Bool.or_eq_true, decide_eq_true_eq, decide_eq_true_eq] at h3
  have z : (0 : Int64).toInt = 0 := rfl
  rcases h3 with ⟨g, -⟩ | ⟨g, -⟩
  · rw [Int64.lt_iff_toInt_lt, z] at g; omega
  · rw [Int64.lt_iff_toInt_lt, z] at g; omega
theorem gd_one {A B : H4} (hA : bd4 A) (h : gd A B) (h0 : B.1.toInt ≠ 0) : 1 ≤ (fd A.1 B.1).toInt := by
  obtain ⟨e, he, ⟨g1, g2⟩, -⟩ := h
  obtain ⟨⟨a1, a2⟩, -⟩ := hA
  unfold z4 at g1 g2
  dsimp only at g1 g2
  rcases he with rfl | rfl
  · rw [Int.one_mul] at g1
    rw [Int.one_mul, Int.one_mul] at g2
    have f := fd_pos (p := A.1) (q := B.1) (by omega) (by omega)
    rcases Int.lt_or_le (fd A.1 B.1).toInt 1 with q | q
    · have := Int.mul_le_mul_of_nonneg_right (show (fd A.1 B.1).toInt ≤ 0 by omega) (show 0 ≤ B.1.toInt by omega)
      rw [Int.zero_mul] at this
      omega
    · exact q
  · rw [Int.neg_mul, Int.one_mul] at g1
    rw [Int.neg_mul, Int.one_mul, Int.neg_mul, Int.one_mul] at g2
    have f := fd_neg (p := A.1) (q := B.1) (by omega) (by omega)
    rcases Int.lt_or_le (fd A.1 B.1).toInt 1 with q | q
    · have := Int.mul_le_mul_of_nonneg_right (show (fd A.1 B.1).toInt ≤ 0 by omega) (show 0 ≤ -B.1.toInt by omega)
      rw [Int.zero_mul, Int.mul_neg] at this
      omega
    · exact q
def pos1 (l : List Int32) : Prop := ∀ k, 1 ≤ k → k < l.length → 1 ≤ (l.getD k 0).toInt
def posT (l : List rT) : Prop := ∀ k, 1 ≤ k → k < l.length → 1 ≤ (l.getD k (0, 0, 0)).1.toInt
theorem q32 {q : Int64} (h : big q = false) : q.toInt32.toInt = q.toInt := by
  have := big_rng h
  rw [Int64.toInt_toInt32]
  exact Int.bmod_eq_of_le (by omega) (by omega)
theorem al_pos {two : Bool} {X Y : List Int32 × Int32} {most : Nat} (hX : pos1 X.1) (hY : two = true → pos1 Y.1) : ∀ (n : Nat) (A B : H4) (x y s : Nat) (e1 e2 tk : Bool) (out : List rT), rOK two X Y (A, B, x, y, s, e1, e2, tk) → posT out → (out ≠ [] → gd A B ∧ (e1 = true ∨ 0 < x) ∧ (e2 = true ∨ 0 < y)) → posT (al X Y most n (A, B, x, y, s, e1, e2, tk) out).1 := by
  intro n
  induction n with
  | zero => intro A B x y s e1 e2 tk out ok hp hg; exact hp
  | succ n ih =>
    intro A B x y s e1 e2 tk out ok hp hg
    have hA : bd4 A := ok.1
    have hB : bd4 B := ok.2.1
    have hr := r1_ok ok
    rw [al]
    by_cases c : most ≤ out.length
    · rw [if_pos c]; exact hp
    rw [if_neg c]
    by_cases c1 : e1 = true ∧ e2 = true ∧ B.1 = 0
    · have hv : r1 X Y A B x y s e1 e2 tk = (1, (A, B, x, y, s, e1, e2, tk)) := by unfold r1; rw [if_pos c1]
      rw [hv]
      dsimp only
      rw [if_neg n14, if_neg n15]; exact hp
    by_cases c2 : sur A B x y e1 e2 = true
    · by_cases c3 : (big (fd A.1 B.1) || byL A B (fd A.1 B.1)) = true
      · have hv : r1 X Y A B x y s e1 e2 tk = (2, (A, B, x, y, s, e1, e2, tk)) := by unfold r1; rw [if_neg c1, if_pos c2, if_pos c3]
        rw [hv]
        dsimp only
        rw [if_neg n24, if_neg n25]; exact hp
      · have hv : r1 X Y A B x y s e1 e2 tk = (5, (B, lo4 A B (fd A.1 B.1), x, y, 0, e1, e2, tk)) := by unfold r1; rw [if_neg c1, if_pos c2, if_neg c3]
        rw [hv] at hr ⊢
        dsimp only at hr ⊢
        rw [if_neg (show ¬ (5 : Int32) = 4 by decide), if_pos rfl]
        have ok2 : rOK two X Y (B, lo4 A B (fd A.1 B.1), x, y, 0, e1, e2, tk) := by
          rcases hr with (q | q | q) | ⟨q, -⟩ | ⟨-, q, -⟩
          · exact absurd q (by decide)
          · exact absurd q (by decide)
          · exact absurd q (by decide)
          · exact absurd q (by decide)
          · exact q
        obtain ⟨c4, c5⟩ := Bool.or_eq_false_iff.mp (Bool.eq_false_iff.mpr c3)
        obtain ⟨s1, s2, s3⟩ := sur_b c2
        refine ih B (lo4 A B (fd A.1 B.1)) x y 0 e1 e2 tk _ ok2 ?_ (fun _ => ⟨gd_lo hA hB c2 c4 c5, s1, s2⟩)
        intro k hk hk2
        rw [List.length_append, List.length_singleton] at hk2
        by_cases ck : k = out.length
        · have hne : out ≠ [] := fun e => by rw [e] at ck; simp at ck; omega
          rw [ck]
          have : (out ++ [((fd A.1 B.1).toInt32, nI x, nI y)]).getD out.length (0, 0, 0) = ((fd A.1 B.1).toInt32, nI x, nI y) := by simp
          rw [this]
          dsimp only
          rw [q32 c4]
          exact gd_one hA (hg hne).1 s3
        · have : (out ++ [((fd A.1 B.1).toInt32, nI x, nI y)]).getD k (0, 0, 0) = out.getD k (0, 0, 0) := by
            rw [List.getD_eq_getElem?_getD, List.getD_eq_getElem?_getD, List.getElem?_append_left (by omega)]
          rw [this]
          exact hp k hk (by omega)
    by_cases c3 : 100 ≤ s
    · have hv : r1 X Y A B x y s e1 e2 tk = (3, (A, B, x, y, s, e1, e2, tk)) := by unfold r1; rw [if_neg c1, if_neg c2, if_pos c3]
      rw [hv]
      dsimp only
      rw [if_neg n34, if_neg n35]; exact hp
    have f4 : ∀ t : rS, r1 X Y A B x y s e1 e2 tk = (4, t) → rOK two X Y t := fun t hv => by
      rw [hv] at hr
      rcases hr with (q | q | q) | ⟨-, q, -⟩ | ⟨q, -⟩
      · exact absurd q (show ¬ (4 : Int32) = 1 by decide)
      · exact absurd q (show ¬ (4 : Int32) = 2 by decide)
      · exact absurd q (show ¬ (4 : Int32) = 3 by decide)
      · exact q
      · exact absurd q (show ¬ (4 : Int32) = 5 by decide)
    have hend : ¬ (e1 = true ∧ e2 = true) := by
      rintro ⟨q1, q2⟩
      subst q1 q2
      exact c2 (both_sure ok (fun q => c1 ⟨rfl, rfl, q⟩))
    by_cases c4 : nxf e1 e2 tk = true
    · have he1 : ¬ e1 = true := by
        unfold nxf at c4
        cases e1
        · decide
        · simp at c4
      by_cases c5 : x < X.1.length
      · by_cases c6 : (by1 A (X.1.getD x 0).toInt64 || by1 B (X.1.getD x 0).toInt64) = true
        · have hv : r1 X Y A B x y s e1 e2 tk = (2, (rd1 A (X.1.getD x 0).toInt64, rd1 B (X.1.getD x 0).toInt64, x + 1, y, s + 1, e1, e2, true)) := by unfold r1 rX; rw [if_neg c1, if_neg c2, if_neg c3, if_pos c4, if_pos c5, if_pos c6]
          rw [hv]
          dsimp only
          rw [if_neg n24, if_neg n25]; exact hp
        · have hv : r1 X Y A B x y s e1 e2 tk = (4, (rd1 A (X.1.getD x 0).toInt64, rd1 B (X.1.getD x 0).toInt64, x + 1, y, s + 1, e1, e2, true)) := by unfold r1 rX; rw [if_neg c1, if_neg c2, if_neg c3, if_pos c4, if_pos c5, if_neg c6]
          have ok2 := f4 _ hv
          rw [hv]
          dsimp only
          rw [if_pos rfl]
          obtain ⟨c7, c8⟩ := Bool.or_eq_false_iff.mp (Bool.eq_false_iff.mpr c6)
          refine ih _ _ (x + 1) y (s + 1) e1 e2 true out ok2 hp (fun hne => ?_)
          obtain ⟨g1, g2, g3⟩ := hg hne
          have hx : 0 < x := g2.elim (fun q => absurd q he1) id
          exact ⟨gd_r1 hA hB c7 c8 (hX x hx c5) g1, Or.inr (by omega), g3⟩
      · by_cases c6 : X.2 = 1
        · have hv : r1 X Y A B x y s e1 e2 tk = (4, (en1 A, en1 B, x, y, s, true, e2, true)) := by unfold r1 rX; rw [if_neg c1, if_neg c2, if_neg c3, if_pos c4, if_neg c5, if_pos c6]
          have ok2 := f4 _ hv
          rw [hv]
          dsimp only
          rw [if_pos rfl]
          refine ih _ _ x y s true e2 true out ok2 hp (fun hne => ?_)
          obtain ⟨g1, g2, g3⟩ := hg hne
          exact ⟨gd_e1 g1, Or.inl rfl, g3⟩
        · have hv : r1 X Y A B x y s e1 e2 tk = (3, (A, B, x, y, s, e1, e2, true)) := by unfold r1 rX; rw [if_neg c1, if_neg c2, if_neg c3, if_pos c4, if_neg c5, if_neg c6]
          rw [hv]
          dsimp only
          rw [if_neg n34, if_neg n35]; exact hp
    · have he2 : ¬ e2 = true := fun q => by
        unfold nxf at c4
        rw [q] at c4
        cases e1
        · exact c4 (by simp)
        · exact hend ⟨rfl, q⟩
      have htwo : two = true := by
        cases two
        · exact absurd (ok.2.2.2.2.2.2.2 rfl).1 he2
        · rfl
      by_cases c5 : y < Y.1.length
      · by_cases c6 : (by2 A (Y.1.getD y 0).toInt64 || by2 B (Y.1.getD y 0).toInt64) = true
        · have hv : r1 X Y A B x y s e1 e2 tk = (2, (rd2 A (Y.1.getD y 0).toInt64, rd2 B (Y.1.getD y 0).toInt64, x, y + 1, s + 1, e1, e2, false)) := by unfold r1 rY; rw [if_neg c1, if_neg c2, if_neg c3, if_neg c4, if_pos c5, if_pos c6]
          rw [hv]
          dsimp only
          rw [if_neg n24, if_neg n25]; exact hp
        · have hv : r1 X Y A B x y s e1 e2 tk = (4, (rd2 A (Y.1.getD y 0).toInt64, rd2 B (Y.1.getD y 0).toInt64, x, y + 1, s + 1, e1, e2, false)) := by unfold r1 rY; rw [if_neg c1, if_neg c2, if_neg c3, if_neg c4, if_pos c5, if_neg c6]
          have ok2 := f4 _ hv
          rw [hv]
          dsimp only
          rw [if_pos rfl]
          obtain ⟨c7, c8⟩ := Bool.or_eq_false_iff.mp (Bool.eq_false_iff.mpr c6)
          refine ih _ _ x (y + 1) (s + 1) e1 e2 false out ok2 hp (fun hne => ?_)
          obtain ⟨g1, g2, g3⟩ := hg hne
          have hy : 0 < y := g3.elim (fun q => absurd q he2) id
          exact ⟨gd_r2 hA hB c7 c8 (hY htwo y hy c5) g1, g2, Or.inr (by omega)⟩
      · by_cases c6 : Y.2 = 1
        · have hv : r1 X Y A B x y s e1 e2 tk = (4, (en2 A, en2 B, x, y, s, e1, true, false)) := by unfold r1 rY; rw [if_neg c1, if_neg c2, if_neg c3, if_neg c4, if_neg c5, if_pos c6]
          have ok2 := f4 _ hv
          rw [hv]
          dsimp only
          rw [if_pos rfl]
          refine ih _ _ x y s e1 true false out ok2 hp (fun hne => ?_)
          obtain ⟨g1, g2, g3⟩ := hg hne
          exact ⟨gd_e2 g1, g2, Or.inl rfl⟩
        · have hv : r1 X Y A B x y s e1 e2 tk = (3, (A, B, x, y, s, e1, e2, false)) := by unfold r1 rY; rw [if_neg c1, if_neg c2, if_neg c3, if_neg c4, if_neg c5, if_neg c6]
          rw [hv]
          dsimp only
          rw [if_neg n34, if_neg n35]; exact hp
/-! fractions -/
theorem dv_all : ∀ (n : Nat) (p q : Int64), 0 < p.toInt → p.toInt ≤ 2147483647 → 0 ≤ q.toInt → q.toInt < p.toInt → ∀ k, k < (dv n p q).length → 1 ≤ ((dv n p q).getD k 0).toInt := by
  intro n
  induction n with
  | zero => intro p q h1 h2 h3 h4 k hk; exact absurd hk (Nat.not_lt_zero _)
  | succ n ih =>
    intro p q h1 h2 h3 h4 k hk
    rw [dv] at hk ⊢
    by_cases c : q = 0
    · rw [if_pos c] at hk; exact absurd hk (Nat.not_lt_zero _)
    rw [if_neg c] at hk ⊢
    have q0 : 0 < q.toInt := by
      have : q.toInt ≠ 0 := fun e => c (Int64.toInt_inj.mp (by rw [e]; rfl))
      omega
    obtain ⟨f1, f2⟩ := fd_pos (p := p) (q := q) (by omega) q0
    generalize hv : fd p q = v at *
    have v1 : 1 ≤ v.toInt := by
      rcases Int.lt_or_le v.toInt 1 with z | z
      · have := Int.mul_le_mul_of_nonneg_right (show v.toInt ≤ 0 by omega) (show 0 ≤ q.toInt by omega)
        rw [Int.zero_mul] at this
        omega
      · exact z
    have vq : v.toInt ≤ v.toInt * q.toInt := by
      have := Int.mul_le_mul_of_nonneg_left (show 1 ≤ q.toInt by omega) (show 0 ≤ v.toInt by omega)
      rw [Int.mul_one] at this; exact this
    have e1 : (v * q).toInt = v.toInt * q.toInt := i64_mul (by omega) (by omega)
    have e2 : (p - v * q).toInt = p.toInt - v.toInt * q.toInt := by rw [i64_sub (by omega) (by omega), e1]
    cases k with
    | zero =>
      show 1 ≤ v.toInt32.toInt
      rw [Int64.toInt_toInt32, Int.bmod_eq_of_le (by omega) (by omega)]
      exact v1
    | succ k =>
      rw [List.length_cons] at hk
      have := ih q (p - v * q) q0 (by omega) (by omega) (by omega) k (by omega)
      exact this
theorem dv_pos {n : Nat} {p q : Int64} (hp : -4000000000 ≤ p.toInt ∧ p.toInt ≤ 4000000000) (hq : 0 ≤ q.toInt ∧ q.toInt ≤ 2147483647) : pos1 (dv n p q) := by
  cases n with
  | zero => intro k _ hk; exact absurd hk (Nat.not_lt_zero _)
  | succ n =>
    intro k hk1 hk
    rw [dv] at hk ⊢
    by_cases c : q = 0
    · rw [if_pos c] at hk; exact absurd hk (Nat.not_lt_zero _)
    rw [if_neg c] at hk ⊢
    have q0 : 0 < q.toInt := by
      have : q.toInt ≠ 0 := fun e => c (Int64.toInt_inj.mp (by rw [e]; rfl))
      omega
    obtain ⟨f1, f2⟩ := fd_pos (p := p) (q := q) (by omega) q0
    generalize hv : fd p q = v at *
    have e1 : (v * q).toInt = v.toInt * q.toInt := i64_mul (by omega) (by omega)
    have e2 : (p - v * q).toInt = p.toInt - v.toInt * q.toInt := by rw [i64_sub (by omega) (by omega), e1]
    obtain ⟨k, rfl⟩ : ∃ k', k = k' + 1 := ⟨k - 1, by omega⟩
    rw [List.length_cons] at hk
    exact dv_all n q (p - v * q) q0 (by omega) (by omega) (by omega) k (by omega)
theorem bas_pos {l : List Int32} {st : Int32} (h : pos1 l) : pos1 (dsr (bas l st)).1 := by
  rw [show (dsr (bas l st)).1 = l from bas_1 l st]; exact h
theorem pos_T {D : Dat} (h : posT D.1) : pos1 (dsr D).1 := fun k h1 h2 => by
  rw [dsr_len] at h2
  show 1 ≤ ((D.1.map (fun t : rT => t.1)).getD k 0).toInt
  rw [getD_map1 _ h2]
  exact h k h1 h2
theorem rng_getD (f : Nat → Int32) {n k : Nat} (h : k < n) : ((List.range n).map f).getD k 0 = f k := by
  rw [List.getD_eq_getElem?_getD, List.getElem?_map, List.getElem?_range h]; rfl
theorem dn_pos {f : Nat → Int32} {r : Nat} {L : Nat → Dat} (ok : okr f r) (hr : r < 1000) (hL : ∀ i, i < r → pos1 (dsr (L i)).1) : pos1 (dsr (dn f L)).1 := by
  have i32 : ∀ x : Int32, -2147483648 ≤ x.toInt64.toInt ∧ x.toInt64.toInt ≤ 2147483647 := fun x => by
    rw [Int32.toInt_toInt64]
    have h1 := x.toInt_lt
    have h2 := x.le_toInt
    omega
  unfold dn
  rcases ok with ⟨k0, hq⟩ | ⟨k0, hRo⟩ | ⟨k0, a, g, ha', hg, hag, htl⟩ | ⟨k0, i, hi, h5⟩ | ⟨k0, ⟨i, hi, h5⟩, ⟨j, hj, h6j⟩, hhow⟩
  · rw [if_pos k0]
    have h1 := i32 (f 1)
    have h2 := i32 (f 2)
    have h3 : 0 ≤ (f 2).toInt64.toInt := Int64.le_iff_toInt_le.mp hq.1
    exact bas_pos (dv_pos (by omega) (by omega))
  · rw [if_neg (by rw [k0]; decide), if_pos k0]
    apply bas_pos
    unfold rtD
    obtain ⟨d, hd, ed⟩ := okR_d hRo
    by_cases hs : wr (f 2).toInt64 * wr (f 2).toInt64 = (f 2).toInt64
    · rw [if_pos hs]
      dsimp only
      obtain ⟨t, et, tq⟩ := wr_sq (D := d) (by omega)
      rw [ed, et]
      have t1 : t ≤ 9999 := by
        rcases Nat.lt_or_ge 9999 t with z | z
        · have := Nat.mul_le_mul (show 10000 ≤ t by omega) (show 10000 ≤ t by omega)
          have := tq.1
          omega
        · exact z
      have e1 := l64 (n := t) (by omega)
      have p1 := hRo.1
      have q1 := hRo.2.2.1
      have eP : (f 1).toInt64.toInt = (f 1).toInt := Int32.toInt_toInt64 _
      have eQ : (f 3).toInt64.toInt = (f 3).toInt := Int32.toInt_toInt64 _
      have e2 : ((f 1).toInt64 + lN t).toInt = (f 1).toInt + t := by rw [i64_add (by omega) (by omega), eP, e1]
      have e3 : (-((f 1).toInt64 + lN t)).toInt = -((f 1).toInt + t) := by rw [i64_neg (by omega), e2]
      have e4 : (-(f 3).toInt64).toInt = -(f 3).toInt := by rw [i64_neg (by omega), eQ]
      have z : (0 : Int64).toInt = 0 := rfl
      by_cases c : (0 : Int64) ≤ (f 3).toInt64
      · rw [if_pos c, if_pos c]
        rw [Int64.le_iff_toInt_le, z] at c
        exact dv_pos (by omega) (by omega)
      · rw [if_neg c, if_neg c]
        rw [Int64.le_iff_toInt_le, z] at c
        exact dv_pos (by omega) (by omega)
    · rw [if_neg hs]
      dsimp only
      intro k h1 h2
      rw [rtl_len] at h2
      obtain ⟨k, rfl⟩ : ∃ k', k = k' + 1 := ⟨k - 1, by omega⟩
      unfold rtl
      rw [rng_getD _ h2]
      obtain ⟨v1, v2⟩ := rtv_one hRo hs (k := k) (by omega)
      rw [Int64.toInt_toInt32, Int.bmod_eq_of_le (by omega) (by omega)]
      exact v1
  · rw [if_neg (by rw [k0]; decide), if_neg (by rw [k0]; decide), if_pos k0]
    apply bas_pos
    intro k h1 h2
    unfold tlf at h2 ⊢
    rw [ha', hg, nI_clamp (by omega), nI_clamp (by omega)] at h2 ⊢
    rw [tl_len] at h2
    unfold tl
    rw [rng_getD _ h2]
    unfold tla
    obtain ⟨t1, t2, -⟩ := htl
    by_cases c : k < a
    · rw [if_pos c]; exact t2 k h1 (by omega)
    · rw [if_neg c]
      have hg0 : g ≠ 0 := fun e => by
        unfold tln at h2
        rw [if_pos e] at h2
        omega
      have := Nat.mod_lt (k - a) (show 0 < g by omega)
      exact t2 _ (by omega) (by omega)
  · rw [if_neg (by rw [k0]; decide), if_neg (by rw [k0]; decide), if_neg (by rw [k0]; decide), if_pos k0, h5, nI_clamp (by omega)]
    exact pos_T (al_pos (two := false) (hL i hi) (fun h => by cases h) 200 _ _ _ _ _ _ _ _ [] (s0_ok _ _ _ _ _ _) (fun k _ hk => absurd hk (Nat.not_lt_zero _)) (fun h => absurd rfl h))
  · rw [if_neg (by rw [k0]; decide), if_neg (by rw [k0]; decide), if_neg (by rw [k0]; decide), if_neg (by rw [k0]; decide), h5, h6j, nI_clamp (by omega), nI_clamp (by omega)]
    have ok0 := d0_ok (f 1) (dsr (L i)) (dsr (L j))
    generalize d0 (f 1) = σ at ok0 ⊢
    obtain ⟨A, B, x, y, s, e1, e2, tk⟩ := σ
    exact pos_T (al_pos (two := true) (hL i hi) (fun _ => hL j hj) 200 A B x y s e1 e2 tk [] ok0 (fun k _ hk => absurd hk (Nat.not_lt_zero _)) (fun h => absurd rfl h))
theorem dd_pos {F : Rcp} (ok : ∀ r, r < 10 → okr (F r) r) : ∀ n r, r < n → r < 10 → pos1 (dsr (dd F r)).1 := by
  intro n
  induction n with
  | zero => intro r h; omega
  | succ n ih =>
    intro r h h10
    unfold dd
    refine dn_pos (ok r h10) (by omega) (fun i hi => ?_)
    rw [tb_lt F r i hi]
    exact ih i (by omega) (by omega)
theorem rw_pos (F : Rcp) (ok : ∀ r, r < 10 → okr (F r) r) (r : Nat) (hr : r < 10) (k : Nat) (h1 : 1 ≤ k) (h2 : k < rwL F r) : 1 ≤ (rwG F r k).toInt := dd_pos ok (r + 1) r (by omega) hr k h1 (by rw [dsr_len]; exact h2)
