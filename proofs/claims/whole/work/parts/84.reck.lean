/-! reckoning, as both do it: the state is two times four numbers, what was read of each, since when, whether each ended, which was taken last -/
abbrev H4 : Type := Int64 × Int64 × Int64 × Int64
abbrev rS : Type := H4 × H4 × Nat × Nat × Nat × Bool × Bool × Bool
abbrev rT : Type := Int32 × Int32 × Int32
def bI (b : Bool) : Int32 := if b then 1 else 0
theorem bI_0 (b : Bool) : bI b = 0 ↔ b = false := by cases b <;> decide
theorem bI_1 (b : Bool) : bI b = 1 ↔ b = true := by cases b <;> decide
theorem bI_01 (b : Bool) : bI b = 0 ∨ bI b = 1 := by cases b <;> decide
theorem bI_t : bI true = 1 := rfl
theorem bI_f : bI false = 0 := rfl
def bey (a n b : Int64) : Bool := decide ((¬ n = 0 ∧ (2000000000000000 / (if 0 ≤ n then n else -n) < a ∨ a < -(2000000000000000 / (if 0 ≤ n then n else -n)))) ∨ 1000000000000000 < a * n + b ∨ a * n + b < -1000000000000000)
theorem abs_ne {n : Int64} (h : ¬ n = 0) : ¬ (if 0 ≤ n then n else -n) = 0 := by
  split
  · exact h
  · intro e
    apply h
    have := congrArg (fun x => -x) e
    simpa using this
theorem n64_lt {a b : Int64} : ¬ a < b ↔ b ≤ a := by rw [Int64.lt_iff_toInt_lt, Int64.le_iff_toInt_le]; omega
theorem n64_le {a b : Int64} : ¬ a ≤ b ↔ b < a := by rw [Int64.lt_iff_toInt_lt, Int64.le_iff_toInt_le]; omega
theorem a_grown43 (a n b : Int64) (hb : bey a n b = false) : z_X11_grown_b43 a n b = some (a * n + b) := by
  simp only [bey, decide_eq_false_iff_not, not_or] at hb
  unfold z_X11_grown_b43
  rw [let_e, if_neg hb.2.1, if_pos (n64_lt.mp hb.2.2)]
theorem a_grown43' (a n b : Int64) : z_X11_grown_b43 a n b = some (if 1000000000000000 < a * n + b ∨ a * n + b < -1000000000000000 then 1000000000000001 else a * n + b) := by
  unfold z_X11_grown_b43
  rw [let_e]
  by_cases h1 : (1000000000000000 : Int64) < a * n + b
  · rw [if_pos h1, if_pos (Or.inl h1)]
  · rw [if_neg h1]
    by_cases h2 : (-1000000000000000 : Int64) ≤ a * n + b
    · rw [if_pos h2, if_neg (fun h => h.elim h1 (fun h => n64_lt.mpr h2 h))]
    · rw [if_neg h2, if_pos (Or.inr (n64_le.mp h2))]
theorem a_grown21 (a n b t : Int64) (ht : t = if 0 ≤ n then n else -n) (hn : ¬ n = 0) : z_X11_grown_b21 a n b t 2000000000000000 = some (if bey a n b = true then 1000000000000001 else a * n + b) := by
  unfold z_X11_grown_b21
  rw [ht, show decide (¬ (if 0 ≤ n then n else -n) = 0) = true from decide_eq_true (abs_ne hn), ck_t, let_e, a_grown43']
  simp only [bey, decide_eq_true_eq]
  by_cases h1 : 2000000000000000 / (if 0 ≤ n then n else -n) < a
  · rw [if_pos h1, if_pos (Or.inl ⟨hn, Or.inl h1⟩)]
  · rw [if_neg h1]
    by_cases h2 : -(2000000000000000 / (if 0 ≤ n then n else -n)) ≤ a
    · rw [if_pos h2]
      have e : ((¬ n = 0 ∧ (2000000000000000 / (if 0 ≤ n then n else -n) < a ∨ a < -(2000000000000000 / (if 0 ≤ n then n else -n)))) ∨ 1000000000000000 < a * n + b ∨ a * n + b < -1000000000000000) ↔ (1000000000000000 < a * n + b ∨ a * n + b < -1000000000000000) :=
        ⟨fun h => h.elim (fun h => h.2.elim (fun h => absurd h h1) (fun h => absurd h (n64_lt.mpr h2))) id, Or.inr⟩
      simp only [e]
    · rw [if_neg h2, if_pos (Or.inl ⟨hn, Or.inr (n64_le.mp h2)⟩)]
theorem a_grown (a n b : Int64) : z_X11_grown a n b = some (if bey a n b = true then 1000000000000001 else a * n + b) := by
  unfold z_X11_grown
  by_cases hn : n = 0
  · rw [if_pos hn, a_grown43']
    simp only [bey, decide_eq_true_eq]
    have e : ((¬ n = 0 ∧ (2000000000000000 / (if 0 ≤ n then n else -n) < a ∨ a < -(2000000000000000 / (if 0 ≤ n then n else -n)))) ∨ 1000000000000000 < a * n + b ∨ a * n + b < -1000000000000000) ↔ (1000000000000000 < a * n + b ∨ a * n + b < -1000000000000000) :=
        ⟨fun h => h.elim (fun h => absurd hn h.1) id, Or.inr⟩
    simp only [e]
  · rw [if_neg hn]
    by_cases h : (0 : Int64) ≤ n
    · rw [if_pos h]; exact a_grown21 a n b n (by rw [if_pos h]) hn
    · rw [if_neg h]; exact a_grown21 a n b (-n) (by rw [if_neg h]) hn
def bd (v : Int64) : Prop := -1000000000000000 ≤ v.toInt ∧ v.toInt ≤ 1000000000000000
/-- what is within the bound is reckoned truly -/
theorem bey_ok {a n b : Int64} (hn : -9000000000000000000 ≤ n.toInt ∧ n.toInt ≤ 9000000000000000000) (hb : bd b) (h : bey a n b = false) : (a * n + b).toInt = a.toInt * n.toInt + b.toInt ∧ bd (a * n + b) := by
  simp only [bey, decide_eq_false_iff_not, not_or] at h
  obtain ⟨h1, h2, h3⟩ := h
  have hp : -2000000000000000 ≤ a.toInt * n.toInt ∧ a.toInt * n.toInt ≤ 2000000000000000 := by
    by_cases h0 : n = 0
    · rw [h0]; show -2000000000000000 ≤ a.toInt * 0 ∧ a.toInt * 0 ≤ 2000000000000000; omega
    · have h4 : ¬ (2000000000000000 / (if 0 ≤ n then n else -n) < a ∨ a < -(2000000000000000 / (if 0 ≤ n then n else -n))) := fun q => h1 ⟨h0, q⟩
      have hn0 : n.toInt ≠ 0 := fun e => h0 (Int64.toInt_inj.mp (by rw [e]; rfl))
      have hd : (2000000000000000 / (if 0 ≤ n then n else -n) : Int64).toInt = (2000000000000000 : Int).tdiv (n.toInt.natAbs : Int) := by
        rw [i64_div (by decide)]
        congr 1
        by_cases hq : (0 : Int64) ≤ n
        · rw [if_pos hq]; have : 0 ≤ n.toInt := Int64.le_iff_toInt_le.mp hq; omega
        · rw [if_neg hq, i64_neg (by omega)]; have : ¬ 0 ≤ n.toInt := fun h => hq (Int64.le_iff_toInt_le.mpr h); omega
      generalize hM : (2000000000000000 / (if 0 ≤ n then n else -n) : Int64) = M at *
      have hdm := Int.tdiv_mul_add_tmod 2000000000000000 (n.toInt.natAbs : Int)
      have hm2 : 0 ≤ (2000000000000000 : Int).tmod (n.toInt.natAbs : Int) := Int.tmod_nonneg _ (by omega)
      rw [← hd] at hdm
      have hM0 : 0 ≤ M.toInt := by rw [hd]; exact Int.tdiv_nonneg (by omega) (by omega)
      have hMb := i64_rng M
      have h5 : a.toInt ≤ M.toInt := by
        have : ¬ M < a := fun q => h4 (Or.inl q)
        rw [Int64.lt_iff_toInt_lt] at this; omega
      have h6 : -M.toInt ≤ a.toInt := by
        have : ¬ a < -M := fun q => h4 (Or.inr q)
        rw [Int64.lt_iff_toInt_lt, i64_neg (by omega)] at this; omega
      have := mul_rng (A := M.toInt) (B := (n.toInt.natAbs : Int)) (a := a.toInt) (b := n.toInt) (by omega) (by omega)
      omega
  have e1 : (a * n).toInt = a.toInt * n.toInt := i64_mul (by omega) (by omega)
  obtain ⟨b1, b2⟩ := hb
  have e2 : (a * n + b).toInt = a.toInt * n.toInt + b.toInt := by rw [i64_add (by rw [e1]; omega) (by rw [e1]; omega), e1]
  refine ⟨e2, ?_, ?_⟩
  · rw [Int64.lt_iff_toInt_lt] at h3
    have e3 : (-1000000000000000 : Int64).toInt = -1000000000000000 := rfl
    omega
  · rw [Int64.lt_iff_toInt_lt] at h2
    have e3 : (1000000000000000 : Int64).toInt = 1000000000000000 := rfl
    omega
theorem bd_ne {v : Int64} (h : bd v) : ¬ v = 1000000000000001 := fun e => by
  subst e; have := h.2; revert this; decide
theorem n64_neg_neg (a : Int64) : - -a = a := by simp
theorem bey_neg {e q a : Int64} (he : bd e) (hq : -9000000000000000000 ≤ q.toInt ∧ q.toInt ≤ 9000000000000000000) : bey (-e) q a = bey e (-q) a ∧ -e * q + a = e * -q + a := by
  have ev : -e * q + a = e * -q + a := by rw [Int64.neg_mul, Int64.mul_neg]
  refine ⟨?_, ev⟩
  unfold bey
  rw [ev]
  congr 1
  apply propext
  have h0 : -q = 0 ↔ q = 0 := by
    constructor
    · intro h; have := congrArg (fun x => -x) h; simpa using this
    · intro h; rw [h]; rfl
  have habs : (if (0 : Int64) ≤ -q then -q else - -q) = if 0 ≤ q then q else -q := by
    have e1 : (-q).toInt = -q.toInt := i64_neg (by omega)
    by_cases h1 : (0 : Int64) ≤ q
    · have h1' : 0 ≤ q.toInt := Int64.le_iff_toInt_le.mp h1
      rw [if_pos h1]
      by_cases h2 : (0 : Int64) ≤ -q
      · have h2' : 0 ≤ (-q).toInt := Int64.le_iff_toInt_le.mp h2
        rw [if_pos h2]
        apply Int64.toInt_inj.mp
        omega
      · rw [if_neg h2, n64_neg_neg]
    · have h1' : ¬ 0 ≤ q.toInt := fun h => h1 (Int64.le_iff_toInt_le.mpr h)
      rw [if_neg h1, if_pos (Int64.le_iff_toInt_le.mpr (by rw [e1]; show (0 : Int) ≤ _; omega))]
  rw [habs, h0]
  by_cases hq0 : q = 0
  · simp [hq0]
  · have hq0' : q.toInt ≠ 0 := fun h => hq0 (Int64.toInt_inj.mp (by rw [h]; rfl))
    have hM : -2000000000000000 ≤ (2000000000000000 / (if 0 ≤ q then q else -q) : Int64).toInt ∧ (2000000000000000 / (if 0 ≤ q then q else -q) : Int64).toInt ≤ 2000000000000000 := by
      rw [i64_div (by decide)]
      have hv : ((2000000000000000 : Int64).toInt.tdiv (if 0 ≤ q then q else -q : Int64).toInt).natAbs ≤ (2000000000000000 : Int64).toInt.natAbs := by rw [Int.natAbs_tdiv]; exact Nat.div_le_self _ _
      have e3 : (2000000000000000 : Int64).toInt = 2000000000000000 := rfl
      rw [e3] at hv ⊢
      omega
    generalize (2000000000000000 / (if 0 ≤ q then q else -q) : Int64) = M at *
    have e1 : (-e).toInt = -e.toInt := i64_neg (by have := he.1; omega)
    have e2 : (-M).toInt = -M.toInt := i64_neg (by omega)
    have e4 : (M < -e ∨ -e < -M) ↔ (M < e ∨ e < -M) := by
      simp only [Int64.lt_iff_toInt_lt, e1, e2]; omega
    rw [e4]
/-! halves -/
def bd4 (A : H4) : Prop := bd A.1 ∧ bd A.2.1 ∧ bd A.2.2.1 ∧ bd A.2.2.2
def rd1 (A : H4) (n : Int64) : H4 := (A.1 * n + A.2.2.1, A.2.1 * n + A.2.2.2, A.1, A.2.1)
def by1 (A : H4) (n : Int64) : Bool := bey A.1 n A.2.2.1 || bey A.2.1 n A.2.2.2
def rd2 (A : H4) (n : Int64) : H4 := (A.1 * n + A.2.1, A.1, A.2.2.1 * n + A.2.2.2, A.2.2.1)
def by2 (A : H4) (n : Int64) : Bool := bey A.1 n A.2.1 || bey A.2.2.1 n A.2.2.2
def en1 (A : H4) : H4 := (A.1, A.2.1, A.1, A.2.1)
def en2 (A : H4) : H4 := (A.1, A.1, A.2.2.1, A.2.2.1)
def lo4 (A B : H4) (q : Int64) : H4 := (B.1 * -q + A.1, B.2.1 * -q + A.2.1, B.2.2.1 * -q + A.2.2.1, B.2.2.2 * -q + A.2.2.2)
def byL (A B : H4) (q : Int64) : Bool := bey B.1 (-q) A.1 || bey B.2.1 (-q) A.2.1 || bey B.2.2.1 (-q) A.2.2.1 || bey B.2.2.2 (-q) A.2.2.2
def big (q : Int64) : Bool := decide (1000000000 < q) || decide (q < -1000000000)
def sg4 (B : H4) : Bool := decide (0 < B.1 ∧ 0 < B.1 + B.2.1 ∧ 0 < B.1 + B.2.2.1 ∧ 0 < B.1 + B.2.1 + B.2.2.1 + B.2.2.2) || decide (B.1 < 0 ∧ B.1 + B.2.1 < 0 ∧ B.1 + B.2.2.1 < 0 ∧ B.1 + B.2.1 + B.2.2.1 + B.2.2.2 < 0)
def eq4 (A B : H4) : Bool := decide (fd A.1 B.1 = fd (A.1 + A.2.1) (B.1 + B.2.1) ∧ fd A.1 B.1 = fd (A.1 + A.2.2.1) (B.1 + B.2.2.1) ∧ fd A.1 B.1 = fd (A.1 + A.2.1 + A.2.2.1 + A.2.2.2) (B.1 + B.2.1 + B.2.2.1 + B.2.2.2))
def sur (A B : H4) (x y : Nat) (e1 e2 : Bool) : Bool := (e1 || decide (0 < x)) && (e2 || decide (0 < y)) && sg4 B && eq4 A B
def nxf (e1 e2 tk : Bool) : Bool := !e1 && (e2 || !tk)
def rX (X : List Int32 × Int32) (A B : H4) (x y s : Nat) (e1 e2 : Bool) : Int32 × rS :=
  if x < X.1.length then (if by1 A (X.1.getD x 0).toInt64 || by1 B (X.1.getD x 0).toInt64 then 2 else 4, (rd1 A (X.1.getD x 0).toInt64, rd1 B (X.1.getD x 0).toInt64, x + 1, y, s + 1, e1, e2, true))
  else if X.2 = 1 then (4, (en1 A, en1 B, x, y, s, true, e2, true)) else (3, (A, B, x, y, s, e1, e2, true))
def rY (Y : List Int32 × Int32) (A B : H4) (x y s : Nat) (e1 e2 : Bool) : Int32 × rS :=
  if y < Y.1.length then (if by2 A (Y.1.getD y 0).toInt64 || by2 B (Y.1.getD y 0).toInt64 then 2 else 4, (rd2 A (Y.1.getD y 0).toInt64, rd2 B (Y.1.getD y 0).toInt64, x, y + 1, s + 1, e1, e2, false))
  else if Y.2 = 1 then (4, (en2 A, en2 B, x, y, s, e1, true, false)) else (3, (A, B, x, y, s, e1, e2, false))
def r1 (X Y : List Int32 × Int32) (A B : H4) (x y s : Nat) (e1 e2 tk : Bool) : Int32 × rS :=
  if e1 = true ∧ e2 = true ∧ B.1 = 0 then (1, (A, B, x, y, s, e1, e2, tk))
  else if sur A B x y e1 e2 = true then (if big (fd A.1 B.1) || byL A B (fd A.1 B.1) then (2, (A, B, x, y, s, e1, e2, tk)) else (5, (B, lo4 A B (fd A.1 B.1), x, y, 0, e1, e2, tk)))
  else if 100 ≤ s then (3, (A, B, x, y, s, e1, e2, tk))
  else if nxf e1 e2 tk = true then rX X A B x y s e1 e2 else rY Y A B x y s e1 e2
def al (X Y : List Int32 × Int32) (most : Nat) : Nat → rS → List rT → List rT × Int32 × Int32
  | 0, (_, _, x, y, _), out => (out, 3, nI (x + y))
  | n + 1, (A, B, x, y, s, e1, e2, tk), out =>
    if most ≤ out.length then (out, 0, nI (x + y)) else
    match r1 X Y A B x y s e1 e2 tk with
    | (c, t) => if c = 4 then al X Y most n t out else if c = 5 then al X Y most n t (out ++ [((fd A.1 B.1).toInt32, nI x, nI y)]) else (out, c, nI (t.2.2.1 + t.2.2.2.1))
/-- what holds of a state -/
def rOK (two : Bool) (X Y : List Int32 × Int32) (σ : rS) : Prop := match σ with
  | (A, B, x, y, s, e1, e2, _) => bd4 A ∧ bd4 B ∧ x ≤ X.1.length ∧ (two = true → y ≤ Y.1.length) ∧ s ≤ 100 ∧
    (e1 = true → A.1 = A.2.2.1 ∧ A.2.1 = A.2.2.2 ∧ B.1 = B.2.2.1 ∧ B.2.1 = B.2.2.2) ∧
    (two = true → e2 = true → A.1 = A.2.1 ∧ A.2.2.1 = A.2.2.2 ∧ B.1 = B.2.1 ∧ B.2.2.1 = B.2.2.2) ∧
    (two = false → e2 = true ∧ y = 0 ∧ A.2.1 = 0 ∧ A.2.2.2 = 0 ∧ B.2.1 = 0 ∧ B.2.2.2 = 0)
