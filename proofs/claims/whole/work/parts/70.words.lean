/-! PURE LEVEL: the words of the functions, the shape of the reference's heap -/
theorem ck_t {α : Type} (f : Option α) : fh_ck true f = f := rfl
theorem b1_s {α β : Type} (a : α) (f : α → Option β) : fh_b1 (some a) f = f a := rfl
theorem b2_s {α β : Type} (a : α) (k : fh_H) (f : α → fh_H → Option β) : fh_b2 (some (a, k)) f = f a k := rfl
theorem let_e {α β : Type} (a : α) (f : α → β) : fh_let a f = f a := rfl
theorem nn_s {α : Type} (j : Nat) (f : Option α) (k : Nat → Option α) : fh_nn (some j) f k = k j := rfl
theorem nn_n {α : Type} (f : Option α) (k : Nat → Option α) : fh_nn none f k = f := rfl
theorem sI_e (I : Nat → Nat → Int32) (J : Nat → Nat → Int64) (R : Nat → Nat → Option Nat) (a k : Nat) (v : Int32) : fh_sI (I, J, R) a k v = (fh_up I a k v, J, R) := rfl
theorem sJ_e (I : Nat → Nat → Int32) (J : Nat → Nat → Int64) (R : Nat → Nat → Option Nat) (a k : Nat) (v : Int64) : fh_sJ (I, J, R) a k v = (I, fh_up J a k v, R) := rfl
theorem sR_e (I : Nat → Nat → Int32) (J : Nat → Nat → Int64) (R : Nat → Nat → Option Nat) (a k : Nat) (v : Option Nat) : fh_sR (I, J, R) a k v = (I, J, fh_up R a k v) := rfl
theorem up_s {α : Type} (f : Nat → Nat → α) (a k : Nat) (v : α) : fh_up f a k v a k = v := by simp [fh_up]
theorem up_a {α : Type} (f : Nat → Nat → α) {a b : Nat} (k j : Nat) (v : α) (h : b ≠ a) : fh_up f a k v b j = f b j := by simp [fh_up, h]
theorem up_k {α : Type} (f : Nat → Nat → α) (a b : Nat) {k j : Nat} (v : α) (h : j ≠ k) : fh_up f a k v b j = f b j := by simp [fh_up, h]
theorem lit (n : Nat) : (OfNat.ofNat n : Int32) = nI n := rfl
theorem nI_mul (a b : Nat) : nI a * nI b = nI (a * b) := (Int32.ofNat_mul a b).symm
theorem in_n {n N : Nat} (h : n < N) (hN : N < 2 ^ 31) : fh_in (nI n) N = true := by
  have h1 : ¬ nI n < 0 := nI_pos (by omega)
  have h2 : (nI n).toNatClampNeg = n := nI_clamp (by omega)
  simp [fh_in, h1, h2, h]
theorem in_t {x : Int32} {N : Nat} (h : fh_in x N = true) : ∃ n, n < N ∧ x = nI n := by
  simp only [fh_in, Bool.not_eq_true', Bool.or_eq_false_iff, decide_eq_false_iff_not] at h
  obtain ⟨j, hj, e⟩ := nI_of h.1
  refine ⟨j, ?_, e⟩
  have := h.2
  rw [e, nI_clamp hj] at this
  omega
def TB : fh_S := fh_push (fh_push (fh_push (fh_push (fh_push (fh_push (fh_push (fh_push (fh_push (fh_push (fh_push (fh_push (fh_push (fh_push (fh_push (fh_push (fh_push (fh_push z_S0 12 0) 13 1090) 13 17440) 13 600) 13 10) 13 10) 13 10) 13 600) 13 600) 14 60) 14 60) 14 8) 14 8) 14 60) 14 60) 13 900) 13 200) 13 100
def kBst (h : fh_H) (n f : Nat) : fh_H := fh_sR (fh_z h n) 0 f (some n)
def kB0 : fh_H := fh_sI (kBst (kBst (kBst (kBst (kBst (kBst (kBst (kBst (kBst (kBst (kBst (kBst (kBst (kBst (kBst (kBst (kBst (fh_z z_h0 0) 1 0) 2 1) 3 4) 4 5) 5 6) 6 7) 7 8) 8 9) 9 10) 10 11) 11 13) 12 14) 13 26) 14 27) 15 31) 16 33) 17 34) 0 43 (-1)
def rB : Nat → Nat → Option Nat := kB0.2.2
theorem push_1 (S : fh_S) (k l : Nat) : (fh_push S k l).1 = S.1 + 1 := rfl
theorem S0_1 : z_S0.1 = 0 := rfl
set_option maxRecDepth 100000 in
theorem init_B : z_X12_init (fh_push z_S0 12 0) (fh_z z_h0 z_S0.1) 0 = z_X12_init_b154 11 0 TB kB0 0 := by
  simp only [z_X12_init, let_e, TB, kB0, kBst, push_1, S0_1, Nat.zero_add, Nat.reduceAdd]
theorem kB_0 : fh_kq TB 0 12 = true := rfl
theorem kB_1 : fh_kq TB 1 13 = true := rfl
theorem kB_2 : fh_kq TB 2 13 = true := rfl
theorem kB_3 : fh_kq TB 3 13 = true := rfl
theorem kB_4 : fh_kq TB 4 13 = true := rfl
theorem kB_5 : fh_kq TB 5 13 = true := rfl
theorem kB_6 : fh_kq TB 6 13 = true := rfl
theorem kB_7 : fh_kq TB 7 13 = true := rfl
theorem kB_8 : fh_kq TB 8 13 = true := rfl
theorem kB_9 : fh_kq TB 9 14 = true := rfl
theorem kB_10 : fh_kq TB 10 14 = true := rfl
theorem kB_11 : fh_kq TB 11 14 = true := rfl
theorem kB_12 : fh_kq TB 12 14 = true := rfl
theorem kB_13 : fh_kq TB 13 14 = true := rfl
theorem kB_14 : fh_kq TB 14 14 = true := rfl
theorem kB_15 : fh_kq TB 15 13 = true := rfl
theorem kB_16 : fh_kq TB 16 13 = true := rfl
theorem kB_17 : fh_kq TB 17 13 = true := rfl
theorem lB_1 : TB.2.2 1 = 1090 := rfl
theorem lB_2 : TB.2.2 2 = 17440 := rfl
theorem lB_3 : TB.2.2 3 = 600 := rfl
theorem lB_4 : TB.2.2 4 = 10 := rfl
theorem lB_5 : TB.2.2 5 = 10 := rfl
theorem lB_6 : TB.2.2 6 = 10 := rfl
theorem lB_7 : TB.2.2 7 = 600 := rfl
theorem lB_8 : TB.2.2 8 = 600 := rfl
theorem lB_9 : TB.2.2 9 = 60 := rfl
theorem lB_10 : TB.2.2 10 = 60 := rfl
theorem lB_11 : TB.2.2 11 = 8 := rfl
theorem lB_12 : TB.2.2 12 = 8 := rfl
theorem lB_13 : TB.2.2 13 = 60 := rfl
theorem lB_14 : TB.2.2 14 = 60 := rfl
theorem lB_15 : TB.2.2 15 = 900 := rfl
theorem lB_16 : TB.2.2 16 = 200 := rfl
theorem lB_17 : TB.2.2 17 = 100 := rfl
theorem rB_0 : rB 0 0 = some 1 := rfl
theorem rB_1 : rB 0 1 = some 2 := rfl
theorem rB_4 : rB 0 4 = some 3 := rfl
theorem rB_5 : rB 0 5 = some 4 := rfl
theorem rB_6 : rB 0 6 = some 5 := rfl
theorem rB_7 : rB 0 7 = some 6 := rfl
theorem rB_8 : rB 0 8 = some 7 := rfl
theorem rB_9 : rB 0 9 = some 8 := rfl
theorem rB_10 : rB 0 10 = some 9 := rfl
theorem rB_11 : rB 0 11 = some 10 := rfl
theorem rB_13 : rB 0 13 = some 11 := rfl
theorem rB_14 : rB 0 14 = some 12 := rfl
theorem rB_26 : rB 0 26 = some 13 := rfl
theorem rB_27 : rB 0 27 = some 14 := rfl
theorem rB_31 : rB 0 31 = some 15 := rfl
theorem rB_33 : rB 0 33 = some 16 := rfl
theorem rB_34 : rB 0 34 = some 17 := rfl
