/-! reading token by token -/
abbrev PS : Type := Nat × Int32 × Int32
def tkc (b : Nat → Nat) (n N : Nat) : Prop := (∀ i, b i < 256) ∧ n ≤ 200 ∧ N ≤ n ∧ kd b n (tS b n N) = 0 ∧ ∀ i, i < N → ¬ kd b n (tS b n i) = 0
def psA (I : Nat → Nat → Int32) (b : Nat → Nat) (n N : Nat) (σ : PS) : Prop := (∀ i, i ≤ N → I 50 i = cd b n (tS b n i) ∧ I 51 i = nI (vl b n (tS b n i)) ∧ I 52 i = nI (tS b n i)) ∧ I 48 5 = nI σ.1 ∧ I 48 7 = σ.2.1 ∧ I 48 8 = σ.2.2 ∧ σ.1 ≤ N
def psB (I : Nat → Nat → Int32) (b : Nat → Nat) (n : Nat) (σ : PS) : Prop := I 0 36 = nI n ∧ (∀ i, i < n → I 16 i = nI (b i)) ∧ I 0 41 = σ.2.1 ∧ (σ.2.1 = 0 → at4 I b n (tS b n σ.1)) ∧ (¬ σ.2.1 = 0 → I 0 42 = σ.2.2)
def fA5 (I I' : Nat → Nat → Int32) : Prop := ∀ b j, ¬ (b = 48 ∧ (j = 5 ∨ j = 7 ∨ j = 8)) → I' b j = I b j
theorem fA5.rf {I : Nat → Nat → Int32} : fA5 I I := fun _ _ _ => rfl
theorem fA5.trans {I I1 I2 : Nat → Nat → Int32} (h : fA5 I I1) (h2 : fA5 I1 I2) : fA5 I I2 := fun b j q => (h2 b j q).trans (h b j q)
theorem fA5.up {I I' : Nat → Nat → Int32} {k : Nat} {v : Int32} (h : fA5 I I') (hk : k = 5 ∨ k = 7 ∨ k = 8) : fA5 I (fh_up I' 48 k v) := fun b j q => by
  have z : ¬ (b = 48 ∧ j = k) := fun z => q ⟨z.1, by omega⟩
  have e : fh_up I' 48 k v b j = I' b j := by simp only [fh_up, z, if_false]
  rw [e]; exact h b j q
def isC (b : Nat → Nat) (n : Nat) (c : Int32) (σ : PS) : Bool := decide (σ.2.1 = 0 ∧ cd b n (tS b n σ.1) = c)
def adv (σ : PS) : PS := (σ.1 + 1, σ.2)
def flw (b : Nat → Nat) (n : Nat) (k : Int32) (σ : PS) : PS := if σ.2.1 = 0 then (σ.1, k, nI (tS b n σ.1)) else σ
def exC (b : Nat → Nat) (n : Nat) (c : Int32) (σ : PS) : PS := if isC b n c σ = true then adv σ else flw b n 1 σ
def tvt (b : Nat → Nat) (n : Nat) (σ : PS) : Nat := tvl b (tS b n σ.1) (tE b n (tS b n σ.1))
def fgo (b : Nat → Nat) (n L : Nat) (σ : PS) : Bool := isC b n 256 σ && decide (L ≤ tvt b n σ ∧ tvt b n σ ≤ 9999)
def fgv (b : Nat → Nat) (n L : Nat) (σ : PS) : Int32 := if fgo b n L σ = true then nI (tvt b n σ) else 0
def fgs (b : Nat → Nat) (n L : Nat) (σ : PS) : PS := if fgo b n L σ = true then adv σ else if isC b n 256 σ = true then flw b n 2 σ else flw b n 1 σ
theorem isC_lt {b : Nat → Nat} {n N : Nat} {c : Int32} {σ : PS} (ht : tkc b n N) (hc : ¬ c = 257) (hN : σ.1 ≤ N) (h : isC b n c σ = true) : σ.1 < N := by
  unfold isC at h
  rw [decide_eq_true_eq] at h
  rcases Nat.lt_or_ge σ.1 N with z | z
  · exact z
  · have e : σ.1 = N := by omega
    rw [e, (cd_num ht.1).2.mpr ht.2.2.2.1] at h
    exact absurd h.2.symm hc
theorem isC_0 {b : Nat → Nat} {n : Nat} {c : Int32} {σ : PS} (h : isC b n c σ = true) : σ.2.1 = 0 := by
  unfold isC at h
  rw [decide_eq_true_eq] at h
  exact h.1
theorem isC_n {b : Nat → Nat} {n : Nat} {c : Int32} {σ : PS} (h : ¬ σ.2.1 = 0) : isC b n c σ = false := decide_eq_false (fun q => h q.1)
theorem flw_0 {b : Nat → Nat} {n : Nat} {k : Int32} {σ : PS} (h : σ.2.1 = 0) : flw b n k σ = (σ.1, k, nI (tS b n σ.1)) := if_pos h
theorem flw_n {b : Nat → Nat} {n : Nat} {k : Int32} {σ : PS} (h : ¬ σ.2.1 = 0) : flw b n k σ = σ := if_neg h
/-! the class -/
section
variable {I : Nat → Nat → Int32} {J : Nat → Nat → Int64} {R : Nat → Nat → Option Nat} {b : Nat → Nat} {n N : Nat} {σ : PS}
theorem a_isN (hR : RA R) (ht : tkc b n N) (h : psA I b n N σ) (c : Int32) : z_X10_isNext SA (I, J, R) 48 c = some (bI (isC b n c σ)) := by
  obtain ⟨h1, h5, h7, h8, hN⟩ := h
  have n200 := ht.2.1
  have Nn := ht.2.2.1
  have c0 : ¬ nI σ.1 < 0 := nI_pos (by omega)
  have c1 : ¬ Int32.ofNat 201 ≤ nI σ.1 := nI_ge (b := 201) (by omega) (by omega)
  have i1 : fh_in (nI σ.1) 201 = true := in_n (by omega) (by omega)
  have k1 : (nI σ.1).toNatClampNeg = σ.1 := nI_clamp (by omega)
  unfold z_X10_isNext isC
  by_cases c2 : σ.2.1 = 0
  · simp only [h7, h5, c2, if_true, c0, if_false, rA_48_1 hR, b1_N, kA_50, ck_N, lA_50, c1, i1, k1, (h1 σ.1 hN).1, true_and]
    by_cases c3 : cd b n (tS b n σ.1) = c
    · rw [if_pos c3, decide_eq_true c3]; rfl
    · rw [if_neg c3, decide_eq_false c3]; rfl
  · rw [decide_eq_false (fun q => c2 q.1)]
    simp only [h7, c2, if_false]
    rfl
theorem psA_5 (h : psA I b n N σ) (hlt : σ.1 < N) : psA (fh_up I 48 5 (nI (σ.1 + 1))) b n N (adv σ) := by
  obtain ⟨h1, h5, h7, h8, hN⟩ := h
  refine ⟨fun i hi => ?_, up_s _ _ _ _, by rw [up_k _ _ _ _ (by decide)]; exact h7, by rw [up_k _ _ _ _ (by decide)]; exact h8, by unfold adv; exact hlt⟩
  rw [up_a _ _ _ _ (by decide), up_a _ _ _ _ (by decide), up_a _ _ _ _ (by decide)]
  exact h1 i hi
theorem a_take (hR : RA R) (ht : tkc b n N) (h : psA I b n N σ) {c : Int32} (hc : ¬ c = 257) : ∃ I1, z_X10_take SA (I, J, R) 48 c = some (bI (isC b n c σ), (I1, J, R)) ∧ psA I1 b n N (if isC b n c σ = true then adv σ else σ) ∧ fA5 I I1 := by
  have e := a_isN (J := J) hR ht h c
  unfold z_X10_take
  rw [e, b1_N]
  cases q : isC b n c σ with
  | false =>
    rw [if_pos (show bI false = 0 from rfl)]
    exact ⟨I, rfl, by rw [if_neg (by decide)]; exact h, fA5.rf⟩
  | true =>
    rw [if_neg (show ¬ bI true = 0 by decide), if_neg hc]
    refine ⟨fh_up I 48 5 (nI (σ.1 + 1)), ?_, by rw [if_pos rfl]; exact psA_5 h (isC_lt ht hc h.2.2.2.2 q), fA5.rf.up (Or.inl rfl)⟩
    simp only [let_N, sI_N, h.2.1, nI_1]
    rfl
theorem a_takeE (hR : RA R) (ht : tkc b n N) (h : psA I b n N σ) : z_X10_take SA (I, J, R) 48 257 = some (bI (isC b n 257 σ), (I, J, R)) := by
  have e := a_isN (J := J) hR ht h 257
  unfold z_X10_take
  rw [e, b1_N]
  cases q : isC b n 257 σ with
  | false => rw [if_pos (show bI false = 0 from rfl)]; rfl
  | true => rw [if_neg (show ¬ bI true = 0 by decide), if_pos rfl]; rfl
theorem a_failK (hR : RA R) (ht : tkc b n N) (h : psA I b n N σ) {k : Int32} : ∃ I1, z_X10_fail SA (I, J, R) 48 k = some (I1, J, R) ∧ psA I1 b n N (flw b n k σ) ∧ fA5 I I1 := by
  have h0 := h
  obtain ⟨h1, h5, h7, h8, hN⟩ := h
  have n200 := ht.2.1
  have Nn := ht.2.2.1
  unfold z_X10_fail
  by_cases c2 : σ.2.1 = 0
  · have c0 : ¬ nI σ.1 < 0 := nI_pos (by omega)
    have c1 : ¬ Int32.ofNat 201 ≤ nI σ.1 := nI_ge (b := 201) (by omega) (by omega)
    have i1 : fh_in (nI σ.1) 201 = true := in_n (by omega) (by omega)
    have k1 : (nI σ.1).toNatClampNeg = σ.1 := nI_clamp (by omega)
    have u5 : fh_up I 48 7 k 48 5 = nI σ.1 := by rw [up_k _ _ _ _ (by decide)]; exact h5
    have u52 : fh_up I 48 7 k 52 σ.1 = nI (tS b n σ.1) := by rw [up_a _ _ _ _ (by decide)]; exact (h1 σ.1 hN).2.2
    refine ⟨fh_up (fh_up I 48 7 k) 48 8 (nI (tS b n σ.1)), ?_, ?_, (fA5.rf.up (Or.inr (Or.inl rfl))).up (Or.inr (Or.inr rfl))⟩
    · simp only [h7, c2, if_true, let_N, sI_N, u5, c0, if_false, rA_48_3 hR, b1_N, kA_52, ck_N, lA_52, c1, i1, k1, u52]
    · rw [flw_0 c2]
      refine ⟨fun i hi => ?_, ?_, ?_, up_s _ _ _ _, hN⟩
      · rw [up_a _ _ _ _ (by decide), up_a _ _ _ _ (by decide), up_a _ _ _ _ (by decide), up_a _ _ _ _ (by decide), up_a _ _ _ _ (by decide), up_a _ _ _ _ (by decide)]
        exact h1 i hi
      · rw [up_k _ _ _ _ (by decide), up_k _ _ _ _ (by decide)]; exact h5
      · rw [up_k _ _ _ _ (by decide), up_s]
  · refine ⟨I, ?_, by rw [flw_n c2]; exact h0, fA5.rf⟩
    simp only [h7, c2, if_false]
theorem a_expC (hR : RA R) (ht : tkc b n N) (h : psA I b n N σ) {c : Int32} (hc : ¬ c = 257) : ∃ I1, z_X10_expect SA (I, J, R) 48 c = some (I1, J, R) ∧ psA I1 b n N (exC b n c σ) ∧ fA5 I I1 := by
  obtain ⟨I1, e1, p1, f1⟩ := a_take (J := J) hR ht h hc
  unfold z_X10_expect exC
  rw [e1, b2_N]
  cases q : isC b n c σ with
  | false =>
    rw [q, if_neg (by decide)] at p1
    obtain ⟨I2, e2, p2, f2⟩ := a_failK (J := J) (k := 1) hR ht p1
    rw [if_pos (show bI false = 0 from rfl), e2, b1_N, if_neg (by decide)]
    exact ⟨I2, rfl, p2, f1.trans f2⟩
  | true =>
    rw [q, if_pos rfl] at p1
    rw [if_neg (show ¬ bI true = 0 by decide), if_pos rfl]
    exact ⟨I1, rfl, p1, f1⟩
theorem a_expE (hR : RA R) (ht : tkc b n N) (h : psA I b n N σ) : ∃ I1, z_X10_expect SA (I, J, R) 48 257 = some (I1, J, R) ∧ psA I1 b n N (if isC b n 257 σ = true then σ else flw b n 1 σ) ∧ fA5 I I1 := by
  unfold z_X10_expect
  rw [a_takeE hR ht h, b2_N]
  cases q : isC b n 257 σ with
  | false =>
    obtain ⟨I2, e2, p2, f2⟩ := a_failK (J := J) (k := 1) hR ht h
    rw [if_pos (show bI false = 0 from rfl), e2, b1_N, if_neg (by decide)]
    exact ⟨I2, rfl, p2, f2⟩
  | true =>
    rw [if_neg (show ¬ bI true = 0 by decide), if_pos rfl]
    exact ⟨I, rfl, h, fA5.rf⟩
theorem a_figs (hR : RA R) (ht : tkc b n N) (h : psA I b n N σ) {L : Nat} (hL : L ≤ 1) : ∃ I1, z_X10_takeFigures SA (I, J, R) 48 (nI L) = some (fgv b n L σ, (I1, J, R)) ∧ psA I1 b n N (fgs b n L σ) ∧ fA5 I I1 := by
  have h0 := h
  obtain ⟨h1, h5, h7, h8, hN⟩ := h
  have n200 := ht.2.1
  have Nn := ht.2.2.1
  have c0 : ¬ nI σ.1 < 0 := nI_pos (by omega)
  have c1 : ¬ Int32.ofNat 201 ≤ nI σ.1 := nI_ge (b := 201) (by omega) (by omega)
  have i1 : fh_in (nI σ.1) 201 = true := in_n (by omega) (by omega)
  have k1 : (nI σ.1).toNatClampNeg = σ.1 := nI_clamp (by omega)
  have e := a_isN (J := J) hR ht h0 256
  unfold z_X10_takeFigures z_X10_takeFigures_b32
  simp only [h5, c0, if_false, rA_48_2 hR, b1_N, kA_51, ck_N, lA_51, c1, i1, k1, (h1 σ.1 hN).2.1, e]
  unfold fgv fgs fgo
  cases q : isC b n 256 σ with
  | false =>
    obtain ⟨I2, e2, p2, f2⟩ := a_failK (J := J) (k := 1) hR ht h0
    rw [if_pos (show bI false = 0 from rfl), e2, b1_N, Bool.false_and, if_neg (by decide), if_neg (by decide), if_neg (by decide)]
    exact ⟨I2, rfl, p2, f2⟩
  | true =>
    have q' := q
    unfold isC at q'
    rw [decide_eq_true_eq] at q'
    have hk := (cd_num ht.1).1.mp q'.2
    have ev : vl b n (tS b n σ.1) = min (tvt b n σ) 10000 := by unfold vl tvt; rw [if_pos hk]
    rw [if_neg (show ¬ bI true = 0 by decide), ev, Bool.true_and]
    obtain ⟨I2, e2, p2, f2⟩ := a_failK (J := J) (k := 2) hR ht h0
    by_cases c2 : tvt b n σ < L
    · rw [if_pos (show nI (min (tvt b n σ) 10000) < nI L from nI_lt (by omega) (by omega)), e2, b1_N, decide_eq_false (by omega), if_neg (by decide), if_neg (by decide), if_pos rfl]
      exact ⟨I2, rfl, p2, f2⟩
    · rw [if_neg (show ¬ nI (min (tvt b n σ) 10000) < nI L from nI_nlt (by omega) (by omega))]
      by_cases c3 : tvt b n σ ≤ 9999
      · rw [if_pos (show nI (min (tvt b n σ) 10000) ≤ (9999 : Int32) from nI_le (b := 9999) (by omega) (by omega)), decide_eq_true (by omega), if_pos rfl, if_pos rfl, show min (tvt b n σ) 10000 = tvt b n σ by omega, let_N, sI_N, nI_1]
        exact ⟨_, rfl, psA_5 h0 (isC_lt ht (by decide) hN q), fA5.rf.up (Or.inl rfl)⟩
      · rw [if_neg (show ¬ nI (min (tvt b n σ) 10000) ≤ (9999 : Int32) from nI_ge (a := 9999) (by omega) (by omega)), e2, b1_N, decide_eq_false (by omega), if_neg (by decide), if_neg (by decide), if_pos rfl]
        exact ⟨I2, rfl, p2, f2⟩
/-! the reference -/
theorem b_isS (ht : tkc b n N) (h : psB I b n σ) {c : Nat} (hc : c < 256) (hN : σ.1 ≤ N) : z_X12_isSign TB (I, J, rB) 0 (nI c) = some (bI (isC b n (nI c) σ)) := by
  obtain ⟨h36, hb, h41, h4, h42⟩ := h
  have n200 := ht.2.1
  unfold z_X12_isSign isC
  by_cases c1 : σ.2.1 = 0
  · obtain ⟨a1, a2, a3, a4⟩ := h4 c1
    have hs := (tS_le b n σ.1).1
    rw [show decide (σ.2.1 = 0 ∧ cd b n (tS b n σ.1) = nI c) = decide (kd b n (tS b n σ.1) = 3 ∧ b (tS b n σ.1) = c) by
      congr 1
      exact propext ⟨fun q => (cd_sign ht.1 hc).mp q.2, fun q => ⟨c1, (cd_sign ht.1 hc).mpr q⟩⟩]
    by_cases c2 : kd b n (tS b n σ.1) = 3
    · have hlt : tS b n σ.1 < n := by
        rcases Nat.lt_or_ge (tS b n σ.1) n with z | z
        · exact z
        · unfold kd at c2; rw [if_pos z] at c2; exact absurd c2 (by decide)
      have i1 : fh_in (nI (tS b n σ.1)) 200 = true := in_n (by omega) (by omega)
      have k1 : (nI (tS b n σ.1)).toNatClampNeg = tS b n σ.1 := nI_clamp (by omega)
      have e3 : nI 3 = 3 := rfl
      have hbs := ht.1 (tS b n σ.1)
      simp only [h41, c1, if_true, a1, c2, e3, rB_33, b1_N, kB_N16, ck_N, lB_N16, a2, i1, k1, hb _ hlt, true_and]
      by_cases c3 : b (tS b n σ.1) = c
      · rw [if_pos (by rw [c3]), decide_eq_true c3]; rfl
      · rw [if_neg (fun q => c3 ((nI_eq (by omega) (by omega)).mp q)), decide_eq_false c3]; rfl
    · have n3 : ¬ nI (kd b n (tS b n σ.1)) = 3 := fun q => c2 ((nI_eq (b := 3) (by rcases kd_le b n (tS b n σ.1) with z | z | z | z <;> omega) (by omega)).mp q)
      simp only [h41, c1, if_true, a1, n3, if_false]
      rw [decide_eq_false (fun q => c2 q.1)]; rfl
  · rw [decide_eq_false (fun q => c1 q.1)]
    simp only [h41, c1, if_false]
    rfl
theorem b_word39 {s k : Nat} (hb : ∀ i, i < n → I 16 i = nI (b i)) (hn : n ≤ 200) (hk : fs_n k ≤ 6) (h39 : I 0 39 = nI s) (hs : s + fs_n k ≤ n) : ∀ (m fuel j : Nat), m + 1 < fuel → j + m = fs_n k → z_X12_isWord_b39 TB 0 fuel (I, J, rB) k 1 (nI j) = some (bI (spl b k s m j)) := by
  intro m
  induction m with
  | zero =>
    intro fuel j hf hm
    obtain ⟨f, rfl⟩ : ∃ f, fuel = f + 1 := ⟨fuel - 1, by omega⟩
    rw [z_X12_isWord_b39, if_neg one0, if_pos (show Int32.ofNat (fs_n k) ≤ nI j from nI_le (by omega) (by omega)), spl]; rfl
  | succ m ih =>
    intro fuel j hf hm
    obtain ⟨f, rfl⟩ : ∃ f, fuel = f + 1 := ⟨fuel - 1, by omega⟩
    have c1 : ¬ Int32.ofNat (fs_n k) ≤ nI j := nI_ge (by omega) (by omega)
    have i1 : fh_in (nI j) (fs_n k) = true := in_n (by omega) (by omega)
    have k1 : (nI j).toNatClampNeg = j := nI_clamp (by omega)
    have i2 : fh_in (nI (s + j)) 200 = true := in_n (by omega) (by omega)
    have k2 : (nI (s + j)).toNatClampNeg = s + j := nI_clamp (by omega)
    rw [z_X12_isWord_b39, if_neg one0, if_neg c1]
    simp only [i1, ck_N, rB_33, b1_N, kB_N16, lB_N16, h39, nI_add, i2, k1, k2, hb (s + j) (by omega), let_N, nI_1, spl]
    by_cases c : fs_c k j = nI (b (s + j))
    · rw [if_pos c, ih f (j + 1) (by omega) (by omega), decide_eq_true c, Bool.true_and]
    · rw [if_neg c, decide_eq_false c, Bool.false_and]
      obtain ⟨f', rfl⟩ : ∃ f', f = f' + 1 := ⟨f - 1, by omega⟩
      rw [z_X12_isWord_b39, if_pos rfl]; rfl
theorem b_isW (ht : tkc b n N) (h : psB I b n σ) {k : Nat} (hk : k < 10) : z_X12_isWord TB (I, J, rB) 0 k = some (bI (isC b n (nI (258 + k)) σ)) := by
  obtain ⟨h36, hb, h41, h4, h42⟩ := h
  have n200 := ht.2.1
  have hf := fs_small k hk
  have z0 : ∀ (h : fh_H), z_X12_isWord_b39 TB 0 20000 h k 0 0 = some 0 := fun h => rfl
  unfold z_X12_isWord isC
  by_cases c1 : σ.2.1 = 0
  · obtain ⟨a1, a2, a3, a4⟩ := h4 c1
    have hs := tS_le b n σ.1
    rw [show decide (σ.2.1 = 0 ∧ cd b n (tS b n σ.1) = nI (258 + k)) = decide (kd b n (tS b n σ.1) = 1 ∧ spb b k (tS b n σ.1) (tE b n (tS b n σ.1)) = true) by
      congr 1
      exact propext ⟨fun q => (cd_word ht.1 hk).mp q.2, fun q => ⟨c1, (cd_word ht.1 hk).mpr q⟩⟩]
    by_cases c2 : kd b n (tS b n σ.1) = 1
    · have hlt : tS b n σ.1 < n := by
        rcases Nat.lt_or_ge (tS b n σ.1) n with z | z
        · exact z
        · unfold kd at c2; rw [if_pos z] at c2; exact absurd c2 (by decide)
      have hE := tE_lt (b := b) hlt
      have e1 : nI 1 = 1 := rfl
      have e2 : nI (tE b n (tS b n σ.1)) - nI (tS b n σ.1) = nI (tE b n (tS b n σ.1) - tS b n σ.1) := nI_subn (by omega)
      simp only [h41, c1, if_true, a1, c2, e1, a2, a3, e2, true_and]
      unfold spb
      by_cases c3 : tE b n (tS b n σ.1) - tS b n σ.1 = fs_n k
      · rw [if_pos (show Int32.ofNat (fs_n k) = nI (tE b n (tS b n σ.1) - tS b n σ.1) by rw [c3]; rfl), decide_eq_true c3, Bool.true_and]
        have := b_word39 (J := J) hb n200 hf.2 a2 (by omega) (fs_n k) 20000 0 (by omega) (by omega)
        rw [nI_0] at this
        rw [this]
        cases spl b k (tS b n σ.1) (fs_n k) 0 <;> rfl
      · rw [if_neg (show ¬ Int32.ofNat (fs_n k) = nI (tE b n (tS b n σ.1) - tS b n σ.1) from fun q => c3 ((nI_eq (by omega) (by omega)).mp q).symm), z0, decide_eq_false c3, Bool.false_and]
        rfl
    · have n3 : ¬ nI (kd b n (tS b n σ.1)) = 1 := fun q => c2 ((nI_eq (b := 1) (by rcases kd_le b n (tS b n σ.1) with z | z | z | z <;> omega) (by omega)).mp q)
      simp only [h41, c1, if_true, a1, n3, if_false, z0]
      rw [decide_eq_false (fun q => c2 q.1)]; rfl
  · rw [decide_eq_false (fun q => c1 q.1)]
    simp only [h41, c1, if_false, z0]
    rfl
theorem b_wrongK (h : psB I b n σ) {k : Int32} (hk : ¬ k = 0) : ∃ I1, z_X12_wrong TB (I, J, rB) 0 k = some (I1, J, rB) ∧ psB I1 b n (flw b n k σ) ∧ gF I I1 := by
  have h0 := h
  obtain ⟨h36, hb, h41, h4, h42⟩ := h
  unfold z_X12_wrong
  by_cases c : σ.2.1 = 0
  · obtain ⟨a1, a2, a3, a4⟩ := h4 c
    have u : fh_up I 0 41 k 0 39 = nI (tS b n σ.1) := by rw [up_k _ _ _ _ (by decide)]; exact a2
    refine ⟨fh_up (fh_up I 0 41 k) 0 42 (nI (tS b n σ.1)), ?_, ?_, (gF.rf.up (by omega)).up (by omega)⟩
    · simp only [h41, c, if_true, let_N, sI_N, u]
    · rw [flw_0 c]
      refine ⟨?_, fun i hi => ?_, ?_, fun q => absurd q hk, fun _ => up_s _ _ _ _⟩
      · rw [up_k _ _ _ _ (by decide), up_k _ _ _ _ (by decide)]; exact h36
      · rw [up_a _ _ _ _ (by decide), up_a _ _ _ _ (by decide)]; exact hb i hi
      · rw [up_k _ _ _ _ (by decide), up_s]
  · refine ⟨I, ?_, by rw [flw_n c]; exact h0, gF.rf⟩
    simp only [h41, c, if_false]
theorem b_pass0 (ht : tkc b n N) (h : psB I b n σ) (c : σ.2.1 = 0) : ∃ I1, z_X12_pass TB (I, J, rB) 0 = some (I1, J, rB) ∧ psB I1 b n (adv σ) ∧ gF I I1 := by
  obtain ⟨h36, hb, h41, h4, h42⟩ := h
  obtain ⟨a1, a2, a3, a4⟩ := h4 c
  obtain ⟨I1, e, q1, q2⟩ := b_step (J := J) ht.1 ht.2.1 (tS_le b n σ.1).2 h36 hb a4
  refine ⟨I1, ?_, ⟨?_, fun i hi => ?_, ?_, fun _ => q1, fun q => absurd c q⟩, fun b j q => q2 b j (fun z => q ⟨z.1, by omega, by omega⟩)⟩
  · unfold z_X12_pass
    simp only [h41, c, if_true, e, b1_N]
  · rw [q2 _ _ (by omega)]; exact h36
  · rw [q2 _ _ (by omega)]; exact hb i hi
  · rw [q2 _ _ (by omega)]; exact h41
theorem b_pass1 (h : psB I b n σ) (c : ¬ σ.2.1 = 0) : z_X12_pass TB (I, J, rB) 0 = some (I, J, rB) := by
  unfold z_X12_pass
  simp only [h.2.2.1, c, if_false]
theorem b_mustC (ht : tkc b n N) (h : psB I b n σ) {c : Nat} (hc : c < 256) (hN : σ.1 ≤ N) : ∃ I1, z_X12_must TB (I, J, rB) 0 (nI c) = some (I1, J, rB) ∧ psB I1 b n (exC b n (nI c) σ) ∧ gF I I1 := by
  unfold z_X12_must exC
  rw [b_isS ht h hc hN, b1_N]
  cases q : isC b n (nI c) σ with
  | false =>
    obtain ⟨I1, e1, p1, f1⟩ := b_wrongK (J := J) h one0
    rw [if_pos (show bI false = 0 from rfl), if_neg (by decide), e1, b1_N, b_pass1 p1 (by
      by_cases c2 : σ.2.1 = 0
      · rw [flw_0 c2]; exact one0
      · rw [flw_n c2]; exact c2), b1_N]
    exact ⟨I1, rfl, p1, f1⟩
  | true =>
    obtain ⟨I1, e1, p1, f1⟩ := b_pass0 (J := J) ht h (isC_0 q)
    rw [if_neg (show ¬ bI true = 0 by decide), if_pos rfl, e1, b1_N]
    exact ⟨I1, rfl, p1, f1⟩
end
theorem rnn_all {q : Nat → Bool} {b : Nat → Nat} {n : Nat} : ∀ (m p : Nat), p + m = n → ∀ i, p ≤ i → i < rnn q b n p → q (b i) = true := by
  intro m
  induction m with
  | zero => intro p hp i h1 h2; rw [rnn_e (by omega)] at h2; omega
  | succ m ih =>
    intro p hp i h1 h2
    rw [rnn_s (show p < n by omega)] at h2
    by_cases c : q (b p) = true
    · rw [if_pos c] at h2
      by_cases ci : i = p
      · rw [ci]; exact c
      · exact ih (p + 1) (by omega) i (by omega) h2
    · rw [if_neg c] at h2; omega
section
variable {I : Nat → Nat → Int32} {J : Nat → Nat → Int64} {b : Nat → Nat} {n N : Nat} {σ : PS}
theorem b_num28 {e : Nat} {x1 x2 : Int32} (hb : ∀ i, i < n → I 16 i = nI (b i)) (hb2 : ∀ i, b i < 256) (hn : n ≤ 200) (h41 : I 0 41 = 0) (h40 : I 0 40 = nI e) (he : e ≤ n) : ∀ (m fuel q V : Nat), m < fuel → q + m = e → (∀ i, q ≤ i → i < e → fgr (b i) = true) → z_X12_number_b28 TB 0 fuel (I, J, rB) x1 x2 (nI (min V 1000000)) (nI q) = z_X12_number_b72 TB 0 (I, J, rB) x1 x2 (nI (min (tv b (e - q) q V) 1000000)) := by
  intro m
  induction m with
  | zero =>
    intro fuel q V hf hm hg
    obtain ⟨f, rfl⟩ : ∃ f, fuel = f + 1 := ⟨fuel - 1, by omega⟩
    have c0 : nI e ≤ nI q := nI_le (by omega) (by omega)
    rw [z_X12_number_b28, show e - q = 0 by omega, tv]
    simp only [h41, h40, c0, if_true]
  | succ m ih =>
    intro fuel q V hf hm hg
    obtain ⟨f, rfl⟩ : ∃ f, fuel = f + 1 := ⟨fuel - 1, by omega⟩
    have c0 : ¬ nI e ≤ nI q := nI_ge (by omega) (by omega)
    have i1 : fh_in (nI q) 200 = true := in_n (by omega) (by omega)
    have k1 : (nI q).toNatClampNeg = q := nI_clamp (by omega)
    have hc : 48 ≤ b q ∧ b q ≤ 57 := by have := hg q (by omega) (by omega); unfold fgr at this; rw [decide_eq_true_eq] at this; exact this
    have e1 : (10 : Int32) * nI (min V 1000000) + nI (b q) - 48 = nI (10 * min V 1000000 + b q - 48) := by
      rw [show (10 : Int32) = nI 10 from rfl, nI_mul, nI_add]
      exact nI_subn (b := 48) (by omega)
    have e2 : z_J9_min_7cf53 1000000 (nI (10 * min V 1000000 + b q - 48)) = some (nI (min (10 * V + (b q - 48)) 1000000)) := by
      unfold z_J9_min_7cf53
      by_cases z : 10 * min V 1000000 + b q - 48 < 1000000
      · rw [if_pos (show nI (10 * min V 1000000 + b q - 48) < (1000000 : Int32) from nI_lt (b := 1000000) z (by omega))]
        congr 2
        omega
      · rw [if_neg (show ¬ nI (10 * min V 1000000 + b q - 48) < (1000000 : Int32) from nI_nlt (b := 1000000) (by omega) (by omega)), show min (10 * V + (b q - 48)) 1000000 = 1000000 by omega]; rfl
    rw [z_X12_number_b28]
    simp only [h41, if_true, h40, c0, if_false, rB_33, b1_N, kB_N16, ck_N, lB_N16, i1, k1, hb q (by omega), e1, e2, let_N, nI_1]
    rw [ih f (q + 1) (10 * V + (b q - 48)) (by omega) (by omega) (fun i h1 h2 => hg i (by omega) h2), show e - q = (e - (q + 1)) + 1 by omega, tv]
theorem b_num72 {v : Nat} (hv : v < 2 ^ 31) {L : Nat} (hL : L ≤ 1) (ht : tkc b n N) (h : psB I b n σ) (c : σ.2.1 = 0) : ∃ I1, z_X12_number_b72 TB 0 (I, J, rB) (nI L) 9999 (nI v) = some (nI v, (I1, J, rB)) ∧ psB I1 b n (if L ≤ v ∧ v ≤ 9999 then adv σ else flw b n 2 σ) ∧ gF I I1 := by
  have eI : z_X12_isIn (nI v).toInt64 (nI L).toInt64 (Int32.toInt64 9999) = some (if nI L ≤ nI v ∧ nI v ≤ 9999 then 1 else 0) := b_isIn (nI v) (nI L) 9999
  have iff : (nI L ≤ nI v ∧ nI v ≤ 9999) ↔ (L ≤ v ∧ v ≤ 9999) := by
    rw [show (9999 : Int32) = nI 9999 from rfl, nI_leI (by omega) hv, nI_leI hv (by omega)]
  unfold z_X12_number_b72
  by_cases c1 : L ≤ v ∧ v ≤ 9999
  · obtain ⟨I1, e1, p1, f1⟩ := b_pass0 (J := J) ht h c
    rw [if_pos (iff.mpr c1)] at eI
    refine ⟨I1, ?_, by rw [if_pos c1]; exact p1, f1⟩
    simp only [h.2.2.1, c, if_true, eI, b1_N, one0, if_false, e1]
  · obtain ⟨I1, e1, p1, f1⟩ := b_wrongK (J := J) (k := 2) h (by decide)
    have e2 := b_pass1 (J := J) p1 (by rw [flw_0 c]; show ¬ (2 : Int32) = 0; decide)
    rw [if_neg (fun q => c1 (iff.mp q))] at eI
    refine ⟨I1, ?_, by rw [if_neg c1]; exact p1, f1⟩
    simp only [h.2.2.1, c, if_true, eI, b1_N, e1, e2]
theorem b_numN {J : Nat → Nat → Int64} (h : psB I b n σ) (c : ¬ σ.2.1 = 0) {x1 x2 v y : Int32} {f : Nat} : z_X12_number_b28 TB 0 (f + 1) (I, J, rB) x1 x2 v y = some (v, (I, J, rB)) := by
  rw [z_X12_number_b28]
  simp only [h.2.2.1, c, if_false]
  unfold z_X12_number_b72
  simp only [h.2.2.1, c, if_false, b_pass1 h c, b1_N]
theorem b_number (ht : tkc b n N) (h : psB I b n σ) {L : Nat} (hL : L ≤ 1) : ∃ I1 v, z_X12_number TB (I, J, rB) 0 (nI L) 9999 = some (v, (I1, J, rB)) ∧ psB I1 b n (fgs b n L σ) ∧ (fgo b n L σ = true → v = fgv b n L σ) ∧ gF I I1 := by
  have h0 := h
  obtain ⟨h36, hb, h41, h4, h42⟩ := h
  have n200 := ht.2.1
  unfold z_X12_number
  by_cases c1 : σ.2.1 = 0
  · obtain ⟨a1, a2, a3, a4⟩ := h4 c1
    have hs := tS_le b n σ.1
    by_cases c2 : kd b n (tS b n σ.1) = 2
    · have hlt : tS b n σ.1 < n := by
        rcases Nat.lt_or_ge (tS b n σ.1) n with z | z
        · exact z
        · unfold kd at c2; rw [if_pos z] at c2; exact absurd c2 (by decide)
      have hE := tE_lt (b := b) hlt
      have q : isC b n 256 σ = true := decide_eq_true ⟨c1, (cd_num ht.1).1.mpr c2⟩
      have e2 : nI 2 = 2 := rfl
      have figs : ∀ i, tS b n σ.1 ≤ i → i < tE b n (tS b n σ.1) → fgr (b i) = true := by
        have hf : fgr (b (tS b n σ.1)) = true := by
          unfold kd at c2
          rw [if_neg (by omega)] at c2
          split at c2
          · exact absurd c2 (by decide)
          · split at c2
            · assumption
            · exact absurd c2 (by decide)
        intro i h1 h2
        unfold tE at h2
        rw [if_neg (by omega), if_pos hf] at h2
        by_cases ci : i = tS b n σ.1
        · rw [ci]; exact hf
        · exact rnn_all (n - (tS b n σ.1 + 1)) (tS b n σ.1 + 1) (by omega) i (by omega) h2
      have e28 := b_num28 (J := J) (x1 := nI L) (x2 := 9999) hb ht.1 n200 (h41.trans c1) a3 hs.2 (tE b n (tS b n σ.1) - tS b n σ.1) 20000 (tS b n σ.1) 0 (by omega) (by omega) figs
      have ez : nI (min 0 1000000) = 0 := rfl
      rw [ez] at e28
      obtain ⟨I1, e1, p1, f1⟩ := b_num72 (J := J) (v := min (tvt b n σ) 1000000) (by omega) hL ht h0 c1
      refine ⟨I1, nI (min (tvt b n σ) 1000000), ?_, ?_, fun hq => ?_, f1⟩
      · simp only [h41, c1, if_true, a1, c2, e2, a2, let_N]
        rw [e28]
        exact e1
      · unfold fgs fgo
        rw [q, Bool.true_and]
        by_cases c3 : L ≤ tvt b n σ ∧ tvt b n σ ≤ 9999
        · rw [if_pos (by omega)] at p1
          rw [decide_eq_true c3, if_pos rfl]; exact p1
        · rw [if_neg (by omega)] at p1
          rw [decide_eq_false c3, if_neg (by decide), if_pos rfl]; exact p1
      · unfold fgv
        rw [if_pos hq]
        unfold fgo at hq
        rw [Bool.and_eq_true, decide_eq_true_eq] at hq
        congr 1
        omega
    · have n2 : ¬ nI (kd b n (tS b n σ.1)) = 2 := fun q => c2 ((nI_eq (b := 2) (by rcases kd_le b n (tS b n σ.1) with z | z | z | z <;> omega) (by omega)).mp q)
      have q : isC b n 256 σ = false := decide_eq_false (fun q => c2 ((cd_num ht.1).1.mp q.2))
      obtain ⟨I1, e1, p1, f1⟩ := b_wrongK (J := J) h0 one0
      refine ⟨I1, 0, ?_, ?_, fun hq => ?_, f1⟩
      · simp only [h41, c1, if_true, a1, n2, if_false, e1, b1_N, let_N]
        exact b_numN p1 (by rw [flw_0 c1]; exact one0)
      · unfold fgs fgo
        rw [q, Bool.false_and, if_neg (by decide), if_neg (by decide)]; exact p1
      · unfold fgo at hq; rw [q, Bool.false_and] at hq; exact absurd hq (by decide)
  · have q : isC b n 256 σ = false := isC_n c1
    refine ⟨I, 0, ?_, ?_, fun hq => ?_, gF.rf⟩
    · simp only [h41, c1, if_false, let_N]
      exact b_numN h0 c1
    · unfold fgs fgo
      rw [q, Bool.false_and, if_neg (by decide), if_neg (by decide), flw_n c1]; exact h0
    · unfold fgo at hq; rw [q, Bool.false_and] at hq; exact absurd hq (by decide)
end
