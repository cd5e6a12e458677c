/-! the reference's tokens; what both ask of one -/
theorem spl_all {b : Nat → Nat} {k s : Nat} : ∀ (m j : Nat), spl b k s m j = true → ∀ i, j ≤ i → i < j + m → fs_c k i = nI (b (s + i)) := by
  intro m
  induction m with
  | zero => intro j _ i h1 h2; omega
  | succ m ih =>
    intro j h i h1 h2
    rw [spl, Bool.and_eq_true, decide_eq_true_eq] at h
    by_cases c : i = j
    · rw [c]; exact h.1
    · exact ih (j + 1) h.2 i (by omega) (by omega)
theorem fs_uni : ∀ k, k < 10 → ∀ k', k' < 10 → fs_n k = fs_n k' → (∀ j, j < fs_n k → fs_c k j = fs_c k' j) → k = k' := by decide +kernel
theorem sp_uni {b : Nat → Nat} {s e k k' : Nat} (hk : k < 10) (hk' : k' < 10) (h : spb b k s e = true) (h' : spb b k' s e = true) : k = k' := by
  unfold spb at h h'
  rw [Bool.and_eq_true, decide_eq_true_eq] at h h'
  refine fs_uni k hk k' hk' (h.1.symm.trans h'.1) (fun j hj => ?_)
  rw [spl_all _ _ h.2 j (Nat.zero_le _) (by omega), spl_all _ _ h'.2 j (Nat.zero_le _) (by have := h.1; have := h'.1; omega)]
theorem wc_t {b : Nat → Nat} {s e k : Nat} (hk : k < 10) (h : spb b k s e = true) : wcode b s e = nI (258 + k) := by
  have n : ∀ j, j < 10 → j ≠ k → ¬ spb b j s e = true := fun j hj hne q => hne (sp_uni hj hk q h)
  unfold wcode
  rcases (by omega : k = 0 ∨ k = 1 ∨ k = 2 ∨ k = 3 ∨ k = 4 ∨ k = 5 ∨ k = 6 ∨ k = 7 ∨ k = 8 ∨ k = 9) with rfl | rfl | rfl | rfl | rfl | rfl | rfl | rfl | rfl | rfl
  · rw [if_pos h]; rfl
  · rw [if_neg (n 0 (by omega) (by omega)), if_pos h]; rfl
  · rw [if_neg (n 0 (by omega) (by omega)), if_neg (n 1 (by omega) (by omega)), if_pos h]; rfl
  · rw [if_neg (n 0 (by omega) (by omega)), if_neg (n 1 (by omega) (by omega)), if_neg (n 2 (by omega) (by omega)), if_pos h]; rfl
  · rw [if_neg (n 0 (by omega) (by omega)), if_neg (n 1 (by omega) (by omega)), if_neg (n 2 (by omega) (by omega)), if_neg (n 3 (by omega) (by omega)), if_pos h]; rfl
  · rw [if_neg (n 0 (by omega) (by omega)), if_neg (n 1 (by omega) (by omega)), if_neg (n 2 (by omega) (by omega)), if_neg (n 3 (by omega) (by omega)), if_neg (n 4 (by omega) (by omega)), if_pos h]; rfl
  · rw [if_neg (n 0 (by omega) (by omega)), if_neg (n 1 (by omega) (by omega)), if_neg (n 2 (by omega) (by omega)), if_neg (n 3 (by omega) (by omega)), if_neg (n 4 (by omega) (by omega)), if_neg (n 5 (by omega) (by omega)), if_pos h]; rfl
  · rw [if_neg (n 0 (by omega) (by omega)), if_neg (n 1 (by omega) (by omega)), if_neg (n 2 (by omega) (by omega)), if_neg (n 3 (by omega) (by omega)), if_neg (n 4 (by omega) (by omega)), if_neg (n 5 (by omega) (by omega)), if_neg (n 6 (by omega) (by omega)), if_pos h]; rfl
  · rw [if_neg (n 0 (by omega) (by omega)), if_neg (n 1 (by omega) (by omega)), if_neg (n 2 (by omega) (by omega)), if_neg (n 3 (by omega) (by omega)), if_neg (n 4 (by omega) (by omega)), if_neg (n 5 (by omega) (by omega)), if_neg (n 6 (by omega) (by omega)), if_neg (n 7 (by omega) (by omega)), if_pos h]; rfl
  · rw [if_neg (n 0 (by omega) (by omega)), if_neg (n 1 (by omega) (by omega)), if_neg (n 2 (by omega) (by omega)), if_neg (n 3 (by omega) (by omega)), if_neg (n 4 (by omega) (by omega)), if_neg (n 5 (by omega) (by omega)), if_neg (n 6 (by omega) (by omega)), if_neg (n 7 (by omega) (by omega)), if_neg (n 8 (by omega) (by omega)), if_pos h]; rfl
theorem wc_iff {b : Nat → Nat} {s e k : Nat} (hk : k < 10) : wcode b s e = nI (258 + k) ↔ spb b k s e = true := by
  refine ⟨fun h => ?_, wc_t hk⟩
  by_cases c : ∃ k', k' < 10 ∧ spb b k' s e = true
  · obtain ⟨k', h1, h2⟩ := c
    have := wc_t h1 h2
    rw [this, nI_eq (by omega) (by omega)] at h
    obtain rfl : k' = k := by omega
    exact h2
  · have n : ∀ j, j < 10 → ¬ spb b j s e = true := fun j hj q => c ⟨j, hj, q⟩
    unfold wcode at h
    rw [if_neg (n 0 (by omega)), if_neg (n 1 (by omega)), if_neg (n 2 (by omega)), if_neg (n 3 (by omega)), if_neg (n 4 (by omega)), if_neg (n 5 (by omega)), if_neg (n 6 (by omega)), if_neg (n 7 (by omega)), if_neg (n 8 (by omega)), if_neg (n 9 (by omega))] at h
    have h' : nI 268 = nI (258 + k) := h
    rw [nI_eq (by omega) (by omega)] at h'
    omega
theorem wc_big (b : Nat → Nat) (s e : Nat) : ∃ k, k ≤ 10 ∧ wcode b s e = nI (258 + k) := by
  by_cases c : ∃ k', k' < 10 ∧ spb b k' s e = true
  · obtain ⟨k', h1, h2⟩ := c
    exact ⟨k', by omega, wc_t h1 h2⟩
  · have n : ∀ j, j < 10 → ¬ spb b j s e = true := fun j hj q => c ⟨j, hj, q⟩
    refine ⟨10, Nat.le_refl _, ?_⟩
    unfold wcode
    rw [if_neg (n 0 (by omega)), if_neg (n 1 (by omega)), if_neg (n 2 (by omega)), if_neg (n 3 (by omega)), if_neg (n 4 (by omega)), if_neg (n 5 (by omega)), if_neg (n 6 (by omega)), if_neg (n 7 (by omega)), if_neg (n 8 (by omega)), if_neg (n 9 (by omega))]
    rfl
theorem kd_le (b : Nat → Nat) (n s : Nat) : kd b n s = 0 ∨ kd b n s = 1 ∨ kd b n s = 2 ∨ kd b n s = 3 := by
  unfold kd
  split
  · exact Or.inl rfl
  · split
    · exact Or.inr (Or.inl rfl)
    · split
      · exact Or.inr (Or.inr (Or.inl rfl))
      · exact Or.inr (Or.inr (Or.inr rfl))
/-- what a code says of a token -/
theorem cd_sign {b : Nat → Nat} {n s c : Nat} (hb : ∀ i, b i < 256) (hc : c < 256) : cd b n s = nI c ↔ kd b n s = 3 ∧ b s = c := by
  unfold cd
  have hbs := hb s
  obtain ⟨k, hk, ek⟩ := wc_big b s (tE b n s)
  rcases kd_le b n s with q | q | q | q
  · rw [if_pos q]
    constructor
    · intro h
      have h' : nI 257 = nI c := h
      rw [nI_eq (by omega) (by omega)] at h'; omega
    · intro h; rw [q] at h; omega
  · rw [if_neg (by rw [q]; decide), if_pos q, ek]
    constructor
    · intro h
      rw [nI_eq (by omega) (by omega)] at h; omega
    · intro h; rw [q] at h; omega
  · rw [if_neg (by rw [q]; decide), if_neg (by rw [q]; decide), if_pos q]
    constructor
    · intro h
      have h' : nI 256 = nI c := h
      rw [nI_eq (by omega) (by omega)] at h'; omega
    · intro h; rw [q] at h; omega
  · rw [if_neg (by rw [q]; decide), if_neg (by rw [q]; decide), if_neg (by rw [q]; decide), nI_eq (by omega) (by omega)]
    exact ⟨fun h => ⟨q, h⟩, fun h => h.2⟩
theorem cd_word {b : Nat → Nat} {n s k : Nat} (hb : ∀ i, b i < 256) (hk : k < 10) : cd b n s = nI (258 + k) ↔ kd b n s = 1 ∧ spb b k s (tE b n s) = true := by
  unfold cd
  have hbs := hb s
  rcases kd_le b n s with q | q | q | q
  · rw [if_pos q]
    constructor
    · intro h
      have h' : nI 257 = nI (258 + k) := h
      rw [nI_eq (by omega) (by omega)] at h'; omega
    · intro h; rw [q] at h; omega
  · rw [if_neg (by rw [q]; decide), if_pos q, wc_iff hk]
    exact ⟨fun h => ⟨q, h⟩, fun h => h.2⟩
  · rw [if_neg (by rw [q]; decide), if_neg (by rw [q]; decide), if_pos q]
    constructor
    · intro h
      have h' : nI 256 = nI (258 + k) := h
      rw [nI_eq (by omega) (by omega)] at h'; omega
    · intro h; rw [q] at h; omega
  · rw [if_neg (by rw [q]; decide), if_neg (by rw [q]; decide), if_neg (by rw [q]; decide)]
    constructor
    · intro h
      rw [nI_eq (by omega) (by omega)] at h; omega
    · intro h; rw [q] at h; omega
theorem cd_num {b : Nat → Nat} {n s : Nat} (hb : ∀ i, b i < 256) : (cd b n s = 256 ↔ kd b n s = 2) ∧ (cd b n s = 257 ↔ kd b n s = 0) := by
  unfold cd
  have hbs := hb s
  obtain ⟨k, hk, ek⟩ := wc_big b s (tE b n s)
  have e6 : (256 : Int32) = nI 256 := rfl
  have e7 : (257 : Int32) = nI 257 := rfl
  rcases kd_le b n s with q | q | q | q
  · rw [if_pos q, q]
    exact ⟨⟨fun h => absurd h (by decide), fun h => absurd h (by decide)⟩, ⟨fun _ => rfl, fun _ => rfl⟩⟩
  · rw [if_neg (by rw [q]; decide), if_pos q, ek, q, e6, e7, nI_eq (by omega) (by omega), nI_eq (by omega) (by omega)]
    omega
  · rw [if_neg (by rw [q]; decide), if_neg (by rw [q]; decide), if_pos q, q]
    exact ⟨⟨fun _ => rfl, fun _ => rfl⟩, ⟨fun h => absurd h (by decide), fun h => absurd h (by decide)⟩⟩
  · rw [if_neg (by rw [q]; decide), if_neg (by rw [q]; decide), if_neg (by rw [q]; decide), q, e6, e7, nI_eq (by omega) (by omega), nI_eq (by omega) (by omega)]
    omega
/-! the reference steps -/
theorem b_byte {I : Nat → Nat → Int32} {J : Nat → Nat → Int64} {b : Nat → Nat} {n p : Nat} (h36 : I 0 36 = nI n) (hb : ∀ i, i < n → I 16 i = nI (b i)) (hn : n ≤ 200) (hp : p ≤ n) : z_X12_byteAt TB (I, J, rB) 0 (nI p) = some (if p < n then nI (b p) else -1) := by
  unfold z_X12_byteAt
  by_cases c : p < n
  · have c0 : ¬ nI n ≤ nI p := nI_ge c (by omega)
    have i1 : fh_in (nI p) 200 = true := in_n (by omega) (by omega)
    have k1 : (nI p).toNatClampNeg = p := nI_clamp (by omega)
    simp only [h36, c0, if_false, rB_33, b1_N, kB_N16, ck_N, lB_N16, i1, k1, hb p c, c, if_true]
  · have c0 : nI n ≤ nI p := nI_le (by omega) (by omega)
    simp only [h36, c0, if_true, c, if_false]
def gF (I I' : Nat → Nat → Int32) : Prop := ∀ b j, ¬ (b = 0 ∧ 37 ≤ j ∧ j ≤ 42) → I' b j = I b j
theorem gF.rf {I : Nat → Nat → Int32} : gF I I := fun _ _ _ => rfl
theorem gF.trans {I I1 I2 : Nat → Nat → Int32} (h : gF I I1) (h2 : gF I1 I2) : gF I I2 := fun b j q => (h2 b j q).trans (h b j q)
theorem gF.up {I I' : Nat → Nat → Int32} {k : Nat} {v : Int32} (h : gF I I') (hk : 37 ≤ k ∧ k ≤ 42) : gF I (fh_up I' 0 k v) := fun b j q => by
  have z : ¬ (b = 0 ∧ j = k) := fun z => q ⟨z.1, by omega⟩
  have e : fh_up I' 0 k v b j = I' b j := by simp only [fh_up, z, if_false]
  rw [e]; exact h b j q
def at4 (I : Nat → Nat → Int32) (b : Nat → Nat) (n s : Nat) : Prop := I 0 38 = nI (kd b n s) ∧ I 0 39 = nI s ∧ I 0 40 = nI (tE b n s) ∧ I 0 37 = nI (tE b n s)
def s4F (I I' : Nat → Nat → Int32) : Prop := ∀ b j, ¬ (b = 0 ∧ 37 ≤ j ∧ j ≤ 40) → I' b j = I b j
theorem s4F.rf {I : Nat → Nat → Int32} : s4F I I := fun _ _ _ => rfl
theorem s4F.trans {I I1 I2 : Nat → Nat → Int32} (h : s4F I I1) (h2 : s4F I1 I2) : s4F I I2 := fun b j q => (h2 b j q).trans (h b j q)
theorem s4F.up {I I' : Nat → Nat → Int32} {k : Nat} {v : Int32} (h : s4F I I') (hk : 37 ≤ k ∧ k ≤ 40) : s4F I (fh_up I' 0 k v) := fun b j q => by
  have z : ¬ (b = 0 ∧ j = k) := fun z => q ⟨z.1, by omega⟩
  have e : fh_up I' 0 k v b j = I' b j := by simp only [fh_up, z, if_false]
  rw [e]; exact h b j q
theorem b_run118 {J : Nat → Nat → Int64} {b : Nat → Nat} {n : Nat} (hb2 : ∀ i, b i < 256) (hn : n ≤ 200) : ∀ (m fuel : Nat) (I : Nat → Nat → Int32) (q : Nat), m < fuel → q + m = n → I 0 36 = nI n → (∀ i, i < n → I 16 i = nI (b i)) → I 0 37 = nI q →
    ∃ I', z_X12_step_b118 TB 0 fuel (I, J, rB) = some (I', J, rB) ∧ I' 0 38 = 2 ∧ I' 0 39 = I 0 39 ∧ I' 0 40 = nI (rnn fgr b n q) ∧ I' 0 37 = nI (rnn fgr b n q) ∧ s4F I I' := by
  intro m
  induction m with
  | zero =>
    intro fuel I q hf hm h36 hb h37
    obtain ⟨f, rfl⟩ : ∃ f, fuel = f + 1 := ⟨fuel - 1, by omega⟩
    have eb := b_byte (J := J) h36 hb hn (show q ≤ n by omega)
    rw [if_neg (show ¬ q < n by omega)] at eb
    have ef : z_X12_isFigure (-1) = some 0 := rfl
    refine ⟨fh_up (fh_up I 0 38 2) 0 40 (nI q), ?_, ?_, ?_, ?_, ?_, ((s4F.rf (I := I)).up (by omega)).up (by omega)⟩
    · have u : fh_up I 0 38 2 0 37 = nI q := by rw [up_k _ _ _ _ (by decide)]; exact h37
      rw [z_X12_step_b118]
      simp only [h37, eb, b1_N, ef, if_true, let_N, sI_N, u]
    · rw [up_k _ _ _ _ (by decide), up_s]
    · rw [up_k _ _ _ _ (by decide), up_k _ _ _ _ (by decide)]
    · rw [up_s, rnn_e (by omega)]
    · rw [up_k _ _ _ _ (by decide), up_k _ _ _ _ (by decide), rnn_e (by omega)]; exact h37
  | succ m ih =>
    intro fuel I q hf hm h36 hb h37
    obtain ⟨f, rfl⟩ : ∃ f, fuel = f + 1 := ⟨fuel - 1, by omega⟩
    have eb := b_byte (J := J) h36 hb hn (show q ≤ n by omega)
    rw [if_pos (show q < n by omega)] at eb
    have ef := (z_fig (hb2 q)).2
    rw [rnn_s (show q < n by omega)]
    cases c : fgr (b q) with
    | false =>
      rw [c] at ef
      refine ⟨fh_up (fh_up I 0 38 2) 0 40 (nI q), ?_, ?_, ?_, ?_, ?_, ((s4F.rf (I := I)).up (by omega)).up (by omega)⟩
      · have u : fh_up I 0 38 2 0 37 = nI q := by rw [up_k _ _ _ _ (by decide)]; exact h37
        rw [z_X12_step_b118]
        simp only [h37, eb, b1_N, ef, bI_f, if_true, let_N, sI_N, u]
      · rw [up_k _ _ _ _ (by decide), up_s]
      · rw [up_k _ _ _ _ (by decide), up_k _ _ _ _ (by decide)]
      · rw [up_s, if_neg (by decide)]
      · rw [up_k _ _ _ _ (by decide), up_k _ _ _ _ (by decide), if_neg (by decide)]; exact h37
    | true =>
      rw [c] at ef
      obtain ⟨I', e, q1, q2, q3, q4, q5⟩ := ih f (fh_up I 0 37 (nI (q + 1))) (q + 1) (by omega) (by omega) (by rw [up_k _ _ _ _ (by decide)]; exact h36) (fun i hi => by rw [up_a _ _ _ _ (by decide)]; exact hb i hi) (up_s _ _ _ _)
      refine ⟨I', ?_, q1, by rw [q2, up_k _ _ _ _ (by decide)], by rw [if_pos rfl]; exact q3, by rw [if_pos rfl]; exact q4, ((s4F.rf (I := I)).up (by omega)).trans q5⟩
      rw [z_X12_step_b118]
      simp only [h37, eb, b1_N, ef, bI_t, one0, if_false, let_N, sI_N, nI_1, e]
theorem b_run76 {J : Nat → Nat → Int64} {b : Nat → Nat} {n : Nat} (hb2 : ∀ i, b i < 256) (hn : n ≤ 200) : ∀ (m fuel : Nat) (I : Nat → Nat → Int32) (q : Nat), m < fuel → q + m = n → I 0 36 = nI n → (∀ i, i < n → I 16 i = nI (b i)) → I 0 37 = nI q →
    ∃ I', z_X12_step_b76 TB 0 fuel (I, J, rB) = some (I', J, rB) ∧ I' 0 38 = 1 ∧ I' 0 39 = I 0 39 ∧ I' 0 40 = nI (rnn ltr b n q) ∧ I' 0 37 = nI (rnn ltr b n q) ∧ s4F I I' := by
  intro m
  induction m with
  | zero =>
    intro fuel I q hf hm h36 hb h37
    obtain ⟨f, rfl⟩ : ∃ f, fuel = f + 1 := ⟨fuel - 1, by omega⟩
    have eb := b_byte (J := J) h36 hb hn (show q ≤ n by omega)
    rw [if_neg (show ¬ q < n by omega)] at eb
    have ef : z_X12_isSmall (-1) = some 0 := rfl
    refine ⟨fh_up (fh_up I 0 38 1) 0 40 (nI q), ?_, ?_, ?_, ?_, ?_, ((s4F.rf (I := I)).up (by omega)).up (by omega)⟩
    · have u : fh_up I 0 38 1 0 37 = nI q := by rw [up_k _ _ _ _ (by decide)]; exact h37
      rw [z_X12_step_b76]
      simp only [h37, eb, b1_N, ef, if_true, let_N, sI_N, u]
    · rw [up_k _ _ _ _ (by decide), up_s]
    · rw [up_k _ _ _ _ (by decide), up_k _ _ _ _ (by decide)]
    · rw [up_s, rnn_e (by omega)]
    · rw [up_k _ _ _ _ (by decide), up_k _ _ _ _ (by decide), rnn_e (by omega)]; exact h37
  | succ m ih =>
    intro fuel I q hf hm h36 hb h37
    obtain ⟨f, rfl⟩ : ∃ f, fuel = f + 1 := ⟨fuel - 1, by omega⟩
    have eb := b_byte (J := J) h36 hb hn (show q ≤ n by omega)
    rw [if_pos (show q < n by omega)] at eb
    have ef := (z_let (hb2 q)).2
    rw [rnn_s (show q < n by omega)]
    cases c : ltr (b q) with
    | false =>
      rw [c] at ef
      refine ⟨fh_up (fh_up I 0 38 1) 0 40 (nI q), ?_, ?_, ?_, ?_, ?_, ((s4F.rf (I := I)).up (by omega)).up (by omega)⟩
      · have u : fh_up I 0 38 1 0 37 = nI q := by rw [up_k _ _ _ _ (by decide)]; exact h37
        rw [z_X12_step_b76]
        simp only [h37, eb, b1_N, ef, bI_f, if_true, let_N, sI_N, u]
      · rw [up_k _ _ _ _ (by decide), up_s]
      · rw [up_k _ _ _ _ (by decide), up_k _ _ _ _ (by decide)]
      · rw [up_s, if_neg (by decide)]
      · rw [up_k _ _ _ _ (by decide), up_k _ _ _ _ (by decide), if_neg (by decide)]; exact h37
    | true =>
      rw [c] at ef
      obtain ⟨I', e, q1, q2, q3, q4, q5⟩ := ih f (fh_up I 0 37 (nI (q + 1))) (q + 1) (by omega) (by omega) (by rw [up_k _ _ _ _ (by decide)]; exact h36) (fun i hi => by rw [up_a _ _ _ _ (by decide)]; exact hb i hi) (up_s _ _ _ _)
      refine ⟨I', ?_, q1, by rw [q2, up_k _ _ _ _ (by decide)], by rw [if_pos rfl]; exact q3, by rw [if_pos rfl]; exact q4, ((s4F.rf (I := I)).up (by omega)).trans q5⟩
      rw [z_X12_step_b76]
      simp only [h37, eb, b1_N, ef, bI_t, one0, if_false, let_N, sI_N, nI_1, e]
theorem b_step0 {J : Nat → Nat → Int64} {b : Nat → Nat} {n : Nat} (hb2 : ∀ i, b i < 256) (hn : n ≤ 200) : ∀ (m fuel : Nat) (I : Nat → Nat → Int32) (p : Nat), m < fuel → p + m = n → I 0 36 = nI n → (∀ i, i < n → I 16 i = nI (b i)) → I 0 37 = nI p →
    ∃ I', z_X12_step_b0 TB 0 fuel (I, J, rB) = some (I', J, rB) ∧ at4 I' b n (tB b n p) ∧ s4F I I' := by
  intro m
  induction m with
  | zero =>
    intro fuel I p hf hm h36 hb h37
    obtain ⟨f, rfl⟩ : ∃ f, fuel = f + 1 := ⟨fuel - 1, by omega⟩
    have eB : tB b n p = p := rnn_e (by omega)
    have eE : tE b n p = p := by unfold tE; rw [if_pos (by omega)]
    have eK : kd b n p = 0 := by unfold kd; rw [if_pos (by omega)]
    have eb := b_byte (J := J) h36 hb hn (show p ≤ n by omega)
    rw [if_neg (show ¬ p < n by omega)] at eb
    have eb2 := b_byte (I := fh_up I 0 39 (nI p)) (J := J) (by rw [up_k _ _ _ _ (by decide)]; exact h36) (fun i hi => by rw [up_a _ _ _ _ (by decide)]; exact hb i hi) hn (show p ≤ n by omega)
    rw [if_neg (show ¬ p < n by omega)] at eb2
    have n1 : ¬ (-1 : Int32) = 32 := by decide
    have n2 : ¬ (-1 : Int32) = 10 := by decide
    have u1 : fh_up I 0 39 (nI p) 0 37 = nI p := by rw [up_k _ _ _ _ (by decide)]; exact h37
    have u2 : fh_up (fh_up I 0 39 (nI p)) 0 38 0 0 37 = nI p := by rw [up_k _ _ _ _ (by decide)]; exact u1
    rw [eB]
    refine ⟨fh_up (fh_up (fh_up I 0 39 (nI p)) 0 38 0) 0 40 (nI p), ?_, ⟨?_, ?_, ?_, ?_⟩, (((s4F.rf (I := I)).up (by omega)).up (by omega)).up (by omega)⟩
    · rw [z_X12_step_b0]
      simp only [h37, eb, b1_N, n1, n2, if_false, let_N, sI_N, u1, eb2, if_true, u2]
    · rw [up_k _ _ _ _ (by decide), up_s, eK]; rfl
    · rw [up_k _ _ _ _ (by decide), up_k _ _ _ _ (by decide), up_s]
    · rw [up_s, eE]
    · rw [up_k _ _ _ _ (by decide), u2, eE]
  | succ m ih =>
    intro fuel I p hf hm h36 hb h37
    obtain ⟨f, rfl⟩ : ∃ f, fuel = f + 1 := ⟨fuel - 1, by omega⟩
    have hp : p < n := by omega
    have eb := b_byte (J := J) h36 hb hn (show p ≤ n by omega)
    rw [if_pos hp] at eb
    have bb := hb2 p
    have blank : blk (b p) = true → ∃ I', z_X12_step_b0 TB 0 f (fh_up I 0 37 (nI (p + 1)), J, rB) = some (I', J, rB) ∧ at4 I' b n (tB b n p) ∧ s4F I I' := fun hblk => by
      obtain ⟨I', e, q1, q2⟩ := ih f (fh_up I 0 37 (nI (p + 1))) (p + 1) (by omega) (by omega) (by rw [up_k _ _ _ _ (by decide)]; exact h36) (fun i hi => by rw [up_a _ _ _ _ (by decide)]; exact hb i hi) (up_s _ _ _ _)
      refine ⟨I', e, ?_, ((s4F.rf (I := I)).up (by omega)).trans q2⟩
      have : tB b n p = tB b n (p + 1) := by unfold tB; rw [rnn_s hp, if_pos hblk]
      rw [this]; exact q1
    rw [z_X12_step_b0]
    by_cases c1 : b p = 32
    · have e1 : nI (b p) = 32 := by rw [c1]; rfl
      simp only [h37, eb, b1_N, e1, if_true, let_N, sI_N, nI_1]
      exact blank (by unfold blk; exact decide_eq_true (Or.inl c1))
    by_cases c2 : b p = 10
    · have e1 : nI (b p) = 10 := by rw [c2]; rfl
      have n1 : ¬ (10 : Int32) = 32 := by decide
      simp only [h37, eb, b1_N, e1, n1, if_false, if_true, let_N, sI_N, nI_1]
      exact blank (by unfold blk; exact decide_eq_true (Or.inr c2))
    have n1 : ¬ nI (b p) = 32 := fun e => c1 ((nI_eq (b := 32) (by omega) (by omega)).mp e)
    have n2 : ¬ nI (b p) = 10 := fun e => c2 ((nI_eq (b := 10) (by omega) (by omega)).mp e)
    have n3 : ¬ nI (b p) = -1 := fun e => by
      have := congrArg Int32.toInt e
      rw [nI_toInt (by omega)] at this
      have h1 : (-1 : Int32).toInt = -1 := rfl
      omega
    have hblk : blk (b p) = false := by unfold blk; exact decide_eq_false (fun q => q.elim c1 c2)
    have eB : tB b n p = p := tB_no hblk
    have eb2 := b_byte (I := fh_up I 0 39 (nI p)) (J := J) (by rw [up_k _ _ _ _ (by decide)]; exact h36) (fun i hi => by rw [up_a _ _ _ _ (by decide)]; exact hb i hi) hn (show p ≤ n by omega)
    rw [if_pos hp] at eb2
    have u1 : fh_up I 0 39 (nI p) 0 37 = nI p := by rw [up_k _ _ _ _ (by decide)]; exact h37
    rw [eB]
    simp only [h37, eb, b1_N, n1, n2, if_false, let_N, sI_N, u1, eb2, n3, (z_let bb).2, (z_fig bb).2]
    cases cl : ltr (b p) with
    | true =>
      have hno := lt_no cl
      have eE : tE b n p = rnn ltr b n (p + 1) := by unfold tE; rw [if_neg (by omega), hno.1, if_neg (by decide), if_pos cl]
      have eK : kd b n p = 1 := by unfold kd; rw [if_neg (by omega), if_pos cl]
      obtain ⟨I', e, q1, q2, q3, q4, q5⟩ := b_run76 (J := J) hb2 hn (n - p) 20000 (fh_up I 0 39 (nI p)) p (by omega) (by omega) (by rw [up_k _ _ _ _ (by decide)]; exact h36) (fun i hi => by rw [up_a _ _ _ _ (by decide)]; exact hb i hi) u1
      rw [rnn_s hp, if_pos cl] at q3 q4
      simp only [bI_t, one0, if_false]
      exact ⟨I', e, ⟨by rw [q1, eK]; rfl, by rw [q2, up_s], by rw [q3, eE], by rw [q4, eE]⟩, ((s4F.rf (I := I)).up (by omega)).trans q5⟩
    | false =>
      simp only [bI_f, if_true]
      cases cf : fgr (b p) with
      | true =>
        have eE : tE b n p = rnn fgr b n (p + 1) := by unfold tE; rw [if_neg (by omega), if_pos cf]
        have eK : kd b n p = 2 := by unfold kd; rw [if_neg (by omega), cl, if_neg (by decide), if_pos cf]
        obtain ⟨I', e, q1, q2, q3, q4, q5⟩ := b_run118 (J := J) hb2 hn (n - p) 20000 (fh_up I 0 39 (nI p)) p (by omega) (by omega) (by rw [up_k _ _ _ _ (by decide)]; exact h36) (fun i hi => by rw [up_a _ _ _ _ (by decide)]; exact hb i hi) u1
        rw [rnn_s hp, if_pos cf] at q3 q4
        simp only [bI_t, one0, if_false]
        exact ⟨I', e, ⟨by rw [q1, eK]; rfl, by rw [q2, up_s], by rw [q3, eE], by rw [q4, eE]⟩, ((s4F.rf (I := I)).up (by omega)).trans q5⟩
      | false =>
        have eE : tE b n p = p + 1 := by unfold tE; rw [if_neg (by omega), cf, if_neg (by decide), cl, if_neg (by decide)]
        have eK : kd b n p = 3 := by unfold kd; rw [if_neg (by omega), cl, if_neg (by decide), cf, if_neg (by decide)]
        have u2 : fh_up (fh_up (fh_up I 0 39 (nI p)) 0 37 (nI (p + 1))) 0 38 3 0 37 = nI (p + 1) := by rw [up_k _ _ _ _ (by decide), up_s]
        simp only [bI_f, if_true, nI_1, u2]
        refine ⟨_, rfl, ⟨?_, ?_, ?_, ?_⟩, ((((s4F.rf (I := I)).up (by omega)).up (by omega)).up (by omega)).up (by omega)⟩
        · rw [up_k _ _ _ _ (by decide), up_s, eK]; rfl
        · rw [up_k _ _ _ _ (by decide), up_k _ _ _ _ (by decide), up_k _ _ _ _ (by decide), up_s]
        · rw [up_s, eE]
        · rw [up_k _ _ _ _ (by decide), u2, eE]
theorem b_st0 {h : fh_H} : z_X12_step TB h 0 = z_X12_step_b0 TB 0 (20000 + 1) h := by
  rw [z_X12_step_b0, z_X12_step]
theorem b_step {I : Nat → Nat → Int32} {J : Nat → Nat → Int64} {b : Nat → Nat} {n p : Nat} (hb2 : ∀ i, b i < 256) (hn : n ≤ 200) (hp : p ≤ n) (h36 : I 0 36 = nI n) (hb : ∀ i, i < n → I 16 i = nI (b i)) (h37 : I 0 37 = nI p) : ∃ I', z_X12_step TB (I, J, rB) 0 = some (I', J, rB) ∧ at4 I' b n (tB b n p) ∧ s4F I I' := by
  rw [b_st0]
  exact b_step0 hb2 hn (n - p) (20000 + 1) I p (by omega) (by omega) h36 hb h37
