/-! the tape's tokens -/
def fgr (c : Nat) : Bool := decide (48 ≤ c ∧ c ≤ 57)
def ltr (c : Nat) : Bool := decide (97 ≤ c ∧ c ≤ 122)
def blk (c : Nat) : Bool := decide (c = 32 ∨ c = 10)
def rn (q : Nat → Bool) (b : Nat → Nat) : Nat → Nat → Nat
  | 0, p => p
  | m + 1, p => if q (b p) = true then rn q b m (p + 1) else p
def rnn (q : Nat → Bool) (b : Nat → Nat) (n p : Nat) : Nat := rn q b (n - p) p
theorem rn_le (q : Nat → Bool) (b : Nat → Nat) : ∀ m p, p ≤ rn q b m p ∧ rn q b m p ≤ p + m := by
  intro m
  induction m with
  | zero => intro p; exact ⟨Nat.le_refl _, Nat.le_refl _⟩
  | succ m ih =>
    intro p
    rw [rn]
    split
    · have := ih (p + 1); omega
    · omega
theorem rnn_le {q : Nat → Bool} {b : Nat → Nat} {n p : Nat} (h : p ≤ n) : p ≤ rnn q b n p ∧ rnn q b n p ≤ n := by
  have := rn_le q b (n - p) p
  unfold rnn
  omega
theorem rnn_s {q : Nat → Bool} {b : Nat → Nat} {n p : Nat} (h : p < n) : rnn q b n p = if q (b p) = true then rnn q b n (p + 1) else p := by
  unfold rnn
  rw [show n - p = (n - (p + 1)) + 1 by omega, rn]
theorem rnn_e {q : Nat → Bool} {b : Nat → Nat} {n p : Nat} (h : n ≤ p) : rnn q b n p = p := by
  unfold rnn
  rw [show n - p = 0 by omega, rn]
def tB (b : Nat → Nat) (n p : Nat) : Nat := rnn blk b n p
def tE (b : Nat → Nat) (n s : Nat) : Nat := if n ≤ s then s else if fgr (b s) = true then rnn fgr b n (s + 1) else if ltr (b s) = true then rnn ltr b n (s + 1) else s + 1
def kd (b : Nat → Nat) (n s : Nat) : Nat := if n ≤ s then 0 else if ltr (b s) = true then 1 else if fgr (b s) = true then 2 else 3
def tS (b : Nat → Nat) (n : Nat) : Nat → Nat
  | 0 => tB b n 0
  | i + 1 => tB b n (tE b n (tS b n i))
def tv (b : Nat → Nat) : Nat → Nat → Nat → Nat
  | 0, _, v => v
  | m + 1, p, v => tv b m (p + 1) (10 * v + (b p - 48))
def tvl (b : Nat → Nat) (s e : Nat) : Nat := tv b (e - s) s 0
def spl (b : Nat → Nat) (k s : Nat) : Nat → Nat → Bool
  | 0, _ => true
  | m + 1, j => decide (fs_c k j = nI (b (s + j))) && spl b k s m (j + 1)
def spb (b : Nat → Nat) (k s e : Nat) : Bool := decide (e - s = fs_n k) && spl b k s (fs_n k) 0
def wcode (b : Nat → Nat) (s e : Nat) : Int32 := if spb b 0 s e = true then 258 else if spb b 1 s e = true then 259 else if spb b 2 s e = true then 260 else if spb b 3 s e = true then 261 else if spb b 4 s e = true then 262 else if spb b 5 s e = true then 263 else if spb b 6 s e = true then 264 else if spb b 7 s e = true then 265 else if spb b 8 s e = true then 266 else if spb b 9 s e = true then 267 else 268
def cd (b : Nat → Nat) (n s : Nat) : Int32 := if kd b n s = 0 then 257 else if kd b n s = 1 then wcode b s (tE b n s) else if kd b n s = 2 then 256 else nI (b s)
def vl (b : Nat → Nat) (n s : Nat) : Nat := if kd b n s = 2 then min (tvl b s (tE b n s)) 10000 else 0
theorem fl_no {c : Nat} (h : fgr c = true) : ltr c = false ∧ blk c = false := by
  unfold fgr at h
  rw [decide_eq_true_eq] at h
  exact ⟨decide_eq_false (by omega), decide_eq_false (by omega)⟩
theorem lt_no {c : Nat} (h : ltr c = true) : fgr c = false ∧ blk c = false := by
  unfold ltr at h
  rw [decide_eq_true_eq] at h
  exact ⟨decide_eq_false (by omega), decide_eq_false (by omega)⟩
theorem tB_no {b : Nat → Nat} {n p : Nat} (h : blk (b p) = false) : tB b n p = p := by
  unfold tB
  by_cases c : p < n
  · rw [rnn_s c, h, if_neg (by decide)]
  · exact rnn_e (by omega)
theorem tE_lt {b : Nat → Nat} {n s : Nat} (h : s < n) : s < tE b n s ∧ tE b n s ≤ n := by
  unfold tE
  rw [if_neg (by omega)]
  split
  · have := rnn_le (q := fgr) (b := b) (n := n) (p := s + 1) (by omega); omega
  · split
    · have := rnn_le (q := ltr) (b := b) (n := n) (p := s + 1) (by omega); omega
    · omega
theorem tB_le {b : Nat → Nat} {n p : Nat} (h : p ≤ n) : p ≤ tB b n p ∧ tB b n p ≤ n := rnn_le h
theorem tS_le (b : Nat → Nat) (n : Nat) : ∀ i, tS b n i ≤ n ∧ tE b n (tS b n i) ≤ n := by
  have key : ∀ s, s ≤ n → tE b n s ≤ n := fun s hs => by
    by_cases c : s < n
    · exact (tE_lt c).2
    · unfold tE; rw [if_pos (by omega)]; exact hs
  intro i
  induction i with
  | zero => have := (tB_le (b := b) (n := n) (p := 0) (Nat.zero_le _)).2; exact ⟨this, key _ this⟩
  | succ i ih => have := (tB_le (b := b) (n := n) (p := tE b n (tS b n i)) ih.2).2; exact ⟨this, key _ this⟩
/-! the class -/
theorem z_fig {c : Nat} (h : c < 256) : z_X10_isFigure (nI c) = some (bI (fgr c)) ∧ z_X12_isFigure (nI c) = some (bI (fgr c)) := by
  have key : (if nI c < (48 : Int32) then (some (0 : Int32)) else (if (57 : Int32) < nI c then (some (0 : Int32)) else (some (1 : Int32)))) = some (bI (fgr c)) := by
    unfold fgr
    by_cases c1 : c < 48
    · rw [if_pos (show nI c < (48 : Int32) from nI_lt (b := 48) c1 (by omega)), decide_eq_false (by omega)]; rfl
    · rw [if_neg (show ¬ nI c < (48 : Int32) from nI_nlt (b := 48) (by omega) (by omega))]
      by_cases c2 : 57 < c
      · rw [if_pos (show (57 : Int32) < nI c from nI_lt (a := 57) c2 (by omega)), decide_eq_false (by omega)]; rfl
      · rw [if_neg (show ¬ (57 : Int32) < nI c from nI_nlt (a := 57) (by omega) (by omega)), decide_eq_true (by omega)]; rfl
  exact ⟨key, key⟩
theorem z_let {c : Nat} (h : c < 256) : z_X10_isLetter (nI c) = some (bI (ltr c)) ∧ z_X12_isSmall (nI c) = some (bI (ltr c)) := by
  have key : (if nI c < (97 : Int32) then (some (0 : Int32)) else (if (122 : Int32) < nI c then (some (0 : Int32)) else (some (1 : Int32)))) = some (bI (ltr c)) := by
    unfold ltr
    by_cases c1 : c < 97
    · rw [if_pos (show nI c < (97 : Int32) from nI_lt (b := 97) c1 (by omega)), decide_eq_false (by omega)]; rfl
    · rw [if_neg (show ¬ nI c < (97 : Int32) from nI_nlt (b := 97) (by omega) (by omega))]
      by_cases c2 : 122 < c
      · rw [if_pos (show (122 : Int32) < nI c from nI_lt (a := 122) c2 (by omega)), decide_eq_false (by omega)]; rfl
      · rw [if_neg (show ¬ (122 : Int32) < nI c from nI_nlt (a := 122) (by omega) (by omega)), decide_eq_true (by omega)]; rfl
  exact ⟨key, key⟩
theorem a_byte {I : Nat → Nat → Int32} {J : Nat → Nat → Int64} {R : Nat → Nat → Option Nat} (hR : RA R) {p : Nat} (hp : p < 200) : z_X10_byteAt SA (I, J, R) 48 (nI p) = some (I 49 p) := by
  have c0 : ¬ nI p < 0 := nI_pos (by omega)
  have c1 : ¬ Int32.ofNat 200 ≤ nI p := nI_ge (b := 200) hp (by omega)
  have i1 : fh_in (nI p) 200 = true := in_n hp (by omega)
  have k1 : (nI p).toNatClampNeg = p := nI_clamp (by omega)
  unfold z_X10_byteAt
  simp only [c0, if_false, rA_48_0 hR, b1_N, kA_49, ck_N, lA_49, c1, i1, k1]
def adT (I : Nat → Nat → Int32) (j : Nat) (c v s : Int32) : Nat → Nat → Int32 := fh_up (fh_up (fh_up (fh_up I 50 j c) 51 j v) 52 j s) 48 4 (nI (j + 1))
theorem a_addTok {I : Nat → Nat → Int32} {J : Nat → Nat → Int64} {R : Nat → Nat → Option Nat} (hR : RA R) {j : Nat} (h4 : I 48 4 = nI j) (hj : j ≤ 200) (c v s : Int32) : z_X10_addToken SA (I, J, R) 48 c v s = some (adT I j c v s, J, R) := by
  have c0 : ¬ nI j < 0 := nI_pos (by omega)
  have c1 : ¬ (200 : Int32) < nI j := nI_nlt (a := 200) hj (by omega)
  have i1 : fh_in (nI j) 201 = true := in_n (by omega) (by omega)
  have k1 : (nI j).toNatClampNeg = j := nI_clamp (by omega)
  have u1 : fh_up I 50 j c 48 4 = nI j := by rw [up_a _ _ _ _ (by decide)]; exact h4
  have u2 : fh_up (fh_up I 50 j c) 51 j v 48 4 = nI j := by rw [up_a _ _ _ _ (by decide)]; exact u1
  have u3 : fh_up (fh_up (fh_up I 50 j c) 51 j v) 52 j s 48 4 = nI j := by rw [up_a _ _ _ _ (by decide)]; exact u2
  unfold z_X10_addToken adT
  simp only [h4, c0, c1, if_false, rA_48_1 hR, rA_48_2 hR, rA_48_3 hR, b1_N, kA_50, kA_51, kA_52, ck_N, lA_50, lA_51, lA_52, i1, k1, let_N, sI_N, u1, u2, u3, nI_1]
def tF (I I' : Nat → Nat → Int32) : Prop := ∀ b j, ¬ (b = 50 ∨ b = 51 ∨ b = 52 ∨ (b = 48 ∧ j = 4)) → I' b j = I b j
theorem tF.trans {I I1 I2 : Nat → Nat → Int32} (h : tF I I1) (h2 : tF I1 I2) : tF I I2 := fun b j q => (h2 b j q).trans (h b j q)
theorem adT_F {I : Nat → Nat → Int32} {j : Nat} {c v s : Int32} : tF I (adT I j c v s) := fun b j' q => by
  unfold adT
  have q1 : ¬ (b = 48 ∧ j' = 4) := fun z => q (Or.inr (Or.inr (Or.inr z)))
  have e : ∀ (f : Nat → Nat → Int32) (x : Int32), fh_up f 48 4 x b j' = f b j' := fun f x => by simp only [fh_up, q1, if_false]
  rw [e, up_a _ _ _ _ (by omega), up_a _ _ _ _ (by omega), up_a _ _ _ _ (by omega)]
def tkn (I : Nat → Nat → Int32) (b : Nat → Nat) (n j : Nat) : Prop := I 48 4 = nI j ∧ ∀ i, i < j → I 50 i = cd b n (tS b n i) ∧ I 51 i = nI (vl b n (tS b n i)) ∧ I 52 i = nI (tS b n i)
theorem tkn_add {I : Nat → Nat → Int32} {b : Nat → Nat} {n j : Nat} (h : tkn I b n j) {c v s : Int32} (hc : c = cd b n (tS b n j)) (hv : v = nI (vl b n (tS b n j))) (hs : s = nI (tS b n j)) : tkn (adT I j c v s) b n (j + 1) := by
  have e50 : ∀ i, adT I j c v s 50 i = fh_up I 50 j c 50 i := fun i => by unfold adT; rw [up_a _ _ _ _ (by decide), up_a _ _ _ _ (by decide), up_a _ _ _ _ (by decide)]
  have e51 : ∀ i, adT I j c v s 51 i = fh_up (fh_up I 50 j c) 51 j v 51 i := fun i => by unfold adT; rw [up_a _ _ _ _ (by decide), up_a _ _ _ _ (by decide)]
  have e52 : ∀ i, adT I j c v s 52 i = fh_up (fh_up (fh_up I 50 j c) 51 j v) 52 j s 52 i := fun i => by unfold adT; rw [up_a _ _ _ _ (by decide)]
  refine ⟨up_s _ _ _ _, fun i hi => ?_⟩
  rw [e50, e51, e52]
  by_cases ci : i = j
  · subst ci
    rw [up_s, up_s, up_s]
    exact ⟨hc, hv, hs⟩
  · have k50 : fh_up I 50 j c 50 i = I 50 i := up_k _ _ _ _ ci
    have k51 : fh_up (fh_up I 50 j c) 51 j v 51 i = I 51 i := by rw [up_k _ _ _ _ ci, up_a _ _ _ _ (by decide)]
    have k52 : fh_up (fh_up (fh_up I 50 j c) 51 j v) 52 j s 52 i = I 52 i := by rw [up_k _ _ _ _ ci, up_a _ _ _ _ (by decide), up_a _ _ _ _ (by decide)]
    rw [k50, k51, k52]
    exact h.2 i (by omega)
theorem a_scanF {I : Nat → Nat → Int32} {J : Nat → Nat → Int64} {R : Nat → Nat → Option Nat} {b : Nat → Nat} {n j s : Nat} (hR : RA R) (hb : ∀ i, i < n → I 49 i = nI (b i)) (hb2 : ∀ i, b i < 256) (hn : n ≤ 200) (h4 : I 48 4 = nI j) (hj : j ≤ 200) : ∀ (m fuel q V : Nat), m < fuel → q + m = n →
    z_X10_scanFigures_b14 SA 48 fuel (I, J, R) (nI s) (nI n) (nI (min V 10000)) (nI q) = some (nI (rnn fgr b n q), (adT I j 256 (nI (min (tv b (rnn fgr b n q - q) q V) 10000)) (nI s), J, R)) := by
  intro m
  induction m with
  | zero =>
    intro fuel q V hf hm
    obtain ⟨f, rfl⟩ : ∃ f, fuel = f + 1 := ⟨fuel - 1, by omega⟩
    rw [z_X10_scanFigures_b14, if_pos (nI_le (by omega) (by omega)), rnn_e (by omega), Nat.sub_self, tv, a_addTok hR h4 hj, b1_N]
  | succ m ih =>
    intro fuel q V hf hm
    obtain ⟨f, rfl⟩ : ∃ f, fuel = f + 1 := ⟨fuel - 1, by omega⟩
    rw [z_X10_scanFigures_b14, if_neg (nI_ge (by omega) (by omega)), a_byte hR (show q < 200 by omega), b1_N, hb q (by omega), (z_fig (hb2 q)).1, b1_N, rnn_s (show q < n by omega)]
    cases c : fgr (b q) with
    | false => rw [if_pos (show bI false = 0 from rfl), if_neg (by decide), Nat.sub_self, tv, a_addTok hR h4 hj, b1_N]
    | true =>
      rw [if_neg (show ¬ bI true = 0 by decide), if_pos rfl, b1_N]
      have hc : 48 ≤ b q ∧ b q ≤ 57 := by unfold fgr at c; rw [decide_eq_true_eq] at c; exact c
      have e1 : nI (min V 10000) * 10 + nI (b q) - 48 = nI (min V 10000 * 10 + b q - 48) := by
        rw [show (10 : Int32) = nI 10 from rfl, nI_mul, nI_add]
        exact nI_subn (b := 48) (by omega)
      have e2 : z_J9_min_7cf53 (nI (min V 10000 * 10 + b q - 48)) 10000 = some (nI (min (10 * V + (b q - 48)) 10000)) := by
        unfold z_J9_min_7cf53
        by_cases z : 10000 < min V 10000 * 10 + b q - 48
        · rw [if_pos (show (10000 : Int32) < nI (min V 10000 * 10 + b q - 48) from nI_lt (a := 10000) z (by omega)), show min (10 * V + (b q - 48)) 10000 = 10000 by omega]; rfl
        · rw [if_neg (show ¬ (10000 : Int32) < nI (min V 10000 * 10 + b q - 48) from nI_nlt (a := 10000) (by omega) (by omega))]
          congr 2
          omega
      rw [e1, e2, b1_N, let_N, nI_1, ih f (q + 1) (10 * V + (b q - 48)) (by omega) (by omega)]
      have hr := rnn_le (q := fgr) (b := b) (n := n) (p := q + 1) (by omega)
      rw [show rnn fgr b n (q + 1) - q = (rnn fgr b n (q + 1) - (q + 1)) + 1 by omega, tv]
theorem a_spell15 {I : Nat → Nat → Int32} {J : Nat → Nat → Int64} {R : Nat → Nat → Option Nat} {b : Nat → Nat} {n k s : Nat} (hR : RA R) (hb : ∀ i, i < n → I 49 i = nI (b i)) (hn : n ≤ 200) (hk : fs_n k ≤ 6) (hs : s + fs_n k ≤ n) : ∀ (m fuel j : Nat), m < fuel → j + m = fs_n k → z_X10_spells_b15 SA 48 fuel (I, J, R) k (nI s) (nI j) = some (bI (spl b k s m j)) := by
  intro m
  induction m with
  | zero =>
    intro fuel j hf hm
    obtain ⟨f, rfl⟩ : ∃ f, fuel = f + 1 := ⟨fuel - 1, by omega⟩
    rw [z_X10_spells_b15, if_pos (show Int32.ofNat (fs_n k) ≤ nI j from nI_le (by omega) (by omega)), spl]; rfl
  | succ m ih =>
    intro fuel j hf hm
    obtain ⟨f, rfl⟩ : ∃ f, fuel = f + 1 := ⟨fuel - 1, by omega⟩
    rw [z_X10_spells_b15, if_neg (show ¬ Int32.ofNat (fs_n k) ≤ nI j from nI_ge (by omega) (by omega)), nI_add, a_byte hR (show s + j < 200 by omega), b1_N, hb (s + j) (by omega), in_n (show j < fs_n k by omega) (by omega), ck_N, nI_clamp (by omega), spl, let_N, nI_1]
    by_cases c : nI (b (s + j)) = fs_c k j
    · rw [if_pos c, ih f (j + 1) (by omega) (by omega), decide_eq_true c.symm, Bool.true_and]
    · rw [if_neg c, decide_eq_false (fun q => c q.symm), Bool.false_and]; rfl
theorem fs_small : ∀ k, k < 10 → 2 ≤ fs_n k ∧ fs_n k ≤ 6 := by decide
theorem a_spells {I : Nat → Nat → Int32} {J : Nat → Nat → Int64} {R : Nat → Nat → Option Nat} {b : Nat → Nat} {n k s e : Nat} (hR : RA R) (hb : ∀ i, i < n → I 49 i = nI (b i)) (hn : n ≤ 200) (hk : k < 10) (hs : s ≤ e) (he : e ≤ n) : z_X10_spells SA (I, J, R) 48 k (nI s) (nI e) = some (bI (spb b k s e)) := by
  have hf := fs_small k hk
  unfold z_X10_spells spb
  rw [nI_subn hs]
  by_cases c : e - s = fs_n k
  · rw [if_pos (show nI (e - s) = Int32.ofNat (fs_n k) by rw [c]; rfl), decide_eq_true c, Bool.true_and]
    exact a_spell15 hR hb hn hf.2 (by omega) (fs_n k) 20000 0 (by omega) (by omega)
  · rw [if_neg (show ¬ nI (e - s) = Int32.ofNat (fs_n k) from fun q => c ((nI_eq (by omega) (by omega)).mp q)), decide_eq_false c, Bool.false_and]; rfl
theorem a_wcode {I : Nat → Nat → Int32} {J : Nat → Nat → Int64} {R : Nat → Nat → Option Nat} {b : Nat → Nat} {n s e : Nat} (hR : RA R) (hb : ∀ i, i < n → I 49 i = nI (b i)) (hn : n ≤ 200) (hs : s ≤ e) (he : e ≤ n) : z_X10_wordCode SA (I, J, R) 48 (nI s) (nI e) = some (wcode b s e) := by
  unfold z_X10_wordCode wcode
  rw [a_spells hR hb hn (show 0 < 10 by omega) hs he, a_spells hR hb hn (show 1 < 10 by omega) hs he, a_spells hR hb hn (show 2 < 10 by omega) hs he, a_spells hR hb hn (show 3 < 10 by omega) hs he, a_spells hR hb hn (show 4 < 10 by omega) hs he, a_spells hR hb hn (show 5 < 10 by omega) hs he, a_spells hR hb hn (show 6 < 10 by omega) hs he, a_spells hR hb hn (show 7 < 10 by omega) hs he, a_spells hR hb hn (show 8 < 10 by omega) hs he, a_spells hR hb hn (show 9 < 10 by omega) hs he]
  simp only [b1_N]
  cases spb b 0 s e <;> simp only [bI_t, bI_f, one0, if_true, if_false, Bool.false_eq_true]
  cases spb b 1 s e <;> simp only [bI_t, bI_f, one0, if_true, if_false, Bool.false_eq_true]
  cases spb b 2 s e <;> simp only [bI_t, bI_f, one0, if_true, if_false, Bool.false_eq_true]
  cases spb b 3 s e <;> simp only [bI_t, bI_f, one0, if_true, if_false, Bool.false_eq_true]
  cases spb b 4 s e <;> simp only [bI_t, bI_f, one0, if_true, if_false, Bool.false_eq_true]
  cases spb b 5 s e <;> simp only [bI_t, bI_f, one0, if_true, if_false, Bool.false_eq_true]
  cases spb b 6 s e <;> simp only [bI_t, bI_f, one0, if_true, if_false, Bool.false_eq_true]
  cases spb b 7 s e <;> simp only [bI_t, bI_f, one0, if_true, if_false, Bool.false_eq_true]
  cases spb b 8 s e <;> simp only [bI_t, bI_f, one0, if_true, if_false, Bool.false_eq_true]
  cases spb b 9 s e <;> simp only [bI_t, bI_f, one0, if_true, if_false, Bool.false_eq_true]
theorem a_scanW {I : Nat → Nat → Int32} {J : Nat → Nat → Int64} {R : Nat → Nat → Option Nat} {b : Nat → Nat} {n j s : Nat} (hR : RA R) (hb : ∀ i, i < n → I 49 i = nI (b i)) (hb2 : ∀ i, b i < 256) (hn : n ≤ 200) (h4 : I 48 4 = nI j) (hj : j ≤ 200) : ∀ (m fuel q : Nat), m < fuel → q + m = n → s ≤ q →
    z_X10_scanWord_b4 SA 48 fuel (I, J, R) (nI s) (nI n) (nI q) = some (nI (rnn ltr b n q), (adT I j (wcode b s (rnn ltr b n q)) 0 (nI s), J, R)) := by
  have h26 : ∀ e, s ≤ e → e ≤ n → z_X10_scanWord_b26 SA 48 (I, J, R) (nI s) (nI e) = some (nI e, (adT I j (wcode b s e) 0 (nI s), J, R)) := fun e h1 h2 => by
    unfold z_X10_scanWord_b26
    rw [a_wcode hR hb hn h1 h2, b1_N, a_addTok hR h4 hj, b1_N]
  intro m
  induction m with
  | zero =>
    intro fuel q hf hm hs
    obtain ⟨f, rfl⟩ : ∃ f, fuel = f + 1 := ⟨fuel - 1, by omega⟩
    rw [z_X10_scanWord_b4, if_pos (nI_le (by omega) (by omega)), rnn_e (by omega)]
    exact h26 q hs (by omega)
  | succ m ih =>
    intro fuel q hf hm hs
    obtain ⟨f, rfl⟩ : ∃ f, fuel = f + 1 := ⟨fuel - 1, by omega⟩
    rw [z_X10_scanWord_b4, if_neg (nI_ge (by omega) (by omega)), a_byte hR (show q < 200 by omega), b1_N, hb q (by omega), (z_let (hb2 q)).1, b1_N, rnn_s (show q < n by omega)]
    cases c : ltr (b q) with
    | false => rw [if_pos (show bI false = 0 from rfl), if_neg (by decide)]; exact h26 q hs (by omega)
    | true =>
      rw [if_neg (show ¬ bI true = 0 by decide), if_pos rfl, let_N, nI_1]
      exact ih f (q + 1) (by omega) (by omega) (by omega)
theorem a_open24 {J : Nat → Nat → Int64} {R : Nat → Nat → Option Nat} {b : Nat → Nat} {n : Nat} (hR : RA R) (hb2 : ∀ i, b i < 256) (hn : n ≤ 200) : ∀ (m fuel : Nat) (I : Nat → Nat → Int32) (p j w : Nat), m < fuel → n - p ≤ m → p ≤ n → w ≤ p → (∀ i, i < n → I 49 i = nI (b i)) → tB b n p = tS b n j → j ≤ p → (∀ i, i < j → ¬ kd b n (tS b n i) = 0) → tkn I b n j →
    ∃ I' N, z_X10_open_b24 SA 48 fuel (I, J, R) (nI n) (nI p) (nI w) = some (I', J, R) ∧ tkn I' b n (N + 1) ∧ kd b n (tS b n N) = 0 ∧ (∀ i, i < N → ¬ kd b n (tS b n i) = 0) ∧ N ≤ n ∧ tF I I' := by
  intro m
  induction m with
  | zero =>
    intro fuel I p j w hf hm hp hw hb hB hj hk h
    obtain ⟨f, rfl⟩ : ∃ f, fuel = f + 1 := ⟨fuel - 1, by omega⟩
    obtain rfl : p = n := by omega
    have e : tS b p j = p := by rw [← hB]; exact rnn_e (Nat.le_refl _)
    have k0 : kd b p (tS b p j) = 0 := by rw [e]; unfold kd; rw [if_pos (Nat.le_refl _)]
    refine ⟨adT I j 257 0 (nI p), j, ?_, tkn_add h (by unfold cd; rw [if_pos k0]) (by unfold vl; rw [if_neg (by rw [k0]; decide)]; rfl) (by rw [e]), k0, hk, hj, adT_F⟩
    rw [z_X10_open_b24, if_pos (show nI p ≤ nI p from nI_le (Nat.le_refl _) (by omega)), ite_self, a_addTok hR h.1 (by omega), b1_N]
  | succ m ih =>
    intro fuel I p j w hf hm hp hw hb hB hj hk h
    obtain ⟨f, rfl⟩ : ∃ f, fuel = f + 1 := ⟨fuel - 1, by omega⟩
    by_cases cp : n ≤ p
    · obtain rfl : p = n := by omega
      have e : tS b p j = p := by rw [← hB]; exact rnn_e (Nat.le_refl _)
      have k0 : kd b p (tS b p j) = 0 := by rw [e]; unfold kd; rw [if_pos (Nat.le_refl _)]
      refine ⟨adT I j 257 0 (nI p), j, ?_, tkn_add h (by unfold cd; rw [if_pos k0]) (by unfold vl; rw [if_neg (by rw [k0]; decide)]; rfl) (by rw [e]), k0, hk, hj, adT_F⟩
      rw [z_X10_open_b24, if_pos (show nI p ≤ nI p from nI_le (Nat.le_refl _) (by omega)), ite_self, a_addTok hR h.1 (by omega), b1_N]
    · rw [z_X10_open_b24, if_neg (show ¬ (200 : Int32) ≤ nI w from nI_ge (b := 200) (by omega) (by omega)), if_neg (nI_ge (by omega) (by omega)), z_X10_scanNext, a_byte hR (show p < 200 by omega), b1_N, hb p (by omega), (z_fig (hb2 p)).1, b1_N, (z_let (hb2 p)).1]
      -- a token here goes on the list, and on behind it
      have tok : ∀ (c v : Int32) (e : Nat), blk (b p) = false → c = cd b n p → v = nI (vl b n p) → e = tE b n p → ¬ kd b n p = 0 → ∃ I' N, z_X10_open_b24 SA 48 f (adT I j c v (nI p), J, R) (nI n) (nI e) (nI (w + 1)) = some (I', J, R) ∧ tkn I' b n (N + 1) ∧ kd b n (tS b n N) = 0 ∧ (∀ i, i < N → ¬ kd b n (tS b n i) = 0) ∧ N ≤ n ∧ tF I I' := fun c v e hblk hc hv he hk0 => by
        have eS : tS b n j = p := by rw [← hB]; exact tB_no hblk
        have hE := tE_lt (b := b) (n := n) (s := p) (by omega)
        obtain ⟨I', N, q1, q2, q3, q4, q5, q6⟩ := ih f (adT I j c v (nI p)) e (j + 1) (w + 1) (by omega) (by omega) (by omega) (by omega) (fun i hi => by rw [adT_F _ _ (by omega)]; exact hb i hi) (by rw [tS, eS, he]) (by omega) (fun i hi => by
          by_cases ci : i = j
          · rw [ci, eS]; exact hk0
          · exact hk i (by omega)) (tkn_add h (by rw [eS]; exact hc) (by rw [eS]; exact hv) (by rw [eS]))
        exact ⟨I', N, q1, q2, q3, q4, q5, adT_F.trans q6⟩
      cases c1 : fgr (b p) with
      | true =>
        have hno := fl_no c1
        rw [if_neg (show ¬ bI true = 0 by decide)]
        have hc : 48 ≤ b p ∧ b p ≤ 57 := by unfold fgr at c1; rw [decide_eq_true_eq] at c1; exact c1
        have hE : tE b n p = rnn fgr b n (p + 1) := by unfold tE; rw [if_neg (by omega), if_pos c1]
        have hK : kd b n p = 2 := by unfold kd; rw [if_neg (by omega), hno.1, if_neg (by decide), if_pos c1]
        have es : z_X10_scanFigures SA (I, J, R) 48 (nI p) (nI n) = some (nI (rnn fgr b n (p + 1)), (adT I j 256 (nI (min (tv b (rnn fgr b n (p + 1) - (p + 1)) (p + 1) (b p - 48)) 10000)) (nI p), J, R)) := by
          unfold z_X10_scanFigures
          rw [a_byte hR (show p < 200 by omega), b1_N, hb p (by omega), let_N, let_N, nI_1, show nI (b p) - 48 = nI (b p - 48) from nI_subn (b := 48) hc.1]
          have := a_scanF (J := J) (s := p) hR hb hb2 hn h.1 (by omega) (n - (p + 1)) 20000 (p + 1) (b p - 48) (by omega) (by omega)
          rw [show min (b p - 48) 10000 = b p - 48 by omega] at this
          exact this
        rw [es, b2_N, b2_N, let_N, nI_1]
        have hr := rnn_le (q := fgr) (b := b) (n := n) (p := p + 1) (by omega)
        refine tok _ _ _ hno.2 (by unfold cd; rw [if_neg (by rw [hK]; decide), if_neg (by rw [hK]; decide), if_pos hK]) ?_ hE.symm (by rw [hK]; decide)
        unfold vl tvl
        rw [if_pos hK, hE, show rnn fgr b n (p + 1) - p = (rnn fgr b n (p + 1) - (p + 1)) + 1 by omega, tv, Nat.mul_zero, Nat.zero_add]
      | false =>
        rw [if_pos (show bI false = 0 from rfl), b1_N]
        cases c2 : ltr (b p) with
        | true =>
          have hno := lt_no c2
          rw [if_neg (show ¬ bI true = 0 by decide)]
          have hE : tE b n p = rnn ltr b n (p + 1) := by unfold tE; rw [if_neg (by omega), c1, if_neg (by decide), if_pos c2]
          have hK : kd b n p = 1 := by unfold kd; rw [if_neg (by omega), if_pos c2]
          have es : z_X10_scanWord SA (I, J, R) 48 (nI p) (nI n) = some (nI (rnn ltr b n (p + 1)), (adT I j (wcode b p (rnn ltr b n (p + 1))) 0 (nI p), J, R)) := by
            unfold z_X10_scanWord
            rw [let_N, nI_1]
            exact a_scanW (J := J) (s := p) hR hb hb2 hn h.1 (by omega) (n - (p + 1)) 20000 (p + 1) (by omega) (by omega) (by omega)
          rw [es, b2_N, b2_N, let_N, nI_1]
          exact tok _ _ _ hno.2 (by unfold cd; rw [if_neg (by rw [hK]; decide), if_pos hK, hE]) (by unfold vl; rw [if_neg (by rw [hK]; decide)]; rfl) hE.symm (by rw [hK]; decide)
        | false =>
          rw [if_pos (show bI false = 0 from rfl)]
          have bb := hb2 p
          have blank : blk (b p) = true → ∃ I' N, z_X10_open_b24 SA 48 f (I, J, R) (nI n) (nI (p + 1)) (nI (w + 1)) = some (I', J, R) ∧ tkn I' b n (N + 1) ∧ kd b n (tS b n N) = 0 ∧ (∀ i, i < N → ¬ kd b n (tS b n i) = 0) ∧ N ≤ n ∧ tF I I' := fun hblk =>
            ih f I (p + 1) j (w + 1) (by omega) (by omega) (by omega) (by omega) hb (by rw [← hB]; unfold tB; rw [rnn_s (show p < n by omega), if_pos hblk]) (by omega) hk h
          by_cases c3 : b p = 32
          · rw [if_pos (show nI (b p) = 32 by rw [c3]; rfl), b2_N, let_N, nI_1, nI_1]
            exact blank (by unfold blk; exact decide_eq_true (Or.inl c3))
          · rw [if_neg (show ¬ nI (b p) = 32 from fun e => c3 ((nI_eq (b := 32) (by omega) (by omega)).mp e))]
            by_cases c4 : b p = 10
            · rw [if_pos (show nI (b p) = 10 by rw [c4]; rfl), b2_N, let_N, nI_1, nI_1]
              exact blank (by unfold blk; exact decide_eq_true (Or.inr c4))
            · rw [if_neg (show ¬ nI (b p) = 10 from fun e => c4 ((nI_eq (b := 10) (by omega) (by omega)).mp e)), a_addTok hR h.1 (by omega), b1_N, b2_N, let_N, nI_1, nI_1]
              have hE : tE b n p = p + 1 := by unfold tE; rw [if_neg (by omega), c1, if_neg (by decide), c2, if_neg (by decide)]
              have hK : kd b n p = 3 := by unfold kd; rw [if_neg (by omega), c2, if_neg (by decide), c1, if_neg (by decide)]
              exact tok _ _ _ (by unfold blk; exact decide_eq_false (fun q => q.elim c3 c4)) (by unfold cd; rw [if_neg (by rw [hK]; decide), if_neg (by rw [hK]; decide), if_neg (by rw [hK]; decide)]) (by unfold vl; rw [if_neg (by rw [hK]; decide)]; rfl) hE.symm (by rw [hK]; decide)
theorem a_open {I : Nat → Nat → Int32} {J : Nat → Nat → Int64} {R : Nat → Nat → Option Nat} {b : Nat → Nat} {n : Nat} (hR : RA R) (hb2 : ∀ i, b i < 256) (hn : n ≤ 200) (hb : ∀ i, i < n → I 49 i = nI (b i)) :
    ∃ I' N, z_X10_open SA (I, J, R) 48 (nI n) = some (I', J, R) ∧ tkn I' b n (N + 1) ∧ kd b n (tS b n N) = 0 ∧ (∀ i, i < N → ¬ kd b n (tS b n i) = 0) ∧ N ≤ n ∧ I' 48 5 = nI 0 ∧ I' 48 7 = 0 ∧ I' 48 8 = -1 ∧ ∀ b j, ¬ (b = 50 ∨ b = 51 ∨ b = 52 ∨ (b = 48 ∧ (j = 4 ∨ j = 5 ∨ j = 7 ∨ j = 8))) → I' b j = I b j := by
  obtain ⟨I0, e0⟩ : ∃ z, z = fh_up (fh_up (fh_up (fh_up I 48 7 0) 48 8 (-1)) 48 4 0) 48 5 0 := ⟨_, rfl⟩
  have o0 : ∀ b j, ¬ (b = 48 ∧ (j = 4 ∨ j = 5 ∨ j = 7 ∨ j = 8)) → I0 b j = I b j := fun b j q => by
    have z4 : ¬ (b = 48 ∧ j = 4) := fun z => q ⟨z.1, by omega⟩
    have z5 : ¬ (b = 48 ∧ j = 5) := fun z => q ⟨z.1, by omega⟩
    have z7 : ¬ (b = 48 ∧ j = 7) := fun z => q ⟨z.1, by omega⟩
    have z8 : ¬ (b = 48 ∧ j = 8) := fun z => q ⟨z.1, by omega⟩
    rw [e0]
    simp only [fh_up, z4, z5, z7, z8, if_false]
  obtain ⟨I', N, q1, q2, q3, q4, q5, q6⟩ := a_open24 (J := J) hR hb2 hn n 20000 I0 0 0 0 (by omega) (by omega) (by omega) (by omega) (fun i hi => by rw [o0 _ _ (by omega)]; exact hb i hi) rfl (by omega) (fun i hi => by omega) ⟨by rw [e0, up_k _ _ _ _ (by decide), up_s]; rfl, fun i hi => by omega⟩
  refine ⟨I', N, ?_, q2, q3, q4, q5, ?_, ?_, ?_, fun b j q => ?_⟩
  · unfold z_X10_open
    rw [let_N, let_N, let_N, let_N, sI_N, sI_N, sI_N, sI_N, ← e0]
    exact q1
  · rw [q6 _ _ (by omega), e0, up_s]; rfl
  · rw [q6 _ _ (by omega), e0, up_k _ _ _ _ (by decide), up_k _ _ _ _ (by decide), up_k _ _ _ _ (by decide), up_s]
  · rw [q6 _ _ (by omega), e0, up_k _ _ _ _ (by decide), up_k _ _ _ _ (by decide), up_s]
  · rw [q6 _ _ (by omega), o0 _ _ (by omega)]
