/-! sets of places as bits -/
def mbt (m : Int64) (i : Nat) : Bool := m.toBitVec.getLsbD i
theorem mbt_ge {m : Int64} {i : Nat} (h : 64 ≤ i) : mbt m i = false := BitVec.getLsbD_of_ge _ _ h
theorem mbt_or (x y : Int64) (i : Nat) : mbt (x ||| y) i = (mbt x i || mbt y i) := by
  unfold mbt; rw [Int64.toBitVec_or, BitVec.getLsbD_or]
theorem mbt_and (x y : Int64) (i : Nat) : mbt (x &&& y) i = (mbt x i && mbt y i) := by
  unfold mbt; rw [Int64.toBitVec_and, BitVec.getLsbD_and]
theorem mbt_xor (x y : Int64) (i : Nat) : mbt (x ^^^ y) i = (mbt x i ^^ mbt y i) := by
  unfold mbt; rw [Int64.toBitVec_xor, BitVec.getLsbD_xor]
theorem mbt_m1 : ∀ i, i < 64 → mbt (-1) i = true := by decide +kernel
theorem mbt_0 (i : Nat) : mbt 0 i = false := by
  unfold mbt
  rw [show (0 : Int64).toBitVec = 0#64 from rfl, BitVec.getLsbD_zero]
theorem mbt_one0 : ∀ k, k < 60 → ∀ i, i < 64 → mbt ((1 : Int64) <<< (Int32.toInt64 (nI k) &&& 63)) i = decide (i = k) := by decide +kernel
theorem mbt_one {k : Nat} (h : k < 60) (i : Nat) : mbt ((1 : Int64) <<< (Int32.toInt64 (nI k) &&& 63)) i = decide (i = k) := by
  by_cases c : i < 64
  · exact mbt_one0 k h i c
  · rw [mbt_ge (by omega), decide_eq_false (by omega)]
theorem mbt_all0 : ∀ k, k < 61 → ∀ i, i < 64 → mbt (((1 : Int64) <<< (Int32.toInt64 (nI k) &&& 63)) - 1) i = decide (i < k) := by decide +kernel
theorem mbt_all {k : Nat} (h : k ≤ 60) (i : Nat) : mbt (((1 : Int64) <<< (Int32.toInt64 (nI k) &&& 63)) - 1) i = decide (i < k) := by
  by_cases c : i < 64
  · exact mbt_all0 k (by omega) i c
  · rw [mbt_ge (by omega), decide_eq_false (by omega)]
theorem sh_n0 : ∀ k, k < 60 → ((Int32.toInt64 (nI k) &&& 63).toBitVec.smod 64).toNat = k := by decide +kernel
theorem mbt_at {m : Int64} {k : Nat} (h : k < 60) : ((m >>> (Int32.toInt64 (nI k) &&& 63)) &&& (1 : Int64)) = 1 ↔ mbt m k = true := by
  unfold mbt
  have e0 : m.toBitVec.sshiftRight' ((Int32.toInt64 (nI k) &&& 63).toBitVec.smod 64) = m.toBitVec.sshiftRight ((Int32.toInt64 (nI k) &&& 63).toBitVec.smod 64).toNat := rfl
  rw [← Int64.toBitVec_inj, Int64.toBitVec_and, Int64.toBitVec_shiftRight, e0, sh_n0 k h, show (1 : Int64).toBitVec = 1#64 from rfl, BitVec.and_one_eq_setWidth_ofBool_getLsbD, BitVec.getLsbD_sshiftRight]
  have e : (if 0 + k < 64 then m.toBitVec.getLsbD (k + 0) else m.toBitVec.msb) = m.toBitVec.getLsbD k := by rw [if_pos (by omega), Nat.add_zero]
  simp only [Nat.add_zero, show k < 64 by omega, if_true]
  cases m.toBitVec.getLsbD k <;> simp
def fsp (p : Nat → Bool) : Nat → Nat → Int32
  | 0, _ => -1
  | m + 1, k => if p k = true then nI k else fsp p m (k + 1)
theorem fsp_cong {p q : Nat → Bool} : ∀ (m k : Nat), (∀ i, k ≤ i → i < k + m → p i = q i) → fsp p m k = fsp q m k := by
  intro m
  induction m with
  | zero => intro k _; rfl
  | succ m ih => intro k h; rw [fsp, fsp, h k (Nat.le_refl _) (by omega), ih (k + 1) (fun i h1 h2 => h i (by omega) (by omega))]
theorem fsp_no {p : Nat → Bool} : ∀ (m k : Nat), (∀ i, k ≤ i → p i = false) → fsp p m k = -1 := by
  intro m
  induction m with
  | zero => intro k _; rfl
  | succ m ih => intro k h; rw [fsp, h k (Nat.le_refl _), if_neg (by decide)]; exact ih (k + 1) (fun i hi => h i (by omega))
theorem fsp_cut {p : Nat → Bool} {K : Nat} (hp : ∀ i, K ≤ i → p i = false) : ∀ (m k : Nat), k + m = K → ∀ m', m ≤ m' → fsp p m' k = fsp p m k := by
  intro m
  induction m with
  | zero => intro k hk m' _; rw [fsp]; exact fsp_no m' k (fun i hi => hp i (by omega))
  | succ m ih =>
    intro k hk m' hm
    obtain ⟨m'', rfl⟩ : ∃ x, m' = x + 1 := ⟨m' - 1, by omega⟩
    rw [fsp, fsp, ih (k + 1) (by omega) m'' (by omega)]
theorem a_first2 {m : Int64} : ∀ (d fuel k : Nat), d < fuel → k + d = 60 → z_X4_firstPlace_b2 fuel m (nI k) = some (fsp (mbt m) d k) := by
  intro d
  induction d with
  | zero =>
    intro fuel k hf hk
    obtain ⟨f, rfl⟩ : ∃ f, fuel = f + 1 := ⟨fuel - 1, by omega⟩
    rw [z_X4_firstPlace_b2, if_pos (show (60 : Int32) ≤ nI k from nI_le (a := 60) (by omega) (by omega)), fsp]
  | succ d ih =>
    intro fuel k hf hk
    obtain ⟨f, rfl⟩ : ∃ f, fuel = f + 1 := ⟨fuel - 1, by omega⟩
    rw [z_X4_firstPlace_b2, if_neg (show ¬ (60 : Int32) ≤ nI k from nI_ge (b := 60) (by omega) (by omega)), fsp]
    by_cases c : mbt m k = true
    · rw [if_pos c, if_pos ((mbt_at (by omega)).mpr c)]
    · rw [if_neg c, if_neg (fun q => c ((mbt_at (by omega)).mp q)), let_N, nI_1]
      exact ih f (k + 1) (by omega) (by omega)
theorem a_firstP {m : Int64} {K : Nat} {sem : Nat → Bool} (hK : K ≤ 60) (h : ∀ i, mbt m i = (decide (i < K) && sem i)) : z_X4_firstPlace m = some (fsp sem K 0) := by
  have e : z_X4_firstPlace m = some (fsp (mbt m) 60 0) := a_first2 60 20000 0 (by omega) (by omega)
  rw [e, fsp_cut (K := K) (fun i hi => by rw [h i, decide_eq_false (by omega), Bool.false_and]) K 0 (by omega) 60 hK, fsp_cong K 0 (fun i _ hi => by rw [h i, decide_eq_true (by omega), Bool.true_and])]
theorem bcn_cut {p : Nat → Bool} {K : Nat} (hp : ∀ i, K ≤ i → p i = false) : ∀ d, bcn p (K + d) = bcn p K := by
  intro d
  induction d with
  | zero => rfl
  | succ d ih => rw [← Nat.add_assoc, bcn, hp _ (by omega), if_neg (by decide), ih, Nat.add_zero]
theorem a_countP {m : Int64} {K : Nat} {sem : Nat → Bool} (hK : K ≤ 60) (h : ∀ i, mbt m i = (decide (i < K) && sem i)) : z_J13_bitCount_95d88 m = some (nI (bcn sem K)) := by
  have e : bcn (fun i => m.toBitVec.getLsbD i) 64 = bcn sem K := by
    have e1 : bcn (mbt m) (K + (64 - K)) = bcn (mbt m) K := bcn_cut (fun i hi => by rw [h i, decide_eq_false (by omega), Bool.false_and]) _
    rw [show K + (64 - K) = 64 by omega] at e1
    have e2 : bcn (mbt m) K = bcn sem K := bcn_cong K (fun i hi => by rw [h i, decide_eq_true hi, Bool.true_and])
    exact e1.trans e2
  rw [bitC, e]
