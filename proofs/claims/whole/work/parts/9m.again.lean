/-! rows that come again -/
theorem r1_c0 {X Y : List Int32 × Int32} {A B : H4} {x y s : Nat} {e1 e2 tk : Bool} : ¬ (r1 X Y A B x y s e1 e2 tk).1 = 0 := by
  unfold r1 rX rY
  repeat' split
  all_goals (dsimp only; decide)
theorem al_stop (X Y : List Int32 × Int32) (most : Nat) : ∀ (n : Nat) (σ : rS) (out : List rT), (al X Y most n σ out).2.1 = 0 → most ≤ (al X Y most n σ out).1.length := by
  intro n
  induction n with
  | zero =>
    intro σ out h
    obtain ⟨A, B, x, y, s, e1, e2, tk⟩ := σ
    exact absurd h (show ¬ (3 : Int32) = 0 by decide)
  | succ n ih =>
    intro σ out h
    obtain ⟨A, B, x, y, s, e1, e2, tk⟩ := σ
    rw [al] at h ⊢
    by_cases c : most ≤ out.length
    · rw [if_pos c]; exact c
    · rw [if_neg c] at h ⊢
      have hc := r1_c0 (X := X) (Y := Y) (A := A) (B := B) (x := x) (y := y) (s := s) (e1 := e1) (e2 := e2) (tk := tk)
      generalize r1 X Y A B x y s e1 e2 tk = w at h hc ⊢
      obtain ⟨c, t⟩ := w
      dsimp only at h hc ⊢
      by_cases c4 : c = 4
      · rw [if_pos c4] at h ⊢; exact ih _ _ h
      · rw [if_neg c4] at h ⊢
        by_cases c5 : c = 5
        · rw [if_pos c5] at h ⊢; exact ih _ _ h
        · rw [if_neg c5] at h; exact absurd h hc
theorem ite_01 {p : Prop} [Decidable p] (h : (if p then (0 : Int32) else 1) = 0) : p := by
  by_cases c : p
  · exact c
  · rw [if_neg c] at h; exact absurd h (by decide)
theorem dn_cut {f : Nat → Int32} {L : Nat → Dat} (h : (dn f L).2.1 = 0) : (dn f L).1.length = 60 := by
  have hl := dn_len f L
  unfold dn at h hl ⊢
  split at h
  · rename_i c
    rw [if_pos c, bas_len]
    exact ite_01 h
  rename_i c0
  split at h
  · rename_i c
    rw [if_neg c0, if_pos c, bas_len]
    have h' : (rtD (f 1).toInt64 (f 2).toInt64 (f 3).toInt64).2 = 0 := h
    unfold rtD at h' ⊢
    split at h'
    · rename_i c2
      rw [if_pos c2]
      exact ite_01 h'
    · rename_i c2
      rw [if_neg c2]
      exact rtl_len _ _ _ _
  rename_i c1
  split at h
  · rename_i c
    rw [if_neg c0, if_neg c1, if_pos c, bas_len, tlf, tl_len]
    exact ite_01 h
  rename_i c2
  split at h
  · rename_i c
    rw [if_neg c0, if_neg c1, if_neg c2, if_pos c] at hl ⊢
    have := al_stop _ _ _ _ _ _ h
    omega
  · rename_i c
    rw [if_neg c0, if_neg c1, if_neg c2, if_neg c] at hl ⊢
    have := al_stop _ _ _ _ _ _ h
    omega
theorem rw_cut {P : Rcp} {r : Nat} (h : rwS P r = 0) : rwL P r = 60 := dn_cut h
/-- from where on a row's terms are another's, by so many places shifted -/
def afr (g g' : Nat → Int32) (s : Int) : Nat → Nat
  | 0 => 0
  | k + 1 => if ((k + 1 : Nat) : Int) ≤ s then k + 1 else if g k = g' (((k : Nat) : Int) - s).toNat then afr g g' s k else k + 1
theorem afr_le (g g' : Nat → Int32) (s : Int) : ∀ k, afr g g' s k ≤ k := by
  intro k
  induction k with
  | zero => exact Nat.le_refl _
  | succ k ih =>
    rw [afr]
    split
    · exact Nat.le_refl _
    · split
      · omega
      · exact Nat.le_refl _
theorem afr_eq (g g' : Nat → Int32) (s : Int) : ∀ k j, afr g g' s k ≤ j → j < k → g j = g' (((j : Nat) : Int) - s).toNat := by
  intro k
  induction k with
  | zero => intro j _ h; omega
  | succ k ih =>
    intro j h1 h2
    rw [afr] at h1
    by_cases c1 : ((k + 1 : Nat) : Int) ≤ s
    · rw [if_pos c1] at h1; omega
    rw [if_neg c1] at h1
    by_cases c2 : g k = g' (((k : Nat) : Int) - s).toNat
    · rw [if_pos c2] at h1
      by_cases c3 : j = k
      · rw [c3]; exact c2
      · exact ih j h1 (by omega)
    · rw [if_neg c2] at h1; omega
/-- and no lesser one: s at least, and where all are alike from k0 on it is k0 at most -/
theorem afr_min (g g' : Nat → Int32) (s : Int) {k0 : Nat} (hs : s ≤ (k0 : Int)) : ∀ k, (∀ j, k0 ≤ j → j < k → g j = g' (((j : Nat) : Int) - s).toNat) → k0 ≤ k → afr g g' s k ≤ k0 := by
  intro k
  induction k with
  | zero => intro _ h; exact Nat.zero_le _
  | succ k ih =>
    intro h1 h2
    rw [afr]
    by_cases c0 : k0 = k + 1
    · have := afr_le g g' s k
      split
      · omega
      · split <;> omega
    · rw [if_neg (by omega), if_pos (h1 k (by omega) (by omega))]
      exact ih (fun j q1 q2 => h1 j q1 (by omega)) (by omega)
theorem afr_s (g g' : Nat → Int32) (s : Int) : ∀ k : Nat, s ≤ (k : Int) → s ≤ ((afr g g' s k : Nat) : Int) := by
  intro k
  induction k with
  | zero => intro h; exact h
  | succ k ih =>
    intro h
    rw [afr]
    split
    · exact h
    · split
      · exact ih (by omega)
      · exact h
theorem i32_sub {a b : Int32} {x y : Int} (ha : a.toInt = x) (hb : b.toInt = y) (h1 : -2147483648 ≤ x - y) (h2 : x - y ≤ 2147483647) : (a - b).toInt = x - y := by
  rw [Int32.toInt_sub, ha, hb]
  exact Int.bmod_eq_of_le (by omega) (by omega)
theorem i32_neg' {a : Int32} {x : Int} (ha : a.toInt = x) (h1 : -2147483648 < x) : (-a).toInt = -x := by
  have := a.toInt_lt
  rw [Int32.toInt_neg, ha]
  exact Int.bmod_eq_of_le (by omega) (by omega)
theorem i32_n0 {a : Int32} {x : Int} (ha : a.toInt = x) (h0 : 0 ≤ x) : a = nI x.toNat := by
  apply Int32.toInt_inj.mp
  have := a.toInt_lt
  rw [nI_toInt (by omega), ha]
  omega
theorem a_alike10 {I : Nat → Nat → Int32} {J : Nat → Nat → Int64} {R : Nat → Nat → Option Nat} {g g' : Nat → Int32} {a a' : Nat} {y2 : Int32} {s : Int} (hR : RA R) (ha : rwA a) (ha' : rwA a') (hg : ∀ j, j < 60 → I (a + 1) j = g j) (hg' : ∀ j, j < 60 → I (a' + 1) j = g' j) (hy : y2.toInt = s) (hs : -60 ≤ s ∧ s ≤ 60) : ∀ (k fuel : Nat), k < fuel → k ≤ 60 → ((k : Nat) : Int) ≤ 60 + s →
    z_X11_alikeFrom_b10 SA fuel (I, J, R) a a' y2 (nI k) = some (nI (afr g g' s k)) := by
  have k6 := (rwA_k ha).1
  have k6' := (rwA_k ha').1
  intro k
  induction k with
  | zero =>
    intro fuel hf hk hks
    obtain ⟨f, rfl⟩ : ∃ f, fuel = f + 1 := ⟨fuel - 1, by omega⟩
    rw [z_X11_alikeFrom_b10, if_pos (by decide)]; rfl
  | succ k ih =>
    intro fuel hf hk hks
    obtain ⟨f, rfl⟩ : ∃ f, fuel = f + 1 := ⟨fuel - 1, by omega⟩
    rw [z_X11_alikeFrom_b10, if_neg (nI_nle (by omega) (by omega)), afr]
    have tk := nI_toInt (n := k + 1) (by omega)
    by_cases c : ((k + 1 : Nat) : Int) ≤ s
    · rw [if_pos (show nI (k + 1) ≤ y2 from by rw [Int32.le_iff_toInt_le, tk, hy]; exact c), if_pos c]
    · rw [if_neg (show ¬ nI (k + 1) ≤ y2 from by rw [Int32.le_iff_toInt_le, tk, hy]; exact c), if_neg c]
      have e1 : nI (k + 1) - 1 = nI k := nI_pred k
      have e2 : nI k - y2 = nI (((k : Nat) : Int) - s).toNat := i32_n0 (i32_sub (nI_toInt (by omega)) hy (by omega) (by omega)) (by omega)
      have e3 : nI (k + 1) + (-1) = nI k := by rw [← Int32.sub_eq_add_neg]; exact e1
      rw [e1, e2, e3, k6, ck_N, a_tm hR ha (show k < 60 by omega), b1_N, k6', ck_N, a_tm hR ha' (show (((k : Nat) : Int) - s).toNat < 60 by omega), b1_N, hg k (by omega), hg' _ (by omega)]
      by_cases c2 : g k = g' (((k : Nat) : Int) - s).toNat
      · rw [if_pos c2, if_pos c2, let_N]
        exact ih f (by omega) (by omega) (by omega)
      · rw [if_neg c2, if_neg c2]
theorem a_alikeFrom {I : Nat → Nat → Int32} {J : Nat → Nat → Int64} {R : Nat → Nat → Option Nat} {g g' : Nat → Int32} {a a' : Nat} {y2 : Int32} {s : Int} (hR : RA R) (ha : rwA a) (ha' : rwA a') (hg : ∀ j, j < 60 → I (a + 1) j = g j) (hg' : ∀ j, j < 60 → I (a' + 1) j = g' j) (hy : y2.toInt = s) (hs : -60 ≤ s ∧ s ≤ 60) :
    z_X11_alikeFrom SA (I, J, R) a a' y2 = some (nI (afr g g' s (if s ≤ 0 then (60 + s).toNat else 60))) := by
  unfold z_X11_alikeFrom z_J9_min_7cf53
  have t60 : (60 : Int32).toInt = 60 := rfl
  have e0 : ((60 : Int32) + y2).toInt = 60 + s := by
    rw [Int32.toInt_add, t60, hy]
    exact Int.bmod_eq_of_le (by omega) (by omega)
  by_cases c : (60 : Int32) + y2 < 60
  · rw [if_pos c, b1_N]
    rw [Int32.lt_iff_toInt_lt, e0, t60] at c
    rw [if_pos (show s ≤ 0 by omega), i32_n0 e0 (by omega)]
    exact a_alike10 hR ha ha' hg hg' hy hs _ 20000 (by omega) (by omega) (by omega)
  · rw [if_neg c, b1_N]
    rw [Int32.lt_iff_toInt_lt, e0, t60] at c
    by_cases c2 : s ≤ 0
    · have : s = 0 := by omega
      rw [if_pos c2, this]
      exact a_alike10 hR ha ha' hg hg' (hy.trans this) (by omega) 60 20000 (by omega) (by omega) (by omega)
    · rw [if_neg c2]
      exact a_alike10 hR ha ha' hg hg' hy hs 60 20000 (by omega) (by omega) (by omega)
/-! again -/
def agT (g : Nat → Int32) (d : Nat) : Nat := afr g g (-(d : Int)) (60 - d)
/-- a row comes again from a place on, by so many -/
def agP (g : Nat → Int32) (t d : Nat) : Prop := ∀ k, t ≤ k → k + d < 60 → g k = g (k + d)
theorem agT_le (g : Nat → Int32) (d : Nat) : agT g d ≤ 60 - d := afr_le _ _ _ _
theorem agT_ok {g : Nat → Int32} {d t : Nat} (hd : d ≤ 60) (ht : t ≤ 60 - d) : agT g d ≤ t ↔ agP g t d := by
  have e : ∀ j : Nat, (((j : Nat) : Int) - -(d : Int)).toNat = j + d := fun j => by omega
  constructor
  · intro h k h1 h2
    have := afr_eq g g (-(d : Int)) (60 - d) k (Nat.le_trans h h1) (by omega)
    rw [e] at this; exact this
  · intro h
    refine afr_min g g (-(d : Int)) (by omega) (60 - d) (fun j h1 h2 => ?_) ht
    rw [e]; exact h j h1 (by omega)
/-- the earliest, by the least; none: 60 and 0 -/
def agS (g : Nat → Int32) (b p D : Nat) : Prop := (p = 0 ∧ b = 60 ∧ ∀ d, 1 ≤ d → d < D → ¬ agT g d + 2 * d ≤ 60) ∨ (1 ≤ p ∧ p < D ∧ b = agT g p ∧ b + 2 * p ≤ 60 ∧ ∀ d, 1 ≤ d → d < D → agT g d + 2 * d ≤ 60 → b ≤ agT g d ∧ (agT g d = b → p ≤ d))
theorem a_again16 {I : Nat → Nat → Int32} {J : Nat → Nat → Int64} {R : Nat → Nat → Option Nat} {g : Nat → Int32} {a : Nat} (hR : RA R) (ha : rwA a) (hg : ∀ j, j < 60 → I (a + 1) j = g j) : ∀ (m fuel b p d : Nat), m < fuel → d + m = 31 → 1 ≤ d → agS g b p d →
    ∃ b' p', z_X11_comingAgain_b16 SA fuel (I, J, R) a (nI b) (nI p) (nI d) = some (if p' = 0 then -1 else nI (b' * 64 + p')) ∧ agS g b' p' 31 := by
  have k6 := (rwA_k ha).1
  intro m
  induction m with
  | zero =>
    intro fuel b p d hf hm hd h
    obtain ⟨f, rfl⟩ : ∃ f, fuel = f + 1 := ⟨fuel - 1, by omega⟩
    obtain rfl : d = 31 := by omega
    have hb : b ≤ 60 ∧ p ≤ 30 := by rcases h with ⟨h1, h2, -⟩ | ⟨h1, h2, h3, h4, -⟩ <;> omega
    refine ⟨b, p, ?_, h⟩
    rw [z_X11_comingAgain_b16, if_pos (by decide)]
    by_cases c : p = 0
    · rw [if_pos c, if_pos (by rw [c]; rfl)]
    · rw [if_neg c, if_neg (nI_ne0 (by omega) (by omega)), show (64 : Int32) = nI 64 from rfl, nI_mul, nI_add]
  | succ m ih =>
    intro fuel b p d hf hm hd h
    obtain ⟨f, rfl⟩ : ∃ f, fuel = f + 1 := ⟨fuel - 1, by omega⟩
    have hb : b ≤ 60 := by rcases h with ⟨h1, h2, -⟩ | ⟨h1, h2, h3, h4, -⟩ <;> omega
    have e2 : (2 : Int32) * nI d = nI (2 * d) := by rw [show (2 : Int32) = nI 2 from rfl, nI_mul]
    have eT := a_alikeFrom (J := J) hR ha ha hg hg (i32_neg' (nI_toInt (n := d) (by omega)) (by omega)) (by omega)
    rw [if_pos (show -((d : Nat) : Int) ≤ 0 by omega), show (60 + -((d : Nat) : Int)).toNat = 60 - d by omega] at eT
    have hT := agT_le g d
    have eT' : z_X11_alikeFrom SA (I, J, R) a a (-nI d) = some (nI (agT g d)) := eT
    rw [z_X11_comingAgain_b16, e2, if_neg (show ¬ (60 : Int32) < nI (2 * d) from nI_nlt (b := 2 * d) (a := 60) (by omega) (by omega)), k6, ck_N, eT', b1_N, nI_add]
    simp only [let_N, nI_1]
    by_cases c1 : agT g d + 2 * d ≤ 60
    · rw [if_neg (show ¬ (60 : Int32) < nI (agT g d + 2 * d) from nI_nlt (a := 60) c1 (by omega))]
      by_cases c2 : b ≤ agT g d
      · rw [if_pos (nI_le c2 (by omega))]
        refine ih f b p (d + 1) (by omega) (by omega) (by omega) ?_
        rcases h with ⟨h1, h2, h3⟩ | ⟨h1, h2, h3, h4, h5⟩
        · omega
        · refine Or.inr ⟨h1, by omega, h3, h4, fun d' q1 q2 q3 => ?_⟩
          by_cases cd : d' = d
          · rw [cd]; exact ⟨c2, fun _ => by omega⟩
          · exact h5 d' q1 (by omega) q3
      · rw [if_neg (show ¬ nI b ≤ nI (agT g d) from nI_ge (by omega) (by omega))]
        refine ih f (agT g d) d (d + 1) (by omega) (by omega) (by omega) (Or.inr ⟨hd, by omega, rfl, c1, fun d' q1 q2 q3 => ?_⟩)
        by_cases cd : d' = d
        · rw [cd]; exact ⟨Nat.le_refl _, fun _ => Nat.le_refl _⟩
        · rcases h with ⟨h1, h2, h3⟩ | ⟨h1, h2, h3, h4, h5⟩
          · exact absurd q3 (h3 d' q1 (by omega))
          · have := h5 d' q1 (by omega) q3
            exact ⟨by omega, fun e => by omega⟩
    · rw [if_pos (show (60 : Int32) < nI (agT g d + 2 * d) from nI_lt (a := 60) (by omega) (by omega))]
      refine ih f b p (d + 1) (by omega) (by omega) (by omega) ?_
      rcases h with ⟨h1, h2, h3⟩ | ⟨h1, h2, h3, h4, h5⟩
      · refine Or.inl ⟨h1, h2, fun d' q1 q2 => ?_⟩
        by_cases cd : d' = d
        · rw [cd]; exact c1
        · exact h3 d' q1 (by omega)
      · refine Or.inr ⟨h1, by omega, h3, h4, fun d' q1 q2 q3 => ?_⟩
        by_cases cd : d' = d
        · rw [cd] at q3; exact absurd q3 c1
        · exact h5 d' q1 (by omega) q3
theorem a_coming {I : Nat → Nat → Int32} {J : Nat → Nat → Int64} {R : Nat → Nat → Option Nat} {g : Nat → Int32} {a : Nat} (hR : RA R) (ha : rwA a) (hg : ∀ j, j < 60 → I (a + 1) j = g j) (h7 : I a 7 = 0) : ∃ b p, z_X11_comingAgain SA (I, J, R) a = some (if p = 0 then -1 else nI (b * 64 + p)) ∧ agS g b p 31 := by
  obtain ⟨b, p, e, h⟩ := a_again16 (J := J) hR ha hg 30 20000 60 0 1 (by omega) (by omega) (by omega) (Or.inl ⟨rfl, rfl, fun d q1 q2 => by omega⟩)
  refine ⟨b, p, ?_, h⟩
  unfold z_X11_comingAgain
  simp only [h7, if_true]
  exact e
/-- the reference: a place and how many -/
theorem b_comes3 {I : Nat → Nat → Int32} {J : Nat → Nat → Int64} {g : Nat → Int32} {r d : Nat} (hr : r < 10) (hg : ∀ j, j < 60 → I 3 (60 * r + j) = g j) (hd : d ≤ 60) : ∀ (m fuel k : Nat), m < fuel → k + m + d = 60 → (agP g k d → z_X12_comesAgain_b3 TB 0 fuel (I, J, rB) (nI r) (nI d) (nI k) = some 1) ∧ (¬ agP g k d → z_X12_comesAgain_b3 TB 0 fuel (I, J, rB) (nI r) (nI d) (nI k) = some 0) := by
  intro m
  induction m with
  | zero =>
    intro fuel k hf hm
    obtain ⟨f, rfl⟩ : ∃ f, fuel = f + 1 := ⟨fuel - 1, by omega⟩
    have e : z_X12_comesAgain_b3 TB 0 (f + 1) (I, J, rB) (nI r) (nI d) (nI k) = some 1 := by
      rw [z_X12_comesAgain_b3, nI_add, if_pos (show (60 : Int32) ≤ nI (k + d) from nI_le (a := 60) (by omega) (by omega))]
    exact ⟨fun _ => e, fun h => absurd (fun j h1 h2 => by omega) h⟩
  | succ m ih =>
    intro fuel k hf hm
    obtain ⟨f, rfl⟩ : ∃ f, fuel = f + 1 := ⟨fuel - 1, by omega⟩
    have e : z_X12_comesAgain_b3 TB 0 (f + 1) (I, J, rB) (nI r) (nI d) (nI k) = if g k = g (k + d) then z_X12_comesAgain_b3 TB 0 f (I, J, rB) (nI r) (nI d) (nI (k + 1)) else some 0 := by
      rw [z_X12_comesAgain_b3, nI_add, if_neg (show ¬ (60 : Int32) ≤ nI (k + d) from nI_ge (b := 60) (by omega) (by omega)), b_termOf hr (show k < 60 by omega), b1_N, b_termOf hr (show k + d < 60 by omega), b1_N, hg k (by omega), hg (k + d) (by omega), let_N, nI_1]
    rw [e]
    by_cases c : g k = g (k + d)
    · rw [if_pos c]
      obtain ⟨h1, h2⟩ := ih f (k + 1) (by omega) (by omega)
      refine ⟨fun h => h1 (fun j q1 q2 => h j (by omega) q2), fun h => h2 (fun h' => h (fun j q1 q2 => ?_))⟩
      by_cases cj : j = k
      · rw [cj]; exact c
      · exact h' j (by omega) q2
    · rw [if_neg c]
      exact ⟨fun h => absurd (h k (Nat.le_refl _) (by omega)) c, fun _ => rfl⟩
def aF29 (I I' : Nat → Nat → Int32) : Prop := ∀ b j, ¬ (b = 0 ∧ (j = 29 ∨ j = 30)) → I' b j = I b j
theorem b_again37 {J : Nat → Nat → Int64} {g : Nat → Int32} {r t : Nat} {KK : fh_H → Int32 → Int32 → Option fh_H} (hr : r < 10) (ht : t < 60) (I : Nat → Nat → Int32) (hg : ∀ j, j < 60 → I 3 (60 * r + j) = g j) (h29 : I 0 29 = -1) : ∀ (m fuel d : Nat), m + 1 < fuel → d + m = 31 → 1 ≤ d → (∀ d', 1 ≤ d' → d' < d → t + 2 * d' ≤ 60 → ¬ agP g t d') →
    (z_X12_layAgain_b37 TB 0 KK fuel (I, J, rB) (nI r) (nI t) (nI d) = KK (I, J, rB) (nI r) (nI (t + 1)) ∧ ∀ d', 1 ≤ d' → t + 2 * d' ≤ 60 → ¬ agP g t d') ∨
    ∃ p, 1 ≤ p ∧ t + 2 * p ≤ 60 ∧ agP g t p ∧ (∀ d', 1 ≤ d' → d' < p → ¬ agP g t d') ∧ z_X12_layAgain_b37 TB 0 KK fuel (I, J, rB) (nI r) (nI t) (nI d) = KK (fh_up (fh_up I 0 29 (nI t)) 0 30 (nI p), J, rB) (nI r) (nI (t + 1)) := by
  have stop : ∀ (f d : Nat) (I' : Nat → Nat → Int32), 31 ≤ d → d ≤ 40 → z_X12_layAgain_b37 TB 0 KK (f + 1) (I', J, rB) (nI r) (nI t) (nI d) = KK (I', J, rB) (nI r) (nI (t + 1)) := fun f d I' h1 h2 => by
    have e2 : nI t + (2 : Int32) * nI d = nI (t + 2 * d) := by rw [show (2 : Int32) = nI 2 from rfl, nI_mul, nI_add]
    rw [z_X12_layAgain_b37, e2, if_pos (show (60 : Int32) < nI (t + 2 * d) from nI_lt (a := 60) (by omega) (by omega)), let_N, nI_1]
  intro m
  induction m with
  | zero =>
    intro fuel d hf hm hd hno
    obtain ⟨f, rfl⟩ : ∃ f, fuel = f + 1 := ⟨fuel - 1, by omega⟩
    exact Or.inl ⟨stop f d I (by omega) (by omega), fun d' q1 q2 => hno d' q1 (by omega) q2⟩
  | succ m ih =>
    intro fuel d hf hm hd hno
    obtain ⟨f, rfl⟩ : ∃ f, fuel = f + 1 := ⟨fuel - 1, by omega⟩
    have e2 : nI t + (2 : Int32) * nI d = nI (t + 2 * d) := by rw [show (2 : Int32) = nI 2 from rfl, nI_mul, nI_add]
    by_cases c1 : t + 2 * d ≤ 60
    · have n60 : ¬ (60 : Int32) < nI (t + 2 * d) := nI_nlt (a := 60) c1 (by omega)
      obtain ⟨q1, q2⟩ := b_comes3 (J := J) hr hg (show d ≤ 60 by omega) (60 - t - d) 20000 t (by omega) (by omega)
      by_cases c2 : agP g t d
      · refine Or.inr ⟨d, hd, c1, c2, fun d' h1 h2 => hno d' h1 h2 (by omega), ?_⟩
        have q1' : z_X12_comesAgain TB (I, J, rB) 0 (nI r) (nI t) (nI d) = some 1 := q1 c2
        have w29 : fh_up (fh_up I 0 29 (nI t)) 0 30 (nI d) 0 29 = nI t := by rw [up_k _ _ _ _ (by decide), up_s]
        have wne : ¬ nI t = -1 := fun e => by
          have := congrArg Int32.toInt e
          rw [nI_toInt (by omega)] at this
          have h1 : (-1 : Int32).toInt = -1 := rfl
          omega
        rw [z_X12_layAgain_b37, e2, if_neg n60]
        simp only [h29, if_true, q1', b1_N, one0, if_false, let_N, sI_N, nI_1]
        obtain ⟨f', rfl⟩ : ∃ f', f = f' + 1 := ⟨f - 1, by omega⟩
        have e3 : nI t + (2 : Int32) * nI (d + 1) = nI (t + 2 * (d + 1)) := by rw [show (2 : Int32) = nI 2 from rfl, nI_mul, nI_add]
        rw [z_X12_layAgain_b37, e3, let_N, nI_1]
        by_cases c3 : (60 : Int32) < nI (t + 2 * (d + 1))
        · rw [if_pos c3]
        · rw [if_neg c3]
          simp only [w29, wne, if_false, let_N, nI_1]
      · have q2' : z_X12_comesAgain TB (I, J, rB) 0 (nI r) (nI t) (nI d) = some 0 := q2 c2
        rw [z_X12_layAgain_b37, e2, if_neg n60]
        simp only [h29, if_true, q2', b1_N, let_N, nI_1]
        exact ih f (d + 1) (by omega) (by omega) (by omega) (fun d' h1 h2 h3 => by
          by_cases cd : d' = d
          · rw [cd]; exact c2
          · exact hno d' h1 (by omega) h3)
    · refine Or.inl ⟨?_, fun d' h1 h2 => hno d' h1 (by omega) h2⟩
      rw [z_X12_layAgain_b37, e2, if_pos (show (60 : Int32) < nI (t + 2 * d) from nI_lt (a := 60) (by omega) (by omega)), let_N, nI_1]
theorem b_again12 {J : Nat → Nat → Int64} {g : Nat → Int32} {r : Nat} (hr : r < 10) : ∀ (m fuel : Nat) (I : Nat → Nat → Int32) (t : Nat), m + 1 < fuel → t + m = 60 → (∀ j, j < 60 → I 3 (60 * r + j) = g j) → I 5 r = 0 → I 0 29 = -1 → I 0 30 = -1 → (∀ t', t' < t → ∀ d, 1 ≤ d → t' + 2 * d ≤ 60 → ¬ agP g t' d) →
    ∃ I', z_X12_layAgain_b12 TB 0 fuel (I, J, rB) (nI r) (nI t) = some (I', J, rB) ∧ aF29 I I' ∧ ((I' 0 29 = -1 ∧ I' 0 30 = -1 ∧ ∀ t' d, 1 ≤ d → t' + 2 * d ≤ 60 → ¬ agP g t' d) ∨ ∃ T D, I' 0 29 = nI T ∧ I' 0 30 = nI D ∧ 1 ≤ D ∧ T + 2 * D ≤ 60 ∧ agP g T D ∧ (∀ d, 1 ≤ d → d < D → ¬ agP g T d) ∧ ∀ t', t' < T → ∀ d, 1 ≤ d → t' + 2 * d ≤ 60 → ¬ agP g t' d) := by
  have i1 : fh_in (nI r) 10 = true := in_n hr (by omega)
  have k1 : (nI r).toNatClampNeg = r := nI_clamp (by omega)
  intro m
  induction m with
  | zero =>
    intro fuel I t hf hm hg h5 h29 h30 hno
    obtain ⟨f, rfl⟩ : ∃ f, fuel = f + 1 := ⟨fuel - 1, by omega⟩
    have c0 : (60 : Int32) ≤ nI t := nI_le (a := 60) (by omega) (by omega)
    refine ⟨I, ?_, fun _ _ _ => rfl, Or.inl ⟨h29, h30, fun t' d q1 q2 => hno t' (by omega) d q1 q2⟩⟩
    rw [z_X12_layAgain_b12]
    simp only [rB_6, b1_N, kB_N5, ck_N, lB_N5, i1, k1, h5, if_true, c0]
  | succ m ih =>
    intro fuel I t hf hm hg h5 h29 h30 hno
    obtain ⟨f, rfl⟩ : ∃ f, fuel = f + 1 := ⟨fuel - 1, by omega⟩
    have c0 : ¬ (60 : Int32) ≤ nI t := nI_ge (b := 60) (by omega) (by omega)
    rw [z_X12_layAgain_b12]
    simp only [rB_6, b1_N, kB_N5, ck_N, lB_N5, i1, k1, h5, if_true, c0, if_false, h29]
    have h37 := b_again37 (J := J) (KK := z_X12_layAgain_b12 TB 0 f) hr (show t < 60 by omega) I hg h29 30 20000 1 (by omega) (by omega) (by omega) (fun d' q1 q2 => by omega)
    rcases h37 with ⟨e, hn⟩ | ⟨p, p1, p2, p3, p4, e⟩
    · have e' : z_X12_layAgain_b37 TB 0 (z_X12_layAgain_b12 TB 0 f) 20000 (I, J, rB) (nI r) (nI t) 1 = _ := e
      rw [e']
      refine ih f I (t + 1) (by omega) (by omega) hg h5 h29 h30 (fun t' q1 d q2 q3 => ?_)
      by_cases ct : t' = t
      · rw [ct] at q3 ⊢; exact hn d q2 q3
      · exact hno t' (by omega) d q2 q3
    · have e' : z_X12_layAgain_b37 TB 0 (z_X12_layAgain_b12 TB 0 f) 20000 (I, J, rB) (nI r) (nI t) 1 = _ := e
      rw [e']
      obtain ⟨f', rfl⟩ : ∃ f', f = f' + 1 := ⟨f - 1, by omega⟩
      have w29 : fh_up (fh_up I 0 29 (nI t)) 0 30 (nI p) 0 29 = nI t := by rw [up_k _ _ _ _ (by decide), up_s]
      have w5 : fh_up (fh_up I 0 29 (nI t)) 0 30 (nI p) 5 r = 0 := by rw [up_a _ _ _ _ (by decide), up_a _ _ _ _ (by decide)]; exact h5
      have wne : ¬ nI t = -1 := fun e => by
        have := congrArg Int32.toInt e
        rw [nI_toInt (by omega)] at this
        have h1 : (-1 : Int32).toInt = -1 := rfl
        omega
      refine ⟨fh_up (fh_up I 0 29 (nI t)) 0 30 (nI p), ?_, fun b j q => ?_, Or.inr ⟨t, p, w29, up_s _ _ _ _, p1, p2, p3, p4, hno⟩⟩
      · rw [z_X12_layAgain_b12]
        simp only [rB_6, b1_N, kB_N5, ck_N, lB_N5, i1, k1, w5, if_true, w29, wne, if_false, ite_self]
      · have q1 : ¬ (b = 0 ∧ j = 29) := fun z => q ⟨z.1, Or.inl z.2⟩
        have q2 : ¬ (b = 0 ∧ j = 30) := fun z => q ⟨z.1, Or.inr z.2⟩
        simp only [fh_up, q1, q2, if_false]
/-- both find the same -/
theorem ag_same {g : Nat → Int32} {b p T D : Nat} (h : agS g b p 31) (hD : 1 ≤ D) (hT : T + 2 * D ≤ 60) (hP : agP g T D) (hm : ∀ d, 1 ≤ d → d < D → ¬ agP g T d) (ht : ∀ t', t' < T → ∀ d, 1 ≤ d → t' + 2 * d ≤ 60 → ¬ agP g t' d) : p = D ∧ b = T := by
  have hD2 := (agT_ok (g := g) (d := D) (t := T) (by omega) (by omega)).mpr hP
  rcases h with ⟨h1, h2, h3⟩ | ⟨h1, h2, h3, h4, h5⟩
  · exact absurd (show agT g D + 2 * D ≤ 60 by omega) (h3 D hD (by omega))
  · obtain ⟨q1, q2⟩ := h5 D hD (by omega) (by omega)
    have hPb : agP g b p := (agT_ok (g := g) (d := p) (t := b) (by omega) (by omega)).mp (by omega)
    have hbT : b = T := by
      rcases Nat.lt_or_ge b T with z | z
      · exact absurd hPb (ht b z p h1 h4)
      · omega
    refine ⟨?_, hbT⟩
    have hpD : p ≤ D := q2 (by omega)
    rcases Nat.lt_or_ge p D with z | z
    · rw [hbT] at hPb; exact absurd hPb (hm p h1 z)
    · omega
theorem ag_none {g : Nat → Int32} {b p : Nat} (h : agS g b p 31) (hn : ∀ t' d, 1 ≤ d → t' + 2 * d ≤ 60 → ¬ agP g t' d) : p = 0 := by
  rcases h with ⟨h1, -, -⟩ | ⟨h1, h2, h3, h4, -⟩
  · exact h1
  · exact absurd ((agT_ok (g := g) (d := p) (t := b) (by omega) (by omega)).mp (by omega)) (hn b p h1 h4)
/-- what both answer: a place and how many, or none -/
def agR (v29 v30 w : Int32) : Prop := (v29 = -1 ∧ v30 = -1 ∧ w = -1) ∨ ∃ T D : Nat, v29 = nI T ∧ v30 = nI D ∧ w = nI (T * 64 + D) ∧ 1 ≤ D ∧ T + 2 * D ≤ 60
theorem agR_both {I I1 : Nat → Nat → Int32} {J J1 : Nat → Nat → Int64} {R1 : Nat → Nat → Option Nat} {P : Rcp} {r : Nat} (hR : RA R1) (hr : r < 10) (hA : rwA3 I1 (58 + 6 * r) P r) (hB : rwB3 I P r) : ∃ I' w, z_X11_comingAgain SA (I1, J1, R1) (58 + 6 * r) = some w ∧ z_X12_layAgain TB (I, J, rB) 0 (nI r) = some (I', J, rB) ∧ aF29 I I' ∧ agR (I' 0 29) (I' 0 30) w ∧ (rwS P r = 0 → rwL P r = 60) ∧ (¬ w = -1 → rwS P r = 0) := by
  have i1 : fh_in (nI r) 10 = true := in_n hr (by omega)
  have k1 : (nI r).toNatClampNeg = r := nI_clamp (by omega)
  obtain ⟨I0, eI0⟩ : ∃ z, z = fh_up (fh_up I 0 29 (-1)) 0 30 (-1) := ⟨_, rfl⟩
  have oo : aF29 I I0 := fun b j q => by
    have q1 : ¬ (b = 0 ∧ j = 29) := fun z => q ⟨z.1, Or.inl z.2⟩
    have q2 : ¬ (b = 0 ∧ j = 30) := fun z => q ⟨z.1, Or.inr z.2⟩
    rw [eI0]
    simp only [fh_up, q1, q2, if_false]
  have z29 : I0 0 29 = -1 := by rw [eI0, up_k _ _ _ _ (by decide), up_s]
  have z30 : I0 0 30 = -1 := by rw [eI0, up_s]
  have z5 : I0 5 r = rwS P r := by rw [oo _ _ (by omega)]; exact hB.2.2
  have eL : ∀ {w : Option fh_H}, z_X12_layAgain_b12 TB 0 20000 (I0, J, rB) (nI r) 0 = w → z_X12_layAgain TB (I, J, rB) 0 (nI r) = w := fun h => by
    unfold z_X12_layAgain
    rw [let_N, let_N, sI_N, sI_N, ← eI0]; exact h
  by_cases h0 : rwS P r = 0
  · have h60 := rw_cut h0
    obtain ⟨b, p, eA, hS⟩ := a_coming (J := J1) (g := rwG P r) hR (rwA_r hr) (fun j hj => hA.2.1 j (by omega)) (hA.2.2.trans h0)
    obtain ⟨I', eB, o, hB'⟩ := b_again12 (J := J) (g := rwG P r) hr 60 20000 I0 0 (by omega) (by omega) (fun j hj => by rw [oo _ _ (by omega)]; exact hB.2.1 j (by omega)) (z5.trans h0) z29 z30 (fun t' h => by omega)
    refine ⟨I', _, eA, eL eB, fun b j q => (o b j q).trans (oo b j q), ?_, fun _ => h60, fun _ => h0⟩
    rcases hB' with ⟨q1, q2, q3⟩ | ⟨T, D, q1, q2, q3, q4, q5, q6, q7⟩
    · rw [if_pos (ag_none hS q3)]
      exact Or.inl ⟨q1, q2, rfl⟩
    · obtain ⟨rfl, rfl⟩ := ag_same hS q3 q4 q5 q6 q7
      rw [if_neg (by omega)]
      exact Or.inr ⟨b, p, q1, q2, rfl, q3, q4⟩
  · refine ⟨I0, -1, ?_, eL ?_, oo, Or.inl ⟨z29, z30, rfl⟩, fun h => absurd h h0, fun h => absurd rfl h⟩
    · unfold z_X11_comingAgain
      simp only [hA.2.2, h0, if_false]
    · rw [z_X12_layAgain_b12]
      simp only [rB_6, b1_N, kB_N5, ck_N, lB_N5, i1, k1, z5, h0, if_false]
theorem pair_0 {T D : Nat} (hT : T ≤ 60) (hD : D ≤ 60) : nI (T * 64 + D) / 64 = nI T ∧ nI (T * 64 + D) - nI (T * 64 + D) / 64 * 64 = nI D ∧ ¬ nI (T * 64 + D) = -1 := by
  refine ⟨?_, ?_, fun e => ?_⟩
  · rw [show (64 : Int32) = nI 64 from rfl, pk_div (by omega) (by omega) (by omega)]
    congr 1; omega
  · rw [show (64 : Int32) = nI 64 from rfl, pk_rem (by omega) (by omega) (by omega)]
    congr 1; omega
  · have := congrArg Int32.toInt e
    rw [nI_toInt (by omega)] at this
    have h1 : (-1 : Int32).toInt = -1 := rfl
    omega
theorem agR_part {v29 v30 w : Int32} (h : agR v29 v30 w) : z_X11_partOfPair w 0 = some v29 ∧ z_X11_partOfPair w 1 = some v30 := by
  unfold z_X11_partOfPair
  rcases h with ⟨h1, h2, h3⟩ | ⟨T, D, h1, h2, h3, h4, h5⟩
  · rw [h1, h2, h3]; exact ⟨rfl, rfl⟩
  · obtain ⟨q1, q2, q3⟩ := pair_0 (T := T) (D := D) (by omega) (by omega)
    rw [h3, if_neg q3, if_neg q3, if_pos rfl, if_neg one0, q2, q1, h1, h2]
    exact ⟨rfl, rfl⟩
theorem aF29_kp {I I' : Nat → Nat → Int32} (o : aF29 I I') : ∀ b j, kpB b j → I' b j = I b j := fun b j q => o b j (fun z => by unfold kpB at q; omega)
theorem op_again {h h2 : fh_H} (i : Inv h h2) (x1 x2 : Int32) : opx none (some 1) (z_X11_again SA h 0 x1 x2) (z_X12_again TB h2 0 x1 x2) := by
  obtain ⟨I, J, R, I', J', n, P, t, b, fp, s, c, rfl, rfl, ok, hA, hB⟩ := i.cases
  have hB0 := invB_3 hB 0
  unfold z_X11_again z_X12_again
  rw [let_N, sI_N]
  by_cases hx : ∃ r : Nat, r < 10 ∧ x1 = nI r
  · obtain ⟨r, hr, rfl⟩ := hx
    obtain ⟨I1, J1, R1, e, iA, hf, -⟩ := a_set (J := J) hr hA
    have rA := rw_A hr iA (hf r (Nat.le_refl _))
    have wB := rw_B hr hB0
    obtain ⟨I2, w, eA, eB, o, hR, -, -⟩ := agR_both (J := J') (J1 := J1) iA.1 hr rA wB
    obtain ⟨p0, p1⟩ := agR_part hR
    have i3 : I2 0 3 = 0 := by rw [o _ _ (by omega)]; exact up_s _ _ _ _
    have fin : ∀ v : Int32, opx none (some 1) (some (Sum.inr v, (I1, J1, R1))) (some (v, (I2, J', rB))) := fun v => opx_r (Inv.mk ok iA (invB_keep hB0 (aF29_kp o))) rfl rfl i3
    rw [e, bx_Nr, b1_N, (rwA_k (rwA_r hr)).1, ck_N, eA, b1_N, b_isRow hr, b1_N, if_neg one0]
    by_cases hw : ∃ w, w ≤ 1 ∧ x2 = nI w
    · have q2 : z_X12_isIn x2.toInt64 0 1 = some 1 := b_in1 (N := 1) (by omega) hw
      rw [q2, b1_N, if_neg one0, eB, b1_N]
      have hw' : x2 = 0 ∨ x2 = 1 := by
        obtain ⟨w, hw, e⟩ := hw
        rcases (by omega : w = 0 ∨ w = 1) with rfl | rfl
        · exact Or.inl e
        · exact Or.inr e
      rcases hw' with rfl | rfl
      · rw [if_pos rfl, if_pos rfl, p0, b1_N]; exact fin _
      · rw [if_neg one0, if_pos rfl, if_neg one0, p1, b1_N]; exact fin _
    · have q2 : z_X12_isIn x2.toInt64 0 1 = some 0 := b_in0 (N := 1) (by omega) hw
      have w0 : ¬ x2 = 0 := fun e => hw ⟨0, by omega, e⟩
      have w1 : ¬ x2 = 1 := fun e => hw ⟨1, by omega, e⟩
      rw [if_neg w0, if_neg w1, q2, b1_N, if_pos rfl, b_fail, b2_N]
      exact opx_l1 (Inv.mk ok iA (invB_3 hB 1)) rfl rfl u3
  · rw [sett_no hA hx, bx_Nl, b_isRow_no hx, b1_N, if_pos rfl, b_fail, b2_N]
    exact opx_l1 (Inv.mk ok hA (invB_3 hB 1)) rfl rfl u3
