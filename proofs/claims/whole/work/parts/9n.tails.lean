/-! tails alike -/
def tp (g g' : Nat → Int32) (k l : Nat) : Prop := ∀ i, i + max k l < 60 → g (k + i) = g' (l + i)
def st0 (s : Int) : Nat := if s ≤ 0 then (60 + s).toNat else 60
def tK (g g' : Nat → Int32) (s : Int) : Nat := afr g g' s (st0 s)
def tL (g g' : Nat → Int32) (s : Int) : Nat := (((tK g g' s : Nat) : Int) - s).toNat
theorem st0_v {s : Int} (hs : -40 ≤ s ∧ s ≤ 40) : (s ≤ 0 → ((st0 s : Nat) : Int) = 60 + s) ∧ (¬ s ≤ 0 → st0 s = 60) := by
  unfold st0
  constructor
  · intro h; rw [if_pos h]; omega
  · intro h; rw [if_neg h]
theorem tK_s {g g' : Nat → Int32} {s : Int} (hs : -40 ≤ s ∧ s ≤ 40) : s ≤ ((tK g g' s : Nat) : Int) ∧ tK g g' s ≤ st0 s ∧ tK g g' s ≤ 60 := by
  have h1 : tK g g' s ≤ st0 s := afr_le g g' s (st0 s)
  have h2 := st0_v hs
  refine ⟨afr_s g g' s (st0 s) ?_, h1, ?_⟩
  · by_cases c : s ≤ 0
    · have := h2.1 c; omega
    · have := h2.2 c; omega
  · by_cases c : s ≤ 0
    · have := h2.1 c; omega
    · have := h2.2 c; omega
theorem tK_tp {g g' : Nat → Int32} {s : Int} (hs : -40 ≤ s ∧ s ≤ 40) : tp g g' (tK g g' s) (tL g g' s) := by
  intro i hi
  obtain ⟨k1, k2, k3⟩ := tK_s (g := g) (g' := g') hs
  have h2 := st0_v hs
  have eL : ((tL g g' s : Nat) : Int) = ((tK g g' s : Nat) : Int) - s := by unfold tL; omega
  have e := afr_eq g g' s (st0 s) (tK g g' s + i) (Nat.le_add_right _ _) (by
    by_cases c : s ≤ 0
    · have := h2.1 c; omega
    · have := h2.2 c; omega)
  rw [e]
  congr 1
  omega
theorem tp_tK {g g' : Nat → Int32} {k l : Nat} (hk : k ≤ 40) (hl : l ≤ 40) (h : tp g g' k l) : tK g g' ((k : Int) - (l : Int)) ≤ k := by
  have hs : -40 ≤ (k : Int) - (l : Int) ∧ (k : Int) - (l : Int) ≤ 40 := by omega
  have h2 := st0_v hs
  unfold tK
  refine afr_min g g' _ (by omega) _ (fun j j1 j2 => ?_) ?_
  · have := h (j - k) (by
      by_cases c : (k : Int) - (l : Int) ≤ 0
      · have := h2.1 c; omega
      · have := h2.2 c; omega)
    rw [show k + (j - k) = j by omega] at this
    rw [this]
    congr 1
    omega
  · by_cases c : (k : Int) - (l : Int) ≤ 0
    · have := h2.1 c; omega
    · have := h2.2 c; omega
def tlS (g g' : Nat → Int32) (best : Int32) (tog : Nat) (S : Int) : Prop :=
  (best = -1 ∧ tog = 81 ∧ ∀ s, -40 ≤ s → s < S → ¬ (tK g g' s ≤ 40 ∧ tL g g' s ≤ 40)) ∨
  ∃ s0 : Int, -40 ≤ s0 ∧ s0 < S ∧ tK g g' s0 ≤ 40 ∧ tL g g' s0 ≤ 40 ∧ tog = tK g g' s0 + tL g g' s0 ∧ best = nI (tK g g' s0 * 64 + tL g g' s0) ∧ ∀ s, -40 ≤ s → s < S → tK g g' s ≤ 40 → tL g g' s ≤ 40 → tog < tK g g' s + tL g g' s ∨ (tog = tK g g' s + tL g g' s ∧ tK g g' s0 ≤ tK g g' s)
theorem i32_add' {a b : Int32} {x y : Int} (ha : a.toInt = x) (hb : b.toInt = y) (h1 : -2147483648 ≤ x + y) (h2 : x + y ≤ 2147483647) : (a + b).toInt = x + y := by
  rw [Int32.toInt_add, ha, hb]
  exact Int.bmod_eq_of_le (by omega) (by omega)
theorem a_tails32 {I : Nat → Nat → Int32} {J : Nat → Nat → Int64} {R : Nat → Nat → Option Nat} {g g' : Nat → Int32} {a a' : Nat} (hR : RA R) (ha : rwA a) (ha' : rwA a') (hg : ∀ j, j < 60 → I (a + 1) j = g j) (hg' : ∀ j, j < 60 → I (a' + 1) j = g' j) : ∀ (m fuel : Nat) (best : Int32) (tog : Nat) (y5 : Int32) (S : Int), m < fuel → S + m = 41 → -40 ≤ S → y5.toInt = S → tlS g g' best tog S →
    ∃ best' tog', z_X11_tailsAlike_b32 SA fuel (I, J, R) a a' 40 best (nI tog) y5 = some best' ∧ tlS g g' best' tog' 41 := by
  have k6 := (rwA_k ha).1
  have k6' := (rwA_k ha').1
  have t40 : (40 : Int32).toInt = 40 := rfl
  intro m
  induction m with
  | zero =>
    intro fuel best tog y5 S hf hm hS hy h
    obtain ⟨f, rfl⟩ : ∃ f, fuel = f + 1 := ⟨fuel - 1, by omega⟩
    obtain rfl : S = 41 := by omega
    refine ⟨best, tog, ?_, h⟩
    rw [z_X11_tailsAlike_b32, if_pos (show (40 : Int32) < y5 from by rw [Int32.lt_iff_toInt_lt, t40, hy]; omega)]
  | succ m ih =>
    intro fuel best tog y5 S hf hm hS hy h
    obtain ⟨f, rfl⟩ : ∃ f, fuel = f + 1 := ⟨fuel - 1, by omega⟩
    have hs : -40 ≤ S ∧ S ≤ 40 := by omega
    obtain ⟨k1, k2, k3⟩ := tK_s (g := g) (g' := g') hs
    have eL : ((tL g g' S : Nat) : Int) = ((tK g g' S : Nat) : Int) - S := by unfold tL; omega
    have hL : tL g g' S ≤ 100 := by omega
    have htog : tog ≤ 81 := by rcases h with ⟨-, h2, -⟩ | ⟨s0, -, -, q1, q2, q3, -, -⟩ <;> omega
    have eF : z_X11_alikeFrom SA (I, J, R) a a' y5 = some (nI (tK g g' S)) := a_alikeFrom (J := J) hR ha ha' hg hg' hy (by omega)
    have eV : nI (tK g g' S) - y5 = nI (tL g g' S) := i32_n0 (i32_sub (nI_toInt (by omega)) hy (by omega) (by omega)) (by omega)
    have y1 : (y5 + 1).toInt = S + 1 := i32_add' hy rfl (by omega) (by omega)
    have keep : tlS g g' best tog (S + 1) → ∃ best' tog', z_X11_tailsAlike_b32 SA f (I, J, R) a a' 40 best (nI tog) (y5 + 1) = some best' ∧ tlS g g' best' tog' 41 := fun q => ih f best tog (y5 + 1) (S + 1) (by omega) (by omega) (by omega) y1 q
    have kold : (tK g g' S ≤ 40 → tL g g' S ≤ 40 → ∃ s0 : Int, -40 ≤ s0 ∧ s0 < S ∧ tK g g' s0 ≤ 40 ∧ tL g g' s0 ≤ 40 ∧ tog = tK g g' s0 + tL g g' s0 ∧ best = nI (tK g g' s0 * 64 + tL g g' s0) ∧ (tog < tK g g' S + tL g g' S ∨ (tog = tK g g' S + tL g g' S ∧ tK g g' s0 ≤ tK g g' S))) → tlS g g' best tog (S + 1) := fun q => by
      rcases h with ⟨h1, h2, h3⟩ | ⟨s0, h1, h2, h3, h4, h5, h6, h7⟩
      · refine Or.inl ⟨h1, h2, fun s q1 q2 q3 => ?_⟩
        by_cases cs : s = S
        · rw [cs] at q3
          obtain ⟨s0, -, -, w1, w2, w3, w4, -⟩ := q q3.1 q3.2
          omega
        · exact h3 s q1 (by omega) q3
      · refine Or.inr ⟨s0, h1, by omega, h3, h4, h5, h6, fun s q1 q2 q3 q4 => ?_⟩
        by_cases cs : s = S
        · rw [cs] at q3 q4 ⊢
          obtain ⟨s1, w1, w2, w3, w4, w5, w6, w7⟩ := q q3 q4
          rcases w7 with w7 | ⟨w7, w8⟩
          · exact Or.inl w7
          · have e6 : nI (tK g g' s0 * 64 + tL g g' s0) = nI (tK g g' s1 * 64 + tL g g' s1) := by rw [← h6, ← w6]
            rw [nI_eq (by omega) (by omega)] at e6
            exact Or.inr ⟨w7, by omega⟩
        · exact h7 s q1 (by omega) q3 q4
    have new : tK g g' S ≤ 40 → tL g g' S ≤ 40 → (tK g g' S + tL g g' S < tog ∨ (tK g g' S + tL g g' S = tog ∧ ∀ s0 : Int, best = nI (tK g g' s0 * 64 + tL g g' s0) → tK g g' s0 ≤ 40 → tL g g' s0 ≤ 40 → tK g g' S < tK g g' s0)) → tlS g g' (nI (tK g g' S * 64 + tL g g' S)) (tK g g' S + tL g g' S) (S + 1) := fun q1 q2 q3 => by
      refine Or.inr ⟨S, hS, by omega, q1, q2, rfl, rfl, fun s w1 w2 w3 w4 => ?_⟩
      by_cases cs : s = S
      · rw [cs]; exact Or.inr ⟨rfl, Nat.le_refl _⟩
      · rcases h with ⟨h1, h2, h3⟩ | ⟨s0, h1, h2, h3, h4, h5, h6, h7⟩
        · exact absurd ⟨w3, w4⟩ (h3 s w1 (by omega))
        · have := h7 s w1 (by omega) w3 w4
          rcases q3 with q3 | ⟨q3, q4⟩
          · left; omega
          · have := q4 s0 h6 h3 h4
            omega
    rw [z_X11_tailsAlike_b32, if_neg (show ¬ (40 : Int32) < y5 from by rw [Int32.lt_iff_toInt_lt, t40, hy]; omega), k6, ck_N, k6', ck_N, eF, b1_N, eV, let_N]
    simp only [let_N]
    by_cases c1 : tK g g' S ≤ 40
    · rw [if_neg (show ¬ (40 : Int32) < nI (tK g g' S) from nI_nlt (a := 40) c1 (by omega))]
      by_cases c2 : tL g g' S ≤ 40
      · rw [if_neg (show ¬ (40 : Int32) < nI (tL g g' S) from nI_nlt (a := 40) c2 (by omega)), nI_add, show (64 : Int32) = nI 64 from rfl, nI_mul, nI_add]
        by_cases c3 : tK g g' S + tL g g' S < tog
        · rw [if_neg (nI_ge c3 (by omega))]
          exact ih f _ _ (y5 + 1) (S + 1) (by omega) (by omega) (by omega) y1 (new c1 c2 (Or.inl c3))
        · rw [if_pos (nI_le (by omega) (by omega))]
          refine keep (kold (fun _ _ => ?_))
          rcases h with ⟨h1, h2, h3⟩ | ⟨s0, h1, h2, h3, h4, h5, h6, h7⟩
          · omega
          · have hs0 := (tK_s (g := g) (g' := g') (s := s0) ⟨h1, by omega⟩).1
            have eL0 : ((tL g g' s0 : Nat) : Int) = ((tK g g' s0 : Nat) : Int) - s0 := by unfold tL; omega
            exact ⟨s0, h1, h2, h3, h4, h5, h6, by omega⟩
      · rw [if_pos (show (40 : Int32) < nI (tL g g' S) from nI_lt (a := 40) (by omega) (by omega))]
        exact keep (kold (fun _ q2 => absurd q2 c2))
    · rw [if_pos (show (40 : Int32) < nI (tK g g' S) from nI_lt (a := 40) (by omega) (by omega))]
      exact keep (kold (fun q1 _ => absurd q1 c1))
theorem b_tails3 {I : Nat → Nat → Int32} {J : Nat → Nat → Int64} {g g' : Nat → Int32} {r r' k l : Nat} (hr : r < 10) (hr' : r' < 10) (hg : ∀ j, j < 60 → I 3 (60 * r + j) = g j) (hg' : ∀ j, j < 60 → I 3 (60 * r' + j) = g' j) (hk : k ≤ 40) (hl : l ≤ 40) : ∀ (m fuel i : Nat), m < fuel → i + m + max k l = 60 → ((∀ j, i ≤ j → j + max k l < 60 → g (k + j) = g' (l + j)) → z_X12_areTails_b3 TB 0 fuel (I, J, rB) (nI r) (nI k) (nI r') (nI l) (nI i) = some 1) ∧ (¬ (∀ j, i ≤ j → j + max k l < 60 → g (k + j) = g' (l + j)) → z_X12_areTails_b3 TB 0 fuel (I, J, rB) (nI r) (nI k) (nI r') (nI l) (nI i) = some 0) := by
  have em : z_J9_max_7cf53 (nI k) (nI l) = some (nI (max k l)) := by
    unfold z_J9_max_7cf53
    by_cases c : k < l
    · rw [if_pos (nI_lt c (by omega)), show max k l = l by omega]
    · rw [if_neg (nI_nlt (by omega) (by omega)), show max k l = k by omega]
  intro m
  induction m with
  | zero =>
    intro fuel i hf hm
    obtain ⟨f, rfl⟩ : ∃ f, fuel = f + 1 := ⟨fuel - 1, by omega⟩
    have e : z_X12_areTails_b3 TB 0 (f + 1) (I, J, rB) (nI r) (nI k) (nI r') (nI l) (nI i) = some 1 := by
      rw [z_X12_areTails_b3, em, b1_N, nI_add, if_pos (show (60 : Int32) ≤ nI (i + max k l) from nI_le (a := 60) (by omega) (by omega))]
    exact ⟨fun _ => e, fun h => absurd (fun j h1 h2 => by omega) h⟩
  | succ m ih =>
    intro fuel i hf hm
    obtain ⟨f, rfl⟩ : ∃ f, fuel = f + 1 := ⟨fuel - 1, by omega⟩
    have e : z_X12_areTails_b3 TB 0 (f + 1) (I, J, rB) (nI r) (nI k) (nI r') (nI l) (nI i) = if g (k + i) = g' (l + i) then z_X12_areTails_b3 TB 0 f (I, J, rB) (nI r) (nI k) (nI r') (nI l) (nI (i + 1)) else some 0 := by
      rw [z_X12_areTails_b3, em, b1_N, nI_add, if_neg (show ¬ (60 : Int32) ≤ nI (i + max k l) from nI_ge (b := 60) (by omega) (by omega)), nI_add, b_termOf hr (show k + i < 60 by omega), b1_N, nI_add, b_termOf hr' (show l + i < 60 by omega), b1_N, hg (k + i) (by omega), hg' (l + i) (by omega), let_N, nI_1]
    rw [e]
    by_cases c : g (k + i) = g' (l + i)
    · rw [if_pos c]
      obtain ⟨h1, h2⟩ := ih f (i + 1) (by omega) (by omega)
      refine ⟨fun h => h1 (fun j q1 q2 => h j (by omega) q2), fun h => h2 (fun h' => h (fun j q1 q2 => ?_))⟩
      by_cases cj : j = i
      · rw [cj]; exact c
      · exact h' j (by omega) q2
    · rw [if_neg c]
      exact ⟨fun h => absurd (h i (Nat.le_refl _) (by omega)) c, fun _ => rfl⟩
theorem b_tails {I : Nat → Nat → Int32} {J : Nat → Nat → Int64} {g g' : Nat → Int32} {r r' k l : Nat} (hr : r < 10) (hr' : r' < 10) (hg : ∀ j, j < 60 → I 3 (60 * r + j) = g j) (hg' : ∀ j, j < 60 → I 3 (60 * r' + j) = g' j) (hk : k ≤ 40) (hl : l ≤ 40) : (tp g g' k l → z_X12_areTails TB (I, J, rB) 0 (nI r) (nI k) (nI r') (nI l) = some 1) ∧ (¬ tp g g' k l → z_X12_areTails TB (I, J, rB) 0 (nI r) (nI k) (nI r') (nI l) = some 0) := by
  obtain ⟨h1, h2⟩ := b_tails3 (J := J) hr hr' hg hg' hk hl (60 - max k l) 20000 0 (by omega) (by omega)
  exact ⟨fun h => h1 (fun j _ q => h j q), fun h => h2 (fun q => h (fun j z => q j (Nat.zero_le _) z))⟩
theorem b_tails82 {I : Nat → Nat → Int32} {J : Nat → Nat → Int64} {g g' : Nat → Int32} {r r' both : Nat} {x3 : Int32} {KK : fh_H → Int32 → Int32 → Int32 → Int32 → Int32 → Option (Int32 × fh_H)} (hr : r < 10) (hr' : r' < 10) (hg : ∀ j, j < 60 → I 3 (60 * r + j) = g j) (hg' : ∀ j, j < 60 → I 3 (60 * r' + j) = g' j) (hb : both ≤ 80) : ∀ (m fuel k : Nat), m < fuel → k + m = min both 40 + 1 → both ≤ k + 40 → (∀ k' l', k' + l' = both → k' ≤ 40 → l' ≤ 40 → k' < k → ¬ tp g g' k' l') →
    (z_X12_tails_b82 TB 0 KK fuel (I, J, rB) (nI r) (nI r') x3 40 (nI both) (nI k) = KK (I, J, rB) (nI r) (nI r') x3 40 (nI (both + 1)) ∧ ∀ k' l', k' + l' = both → k' ≤ 40 → l' ≤ 40 → ¬ tp g g' k' l') ∨
    ∃ k0 l0, k0 + l0 = both ∧ k0 ≤ 40 ∧ l0 ≤ 40 ∧ tp g g' k0 l0 ∧ (∀ k' l', k' + l' = both → k' ≤ 40 → l' ≤ 40 → k' < k0 → ¬ tp g g' k' l') ∧ z_X12_tails_b82 TB 0 KK fuel (I, J, rB) (nI r) (nI r') x3 40 (nI both) (nI k) = some (if x3 = 0 then nI k0 else nI l0, (I, J, rB)) := by
  intro m
  induction m with
  | zero =>
    intro fuel k hf hm hk hno
    obtain ⟨f, rfl⟩ : ∃ f, fuel = f + 1 := ⟨fuel - 1, by omega⟩
    refine Or.inl ⟨?_, fun k' l' q1 q2 q3 => hno k' l' q1 q2 q3 (by omega)⟩
    rw [z_X12_tails_b82, let_N, nI_1]
    by_cases c : both < k
    · rw [if_pos (nI_lt c (by omega))]
    · rw [if_neg (nI_nlt (by omega) (by omega)), if_pos (show (40 : Int32) < nI k from nI_lt (a := 40) (by omega) (by omega))]
  | succ m ih =>
    intro fuel k hf hm hk hno
    obtain ⟨f, rfl⟩ : ∃ f, fuel = f + 1 := ⟨fuel - 1, by omega⟩
    obtain ⟨t1, t2⟩ := b_tails (J := J) hr hr' hg hg' (show k ≤ 40 by omega) (show both - k ≤ 40 by omega)
    rw [z_X12_tails_b82, if_neg (nI_nlt (by omega) (by omega)), if_neg (show ¬ (40 : Int32) < nI k from nI_nlt (a := 40) (by omega) (by omega)), nI_subn (show k ≤ both by omega)]
    by_cases c : tp g g' k (both - k)
    · refine Or.inr ⟨k, both - k, by omega, by omega, by omega, c, hno, ?_⟩
      rw [t1 c, b1_N, if_neg one0]
      by_cases c3 : x3 = 0
      · rw [if_pos c3, if_pos c3]
      · rw [if_neg c3, if_neg c3]
    · rw [t2 c, b1_N, if_pos rfl, let_N, nI_1]
      refine ih f (k + 1) (by omega) (by omega) (by omega) (fun k' l' q1 q2 q3 q4 => ?_)
      by_cases ck : k' = k
      · rw [ck, show l' = both - k by omega]; exact c
      · exact hno k' l' q1 q2 q3 (by omega)
theorem b_tails62 {I : Nat → Nat → Int32} {J : Nat → Nat → Int64} {g g' : Nat → Int32} {r r' : Nat} {x3 : Int32} (hr : r < 10) (hr' : r' < 10) (hg : ∀ j, j < 60 → I 3 (60 * r + j) = g j) (hg' : ∀ j, j < 60 → I 3 (60 * r' + j) = g' j) : ∀ (m fuel both : Nat), m < fuel → both + m = 81 → (∀ k l, k + l < both → k ≤ 40 → l ≤ 40 → ¬ tp g g' k l) →
    (z_X12_tails_b62 TB 0 fuel (I, J, rB) (nI r) (nI r') x3 40 (nI both) = some (-1, (I, J, rB)) ∧ ∀ k l, k ≤ 40 → l ≤ 40 → ¬ tp g g' k l) ∨
    ∃ k0 l0, k0 ≤ 40 ∧ l0 ≤ 40 ∧ tp g g' k0 l0 ∧ (∀ k l, k ≤ 40 → l ≤ 40 → (k + l < k0 + l0 ∨ (k + l = k0 + l0 ∧ k < k0)) → ¬ tp g g' k l) ∧ z_X12_tails_b62 TB 0 fuel (I, J, rB) (nI r) (nI r') x3 40 (nI both) = some (if x3 = 0 then nI k0 else nI l0, (I, J, rB)) := by
  intro m
  induction m with
  | zero =>
    intro fuel both hf hm hno
    obtain ⟨f, rfl⟩ : ∃ f, fuel = f + 1 := ⟨fuel - 1, by omega⟩
    obtain rfl : both = 81 := by omega
    exact Or.inl ⟨by rw [z_X12_tails_b62, if_pos (by decide)], fun k l q1 q2 => hno k l (by omega) q1 q2⟩
  | succ m ih =>
    intro fuel both hf hm hno
    obtain ⟨f, rfl⟩ : ∃ f, fuel = f + 1 := ⟨fuel - 1, by omega⟩
    have em : z_J9_max_7cf53 0 (nI both - 40) = some (nI (both - 40)) := by
      unfold z_J9_max_7cf53
      have t := i32_sub (a := nI both) (b := 40) (nI_toInt (by omega)) (show (40 : Int32).toInt = 40 from rfl) (by omega) (by omega)
      have z : (0 : Int32).toInt = 0 := rfl
      by_cases c : 40 < both
      · rw [if_pos (by rw [Int32.lt_iff_toInt_lt, t, z]; omega), show nI both - 40 = nI (both - 40) from nI_subn (b := 40) (by omega)]
      · rw [if_neg (by rw [Int32.lt_iff_toInt_lt, t, z]; omega), show both - 40 = 0 by omega]; rfl
    have h82 := b_tails82 (J := J) (x3 := x3) (KK := z_X12_tails_b62 TB 0 f) hr hr' hg hg' (show both ≤ 80 by omega) (min both 40 + 1 - (both - 40)) 20000 (both - 40) (by omega) (by omega) (by omega) (fun k' l' q1 q2 q3 q4 => by omega)
    rw [z_X12_tails_b62, if_neg (show ¬ (2 : Int32) * 40 < nI both from nI_nlt (a := 80) (by omega) (by omega)), em, b1_N]
    rcases h82 with ⟨e, hn⟩ | ⟨k0, l0, q1, q2, q3, q4, q5, e⟩
    · rw [e]
      refine ih f (both + 1) (by omega) (by omega) (fun k l w1 w2 w3 => ?_)
      by_cases c : k + l = both
      · exact hn k l c w2 w3
      · exact hno k l (by omega) w2 w3
    · rw [e]
      refine Or.inr ⟨k0, l0, q2, q3, q4, fun k l w1 w2 w3 => ?_, rfl⟩
      rcases w3 with w3 | ⟨w3, w4⟩
      · exact hno k l (by omega) w1 w2
      · exact q5 k l (by omega) w1 w2 w4
/-- both find the same -/
theorem tl_same {g g' : Nat → Int32} {best : Int32} {tog k0 l0 : Nat} (h : tlS g g' best tog 41) (hk : k0 ≤ 40) (hl : l0 ≤ 40) (hp : tp g g' k0 l0) (hm : ∀ k l, k ≤ 40 → l ≤ 40 → (k + l < k0 + l0 ∨ (k + l = k0 + l0 ∧ k < k0)) → ¬ tp g g' k l) : best = nI (k0 * 64 + l0) := by
  have h1 := tp_tK hk hl hp
  have hs : -40 ≤ (k0 : Int) - (l0 : Int) ∧ (k0 : Int) - (l0 : Int) ≤ 40 := by omega
  obtain ⟨k1, k2, k3⟩ := tK_s (g := g) (g' := g') hs
  have eL : ((tL g g' ((k0 : Int) - (l0 : Int)) : Nat) : Int) = ((tK g g' ((k0 : Int) - (l0 : Int)) : Nat) : Int) - ((k0 : Int) - (l0 : Int)) := by unfold tL; omega
  rcases h with ⟨q1, q2, q3⟩ | ⟨s0, q1, q2, q3, q4, q5, q6, q7⟩
  · exact absurd ⟨by omega, by omega⟩ (q3 _ hs.1 (by omega))
  · have w := q7 ((k0 : Int) - (l0 : Int)) hs.1 (by omega) (by omega) (by omega)
    have p0 := tK_tp (g := g) (g' := g') (s := s0) ⟨q1, by omega⟩
    have n1 : ¬ (tK g g' s0 + tL g g' s0 < k0 + l0 ∨ (tK g g' s0 + tL g g' s0 = k0 + l0 ∧ tK g g' s0 < k0)) := fun z => hm _ _ q3 q4 z p0
    rw [q6]
    congr 1
    omega
theorem tl_none {g g' : Nat → Int32} {best : Int32} {tog : Nat} (h : tlS g g' best tog 41) (hn : ∀ k l, k ≤ 40 → l ≤ 40 → ¬ tp g g' k l) : best = -1 := by
  rcases h with ⟨q1, -, -⟩ | ⟨s0, q1, q2, q3, q4, -⟩
  · exact q1
  · exact absurd (tK_tp (g := g) (g' := g') (s := s0) ⟨q1, by omega⟩) (hn _ _ q3 q4)
theorem op_tails {h h2 : fh_H} (i : Inv h h2) (x1 x2 x3 : Int32) : opx none (some 1) (z_X11_tails SA h 0 x1 x2 x3) (z_X12_tails TB h2 0 x1 x2 x3) := by
  obtain ⟨I, J, R, I', J', n, P, t, b, fp, s, c, rfl, rfl, ok, hA, hB⟩ := i.cases
  have hB0 := invB_3 hB 0
  unfold z_X11_tails z_X12_tails
  rw [let_N, sI_N]
  by_cases hx : ∃ r : Nat, r < 10 ∧ x1 = nI r
  · obtain ⟨r, hr, rfl⟩ := hx
    obtain ⟨I1, J1, R1, e, iA, hf, -⟩ := a_set (J := J) hr hA
    rw [e, bx_Nr, b1_N, b_isRow hr, b1_N, if_neg one0]
    by_cases hx2 : ∃ r : Nat, r < 10 ∧ x2 = nI r
    · obtain ⟨r2, hr2, rfl⟩ := hx2
      obtain ⟨I2, J2, R2, e2, iA2, hf2, mono⟩ := a_set (J := J1) hr2 iA
      have rA := rw_A hr iA2 (mono r (hf r (Nat.le_refl _)))
      have rA2 := rw_A hr2 iA2 (hf2 r2 (Nat.le_refl _))
      have wB := rw_B hr hB0
      have wB2 := rw_B hr2 hB0
      have i1 : fh_in (nI r) 10 = true := in_n hr (by omega)
      have k1 : (nI r).toNatClampNeg = r := nI_clamp (by omega)
      have i2 : fh_in (nI r2) 10 = true := in_n hr2 (by omega)
      have k2 : (nI r2).toNatClampNeg = r2 := nI_clamp (by omega)
      have fin : ∀ v : Int32, opx none (some 1) (some (Sum.inr v, (I2, J2, R2))) (some (v, (fh_up I' 0 3 0, J', rB))) := fun v => opx_r (Inv.mk ok iA2 hB0) rfl rfl u3
      rw [e2, bx_Nr, b1_N, (rwA_k (rwA_r hr)).1, ck_N, (rwA_k (rwA_r hr2)).1, ck_N, b_isRow hr2, b1_N, if_neg one0]
      by_cases hw : ∃ w, w ≤ 1 ∧ x3 = nI w
      · have q2 : z_X12_isIn x3.toInt64 0 1 = some 1 := b_in1 (N := 1) (by omega) hw
        have hw' : x3 = 0 ∨ x3 = 1 := by
          obtain ⟨w, hw, e⟩ := hw
          rcases (by omega : w = 0 ∨ w = 1) with rfl | rfl
          · exact Or.inl e
          · exact Or.inr e
        have key : ∃ w v, z_X11_tailsAlike SA (I2, J2, R2) (58 + 6 * r) (58 + 6 * r2) = some w ∧ z_X11_partOfPair w x3 = some v ∧ (fh_b1 (rB 0 6) (fun j17 => fh_ck (fh_kq TB j17 13) (fh_ck (fh_in (nI r) (TB.2.2 j17)) (if (fh_up I' 0 3 0 j17 (Int32.toNatClampNeg (nI r))) = 0 then (fh_ck (fh_in (nI r2) (TB.2.2 j17)) (if (fh_up I' 0 3 0 j17 (Int32.toNatClampNeg (nI r2))) = 0 then (z_X12_tails_b62 TB 0 20000 (fh_up I' 0 3 0, J', rB) (nI r) (nI r2) x3 (40 : Int32) (0 : Int32)) else (some ((-1 : Int32), (fh_up I' 0 3 0, J', rB))))) else (some ((-1 : Int32), (fh_up I' 0 3 0, J', rB))))))) = some (v, (fh_up I' 0 3 0, J', rB)) := by
          have pn : z_X11_partOfPair (-1) x3 = some (-1) := by unfold z_X11_partOfPair; rw [if_pos rfl]
          by_cases s1 : rwS (P n) r = 0
          · by_cases s2 : rwS (P n) r2 = 0
            · have l1 := rw_cut s1
              have l2 := rw_cut s2
              obtain ⟨best, tog, eA, hS⟩ := a_tails32 (J := J2) iA2.1 (rwA_r hr) (rwA_r hr2) (fun j hj => rA.2.1 j (by omega)) (fun j hj => rA2.2.1 j (by omega)) 81 20000 (-1) 81 (-(40 : Int32)) (-40) (by omega) (by omega) (by omega) (by decide) (Or.inl ⟨rfl, rfl, fun s z1 z2 => by omega⟩)
              have eA' : z_X11_tailsAlike SA (I2, J2, R2) (58 + 6 * r) (58 + 6 * r2) = some best := by
                unfold z_X11_tailsAlike
                simp only [rA.2.2, rA2.2.2, s1, s2, if_true, let_N]
                exact eA
              have hB' := b_tails62 (I := fh_up I' 0 3 0) (J := J') (x3 := x3) hr hr2 (fun j hj => wB.2.1 j (by omega)) (fun j hj => wB2.2.1 j (by omega)) 81 20000 0 (by omega) (by omega) (fun k l z => by omega)
              refine ⟨best, ?_⟩
              simp only [rB_6, b1_N, kB_N5, ck_N, lB_N5, i1, k1, i2, k2, wB.2.2, wB2.2.2, s1, s2, if_true]
              rcases hB' with ⟨eB, hn⟩ | ⟨k0, l0, z1, z2, z3, z4, eB⟩
              · have := tl_none hS hn
                subst this
                exact ⟨-1, eA', pn, eB⟩
              · have := tl_same hS z1 z2 z3 z4
                subst this
                refine ⟨if x3 = 0 then nI k0 else nI l0, eA', ?_, eB⟩
                obtain ⟨p1, p2, p3⟩ := pair_0 (T := k0) (D := l0) (by omega) (by omega)
                unfold z_X11_partOfPair
                rw [if_neg p3, p2, p1]
                split <;> rfl
            · refine ⟨-1, -1, ?_, pn, ?_⟩
              · unfold z_X11_tailsAlike
                simp only [rA.2.2, rA2.2.2, s1, s2, if_true, if_false]
              · simp only [rB_6, b1_N, kB_N5, ck_N, lB_N5, i1, k1, i2, k2, wB.2.2, wB2.2.2, s1, s2, if_true, if_false]
          · refine ⟨-1, -1, ?_, pn, ?_⟩
            · unfold z_X11_tailsAlike
              simp only [rA.2.2, s1, if_false]
            · simp only [rB_6, b1_N, kB_N5, ck_N, lB_N5, i1, k1, wB.2.2, s1, if_false]
        obtain ⟨w, v, kA, kp, kB⟩ := key
        rw [q2, b1_N, if_neg one0]
        have kB' := kB
        simp only [kA, b1_N, kp]
        rcases hw' with hw' | hw'
        · rw [if_pos hw']
          rw [kB']; exact fin _
        · rw [if_neg (by rw [hw']; decide), if_pos hw']
          rw [kB']; exact fin _
      · have q2 : z_X12_isIn x3.toInt64 0 1 = some 0 := b_in0 (N := 1) (by omega) hw
        have w0 : ¬ x3 = 0 := fun e => hw ⟨0, by omega, e⟩
        have w1 : ¬ x3 = 1 := fun e => hw ⟨1, by omega, e⟩
        rw [if_neg w0, if_neg w1, q2, b1_N, if_pos rfl, b_fail, b2_N]
        exact opx_l1 (Inv.mk ok iA2 (invB_3 hB 1)) rfl rfl u3
    · rw [sett_no iA hx2, bx_Nl, b_isRow_no hx2, b1_N, if_pos rfl, b_fail, b2_N]
      exact opx_l1 (Inv.mk ok iA (invB_3 hB 1)) rfl rfl u3
  · rw [sett_no hA hx, bx_Nl, b_isRow_no hx, b1_N, if_pos rfl, b_fail, b2_N]
    exact opx_l1 (Inv.mk ok hA (invB_3 hB 1)) rfl rfl u3
