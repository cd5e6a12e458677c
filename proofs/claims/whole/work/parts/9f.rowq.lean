/-! what a row is asked for -/
/-- a row as both hold it: how many terms, the terms, how it stops, how much was read -/
def rwL (P : Rcp) (r : Nat) : Nat := (dd P r).1.length
def rwG (P : Rcp) (r k : Nat) : Int32 := (dsr (dd P r)).1.getD k 0
def rwS (P : Rcp) (r : Nat) : Int32 := (dd P r).2.1
def rwA3 (I : Nat → Nat → Int32) (a : Nat) (P : Rcp) (r : Nat) : Prop := I a 6 = nI (rwL P r) ∧ (∀ j, j < rwL P r → I (a + 1) j = rwG P r j) ∧ I a 7 = rwS P r
def rwB3 (I : Nat → Nat → Int32) (P : Rcp) (r : Nat) : Prop := I 4 r = nI (rwL P r) ∧ (∀ j, j < rwL P r → I 3 (60 * r + j) = rwG P r j) ∧ I 5 r = rwS P r
theorem rwL_le (P : Rcp) (r : Nat) : rwL P r ≤ 60 := dd_len P r
theorem rw_A {I : Nat → Nat → Int32} {R : Nat → Nat → Option Nat} {n : Nat} {P : Nat → Rcp} {t : Nat} {b : Nat → Nat} {fp : Int32} {s : Nat} {c : Nat → Int32} {r : Nat} (hr : r < 10) (h : invA I R n P t b fp s c) (h5 : I (58 + 6 * r) 5 = 0) : rwA3 I (58 + 6 * r) (P n) r := by
  obtain ⟨⟨q1, q2, q3⟩, -, -⟩ := a_fresh hr h h5
  rw [dsr_len] at q1
  exact ⟨q1, fun j hj => by have := q2 j (by rw [dsr_len]; exact hj); rw [Nat.zero_add] at this; exact this, q3⟩
theorem rw_B {I : Nat → Nat → Int32} {n : Nat} {P : Nat → Rcp} {t : Nat} {b : Nat → Nat} {fp : Int32} {s : Nat} {c : Nat → Int32} {r : Nat} (hr : r < 10) (h : invB I n P t b fp s c) : rwB3 I (P n) r := by
  obtain ⟨⟨q1, q2, q3⟩, -, -⟩ := h.1.2 r hr
  rw [dsr_len] at q1
  exact ⟨q1, fun j hj => q2 j (by rw [dsr_len]; exact hj), q3⟩
theorem a_kn1 {I : Nat → Nat → Int32} {J : Nat → Nat → Int64} {R : Nat → Nat → Option Nat} {a k N : Nat} (h6 : I a 6 = nI N) (hN : N ≤ 60) (hk : k < N) : z_X6_knows SA (I, J, R) a (nI k) = some 1 := by
  have c0 : ¬ nI k < 0 := nI_pos (by omega)
  have c1 : ¬ nI N ≤ nI k := nI_ge hk (by omega)
  unfold z_X6_knows
  simp only [h6, c0, c1, if_false]
theorem a_kn0 {I : Nat → Nat → Int32} {J : Nat → Nat → Int64} {R : Nat → Nat → Option Nat} {a N : Nat} {x : Int32} (h6 : I a 6 = nI N) (hN : N ≤ 60) (hx : ¬ ∃ k, k < N ∧ x = nI k) : z_X6_knows SA (I, J, R) a x = some 0 := by
  unfold z_X6_knows
  by_cases c0 : x < 0
  · rw [if_pos c0]
  · obtain ⟨j, hj, rfl⟩ := nI_of c0
    have c1 : nI N ≤ nI j := nI_le (Nat.not_lt.mp (fun q => hx ⟨j, q, rfl⟩)) (by omega)
    simp only [h6, c0, c1, if_false, if_true]
theorem a_tm {I : Nat → Nat → Int32} {J : Nat → Nat → Int64} {R : Nat → Nat → Option Nat} (hR : RA R) {a k : Nat} (ha : rwA a) (hk : k < 60) : z_X6_termAt SA (I, J, R) a (nI k) = some (I (a + 1) k) := by
  have c0 : ¬ nI k < 0 := nI_pos (by omega)
  have c1 : ¬ Int32.ofNat 60 ≤ nI k := nI_ge (b := 60) hk (by omega)
  have i1 : fh_in (nI k) 60 = true := in_n hk (by omega)
  have k1 : (nI k).toNatClampNeg = k := nI_clamp (by omega)
  unfold z_X6_termAt
  simp only [c0, if_false, (rA_arr hR ha).1, b1_N, (rwA_k ha).2.1, ck_N, (rwA_l ha).1, c1, i1, k1]
theorem b_kn1 {I : Nat → Nat → Int32} {J : Nat → Nat → Int64} {r k N : Nat} (hr : r < 10) (h4 : I 4 r = nI N) (hN : N ≤ 60) (hk : k < N) : z_X12_isKnown TB (I, J, rB) 0 (nI r) (nI k) = some 1 := by
  have i1 : fh_in (nI r) 10 = true := in_n hr (by omega)
  have k1 : (nI r).toNatClampNeg = r := nI_clamp (by omega)
  have e1 : nI N - 1 = nI (N - 1) := nI_subn (b := 1) (by omega)
  have e2 : z_X12_isIn (nI k).toInt64 0 (nI (N - 1)).toInt64 = some (if 0 ≤ nI k ∧ nI k ≤ nI (N - 1) then 1 else 0) := b_isIn (nI k) 0 (nI (N - 1))
  rw [if_pos ⟨nI_pos' (by omega), nI_le (by omega) (by omega)⟩] at e2
  unfold z_X12_isKnown
  simp only [rB_5, b1_N, kB_N4, ck_N, lB_N4, i1, k1, h4, e1, e2]
  rfl
theorem b_kn0 {I : Nat → Nat → Int32} {J : Nat → Nat → Int64} {r N : Nat} {x : Int32} (hr : r < 10) (h4 : I 4 r = nI N) (hN : N ≤ 60) (hx : ¬ ∃ k, k < N ∧ x = nI k) : z_X12_isKnown TB (I, J, rB) 0 (nI r) x = some 0 := by
  have i1 : fh_in (nI r) 10 = true := in_n hr (by omega)
  have k1 : (nI r).toNatClampNeg = r := nI_clamp (by omega)
  have e2 : z_X12_isIn x.toInt64 0 (nI N - 1).toInt64 = some (if 0 ≤ x ∧ x ≤ nI N - 1 then 1 else 0) := b_isIn x 0 (nI N - 1)
  have hc : ¬ (0 ≤ x ∧ x ≤ nI N - 1) := by
    rintro ⟨a, q⟩
    by_cases h0 : N = 0
    · subst h0
      have h1 := Int32.le_iff_toInt_le.mp a
      have h2 := Int32.le_iff_toInt_le.mp q
      have h3 : (0 : Int32).toInt = 0 := rfl
      have h4 : (nI 0 - 1).toInt = -1 := rfl
      omega
    · rw [show nI N - 1 = nI (N - 1) from nI_subn (b := 1) (by omega)] at q
      obtain ⟨j, hj, e⟩ := nI_of (i32_nlt.mpr a)
      rw [e, nI_leI hj (by omega)] at q
      exact hx ⟨j, by omega, e⟩
  rw [if_neg hc] at e2
  unfold z_X12_isKnown
  simp only [rB_5, b1_N, kB_N4, ck_N, lB_N4, i1, k1, h4, e2]
  rfl
/-! loops over a row's terms -/
def gmr (g : Nat → Int32) : Nat → Nat → Int32 → Int32
  | 0, _, y => y
  | m + 1, k, y => gmr g m (k + 1) (if y < g k then g k else y)
theorem a_great {I : Nat → Nat → Int32} {J : Nat → Nat → Int64} {R : Nat → Nat → Option Nat} {P : Rcp} {r a : Nat} (hR : RA R) (ha : rwA a) (h : rwA3 I a P r) : ∀ (m fuel k : Nat) (y : Int32), m < fuel → m = rwL P r - k → k ≤ 61 → z_X6_greatestBehindFirst_b4 SA a fuel (I, J, R) y (nI k) = some (gmr (rwG P r) m k y) := by
  have hL := rwL_le P r
  intro m
  induction m with
  | zero =>
    intro fuel k y hf hm hk
    obtain ⟨f, rfl⟩ : ∃ f, fuel = f + 1 := ⟨fuel - 1, by omega⟩
    have c0 : nI (rwL P r) ≤ nI k := nI_le (by omega) (by omega)
    rw [z_X6_greatestBehindFirst_b4]
    simp only [h.1, c0, if_true, gmr]
  | succ m ih =>
    intro fuel k y hf hm hk
    obtain ⟨f, rfl⟩ : ∃ f, fuel = f + 1 := ⟨fuel - 1, by omega⟩
    have c0 : ¬ nI (rwL P r) ≤ nI k := nI_ge (by omega) (by omega)
    have e := ih f (k + 1) (if y < rwG P r k then rwG P r k else y) (by omega) (by omega) (by omega)
    have em : z_J9_max_7cf53 y (rwG P r k) = some (if y < rwG P r k then rwG P r k else y) := by
      unfold z_J9_max_7cf53; split <;> rfl
    rw [z_X6_greatestBehindFirst_b4]
    simp only [h.1, c0, if_false, a_tm hR ha (show k < 60 by omega), b1_N, h.2.1 k (by omega), em, let_N, nI_1, e, gmr]
theorem b_great {I : Nat → Nat → Int32} {J : Nat → Nat → Int64} {P : Rcp} {r : Nat} (hr : r < 10) (h : rwB3 I P r) : ∀ (m fuel k : Nat) (y : Int32), m < fuel → m = rwL P r - k → k ≤ 61 → z_X12_greatestOf_b4 TB 0 fuel (I, J, rB) (nI r) y (nI k) = some (gmr (rwG P r) m k y) := by
  have hL := rwL_le P r
  have i1 : fh_in (nI r) 10 = true := in_n hr (by omega)
  have k1 : (nI r).toNatClampNeg = r := nI_clamp (by omega)
  intro m
  induction m with
  | zero =>
    intro fuel k y hf hm hk
    obtain ⟨f, rfl⟩ : ∃ f, fuel = f + 1 := ⟨fuel - 1, by omega⟩
    have c0 : nI (rwL P r) ≤ nI k := nI_le (by omega) (by omega)
    rw [z_X12_greatestOf_b4]
    simp only [rB_5, b1_N, kB_N4, ck_N, lB_N4, i1, k1, h.1, c0, if_true, gmr]
  | succ m ih =>
    intro fuel k y hf hm hk
    obtain ⟨f, rfl⟩ : ∃ f, fuel = f + 1 := ⟨fuel - 1, by omega⟩
    have c0 : ¬ nI (rwL P r) ≤ nI k := nI_ge (by omega) (by omega)
    have e := ih f (k + 1) (if y < rwG P r k then rwG P r k else y) (by omega) (by omega) (by omega)
    have em : z_J9_max_7cf53 y (rwG P r k) = some (if y < rwG P r k then rwG P r k else y) := by
      unfold z_J9_max_7cf53; split <;> rfl
    rw [z_X12_greatestOf_b4]
    simp only [rB_5, b1_N, kB_N4, ck_N, lB_N4, i1, k1, h.1, c0, if_false, b_termOf hr (show k < 60 by omega), h.2.1 k (by omega), em, let_N, nI_1, e, gmr]
def smr (g : Nat → Int32) : Nat → Nat → Int32 → Int32
  | 0, _, y => y
  | m + 1, k, y => smr g m (k + 1) (y + g k)
def sml (g : Nat → Int32) : Nat → Nat → Int64 → Int64
  | 0, _, y => y
  | m + 1, k, y => sml g m (k + 1) (y + (g k).toInt64)
theorem sml_i (g : Nat → Int32) : ∀ (m k : Nat) (y : Int64), (sml g m k y).toInt32 = smr g m k y.toInt32 := by
  intro m
  induction m with
  | zero => intro k y; rfl
  | succ m ih =>
    intro k y
    rw [sml, smr, ih, Int64.toInt32_add, i32_64]
theorem a_wsum {I : Nat → Nat → Int32} {J : Nat → Nat → Int64} {R : Nat → Nat → Option Nat} {P : Rcp} {r a : Nat} (hR : RA R) (ha : rwA a) (h : rwA3 I a P r) : ∀ (m fuel k : Nat) (y : Int32), m < fuel → m = rwL P r - k → k ≤ 61 → z_X6_wrappedSum_b4 SA a fuel (I, J, R) y (nI k) = some (smr (rwG P r) m k y) := by
  have hL := rwL_le P r
  intro m
  induction m with
  | zero =>
    intro fuel k y hf hm hk
    obtain ⟨f, rfl⟩ : ∃ f, fuel = f + 1 := ⟨fuel - 1, by omega⟩
    have c0 : nI (rwL P r) ≤ nI k := nI_le (by omega) (by omega)
    rw [z_X6_wrappedSum_b4]
    simp only [h.1, c0, if_true, smr]
  | succ m ih =>
    intro fuel k y hf hm hk
    obtain ⟨f, rfl⟩ : ∃ f, fuel = f + 1 := ⟨fuel - 1, by omega⟩
    have c0 : ¬ nI (rwL P r) ≤ nI k := nI_ge (by omega) (by omega)
    have e := ih f (k + 1) (y + rwG P r k) (by omega) (by omega) (by omega)
    rw [z_X6_wrappedSum_b4]
    simp only [h.1, c0, if_false, a_tm hR ha (show k < 60 by omega), b1_N, h.2.1 k (by omega), let_N, nI_1, e, smr]
/-- the sum of the first ones -/
theorem b_sum5 {I : Nat → Nat → Int32} {J : Nat → Nat → Int64} {P : Rcp} {r N : Nat} (hr : r < 10) (h : rwB3 I P r) (hN : N ≤ rwL P r) : ∀ (m fuel k : Nat) (y : Int64), m < fuel → k + m = N → z_X12_sumTo_b5 TB 0 fuel (I, J, rB) (nI r) (nI N - 1) y (nI k) = some (sml (rwG P r) m k y) := by
  have hL := rwL_le P r
  intro m
  induction m with
  | zero =>
    intro fuel k y hf hm
    obtain ⟨f, rfl⟩ : ∃ f, fuel = f + 1 := ⟨fuel - 1, by omega⟩
    obtain rfl : k = N := by omega
    have c0 : nI k - 1 < nI k := by
      by_cases h0 : k = 0
      · subst h0; decide
      · rw [show nI k - 1 = nI (k - 1) from nI_subn (b := 1) (by omega)]; exact nI_lt (by omega) (by omega)
    rw [z_X12_sumTo_b5]
    simp only [c0, if_true, sml]
  | succ m ih =>
    intro fuel k y hf hm
    obtain ⟨f, rfl⟩ : ∃ f, fuel = f + 1 := ⟨fuel - 1, by omega⟩
    have c0 : ¬ nI N - 1 < nI k := by
      rw [show nI N - 1 = nI (N - 1) from nI_subn (b := 1) (by omega)]; exact nI_nlt (by omega) (by omega)
    have e := ih f (k + 1) (y + (rwG P r k).toInt64) (by omega) (by omega)
    rw [z_X12_sumTo_b5]
    simp only [c0, if_false, b_termOf hr (show k < 60 by omega), b1_N, h.2.1 k (by omega), let_N, nI_1, e, sml]
theorem b_sum {I : Nat → Nat → Int32} {J : Nat → Nat → Int64} {P : Rcp} {r N : Nat} (hr : r < 10) (h : rwB3 I P r) (hN : N ≤ rwL P r) : z_X12_sumTo TB (I, J, rB) 0 (nI r) (nI N - 1) = some (sml (rwG P r) N 0 0) := by
  have := rwL_le P r
  exact b_sum5 hr h hN N 20000 0 0 (by omega) (by omega)
def ofr (g : Nat → Int32) (v : Int32) : Nat → Nat → Int32 → Int32
  | 0, _, y => y
  | m + 1, k, y => ofr g v m (k + 1) (if g k = v then y + 1 else y)
theorem a_often12 {I : Nat → Nat → Int32} {J : Nat → Nat → Int64} {R : Nat → Nat → Option Nat} {P : Rcp} {r a : Nat} {v : Int32} (hR : RA R) (ha : rwA a) (h : rwA3 I a P r) : ∀ (m fuel k : Nat) (y : Int32), m < fuel → m = rwL P r - k → k ≤ 61 → z_X11_often_b12 SA 0 fuel (I, J, R) v a y (nI k) = some (Sum.inr (ofr (rwG P r) v m k y), (I, J, R)) := by
  have hL := rwL_le P r
  have k6 := (rwA_k ha).1
  intro m
  induction m with
  | zero =>
    intro fuel k y hf hm hk
    obtain ⟨f, rfl⟩ : ∃ f, fuel = f + 1 := ⟨fuel - 1, by omega⟩
    have c0 : nI (rwL P r) ≤ nI k := nI_le (by omega) (by omega)
    rw [z_X11_often_b12]
    simp only [k6, ck_N, h.1, c0, if_true, ofr]
  | succ m ih =>
    intro fuel k y hf hm hk
    obtain ⟨f, rfl⟩ : ∃ f, fuel = f + 1 := ⟨fuel - 1, by omega⟩
    have c0 : ¬ nI (rwL P r) ≤ nI k := nI_ge (by omega) (by omega)
    have e := fun y => ih f (k + 1) y (by omega) (by omega) (by omega)
    rw [z_X11_often_b12]
    simp only [k6, ck_N, h.1, c0, if_false, a_tm hR ha (show k < 60 by omega), b1_N, h.2.1 k (by omega), let_N, nI_1, e, ofr]
    by_cases c : rwG P r k = v
    · rw [if_pos c, if_pos c]
    · rw [if_neg c, if_neg c]
theorem b_often23 {I : Nat → Nat → Int32} {J : Nat → Nat → Int64} {P : Rcp} {r : Nat} {v : Int32} (hr : r < 10) (h : rwB3 I P r) : ∀ (m fuel k : Nat) (y : Int32), m < fuel → m = rwL P r - k → k ≤ 61 → z_X12_often_b23 TB 0 fuel (I, J, rB) (nI r) v y (nI k) = some (ofr (rwG P r) v m k y, (I, J, rB)) := by
  have hL := rwL_le P r
  have i1 : fh_in (nI r) 10 = true := in_n hr (by omega)
  have k1 : (nI r).toNatClampNeg = r := nI_clamp (by omega)
  intro m
  induction m with
  | zero =>
    intro fuel k y hf hm hk
    obtain ⟨f, rfl⟩ : ∃ f, fuel = f + 1 := ⟨fuel - 1, by omega⟩
    have c0 : nI (rwL P r) ≤ nI k := nI_le (by omega) (by omega)
    rw [z_X12_often_b23]
    simp only [rB_5, b1_N, kB_N4, ck_N, lB_N4, i1, k1, h.1, c0, if_true, ofr]
  | succ m ih =>
    intro fuel k y hf hm hk
    obtain ⟨f, rfl⟩ : ∃ f, fuel = f + 1 := ⟨fuel - 1, by omega⟩
    have c0 : ¬ nI (rwL P r) ≤ nI k := nI_ge (by omega) (by omega)
    have e := fun y => ih f (k + 1) y (by omega) (by omega) (by omega)
    rw [z_X12_often_b23]
    simp only [rB_5, b1_N, kB_N4, ck_N, lB_N4, i1, k1, h.1, c0, if_false, b_termOf hr (show k < 60 by omega), h.2.1 k (by omega), let_N, nI_1, e, ofr]
    by_cases c : rwG P r k = v
    · rw [if_pos c, if_pos c]
    · rw [if_neg c, if_neg c, Int32.add_zero]
def alk (g g' : Nat → Int32) : Nat → Nat → Nat
  | 0, k => k
  | m + 1, k => if g k = g' k then alk g g' m (k + 1) else k
theorem alk_le (g g' : Nat → Int32) : ∀ m k, k ≤ alk g g' m k ∧ alk g g' m k ≤ k + m := by
  intro m
  induction m with
  | zero => intro k; exact ⟨Nat.le_refl _, Nat.le_refl _⟩
  | succ m ih =>
    intro k
    rw [alk]
    split
    · have := ih (k + 1); omega
    · omega
theorem alk_ne (g g' : Nat → Int32) : ∀ m k, alk g g' m k < k + m → ¬ g (alk g g' m k) = g' (alk g g' m k) := by
  intro m
  induction m with
  | zero => intro k h; rw [alk] at h; omega
  | succ m ih =>
    intro k h
    rw [alk] at h ⊢
    by_cases c : g k = g' k
    · rw [if_pos c] at h ⊢; exact ih (k + 1) (by omega)
    · rw [if_neg c]; exact c
theorem a_places {I : Nat → Nat → Int32} {J : Nat → Nat → Int64} {R : Nat → Nat → Option Nat} {P : Rcp} {r r' a a' : Nat} (hR : RA R) (ha : rwA a) (ha' : rwA a') (h : rwA3 I a P r) (h' : rwA3 I a' P r') : ∀ (m fuel k : Nat), m < fuel → k + m = min (rwL P r) (rwL P r') → z_X11_placesAlike_b2 SA fuel (I, J, R) a a' (nI k) = some (nI (alk (rwG P r) (rwG P r') m k)) := by
  have hL := rwL_le P r
  have hL' := rwL_le P r'
  have k6 := (rwA_k ha).1
  have k6' := (rwA_k ha').1
  intro m
  induction m with
  | zero =>
    intro fuel k hf hm
    obtain ⟨f, rfl⟩ : ∃ f, fuel = f + 1 := ⟨fuel - 1, by omega⟩
    rw [z_X11_placesAlike_b2, alk]
    by_cases c0 : (60 : Int32) ≤ nI k
    · rw [if_pos c0]
    rw [if_neg c0]
    by_cases c1 : k < rwL P r
    · rw [k6, ck_N, a_kn1 h.1 hL c1, b1_N, if_neg one0, k6', ck_N, a_kn0 h'.1 hL' (fun ⟨j, q1, q2⟩ => by
        rw [nI_eq (by omega) (by omega)] at q2; omega), b1_N, if_pos rfl]
    · rw [k6, ck_N, a_kn0 h.1 hL (fun ⟨j, q1, q2⟩ => by
        rw [nI_eq (by omega) (by omega)] at q2; omega), b1_N, if_pos rfl]
  | succ m ih =>
    intro fuel k hf hm
    obtain ⟨f, rfl⟩ : ∃ f, fuel = f + 1 := ⟨fuel - 1, by omega⟩
    rw [z_X11_placesAlike_b2, alk, if_neg (show ¬ (60 : Int32) ≤ nI k from nI_ge (b := 60) (by omega) (by omega)), k6, ck_N, a_kn1 h.1 hL (show k < rwL P r by omega), b1_N, if_neg one0, k6', ck_N, a_kn1 h'.1 hL' (show k < rwL P r' by omega), b1_N, if_neg one0, a_tm hR ha (show k < 60 by omega), b1_N, a_tm hR ha' (show k < 60 by omega), b1_N, h.2.1 k (by omega), h'.2.1 k (by omega)]
    by_cases c : rwG P r k = rwG P r' k
    · rw [if_pos c, if_pos c, let_N, nI_1]; exact ih f (k + 1) (by omega) (by omega)
    · rw [if_neg c, if_neg c]
theorem b_places {I : Nat → Nat → Int32} {J : Nat → Nat → Int64} {P : Rcp} {r r' : Nat} (hr : r < 10) (hr' : r' < 10) (h : rwB3 I P r) (h' : rwB3 I P r') : ∀ (m fuel k : Nat), m < fuel → k + m = min (rwL P r) (rwL P r') → z_X12_alikeTo_b2 TB 0 fuel (I, J, rB) (nI r) (nI r') (nI k) = some (nI (alk (rwG P r) (rwG P r') m k)) := by
  have hL := rwL_le P r
  have hL' := rwL_le P r'
  intro m
  induction m with
  | zero =>
    intro fuel k hf hm
    obtain ⟨f, rfl⟩ : ∃ f, fuel = f + 1 := ⟨fuel - 1, by omega⟩
    rw [z_X12_alikeTo_b2, alk]
    by_cases c1 : k < rwL P r
    · rw [b_kn1 hr h.1 hL c1, b1_N, if_neg one0, b_kn0 hr' h'.1 hL' (fun ⟨j, q1, q2⟩ => by
        rw [nI_eq (by omega) (by omega)] at q2; omega), b1_N, if_pos rfl]
    · rw [b_kn0 hr h.1 hL (fun ⟨j, q1, q2⟩ => by
        rw [nI_eq (by omega) (by omega)] at q2; omega), b1_N, if_pos rfl]
  | succ m ih =>
    intro fuel k hf hm
    obtain ⟨f, rfl⟩ : ∃ f, fuel = f + 1 := ⟨fuel - 1, by omega⟩
    rw [z_X12_alikeTo_b2, alk, b_kn1 hr h.1 hL (show k < rwL P r by omega), b1_N, if_neg one0, b_kn1 hr' h'.1 hL' (show k < rwL P r' by omega), b1_N, if_neg one0, b_termOf hr (show k < 60 by omega), b1_N, b_termOf hr' (show k < 60 by omega), b1_N, h.2.1 k (by omega), h'.2.1 k (by omega)]
    by_cases c : rwG P r k = rwG P r' k
    · rw [if_pos c, if_pos c, let_N, nI_1]; exact ih f (k + 1) (by omega) (by omega)
    · rw [if_neg c, if_neg c]
/-! loops over all rows -/
def cn (q : Nat → Bool) : Nat → Nat → Int32 → Int32
  | 0, _, y => y
  | m + 1, k, y => cn q m (k + 1) (if q k = true then y + 1 else y)
theorem a_kinds {I : Nat → Nat → Int32} {J : Nat → Nat → Int64} {R : Nat → Nat → Option Nat} {F : Rcp} {K : Int32} (hR : RA R) (hv : vA I R F) : ∀ (m fuel k : Nat) (y : Int32), m < fuel → k + m = 10 → z_X11_rowsOfKind_b4 SA 0 fuel (I, J, R) K y (nI k) = some (cn (fun r => decide (F r 0 = K)) m k y) := by
  intro m
  induction m with
  | zero =>
    intro fuel k y hf hm
    obtain ⟨f, rfl⟩ : ∃ f, fuel = f + 1 := ⟨fuel - 1, by omega⟩
    obtain rfl : k = 10 := by omega
    have c0 : Int32.ofNat 10 ≤ nI 10 := by decide
    rw [z_X11_rowsOfKind_b4]
    simp only [rA_0_0 hR, b1_N, kA_1, ck_N, lA_1, c0, if_true, cn]
  | succ m ih =>
    intro fuel k y hf hm
    obtain ⟨f, rfl⟩ : ∃ f, fuel = f + 1 := ⟨fuel - 1, by omega⟩
    have hk : k < 10 := by omega
    obtain ⟨m', h1, h2, h3, -⟩ := hv k hk
    have c0 : ¬ Int32.ofNat 10 ≤ nI k := nI_ge (b := 10) (by omega) (by omega)
    have i1 : fh_in (nI k) 10 = true := in_n hk (by omega)
    have k1 : (nI k).toNatClampNeg = k := nI_clamp (by omega)
    have e := fun y => ih f (k + 1) y (by omega) (by omega)
    rw [z_X11_rowsOfKind_b4]
    simp only [rA_0_0 hR, b1_N, kA_1, ck_N, lA_1, c0, if_false, i1, k1, rA_row hR hk, nn_Ns, (rwA_k (rwA_r hk)).1, h1, (mdA_k h2).1, h3.1, let_N, nI_1, e, cn, decide_eq_true_eq]
    by_cases c : F k 0 = K
    · rw [if_pos c, if_pos c]
    · rw [if_neg c, if_neg c]
theorem b_kinds {I : Nat → Nat → Int32} {J : Nat → Nat → Int64} {F : Rcp} {K : Int32} (h : ∀ r, r < 10 → ∀ j, j < 109 → I 1 (109 * r + j) = F r j) : ∀ (m fuel k : Nat) (y : Int32), m < fuel → k + m = 10 → z_X12_kindMany_b4 TB 0 fuel (I, J, rB) K y (nI k) = some (cn (fun r => decide (F r 0 = K)) m k y) := by
  intro m
  induction m with
  | zero =>
    intro fuel k y hf hm
    obtain ⟨f, rfl⟩ : ∃ f, fuel = f + 1 := ⟨fuel - 1, by omega⟩
    obtain rfl : k = 10 := by omega
    rw [z_X12_kindMany_b4, if_pos (by decide), cn]
  | succ m ih =>
    intro fuel k y hf hm
    obtain ⟨f, rfl⟩ : ∃ f, fuel = f + 1 := ⟨fuel - 1, by omega⟩
    have hk : k < 10 := by omega
    have e := fun y => ih f (k + 1) y (by omega) (by omega)
    have o : z_X12_of1 TB (I, J, rB) 0 (nI k) 0 = some (F k 0) := by
      have := b_of1 (I := I) (J := J) (r := k) (j := 0) hk (by omega)
      rw [h k hk 0 (by omega)] at this; exact this
    rw [z_X12_kindMany_b4, if_neg (show ¬ (10 : Int32) ≤ nI k from nI_ge (b := 10) (by omega) (by omega)), o]
    simp only [b1_N, let_N, nI_1, e, cn, decide_eq_true_eq]
    by_cases c : F k 0 = K
    · rw [if_pos c, if_pos c]
    · rw [if_neg c, if_neg c, Int32.add_zero]
theorem a_stops {I : Nat → Nat → Int32} {J : Nat → Nat → Int64} {R : Nat → Nat → Option Nat} {P : Rcp} {K : Int32} (hR : RA R) (h : ∀ r, r < 10 → I (58 + 6 * r) 7 = rwS P r) : ∀ (m fuel k : Nat) (y : Int32), m < fuel → k + m = 10 → z_X11_rowsThatStop_b11 SA 0 fuel (I, J, R) K y (nI k) = some (Sum.inr (cn (fun r => decide (rwS P r = K)) m k y), (I, J, R)) := by
  intro m
  induction m with
  | zero =>
    intro fuel k y hf hm
    obtain ⟨f, rfl⟩ : ∃ f, fuel = f + 1 := ⟨fuel - 1, by omega⟩
    obtain rfl : k = 10 := by omega
    have c0 : Int32.ofNat 10 ≤ nI 10 := by decide
    rw [z_X11_rowsThatStop_b11]
    simp only [rA_0_0 hR, b1_N, kA_1, ck_N, lA_1, c0, if_true, cn]
  | succ m ih =>
    intro fuel k y hf hm
    obtain ⟨f, rfl⟩ : ∃ f, fuel = f + 1 := ⟨fuel - 1, by omega⟩
    have hk : k < 10 := by omega
    have c0 : ¬ Int32.ofNat 10 ≤ nI k := nI_ge (b := 10) (by omega) (by omega)
    have i1 : fh_in (nI k) 10 = true := in_n hk (by omega)
    have k1 : (nI k).toNatClampNeg = k := nI_clamp (by omega)
    have e := fun y => ih f (k + 1) y (by omega) (by omega)
    rw [z_X11_rowsThatStop_b11]
    simp only [rA_0_0 hR, b1_N, kA_1, ck_N, lA_1, c0, if_false, i1, k1, rA_row hR hk, nn_Ns, (rwA_k (rwA_r hk)).1, h k hk, let_N, nI_1, e, cn, decide_eq_true_eq]
    by_cases c : rwS P k = K
    · rw [if_pos c, if_pos c]
    · rw [if_neg c, if_neg c]
theorem b_stops {I : Nat → Nat → Int32} {J : Nat → Nat → Int64} {P : Rcp} {K : Int32} (h : ∀ r, r < 10 → I 5 r = rwS P r) : ∀ (m fuel k : Nat) (y : Int32), m < fuel → k + m = 10 → z_X12_stopMany_b4 TB 0 fuel (I, J, rB) K y (nI k) = some (cn (fun r => decide (rwS P r = K)) m k y) := by
  intro m
  induction m with
  | zero =>
    intro fuel k y hf hm
    obtain ⟨f, rfl⟩ : ∃ f, fuel = f + 1 := ⟨fuel - 1, by omega⟩
    obtain rfl : k = 10 := by omega
    rw [z_X12_stopMany_b4, if_pos (by decide), cn]
  | succ m ih =>
    intro fuel k y hf hm
    obtain ⟨f, rfl⟩ : ∃ f, fuel = f + 1 := ⟨fuel - 1, by omega⟩
    have hk : k < 10 := by omega
    have c0 : ¬ (10 : Int32) ≤ nI k := nI_ge (b := 10) (by omega) (by omega)
    have i1 : fh_in (nI k) 10 = true := in_n hk (by omega)
    have k1 : (nI k).toNatClampNeg = k := nI_clamp (by omega)
    have e := fun y => ih f (k + 1) y (by omega) (by omega)
    rw [z_X12_stopMany_b4]
    simp only [c0, if_false, rB_6, b1_N, kB_N5, ck_N, lB_N5, i1, k1, h k hk, let_N, nI_1, e, cn, decide_eq_true_eq]
    by_cases c : rwS P k = K
    · rw [if_pos c, if_pos c]
    · rw [if_neg c, if_neg c, Int32.add_zero]
/-- rows made of a row -/
def mof (F : Rcp) (x : Int32) (r : Nat) : Bool := decide ((F r 0 = 3 ∧ F r 5 = x) ∨ (F r 0 = 4 ∧ (F r 5 = x ∨ F r 6 = x)))
theorem okr_k {f : Nat → Int32} {r : Nat} (h : okr f r) : f 0 = 0 ∨ f 0 = 1 ∨ f 0 = 2 ∨ f 0 = 3 ∨ f 0 = 4 := by
  rcases h with ⟨k, -⟩ | ⟨k, -⟩ | ⟨k, -⟩ | ⟨k, -⟩ | ⟨k, -⟩
  · exact Or.inl k
  · exact Or.inr (Or.inl k)
  · exact Or.inr (Or.inr (Or.inl k))
  · exact Or.inr (Or.inr (Or.inr (Or.inl k)))
  · exact Or.inr (Or.inr (Or.inr (Or.inr k)))
theorem a_made35 {I : Nat → Nat → Int32} {J : Nat → Nat → Int64} {R : Nat → Nat → Option Nat} {f : Nat → Int32} {m' r : Nat} {x y z : Int32} {KK : fh_H → Int32 → Int32 → Int32 → Option Int32} (h2 : mdA m') (h3 : mkr f (I m') (I (m' + 1))) (h4 : okr f r) : z_X11_rowsMadeOf_b35 SA 0 KK (I, J, R) x y z (some m') = KK (I, J, R) x (if decide ((f 0 = 3 ∧ f 5 = x) ∨ (f 0 = 4 ∧ (f 5 = x ∨ f 6 = x))) = true then y + 1 else y) (z + 1) := by
  obtain ⟨g0, -, -, -, g3, g4⟩ := h3
  unfold z_X11_rowsMadeOf_b35
  simp only [nn_Ns, (mdA_k h2).1, ck_N, g0, let_N, decide_eq_true_eq]
  rcases okr_k h4 with k | k | k | k | k
  · rw [if_pos (by rw [k]; decide), if_neg (by rw [k]; rintro (⟨q, -⟩ | ⟨q, -⟩) <;> exact absurd q (by decide))]
  · rw [if_pos (by rw [k]; decide), if_neg (by rw [k]; rintro (⟨q, -⟩ | ⟨q, -⟩) <;> exact absurd q (by decide))]
  · rw [if_pos (by rw [k]; decide), if_neg (by rw [k]; rintro (⟨q, -⟩ | ⟨q, -⟩) <;> exact absurd q (by decide))]
  · obtain ⟨e1, e2, -⟩ := g3 k
    rw [if_neg (by rw [k]; decide), e1, e2]
    by_cases c : f 5 = x
    · rw [if_pos c, if_pos (Or.inl ⟨k, c⟩)]
    · rw [if_neg c, if_neg c, if_neg (by rw [k]; rintro (⟨-, q⟩ | ⟨q, -⟩); exact c q; exact absurd q (by decide))]
  · obtain ⟨e1, e2, -⟩ := g4 k
    rw [if_neg (by rw [k]; decide), e1, e2]
    by_cases c : f 5 = x
    · rw [if_pos c, if_pos (Or.inr ⟨k, Or.inl c⟩)]
    · rw [if_neg c]
      by_cases c2 : f 6 = x
      · rw [if_pos c2, if_pos (Or.inr ⟨k, Or.inr c2⟩)]
      · rw [if_neg c2, if_neg (by rw [k]; rintro (⟨q, -⟩ | ⟨-, q | q⟩); exact absurd q (by decide); exact c q; exact c2 q)]
theorem a_madeOf {I : Nat → Nat → Int32} {J : Nat → Nat → Int64} {R : Nat → Nat → Option Nat} {F : Rcp} {x : Int32} (hR : RA R) (hv : vA I R F) : ∀ (m fuel k : Nat) (y : Int32), m < fuel → k + m = 10 → z_X11_rowsMadeOf_b4 SA 0 fuel (I, J, R) x y (nI k) = some (cn (mof F x) m k y) := by
  intro m
  induction m with
  | zero =>
    intro fuel k y hf hm
    obtain ⟨f, rfl⟩ : ∃ f, fuel = f + 1 := ⟨fuel - 1, by omega⟩
    obtain rfl : k = 10 := by omega
    have c0 : Int32.ofNat 10 ≤ nI 10 := by decide
    rw [z_X11_rowsMadeOf_b4]
    simp only [rA_0_0 hR, b1_N, kA_1, ck_N, lA_1, c0, if_true, cn]
  | succ m ih =>
    intro fuel k y hf hm
    obtain ⟨f, rfl⟩ : ∃ f, fuel = f + 1 := ⟨fuel - 1, by omega⟩
    have hk : k < 10 := by omega
    obtain ⟨m', h1, h2, h3, h4, -⟩ := hv k hk
    have c0 : ¬ Int32.ofNat 10 ≤ nI k := nI_ge (b := 10) (by omega) (by omega)
    have i1 : fh_in (nI k) 10 = true := in_n hk (by omega)
    have k1 : (nI k).toNatClampNeg = k := nI_clamp (by omega)
    have e := fun y => ih f (k + 1) y (by omega) (by omega)
    rw [z_X11_rowsMadeOf_b4]
    simp only [rA_0_0 hR, b1_N, kA_1, ck_N, lA_1, c0, if_false, i1, k1, rA_row hR hk, nn_Ns, (rwA_k (rwA_r hk)).1, h1]
    rw [a_made35 h2 h3 h4, nI_1, e, cn]
    rfl
theorem b_isMade {I : Nat → Nat → Int32} {J : Nat → Nat → Int64} {F : Rcp} {x : Int32} {k : Nat} (hk : k < 10) (h : ∀ r, r < 10 → ∀ j, j < 109 → I 1 (109 * r + j) = F r j) (h4 : okr (F k) k) : z_X12_isMadeOf TB (I, J, rB) 0 (nI k) x = some (if mof F x k = true then 1 else 0) := by
  have o : ∀ j, j < 109 → z_X12_of1 TB (I, J, rB) 0 (nI k) (nI j) = some (F k j) := fun j hj => by rw [b_of1 hk hj, h k hk j hj]
  have o0 : z_X12_of1 TB (I, J, rB) 0 (nI k) 0 = some (F k 0) := o 0 (by decide)
  have o5 : z_X12_of1 TB (I, J, rB) 0 (nI k) 5 = some (F k 5) := o 5 (by decide)
  have o6 : z_X12_of1 TB (I, J, rB) 0 (nI k) 6 = some (F k 6) := o 6 (by decide)
  unfold z_X12_isMadeOf z_X12_isMadeOf_b22 mof
  simp only [o0, o5, o6, b1_N, decide_eq_true_eq]
  rcases okr_k h4 with q | q | q | q | q
  · rw [if_pos (by rw [q]; decide), if_neg (by rw [q]; decide), if_neg (by rw [q]; rintro (⟨q, -⟩ | ⟨q, -⟩) <;> exact absurd q (by decide))]
  · rw [if_pos (by rw [q]; decide), if_neg (by rw [q]; decide), if_neg (by rw [q]; rintro (⟨q, -⟩ | ⟨q, -⟩) <;> exact absurd q (by decide))]
  · rw [if_pos (by rw [q]; decide), if_neg (by rw [q]; decide), if_neg (by rw [q]; rintro (⟨q, -⟩ | ⟨q, -⟩) <;> exact absurd q (by decide))]
  · rw [if_neg (by rw [q]; decide)]
    by_cases c : F k 5 = x
    · rw [if_pos c, if_pos (Or.inl ⟨q, c⟩)]
    · rw [if_neg c, if_neg (by rw [q]; decide), if_neg (by rw [q]; rintro (⟨-, q⟩ | ⟨q, -⟩); exact c q; exact absurd q (by decide))]
  · rw [if_neg (by rw [q]; decide)]
    by_cases c : F k 5 = x
    · rw [if_pos c, if_pos (Or.inr ⟨q, Or.inl c⟩)]
    · rw [if_neg c, if_pos q]
      by_cases c2 : F k 6 = x
      · rw [if_pos c2, if_pos (Or.inr ⟨q, Or.inr c2⟩)]
      · rw [if_neg c2, if_neg (by rw [q]; rintro (⟨q, -⟩ | ⟨-, q | q⟩); exact absurd q (by decide); exact c q; exact c2 q)]
theorem b_madeOf {I : Nat → Nat → Int32} {J : Nat → Nat → Int64} {F : Rcp} {x : Int32} (h : ∀ r, r < 10 → ∀ j, j < 109 → I 1 (109 * r + j) = F r j) (ok : ∀ r, r < 10 → okr (F r) r) : ∀ (m fuel k : Nat) (y : Int32), m < fuel → k + m = 10 → z_X12_madeOf_b4 TB 0 fuel (I, J, rB) x y (nI k) = some (cn (mof F x) m k y) := by
  intro m
  induction m with
  | zero =>
    intro fuel k y hf hm
    obtain ⟨f, rfl⟩ : ∃ f, fuel = f + 1 := ⟨fuel - 1, by omega⟩
    obtain rfl : k = 10 := by omega
    rw [z_X12_madeOf_b4, if_pos (by decide), cn]
  | succ m ih =>
    intro fuel k y hf hm
    obtain ⟨f, rfl⟩ : ∃ f, fuel = f + 1 := ⟨fuel - 1, by omega⟩
    have hk : k < 10 := by omega
    have e := fun y => ih f (k + 1) y (by omega) (by omega)
    rw [z_X12_madeOf_b4, if_neg (show ¬ (10 : Int32) ≤ nI k from nI_ge (b := 10) (by omega) (by omega)), b_isMade hk h (ok k hk), b1_N, cn]
    by_cases c : mof F x k = true
    · rw [if_pos c, if_neg one0, if_pos c, let_N, let_N, nI_1, e]
    · rw [if_neg c, if_pos rfl, if_neg c, let_N, let_N, nI_1, e, Int32.add_zero]
