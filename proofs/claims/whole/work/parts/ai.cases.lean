/-! the law, case by case -/
section
variable {xs : Nat → Int32} {L : Nat} {KK : fh_H → fh_H → Option Unit} {h h2 : fh_H} {i : Int32}
theorem law_c0 (hi : ∀ d : Nat, d < 7 → fh_in (i + nI d) L = true) (hK : ∀ h h2, Inv h h2 → KK h h2 = some ()) (iv : Inv h h2) : z_law_0 SA TB 0 0 118 xs L KK h h2 i = some () := by
  have i1 : fh_in (i + (1 : Int32)) L = true := hi 1 (by decide)
  have i2 : fh_in (i + (2 : Int32)) L = true := hi 2 (by decide)
  have i3 : fh_in (i + (3 : Int32)) L = true := hi 3 (by decide)
  have i4 : fh_in (i + (4 : Int32)) L = true := hi 4 (by decide)
  have i5 : fh_in (i + (5 : Int32)) L = true := hi 5 (by decide)
  unfold z_law_0
  rw [i1, ck_N, i2, ck_N, i3, ck_N, i4, ck_N, i5, ck_N]
  exact law_z hK (op_feed iv _ _ _ _ _)
theorem law_c1 (hi : ∀ d : Nat, d < 7 → fh_in (i + nI d) L = true) (hK : ∀ h h2, Inv h h2 → KK h h2 = some ()) (iv : Inv h h2) : z_law_1 SA TB 0 0 118 xs L KK h h2 i = some () := by
  have i1 : fh_in (i + (1 : Int32)) L = true := hi 1 (by decide)
  have i2 : fh_in (i + (2 : Int32)) L = true := hi 2 (by decide)
  unfold z_law_1 z_L_told
  rw [i1, ck_N, i2, ck_N]
  exact law_x hK (op_told iv _ _)
theorem law_c2 (hi : ∀ d : Nat, d < 7 → fh_in (i + nI d) L = true) (hK : ∀ h h2, Inv h h2 → KK h h2 = some ()) (iv : Inv h h2) : z_law_2 SA TB 0 0 118 xs L KK h h2 i = some () := by
  have i1 : fh_in (i + (1 : Int32)) L = true := hi 1 (by decide)
  have i2 : fh_in (i + (2 : Int32)) L = true := hi 2 (by decide)
  unfold z_law_2 z_L_ask
  rw [i1, ck_N, i2, ck_N]
  exact law_x hK (op_ask iv _ _)
theorem law_c3 (hi : ∀ d : Nat, d < 7 → fh_in (i + nI d) L = true) (hK : ∀ h h2, Inv h h2 → KK h h2 = some ()) (iv : Inv h h2) : z_law_3 SA TB 0 0 118 xs L KK h h2 i = some () := by
  unfold z_law_3
  exact op_fault iv hK
theorem law_c4 (hi : ∀ d : Nat, d < 7 → fh_in (i + nI d) L = true) (hK : ∀ h h2, Inv h h2 → KK h h2 = some ()) (iv : Inv h h2) : z_law_4 SA TB 0 0 118 xs L KK h h2 i = some () := by
  have i1 : fh_in (i + (1 : Int32)) L = true := hi 1 (by decide)
  have i2 : fh_in (i + (2 : Int32)) L = true := hi 2 (by decide)
  have i3 : fh_in (i + (3 : Int32)) L = true := hi 3 (by decide)
  unfold z_law_4
  rw [i1, ck_N, i2, ck_N, i3, ck_N]
  exact law_z hK (op_fraction iv _ _ _)
theorem law_c5 (hi : ∀ d : Nat, d < 7 → fh_in (i + nI d) L = true) (hK : ∀ h h2, Inv h h2 → KK h h2 = some ()) (iv : Inv h h2) : z_law_5 SA TB 0 0 118 xs L KK h h2 i = some () := by
  have i1 : fh_in (i + (1 : Int32)) L = true := hi 1 (by decide)
  have i2 : fh_in (i + (2 : Int32)) L = true := hi 2 (by decide)
  have i3 : fh_in (i + (3 : Int32)) L = true := hi 3 (by decide)
  have i4 : fh_in (i + (4 : Int32)) L = true := hi 4 (by decide)
  unfold z_law_5
  rw [i1, ck_N, i2, ck_N, i3, ck_N, i4, ck_N]
  exact law_z hK (op_root iv _ _ _ _)
theorem law_c6 (hi : ∀ d : Nat, d < 7 → fh_in (i + nI d) L = true) (hK : ∀ h h2, Inv h h2 → KK h h2 = some ()) (iv : Inv h h2) : z_law_6 SA TB 0 0 118 xs L KK h h2 i = some () := by
  have i1 : fh_in (i + (1 : Int32)) L = true := hi 1 (by decide)
  have i2 : fh_in (i + (2 : Int32)) L = true := hi 2 (by decide)
  have i3 : fh_in (i + (3 : Int32)) L = true := hi 3 (by decide)
  have i4 : fh_in (i + (4 : Int32)) L = true := hi 4 (by decide)
  have i5 : fh_in (i + (5 : Int32)) L = true := hi 5 (by decide)
  have i6 : fh_in (i + (6 : Int32)) L = true := hi 6 (by decide)
  unfold z_law_6
  rw [i1, ck_N, i2, ck_N, i3, ck_N, i4, ck_N, i5, ck_N, i6, ck_N]
  exact law_z hK (op_single iv _ _ _ _ _ _)
theorem law_c7 (hi : ∀ d : Nat, d < 7 → fh_in (i + nI d) L = true) (hK : ∀ h h2, Inv h h2 → KK h h2 = some ()) (iv : Inv h h2) : z_law_7 SA TB 0 0 118 xs L KK h h2 i = some () := by
  have i1 : fh_in (i + (1 : Int32)) L = true := hi 1 (by decide)
  have i2 : fh_in (i + (2 : Int32)) L = true := hi 2 (by decide)
  have i3 : fh_in (i + (3 : Int32)) L = true := hi 3 (by decide)
  have i4 : fh_in (i + (4 : Int32)) L = true := hi 4 (by decide)
  unfold z_law_7
  rw [i1, ck_N, i2, ck_N, i3, ck_N, i4, ck_N]
  exact law_z hK (op_join iv _ _ _ _)
theorem law_c8 (hi : ∀ d : Nat, d < 7 → fh_in (i + nI d) L = true) (hK : ∀ h h2, Inv h h2 → KK h h2 = some ()) (iv : Inv h h2) : z_law_8 SA TB 0 0 118 xs L KK h h2 i = some () := by
  unfold z_law_8
  exact law_z hK (op_undo iv)
theorem law_c9 (hi : ∀ d : Nat, d < 7 → fh_in (i + nI d) L = true) (hK : ∀ h h2, Inv h h2 → KK h h2 = some ()) (iv : Inv h h2) : z_law_9 SA TB 0 0 118 xs L KK h h2 i = some () := by
  have i1 : fh_in (i + (1 : Int32)) L = true := hi 1 (by decide)
  unfold z_law_9 z_L_count
  rw [i1, ck_N]
  exact law_x hK (op_count iv _)
theorem law_c10 (hi : ∀ d : Nat, d < 7 → fh_in (i + nI d) L = true) (hK : ∀ h h2, Inv h h2 → KK h h2 = some ()) (iv : Inv h h2) : z_law_10 SA TB 0 0 118 xs L KK h h2 i = some () := by
  have i1 : fh_in (i + (1 : Int32)) L = true := hi 1 (by decide)
  have i2 : fh_in (i + (2 : Int32)) L = true := hi 2 (by decide)
  unfold z_law_10 z_L_of
  rw [i1, ck_N, i2, ck_N]
  exact law_x hK (op_of iv _ _)
theorem law_c11 (hi : ∀ d : Nat, d < 7 → fh_in (i + nI d) L = true) (hK : ∀ h h2, Inv h h2 → KK h h2 = some ()) (iv : Inv h h2) : z_law_11 SA TB 0 0 118 xs L KK h h2 i = some () := by
  have i1 : fh_in (i + (1 : Int32)) L = true := hi 1 (by decide)
  have i2 : fh_in (i + (2 : Int32)) L = true := hi 2 (by decide)
  unfold z_law_11 z_L_term
  rw [i1, ck_N, i2, ck_N]
  exact law_x hK (op_term iv _ _)
theorem law_c12 (hi : ∀ d : Nat, d < 7 → fh_in (i + nI d) L = true) (hK : ∀ h h2, Inv h h2 → KK h h2 = some ()) (iv : Inv h h2) : z_law_12 SA TB 0 0 118 xs L KK h h2 i = some () := by
  have i1 : fh_in (i + (1 : Int32)) L = true := hi 1 (by decide)
  have i2 : fh_in (i + (2 : Int32)) L = true := hi 2 (by decide)
  have i3 : fh_in (i + (3 : Int32)) L = true := hi 3 (by decide)
  unfold z_law_12 z_L_read
  rw [i1, ck_N, i2, ck_N, i3, ck_N, let_N]
  exact law_x hK (op_read iv _ _ _)
theorem law_c13 (hi : ∀ d : Nat, d < 7 → fh_in (i + nI d) L = true) (hK : ∀ h h2, Inv h h2 → KK h h2 = some ()) (iv : Inv h h2) : z_law_13 SA TB 0 0 118 xs L KK h h2 i = some () := by
  have i1 : fh_in (i + (1 : Int32)) L = true := hi 1 (by decide)
  have i2 : fh_in (i + (2 : Int32)) L = true := hi 2 (by decide)
  have i3 : fh_in (i + (3 : Int32)) L = true := hi 3 (by decide)
  unfold z_law_13 z_L_convergent
  rw [i1, ck_N, i2, ck_N, i3, ck_N, let_N]
  exact law_y hK (op_convergent iv _ _ _)
theorem law_c14 (hi : ∀ d : Nat, d < 7 → fh_in (i + nI d) L = true) (hK : ∀ h h2, Inv h h2 → KK h h2 = some ()) (iv : Inv h h2) : z_law_14 SA TB 0 0 118 xs L KK h h2 i = some () := by
  have i1 : fh_in (i + (1 : Int32)) L = true := hi 1 (by decide)
  have i2 : fh_in (i + (2 : Int32)) L = true := hi 2 (by decide)
  unfold z_law_14 z_L_nearest
  rw [i1, ck_N, i2, ck_N]
  exact law_x hK (op_nearest iv _ _ rw_pos)
theorem law_c15 (hi : ∀ d : Nat, d < 7 → fh_in (i + nI d) L = true) (hK : ∀ h h2, Inv h h2 → KK h h2 = some ()) (iv : Inv h h2) : z_law_15 SA TB 0 0 118 xs L KK h h2 i = some () := by
  have i1 : fh_in (i + (1 : Int32)) L = true := hi 1 (by decide)
  have i2 : fh_in (i + (2 : Int32)) L = true := hi 2 (by decide)
  have i3 : fh_in (i + (3 : Int32)) L = true := hi 3 (by decide)
  have i4 : fh_in (i + (4 : Int32)) L = true := hi 4 (by decide)
  unfold z_law_15 z_L_mediant
  rw [i1, ck_N, i2, ck_N, i3, ck_N, i4, ck_N, let_N]
  exact law_y hK (op_mediant iv _ _ _ _)
theorem law_c16 (hi : ∀ d : Nat, d < 7 → fh_in (i + nI d) L = true) (hK : ∀ h h2, Inv h h2 → KK h h2 = some ()) (iv : Inv h h2) : z_law_16 SA TB 0 0 118 xs L KK h h2 i = some () := by
  have i1 : fh_in (i + (1 : Int32)) L = true := hi 1 (by decide)
  have i2 : fh_in (i + (2 : Int32)) L = true := hi 2 (by decide)
  unfold z_law_16 z_L_compare
  rw [i1, ck_N, i2, ck_N]
  exact law_x hK (op_compare iv _ _)
theorem law_c17 (hi : ∀ d : Nat, d < 7 → fh_in (i + nI d) L = true) (hK : ∀ h h2, Inv h h2 → KK h h2 = some ()) (iv : Inv h h2) : z_law_17 SA TB 0 0 118 xs L KK h h2 i = some () := by
  have i1 : fh_in (i + (1 : Int32)) L = true := hi 1 (by decide)
  have i2 : fh_in (i + (2 : Int32)) L = true := hi 2 (by decide)
  unfold z_law_17 z_L_alike
  rw [i1, ck_N, i2, ck_N]
  exact law_x hK (op_alike iv _ _)
theorem law_c18 (hi : ∀ d : Nat, d < 7 → fh_in (i + nI d) L = true) (hK : ∀ h h2, Inv h h2 → KK h h2 = some ()) (iv : Inv h h2) : z_law_18 SA TB 0 0 118 xs L KK h h2 i = some () := by
  have i1 : fh_in (i + (1 : Int32)) L = true := hi 1 (by decide)
  have i2 : fh_in (i + (2 : Int32)) L = true := hi 2 (by decide)
  unfold z_law_18 z_L_again
  rw [i1, ck_N, i2, ck_N]
  exact law_x hK (op_again iv _ _)
theorem law_c19 (hi : ∀ d : Nat, d < 7 → fh_in (i + nI d) L = true) (hK : ∀ h h2, Inv h h2 → KK h h2 = some ()) (iv : Inv h h2) : z_law_19 SA TB 0 0 118 xs L KK h h2 i = some () := by
  have i1 : fh_in (i + (1 : Int32)) L = true := hi 1 (by decide)
  have i2 : fh_in (i + (2 : Int32)) L = true := hi 2 (by decide)
  have i3 : fh_in (i + (3 : Int32)) L = true := hi 3 (by decide)
  unfold z_law_19 z_L_tails
  rw [i1, ck_N, i2, ck_N, i3, ck_N]
  exact law_x hK (op_tails iv _ _ _)
theorem law_c20 (hi : ∀ d : Nat, d < 7 → fh_in (i + nI d) L = true) (hK : ∀ h h2, Inv h h2 → KK h h2 = some ()) (iv : Inv h h2) : z_law_20 SA TB 0 0 118 xs L KK h h2 i = some () := by
  have i1 : fh_in (i + (1 : Int32)) L = true := hi 1 (by decide)
  have i2 : fh_in (i + (2 : Int32)) L = true := hi 2 (by decide)
  unfold z_law_20 z_L_floor
  rw [i1, ck_N, i2, ck_N]
  exact law_x hK (op_floor iv _ _)
theorem law_c21 (hi : ∀ d : Nat, d < 7 → fh_in (i + nI d) L = true) (hK : ∀ h h2, Inv h h2 → KK h h2 = some ()) (iv : Inv h h2) : z_law_21 SA TB 0 0 118 xs L KK h h2 i = some () := by
  have i1 : fh_in (i + (1 : Int32)) L = true := hi 1 (by decide)
  have i2 : fh_in (i + (2 : Int32)) L = true := hi 2 (by decide)
  have i3 : fh_in (i + (3 : Int32)) L = true := hi 3 (by decide)
  have i4 : fh_in (i + (4 : Int32)) L = true := hi 4 (by decide)
  have i5 : fh_in (i + (5 : Int32)) L = true := hi 5 (by decide)
  have i6 : fh_in (i + (6 : Int32)) L = true := hi 6 (by decide)
  unfold z_law_21 z_L_would
  rw [i1, ck_N, i2, ck_N, i3, ck_N, i4, ck_N, i5, ck_N, i6, ck_N]
  exact law_x hK (op_would iv _ _ _ _ _ _)
theorem law_c22 (hi : ∀ d : Nat, d < 7 → fh_in (i + nI d) L = true) (hK : ∀ h h2, Inv h h2 → KK h h2 = some ()) (iv : Inv h h2) : z_law_22 SA TB 0 0 118 xs L KK h h2 i = some () := by
  have i1 : fh_in (i + (1 : Int32)) L = true := hi 1 (by decide)
  have i2 : fh_in (i + (2 : Int32)) L = true := hi 2 (by decide)
  unfold z_law_22 z_L_often
  rw [i1, ck_N, i2, ck_N]
  exact law_x hK (op_often iv _ _)
theorem law_c23 (hi : ∀ d : Nat, d < 7 → fh_in (i + nI d) L = true) (hK : ∀ h h2, Inv h h2 → KK h h2 = some ()) (iv : Inv h h2) : z_law_23 SA TB 0 0 118 xs L KK h h2 i = some () := by
  have i1 : fh_in (i + (1 : Int32)) L = true := hi 1 (by decide)
  have i2 : fh_in (i + (2 : Int32)) L = true := hi 2 (by decide)
  have i3 : fh_in (i + (3 : Int32)) L = true := hi 3 (by decide)
  unfold z_law_23 z_L_left
  rw [i1, ck_N, i2, ck_N, i3, ck_N]
  exact law_x hK (op_left iv _ _ _)
theorem law_c24 (hi : ∀ d : Nat, d < 7 → fh_in (i + nI d) L = true) (hK : ∀ h h2, Inv h h2 → KK h h2 = some ()) (iv : Inv h h2) : z_law_24 SA TB 0 0 118 xs L KK h h2 i = some () := by
  have i1 : fh_in (i + (1 : Int32)) L = true := hi 1 (by decide)
  have i2 : fh_in (i + (2 : Int32)) L = true := hi 2 (by decide)
  unfold z_law_24 z_L_say
  rw [i1, ck_N, i2, ck_N]
  exact law_x hK (op_say iv _ _)
theorem law_c25 (hi : ∀ d : Nat, d < 7 → fh_in (i + nI d) L = true) (hK : ∀ h h2, Inv h h2 → KK h h2 = some ()) (iv : Inv h h2) : z_law_25 SA TB 0 0 118 xs L KK h h2 i = some () := by
  have i1 : fh_in (i + (1 : Int32)) L = true := hi 1 (by decide)
  unfold z_law_25
  rw [i1, ck_N]
  exact op_said iv _ hK
end
/-! the law's loop -/
theorem law_lt7 : ∀ L, L < 7 → Int32.ofNat L - 7 < 0 := by decide
theorem law_end {L k : Nat} (hk : k < 2 ^ 31) (hL : L ≤ 3584) (h : ¬ Int32.ofNat L - 7 < nI k) : k + 7 ≤ L := by
  by_cases c : L < 7
  · have h1 := law_lt7 L c
    have h2 : ¬ nI k < 0 := nI_pos hk
    rw [Int32.lt_iff_toInt_lt] at h h1 h2
    exact absurd (Int.lt_of_lt_of_le h1 (Int.not_lt.mp h2)) h
  · have e : Int32.ofNat L - 7 = nI (L - 7) := nI_subn (a := L) (b := 7) (by omega)
    rw [e, i32_nlt, nI_leI (by omega) (by omega)] at h
    omega
theorem law_loop {xs : Nat → Int32} {L : Nat} (hL : L ≤ 3584) : ∀ (m q : Nat) (h h2 : fh_H), q + m = 513 → q ≤ 512 → Inv h h2 → z_law_loop SA TB 0 0 118 xs L m h h2 (nI (7 * q)) = some () := by
  intro m
  induction m with
  | zero => intro q h h2 e1 e2; exact absurd e1 (by omega)
  | succ m ih =>
    intro q h h2 e1 e2 iv
    rw [z_law_loop]
    by_cases c : Int32.ofNat L - 7 < nI (7 * q)
    · rw [if_pos c]
    · rw [if_neg c]
      have hq := law_end (by omega) hL c
      rw [in_n (by omega) (by omega), ck_N, let_N]
      have hi : ∀ d : Nat, d < 7 → fh_in (nI (7 * q) + nI d) L = true := fun d hd => by rw [nI_add]; exact in_n (by omega) (by omega)
      have e7 : nI (7 * q) + 7 = nI (7 * (q + 1)) := nI_add (7 * q) 7
      have hK : ∀ h h2, Inv h h2 → (fun h h2 => fh_let (nI (7 * q) + 7) (fun i1 => z_law_loop SA TB 0 0 118 xs L m h h2 i1)) h h2 = some () := fun h h2 iv => by
        show fh_let (nI (7 * q) + 7) (fun i1 => z_law_loop SA TB 0 0 118 xs L m h h2 i1) = some ()
        rw [let_N, e7]
        exact ih (q + 1) h h2 (by omega) (by omega) iv
      by_cases v0 : xs (nI (7 * q)).toNatClampNeg &&& 31 = 0
      · rw [if_pos v0]; exact law_c0 hi hK iv
      rw [if_neg v0]
      by_cases v1 : xs (nI (7 * q)).toNatClampNeg &&& 31 = 1
      · rw [if_pos v1]; exact law_c1 hi hK iv
      rw [if_neg v1]
      by_cases v2 : xs (nI (7 * q)).toNatClampNeg &&& 31 = 2
      · rw [if_pos v2]; exact law_c2 hi hK iv
      rw [if_neg v2]
      by_cases v3 : xs (nI (7 * q)).toNatClampNeg &&& 31 = 3
      · rw [if_pos v3]; exact law_c3 hi hK iv
      rw [if_neg v3]
      by_cases v4 : xs (nI (7 * q)).toNatClampNeg &&& 31 = 4
      · rw [if_pos v4]; exact law_c4 hi hK iv
      rw [if_neg v4]
      by_cases v5 : xs (nI (7 * q)).toNatClampNeg &&& 31 = 5
      · rw [if_pos v5]; exact law_c5 hi hK iv
      rw [if_neg v5]
      by_cases v6 : xs (nI (7 * q)).toNatClampNeg &&& 31 = 6
      · rw [if_pos v6]; exact law_c6 hi hK iv
      rw [if_neg v6]
      by_cases v7 : xs (nI (7 * q)).toNatClampNeg &&& 31 = 7
      · rw [if_pos v7]; exact law_c7 hi hK iv
      rw [if_neg v7]
      by_cases v8 : xs (nI (7 * q)).toNatClampNeg &&& 31 = 8
      · rw [if_pos v8]; exact law_c8 hi hK iv
      rw [if_neg v8]
      by_cases v9 : xs (nI (7 * q)).toNatClampNeg &&& 31 = 9
      · rw [if_pos v9]; exact law_c9 hi hK iv
      rw [if_neg v9]
      by_cases v10 : xs (nI (7 * q)).toNatClampNeg &&& 31 = 10
      · rw [if_pos v10]; exact law_c10 hi hK iv
      rw [if_neg v10]
      by_cases v11 : xs (nI (7 * q)).toNatClampNeg &&& 31 = 11
      · rw [if_pos v11]; exact law_c11 hi hK iv
      rw [if_neg v11]
      by_cases v12 : xs (nI (7 * q)).toNatClampNeg &&& 31 = 12
      · rw [if_pos v12]; exact law_c12 hi hK iv
      rw [if_neg v12]
      by_cases v13 : xs (nI (7 * q)).toNatClampNeg &&& 31 = 13
      · rw [if_pos v13]; exact law_c13 hi hK iv
      rw [if_neg v13]
      by_cases v14 : xs (nI (7 * q)).toNatClampNeg &&& 31 = 14
      · rw [if_pos v14]; exact law_c14 hi hK iv
      rw [if_neg v14]
      by_cases v15 : xs (nI (7 * q)).toNatClampNeg &&& 31 = 15
      · rw [if_pos v15]; exact law_c15 hi hK iv
      rw [if_neg v15]
      by_cases v16 : xs (nI (7 * q)).toNatClampNeg &&& 31 = 16
      · rw [if_pos v16]; exact law_c16 hi hK iv
      rw [if_neg v16]
      by_cases v17 : xs (nI (7 * q)).toNatClampNeg &&& 31 = 17
      · rw [if_pos v17]; exact law_c17 hi hK iv
      rw [if_neg v17]
      by_cases v18 : xs (nI (7 * q)).toNatClampNeg &&& 31 = 18
      · rw [if_pos v18]; exact law_c18 hi hK iv
      rw [if_neg v18]
      by_cases v19 : xs (nI (7 * q)).toNatClampNeg &&& 31 = 19
      · rw [if_pos v19]; exact law_c19 hi hK iv
      rw [if_neg v19]
      by_cases v20 : xs (nI (7 * q)).toNatClampNeg &&& 31 = 20
      · rw [if_pos v20]; exact law_c20 hi hK iv
      rw [if_neg v20]
      by_cases v21 : xs (nI (7 * q)).toNatClampNeg &&& 31 = 21
      · rw [if_pos v21]; exact law_c21 hi hK iv
      rw [if_neg v21]
      by_cases v22 : xs (nI (7 * q)).toNatClampNeg &&& 31 = 22
      · rw [if_pos v22]; exact law_c22 hi hK iv
      rw [if_neg v22]
      by_cases v23 : xs (nI (7 * q)).toNatClampNeg &&& 31 = 23
      · rw [if_pos v23]; exact law_c23 hi hK iv
      rw [if_neg v23]
      by_cases v24 : xs (nI (7 * q)).toNatClampNeg &&& 31 = 24
      · rw [if_pos v24]; exact law_c24 hi hK iv
      rw [if_neg v24]
      by_cases v25 : xs (nI (7 * q)).toNatClampNeg &&& 31 = 25
      · rw [if_pos v25]; exact law_c25 hi hK iv
      rw [if_neg v25]
      exact hK h h2 iv
