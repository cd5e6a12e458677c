/-! TermRowsModel.byteAt(I)I -/
def z_X12_byteAt (S : fh_S) (h : fh_H) (a : Nat) (x1 : Int32) : Option Int32 :=
    if (h.1 a 36) ≤ x1 then (some (-1 : Int32)) else (fh_b1 (h.2.2 a 33) (fun j2 => fh_ck (fh_kq S j2 13) (fh_ck (fh_in x1 (S.2.2 j2)) (some (h.1 j2 (Int32.toNatClampNeg x1))))))
set_option maxHeartbeats 4000000 in
set_option maxRecDepth 100000 in
theorem k_X12_byteAt {l : Launch} {S : fh_S} {g : fh_G} {h : fh_H} (hj : fh_inj S g) {a : Nat} {x1 : Int32} {r : Int32} (ha : fh_kq S a 12 = true) (hsp : z_X12_byteAt S h a x1 = some r) : fh_M l yX12_byteAt cX12_byteAt 2 (some .int) (fh_rm 1) S g [.ref (g.2.2 a), .int x1] h (some (.int r)) h := by
  unfold z_X12_byteAt at hsp
  refine fr_head (own := RX12) (by decide) rfl hj (Nat.le_of_ble_eq_true rfl) ?_
  intro p e s m below meth c ls C hr hlocks hR hl
  have hl : lv_has ls 2 [(0, .ref (g.2.2 a)), (1, .int x1)] := hl
  have hx := C.1.1
  have hb := C.1.2.1
  refine lv_iload_n hx hb dX12_byteAt_0 rfl (lv_at hl 1 rfl) ?_
  refine lv_aload_n hx hb dX12_byteAt_1 rfl (lv_at hl 0 rfl) ?_
  refine fr_geti C hR ha Fg_RX12_386 rfl dX12_byteAt_2 ?_
  refine lv_icmp_ge (tgt := 17) hx hb dX12_byteAt_5 (by decide) (fun c1 => ?_) (fun c1 => ?_)
  · rw [if_pos c1] at hsp
    refine lv_iconst (v := -1) hx hb dX12_byteAt_17 (by decide) ?_
    have e1 := fr_s1 hsp
    exact fr_iret C hr hlocks hR e1 rfl dX12_byteAt_18
  · rw [if_neg c1] at hsp
    refine lv_aload_n hx hb dX12_byteAt_8 rfl (lv_at hl 0 rfl) ?_
    obtain ⟨j2, hv3, hsp⟩ := fr_b1 hsp
    refine fr_getr C hR ha Fg_RX12_56 rfl hv3 dX12_byteAt_9 ?_
    refine lv_iload_n hx hb dX12_byteAt_12 rfl (lv_at hl 1 rfl) ?_
    obtain ⟨hk4, hsp⟩ := fr_ck hsp
    obtain ⟨hi5, hsp⟩ := fr_ck hsp
    refine fr_iald C hR hk4 hi5 dX12_byteAt_13 ?_
    refine lv_goto (tgt := 18) hx hb dX12_byteAt_14 (by decide) ?_
    have e1 := fr_s1 hsp
    exact fr_iret C hr hlocks hR e1 rfl dX12_byteAt_18

/-! TermRowsModel.isSmall(I)Z -/
def z_X12_isSmall (x0 : Int32) : Option Int32 :=
    if x0 < (97 : Int32) then (some (0 : Int32)) else (if (122 : Int32) < x0 then (some (0 : Int32)) else (some (1 : Int32)))
set_option maxHeartbeats 4000000 in
set_option maxRecDepth 100000 in
theorem k_X12_isSmall {l : Launch} {S : fh_S} {g : fh_G} {h : fh_H} (hj : fh_inj S g) {x0 : Int32} {r : Int32} (hsp : z_X12_isSmall x0 = some r) : fh_M l yX12_isSmall cX12_isSmall 1 (some .boolean) (fh_rm 1) S g [.int x0] h (some (.int r)) h := by
  unfold z_X12_isSmall at hsp
  refine fr_head (own := RX12) (by decide) rfl hj (Nat.le_of_ble_eq_true rfl) ?_
  intro p e s m below meth c ls C hr hlocks hR hl
  have hl : lv_has ls 1 [(0, .int x0)] := hl
  have hx := C.1.1
  have hb := C.1.2.1
  refine lv_iload_n hx hb dX12_isSmall_0 rfl (lv_at hl 0 rfl) ?_
  refine lv_bipush (v := 97) hx hb dX12_isSmall_1 (by decide) ?_
  refine lv_icmp_lt (tgt := 16) hx hb dX12_isSmall_3 (by decide) (fun c1 => ?_) (fun c1 => ?_)
  · rw [if_pos c1] at hsp
    refine lv_iconst (v := 0) hx hb dX12_isSmall_16 (by decide) ?_
    have e1 := fr_s1 hsp
    exact fr_zret C hr hlocks hR (Or.inl rfl) e1 rfl dX12_isSmall_17
  · rw [if_neg c1] at hsp
    refine lv_iload_n hx hb dX12_isSmall_6 rfl (lv_at hl 0 rfl) ?_
    refine lv_bipush (v := 122) hx hb dX12_isSmall_7 (by decide) ?_
    refine lv_icmp_gt (tgt := 16) hx hb dX12_isSmall_9 (by decide) (fun c2 => ?_) (fun c2 => ?_)
    · rw [if_pos c2] at hsp
      refine lv_iconst (v := 0) hx hb dX12_isSmall_16 (by decide) ?_
      have e1 := fr_s1 hsp
      exact fr_zret C hr hlocks hR (Or.inl rfl) e1 rfl dX12_isSmall_17
    · rw [if_neg c2] at hsp
      refine lv_iconst (v := 1) hx hb dX12_isSmall_12 (by decide) ?_
      refine lv_goto (tgt := 17) hx hb dX12_isSmall_13 (by decide) ?_
      have e1 := fr_s1 hsp
      exact fr_zret C hr hlocks hR (Or.inr rfl) e1 rfl dX12_isSmall_17

/-! TermRowsModel.isFigure(I)Z -/
def z_X12_isFigure (x0 : Int32) : Option Int32 :=
    if x0 < (48 : Int32) then (some (0 : Int32)) else (if (57 : Int32) < x0 then (some (0 : Int32)) else (some (1 : Int32)))
set_option maxHeartbeats 4000000 in
set_option maxRecDepth 100000 in
theorem k_X12_isFigure {l : Launch} {S : fh_S} {g : fh_G} {h : fh_H} (hj : fh_inj S g) {x0 : Int32} {r : Int32} (hsp : z_X12_isFigure x0 = some r) : fh_M l yX12_isFigure cX12_isFigure 1 (some .boolean) (fh_rm 1) S g [.int x0] h (some (.int r)) h := by
  unfold z_X12_isFigure at hsp
  refine fr_head (own := RX12) (by decide) rfl hj (Nat.le_of_ble_eq_true rfl) ?_
  intro p e s m below meth c ls C hr hlocks hR hl
  have hl : lv_has ls 1 [(0, .int x0)] := hl
  have hx := C.1.1
  have hb := C.1.2.1
  refine lv_iload_n hx hb dX12_isFigure_0 rfl (lv_at hl 0 rfl) ?_
  refine lv_bipush (v := 48) hx hb dX12_isFigure_1 (by decide) ?_
  refine lv_icmp_lt (tgt := 16) hx hb dX12_isFigure_3 (by decide) (fun c1 => ?_) (fun c1 => ?_)
  · rw [if_pos c1] at hsp
    refine lv_iconst (v := 0) hx hb dX12_isFigure_16 (by decide) ?_
    have e1 := fr_s1 hsp
    exact fr_zret C hr hlocks hR (Or.inl rfl) e1 rfl dX12_isFigure_17
  · rw [if_neg c1] at hsp
    refine lv_iload_n hx hb dX12_isFigure_6 rfl (lv_at hl 0 rfl) ?_
    refine lv_bipush (v := 57) hx hb dX12_isFigure_7 (by decide) ?_
    refine lv_icmp_gt (tgt := 16) hx hb dX12_isFigure_9 (by decide) (fun c2 => ?_) (fun c2 => ?_)
    · rw [if_pos c2] at hsp
      refine lv_iconst (v := 0) hx hb dX12_isFigure_16 (by decide) ?_
      have e1 := fr_s1 hsp
      exact fr_zret C hr hlocks hR (Or.inl rfl) e1 rfl dX12_isFigure_17
    · rw [if_neg c2] at hsp
      refine lv_iconst (v := 1) hx hb dX12_isFigure_12 (by decide) ?_
      refine lv_goto (tgt := 17) hx hb dX12_isFigure_13 (by decide) ?_
      have e1 := fr_s1 hsp
      exact fr_zret C hr hlocks hR (Or.inr rfl) e1 rfl dX12_isFigure_17

/-! TermRowsModel.wrong(I)V -/
def z_X12_wrong (S : fh_S) (h : fh_H) (a : Nat) (x1 : Int32) : Option fh_H :=
    if (h.1 a 41) = 0 then (fh_let (fh_sI h a 41 x1) (fun h2 => fh_let (fh_sI h2 a 42 (h2.1 a 39)) (fun h3 => some h3))) else (some h)
set_option maxHeartbeats 4000000 in
set_option maxRecDepth 100000 in
theorem k_X12_wrong {l : Launch} {S : fh_S} {g : fh_G} {h h' : fh_H} (hj : fh_inj S g) {a : Nat} {x1 : Int32} (ha : fh_kq S a 12 = true) (hsp : z_X12_wrong S h a x1 = some h') : fh_M l yX12_wrong cX12_wrong 2 none (fh_rm 1) S g [.ref (g.2.2 a), .int x1] h none h' := by
  unfold z_X12_wrong at hsp
  refine fr_head (own := RX12) (by decide) rfl hj (Nat.le_of_ble_eq_true rfl) ?_
  intro p e s m below meth c ls C hr hlocks hR hl
  have hl : lv_has ls 2 [(0, .ref (g.2.2 a)), (1, .int x1)] := hl
  have hx := C.1.1
  have hb := C.1.2.1
  refine lv_aload_n hx hb dX12_wrong_0 rfl (lv_at hl 0 rfl) ?_
  refine fr_geti C hR ha Fg_RX12_410 rfl dX12_wrong_1 ?_
  refine lv_if_eq (tgt := 8) hx hb dX12_wrong_4 (by decide) (fun c1 => ?_) (fun c1 => ?_)
  · rw [if_pos c1] at hsp
    refine lv_aload_n hx hb dX12_wrong_8 rfl (lv_at hl 0 rfl) ?_
    refine lv_iload_n hx hb dX12_wrong_9 rfl (lv_at hl 1 rfl) ?_
    refine fr_puti C hR ha Fp_RX12_410 rfl dX12_wrong_10 (fun H locs hR => ?_)
    obtain ⟨h2, eh2⟩ : ∃ z, z = fh_sI h a 41 x1 := ⟨_, rfl⟩
    rw [← eh2] at hR
    have hsp := fr_let eh2 hsp
    refine lv_aload_n hx hb dX12_wrong_13 rfl (lv_at hl 0 rfl) ?_
    refine lv_aload_n hx hb dX12_wrong_14 rfl (lv_at hl 0 rfl) ?_
    refine fr_geti C hR ha Fg_RX12_395 rfl dX12_wrong_15 ?_
    refine fr_puti C hR ha Fp_RX12_419 rfl dX12_wrong_18 (fun H locs hR => ?_)
    obtain ⟨h3, eh3⟩ : ∃ z, z = fh_sI h2 a 42 (h2.1 a 39) := ⟨_, rfl⟩
    rw [← eh3] at hR
    have hsp := fr_let eh3 hsp
    exact fr_vret C hr hlocks hR (fr_s1 hsp) dX12_wrong_21
  · rw [if_neg c1] at hsp
    exact fr_vret C hr hlocks hR (fr_s1 hsp) dX12_wrong_7

/-! TermRowsModel.isSign(I)Z -/
def z_X12_isSign (S : fh_S) (h : fh_H) (a : Nat) (x1 : Int32) : Option Int32 :=
    if (h.1 a 41) = 0 then (if (h.1 a 38) = (3 : Int32) then (fh_b1 (h.2.2 a 33) (fun j3 => fh_ck (fh_kq S j3 13) (fh_ck (fh_in (h.1 a 39) (S.2.2 j3)) (if (h.1 j3 (Int32.toNatClampNeg (h.1 a 39))) = x1 then (some (1 : Int32)) else (some (0 : Int32)))))) else (some (0 : Int32))) else (some (0 : Int32))
set_option maxHeartbeats 4000000 in
set_option maxRecDepth 100000 in
theorem k_X12_isSign {l : Launch} {S : fh_S} {g : fh_G} {h : fh_H} (hj : fh_inj S g) {a : Nat} {x1 : Int32} {r : Int32} (ha : fh_kq S a 12 = true) (hsp : z_X12_isSign S h a x1 = some r) : fh_M l yX12_isSign cX12_isSign 2 (some .boolean) (fh_rm 1) S g [.ref (g.2.2 a), .int x1] h (some (.int r)) h := by
  unfold z_X12_isSign at hsp
  refine fr_head (own := RX12) (by decide) rfl hj (Nat.le_of_ble_eq_true rfl) ?_
  intro p e s m below meth c ls C hr hlocks hR hl
  have hl : lv_has ls 2 [(0, .ref (g.2.2 a)), (1, .int x1)] := hl
  have hx := C.1.1
  have hb := C.1.2.1
  refine lv_aload_n hx hb dX12_isSign_0 rfl (lv_at hl 0 rfl) ?_
  refine fr_geti C hR ha Fg_RX12_410 rfl dX12_isSign_1 ?_
  refine lv_if_ne (tgt := 32) hx hb dX12_isSign_4 (by decide) (fun c1 => ?_) (fun c1 => ?_)
  · rw [if_neg c1] at hsp
    refine lv_iconst (v := 0) hx hb dX12_isSign_32 (by decide) ?_
    have e1 := fr_s1 hsp
    exact fr_zret C hr hlocks hR (Or.inl rfl) e1 rfl dX12_isSign_33
  · rw [if_pos c1] at hsp
    refine lv_aload_n hx hb dX12_isSign_7 rfl (lv_at hl 0 rfl) ?_
    refine fr_geti C hR ha Fg_RX12_398 rfl dX12_isSign_8 ?_
    refine lv_iconst (v := 3) hx hb dX12_isSign_11 (by decide) ?_
    refine lv_icmp_ne (tgt := 32) hx hb dX12_isSign_12 (by decide) (fun c2 => ?_) (fun c2 => ?_)
    · rw [if_neg c2] at hsp
      refine lv_iconst (v := 0) hx hb dX12_isSign_32 (by decide) ?_
      have e1 := fr_s1 hsp
      exact fr_zret C hr hlocks hR (Or.inl rfl) e1 rfl dX12_isSign_33
    · rw [if_pos c2] at hsp
      refine lv_aload_n hx hb dX12_isSign_15 rfl (lv_at hl 0 rfl) ?_
      obtain ⟨j3, hv4, hsp⟩ := fr_b1 hsp
      refine fr_getr C hR ha Fg_RX12_56 rfl hv4 dX12_isSign_16 ?_
      refine lv_aload_n hx hb dX12_isSign_19 rfl (lv_at hl 0 rfl) ?_
      refine fr_geti C hR ha Fg_RX12_395 rfl dX12_isSign_20 ?_
      obtain ⟨hk5, hsp⟩ := fr_ck hsp
      obtain ⟨hi6, hsp⟩ := fr_ck hsp
      refine fr_iald C hR hk5 hi6 dX12_isSign_23 ?_
      refine lv_iload_n hx hb dX12_isSign_24 rfl (lv_at hl 1 rfl) ?_
      refine lv_icmp_ne (tgt := 32) hx hb dX12_isSign_25 (by decide) (fun c7 => ?_) (fun c7 => ?_)
      · rw [if_neg c7] at hsp
        refine lv_iconst (v := 0) hx hb dX12_isSign_32 (by decide) ?_
        have e1 := fr_s1 hsp
        exact fr_zret C hr hlocks hR (Or.inl rfl) e1 rfl dX12_isSign_33
      · rw [if_pos c7] at hsp
        refine lv_iconst (v := 1) hx hb dX12_isSign_28 (by decide) ?_
        refine lv_goto (tgt := 33) hx hb dX12_isSign_29 (by decide) ?_
        have e1 := fr_s1 hsp
        exact fr_zret C hr hlocks hR (Or.inr rfl) e1 rfl dX12_isSign_33

/-! TermRowsModel.ends()I -/
def z_X12_ends (S : fh_S) (h : fh_H) (a : Nat) : Option (Int32 × fh_H) :=
    fh_let (fh_sI h a 35 (0 : Int32)) (fun h1 => if (h1.1 a 41) = 0 then (fh_let (fh_sI h1 a 43 (-1 : Int32)) (fun h4 => some ((h4.1 a 41), h4))) else (fh_let (fh_sI h1 a 43 (h1.1 a 42)) (fun h3 => some ((h3.1 a 41), h3))))
set_option maxHeartbeats 4000000 in
set_option maxRecDepth 100000 in
theorem k_X12_ends {l : Launch} {S : fh_S} {g : fh_G} {h h' : fh_H} (hj : fh_inj S g) {a : Nat} {r : Int32} (ha : fh_kq S a 12 = true) (hsp : z_X12_ends S h a = some (r, h')) : fh_M l yX12_ends cX12_ends 1 (some .int) (fh_rm 1) S g [.ref (g.2.2 a)] h (some (.int r)) h' := by
  unfold z_X12_ends at hsp
  refine fr_head (own := RX12) (by decide) rfl hj (Nat.le_of_ble_eq_true rfl) ?_
  intro p e s m below meth c ls C hr hlocks hR hl
  have hl : lv_has ls 1 [(0, .ref (g.2.2 a))] := hl
  have hx := C.1.1
  have hb := C.1.2.1
  refine lv_aload_n hx hb dX12_ends_0 rfl (lv_at hl 0 rfl) ?_
  refine lv_iconst (v := 0) hx hb dX12_ends_1 (by decide) ?_
  refine fr_puti C hR ha Fp_RX12_289 rfl dX12_ends_2 (fun H locs hR => ?_)
  obtain ⟨h1, eh1⟩ : ∃ z, z = fh_sI h a 35 (0 : Int32) := ⟨_, rfl⟩
  rw [← eh1] at hR
  have hsp := fr_let eh1 hsp
  refine lv_aload_n hx hb dX12_ends_5 rfl (lv_at hl 0 rfl) ?_
  refine lv_aload_n hx hb dX12_ends_6 rfl (lv_at hl 0 rfl) ?_
  refine fr_geti C hR ha Fg_RX12_410 rfl dX12_ends_7 ?_
  refine lv_if_ne (tgt := 17) hx hb dX12_ends_10 (by decide) (fun c2 => ?_) (fun c2 => ?_)
  · rw [if_neg c2] at hsp
    refine lv_aload_n hx hb dX12_ends_17 rfl (lv_at hl 0 rfl) ?_
    refine fr_geti C hR ha Fg_RX12_419 rfl dX12_ends_18 ?_
    refine fr_puti C hR ha Fp_RX12_62 rfl dX12_ends_21 (fun H locs hR => ?_)
    obtain ⟨h3, eh3⟩ : ∃ z, z = fh_sI h1 a 43 (h1.1 a 42) := ⟨_, rfl⟩
    rw [← eh3] at hR
    have hsp := fr_let eh3 hsp
    refine lv_aload_n hx hb dX12_ends_24 rfl (lv_at hl 0 rfl) ?_
    refine fr_geti C hR ha Fg_RX12_410 rfl dX12_ends_25 ?_
    obtain ⟨e1, e2⟩ := fr_s2 hsp
    exact fr_iret C hr hlocks hR e1 e2 dX12_ends_28
  · rw [if_pos c2] at hsp
    refine lv_iconst (v := -1) hx hb dX12_ends_13 (by decide) ?_
    refine lv_goto (tgt := 21) hx hb dX12_ends_14 (by decide) ?_
    refine fr_puti C hR ha Fp_RX12_62 rfl dX12_ends_21 (fun H locs hR => ?_)
    obtain ⟨h4, eh4⟩ : ∃ z, z = fh_sI h1 a 43 (-1 : Int32) := ⟨_, rfl⟩
    rw [← eh4] at hR
    have hsp := fr_let eh4 hsp
    refine lv_aload_n hx hb dX12_ends_24 rfl (lv_at hl 0 rfl) ?_
    refine fr_geti C hR ha Fg_RX12_410 rfl dX12_ends_25 ?_
    obtain ⟨e1, e2⟩ := fr_s2 hsp
    exact fr_iret C hr hlocks hR e1 e2 dX12_ends_28

/-! TermRowsModel.keepsTerm(I)V -/
def z_X12_keepsTerm (S : fh_S) (h : fh_H) (a : Nat) (x1 : Int32) : Option fh_H :=
    if (h.1 a 41) = 0 then (fh_b1 (h.2.2 a 34) (fun j2 => fh_ck (fh_kq S j2 13) (fh_ck (fh_in ((h.1 a 45) + (h.1 a 46)) (S.2.2 j2)) (fh_let (fh_sI h j2 (Int32.toNatClampNeg ((h.1 a 45) + (h.1 a 46))) x1) (fun h6 => if (h6.1 a 44) ≤ 0 then (fh_let (fh_sI h6 a 45 ((h6.1 a 45) + (1 : Int32))) (fun h8 => some h8)) else (fh_let (fh_sI h6 a 46 ((h6.1 a 46) + (1 : Int32))) (fun h9 => some h9))))))) else (some h)
set_option maxHeartbeats 4000000 in
set_option maxRecDepth 100000 in
theorem k_X12_keepsTerm {l : Launch} {S : fh_S} {g : fh_G} {h h' : fh_H} (hj : fh_inj S g) {a : Nat} {x1 : Int32} (ha : fh_kq S a 12 = true) (hsp : z_X12_keepsTerm S h a x1 = some h') : fh_M l yX12_keepsTerm cX12_keepsTerm 2 none (fh_rm 1) S g [.ref (g.2.2 a), .int x1] h none h' := by
  unfold z_X12_keepsTerm at hsp
  refine fr_head (own := RX12) (by decide) rfl hj (Nat.le_of_ble_eq_true rfl) ?_
  intro p e s m below meth c ls C hr hlocks hR hl
  have hl : lv_has ls 2 [(0, .ref (g.2.2 a)), (1, .int x1)] := hl
  have hx := C.1.1
  have hb := C.1.2.1
  refine lv_aload_n hx hb dX12_keepsTerm_0 rfl (lv_at hl 0 rfl) ?_
  refine fr_geti C hR ha Fg_RX12_410 rfl dX12_keepsTerm_1 ?_
  refine lv_if_eq (tgt := 8) hx hb dX12_keepsTerm_4 (by decide) (fun c1 => ?_) (fun c1 => ?_)
  · rw [if_pos c1] at hsp
    refine lv_aload_n hx hb dX12_keepsTerm_8 rfl (lv_at hl 0 rfl) ?_
    obtain ⟨j2, hv3, hsp⟩ := fr_b1 hsp
    refine fr_getr C hR ha Fg_RX12_59 rfl hv3 dX12_keepsTerm_9 ?_
    refine lv_aload_n hx hb dX12_keepsTerm_12 rfl (lv_at hl 0 rfl) ?_
    refine fr_geti C hR ha Fg_RX12_441 rfl dX12_keepsTerm_13 ?_
    refine lv_aload_n hx hb dX12_keepsTerm_16 rfl (lv_at hl 0 rfl) ?_
    refine fr_geti C hR ha Fg_RX12_444 rfl dX12_keepsTerm_17 ?_
    refine lv_iadd hx hb dX12_keepsTerm_20 ?_
    refine lv_iload_n hx hb dX12_keepsTerm_21 rfl (lv_at hl 1 rfl) ?_
    obtain ⟨hk4, hsp⟩ := fr_ck hsp
    obtain ⟨hi5, hsp⟩ := fr_ck hsp
    refine fr_iast C hR hk4 hi5 dX12_keepsTerm_22 (fun H locs hR => ?_)
    obtain ⟨h6, eh6⟩ : ∃ z, z = fh_sI h j2 (Int32.toNatClampNeg ((h.1 a 45) + (h.1 a 46))) x1 := ⟨_, rfl⟩
    rw [← eh6] at hR
    have hsp := fr_let eh6 hsp
    refine lv_aload_n hx hb dX12_keepsTerm_23 rfl (lv_at hl 0 rfl) ?_
    refine fr_geti C hR ha Fg_RX12_413 rfl dX12_keepsTerm_24 ?_
    refine lv_if_le (tgt := 43) hx hb dX12_keepsTerm_27 (by decide) (fun c7 => ?_) (fun c7 => ?_)
    · rw [if_pos c7] at hsp
      refine lv_aload_n hx hb dX12_keepsTerm_43 rfl (lv_at hl 0 rfl) ?_
      refine lv_dup hx hb dX12_keepsTerm_44 rfl ?_
      refine fr_geti C hR ha Fg_RX12_441 rfl dX12_keepsTerm_45 ?_
      refine lv_iconst (v := 1) hx hb dX12_keepsTerm_48 (by decide) ?_
      refine lv_iadd hx hb dX12_keepsTerm_49 ?_
      refine fr_puti C hR ha Fp_RX12_441 rfl dX12_keepsTerm_50 (fun H locs hR => ?_)
      obtain ⟨h8, eh8⟩ : ∃ z, z = fh_sI h6 a 45 ((h6.1 a 45) + (1 : Int32)) := ⟨_, rfl⟩
      rw [← eh8] at hR
      have hsp := fr_let eh8 hsp
      exact fr_vret C hr hlocks hR (fr_s1 hsp) dX12_keepsTerm_53
    · rw [if_neg c7] at hsp
      refine lv_aload_n hx hb dX12_keepsTerm_30 rfl (lv_at hl 0 rfl) ?_
      refine lv_dup hx hb dX12_keepsTerm_31 rfl ?_
      refine fr_geti C hR ha Fg_RX12_444 rfl dX12_keepsTerm_32 ?_
      refine lv_iconst (v := 1) hx hb dX12_keepsTerm_35 (by decide) ?_
      refine lv_iadd hx hb dX12_keepsTerm_36 ?_
      refine fr_puti C hR ha Fp_RX12_444 rfl dX12_keepsTerm_37 (fun H locs hR => ?_)
      obtain ⟨h9, eh9⟩ : ∃ z, z = fh_sI h6 a 46 ((h6.1 a 46) + (1 : Int32)) := ⟨_, rfl⟩
      rw [← eh9] at hR
      have hsp := fr_let eh9 hsp
      refine lv_goto (tgt := 53) hx hb dX12_keepsTerm_40 (by decide) ?_
      exact fr_vret C hr hlocks hR (fr_s1 hsp) dX12_keepsTerm_53
  · rw [if_neg c1] at hsp
    exact fr_vret C hr hlocks hR (fr_s1 hsp) dX12_keepsTerm_7

/-! TermRowsModel.isRow(I)Z -/
def z_X12_isRow (x0 : Int32) : Option Int32 :=
    fh_b1 (z_X12_isIn (Int32.toInt64 x0) (0 : Int64) (9 : Int64)) (fun r1 => fh_ck (decide (r1 = 0 ∨ r1 = 1)) (some r1))
set_option maxHeartbeats 4000000 in
set_option maxRecDepth 100000 in
theorem k_X12_isRow {l : Launch} {S : fh_S} {g : fh_G} {h : fh_H} (hj : fh_inj S g) {x0 : Int32} {r : Int32} (hsp : z_X12_isRow x0 = some r) : fh_M l yX12_isRow cX12_isRow 1 (some .boolean) (fh_rm 2) S g [.int x0] h (some (.int r)) h := by
  unfold z_X12_isRow at hsp
  refine fr_head (own := RX12) (by decide) rfl hj (Nat.le_of_ble_eq_true rfl) ?_
  intro p e s m below meth c ls C hr hlocks hR hl
  have hl : lv_has ls 1 [(0, .int x0)] := hl
  have hx := C.1.1
  have hb := C.1.2.1
  refine lv_iload_n hx hb dX12_isRow_0 rfl (lv_at hl 0 rfl) ?_
  refine lv_i2l hx hb dX12_isRow_1 rfl ?_
  refine lv_lconst (v := 0) hx hb dX12_isRow_2 (by decide) ?_
  refine lv_ldc2 hx hb C.1.2.2.2.1 (C.1.2.2.2.2 _ Kc_RX12_76) dX12_isRow_3 ?_
  obtain ⟨r1, E2, hsp⟩ := fr_b1 hsp
  refine fq_callS (rest := []) (st1 := [.int r1]) C hR (k_X12_isIn C.2.2 E2) Y_X12_isIn YS_X12_isIn Lk_RX12_78 rfl hl.1 ⟨Nat.le_of_ble_eq_true rfl, Nat.le_of_ble_eq_true rfl⟩ rfl (Nat.le_of_ble_eq_true rfl) ⟨Nat.zero_le _, Nat.zero_le _⟩ rfl dX12_isRow_6 (fun H locs hR => ?_)
  obtain ⟨hz3, hsp⟩ := fr_ck hsp
  have e1 := fr_s1 hsp
  exact fr_zret C hr hlocks hR (of_decide_eq_true hz3) e1 rfl dX12_isRow_9

/-! TermRowsModel.isKnown(II)Z -/
def z_X12_isKnown (S : fh_S) (h : fh_H) (a : Nat) (x1 : Int32) (x2 : Int32) : Option Int32 :=
    fh_b1 (h.2.2 a 5) (fun j1 => fh_ck (fh_kq S j1 13) (fh_ck (fh_in x1 (S.2.2 j1)) (fh_b1 (z_X12_isIn (Int32.toInt64 x2) (0 : Int64) (Int32.toInt64 ((h.1 j1 (Int32.toNatClampNeg x1)) - (1 : Int32)))) (fun r5 => fh_ck (decide (r5 = 0 ∨ r5 = 1)) (some r5)))))
set_option maxHeartbeats 4000000 in
set_option maxRecDepth 100000 in
theorem k_X12_isKnown {l : Launch} {S : fh_S} {g : fh_G} {h : fh_H} (hj : fh_inj S g) {a : Nat} {x1 : Int32} {x2 : Int32} {r : Int32} (ha : fh_kq S a 12 = true) (hsp : z_X12_isKnown S h a x1 x2 = some r) : fh_M l yX12_isKnown cX12_isKnown 3 (some .boolean) (fh_rm 2) S g [.ref (g.2.2 a), .int x1, .int x2] h (some (.int r)) h := by
  unfold z_X12_isKnown at hsp
  refine fr_head (own := RX12) (by decide) rfl hj (Nat.le_of_ble_eq_true rfl) ?_
  intro p e s m below meth c ls C hr hlocks hR hl
  have hl : lv_has ls 3 [(0, .ref (g.2.2 a)), (1, .int x1), (2, .int x2)] := hl
  have hx := C.1.1
  have hb := C.1.2.1
  refine lv_iload_n hx hb dX12_isKnown_0 rfl (lv_at hl 2 rfl) ?_
  refine lv_i2l hx hb dX12_isKnown_1 rfl ?_
  refine lv_lconst (v := 0) hx hb dX12_isKnown_2 (by decide) ?_
  refine lv_aload_n hx hb dX12_isKnown_3 rfl (lv_at hl 0 rfl) ?_
  obtain ⟨j1, hv2, hsp⟩ := fr_b1 hsp
  refine fr_getr C hR ha Fg_RX12_19 rfl hv2 dX12_isKnown_4 ?_
  refine lv_iload_n hx hb dX12_isKnown_7 rfl (lv_at hl 1 rfl) ?_
  obtain ⟨hk3, hsp⟩ := fr_ck hsp
  obtain ⟨hi4, hsp⟩ := fr_ck hsp
  refine fr_iald C hR hk3 hi4 dX12_isKnown_8 ?_
  refine lv_iconst (v := 1) hx hb dX12_isKnown_9 (by decide) ?_
  refine lv_isub hx hb dX12_isKnown_10 ?_
  refine lv_i2l hx hb dX12_isKnown_11 rfl ?_
  obtain ⟨r5, E6, hsp⟩ := fr_b1 hsp
  refine fq_callS (rest := []) (st1 := [.int r5]) C hR (k_X12_isIn C.2.2 E6) Y_X12_isIn YS_X12_isIn Lk_RX12_78 rfl hl.1 ⟨Nat.le_of_ble_eq_true rfl, Nat.le_of_ble_eq_true rfl⟩ rfl (Nat.le_of_ble_eq_true rfl) ⟨Nat.zero_le _, Nat.zero_le _⟩ rfl dX12_isKnown_12 (fun H locs hR => ?_)
  obtain ⟨hz7, hsp⟩ := fr_ck hsp
  have e1 := fr_s1 hsp
  exact fr_zret C hr hlocks hR (of_decide_eq_true hz7) e1 rfl dX12_isKnown_15

/-! TermRowsModel.divides(IJJ)V -/
def z_X12_divides_b93 (S : fh_S) (a : Nat) (h : fh_H) (y1 : Int32) (y10 : Int32) : Option fh_H :=
    if y10 = 0 then (some h) else (fh_b1 (h.2.2 a 6) (fun j2 => fh_ck (fh_kq S j2 13) (fh_ck (fh_in y1 (S.2.2 j2)) (fh_let (fh_sI h j2 (Int32.toNatClampNeg y1) (1 : Int32)) (fun h6 => some h6)))))
def z_X12_divides_b42 (S : fh_S) (a : Nat) : Nat → fh_H → Int32 → Int64 → Int64 → Int32 → Option fh_H
  | 0, _, _, _, _, _ => none
  | n + 1, h, y1, y6, y8, y10 =>
    if y10 = 0 then (z_X12_divides_b93 S a h y1 y10) else (if y8 = (0 : Int64) then (z_X12_divides_b93 S a h y1 y10) else (fh_b1 (z_J9_floorDiv_f86c9 y6 y8) (fun r3 => fh_let ((y6 - (r3 * y8))) (fun v5 => fh_b2 (z_X12_knows S h a y1 r3) (fun r6 h7 => z_X12_divides_b42 S a n h7 y1 y8 v5 r6)))))
def z_X12_divides_b30 (S : fh_S) (a : Nat) (h : fh_H) (y1 : Int32) (y6 : Int64) (t0 : Int64) : Option fh_H :=
    fh_b1 (h.2.2 a 6) (fun j1 => fh_ck (fh_kq S j1 13) (fh_ck (fh_in y1 (S.2.2 j1)) (fh_let (fh_sI h j1 (Int32.toNatClampNeg y1) (0 : Int32)) (fun h5 => z_X12_divides_b42 S a 20000 h5 y1 y6 t0 (1 : Int32)))))
def z_X12_divides_b13 (S : fh_S) (a : Nat) (h : fh_H) (y1 : Int32) (y4 : Int64) (t0 : Int64) : Option fh_H :=
    if (0 : Int64) ≤ y4 then (z_X12_divides_b30 S a h y1 t0 y4) else (z_X12_divides_b30 S a h y1 t0 (-y4))
def z_X12_divides (S : fh_S) (h : fh_H) (a : Nat) (x1 : Int32) (x2 : Int64) (x4 : Int64) : Option fh_H :=
    if (0 : Int64) ≤ x4 then (z_X12_divides_b13 S a h x1 x4 x2) else (z_X12_divides_b13 S a h x1 x4 (-x2))
set_option maxHeartbeats 4000000 in
set_option maxRecDepth 100000 in
theorem k_X12_divides {l : Launch} {S : fh_S} {g : fh_G} {h h' : fh_H} (hj : fh_inj S g) {a : Nat} {x1 : Int32} {x2 : Int64} {x4 : Int64} (ha : fh_kq S a 12 = true) (hsp : z_X12_divides S h a x1 x2 x4 = some h') : fh_M l yX12_divides cX12_divides 15 none (fh_rm 2) S g [.ref (g.2.2 a), .int x1, .long x2, .long x4] h none h' := by
  unfold z_X12_divides at hsp
  refine fr_head (own := RX12) (by decide) rfl hj (Nat.le_of_ble_eq_true rfl) ?_
  intro p e s m below meth c ls C hr hlocks hR hl
  have hl : lv_has ls 15 [(0, .ref (g.2.2 a)), (1, .int x1), (2, .long x2), (4, .long x4)] := hl
  have hx := C.1.1
  have hb := C.1.2.1
  have hb_93 : ∀ (h : fh_H) (y1 : Int32) (y10 : Int32) (H : Heap) (locs : List Loc) (ls : Array Slot), z_X12_divides_b93 S a h y1 y10 = some h' → fh_R S g s.heap h H locs → lv_has ls 15 [(0, .ref (g.2.2 a)), (1, .int y1), (10, .int y10)] → fh_Wk p l e 2 s m [.ref (g.2.2 a), .int x1, .long x2, .long x4] below meth c S g none h' H locs (F0 m 93 ls []) := by
    intro h y1 y10 H locs ls hsp hR hl
    unfold z_X12_divides_b93 at hsp
    refine lv_iload hx hb dX12_divides_93 (lv_at hl 2 rfl) ?_
    refine lv_if_eq (tgt := 105) hx hb dX12_divides_95 (by decide) (fun c1 => ?_) (fun c1 => ?_)
    · rw [if_pos c1] at hsp
      exact fr_vret C hr hlocks hR (fr_s1 hsp) dX12_divides_105
    · rw [if_neg c1] at hsp
      refine lv_aload_n hx hb dX12_divides_98 rfl (lv_at hl 0 rfl) ?_
      obtain ⟨j2, hv3, hsp⟩ := fr_b1 hsp
      refine fr_getr C hR ha Fg_RX12_22 rfl hv3 dX12_divides_99 ?_
      refine lv_iload_n hx hb dX12_divides_102 rfl (lv_at hl 1 rfl) ?_
      refine lv_iconst (v := 1) hx hb dX12_divides_103 (by decide) ?_
      obtain ⟨hk4, hsp⟩ := fr_ck hsp
      obtain ⟨hi5, hsp⟩ := fr_ck hsp
      refine fr_iast C hR hk4 hi5 dX12_divides_104 (fun H locs hR => ?_)
      obtain ⟨h6, eh6⟩ : ∃ z, z = fh_sI h j2 (Int32.toNatClampNeg y1) (1 : Int32) := ⟨_, rfl⟩
      rw [← eh6] at hR
      have hsp := fr_let eh6 hsp
      exact fr_vret C hr hlocks hR (fr_s1 hsp) dX12_divides_105
  have hb_42 : ∀ (n : Nat) (h : fh_H) (y1 : Int32) (y6 : Int64) (y8 : Int64) (y10 : Int32) (H : Heap) (locs : List Loc) (ls : Array Slot), z_X12_divides_b42 S a n h y1 y6 y8 y10 = some h' → fh_R S g s.heap h H locs → lv_has ls 15 [(0, .ref (g.2.2 a)), (1, .int y1), (6, .long y6), (8, .long y8), (10, .int y10)] → fh_Wk p l e 2 s m [.ref (g.2.2 a), .int x1, .long x2, .long x4] below meth c S g none h' H locs (F0 m 42 ls []) := by
    intro n
    induction n with
    | zero => intro h y1 y6 y8 y10 H locs ls hsp; cases hsp
    | succ n ih =>
      intro h y1 y6 y8 y10 H locs ls hsp hR hl
      rw [z_X12_divides_b42] at hsp
      refine lv_iload hx hb dX12_divides_42 (lv_at hl 4 rfl) ?_
      refine lv_if_eq (tgt := 93) hx hb dX12_divides_44 (by decide) (fun c1 => ?_) (fun c1 => ?_)
      · rw [if_pos c1] at hsp
        exact hb_93 h y1 y10 _ _ _ hsp hR (lv_sub hl [0, 1, 4] rfl)
      · rw [if_neg c1] at hsp
        refine lv_lload hx hb dX12_divides_47 (lv_at hl 3 rfl) ?_
        refine lv_lconst (v := 0) hx hb dX12_divides_49 (by decide) ?_
        refine fr_lc_eq (tgt := 93) hx hb dX12_divides_50 dX12_divides_51 (by decide) (fun c2 => ?_) (fun c2 => ?_)
        · rw [if_pos c2] at hsp
          exact hb_93 h y1 y10 _ _ _ hsp hR (lv_sub hl [0, 1, 4] rfl)
        · rw [if_neg c2] at hsp
          refine lv_lload hx hb dX12_divides_54 (lv_at hl 2 rfl) ?_
          refine lv_lload hx hb dX12_divides_56 (lv_at hl 3 rfl) ?_
          obtain ⟨r3, E4, hsp⟩ := fr_b1 hsp
          refine fq_callS (rest := []) (st1 := [.long r3]) C hR (k_J9_floorDiv_f86c9 C.2.2 E4) Y_J9_floorDiv_f86c9 YS_J9_floorDiv_f86c9 Lk_RX12_103 rfl hl.1 ⟨Nat.le_of_ble_eq_true rfl, Nat.le_of_ble_eq_true rfl⟩ rfl (Nat.le_of_ble_eq_true rfl) ⟨Nat.zero_le _, Nat.zero_le _⟩ rfl dX12_divides_58 (fun H locs hR => ?_)
          refine lv_lstore (lv' := [(11, .long r3), (0, .ref (g.2.2 a)), (1, .int y1), (6, .long y6), (8, .long y8), (10, .int y10)]) hx hb dX12_divides_61 hl (by decide) rfl (fun ls hl => ?_)
          refine lv_lload hx hb dX12_divides_63 (lv_at hl 3 rfl) ?_
          refine lv_lload hx hb dX12_divides_65 (lv_at hl 0 rfl) ?_
          refine lv_lload hx hb dX12_divides_67 (lv_at hl 4 rfl) ?_
          refine lv_lmul hx hb dX12_divides_69 ?_
          refine lv_lsub hx hb dX12_divides_70 ?_
          refine lv_topl (fun v5 ev5 => ?_)
          have hsp := fr_let ev5 hsp
          refine lv_lstore (lv' := [(13, .long v5), (11, .long r3), (0, .ref (g.2.2 a)), (1, .int y1), (6, .long y6), (8, .long y8), (10, .int y10)]) hx hb dX12_divides_71 hl (by decide) rfl (fun ls hl => ?_)
          refine lv_aload_n hx hb dX12_divides_73 rfl (lv_at hl 2 rfl) ?_
          refine lv_iload_n hx hb dX12_divides_74 rfl (lv_at hl 3 rfl) ?_
          refine lv_lload hx hb dX12_divides_75 (lv_at hl 1 rfl) ?_
          obtain ⟨r6, h7, E8, hsp⟩ := fr_b2 hsp
          refine fq_callV (rest := []) (st1 := [.int r6]) C hR (k_X12_knows C.2.2 ha E8) Y_X12_knows YV_X12_knows Lk_RX12_109 ha ⟨_, _, rfl, by decide⟩ rfl hl.1 ⟨Nat.le_of_ble_eq_true rfl, Nat.le_of_ble_eq_true rfl⟩ rfl (Nat.le_of_ble_eq_true rfl) ⟨Nat.zero_le _, Nat.zero_le _⟩ rfl dX12_divides_77 (fun H locs hR => ?_)
          refine lv_istore (lv' := [(10, .int r6), (13, .long v5), (11, .long r3), (0, .ref (g.2.2 a)), (1, .int y1), (6, .long y6), (8, .long y8)]) hx hb dX12_divides_80 hl (by decide) rfl (fun ls hl => ?_)
          refine lv_lload hx hb dX12_divides_82 (lv_at hl 6 rfl) ?_
          refine lv_lstore (lv' := [(6, .long y8), (10, .int r6), (13, .long v5), (11, .long r3), (0, .ref (g.2.2 a)), (1, .int y1), (8, .long y8)]) hx hb dX12_divides_84 hl (by decide) rfl (fun ls hl => ?_)
          refine lv_lload hx hb dX12_divides_86 (lv_at hl 2 rfl) ?_
          refine lv_lstore (lv' := [(8, .long v5), (6, .long y8), (10, .int r6), (13, .long v5), (11, .long r3), (0, .ref (g.2.2 a)), (1, .int y1)]) hx hb dX12_divides_88 hl (by decide) rfl (fun ls hl => ?_)
          refine lv_goto (tgt := 42) hx hb dX12_divides_90 (by decide) ?_
          exact ih h7 y1 y8 v5 r6 _ _ _ hsp hR (lv_sub hl [5, 6, 1, 0, 2] rfl)
  have hb_30 : ∀ (h : fh_H) (y1 : Int32) (y6 : Int64) (t0 : Int64) (H : Heap) (locs : List Loc) (ls : Array Slot), z_X12_divides_b30 S a h y1 y6 t0 = some h' → fh_R S g s.heap h H locs → lv_has ls 15 [(0, .ref (g.2.2 a)), (1, .int y1), (6, .long y6)] → fh_Wk p l e 2 s m [.ref (g.2.2 a), .int x1, .long x2, .long x4] below meth c S g none h' H locs (F0 m 30 ls [.long t0]) := by
    intro h y1 y6 t0 H locs ls hsp hR hl
    unfold z_X12_divides_b30 at hsp
    refine lv_lstore (lv' := [(8, .long t0), (0, .ref (g.2.2 a)), (1, .int y1), (6, .long y6)]) hx hb dX12_divides_30 hl (by decide) rfl (fun ls hl => ?_)
    refine lv_iconst (v := 1) hx hb dX12_divides_32 (by decide) ?_
    refine lv_istore (lv' := [(10, .int (1 : Int32)), (8, .long t0), (0, .ref (g.2.2 a)), (1, .int y1), (6, .long y6)]) hx hb dX12_divides_33 hl (by decide) rfl (fun ls hl => ?_)
    refine lv_aload_n hx hb dX12_divides_35 rfl (lv_at hl 2 rfl) ?_
    obtain ⟨j1, hv2, hsp⟩ := fr_b1 hsp
    refine fr_getr C hR ha Fg_RX12_22 rfl hv2 dX12_divides_36 ?_
    refine lv_iload_n hx hb dX12_divides_39 rfl (lv_at hl 3 rfl) ?_
    refine lv_iconst (v := 0) hx hb dX12_divides_40 (by decide) ?_
    obtain ⟨hk3, hsp⟩ := fr_ck hsp
    obtain ⟨hi4, hsp⟩ := fr_ck hsp
    refine fr_iast C hR hk3 hi4 dX12_divides_41 (fun H locs hR => ?_)
    obtain ⟨h5, eh5⟩ : ∃ z, z = fh_sI h j1 (Int32.toNatClampNeg y1) (0 : Int32) := ⟨_, rfl⟩
    rw [← eh5] at hR
    have hsp := fr_let eh5 hsp
    exact hb_42 20000 h5 y1 y6 t0 (1 : Int32) _ _ _ hsp hR (lv_sub hl [2, 3, 4, 1, 0] rfl)
  have hb_13 : ∀ (h : fh_H) (y1 : Int32) (y4 : Int64) (t0 : Int64) (H : Heap) (locs : List Loc) (ls : Array Slot), z_X12_divides_b13 S a h y1 y4 t0 = some h' → fh_R S g s.heap h H locs → lv_has ls 15 [(0, .ref (g.2.2 a)), (1, .int y1), (4, .long y4)] → fh_Wk p l e 2 s m [.ref (g.2.2 a), .int x1, .long x2, .long x4] below meth c S g none h' H locs (F0 m 13 ls [.long t0]) := by
    intro h y1 y4 t0 H locs ls hsp hR hl
    unfold z_X12_divides_b13 at hsp
    refine lv_lstore (lv' := [(6, .long t0), (0, .ref (g.2.2 a)), (1, .int y1), (4, .long y4)]) hx hb dX12_divides_13 hl (by decide) rfl (fun ls hl => ?_)
    refine lv_lload hx hb dX12_divides_15 (lv_at hl 3 rfl) ?_
    refine lv_lconst (v := 0) hx hb dX12_divides_17 (by decide) ?_
    refine fr_lc_ge (tgt := 28) hx hb dX12_divides_18 dX12_divides_19 (by decide) (fun c1 => ?_) (fun c1 => ?_)
    · rw [if_pos c1] at hsp
      refine lv_lload hx hb dX12_divides_28 (lv_at hl 3 rfl) ?_
      exact hb_30 h y1 t0 y4 _ _ _ hsp hR (lv_sub hl [1, 2, 0] rfl)
    · rw [if_neg c1] at hsp
      refine lv_lload hx hb dX12_divides_22 (lv_at hl 3 rfl) ?_
      refine lv_lneg hx hb dX12_divides_24 ?_
      refine lv_goto (tgt := 30) hx hb dX12_divides_25 (by decide) ?_
      exact hb_30 h y1 t0 (-y4) _ _ _ hsp hR (lv_sub hl [1, 2, 0] rfl)
  refine lv_lload hx hb dX12_divides_0 (lv_at hl 3 rfl) ?_
  refine lv_lconst (v := 0) hx hb dX12_divides_2 (by decide) ?_
  refine fr_lc_ge (tgt := 12) hx hb dX12_divides_3 dX12_divides_4 (by decide) (fun c1 => ?_) (fun c1 => ?_)
  · rw [if_pos c1] at hsp
    refine lv_lload_n hx hb dX12_divides_12 rfl (lv_at hl 2 rfl) ?_
    exact hb_13 h x1 x4 x2 _ _ _ hsp hR (lv_sub hl [0, 1, 3] rfl)
  · rw [if_neg c1] at hsp
    refine lv_lload_n hx hb dX12_divides_7 rfl (lv_at hl 2 rfl) ?_
    refine lv_lneg hx hb dX12_divides_8 ?_
    refine lv_goto (tgt := 13) hx hb dX12_divides_9 (by decide) ?_
    exact hb_13 h x1 x4 (-x2) _ _ _ hsp hR (lv_sub hl [0, 1, 3] rfl)

/-! TermRowsModel.isSquare(I)Z -/
def z_X12_isSquare (S : fh_S) (h : fh_H) (a : Nat) (x1 : Int32) : Option Int32 :=
    fh_b1 (z_X12_of1 S h a x1 (2 : Int32)) (fun r1 => fh_let ((Int32.toInt64 r1)) (fun v3 => fh_b1 (z_X12_rootOf v3) (fun r4 => fh_b1 (z_X12_rootOf v3) (fun r6 => if (r4 * r6) = v3 then (some (1 : Int32)) else (some (0 : Int32))))))
set_option maxHeartbeats 4000000 in
set_option maxRecDepth 100000 in
theorem k_X12_isSquare {l : Launch} {S : fh_S} {g : fh_G} {h : fh_H} (hj : fh_inj S g) {a : Nat} {x1 : Int32} {r : Int32} (ha : fh_kq S a 12 = true) (hsp : z_X12_isSquare S h a x1 = some r) : fh_M l yX12_isSquare cX12_isSquare 4 (some .boolean) (fh_rm 2) S g [.ref (g.2.2 a), .int x1] h (some (.int r)) h := by
  unfold z_X12_isSquare at hsp
  refine fr_head (own := RX12) (by decide) rfl hj (Nat.le_of_ble_eq_true rfl) ?_
  intro p e s m below meth c ls C hr hlocks hR hl
  have hl : lv_has ls 4 [(0, .ref (g.2.2 a)), (1, .int x1)] := hl
  have hx := C.1.1
  have hb := C.1.2.1
  refine lv_aload_n hx hb dX12_isSquare_0 rfl (lv_at hl 0 rfl) ?_
  refine lv_iload_n hx hb dX12_isSquare_1 rfl (lv_at hl 1 rfl) ?_
  refine lv_iconst (v := 2) hx hb dX12_isSquare_2 (by decide) ?_
  obtain ⟨r1, E2, hsp⟩ := fr_b1 hsp
  refine fq_callV (rest := []) (st1 := [.int r1]) C hR (k_X12_of1 C.2.2 ha E2) Y_X12_of1 YV_X12_of1 Lk_RX12_86 ha ⟨_, _, rfl, by decide⟩ rfl hl.1 ⟨Nat.le_of_ble_eq_true rfl, Nat.le_of_ble_eq_true rfl⟩ rfl (Nat.le_of_ble_eq_true rfl) ⟨Nat.zero_le _, Nat.zero_le _⟩ rfl dX12_isSquare_3 (fun H locs hR => ?_)
  refine lv_i2l hx hb dX12_isSquare_6 rfl ?_
  refine lv_topl (fun v3 ev3 => ?_)
  have hsp := fr_let ev3 hsp
  refine lv_lstore_n (lv' := [(2, .long v3), (0, .ref (g.2.2 a)), (1, .int x1)]) hx hb dX12_isSquare_7 rfl hl (by decide) rfl (fun ls hl => ?_)
  refine lv_lload_n hx hb dX12_isSquare_8 rfl (lv_at hl 0 rfl) ?_
  obtain ⟨r4, E5, hsp⟩ := fr_b1 hsp
  refine fq_callS (rest := []) (st1 := [.long r4]) C hR (k_X12_rootOf C.2.2 E5) Y_X12_rootOf YS_X12_rootOf Lk_RX12_117 rfl hl.1 ⟨Nat.le_of_ble_eq_true rfl, Nat.le_of_ble_eq_true rfl⟩ rfl (Nat.le_of_ble_eq_true rfl) ⟨Nat.zero_le _, Nat.zero_le _⟩ rfl dX12_isSquare_9 (fun H locs hR => ?_)
  refine lv_lload_n hx hb dX12_isSquare_12 rfl (lv_at hl 0 rfl) ?_
  obtain ⟨r6, E7, hsp⟩ := fr_b1 hsp
  refine fq_callS (rest := [.long r4]) (st1 := [.long r6, .long r4]) C hR (k_X12_rootOf C.2.2 E7) Y_X12_rootOf YS_X12_rootOf Lk_RX12_117 rfl hl.1 ⟨Nat.le_of_ble_eq_true rfl, Nat.le_of_ble_eq_true rfl⟩ rfl (Nat.le_of_ble_eq_true rfl) ⟨Nat.zero_le _, Nat.zero_le _⟩ rfl dX12_isSquare_13 (fun H locs hR => ?_)
  refine lv_lmul hx hb dX12_isSquare_16 ?_
  refine lv_lload_n hx hb dX12_isSquare_17 rfl (lv_at hl 0 rfl) ?_
  refine fr_lc_ne (tgt := 26) hx hb dX12_isSquare_18 dX12_isSquare_19 (by decide) (fun c8 => ?_) (fun c8 => ?_)
  · rw [if_neg c8] at hsp
    refine lv_iconst (v := 0) hx hb dX12_isSquare_26 (by decide) ?_
    have e1 := fr_s1 hsp
    exact fr_zret C hr hlocks hR (Or.inl rfl) e1 rfl dX12_isSquare_27
  · rw [if_pos c8] at hsp
    refine lv_iconst (v := 1) hx hb dX12_isSquare_22 (by decide) ?_
    refine lv_goto (tgt := 27) hx hb dX12_isSquare_23 (by decide) ?_
    have e1 := fr_s1 hsp
    exact fr_zret C hr hlocks hR (Or.inr rfl) e1 rfl dX12_isSquare_27

/-! TermRowsModel.floorOf(JJJ)J -/
def z_X12_floorOf (x0 : Int64) (x2 : Int64) (x4 : Int64) : Option Int64 :=
    if x4 ≤ (0 : Int64) then (fh_b1 (z_J9_floorDiv_f86c9 ((x0 + x2) + (1 : Int64)) x4) (fun r2 => some r2)) else (fh_b1 (z_J9_floorDiv_f86c9 (x0 + x2) x4) (fun r4 => some r4))
set_option maxHeartbeats 4000000 in
set_option maxRecDepth 100000 in
theorem k_X12_floorOf {l : Launch} {S : fh_S} {g : fh_G} {h : fh_H} (hj : fh_inj S g) {x0 : Int64} {x2 : Int64} {x4 : Int64} {r : Int64} (hsp : z_X12_floorOf x0 x2 x4 = some r) : fh_M l yX12_floorOf cX12_floorOf 6 (some .long) (fh_rm 2) S g [.long x0, .long x2, .long x4] h (some (.long r)) h := by
  unfold z_X12_floorOf at hsp
  refine fr_head (own := RX12) (by decide) rfl hj (Nat.le_of_ble_eq_true rfl) ?_
  intro p e s m below meth c ls C hr hlocks hR hl
  have hl : lv_has ls 6 [(0, .long x0), (2, .long x2), (4, .long x4)] := hl
  have hx := C.1.1
  have hb := C.1.2.1
  refine lv_lload hx hb dX12_floorOf_0 (lv_at hl 2 rfl) ?_
  refine lv_lconst (v := 0) hx hb dX12_floorOf_2 (by decide) ?_
  refine fr_lc_le (tgt := 18) hx hb dX12_floorOf_3 dX12_floorOf_4 (by decide) (fun c1 => ?_) (fun c1 => ?_)
  · rw [if_pos c1] at hsp
    refine lv_lload_n hx hb dX12_floorOf_18 rfl (lv_at hl 0 rfl) ?_
    refine lv_lload_n hx hb dX12_floorOf_19 rfl (lv_at hl 1 rfl) ?_
    refine lv_ladd hx hb dX12_floorOf_20 ?_
    refine lv_lconst (v := 1) hx hb dX12_floorOf_21 (by decide) ?_
    refine lv_ladd hx hb dX12_floorOf_22 ?_
    refine lv_lload hx hb dX12_floorOf_23 (lv_at hl 2 rfl) ?_
    obtain ⟨r2, E3, hsp⟩ := fr_b1 hsp
    refine fq_callS (rest := []) (st1 := [.long r2]) C hR (k_J9_floorDiv_f86c9 C.2.2 E3) Y_J9_floorDiv_f86c9 YS_J9_floorDiv_f86c9 Lk_RX12_103 rfl hl.1 ⟨Nat.le_of_ble_eq_true rfl, Nat.le_of_ble_eq_true rfl⟩ rfl (Nat.le_of_ble_eq_true rfl) ⟨Nat.zero_le _, Nat.zero_le _⟩ rfl dX12_floorOf_25 (fun H locs hR => ?_)
    have e1 := fr_s1 hsp
    exact fr_lret C hr hlocks hR e1 rfl dX12_floorOf_28
  · rw [if_neg c1] at hsp
    refine lv_lload_n hx hb dX12_floorOf_7 rfl (lv_at hl 0 rfl) ?_
    refine lv_lload_n hx hb dX12_floorOf_8 rfl (lv_at hl 1 rfl) ?_
    refine lv_ladd hx hb dX12_floorOf_9 ?_
    refine lv_lload hx hb dX12_floorOf_10 (lv_at hl 2 rfl) ?_
    obtain ⟨r4, E5, hsp⟩ := fr_b1 hsp
    refine fq_callS (rest := []) (st1 := [.long r4]) C hR (k_J9_floorDiv_f86c9 C.2.2 E5) Y_J9_floorDiv_f86c9 YS_J9_floorDiv_f86c9 Lk_RX12_103 rfl hl.1 ⟨Nat.le_of_ble_eq_true rfl, Nat.le_of_ble_eq_true rfl⟩ rfl (Nat.le_of_ble_eq_true rfl) ⟨Nat.zero_le _, Nat.zero_le _⟩ rfl dX12_floorOf_12 (fun H locs hR => ?_)
    refine lv_goto (tgt := 28) hx hb dX12_floorOf_15 (by decide) ?_
    have e1 := fr_s1 hsp
    exact fr_lret C hr hlocks hR e1 rfl dX12_floorOf_28

/-! TermRowsModel.layTold(I)V -/
def z_X12_layTold_b100 (S : fh_S) (a : Nat) (h : fh_H) (y1 : Int32) (y4 : Int32) : Option fh_H :=
    fh_b1 (h.2.2 a 6) (fun j1 => if y4 = 0 then (fh_ck (fh_kq S j1 13) (fh_ck (fh_in y1 (S.2.2 j1)) (fh_let (fh_sI h j1 (Int32.toNatClampNeg y1) (0 : Int32)) (fun h6 => some h6)))) else (fh_ck (fh_kq S j1 13) (fh_ck (fh_in y1 (S.2.2 j1)) (fh_let (fh_sI h j1 (Int32.toNatClampNeg y1) (1 : Int32)) (fun h9 => some h9)))))
def z_X12_layTold_b60 (S : fh_S) (a : Nat) : Nat → fh_H → Int32 → Int32 → Int32 → Int32 → Int32 → Option fh_H
  | 0, _, _, _, _, _, _ => none
  | n + 1, h, y1, y2, y3, y4, y5 =>
    if y4 = 0 then (z_X12_layTold_b100 S a h y1 y4) else (if y3 ≤ 0 then (z_X12_layTold_b100 S a h y1 y4) else (fh_b1 (z_X12_of1 S h a y1 (((9 : Int32) + y2) + y5)) (fun r3 => fh_b2 (z_X12_knows S h a y1 (Int32.toInt64 r3)) (fun r5 h6 => fh_ck (decide (¬ y3 = 0)) (fh_let (((y5 + (1 : Int32)) - (y5 + (1 : Int32)) / y3 * y3)) (fun v9 => z_X12_layTold_b60 S a n h6 y1 y2 y3 r5 v9))))))
def z_X12_layTold_b22 (S : fh_S) (a : Nat) : Nat → fh_H → Int32 → Int32 → Int32 → Int32 → Int32 → Option fh_H
  | 0, _, _, _, _, _, _ => none
  | n + 1, h, y1, y2, y3, y4, y5 =>
    if y4 = 0 then (z_X12_layTold_b60 S a 20000 h y1 y2 y3 y4 (0 : Int32)) else (if y2 ≤ y5 then (z_X12_layTold_b60 S a 20000 h y1 y2 y3 y4 (0 : Int32)) else (fh_b1 (z_X12_of1 S h a y1 ((9 : Int32) + y5)) (fun r3 => fh_b2 (z_X12_knows S h a y1 (Int32.toInt64 r3)) (fun r5 h6 => fh_let (y5 + 1) (fun v8 => z_X12_layTold_b22 S a n h6 y1 y2 y3 r5 v8)))))
def z_X12_layTold (S : fh_S) (h : fh_H) (a : Nat) (x1 : Int32) : Option fh_H :=
    fh_b1 (z_X12_of1 S h a x1 (7 : Int32)) (fun r1 => fh_b1 (z_X12_of1 S h a x1 (8 : Int32)) (fun r3 => z_X12_layTold_b22 S a 20000 h x1 r1 r3 (1 : Int32) (0 : Int32)))
set_option maxHeartbeats 4000000 in
set_option maxRecDepth 100000 in
theorem k_X12_layTold {l : Launch} {S : fh_S} {g : fh_G} {h h' : fh_H} (hj : fh_inj S g) {a : Nat} {x1 : Int32} (ha : fh_kq S a 12 = true) (hsp : z_X12_layTold S h a x1 = some h') : fh_M l yX12_layTold cX12_layTold 6 none (fh_rm 2) S g [.ref (g.2.2 a), .int x1] h none h' := by
  unfold z_X12_layTold at hsp
  refine fr_head (own := RX12) (by decide) rfl hj (Nat.le_of_ble_eq_true rfl) ?_
  intro p e s m below meth c ls C hr hlocks hR hl
  have hl : lv_has ls 6 [(0, .ref (g.2.2 a)), (1, .int x1)] := hl
  have hx := C.1.1
  have hb := C.1.2.1
  have hb_100 : ∀ (h : fh_H) (y1 : Int32) (y4 : Int32) (H : Heap) (locs : List Loc) (ls : Array Slot), z_X12_layTold_b100 S a h y1 y4 = some h' → fh_R S g s.heap h H locs → lv_has ls 6 [(0, .ref (g.2.2 a)), (1, .int y1), (4, .int y4)] → fh_Wk p l e 2 s m [.ref (g.2.2 a), .int x1] below meth c S g none h' H locs (F0 m 100 ls []) := by
    intro h y1 y4 H locs ls hsp hR hl
    unfold z_X12_layTold_b100 at hsp
    refine lv_aload_n hx hb dX12_layTold_100 rfl (lv_at hl 0 rfl) ?_
    obtain ⟨j1, hv2, hsp⟩ := fr_b1 hsp
    refine fr_getr C hR ha Fg_RX12_22 rfl hv2 dX12_layTold_101 ?_
    refine lv_iload_n hx hb dX12_layTold_104 rfl (lv_at hl 1 rfl) ?_
    refine lv_iload hx hb dX12_layTold_105 (lv_at hl 2 rfl) ?_
    refine lv_if_eq (tgt := 114) hx hb dX12_layTold_107 (by decide) (fun c3 => ?_) (fun c3 => ?_)
    · rw [if_pos c3] at hsp
      refine lv_iconst (v := 0) hx hb dX12_layTold_114 (by decide) ?_
      obtain ⟨hk4, hsp⟩ := fr_ck hsp
      obtain ⟨hi5, hsp⟩ := fr_ck hsp
      refine fr_iast C hR hk4 hi5 dX12_layTold_115 (fun H locs hR => ?_)
      obtain ⟨h6, eh6⟩ : ∃ z, z = fh_sI h j1 (Int32.toNatClampNeg y1) (0 : Int32) := ⟨_, rfl⟩
      rw [← eh6] at hR
      have hsp := fr_let eh6 hsp
      exact fr_vret C hr hlocks hR (fr_s1 hsp) dX12_layTold_116
    · rw [if_neg c3] at hsp
      refine lv_iconst (v := 1) hx hb dX12_layTold_110 (by decide) ?_
      refine lv_goto (tgt := 115) hx hb dX12_layTold_111 (by decide) ?_
      obtain ⟨hk7, hsp⟩ := fr_ck hsp
      obtain ⟨hi8, hsp⟩ := fr_ck hsp
      refine fr_iast C hR hk7 hi8 dX12_layTold_115 (fun H locs hR => ?_)
      obtain ⟨h9, eh9⟩ : ∃ z, z = fh_sI h j1 (Int32.toNatClampNeg y1) (1 : Int32) := ⟨_, rfl⟩
      rw [← eh9] at hR
      have hsp := fr_let eh9 hsp
      exact fr_vret C hr hlocks hR (fr_s1 hsp) dX12_layTold_116
  have hb_60 : ∀ (n : Nat) (h : fh_H) (y1 : Int32) (y2 : Int32) (y3 : Int32) (y4 : Int32) (y5 : Int32) (H : Heap) (locs : List Loc) (ls : Array Slot), z_X12_layTold_b60 S a n h y1 y2 y3 y4 y5 = some h' → fh_R S g s.heap h H locs → lv_has ls 6 [(0, .ref (g.2.2 a)), (1, .int y1), (2, .int y2), (3, .int y3), (4, .int y4), (5, .int y5)] → fh_Wk p l e 2 s m [.ref (g.2.2 a), .int x1] below meth c S g none h' H locs (F0 m 60 ls []) := by
    intro n
    induction n with
    | zero => intro h y1 y2 y3 y4 y5 H locs ls hsp; cases hsp
    | succ n ih =>
      intro h y1 y2 y3 y4 y5 H locs ls hsp hR hl
      rw [z_X12_layTold_b60] at hsp
      refine lv_iload hx hb dX12_layTold_60 (lv_at hl 4 rfl) ?_
      refine lv_if_eq (tgt := 100) hx hb dX12_layTold_62 (by decide) (fun c1 => ?_) (fun c1 => ?_)
      · rw [if_pos c1] at hsp
        exact hb_100 h y1 y4 _ _ _ hsp hR (lv_sub hl [0, 1, 4] rfl)
      · rw [if_neg c1] at hsp
        refine lv_iload_n hx hb dX12_layTold_65 rfl (lv_at hl 3 rfl) ?_
        refine lv_if_le (tgt := 100) hx hb dX12_layTold_66 (by decide) (fun c2 => ?_) (fun c2 => ?_)
        · rw [if_pos c2] at hsp
          exact hb_100 h y1 y4 _ _ _ hsp hR (lv_sub hl [0, 1, 4] rfl)
        · rw [if_neg c2] at hsp
          refine lv_aload_n hx hb dX12_layTold_69 rfl (lv_at hl 0 rfl) ?_
          refine lv_iload_n hx hb dX12_layTold_70 rfl (lv_at hl 1 rfl) ?_
          refine lv_aload_n hx hb dX12_layTold_71 rfl (lv_at hl 0 rfl) ?_
          refine lv_iload_n hx hb dX12_layTold_72 rfl (lv_at hl 1 rfl) ?_
          refine lv_bipush (v := 9) hx hb dX12_layTold_73 (by decide) ?_
          refine lv_iload_n hx hb dX12_layTold_75 rfl (lv_at hl 2 rfl) ?_
          refine lv_iadd hx hb dX12_layTold_76 ?_
          refine lv_iload hx hb dX12_layTold_77 (lv_at hl 5 rfl) ?_
          refine lv_iadd hx hb dX12_layTold_79 ?_
          obtain ⟨r3, E4, hsp⟩ := fr_b1 hsp
          refine fq_callV (rest := [.int y1, .ref (g.2.2 a)]) (st1 := [.int r3, .int y1, .ref (g.2.2 a)]) C hR (k_X12_of1 C.2.2 ha E4) Y_X12_of1 YV_X12_of1 Lk_RX12_86 ha ⟨_, _, rfl, by decide⟩ rfl hl.1 ⟨Nat.le_of_ble_eq_true rfl, Nat.le_of_ble_eq_true rfl⟩ rfl (Nat.le_of_ble_eq_true rfl) ⟨Nat.zero_le _, Nat.zero_le _⟩ rfl dX12_layTold_80 (fun H locs hR => ?_)
          refine lv_i2l hx hb dX12_layTold_83 rfl ?_
          obtain ⟨r5, h6, E7, hsp⟩ := fr_b2 hsp
          refine fq_callV (rest := []) (st1 := [.int r5]) C hR (k_X12_knows C.2.2 ha E7) Y_X12_knows YV_X12_knows Lk_RX12_109 ha ⟨_, _, rfl, by decide⟩ rfl hl.1 ⟨Nat.le_of_ble_eq_true rfl, Nat.le_of_ble_eq_true rfl⟩ rfl (Nat.le_of_ble_eq_true rfl) ⟨Nat.zero_le _, Nat.zero_le _⟩ rfl dX12_layTold_84 (fun H locs hR => ?_)
          refine lv_istore (lv' := [(4, .int r5), (0, .ref (g.2.2 a)), (1, .int y1), (2, .int y2), (3, .int y3), (5, .int y5)]) hx hb dX12_layTold_87 hl (by decide) rfl (fun ls hl => ?_)
          refine lv_iload hx hb dX12_layTold_89 (lv_at hl 5 rfl) ?_
          refine lv_iconst (v := 1) hx hb dX12_layTold_91 (by decide) ?_
          refine lv_iadd hx hb dX12_layTold_92 ?_
          refine lv_iload_n hx hb dX12_layTold_93 rfl (lv_at hl 4 rfl) ?_
          obtain ⟨hz8, hsp⟩ := fr_ck hsp
          refine lv_irem hx hb dX12_layTold_94 (of_decide_eq_true hz8) ?_
          refine lv_topi (fun v9 ev9 => ?_)
          have hsp := fr_let ev9 hsp
          refine lv_istore (lv' := [(5, .int v9), (4, .int r5), (0, .ref (g.2.2 a)), (1, .int y1), (2, .int y2), (3, .int y3)]) hx hb dX12_layTold_95 hl (by decide) rfl (fun ls hl => ?_)
          refine lv_goto (tgt := 60) hx hb dX12_layTold_97 (by decide) ?_
          exact ih h6 y1 y2 y3 r5 v9 _ _ _ hsp hR (lv_sub hl [2, 3, 4, 5, 1, 0] rfl)
  have hb_22 : ∀ (n : Nat) (h : fh_H) (y1 : Int32) (y2 : Int32) (y3 : Int32) (y4 : Int32) (y5 : Int32) (H : Heap) (locs : List Loc) (ls : Array Slot), z_X12_layTold_b22 S a n h y1 y2 y3 y4 y5 = some h' → fh_R S g s.heap h H locs → lv_has ls 6 [(0, .ref (g.2.2 a)), (1, .int y1), (2, .int y2), (3, .int y3), (4, .int y4), (5, .int y5)] → fh_Wk p l e 2 s m [.ref (g.2.2 a), .int x1] below meth c S g none h' H locs (F0 m 22 ls []) := by
    intro n
    induction n with
    | zero => intro h y1 y2 y3 y4 y5 H locs ls hsp; cases hsp
    | succ n ih =>
      intro h y1 y2 y3 y4 y5 H locs ls hsp hR hl
      rw [z_X12_layTold_b22] at hsp
      refine lv_iload hx hb dX12_layTold_22 (lv_at hl 4 rfl) ?_
      refine lv_if_eq (tgt := 57) hx hb dX12_layTold_24 (by decide) (fun c1 => ?_) (fun c1 => ?_)
      · rw [if_pos c1] at hsp
        refine lv_iconst (v := 0) hx hb dX12_layTold_57 (by decide) ?_
        refine lv_istore (lv' := [(5, .int (0 : Int32)), (0, .ref (g.2.2 a)), (1, .int y1), (2, .int y2), (3, .int y3), (4, .int y4)]) hx hb dX12_layTold_58 hl (by decide) rfl (fun ls hl => ?_)
        exact hb_60 20000 h y1 y2 y3 y4 (0 : Int32) _ _ _ hsp hR (lv_sub hl [1, 2, 3, 4, 5, 0] rfl)
      · rw [if_neg c1] at hsp
        refine lv_iload hx hb dX12_layTold_27 (lv_at hl 5 rfl) ?_
        refine lv_iload_n hx hb dX12_layTold_29 rfl (lv_at hl 2 rfl) ?_
        refine lv_icmp_ge (tgt := 57) hx hb dX12_layTold_30 (by decide) (fun c2 => ?_) (fun c2 => ?_)
        · rw [if_pos c2] at hsp
          refine lv_iconst (v := 0) hx hb dX12_layTold_57 (by decide) ?_
          refine lv_istore (lv' := [(5, .int (0 : Int32)), (0, .ref (g.2.2 a)), (1, .int y1), (2, .int y2), (3, .int y3), (4, .int y4)]) hx hb dX12_layTold_58 hl (by decide) rfl (fun ls hl => ?_)
          exact hb_60 20000 h y1 y2 y3 y4 (0 : Int32) _ _ _ hsp hR (lv_sub hl [1, 2, 3, 4, 5, 0] rfl)
        · rw [if_neg c2] at hsp
          refine lv_aload_n hx hb dX12_layTold_33 rfl (lv_at hl 0 rfl) ?_
          refine lv_iload_n hx hb dX12_layTold_34 rfl (lv_at hl 1 rfl) ?_
          refine lv_aload_n hx hb dX12_layTold_35 rfl (lv_at hl 0 rfl) ?_
          refine lv_iload_n hx hb dX12_layTold_36 rfl (lv_at hl 1 rfl) ?_
          refine lv_bipush (v := 9) hx hb dX12_layTold_37 (by decide) ?_
          refine lv_iload hx hb dX12_layTold_39 (lv_at hl 5 rfl) ?_
          refine lv_iadd hx hb dX12_layTold_41 ?_
          obtain ⟨r3, E4, hsp⟩ := fr_b1 hsp
          refine fq_callV (rest := [.int y1, .ref (g.2.2 a)]) (st1 := [.int r3, .int y1, .ref (g.2.2 a)]) C hR (k_X12_of1 C.2.2 ha E4) Y_X12_of1 YV_X12_of1 Lk_RX12_86 ha ⟨_, _, rfl, by decide⟩ rfl hl.1 ⟨Nat.le_of_ble_eq_true rfl, Nat.le_of_ble_eq_true rfl⟩ rfl (Nat.le_of_ble_eq_true rfl) ⟨Nat.zero_le _, Nat.zero_le _⟩ rfl dX12_layTold_42 (fun H locs hR => ?_)
          refine lv_i2l hx hb dX12_layTold_45 rfl ?_
          obtain ⟨r5, h6, E7, hsp⟩ := fr_b2 hsp
          refine fq_callV (rest := []) (st1 := [.int r5]) C hR (k_X12_knows C.2.2 ha E7) Y_X12_knows YV_X12_knows Lk_RX12_109 ha ⟨_, _, rfl, by decide⟩ rfl hl.1 ⟨Nat.le_of_ble_eq_true rfl, Nat.le_of_ble_eq_true rfl⟩ rfl (Nat.le_of_ble_eq_true rfl) ⟨Nat.zero_le _, Nat.zero_le _⟩ rfl dX12_layTold_46 (fun H locs hR => ?_)
          refine lv_istore (lv' := [(4, .int r5), (0, .ref (g.2.2 a)), (1, .int y1), (2, .int y2), (3, .int y3), (5, .int y5)]) hx hb dX12_layTold_49 hl (by decide) rfl (fun ls hl => ?_)
          obtain ⟨v8, ev8⟩ : ∃ z : Int32, z = y5 + 1 := ⟨_, rfl⟩
          have hsp := fr_let ev8 hsp
          refine lv_iinc (v := v8) (lv' := [(5, .int v8), (4, .int r5), (0, .ref (g.2.2 a)), (1, .int y1), (2, .int y2), (3, .int y3)]) hx hb dX12_layTold_51 hl (k := 5) rfl (by rw [ev8]; rfl) (by decide) rfl (fun ls hl => ?_)
          refine lv_goto (tgt := 22) hx hb dX12_layTold_54 (by decide) ?_
          exact ih h6 y1 y2 y3 r5 v8 _ _ _ hsp hR (lv_sub hl [2, 3, 4, 5, 1, 0] rfl)
  refine lv_aload_n hx hb dX12_layTold_0 rfl (lv_at hl 0 rfl) ?_
  refine lv_iload_n hx hb dX12_layTold_1 rfl (lv_at hl 1 rfl) ?_
  refine lv_bipush (v := 7) hx hb dX12_layTold_2 (by decide) ?_
  obtain ⟨r1, E2, hsp⟩ := fr_b1 hsp
  refine fq_callV (rest := []) (st1 := [.int r1]) C hR (k_X12_of1 C.2.2 ha E2) Y_X12_of1 YV_X12_of1 Lk_RX12_86 ha ⟨_, _, rfl, by decide⟩ rfl hl.1 ⟨Nat.le_of_ble_eq_true rfl, Nat.le_of_ble_eq_true rfl⟩ rfl (Nat.le_of_ble_eq_true rfl) ⟨Nat.zero_le _, Nat.zero_le _⟩ rfl dX12_layTold_4 (fun H locs hR => ?_)
  refine lv_istore_n (lv' := [(2, .int r1), (0, .ref (g.2.2 a)), (1, .int x1)]) hx hb dX12_layTold_7 rfl hl (by decide) rfl (fun ls hl => ?_)
  refine lv_aload_n hx hb dX12_layTold_8 rfl (lv_at hl 1 rfl) ?_
  refine lv_iload_n hx hb dX12_layTold_9 rfl (lv_at hl 2 rfl) ?_
  refine lv_bipush (v := 8) hx hb dX12_layTold_10 (by decide) ?_
  obtain ⟨r3, E4, hsp⟩ := fr_b1 hsp
  refine fq_callV (rest := []) (st1 := [.int r3]) C hR (k_X12_of1 C.2.2 ha E4) Y_X12_of1 YV_X12_of1 Lk_RX12_86 ha ⟨_, _, rfl, by decide⟩ rfl hl.1 ⟨Nat.le_of_ble_eq_true rfl, Nat.le_of_ble_eq_true rfl⟩ rfl (Nat.le_of_ble_eq_true rfl) ⟨Nat.zero_le _, Nat.zero_le _⟩ rfl dX12_layTold_12 (fun H locs hR => ?_)
  refine lv_istore_n (lv' := [(3, .int r3), (2, .int r1), (0, .ref (g.2.2 a)), (1, .int x1)]) hx hb dX12_layTold_15 rfl hl (by decide) rfl (fun ls hl => ?_)
  refine lv_iconst (v := 1) hx hb dX12_layTold_16 (by decide) ?_
  refine lv_istore (lv' := [(4, .int (1 : Int32)), (3, .int r3), (2, .int r1), (0, .ref (g.2.2 a)), (1, .int x1)]) hx hb dX12_layTold_17 hl (by decide) rfl (fun ls hl => ?_)
  refine lv_iconst (v := 0) hx hb dX12_layTold_19 (by decide) ?_
  refine lv_istore (lv' := [(5, .int (0 : Int32)), (4, .int (1 : Int32)), (3, .int r3), (2, .int r1), (0, .ref (g.2.2 a)), (1, .int x1)]) hx hb dX12_layTold_20 hl (by decide) rfl (fun ls hl => ?_)
  exact hb_22 20000 h x1 r1 r3 (1 : Int32) (0 : Int32) _ _ _ hsp hR (lv_sub hl [4, 5, 3, 2, 1, 0] rfl)

/-! TermRowsModel.timesAnd(JJJ)J -/
def z_X12_timesAnd_b29 (S : fh_S) (a : Nat) (h : fh_H) (y1 : Int64) (y3 : Int64) (y5 : Int64) : Option (Int64 × fh_H) :=
    fh_let (((y1 * y3) + y5)) (fun v1 => if (h.1 a 16) = 0 then (if (1000000000000000 : Int64) < v1 then (fh_let (fh_sI h a 16 (1 : Int32)) (fun h5 => some (v1, h5))) else (if (-1000000000000000 : Int64) ≤ v1 then (fh_let (fh_sI h a 16 (0 : Int32)) (fun h7 => some (v1, h7))) else (fh_let (fh_sI h a 16 (1 : Int32)) (fun h8 => some (v1, h8))))) else (fh_let (fh_sI h a 16 (1 : Int32)) (fun h3 => some (v1, h3))))
def z_X12_timesAnd (S : fh_S) (h : fh_H) (a : Nat) (x1 : Int64) (x3 : Int64) (x5 : Int64) : Option (Int64 × fh_H) :=
    if x3 = (0 : Int64) then (z_X12_timesAnd_b29 S a h x1 x3 x5) else (fh_b1 (z_J9_abs_067f4 x1) (fun r2 => fh_b1 (z_J9_abs_067f4 x3) (fun r4 => fh_ck (decide (¬ r4 = 0)) (if r2 ≤ ((2000000000000000 : Int64) / r4) then (z_X12_timesAnd_b29 S a h x1 x3 x5) else (fh_let (fh_sI h a 16 (1 : Int32)) (fun h8 => some ((0 : Int64), h8)))))))
set_option maxHeartbeats 4000000 in
set_option maxRecDepth 100000 in
theorem k_X12_timesAnd {l : Launch} {S : fh_S} {g : fh_G} {h h' : fh_H} (hj : fh_inj S g) {a : Nat} {x1 : Int64} {x3 : Int64} {x5 : Int64} {r : Int64} (ha : fh_kq S a 12 = true) (hsp : z_X12_timesAnd S h a x1 x3 x5 = some (r, h')) : fh_M l yX12_timesAnd cX12_timesAnd 9 (some .long) (fh_rm 2) S g [.ref (g.2.2 a), .long x1, .long x3, .long x5] h (some (.long r)) h' := by
  unfold z_X12_timesAnd at hsp
  refine fr_head (own := RX12) (by decide) rfl hj (Nat.le_of_ble_eq_true rfl) ?_
  intro p e s m below meth c ls C hr hlocks hR hl
  have hl : lv_has ls 9 [(0, .ref (g.2.2 a)), (1, .long x1), (3, .long x3), (5, .long x5)] := hl
  have hx := C.1.1
  have hb := C.1.2.1
  have hb_29 : ∀ (h : fh_H) (y1 : Int64) (y3 : Int64) (y5 : Int64) (H : Heap) (locs : List Loc) (ls : Array Slot), z_X12_timesAnd_b29 S a h y1 y3 y5 = some (r, h') → fh_R S g s.heap h H locs → lv_has ls 9 [(0, .ref (g.2.2 a)), (1, .long y1), (3, .long y3), (5, .long y5)] → fh_Wk p l e 2 s m [.ref (g.2.2 a), .long x1, .long x3, .long x5] below meth c S g (some (.long r)) h' H locs (F0 m 29 ls []) := by
    intro h y1 y3 y5 H locs ls hsp hR hl
    unfold z_X12_timesAnd_b29 at hsp
    refine lv_lload_n hx hb dX12_timesAnd_29 rfl (lv_at hl 1 rfl) ?_
    refine lv_lload_n hx hb dX12_timesAnd_30 rfl (lv_at hl 2 rfl) ?_
    refine lv_lmul hx hb dX12_timesAnd_31 ?_
    refine lv_lload hx hb dX12_timesAnd_32 (lv_at hl 3 rfl) ?_
    refine lv_ladd hx hb dX12_timesAnd_34 ?_
    refine lv_topl (fun v1 ev1 => ?_)
    have hsp := fr_let ev1 hsp
    refine lv_lstore (lv' := [(7, .long v1), (0, .ref (g.2.2 a)), (1, .long y1), (3, .long y3), (5, .long y5)]) hx hb dX12_timesAnd_35 hl (by decide) rfl (fun ls hl => ?_)
    refine lv_aload_n hx hb dX12_timesAnd_37 rfl (lv_at hl 1 rfl) ?_
    refine lv_aload_n hx hb dX12_timesAnd_38 rfl (lv_at hl 1 rfl) ?_
    refine fr_geti C hR ha Fg_RX12_141 rfl dX12_timesAnd_39 ?_
    refine lv_if_ne (tgt := 63) hx hb dX12_timesAnd_42 (by decide) (fun c2 => ?_) (fun c2 => ?_)
    · rw [if_neg c2] at hsp
      refine lv_iconst (v := 1) hx hb dX12_timesAnd_63 (by decide) ?_
      refine lv_goto (tgt := 68) hx hb dX12_timesAnd_64 (by decide) ?_
      refine fr_putz C hR ha Fp_RX12_141 rfl (Or.inr rfl) dX12_timesAnd_68 (fun H locs hR => ?_)
      obtain ⟨h3, eh3⟩ : ∃ z, z = fh_sI h a 16 (1 : Int32) := ⟨_, rfl⟩
      rw [← eh3] at hR
      have hsp := fr_let eh3 hsp
      refine lv_lload hx hb dX12_timesAnd_71 (lv_at hl 0 rfl) ?_
      obtain ⟨e1, e2⟩ := fr_s2 hsp
      exact fr_lret C hr hlocks hR e1 e2 dX12_timesAnd_73
    · rw [if_pos c2] at hsp
      refine lv_lload hx hb dX12_timesAnd_45 (lv_at hl 0 rfl) ?_
      refine lv_ldc2 hx hb C.1.2.2.2.1 (C.1.2.2.2.2 _ Kc_RX12_145) dX12_timesAnd_47 ?_
      refine fr_lc_gt (tgt := 63) hx hb dX12_timesAnd_50 dX12_timesAnd_51 (by decide) (fun c4 => ?_) (fun c4 => ?_)
      · rw [if_pos c4] at hsp
        refine lv_iconst (v := 1) hx hb dX12_timesAnd_63 (by decide) ?_
        refine lv_goto (tgt := 68) hx hb dX12_timesAnd_64 (by decide) ?_
        refine fr_putz C hR ha Fp_RX12_141 rfl (Or.inr rfl) dX12_timesAnd_68 (fun H locs hR => ?_)
        obtain ⟨h5, eh5⟩ : ∃ z, z = fh_sI h a 16 (1 : Int32) := ⟨_, rfl⟩
        rw [← eh5] at hR
        have hsp := fr_let eh5 hsp
        refine lv_lload hx hb dX12_timesAnd_71 (lv_at hl 0 rfl) ?_
        obtain ⟨e1, e2⟩ := fr_s2 hsp
        exact fr_lret C hr hlocks hR e1 e2 dX12_timesAnd_73
      · rw [if_neg c4] at hsp
        refine lv_lload hx hb dX12_timesAnd_54 (lv_at hl 0 rfl) ?_
        refine lv_ldc2 hx hb C.1.2.2.2.1 (C.1.2.2.2.2 _ Kc_RX12_147) dX12_timesAnd_56 ?_
        refine fr_lc_ge (tgt := 67) hx hb dX12_timesAnd_59 dX12_timesAnd_60 (by decide) (fun c6 => ?_) (fun c6 => ?_)
        · rw [if_pos c6] at hsp
          refine lv_iconst (v := 0) hx hb dX12_timesAnd_67 (by decide) ?_
          refine fr_putz C hR ha Fp_RX12_141 rfl (Or.inl rfl) dX12_timesAnd_68 (fun H locs hR => ?_)
          obtain ⟨h7, eh7⟩ : ∃ z, z = fh_sI h a 16 (0 : Int32) := ⟨_, rfl⟩
          rw [← eh7] at hR
          have hsp := fr_let eh7 hsp
          refine lv_lload hx hb dX12_timesAnd_71 (lv_at hl 0 rfl) ?_
          obtain ⟨e1, e2⟩ := fr_s2 hsp
          exact fr_lret C hr hlocks hR e1 e2 dX12_timesAnd_73
        · rw [if_neg c6] at hsp
          refine lv_iconst (v := 1) hx hb dX12_timesAnd_63 (by decide) ?_
          refine lv_goto (tgt := 68) hx hb dX12_timesAnd_64 (by decide) ?_
          refine fr_putz C hR ha Fp_RX12_141 rfl (Or.inr rfl) dX12_timesAnd_68 (fun H locs hR => ?_)
          obtain ⟨h8, eh8⟩ : ∃ z, z = fh_sI h a 16 (1 : Int32) := ⟨_, rfl⟩
          rw [← eh8] at hR
          have hsp := fr_let eh8 hsp
          refine lv_lload hx hb dX12_timesAnd_71 (lv_at hl 0 rfl) ?_
          obtain ⟨e1, e2⟩ := fr_s2 hsp
          exact fr_lret C hr hlocks hR e1 e2 dX12_timesAnd_73
  refine lv_lload_n hx hb dX12_timesAnd_0 rfl (lv_at hl 2 rfl) ?_
  refine lv_lconst (v := 0) hx hb dX12_timesAnd_1 (by decide) ?_
  refine fr_lc_eq (tgt := 29) hx hb dX12_timesAnd_2 dX12_timesAnd_3 (by decide) (fun c1 => ?_) (fun c1 => ?_)
  · rw [if_pos c1] at hsp
    exact hb_29 h x1 x3 x5 _ _ _ hsp hR (lv_sub hl [0, 1, 2, 3] rfl)
  · rw [if_neg c1] at hsp
    refine lv_lload_n hx hb dX12_timesAnd_6 rfl (lv_at hl 1 rfl) ?_
    obtain ⟨r2, E3, hsp⟩ := fr_b1 hsp
    refine fq_callS (rest := []) (st1 := [.long r2]) C hR (k_J9_abs_067f4 C.2.2 E3) Y_J9_abs_067f4 YS_J9_abs_067f4 Lk_RX12_121 rfl hl.1 ⟨Nat.le_of_ble_eq_true rfl, Nat.le_of_ble_eq_true rfl⟩ rfl (Nat.le_of_ble_eq_true rfl) ⟨Nat.zero_le _, Nat.zero_le _⟩ rfl dX12_timesAnd_7 (fun H locs hR => ?_)
    refine lv_ldc2 hx hb C.1.2.2.2.1 (C.1.2.2.2.2 _ Kc_RX12_139) dX12_timesAnd_10 ?_
    refine lv_lload_n hx hb dX12_timesAnd_13 rfl (lv_at hl 2 rfl) ?_
    obtain ⟨r4, E5, hsp⟩ := fr_b1 hsp
    refine fq_callS (rest := [.long (2000000000000000 : Int64), .long r2]) (st1 := [.long r4, .long (2000000000000000 : Int64), .long r2]) C hR (k_J9_abs_067f4 C.2.2 E5) Y_J9_abs_067f4 YS_J9_abs_067f4 Lk_RX12_121 rfl hl.1 ⟨Nat.le_of_ble_eq_true rfl, Nat.le_of_ble_eq_true rfl⟩ rfl (Nat.le_of_ble_eq_true rfl) ⟨Nat.zero_le _, Nat.zero_le _⟩ rfl dX12_timesAnd_14 (fun H locs hR => ?_)
    obtain ⟨hz6, hsp⟩ := fr_ck hsp
    refine lv_ldiv hx hb dX12_timesAnd_17 (of_decide_eq_true hz6) ?_
    refine fr_lc_le (tgt := 29) hx hb dX12_timesAnd_18 dX12_timesAnd_19 (by decide) (fun c7 => ?_) (fun c7 => ?_)
    · rw [if_pos c7] at hsp
      exact hb_29 h x1 x3 x5 _ _ _ hsp hR (lv_sub hl [0, 1, 2, 3] rfl)
    · rw [if_neg c7] at hsp
      refine lv_aload_n hx hb dX12_timesAnd_22 rfl (lv_at hl 0 rfl) ?_
      refine lv_iconst (v := 1) hx hb dX12_timesAnd_23 (by decide) ?_
      refine fr_putz C hR ha Fp_RX12_141 rfl (Or.inr rfl) dX12_timesAnd_24 (fun H locs hR => ?_)
      obtain ⟨h8, eh8⟩ : ∃ z, z = fh_sI h a 16 (1 : Int32) := ⟨_, rfl⟩
      rw [← eh8] at hR
      have hsp := fr_let eh8 hsp
      refine lv_lconst (v := 0) hx hb dX12_timesAnd_27 (by decide) ?_
      obtain ⟨e1, e2⟩ := fr_s2 hsp
      exact fr_lret C hr hlocks hR e1 e2 dX12_timesAnd_28

/-! TermRowsModel.beginsSingle(IIIII)V -/
def z_X12_beginsSingle (S : fh_S) (h : fh_H) (a : Nat) (x1 : Int32) (x2 : Int32) (x3 : Int32) (x4 : Int32) (x5 : Int32) : Option fh_H :=
    fh_b1 (z_X12_begins S h a x1 x1 (0 : Int32)) (fun h1 => fh_b1 (z_X12_numbers S h1 a x2 x3 (0 : Int32) (0 : Int32) x4 x5 (0 : Int32) (0 : Int32)) (fun h3 => some h3))
set_option maxHeartbeats 4000000 in
set_option maxRecDepth 100000 in
theorem k_X12_beginsSingle {l : Launch} {S : fh_S} {g : fh_G} {h h' : fh_H} (hj : fh_inj S g) {a : Nat} {x1 : Int32} {x2 : Int32} {x3 : Int32} {x4 : Int32} {x5 : Int32} (ha : fh_kq S a 12 = true) (hsp : z_X12_beginsSingle S h a x1 x2 x3 x4 x5 = some h') : fh_M l yX12_beginsSingle cX12_beginsSingle 6 none (fh_rm 2) S g [.ref (g.2.2 a), .int x1, .int x2, .int x3, .int x4, .int x5] h none h' := by
  unfold z_X12_beginsSingle at hsp
  refine fr_head (own := RX12) (by decide) rfl hj (Nat.le_of_ble_eq_true rfl) ?_
  intro p e s m below meth c ls C hr hlocks hR hl
  have hl : lv_has ls 6 [(0, .ref (g.2.2 a)), (1, .int x1), (2, .int x2), (3, .int x3), (4, .int x4), (5, .int x5)] := hl
  have hx := C.1.1
  have hb := C.1.2.1
  refine lv_aload_n hx hb dX12_beginsSingle_0 rfl (lv_at hl 0 rfl) ?_
  refine lv_iload_n hx hb dX12_beginsSingle_1 rfl (lv_at hl 1 rfl) ?_
  refine lv_iload_n hx hb dX12_beginsSingle_2 rfl (lv_at hl 1 rfl) ?_
  refine lv_iconst (v := 0) hx hb dX12_beginsSingle_3 (by decide) ?_
  obtain ⟨h1, E2, hsp⟩ := fr_b1 hsp
  refine fq_callV (rest := []) (st1 := []) C hR (k_X12_begins C.2.2 ha E2) Y_X12_begins YV_X12_begins Lk_RX12_176 ha ⟨_, _, rfl, by decide⟩ rfl hl.1 ⟨Nat.le_of_ble_eq_true rfl, Nat.le_of_ble_eq_true rfl⟩ rfl (Nat.le_of_ble_eq_true rfl) ⟨Nat.zero_le _, Nat.zero_le _⟩ rfl dX12_beginsSingle_4 (fun H locs hR => ?_)
  refine lv_aload_n hx hb dX12_beginsSingle_7 rfl (lv_at hl 0 rfl) ?_
  refine lv_iload_n hx hb dX12_beginsSingle_8 rfl (lv_at hl 2 rfl) ?_
  refine lv_iload_n hx hb dX12_beginsSingle_9 rfl (lv_at hl 3 rfl) ?_
  refine lv_iconst (v := 0) hx hb dX12_beginsSingle_10 (by decide) ?_
  refine lv_iconst (v := 0) hx hb dX12_beginsSingle_11 (by decide) ?_
  refine lv_iload hx hb dX12_beginsSingle_12 (lv_at hl 4 rfl) ?_
  refine lv_iload hx hb dX12_beginsSingle_14 (lv_at hl 5 rfl) ?_
  refine lv_iconst (v := 0) hx hb dX12_beginsSingle_16 (by decide) ?_
  refine lv_iconst (v := 0) hx hb dX12_beginsSingle_17 (by decide) ?_
  obtain ⟨h3, E4, hsp⟩ := fr_b1 hsp
  refine fq_callV (rest := []) (st1 := []) C hR (k_X12_numbers C.2.2 ha E4) Y_X12_numbers YV_X12_numbers Lk_RX12_180 ha ⟨_, _, rfl, by decide⟩ rfl hl.1 ⟨Nat.le_of_ble_eq_true rfl, Nat.le_of_ble_eq_true rfl⟩ rfl (Nat.le_of_ble_eq_true rfl) ⟨Nat.zero_le _, Nat.zero_le _⟩ rfl dX12_beginsSingle_18 (fun H locs hR => ?_)
  exact fr_vret C hr hlocks hR (fr_s1 hsp) dX12_beginsSingle_21

/-! TermRowsModel.beginsDouble(III)V -/
def z_X12_beginsDouble (S : fh_S) (h : fh_H) (a : Nat) (x1 : Int32) (x2 : Int32) (x3 : Int32) : Option fh_H :=
    fh_b1 (z_X12_begins S h a x2 x3 (1 : Int32)) (fun h1 => if x1 = 0 then (fh_b1 (z_X12_numbers S h1 a (0 : Int32) (1 : Int32) (1 : Int32) (0 : Int32) (0 : Int32) (0 : Int32) (0 : Int32) (1 : Int32)) (fun h4 => some h4)) else (if x1 = 1 then (fh_b1 (z_X12_numbers S h1 a (0 : Int32) (1 : Int32) (-1 : Int32) (0 : Int32) (0 : Int32) (0 : Int32) (0 : Int32) (1 : Int32)) (fun h7 => some h7)) else (if x1 = 2 then (fh_b1 (z_X12_numbers S h1 a (1 : Int32) (0 : Int32) (0 : Int32) (0 : Int32) (0 : Int32) (0 : Int32) (0 : Int32) (1 : Int32)) (fun h10 => some h10)) else (fh_b1 (z_X12_numbers S h1 a (0 : Int32) (1 : Int32) (0 : Int32) (0 : Int32) (0 : Int32) (0 : Int32) (1 : Int32) (0 : Int32)) (fun h12 => some h12)))))
set_option maxHeartbeats 4000000 in
set_option maxRecDepth 100000 in
theorem k_X12_beginsDouble {l : Launch} {S : fh_S} {g : fh_G} {h h' : fh_H} (hj : fh_inj S g) {a : Nat} {x1 : Int32} {x2 : Int32} {x3 : Int32} (ha : fh_kq S a 12 = true) (hsp : z_X12_beginsDouble S h a x1 x2 x3 = some h') : fh_M l yX12_beginsDouble cX12_beginsDouble 4 none (fh_rm 2) S g [.ref (g.2.2 a), .int x1, .int x2, .int x3] h none h' := by
  unfold z_X12_beginsDouble at hsp
  refine fr_head (own := RX12) (by decide) rfl hj (Nat.le_of_ble_eq_true rfl) ?_
  intro p e s m below meth c ls C hr hlocks hR hl
  have hl : lv_has ls 4 [(0, .ref (g.2.2 a)), (1, .int x1), (2, .int x2), (3, .int x3)] := hl
  have hx := C.1.1
  have hb := C.1.2.1
  refine lv_aload_n hx hb dX12_beginsDouble_0 rfl (lv_at hl 0 rfl) ?_
  refine lv_iload_n hx hb dX12_beginsDouble_1 rfl (lv_at hl 2 rfl) ?_
  refine lv_iload_n hx hb dX12_beginsDouble_2 rfl (lv_at hl 3 rfl) ?_
  refine lv_iconst (v := 1) hx hb dX12_beginsDouble_3 (by decide) ?_
  obtain ⟨h1, E2, hsp⟩ := fr_b1 hsp
  refine fq_callV (rest := []) (st1 := []) C hR (k_X12_begins C.2.2 ha E2) Y_X12_begins YV_X12_begins Lk_RX12_176 ha ⟨_, _, rfl, by decide⟩ rfl hl.1 ⟨Nat.le_of_ble_eq_true rfl, Nat.le_of_ble_eq_true rfl⟩ rfl (Nat.le_of_ble_eq_true rfl) ⟨Nat.zero_le _, Nat.zero_le _⟩ rfl dX12_beginsDouble_4 (fun H locs hR => ?_)
  refine lv_iload_n hx hb dX12_beginsDouble_7 rfl (lv_at hl 1 rfl) ?_
  by_cases c3 : x1 = 0
  · rw [if_pos c3] at hsp
    refine lv_tableIn (off := 28) (tgt := 36) hx hb dX12_beginsDouble_8 (by rw [c3]; decide) (by rw [c3]; decide) (by rw [c3]; decide) (by decide) ?_
    refine lv_aload_n hx hb dX12_beginsDouble_36 rfl (lv_at hl 0 rfl) ?_
    refine lv_iconst (v := 0) hx hb dX12_beginsDouble_37 (by decide) ?_
    refine lv_iconst (v := 1) hx hb dX12_beginsDouble_38 (by decide) ?_
    refine lv_iconst (v := 1) hx hb dX12_beginsDouble_39 (by decide) ?_
    refine lv_iconst (v := 0) hx hb dX12_beginsDouble_40 (by decide) ?_
    refine lv_iconst (v := 0) hx hb dX12_beginsDouble_41 (by decide) ?_
    refine lv_iconst (v := 0) hx hb dX12_beginsDouble_42 (by decide) ?_
    refine lv_iconst (v := 0) hx hb dX12_beginsDouble_43 (by decide) ?_
    refine lv_iconst (v := 1) hx hb dX12_beginsDouble_44 (by decide) ?_
    obtain ⟨h4, E5, hsp⟩ := fr_b1 hsp
    refine fq_callV (rest := []) (st1 := []) C hR (k_X12_numbers C.2.2 ha E5) Y_X12_numbers YV_X12_numbers Lk_RX12_180 ha ⟨_, _, rfl, by decide⟩ rfl hl.1 ⟨Nat.le_of_ble_eq_true rfl, Nat.le_of_ble_eq_true rfl⟩ rfl (Nat.le_of_ble_eq_true rfl) ⟨Nat.zero_le _, Nat.zero_le _⟩ rfl dX12_beginsDouble_45 (fun H locs hR => ?_)
    refine lv_goto (tgt := 93) hx hb dX12_beginsDouble_48 (by decide) ?_
    exact fr_vret C hr hlocks hR (fr_s1 hsp) dX12_beginsDouble_93
  rw [if_neg c3] at hsp
  by_cases c6 : x1 = 1
  · rw [if_pos c6] at hsp
    refine lv_tableIn (off := 43) (tgt := 51) hx hb dX12_beginsDouble_8 (by rw [c6]; decide) (by rw [c6]; decide) (by rw [c6]; decide) (by decide) ?_
    refine lv_aload_n hx hb dX12_beginsDouble_51 rfl (lv_at hl 0 rfl) ?_
    refine lv_iconst (v := 0) hx hb dX12_beginsDouble_52 (by decide) ?_
    refine lv_iconst (v := 1) hx hb dX12_beginsDouble_53 (by decide) ?_
    refine lv_iconst (v := -1) hx hb dX12_beginsDouble_54 (by decide) ?_
    refine lv_iconst (v := 0) hx hb dX12_beginsDouble_55 (by decide) ?_
    refine lv_iconst (v := 0) hx hb dX12_beginsDouble_56 (by decide) ?_
    refine lv_iconst (v := 0) hx hb dX12_beginsDouble_57 (by decide) ?_
    refine lv_iconst (v := 0) hx hb dX12_beginsDouble_58 (by decide) ?_
    refine lv_iconst (v := 1) hx hb dX12_beginsDouble_59 (by decide) ?_
    obtain ⟨h7, E8, hsp⟩ := fr_b1 hsp
    refine fq_callV (rest := []) (st1 := []) C hR (k_X12_numbers C.2.2 ha E8) Y_X12_numbers YV_X12_numbers Lk_RX12_180 ha ⟨_, _, rfl, by decide⟩ rfl hl.1 ⟨Nat.le_of_ble_eq_true rfl, Nat.le_of_ble_eq_true rfl⟩ rfl (Nat.le_of_ble_eq_true rfl) ⟨Nat.zero_le _, Nat.zero_le _⟩ rfl dX12_beginsDouble_60 (fun H locs hR => ?_)
    refine lv_goto (tgt := 93) hx hb dX12_beginsDouble_63 (by decide) ?_
    exact fr_vret C hr hlocks hR (fr_s1 hsp) dX12_beginsDouble_93
  rw [if_neg c6] at hsp
  by_cases c9 : x1 = 2
  · rw [if_pos c9] at hsp
    refine lv_tableIn (off := 58) (tgt := 66) hx hb dX12_beginsDouble_8 (by rw [c9]; decide) (by rw [c9]; decide) (by rw [c9]; decide) (by decide) ?_
    refine lv_aload_n hx hb dX12_beginsDouble_66 rfl (lv_at hl 0 rfl) ?_
    refine lv_iconst (v := 1) hx hb dX12_beginsDouble_67 (by decide) ?_
    refine lv_iconst (v := 0) hx hb dX12_beginsDouble_68 (by decide) ?_
    refine lv_iconst (v := 0) hx hb dX12_beginsDouble_69 (by decide) ?_
    refine lv_iconst (v := 0) hx hb dX12_beginsDouble_70 (by decide) ?_
    refine lv_iconst (v := 0) hx hb dX12_beginsDouble_71 (by decide) ?_
    refine lv_iconst (v := 0) hx hb dX12_beginsDouble_72 (by decide) ?_
    refine lv_iconst (v := 0) hx hb dX12_beginsDouble_73 (by decide) ?_
    refine lv_iconst (v := 1) hx hb dX12_beginsDouble_74 (by decide) ?_
    obtain ⟨h10, E11, hsp⟩ := fr_b1 hsp
    refine fq_callV (rest := []) (st1 := []) C hR (k_X12_numbers C.2.2 ha E11) Y_X12_numbers YV_X12_numbers Lk_RX12_180 ha ⟨_, _, rfl, by decide⟩ rfl hl.1 ⟨Nat.le_of_ble_eq_true rfl, Nat.le_of_ble_eq_true rfl⟩ rfl (Nat.le_of_ble_eq_true rfl) ⟨Nat.zero_le _, Nat.zero_le _⟩ rfl dX12_beginsDouble_75 (fun H locs hR => ?_)
    refine lv_goto (tgt := 93) hx hb dX12_beginsDouble_78 (by decide) ?_
    exact fr_vret C hr hlocks hR (fr_s1 hsp) dX12_beginsDouble_93
  rw [if_neg c9] at hsp
  refine lv_tableOut (tgt := 81) hx hb dX12_beginsDouble_8 (fr_tout 0 3 (fun j hj => by match j, hj with | 0, _ => exact c3 | 1, _ => exact c6 | 2, _ => exact c9 | (k + 3), hk => omega) (by decide) (by decide)) (by decide) ?_
  refine lv_aload_n hx hb dX12_beginsDouble_81 rfl (lv_at hl 0 rfl) ?_
  refine lv_iconst (v := 0) hx hb dX12_beginsDouble_82 (by decide) ?_
  refine lv_iconst (v := 1) hx hb dX12_beginsDouble_83 (by decide) ?_
  refine lv_iconst (v := 0) hx hb dX12_beginsDouble_84 (by decide) ?_
  refine lv_iconst (v := 0) hx hb dX12_beginsDouble_85 (by decide) ?_
  refine lv_iconst (v := 0) hx hb dX12_beginsDouble_86 (by decide) ?_
  refine lv_iconst (v := 0) hx hb dX12_beginsDouble_87 (by decide) ?_
  refine lv_iconst (v := 1) hx hb dX12_beginsDouble_88 (by decide) ?_
  refine lv_iconst (v := 0) hx hb dX12_beginsDouble_89 (by decide) ?_
  obtain ⟨h12, E13, hsp⟩ := fr_b1 hsp
  refine fq_callV (rest := []) (st1 := []) C hR (k_X12_numbers C.2.2 ha E13) Y_X12_numbers YV_X12_numbers Lk_RX12_180 ha ⟨_, _, rfl, by decide⟩ rfl hl.1 ⟨Nat.le_of_ble_eq_true rfl, Nat.le_of_ble_eq_true rfl⟩ rfl (Nat.le_of_ble_eq_true rfl) ⟨Nat.zero_le _, Nat.zero_le _⟩ rfl dX12_beginsDouble_90 (fun H locs hR => ?_)
  exact fr_vret C hr hlocks hR (fr_s1 hsp) dX12_beginsDouble_93

/-! TermRowsModel.isSure()Z -/
def z_X12_isSure_b38 (S : fh_S) (a : Nat) : Nat → fh_H → Int64 → Int32 → Option Int32
  | 0, _, _, _ => none
  | n + 1, h, y1, y3 =>
    fh_b1 (z_X12_corners S h a) (fun r1 => if r1 ≤ y3 then (some (1 : Int32)) else (fh_b1 (z_X12_corner S h a (4 : Int32) y3) (fun r4 => fh_b1 (h.2.2 a 13) (fun j6 => fh_ck (fh_kq S j6 14) (fh_ck (fh_in (4 : Int32) (S.2.2 j6)) (fh_b1 (z_X12_haveOneSign (h.2.1 j6 (Int32.toNatClampNeg (4 : Int32))) r4) (fun r10 => if r10 = 0 then (some (0 : Int32)) else (fh_b1 (z_X12_corner S h a (0 : Int32) y3) (fun r13 => fh_b1 (z_J9_floorDiv_f86c9 r13 r4) (fun r15 => if r15 = y1 then (fh_let (y3 + 1) (fun v18 => z_X12_isSure_b38 S a n h y1 v18)) else (some (0 : Int32))))))))))))
def z_X12_isSure (S : fh_S) (h : fh_H) (a : Nat) : Option Int32 :=
    fh_b1 (z_X12_mayBeSure S h a) (fun r1 => if r1 = 0 then (some (0 : Int32)) else (fh_b1 (h.2.2 a 13) (fun j4 => fh_ck (fh_kq S j4 14) (fh_ck (fh_in (4 : Int32) (S.2.2 j4)) (if (h.2.1 j4 (Int32.toNatClampNeg (4 : Int32))) = (0 : Int64) then (some (0 : Int32)) else (fh_ck (fh_in (0 : Int32) (S.2.2 j4)) (fh_b1 (z_J9_floorDiv_f86c9 (h.2.1 j4 (Int32.toNatClampNeg (0 : Int32))) (h.2.1 j4 (Int32.toNatClampNeg (4 : Int32)))) (fun r10 => z_X12_isSure_b38 S a 20000 h r10 (1 : Int32)))))))))
set_option maxHeartbeats 4000000 in
set_option maxRecDepth 100000 in
theorem k_X12_isSure {l : Launch} {S : fh_S} {g : fh_G} {h : fh_H} (hj : fh_inj S g) {a : Nat} {r : Int32} (ha : fh_kq S a 12 = true) (hsp : z_X12_isSure S h a = some r) : fh_M l yX12_isSure cX12_isSure 6 (some .boolean) (fh_rm 2) S g [.ref (g.2.2 a)] h (some (.int r)) h := by
  unfold z_X12_isSure at hsp
  refine fr_head (own := RX12) (by decide) rfl hj (Nat.le_of_ble_eq_true rfl) ?_
  intro p e s m below meth c ls C hr hlocks hR hl
  have hl : lv_has ls 6 [(0, .ref (g.2.2 a))] := hl
  have hx := C.1.1
  have hb := C.1.2.1
  have hb_38 : ∀ (n : Nat) (y1 : Int64) (y3 : Int32) (H : Heap) (locs : List Loc) (ls : Array Slot), z_X12_isSure_b38 S a n h y1 y3 = some r → fh_R S g s.heap h H locs → lv_has ls 6 [(0, .ref (g.2.2 a)), (1, .long y1), (3, .int y3)] → fh_Wk p l e 2 s m [.ref (g.2.2 a)] below meth c S g (some (.int r)) h H locs (F0 m 38 ls []) := by
    intro n
    induction n with
    | zero => intro y1 y3 H locs ls hsp; cases hsp
    | succ n ih =>
      intro y1 y3 H locs ls hsp hR hl
      rw [z_X12_isSure_b38] at hsp
      refine lv_iload_n hx hb dX12_isSure_38 rfl (lv_at hl 2 rfl) ?_
      refine lv_aload_n hx hb dX12_isSure_39 rfl (lv_at hl 0 rfl) ?_
      obtain ⟨r1, E2, hsp⟩ := fr_b1 hsp
      refine fq_callV (rest := [.int y3]) (st1 := [.int r1, .int y3]) C hR (k_X12_corners C.2.2 ha E2) Y_X12_corners YV_X12_corners Lk_RX12_188 ha ⟨_, _, rfl, by decide⟩ rfl hl.1 ⟨Nat.le_of_ble_eq_true rfl, Nat.le_of_ble_eq_true rfl⟩ rfl (Nat.le_of_ble_eq_true rfl) ⟨Nat.zero_le _, Nat.zero_le _⟩ rfl dX12_isSure_40 (fun H locs hR => ?_)
      refine lv_icmp_ge (tgt := 92) hx hb dX12_isSure_43 (by decide) (fun c3 => ?_) (fun c3 => ?_)
      · rw [if_pos c3] at hsp
        refine lv_iconst (v := 1) hx hb dX12_isSure_92 (by decide) ?_
        have e1 := fr_s1 hsp
        exact fr_zret C hr hlocks hR (Or.inr rfl) e1 rfl dX12_isSure_93
      · rw [if_neg c3] at hsp
        refine lv_aload_n hx hb dX12_isSure_46 rfl (lv_at hl 0 rfl) ?_
        refine lv_iconst (v := 4) hx hb dX12_isSure_47 (by decide) ?_
        refine lv_iload_n hx hb dX12_isSure_48 rfl (lv_at hl 2 rfl) ?_
        obtain ⟨r4, E5, hsp⟩ := fr_b1 hsp
        refine fq_callV (rest := []) (st1 := [.long r4]) C hR (k_X12_corner C.2.2 ha E5) Y_X12_corner YV_X12_corner Lk_RX12_192 ha ⟨_, _, rfl, by decide⟩ rfl hl.1 ⟨Nat.le_of_ble_eq_true rfl, Nat.le_of_ble_eq_true rfl⟩ rfl (Nat.le_of_ble_eq_true rfl) ⟨Nat.zero_le _, Nat.zero_le _⟩ rfl dX12_isSure_49 (fun H locs hR => ?_)
        refine lv_lstore (lv' := [(4, .long r4), (0, .ref (g.2.2 a)), (1, .long y1), (3, .int y3)]) hx hb dX12_isSure_52 hl (by decide) rfl (fun ls hl => ?_)
        refine lv_aload_n hx hb dX12_isSure_54 rfl (lv_at hl 1 rfl) ?_
        obtain ⟨j6, hv7, hsp⟩ := fr_b1 hsp
        refine fr_getr C hR ha Fg_RX12_41 rfl hv7 dX12_isSure_55 ?_
        refine lv_iconst (v := 4) hx hb dX12_isSure_58 (by decide) ?_
        obtain ⟨hk8, hsp⟩ := fr_ck hsp
        obtain ⟨hi9, hsp⟩ := fr_ck hsp
        refine fr_lald C hR hk8 hi9 dX12_isSure_59 ?_
        refine lv_lload hx hb dX12_isSure_60 (lv_at hl 0 rfl) ?_
        obtain ⟨r10, E11, hsp⟩ := fr_b1 hsp
        refine fq_callS (rest := []) (st1 := [.int r10]) C hR (k_X12_haveOneSign C.2.2 E11) Y_X12_haveOneSign YS_X12_haveOneSign Lk_RX12_196 rfl hl.1 ⟨Nat.le_of_ble_eq_true rfl, Nat.le_of_ble_eq_true rfl⟩ rfl (Nat.le_of_ble_eq_true rfl) ⟨Nat.zero_le _, Nat.zero_le _⟩ rfl dX12_isSure_62 (fun H locs hR => ?_)
        refine lv_if_eq (tgt := 84) hx hb dX12_isSure_65 (by decide) (fun c12 => ?_) (fun c12 => ?_)
        · rw [if_pos c12] at hsp
          refine lv_iconst (v := 0) hx hb dX12_isSure_84 (by decide) ?_
          have e1 := fr_s1 hsp
          exact fr_zret C hr hlocks hR (Or.inl rfl) e1 rfl dX12_isSure_85
        · rw [if_neg c12] at hsp
          refine lv_aload_n hx hb dX12_isSure_68 rfl (lv_at hl 1 rfl) ?_
          refine lv_iconst (v := 0) hx hb dX12_isSure_69 (by decide) ?_
          refine lv_iload_n hx hb dX12_isSure_70 rfl (lv_at hl 3 rfl) ?_
          obtain ⟨r13, E14, hsp⟩ := fr_b1 hsp
          refine fq_callV (rest := []) (st1 := [.long r13]) C hR (k_X12_corner C.2.2 ha E14) Y_X12_corner YV_X12_corner Lk_RX12_192 ha ⟨_, _, rfl, by decide⟩ rfl hl.1 ⟨Nat.le_of_ble_eq_true rfl, Nat.le_of_ble_eq_true rfl⟩ rfl (Nat.le_of_ble_eq_true rfl) ⟨Nat.zero_le _, Nat.zero_le _⟩ rfl dX12_isSure_71 (fun H locs hR => ?_)
          refine lv_lload hx hb dX12_isSure_74 (lv_at hl 0 rfl) ?_
          obtain ⟨r15, E16, hsp⟩ := fr_b1 hsp
          refine fq_callS (rest := []) (st1 := [.long r15]) C hR (k_J9_floorDiv_f86c9 C.2.2 E16) Y_J9_floorDiv_f86c9 YS_J9_floorDiv_f86c9 Lk_RX12_103 rfl hl.1 ⟨Nat.le_of_ble_eq_true rfl, Nat.le_of_ble_eq_true rfl⟩ rfl (Nat.le_of_ble_eq_true rfl) ⟨Nat.zero_le _, Nat.zero_le _⟩ rfl dX12_isSure_76 (fun H locs hR => ?_)
          refine lv_lload_n hx hb dX12_isSure_79 rfl (lv_at hl 2 rfl) ?_
          refine fr_lc_eq (tgt := 86) hx hb dX12_isSure_80 dX12_isSure_81 (by decide) (fun c17 => ?_) (fun c17 => ?_)
          · rw [if_pos c17] at hsp
            obtain ⟨v18, ev18⟩ : ∃ z : Int32, z = y3 + 1 := ⟨_, rfl⟩
            have hsp := fr_let ev18 hsp
            refine lv_iinc (v := v18) (lv' := [(3, .int v18), (4, .long r4), (0, .ref (g.2.2 a)), (1, .long y1)]) hx hb dX12_isSure_86 hl (k := 3) rfl (by rw [ev18]; rfl) (by decide) rfl (fun ls hl => ?_)
            refine lv_goto (tgt := 38) hx hb dX12_isSure_89 (by decide) ?_
            exact ih y1 v18 _ _ _ hsp hR (lv_sub hl [2, 3, 0] rfl)
          · rw [if_neg c17] at hsp
            refine lv_iconst (v := 0) hx hb dX12_isSure_84 (by decide) ?_
            have e1 := fr_s1 hsp
            exact fr_zret C hr hlocks hR (Or.inl rfl) e1 rfl dX12_isSure_85
  refine lv_aload_n hx hb dX12_isSure_0 rfl (lv_at hl 0 rfl) ?_
  obtain ⟨r1, E2, hsp⟩ := fr_b1 hsp
  refine fq_callV (rest := []) (st1 := [.int r1]) C hR (k_X12_mayBeSure C.2.2 ha E2) Y_X12_mayBeSure YV_X12_mayBeSure Lk_RX12_184 ha ⟨_, _, rfl, by decide⟩ rfl hl.1 ⟨Nat.le_of_ble_eq_true rfl, Nat.le_of_ble_eq_true rfl⟩ rfl (Nat.le_of_ble_eq_true rfl) ⟨Nat.zero_le _, Nat.zero_le _⟩ rfl dX12_isSure_1 (fun H locs hR => ?_)
  refine lv_if_eq (tgt := 18) hx hb dX12_isSure_4 (by decide) (fun c3 => ?_) (fun c3 => ?_)
  · rw [if_pos c3] at hsp
    refine lv_iconst (v := 0) hx hb dX12_isSure_18 (by decide) ?_
    have e1 := fr_s1 hsp
    exact fr_zret C hr hlocks hR (Or.inl rfl) e1 rfl dX12_isSure_19
  · rw [if_neg c3] at hsp
    refine lv_aload_n hx hb dX12_isSure_7 rfl (lv_at hl 0 rfl) ?_
    obtain ⟨j4, hv5, hsp⟩ := fr_b1 hsp
    refine fr_getr C hR ha Fg_RX12_41 rfl hv5 dX12_isSure_8 ?_
    refine lv_iconst (v := 4) hx hb dX12_isSure_11 (by decide) ?_
    obtain ⟨hk6, hsp⟩ := fr_ck hsp
    obtain ⟨hi7, hsp⟩ := fr_ck hsp
    refine fr_lald C hR hk6 hi7 dX12_isSure_12 ?_
    refine lv_lconst (v := 0) hx hb dX12_isSure_13 (by decide) ?_
    refine fr_lc_ne (tgt := 20) hx hb dX12_isSure_14 dX12_isSure_15 (by decide) (fun c8 => ?_) (fun c8 => ?_)
    · rw [if_neg c8] at hsp
      refine lv_aload_n hx hb dX12_isSure_20 rfl (lv_at hl 0 rfl) ?_
      refine fr_getr C hR ha Fg_RX12_41 rfl hv5 dX12_isSure_21 ?_
      refine lv_iconst (v := 0) hx hb dX12_isSure_24 (by decide) ?_
      obtain ⟨hi9, hsp⟩ := fr_ck hsp
      refine fr_lald C hR hk6 hi9 dX12_isSure_25 ?_
      refine lv_aload_n hx hb dX12_isSure_26 rfl (lv_at hl 0 rfl) ?_
      refine fr_getr C hR ha Fg_RX12_41 rfl hv5 dX12_isSure_27 ?_
      refine lv_iconst (v := 4) hx hb dX12_isSure_30 (by decide) ?_
      refine fr_lald C hR hk6 hi7 dX12_isSure_31 ?_
      obtain ⟨r10, E11, hsp⟩ := fr_b1 hsp
      refine fq_callS (rest := []) (st1 := [.long r10]) C hR (k_J9_floorDiv_f86c9 C.2.2 E11) Y_J9_floorDiv_f86c9 YS_J9_floorDiv_f86c9 Lk_RX12_103 rfl hl.1 ⟨Nat.le_of_ble_eq_true rfl, Nat.le_of_ble_eq_true rfl⟩ rfl (Nat.le_of_ble_eq_true rfl) ⟨Nat.zero_le _, Nat.zero_le _⟩ rfl dX12_isSure_32 (fun H locs hR => ?_)
      refine lv_lstore_n (lv' := [(1, .long r10), (0, .ref (g.2.2 a))]) hx hb dX12_isSure_35 rfl hl (by decide) rfl (fun ls hl => ?_)
      refine lv_iconst (v := 1) hx hb dX12_isSure_36 (by decide) ?_
      refine lv_istore_n (lv' := [(3, .int (1 : Int32)), (1, .long r10), (0, .ref (g.2.2 a))]) hx hb dX12_isSure_37 rfl hl (by decide) rfl (fun ls hl => ?_)
      exact hb_38 20000 r10 (1 : Int32) _ _ _ hsp hR (lv_sub hl [2, 1, 0] rfl)
    · rw [if_pos c8] at hsp
      refine lv_iconst (v := 0) hx hb dX12_isSure_18 (by decide) ?_
      have e1 := fr_s1 hsp
      exact fr_zret C hr hlocks hR (Or.inl rfl) e1 rfl dX12_isSure_19

/-! TermRowsModel.become(IIIIII)V -/
def z_X12_become_b7 (S : fh_S) (a : Nat) : Nat → fh_H → Int32 → Int32 → Int32 → Int32 → Int32 → Int32 → Int32 → Option fh_H
  | 0, _, _, _, _, _, _, _, _ => none
  | n + 1, h, y1, y2, y3, y4, y5, y6, y7 =>
    if (109 : Int32) ≤ y7 then (fh_b1 (z_X12_put S h a y1 (0 : Int32) y2) (fun h2 => fh_b1 (z_X12_put S h2 a y1 (1 : Int32) y3) (fun h4 => fh_b1 (z_X12_put S h4 a y1 (2 : Int32) y4) (fun h6 => fh_b1 (z_X12_put S h6 a y1 (3 : Int32) y5) (fun h8 => fh_b1 (z_X12_put S h8 a y1 (4 : Int32) y6) (fun h10 => some h10)))))) else (fh_b1 (z_X12_put S h a y1 y7 (0 : Int32)) (fun h12 => fh_let (y7 + 1) (fun v14 => z_X12_become_b7 S a n h12 y1 y2 y3 y4 y5 y6 v14)))
def z_X12_become (S : fh_S) (h : fh_H) (a : Nat) (x1 : Int32) (x2 : Int32) (x3 : Int32) (x4 : Int32) (x5 : Int32) (x6 : Int32) : Option fh_H :=
    fh_b1 (z_X12_keep S h a) (fun h1 => z_X12_become_b7 S a 20000 h1 x1 x2 x3 x4 x5 x6 (0 : Int32))
set_option maxHeartbeats 4000000 in
set_option maxRecDepth 100000 in
theorem k_X12_become {l : Launch} {S : fh_S} {g : fh_G} {h h' : fh_H} (hj : fh_inj S g) {a : Nat} {x1 : Int32} {x2 : Int32} {x3 : Int32} {x4 : Int32} {x5 : Int32} {x6 : Int32} (ha : fh_kq S a 12 = true) (hsp : z_X12_become S h a x1 x2 x3 x4 x5 x6 = some h') : fh_M l yX12_become cX12_become 8 none (fh_rm 2) S g [.ref (g.2.2 a), .int x1, .int x2, .int x3, .int x4, .int x5, .int x6] h none h' := by
  unfold z_X12_become at hsp
  refine fr_head (own := RX12) (by decide) rfl hj (Nat.le_of_ble_eq_true rfl) ?_
  intro p e s m below meth c ls C hr hlocks hR hl
  have hl : lv_has ls 8 [(0, .ref (g.2.2 a)), (1, .int x1), (2, .int x2), (3, .int x3), (4, .int x4), (5, .int x5), (6, .int x6)] := hl
  have hx := C.1.1
  have hb := C.1.2.1
  have hb_7 : ∀ (n : Nat) (h : fh_H) (y1 : Int32) (y2 : Int32) (y3 : Int32) (y4 : Int32) (y5 : Int32) (y6 : Int32) (y7 : Int32) (H : Heap) (locs : List Loc) (ls : Array Slot), z_X12_become_b7 S a n h y1 y2 y3 y4 y5 y6 y7 = some h' → fh_R S g s.heap h H locs → lv_has ls 8 [(0, .ref (g.2.2 a)), (1, .int y1), (2, .int y2), (3, .int y3), (4, .int y4), (5, .int y5), (6, .int y6), (7, .int y7)] → fh_Wk p l e 2 s m [.ref (g.2.2 a), .int x1, .int x2, .int x3, .int x4, .int x5, .int x6] below meth c S g none h' H locs (F0 m 7 ls []) := by
    intro n
    induction n with
    | zero => intro h y1 y2 y3 y4 y5 y6 y7 H locs ls hsp; cases hsp
    | succ n ih =>
      intro h y1 y2 y3 y4 y5 y6 y7 H locs ls hsp hR hl
      rw [z_X12_become_b7] at hsp
      refine lv_iload hx hb dX12_become_7 (lv_at hl 7 rfl) ?_
      refine lv_bipush (v := 109) hx hb dX12_become_9 (by decide) ?_
      refine lv_icmp_ge (tgt := 28) hx hb dX12_become_11 (by decide) (fun c1 => ?_) (fun c1 => ?_)
      · rw [if_pos c1] at hsp
        refine lv_aload_n hx hb dX12_become_28 rfl (lv_at hl 0 rfl) ?_
        refine lv_iload_n hx hb dX12_become_29 rfl (lv_at hl 1 rfl) ?_
        refine lv_iconst (v := 0) hx hb dX12_become_30 (by decide) ?_
        refine lv_iload_n hx hb dX12_become_31 rfl (lv_at hl 2 rfl) ?_
        obtain ⟨h2, E3, hsp⟩ := fr_b1 hsp
        refine fq_callV (rest := []) (st1 := []) C hR (k_X12_put C.2.2 ha E3) Y_X12_put YV_X12_put Lk_RX12_66 ha ⟨_, _, rfl, by decide⟩ rfl hl.1 ⟨Nat.le_of_ble_eq_true rfl, Nat.le_of_ble_eq_true rfl⟩ rfl (Nat.le_of_ble_eq_true rfl) ⟨Nat.zero_le _, Nat.zero_le _⟩ rfl dX12_become_32 (fun H locs hR => ?_)
        refine lv_aload_n hx hb dX12_become_35 rfl (lv_at hl 0 rfl) ?_
        refine lv_iload_n hx hb dX12_become_36 rfl (lv_at hl 1 rfl) ?_
        refine lv_iconst (v := 1) hx hb dX12_become_37 (by decide) ?_
        refine lv_iload_n hx hb dX12_become_38 rfl (lv_at hl 3 rfl) ?_
        obtain ⟨h4, E5, hsp⟩ := fr_b1 hsp
        refine fq_callV (rest := []) (st1 := []) C hR (k_X12_put C.2.2 ha E5) Y_X12_put YV_X12_put Lk_RX12_66 ha ⟨_, _, rfl, by decide⟩ rfl hl.1 ⟨Nat.le_of_ble_eq_true rfl, Nat.le_of_ble_eq_true rfl⟩ rfl (Nat.le_of_ble_eq_true rfl) ⟨Nat.zero_le _, Nat.zero_le _⟩ rfl dX12_become_39 (fun H locs hR => ?_)
        refine lv_aload_n hx hb dX12_become_42 rfl (lv_at hl 0 rfl) ?_
        refine lv_iload_n hx hb dX12_become_43 rfl (lv_at hl 1 rfl) ?_
        refine lv_iconst (v := 2) hx hb dX12_become_44 (by decide) ?_
        refine lv_iload hx hb dX12_become_45 (lv_at hl 4 rfl) ?_
        obtain ⟨h6, E7, hsp⟩ := fr_b1 hsp
        refine fq_callV (rest := []) (st1 := []) C hR (k_X12_put C.2.2 ha E7) Y_X12_put YV_X12_put Lk_RX12_66 ha ⟨_, _, rfl, by decide⟩ rfl hl.1 ⟨Nat.le_of_ble_eq_true rfl, Nat.le_of_ble_eq_true rfl⟩ rfl (Nat.le_of_ble_eq_true rfl) ⟨Nat.zero_le _, Nat.zero_le _⟩ rfl dX12_become_47 (fun H locs hR => ?_)
        refine lv_aload_n hx hb dX12_become_50 rfl (lv_at hl 0 rfl) ?_
        refine lv_iload_n hx hb dX12_become_51 rfl (lv_at hl 1 rfl) ?_
        refine lv_iconst (v := 3) hx hb dX12_become_52 (by decide) ?_
        refine lv_iload hx hb dX12_become_53 (lv_at hl 5 rfl) ?_
        obtain ⟨h8, E9, hsp⟩ := fr_b1 hsp
        refine fq_callV (rest := []) (st1 := []) C hR (k_X12_put C.2.2 ha E9) Y_X12_put YV_X12_put Lk_RX12_66 ha ⟨_, _, rfl, by decide⟩ rfl hl.1 ⟨Nat.le_of_ble_eq_true rfl, Nat.le_of_ble_eq_true rfl⟩ rfl (Nat.le_of_ble_eq_true rfl) ⟨Nat.zero_le _, Nat.zero_le _⟩ rfl dX12_become_55 (fun H locs hR => ?_)
        refine lv_aload_n hx hb dX12_become_58 rfl (lv_at hl 0 rfl) ?_
        refine lv_iload_n hx hb dX12_become_59 rfl (lv_at hl 1 rfl) ?_
        refine lv_iconst (v := 4) hx hb dX12_become_60 (by decide) ?_
        refine lv_iload hx hb dX12_become_61 (lv_at hl 6 rfl) ?_
        obtain ⟨h10, E11, hsp⟩ := fr_b1 hsp
        refine fq_callV (rest := []) (st1 := []) C hR (k_X12_put C.2.2 ha E11) Y_X12_put YV_X12_put Lk_RX12_66 ha ⟨_, _, rfl, by decide⟩ rfl hl.1 ⟨Nat.le_of_ble_eq_true rfl, Nat.le_of_ble_eq_true rfl⟩ rfl (Nat.le_of_ble_eq_true rfl) ⟨Nat.zero_le _, Nat.zero_le _⟩ rfl dX12_become_63 (fun H locs hR => ?_)
        exact fr_vret C hr hlocks hR (fr_s1 hsp) dX12_become_66
      · rw [if_neg c1] at hsp
        refine lv_aload_n hx hb dX12_become_14 rfl (lv_at hl 0 rfl) ?_
        refine lv_iload_n hx hb dX12_become_15 rfl (lv_at hl 1 rfl) ?_
        refine lv_iload hx hb dX12_become_16 (lv_at hl 7 rfl) ?_
        refine lv_iconst (v := 0) hx hb dX12_become_18 (by decide) ?_
        obtain ⟨h12, E13, hsp⟩ := fr_b1 hsp
        refine fq_callV (rest := []) (st1 := []) C hR (k_X12_put C.2.2 ha E13) Y_X12_put YV_X12_put Lk_RX12_66 ha ⟨_, _, rfl, by decide⟩ rfl hl.1 ⟨Nat.le_of_ble_eq_true rfl, Nat.le_of_ble_eq_true rfl⟩ rfl (Nat.le_of_ble_eq_true rfl) ⟨Nat.zero_le _, Nat.zero_le _⟩ rfl dX12_become_19 (fun H locs hR => ?_)
        obtain ⟨v14, ev14⟩ : ∃ z : Int32, z = y7 + 1 := ⟨_, rfl⟩
        have hsp := fr_let ev14 hsp
        refine lv_iinc (v := v14) (lv' := [(7, .int v14), (0, .ref (g.2.2 a)), (1, .int y1), (2, .int y2), (3, .int y3), (4, .int y4), (5, .int y5), (6, .int y6)]) hx hb dX12_become_22 hl (k := 7) rfl (by rw [ev14]; rfl) (by decide) rfl (fun ls hl => ?_)
        refine lv_goto (tgt := 7) hx hb dX12_become_25 (by decide) ?_
        exact ih h12 y1 y2 y3 y4 y5 y6 v14 _ _ _ hsp hR (lv_sub hl [1, 2, 3, 4, 5, 6, 7, 0] rfl)
  refine lv_aload_n hx hb dX12_become_0 rfl (lv_at hl 0 rfl) ?_
  obtain ⟨h1, E2, hsp⟩ := fr_b1 hsp
  refine fq_callV (rest := []) (st1 := []) C hR (k_X12_keep C.2.2 ha E2) Y_X12_keep YV_X12_keep Lk_RX12_261 ha ⟨_, _, rfl, by decide⟩ rfl hl.1 ⟨Nat.le_of_ble_eq_true rfl, Nat.le_of_ble_eq_true rfl⟩ rfl (Nat.le_of_ble_eq_true rfl) ⟨Nat.zero_le _, Nat.zero_le _⟩ rfl dX12_become_1 (fun H locs hR => ?_)
  refine lv_iconst (v := 0) hx hb dX12_become_4 (by decide) ?_
  refine lv_istore (lv' := [(7, .int (0 : Int32)), (0, .ref (g.2.2 a)), (1, .int x1), (2, .int x2), (3, .int x3), (4, .int x4), (5, .int x5), (6, .int x6)]) hx hb dX12_become_5 hl (by decide) rfl (fun ls hl => ?_)
  exact hb_7 20000 h1 x1 x2 x3 x4 x5 x6 (0 : Int32) _ _ _ hsp hR (lv_sub hl [1, 2, 3, 4, 5, 6, 7, 0] rfl)

/-! TermRowsModel.areSmall(IIII)Z -/
def z_X12_areSmall (x0 : Int32) (x1 : Int32) (x2 : Int32) (x3 : Int32) : Option Int32 :=
    fh_b1 (z_X12_isIn (Int32.toInt64 x0) (-999 : Int64) (999 : Int64)) (fun r1 => if r1 = 0 then (some (0 : Int32)) else (fh_b1 (z_X12_isIn (Int32.toInt64 x1) (-999 : Int64) (999 : Int64)) (fun r4 => if r4 = 0 then (some (0 : Int32)) else (fh_b1 (z_X12_isIn (Int32.toInt64 x2) (-999 : Int64) (999 : Int64)) (fun r7 => if r7 = 0 then (some (0 : Int32)) else (fh_b1 (z_X12_isIn (Int32.toInt64 x3) (-999 : Int64) (999 : Int64)) (fun r10 => if r10 = 0 then (some (0 : Int32)) else (if x2 = 0 then (if x3 = 0 then (some (0 : Int32)) else (some (1 : Int32))) else (some (1 : Int32))))))))))
set_option maxHeartbeats 4000000 in
set_option maxRecDepth 100000 in
theorem k_X12_areSmall {l : Launch} {S : fh_S} {g : fh_G} {h : fh_H} (hj : fh_inj S g) {x0 : Int32} {x1 : Int32} {x2 : Int32} {x3 : Int32} {r : Int32} (hsp : z_X12_areSmall x0 x1 x2 x3 = some r) : fh_M l yX12_areSmall cX12_areSmall 4 (some .boolean) (fh_rm 2) S g [.int x0, .int x1, .int x2, .int x3] h (some (.int r)) h := by
  unfold z_X12_areSmall at hsp
  refine fr_head (own := RX12) (by decide) rfl hj (Nat.le_of_ble_eq_true rfl) ?_
  intro p e s m below meth c ls C hr hlocks hR hl
  have hl : lv_has ls 4 [(0, .int x0), (1, .int x1), (2, .int x2), (3, .int x3)] := hl
  have hx := C.1.1
  have hb := C.1.2.1
  refine lv_iload_n hx hb dX12_areSmall_0 rfl (lv_at hl 0 rfl) ?_
  refine lv_i2l hx hb dX12_areSmall_1 rfl ?_
  refine lv_ldc2 hx hb C.1.2.2.2.1 (C.1.2.2.2.2 _ Kc_RX12_275) dX12_areSmall_2 ?_
  refine lv_ldc2 hx hb C.1.2.2.2.1 (C.1.2.2.2.2 _ Kc_RX12_277) dX12_areSmall_5 ?_
  obtain ⟨r1, E2, hsp⟩ := fr_b1 hsp
  refine fq_callS (rest := []) (st1 := [.int r1]) C hR (k_X12_isIn C.2.2 E2) Y_X12_isIn YS_X12_isIn Lk_RX12_78 rfl hl.1 ⟨Nat.le_of_ble_eq_true rfl, Nat.le_of_ble_eq_true rfl⟩ rfl (Nat.le_of_ble_eq_true rfl) ⟨Nat.zero_le _, Nat.zero_le _⟩ rfl dX12_areSmall_8 (fun H locs hR => ?_)
  refine lv_if_eq (tgt := 68) hx hb dX12_areSmall_11 (by decide) (fun c3 => ?_) (fun c3 => ?_)
  · rw [if_pos c3] at hsp
    refine lv_iconst (v := 0) hx hb dX12_areSmall_68 (by decide) ?_
    have e1 := fr_s1 hsp
    exact fr_zret C hr hlocks hR (Or.inl rfl) e1 rfl dX12_areSmall_69
  · rw [if_neg c3] at hsp
    refine lv_iload_n hx hb dX12_areSmall_14 rfl (lv_at hl 1 rfl) ?_
    refine lv_i2l hx hb dX12_areSmall_15 rfl ?_
    refine lv_ldc2 hx hb C.1.2.2.2.1 (C.1.2.2.2.2 _ Kc_RX12_275) dX12_areSmall_16 ?_
    refine lv_ldc2 hx hb C.1.2.2.2.1 (C.1.2.2.2.2 _ Kc_RX12_277) dX12_areSmall_19 ?_
    obtain ⟨r4, E5, hsp⟩ := fr_b1 hsp
    refine fq_callS (rest := []) (st1 := [.int r4]) C hR (k_X12_isIn C.2.2 E5) Y_X12_isIn YS_X12_isIn Lk_RX12_78 rfl hl.1 ⟨Nat.le_of_ble_eq_true rfl, Nat.le_of_ble_eq_true rfl⟩ rfl (Nat.le_of_ble_eq_true rfl) ⟨Nat.zero_le _, Nat.zero_le _⟩ rfl dX12_areSmall_22 (fun H locs hR => ?_)
    refine lv_if_eq (tgt := 68) hx hb dX12_areSmall_25 (by decide) (fun c6 => ?_) (fun c6 => ?_)
    · rw [if_pos c6] at hsp
      refine lv_iconst (v := 0) hx hb dX12_areSmall_68 (by decide) ?_
      have e1 := fr_s1 hsp
      exact fr_zret C hr hlocks hR (Or.inl rfl) e1 rfl dX12_areSmall_69
    · rw [if_neg c6] at hsp
      refine lv_iload_n hx hb dX12_areSmall_28 rfl (lv_at hl 2 rfl) ?_
      refine lv_i2l hx hb dX12_areSmall_29 rfl ?_
      refine lv_ldc2 hx hb C.1.2.2.2.1 (C.1.2.2.2.2 _ Kc_RX12_275) dX12_areSmall_30 ?_
      refine lv_ldc2 hx hb C.1.2.2.2.1 (C.1.2.2.2.2 _ Kc_RX12_277) dX12_areSmall_33 ?_
      obtain ⟨r7, E8, hsp⟩ := fr_b1 hsp
      refine fq_callS (rest := []) (st1 := [.int r7]) C hR (k_X12_isIn C.2.2 E8) Y_X12_isIn YS_X12_isIn Lk_RX12_78 rfl hl.1 ⟨Nat.le_of_ble_eq_true rfl, Nat.le_of_ble_eq_true rfl⟩ rfl (Nat.le_of_ble_eq_true rfl) ⟨Nat.zero_le _, Nat.zero_le _⟩ rfl dX12_areSmall_36 (fun H locs hR => ?_)
      refine lv_if_eq (tgt := 68) hx hb dX12_areSmall_39 (by decide) (fun c9 => ?_) (fun c9 => ?_)
      · rw [if_pos c9] at hsp
        refine lv_iconst (v := 0) hx hb dX12_areSmall_68 (by decide) ?_
        have e1 := fr_s1 hsp
        exact fr_zret C hr hlocks hR (Or.inl rfl) e1 rfl dX12_areSmall_69
      · rw [if_neg c9] at hsp
        refine lv_iload_n hx hb dX12_areSmall_42 rfl (lv_at hl 3 rfl) ?_
        refine lv_i2l hx hb dX12_areSmall_43 rfl ?_
        refine lv_ldc2 hx hb C.1.2.2.2.1 (C.1.2.2.2.2 _ Kc_RX12_275) dX12_areSmall_44 ?_
        refine lv_ldc2 hx hb C.1.2.2.2.1 (C.1.2.2.2.2 _ Kc_RX12_277) dX12_areSmall_47 ?_
        obtain ⟨r10, E11, hsp⟩ := fr_b1 hsp
        refine fq_callS (rest := []) (st1 := [.int r10]) C hR (k_X12_isIn C.2.2 E11) Y_X12_isIn YS_X12_isIn Lk_RX12_78 rfl hl.1 ⟨Nat.le_of_ble_eq_true rfl, Nat.le_of_ble_eq_true rfl⟩ rfl (Nat.le_of_ble_eq_true rfl) ⟨Nat.zero_le _, Nat.zero_le _⟩ rfl dX12_areSmall_50 (fun H locs hR => ?_)
        refine lv_if_eq (tgt := 68) hx hb dX12_areSmall_53 (by decide) (fun c12 => ?_) (fun c12 => ?_)
        · rw [if_pos c12] at hsp
          refine lv_iconst (v := 0) hx hb dX12_areSmall_68 (by decide) ?_
          have e1 := fr_s1 hsp
          exact fr_zret C hr hlocks hR (Or.inl rfl) e1 rfl dX12_areSmall_69
        · rw [if_neg c12] at hsp
          refine lv_iload_n hx hb dX12_areSmall_56 rfl (lv_at hl 2 rfl) ?_
          refine lv_if_ne (tgt := 64) hx hb dX12_areSmall_57 (by decide) (fun c13 => ?_) (fun c13 => ?_)
          · rw [if_neg c13] at hsp
            refine lv_iconst (v := 1) hx hb dX12_areSmall_64 (by decide) ?_
            refine lv_goto (tgt := 69) hx hb dX12_areSmall_65 (by decide) ?_
            have e1 := fr_s1 hsp
            exact fr_zret C hr hlocks hR (Or.inr rfl) e1 rfl dX12_areSmall_69
          · rw [if_pos c13] at hsp
            refine lv_iload_n hx hb dX12_areSmall_60 rfl (lv_at hl 3 rfl) ?_
            refine lv_if_eq (tgt := 68) hx hb dX12_areSmall_61 (by decide) (fun c14 => ?_) (fun c14 => ?_)
            · rw [if_pos c14] at hsp
              refine lv_iconst (v := 0) hx hb dX12_areSmall_68 (by decide) ?_
              have e1 := fr_s1 hsp
              exact fr_zret C hr hlocks hR (Or.inl rfl) e1 rfl dX12_areSmall_69
            · rw [if_neg c14] at hsp
              refine lv_iconst (v := 1) hx hb dX12_areSmall_64 (by decide) ?_
              refine lv_goto (tgt := 69) hx hb dX12_areSmall_65 (by decide) ?_
              have e1 := fr_s1 hsp
              exact fr_zret C hr hlocks hR (Or.inr rfl) e1 rfl dX12_areSmall_69

/-! TermRowsModel.kindMany(I)I -/
def z_X12_kindMany_b4 (S : fh_S) (a : Nat) : Nat → fh_H → Int32 → Int32 → Int32 → Option Int32
  | 0, _, _, _, _ => none
  | n + 1, h, y1, y2, y3 =>
    if (10 : Int32) ≤ y3 then (some y2) else (fh_b1 (z_X12_of1 S h a y3 (0 : Int32)) (fun r2 => if r2 = y1 then (fh_let ((y2 + (1 : Int32))) (fun v7 => fh_let (y3 + 1) (fun v8 => z_X12_kindMany_b4 S a n h y1 v7 v8))) else (fh_let ((y2 + (0 : Int32))) (fun v5 => fh_let (y3 + 1) (fun v6 => z_X12_kindMany_b4 S a n h y1 v5 v6)))))
def z_X12_kindMany (S : fh_S) (h : fh_H) (a : Nat) (x1 : Int32) : Option Int32 :=
    z_X12_kindMany_b4 S a 20000 h x1 (0 : Int32) (0 : Int32)
set_option maxHeartbeats 4000000 in
set_option maxRecDepth 100000 in
theorem k_X12_kindMany {l : Launch} {S : fh_S} {g : fh_G} {h : fh_H} (hj : fh_inj S g) {a : Nat} {x1 : Int32} {r : Int32} (ha : fh_kq S a 12 = true) (hsp : z_X12_kindMany S h a x1 = some r) : fh_M l yX12_kindMany cX12_kindMany 4 (some .int) (fh_rm 2) S g [.ref (g.2.2 a), .int x1] h (some (.int r)) h := by
  unfold z_X12_kindMany at hsp
  refine fr_head (own := RX12) (by decide) rfl hj (Nat.le_of_ble_eq_true rfl) ?_
  intro p e s m below meth c ls C hr hlocks hR hl
  have hl : lv_has ls 4 [(0, .ref (g.2.2 a)), (1, .int x1)] := hl
  have hx := C.1.1
  have hb := C.1.2.1
  have hb_4 : ∀ (n : Nat) (y1 : Int32) (y2 : Int32) (y3 : Int32) (H : Heap) (locs : List Loc) (ls : Array Slot), z_X12_kindMany_b4 S a n h y1 y2 y3 = some r → fh_R S g s.heap h H locs → lv_has ls 4 [(0, .ref (g.2.2 a)), (1, .int y1), (2, .int y2), (3, .int y3)] → fh_Wk p l e 2 s m [.ref (g.2.2 a), .int x1] below meth c S g (some (.int r)) h H locs (F0 m 4 ls []) := by
    intro n
    induction n with
    | zero => intro y1 y2 y3 H locs ls hsp; cases hsp
    | succ n ih =>
      intro y1 y2 y3 H locs ls hsp hR hl
      rw [z_X12_kindMany_b4] at hsp
      refine lv_iload_n hx hb dX12_kindMany_4 rfl (lv_at hl 3 rfl) ?_
      refine lv_bipush (v := 10) hx hb dX12_kindMany_5 (by decide) ?_
      refine lv_icmp_ge (tgt := 34) hx hb dX12_kindMany_7 (by decide) (fun c1 => ?_) (fun c1 => ?_)
      · rw [if_pos c1] at hsp
        refine lv_iload_n hx hb dX12_kindMany_34 rfl (lv_at hl 2 rfl) ?_
        have e1 := fr_s1 hsp
        exact fr_iret C hr hlocks hR e1 rfl dX12_kindMany_35
      · rw [if_neg c1] at hsp
        refine lv_iload_n hx hb dX12_kindMany_10 rfl (lv_at hl 2 rfl) ?_
        refine lv_aload_n hx hb dX12_kindMany_11 rfl (lv_at hl 0 rfl) ?_
        refine lv_iload_n hx hb dX12_kindMany_12 rfl (lv_at hl 3 rfl) ?_
        refine lv_iconst (v := 0) hx hb dX12_kindMany_13 (by decide) ?_
        obtain ⟨r2, E3, hsp⟩ := fr_b1 hsp
        refine fq_callV (rest := [.int y2]) (st1 := [.int r2, .int y2]) C hR (k_X12_of1 C.2.2 ha E3) Y_X12_of1 YV_X12_of1 Lk_RX12_86 ha ⟨_, _, rfl, by decide⟩ rfl hl.1 ⟨Nat.le_of_ble_eq_true rfl, Nat.le_of_ble_eq_true rfl⟩ rfl (Nat.le_of_ble_eq_true rfl) ⟨Nat.zero_le _, Nat.zero_le _⟩ rfl dX12_kindMany_14 (fun H locs hR => ?_)
        refine lv_iload_n hx hb dX12_kindMany_17 rfl (lv_at hl 1 rfl) ?_
        refine lv_icmp_ne (tgt := 25) hx hb dX12_kindMany_18 (by decide) (fun c4 => ?_) (fun c4 => ?_)
        · rw [if_neg c4] at hsp
          refine lv_iconst (v := 0) hx hb dX12_kindMany_25 (by decide) ?_
          refine lv_iadd hx hb dX12_kindMany_26 ?_
          refine lv_topi (fun v5 ev5 => ?_)
          have hsp := fr_let ev5 hsp
          refine lv_istore_n (lv' := [(2, .int v5), (0, .ref (g.2.2 a)), (1, .int y1), (3, .int y3)]) hx hb dX12_kindMany_27 rfl hl (by decide) rfl (fun ls hl => ?_)
          obtain ⟨v6, ev6⟩ : ∃ z : Int32, z = y3 + 1 := ⟨_, rfl⟩
          have hsp := fr_let ev6 hsp
          refine lv_iinc (v := v6) (lv' := [(3, .int v6), (2, .int v5), (0, .ref (g.2.2 a)), (1, .int y1)]) hx hb dX12_kindMany_28 hl (k := 3) rfl (by rw [ev6]; rfl) (by decide) rfl (fun ls hl => ?_)
          refine lv_goto (tgt := 4) hx hb dX12_kindMany_31 (by decide) ?_
          exact ih y1 v5 v6 _ _ _ hsp hR (lv_sub hl [2, 3, 1, 0] rfl)
        · rw [if_pos c4] at hsp
          refine lv_iconst (v := 1) hx hb dX12_kindMany_21 (by decide) ?_
          refine lv_goto (tgt := 26) hx hb dX12_kindMany_22 (by decide) ?_
          refine lv_iadd hx hb dX12_kindMany_26 ?_
          refine lv_topi (fun v7 ev7 => ?_)
          have hsp := fr_let ev7 hsp
          refine lv_istore_n (lv' := [(2, .int v7), (0, .ref (g.2.2 a)), (1, .int y1), (3, .int y3)]) hx hb dX12_kindMany_27 rfl hl (by decide) rfl (fun ls hl => ?_)
          obtain ⟨v8, ev8⟩ : ∃ z : Int32, z = y3 + 1 := ⟨_, rfl⟩
          have hsp := fr_let ev8 hsp
          refine lv_iinc (v := v8) (lv' := [(3, .int v8), (2, .int v7), (0, .ref (g.2.2 a)), (1, .int y1)]) hx hb dX12_kindMany_28 hl (k := 3) rfl (by rw [ev8]; rfl) (by decide) rfl (fun ls hl => ?_)
          refine lv_goto (tgt := 4) hx hb dX12_kindMany_31 (by decide) ?_
          exact ih y1 v7 v8 _ _ _ hsp hR (lv_sub hl [2, 3, 1, 0] rfl)
  refine lv_iconst (v := 0) hx hb dX12_kindMany_0 (by decide) ?_
  refine lv_istore_n (lv' := [(2, .int (0 : Int32)), (0, .ref (g.2.2 a)), (1, .int x1)]) hx hb dX12_kindMany_1 rfl hl (by decide) rfl (fun ls hl => ?_)
  refine lv_iconst (v := 0) hx hb dX12_kindMany_2 (by decide) ?_
  refine lv_istore_n (lv' := [(3, .int (0 : Int32)), (2, .int (0 : Int32)), (0, .ref (g.2.2 a)), (1, .int x1)]) hx hb dX12_kindMany_3 rfl hl (by decide) rfl (fun ls hl => ?_)
  exact hb_4 20000 x1 (0 : Int32) (0 : Int32) _ _ _ hsp hR (lv_sub hl [2, 3, 1, 0] rfl)

/-! TermRowsModel.greatestOf(I)I -/
def z_X12_greatestOf_b4 (S : fh_S) (a : Nat) : Nat → fh_H → Int32 → Int32 → Int32 → Option Int32
  | 0, _, _, _, _ => none
  | n + 1, h, y1, y2, y3 =>
    fh_b1 (h.2.2 a 5) (fun j1 => fh_ck (fh_kq S j1 13) (fh_ck (fh_in y1 (S.2.2 j1)) (if (h.1 j1 (Int32.toNatClampNeg y1)) ≤ y3 then (some y2) else (fh_b1 (z_X12_termOf S h a y1 y3) (fun r6 => fh_b1 (z_J9_max_7cf53 y2 r6) (fun r8 => fh_let (y3 + 1) (fun v10 => z_X12_greatestOf_b4 S a n h y1 r8 v10)))))))
def z_X12_greatestOf (S : fh_S) (h : fh_H) (a : Nat) (x1 : Int32) : Option Int32 :=
    z_X12_greatestOf_b4 S a 20000 h x1 (0 : Int32) (1 : Int32)
set_option maxHeartbeats 4000000 in
set_option maxRecDepth 100000 in
theorem k_X12_greatestOf {l : Launch} {S : fh_S} {g : fh_G} {h : fh_H} (hj : fh_inj S g) {a : Nat} {x1 : Int32} {r : Int32} (ha : fh_kq S a 12 = true) (hsp : z_X12_greatestOf S h a x1 = some r) : fh_M l yX12_greatestOf cX12_greatestOf 4 (some .int) (fh_rm 2) S g [.ref (g.2.2 a), .int x1] h (some (.int r)) h := by
  unfold z_X12_greatestOf at hsp
  refine fr_head (own := RX12) (by decide) rfl hj (Nat.le_of_ble_eq_true rfl) ?_
  intro p e s m below meth c ls C hr hlocks hR hl
  have hl : lv_has ls 4 [(0, .ref (g.2.2 a)), (1, .int x1)] := hl
  have hx := C.1.1
  have hb := C.1.2.1
  have hb_4 : ∀ (n : Nat) (y1 : Int32) (y2 : Int32) (y3 : Int32) (H : Heap) (locs : List Loc) (ls : Array Slot), z_X12_greatestOf_b4 S a n h y1 y2 y3 = some r → fh_R S g s.heap h H locs → lv_has ls 4 [(0, .ref (g.2.2 a)), (1, .int y1), (2, .int y2), (3, .int y3)] → fh_Wk p l e 2 s m [.ref (g.2.2 a), .int x1] below meth c S g (some (.int r)) h H locs (F0 m 4 ls []) := by
    intro n
    induction n with
    | zero => intro y1 y2 y3 H locs ls hsp; cases hsp
    | succ n ih =>
      intro y1 y2 y3 H locs ls hsp hR hl
      rw [z_X12_greatestOf_b4] at hsp
      refine lv_iload_n hx hb dX12_greatestOf_4 rfl (lv_at hl 3 rfl) ?_
      refine lv_aload_n hx hb dX12_greatestOf_5 rfl (lv_at hl 0 rfl) ?_
      obtain ⟨j1, hv2, hsp⟩ := fr_b1 hsp
      refine fr_getr C hR ha Fg_RX12_19 rfl hv2 dX12_greatestOf_6 ?_
      refine lv_iload_n hx hb dX12_greatestOf_9 rfl (lv_at hl 1 rfl) ?_
      obtain ⟨hk3, hsp⟩ := fr_ck hsp
      obtain ⟨hi4, hsp⟩ := fr_ck hsp
      refine fr_iald C hR hk3 hi4 dX12_greatestOf_10 ?_
      refine lv_icmp_ge (tgt := 31) hx hb dX12_greatestOf_11 (by decide) (fun c5 => ?_) (fun c5 => ?_)
      · rw [if_pos c5] at hsp
        refine lv_iload_n hx hb dX12_greatestOf_31 rfl (lv_at hl 2 rfl) ?_
        have e1 := fr_s1 hsp
        exact fr_iret C hr hlocks hR e1 rfl dX12_greatestOf_32
      · rw [if_neg c5] at hsp
        refine lv_iload_n hx hb dX12_greatestOf_14 rfl (lv_at hl 2 rfl) ?_
        refine lv_aload_n hx hb dX12_greatestOf_15 rfl (lv_at hl 0 rfl) ?_
        refine lv_iload_n hx hb dX12_greatestOf_16 rfl (lv_at hl 1 rfl) ?_
        refine lv_iload_n hx hb dX12_greatestOf_17 rfl (lv_at hl 3 rfl) ?_
        obtain ⟨r6, E7, hsp⟩ := fr_b1 hsp
        refine fq_callV (rest := [.int y2]) (st1 := [.int r6, .int y2]) C hR (k_X12_termOf C.2.2 ha E7) Y_X12_termOf YV_X12_termOf Lk_RX12_219 ha ⟨_, _, rfl, by decide⟩ rfl hl.1 ⟨Nat.le_of_ble_eq_true rfl, Nat.le_of_ble_eq_true rfl⟩ rfl (Nat.le_of_ble_eq_true rfl) ⟨Nat.zero_le _, Nat.zero_le _⟩ rfl dX12_greatestOf_18 (fun H locs hR => ?_)
        obtain ⟨r8, E9, hsp⟩ := fr_b1 hsp
        refine fq_callS (rest := []) (st1 := [.int r8]) C hR (k_J9_max_7cf53 C.2.2 E9) Y_J9_max_7cf53 YS_J9_max_7cf53 Lk_RX12_302 rfl hl.1 ⟨Nat.le_of_ble_eq_true rfl, Nat.le_of_ble_eq_true rfl⟩ rfl (Nat.le_of_ble_eq_true rfl) ⟨Nat.zero_le _, Nat.zero_le _⟩ rfl dX12_greatestOf_21 (fun H locs hR => ?_)
        refine lv_istore_n (lv' := [(2, .int r8), (0, .ref (g.2.2 a)), (1, .int y1), (3, .int y3)]) hx hb dX12_greatestOf_24 rfl hl (by decide) rfl (fun ls hl => ?_)
        obtain ⟨v10, ev10⟩ : ∃ z : Int32, z = y3 + 1 := ⟨_, rfl⟩
        have hsp := fr_let ev10 hsp
        refine lv_iinc (v := v10) (lv' := [(3, .int v10), (2, .int r8), (0, .ref (g.2.2 a)), (1, .int y1)]) hx hb dX12_greatestOf_25 hl (k := 3) rfl (by rw [ev10]; rfl) (by decide) rfl (fun ls hl => ?_)
        refine lv_goto (tgt := 4) hx hb dX12_greatestOf_28 (by decide) ?_
        exact ih y1 r8 v10 _ _ _ hsp hR (lv_sub hl [2, 3, 1, 0] rfl)
  refine lv_iconst (v := 0) hx hb dX12_greatestOf_0 (by decide) ?_
  refine lv_istore_n (lv' := [(2, .int (0 : Int32)), (0, .ref (g.2.2 a)), (1, .int x1)]) hx hb dX12_greatestOf_1 rfl hl (by decide) rfl (fun ls hl => ?_)
  refine lv_iconst (v := 1) hx hb dX12_greatestOf_2 (by decide) ?_
  refine lv_istore_n (lv' := [(3, .int (1 : Int32)), (2, .int (0 : Int32)), (0, .ref (g.2.2 a)), (1, .int x1)]) hx hb dX12_greatestOf_3 rfl hl (by decide) rfl (fun ls hl => ?_)
  exact hb_4 20000 x1 (0 : Int32) (1 : Int32) _ _ _ hsp hR (lv_sub hl [2, 3, 1, 0] rfl)

/-! TermRowsModel.sumTo(II)J -/
def z_X12_sumTo_b5 (S : fh_S) (a : Nat) : Nat → fh_H → Int32 → Int32 → Int64 → Int32 → Option Int64
  | 0, _, _, _, _, _ => none
  | n + 1, h, y1, y2, y3, y5 =>
    if y2 < y5 then (some y3) else (fh_b1 (z_X12_termOf S h a y1 y5) (fun r2 => fh_let ((y3 + (Int32.toInt64 r2))) (fun v4 => fh_let (y5 + 1) (fun v5 => z_X12_sumTo_b5 S a n h y1 y2 v4 v5))))
def z_X12_sumTo (S : fh_S) (h : fh_H) (a : Nat) (x1 : Int32) (x2 : Int32) : Option Int64 :=
    z_X12_sumTo_b5 S a 20000 h x1 x2 (0 : Int64) (0 : Int32)
set_option maxHeartbeats 4000000 in
set_option maxRecDepth 100000 in
theorem k_X12_sumTo {l : Launch} {S : fh_S} {g : fh_G} {h : fh_H} (hj : fh_inj S g) {a : Nat} {x1 : Int32} {x2 : Int32} {r : Int64} (ha : fh_kq S a 12 = true) (hsp : z_X12_sumTo S h a x1 x2 = some r) : fh_M l yX12_sumTo cX12_sumTo 6 (some .long) (fh_rm 2) S g [.ref (g.2.2 a), .int x1, .int x2] h (some (.long r)) h := by
  unfold z_X12_sumTo at hsp
  refine fr_head (own := RX12) (by decide) rfl hj (Nat.le_of_ble_eq_true rfl) ?_
  intro p e s m below meth c ls C hr hlocks hR hl
  have hl : lv_has ls 6 [(0, .ref (g.2.2 a)), (1, .int x1), (2, .int x2)] := hl
  have hx := C.1.1
  have hb := C.1.2.1
  have hb_5 : ∀ (n : Nat) (y1 : Int32) (y2 : Int32) (y3 : Int64) (y5 : Int32) (H : Heap) (locs : List Loc) (ls : Array Slot), z_X12_sumTo_b5 S a n h y1 y2 y3 y5 = some r → fh_R S g s.heap h H locs → lv_has ls 6 [(0, .ref (g.2.2 a)), (1, .int y1), (2, .int y2), (3, .long y3), (5, .int y5)] → fh_Wk p l e 2 s m [.ref (g.2.2 a), .int x1, .int x2] below meth c S g (some (.long r)) h H locs (F0 m 5 ls []) := by
    intro n
    induction n with
    | zero => intro y1 y2 y3 y5 H locs ls hsp; cases hsp
    | succ n ih =>
      intro y1 y2 y3 y5 H locs ls hsp hR hl
      rw [z_X12_sumTo_b5] at hsp
      refine lv_iload hx hb dX12_sumTo_5 (lv_at hl 4 rfl) ?_
      refine lv_iload_n hx hb dX12_sumTo_7 rfl (lv_at hl 2 rfl) ?_
      refine lv_icmp_gt (tgt := 28) hx hb dX12_sumTo_8 (by decide) (fun c1 => ?_) (fun c1 => ?_)
      · rw [if_pos c1] at hsp
        refine lv_lload_n hx hb dX12_sumTo_28 rfl (lv_at hl 3 rfl) ?_
        have e1 := fr_s1 hsp
        exact fr_lret C hr hlocks hR e1 rfl dX12_sumTo_29
      · rw [if_neg c1] at hsp
        refine lv_lload_n hx hb dX12_sumTo_11 rfl (lv_at hl 3 rfl) ?_
        refine lv_aload_n hx hb dX12_sumTo_12 rfl (lv_at hl 0 rfl) ?_
        refine lv_iload_n hx hb dX12_sumTo_13 rfl (lv_at hl 1 rfl) ?_
        refine lv_iload hx hb dX12_sumTo_14 (lv_at hl 4 rfl) ?_
        obtain ⟨r2, E3, hsp⟩ := fr_b1 hsp
        refine fq_callV (rest := [.long y3]) (st1 := [.int r2, .long y3]) C hR (k_X12_termOf C.2.2 ha E3) Y_X12_termOf YV_X12_termOf Lk_RX12_219 ha ⟨_, _, rfl, by decide⟩ rfl hl.1 ⟨Nat.le_of_ble_eq_true rfl, Nat.le_of_ble_eq_true rfl⟩ rfl (Nat.le_of_ble_eq_true rfl) ⟨Nat.zero_le _, Nat.zero_le _⟩ rfl dX12_sumTo_16 (fun H locs hR => ?_)
        refine lv_i2l hx hb dX12_sumTo_19 rfl ?_
        refine lv_ladd hx hb dX12_sumTo_20 ?_
        refine lv_topl (fun v4 ev4 => ?_)
        have hsp := fr_let ev4 hsp
        refine lv_lstore_n (lv' := [(3, .long v4), (0, .ref (g.2.2 a)), (1, .int y1), (2, .int y2), (5, .int y5)]) hx hb dX12_sumTo_21 rfl hl (by decide) rfl (fun ls hl => ?_)
        obtain ⟨v5, ev5⟩ : ∃ z : Int32, z = y5 + 1 := ⟨_, rfl⟩
        have hsp := fr_let ev5 hsp
        refine lv_iinc (v := v5) (lv' := [(5, .int v5), (3, .long v4), (0, .ref (g.2.2 a)), (1, .int y1), (2, .int y2)]) hx hb dX12_sumTo_22 hl (k := 4) rfl (by rw [ev5]; rfl) (by decide) rfl (fun ls hl => ?_)
        refine lv_goto (tgt := 5) hx hb dX12_sumTo_25 (by decide) ?_
        exact ih y1 y2 v4 v5 _ _ _ hsp hR (lv_sub hl [2, 3, 4, 1, 0] rfl)
  refine lv_lconst (v := 0) hx hb dX12_sumTo_0 (by decide) ?_
  refine lv_lstore_n (lv' := [(3, .long (0 : Int64)), (0, .ref (g.2.2 a)), (1, .int x1), (2, .int x2)]) hx hb dX12_sumTo_1 rfl hl (by decide) rfl (fun ls hl => ?_)
  refine lv_iconst (v := 0) hx hb dX12_sumTo_2 (by decide) ?_
  refine lv_istore (lv' := [(5, .int (0 : Int32)), (3, .long (0 : Int64)), (0, .ref (g.2.2 a)), (1, .int x1), (2, .int x2)]) hx hb dX12_sumTo_3 hl (by decide) rfl (fun ls hl => ?_)
  exact hb_5 20000 x1 x2 (0 : Int64) (0 : Int32) _ _ _ hsp hR (lv_sub hl [2, 3, 4, 1, 0] rfl)

/-! TermRowsModel.isMadeOf(II)Z -/
def z_X12_isMadeOf_b22 (S : fh_S) (a : Nat) (h : fh_H) (y1 : Int32) (y2 : Int32) (y3 : Int32) : Option Int32 :=
    if y3 = (4 : Int32) then (fh_b1 (z_X12_of1 S h a y1 (6 : Int32)) (fun r2 => if r2 = y2 then (some (1 : Int32)) else (some (0 : Int32)))) else (some (0 : Int32))
def z_X12_isMadeOf (S : fh_S) (h : fh_H) (a : Nat) (x1 : Int32) (x2 : Int32) : Option Int32 :=
    fh_b1 (z_X12_of1 S h a x1 (0 : Int32)) (fun r1 => if r1 < (3 : Int32) then (z_X12_isMadeOf_b22 S a h x1 x2 r1) else (fh_b1 (z_X12_of1 S h a x1 (5 : Int32)) (fun r4 => if r4 = x2 then (some (1 : Int32)) else (z_X12_isMadeOf_b22 S a h x1 x2 r1))))
set_option maxHeartbeats 4000000 in
set_option maxRecDepth 100000 in
theorem k_X12_isMadeOf {l : Launch} {S : fh_S} {g : fh_G} {h : fh_H} (hj : fh_inj S g) {a : Nat} {x1 : Int32} {x2 : Int32} {r : Int32} (ha : fh_kq S a 12 = true) (hsp : z_X12_isMadeOf S h a x1 x2 = some r) : fh_M l yX12_isMadeOf cX12_isMadeOf 4 (some .boolean) (fh_rm 2) S g [.ref (g.2.2 a), .int x1, .int x2] h (some (.int r)) h := by
  unfold z_X12_isMadeOf at hsp
  refine fr_head (own := RX12) (by decide) rfl hj (Nat.le_of_ble_eq_true rfl) ?_
  intro p e s m below meth c ls C hr hlocks hR hl
  have hl : lv_has ls 4 [(0, .ref (g.2.2 a)), (1, .int x1), (2, .int x2)] := hl
  have hx := C.1.1
  have hb := C.1.2.1
  have hb_22 : ∀ (y1 : Int32) (y2 : Int32) (y3 : Int32) (H : Heap) (locs : List Loc) (ls : Array Slot), z_X12_isMadeOf_b22 S a h y1 y2 y3 = some r → fh_R S g s.heap h H locs → lv_has ls 4 [(0, .ref (g.2.2 a)), (1, .int y1), (2, .int y2), (3, .int y3)] → fh_Wk p l e 2 s m [.ref (g.2.2 a), .int x1, .int x2] below meth c S g (some (.int r)) h H locs (F0 m 22 ls []) := by
    intro y1 y2 y3 H locs ls hsp hR hl
    unfold z_X12_isMadeOf_b22 at hsp
    refine lv_iload_n hx hb dX12_isMadeOf_22 rfl (lv_at hl 3 rfl) ?_
    refine lv_iconst (v := 4) hx hb dX12_isMadeOf_23 (by decide) ?_
    refine lv_icmp_ne (tgt := 42) hx hb dX12_isMadeOf_24 (by decide) (fun c1 => ?_) (fun c1 => ?_)
    · rw [if_neg c1] at hsp
      refine lv_iconst (v := 0) hx hb dX12_isMadeOf_42 (by decide) ?_
      have e1 := fr_s1 hsp
      exact fr_zret C hr hlocks hR (Or.inl rfl) e1 rfl dX12_isMadeOf_43
    · rw [if_pos c1] at hsp
      refine lv_aload_n hx hb dX12_isMadeOf_27 rfl (lv_at hl 0 rfl) ?_
      refine lv_iload_n hx hb dX12_isMadeOf_28 rfl (lv_at hl 1 rfl) ?_
      refine lv_bipush (v := 6) hx hb dX12_isMadeOf_29 (by decide) ?_
      obtain ⟨r2, E3, hsp⟩ := fr_b1 hsp
      refine fq_callV (rest := []) (st1 := [.int r2]) C hR (k_X12_of1 C.2.2 ha E3) Y_X12_of1 YV_X12_of1 Lk_RX12_86 ha ⟨_, _, rfl, by decide⟩ rfl hl.1 ⟨Nat.le_of_ble_eq_true rfl, Nat.le_of_ble_eq_true rfl⟩ rfl (Nat.le_of_ble_eq_true rfl) ⟨Nat.zero_le _, Nat.zero_le _⟩ rfl dX12_isMadeOf_31 (fun H locs hR => ?_)
      refine lv_iload_n hx hb dX12_isMadeOf_34 rfl (lv_at hl 2 rfl) ?_
      refine lv_icmp_ne (tgt := 42) hx hb dX12_isMadeOf_35 (by decide) (fun c4 => ?_) (fun c4 => ?_)
      · rw [if_neg c4] at hsp
        refine lv_iconst (v := 0) hx hb dX12_isMadeOf_42 (by decide) ?_
        have e1 := fr_s1 hsp
        exact fr_zret C hr hlocks hR (Or.inl rfl) e1 rfl dX12_isMadeOf_43
      · rw [if_pos c4] at hsp
        refine lv_iconst (v := 1) hx hb dX12_isMadeOf_38 (by decide) ?_
        refine lv_goto (tgt := 43) hx hb dX12_isMadeOf_39 (by decide) ?_
        have e1 := fr_s1 hsp
        exact fr_zret C hr hlocks hR (Or.inr rfl) e1 rfl dX12_isMadeOf_43
  refine lv_aload_n hx hb dX12_isMadeOf_0 rfl (lv_at hl 0 rfl) ?_
  refine lv_iload_n hx hb dX12_isMadeOf_1 rfl (lv_at hl 1 rfl) ?_
  refine lv_iconst (v := 0) hx hb dX12_isMadeOf_2 (by decide) ?_
  obtain ⟨r1, E2, hsp⟩ := fr_b1 hsp
  refine fq_callV (rest := []) (st1 := [.int r1]) C hR (k_X12_of1 C.2.2 ha E2) Y_X12_of1 YV_X12_of1 Lk_RX12_86 ha ⟨_, _, rfl, by decide⟩ rfl hl.1 ⟨Nat.le_of_ble_eq_true rfl, Nat.le_of_ble_eq_true rfl⟩ rfl (Nat.le_of_ble_eq_true rfl) ⟨Nat.zero_le _, Nat.zero_le _⟩ rfl dX12_isMadeOf_3 (fun H locs hR => ?_)
  refine lv_istore_n (lv' := [(3, .int r1), (0, .ref (g.2.2 a)), (1, .int x1), (2, .int x2)]) hx hb dX12_isMadeOf_6 rfl hl (by decide) rfl (fun ls hl => ?_)
  refine lv_iload_n hx hb dX12_isMadeOf_7 rfl (lv_at hl 0 rfl) ?_
  refine lv_iconst (v := 3) hx hb dX12_isMadeOf_8 (by decide) ?_
  refine lv_icmp_lt (tgt := 22) hx hb dX12_isMadeOf_9 (by decide) (fun c3 => ?_) (fun c3 => ?_)
  · rw [if_pos c3] at hsp
    exact hb_22 x1 x2 r1 _ _ _ hsp hR (lv_sub hl [1, 2, 3, 0] rfl)
  · rw [if_neg c3] at hsp
    refine lv_aload_n hx hb dX12_isMadeOf_12 rfl (lv_at hl 1 rfl) ?_
    refine lv_iload_n hx hb dX12_isMadeOf_13 rfl (lv_at hl 2 rfl) ?_
    refine lv_iconst (v := 5) hx hb dX12_isMadeOf_14 (by decide) ?_
    obtain ⟨r4, E5, hsp⟩ := fr_b1 hsp
    refine fq_callV (rest := []) (st1 := [.int r4]) C hR (k_X12_of1 C.2.2 ha E5) Y_X12_of1 YV_X12_of1 Lk_RX12_86 ha ⟨_, _, rfl, by decide⟩ rfl hl.1 ⟨Nat.le_of_ble_eq_true rfl, Nat.le_of_ble_eq_true rfl⟩ rfl (Nat.le_of_ble_eq_true rfl) ⟨Nat.zero_le _, Nat.zero_le _⟩ rfl dX12_isMadeOf_15 (fun H locs hR => ?_)
    refine lv_iload_n hx hb dX12_isMadeOf_18 rfl (lv_at hl 3 rfl) ?_
    refine lv_icmp_eq (tgt := 38) hx hb dX12_isMadeOf_19 (by decide) (fun c6 => ?_) (fun c6 => ?_)
    · rw [if_pos c6] at hsp
      refine lv_iconst (v := 1) hx hb dX12_isMadeOf_38 (by decide) ?_
      refine lv_goto (tgt := 43) hx hb dX12_isMadeOf_39 (by decide) ?_
      have e1 := fr_s1 hsp
      exact fr_zret C hr hlocks hR (Or.inr rfl) e1 rfl dX12_isMadeOf_43
    · rw [if_neg c6] at hsp
      exact hb_22 x1 x2 r1 _ _ _ hsp hR (lv_sub hl [1, 2, 3, 0] rfl)

/-! TermRowsModel.comesAgain(III)Z -/
def z_X12_comesAgain_b3 (S : fh_S) (a : Nat) : Nat → fh_H → Int32 → Int32 → Int32 → Option Int32
  | 0, _, _, _, _ => none
  | n + 1, h, y1, y3, y4 =>
    if (60 : Int32) ≤ (y4 + y3) then (some (1 : Int32)) else (fh_b1 (z_X12_termOf S h a y1 y4) (fun r2 => fh_b1 (z_X12_termOf S h a y1 (y4 + y3)) (fun r4 => if r2 = r4 then (fh_let (y4 + 1) (fun v7 => z_X12_comesAgain_b3 S a n h y1 y3 v7)) else (some (0 : Int32)))))
def z_X12_comesAgain (S : fh_S) (h : fh_H) (a : Nat) (x1 : Int32) (x2 : Int32) (x3 : Int32) : Option Int32 :=
    z_X12_comesAgain_b3 S a 20000 h x1 x3 x2
set_option maxHeartbeats 4000000 in
set_option maxRecDepth 100000 in
theorem k_X12_comesAgain {l : Launch} {S : fh_S} {g : fh_G} {h : fh_H} (hj : fh_inj S g) {a : Nat} {x1 : Int32} {x2 : Int32} {x3 : Int32} {r : Int32} (ha : fh_kq S a 12 = true) (hsp : z_X12_comesAgain S h a x1 x2 x3 = some r) : fh_M l yX12_comesAgain cX12_comesAgain 5 (some .boolean) (fh_rm 2) S g [.ref (g.2.2 a), .int x1, .int x2, .int x3] h (some (.int r)) h := by
  unfold z_X12_comesAgain at hsp
  refine fr_head (own := RX12) (by decide) rfl hj (Nat.le_of_ble_eq_true rfl) ?_
  intro p e s m below meth c ls C hr hlocks hR hl
  have hl : lv_has ls 5 [(0, .ref (g.2.2 a)), (1, .int x1), (2, .int x2), (3, .int x3)] := hl
  have hx := C.1.1
  have hb := C.1.2.1
  have hb_3 : ∀ (n : Nat) (y1 : Int32) (y3 : Int32) (y4 : Int32) (H : Heap) (locs : List Loc) (ls : Array Slot), z_X12_comesAgain_b3 S a n h y1 y3 y4 = some r → fh_R S g s.heap h H locs → lv_has ls 5 [(0, .ref (g.2.2 a)), (1, .int y1), (3, .int y3), (4, .int y4)] → fh_Wk p l e 2 s m [.ref (g.2.2 a), .int x1, .int x2, .int x3] below meth c S g (some (.int r)) h H locs (F0 m 3 ls []) := by
    intro n
    induction n with
    | zero => intro y1 y3 y4 H locs ls hsp; cases hsp
    | succ n ih =>
      intro y1 y3 y4 H locs ls hsp hR hl
      rw [z_X12_comesAgain_b3] at hsp
      refine lv_iload hx hb dX12_comesAgain_3 (lv_at hl 3 rfl) ?_
      refine lv_iload_n hx hb dX12_comesAgain_5 rfl (lv_at hl 2 rfl) ?_
      refine lv_iadd hx hb dX12_comesAgain_6 ?_
      refine lv_bipush (v := 60) hx hb dX12_comesAgain_7 (by decide) ?_
      refine lv_icmp_ge (tgt := 39) hx hb dX12_comesAgain_9 (by decide) (fun c1 => ?_) (fun c1 => ?_)
      · rw [if_pos c1] at hsp
        refine lv_iconst (v := 1) hx hb dX12_comesAgain_39 (by decide) ?_
        have e1 := fr_s1 hsp
        exact fr_zret C hr hlocks hR (Or.inr rfl) e1 rfl dX12_comesAgain_40
      · rw [if_neg c1] at hsp
        refine lv_aload_n hx hb dX12_comesAgain_12 rfl (lv_at hl 0 rfl) ?_
        refine lv_iload_n hx hb dX12_comesAgain_13 rfl (lv_at hl 1 rfl) ?_
        refine lv_iload hx hb dX12_comesAgain_14 (lv_at hl 3 rfl) ?_
        obtain ⟨r2, E3, hsp⟩ := fr_b1 hsp
        refine fq_callV (rest := []) (st1 := [.int r2]) C hR (k_X12_termOf C.2.2 ha E3) Y_X12_termOf YV_X12_termOf Lk_RX12_219 ha ⟨_, _, rfl, by decide⟩ rfl hl.1 ⟨Nat.le_of_ble_eq_true rfl, Nat.le_of_ble_eq_true rfl⟩ rfl (Nat.le_of_ble_eq_true rfl) ⟨Nat.zero_le _, Nat.zero_le _⟩ rfl dX12_comesAgain_16 (fun H locs hR => ?_)
        refine lv_aload_n hx hb dX12_comesAgain_19 rfl (lv_at hl 0 rfl) ?_
        refine lv_iload_n hx hb dX12_comesAgain_20 rfl (lv_at hl 1 rfl) ?_
        refine lv_iload hx hb dX12_comesAgain_21 (lv_at hl 3 rfl) ?_
        refine lv_iload_n hx hb dX12_comesAgain_23 rfl (lv_at hl 2 rfl) ?_
        refine lv_iadd hx hb dX12_comesAgain_24 ?_
        obtain ⟨r4, E5, hsp⟩ := fr_b1 hsp
        refine fq_callV (rest := [.int r2]) (st1 := [.int r4, .int r2]) C hR (k_X12_termOf C.2.2 ha E5) Y_X12_termOf YV_X12_termOf Lk_RX12_219 ha ⟨_, _, rfl, by decide⟩ rfl hl.1 ⟨Nat.le_of_ble_eq_true rfl, Nat.le_of_ble_eq_true rfl⟩ rfl (Nat.le_of_ble_eq_true rfl) ⟨Nat.zero_le _, Nat.zero_le _⟩ rfl dX12_comesAgain_25 (fun H locs hR => ?_)
        refine lv_icmp_eq (tgt := 33) hx hb dX12_comesAgain_28 (by decide) (fun c6 => ?_) (fun c6 => ?_)
        · rw [if_pos c6] at hsp
          obtain ⟨v7, ev7⟩ : ∃ z : Int32, z = y4 + 1 := ⟨_, rfl⟩
          have hsp := fr_let ev7 hsp
          refine lv_iinc (v := v7) (lv' := [(4, .int v7), (0, .ref (g.2.2 a)), (1, .int y1), (3, .int y3)]) hx hb dX12_comesAgain_33 hl (k := 3) rfl (by rw [ev7]; rfl) (by decide) rfl (fun ls hl => ?_)
          refine lv_goto (tgt := 3) hx hb dX12_comesAgain_36 (by decide) ?_
          exact ih y1 y3 v7 _ _ _ hsp hR (lv_sub hl [1, 2, 3, 0] rfl)
        · rw [if_neg c6] at hsp
          refine lv_iconst (v := 0) hx hb dX12_comesAgain_31 (by decide) ?_
          have e1 := fr_s1 hsp
          exact fr_zret C hr hlocks hR (Or.inl rfl) e1 rfl dX12_comesAgain_32
  refine lv_iload_n hx hb dX12_comesAgain_0 rfl (lv_at hl 2 rfl) ?_
  refine lv_istore (lv' := [(4, .int x2), (0, .ref (g.2.2 a)), (1, .int x1), (2, .int x2), (3, .int x3)]) hx hb dX12_comesAgain_1 hl (by decide) rfl (fun ls hl => ?_)
  exact hb_3 20000 x1 x3 x2 _ _ _ hsp hR (lv_sub hl [1, 2, 4, 0] rfl)

/-! TermRowsModel.areTails(IIII)Z -/
def z_X12_areTails_b3 (S : fh_S) (a : Nat) : Nat → fh_H → Int32 → Int32 → Int32 → Int32 → Int32 → Option Int32
  | 0, _, _, _, _, _, _ => none
  | n + 1, h, y1, y2, y3, y4, y5 =>
    fh_b1 (z_J9_max_7cf53 y2 y4) (fun r1 => if (60 : Int32) ≤ (y5 + r1) then (some (1 : Int32)) else (fh_b1 (z_X12_termOf S h a y1 (y2 + y5)) (fun r4 => fh_b1 (z_X12_termOf S h a y3 (y4 + y5)) (fun r6 => if r4 = r6 then (fh_let (y5 + 1) (fun v9 => z_X12_areTails_b3 S a n h y1 y2 y3 y4 v9)) else (some (0 : Int32))))))
def z_X12_areTails (S : fh_S) (h : fh_H) (a : Nat) (x1 : Int32) (x2 : Int32) (x3 : Int32) (x4 : Int32) : Option Int32 :=
    z_X12_areTails_b3 S a 20000 h x1 x2 x3 x4 (0 : Int32)
set_option maxHeartbeats 4000000 in
set_option maxRecDepth 100000 in
theorem k_X12_areTails {l : Launch} {S : fh_S} {g : fh_G} {h : fh_H} (hj : fh_inj S g) {a : Nat} {x1 : Int32} {x2 : Int32} {x3 : Int32} {x4 : Int32} {r : Int32} (ha : fh_kq S a 12 = true) (hsp : z_X12_areTails S h a x1 x2 x3 x4 = some r) : fh_M l yX12_areTails cX12_areTails 6 (some .boolean) (fh_rm 2) S g [.ref (g.2.2 a), .int x1, .int x2, .int x3, .int x4] h (some (.int r)) h := by
  unfold z_X12_areTails at hsp
  refine fr_head (own := RX12) (by decide) rfl hj (Nat.le_of_ble_eq_true rfl) ?_
  intro p e s m below meth c ls C hr hlocks hR hl
  have hl : lv_has ls 6 [(0, .ref (g.2.2 a)), (1, .int x1), (2, .int x2), (3, .int x3), (4, .int x4)] := hl
  have hx := C.1.1
  have hb := C.1.2.1
  have hb_3 : ∀ (n : Nat) (y1 : Int32) (y2 : Int32) (y3 : Int32) (y4 : Int32) (y5 : Int32) (H : Heap) (locs : List Loc) (ls : Array Slot), z_X12_areTails_b3 S a n h y1 y2 y3 y4 y5 = some r → fh_R S g s.heap h H locs → lv_has ls 6 [(0, .ref (g.2.2 a)), (1, .int y1), (2, .int y2), (3, .int y3), (4, .int y4), (5, .int y5)] → fh_Wk p l e 2 s m [.ref (g.2.2 a), .int x1, .int x2, .int x3, .int x4] below meth c S g (some (.int r)) h H locs (F0 m 3 ls []) := by
    intro n
    induction n with
    | zero => intro y1 y2 y3 y4 y5 H locs ls hsp; cases hsp
    | succ n ih =>
      intro y1 y2 y3 y4 y5 H locs ls hsp hR hl
      rw [z_X12_areTails_b3] at hsp
      refine lv_iload hx hb dX12_areTails_3 (lv_at hl 5 rfl) ?_
      refine lv_iload_n hx hb dX12_areTails_5 rfl (lv_at hl 2 rfl) ?_
      refine lv_iload hx hb dX12_areTails_6 (lv_at hl 4 rfl) ?_
      obtain ⟨r1, E2, hsp⟩ := fr_b1 hsp
      refine fq_callS (rest := [.int y5]) (st1 := [.int r1, .int y5]) C hR (k_J9_max_7cf53 C.2.2 E2) Y_J9_max_7cf53 YS_J9_max_7cf53 Lk_RX12_302 rfl hl.1 ⟨Nat.le_of_ble_eq_true rfl, Nat.le_of_ble_eq_true rfl⟩ rfl (Nat.le_of_ble_eq_true rfl) ⟨Nat.zero_le _, Nat.zero_le _⟩ rfl dX12_areTails_8 (fun H locs hR => ?_)
      refine lv_iadd hx hb dX12_areTails_11 ?_
      refine lv_bipush (v := 60) hx hb dX12_areTails_12 (by decide) ?_
      refine lv_icmp_ge (tgt := 47) hx hb dX12_areTails_14 (by decide) (fun c3 => ?_) (fun c3 => ?_)
      · rw [if_pos c3] at hsp
        refine lv_iconst (v := 1) hx hb dX12_areTails_47 (by decide) ?_
        have e1 := fr_s1 hsp
        exact fr_zret C hr hlocks hR (Or.inr rfl) e1 rfl dX12_areTails_48
      · rw [if_neg c3] at hsp
        refine lv_aload_n hx hb dX12_areTails_17 rfl (lv_at hl 0 rfl) ?_
        refine lv_iload_n hx hb dX12_areTails_18 rfl (lv_at hl 1 rfl) ?_
        refine lv_iload_n hx hb dX12_areTails_19 rfl (lv_at hl 2 rfl) ?_
        refine lv_iload hx hb dX12_areTails_20 (lv_at hl 5 rfl) ?_
        refine lv_iadd hx hb dX12_areTails_22 ?_
        obtain ⟨r4, E5, hsp⟩ := fr_b1 hsp
        refine fq_callV (rest := []) (st1 := [.int r4]) C hR (k_X12_termOf C.2.2 ha E5) Y_X12_termOf YV_X12_termOf Lk_RX12_219 ha ⟨_, _, rfl, by decide⟩ rfl hl.1 ⟨Nat.le_of_ble_eq_true rfl, Nat.le_of_ble_eq_true rfl⟩ rfl (Nat.le_of_ble_eq_true rfl) ⟨Nat.zero_le _, Nat.zero_le _⟩ rfl dX12_areTails_23 (fun H locs hR => ?_)
        refine lv_aload_n hx hb dX12_areTails_26 rfl (lv_at hl 0 rfl) ?_
        refine lv_iload_n hx hb dX12_areTails_27 rfl (lv_at hl 3 rfl) ?_
        refine lv_iload hx hb dX12_areTails_28 (lv_at hl 4 rfl) ?_
        refine lv_iload hx hb dX12_areTails_30 (lv_at hl 5 rfl) ?_
        refine lv_iadd hx hb dX12_areTails_32 ?_
        obtain ⟨r6, E7, hsp⟩ := fr_b1 hsp
        refine fq_callV (rest := [.int r4]) (st1 := [.int r6, .int r4]) C hR (k_X12_termOf C.2.2 ha E7) Y_X12_termOf YV_X12_termOf Lk_RX12_219 ha ⟨_, _, rfl, by decide⟩ rfl hl.1 ⟨Nat.le_of_ble_eq_true rfl, Nat.le_of_ble_eq_true rfl⟩ rfl (Nat.le_of_ble_eq_true rfl) ⟨Nat.zero_le _, Nat.zero_le _⟩ rfl dX12_areTails_33 (fun H locs hR => ?_)
        refine lv_icmp_eq (tgt := 41) hx hb dX12_areTails_36 (by decide) (fun c8 => ?_) (fun c8 => ?_)
        · rw [if_pos c8] at hsp
          obtain ⟨v9, ev9⟩ : ∃ z : Int32, z = y5 + 1 := ⟨_, rfl⟩
          have hsp := fr_let ev9 hsp
          refine lv_iinc (v := v9) (lv' := [(5, .int v9), (0, .ref (g.2.2 a)), (1, .int y1), (2, .int y2), (3, .int y3), (4, .int y4)]) hx hb dX12_areTails_41 hl (k := 5) rfl (by rw [ev9]; rfl) (by decide) rfl (fun ls hl => ?_)
          refine lv_goto (tgt := 3) hx hb dX12_areTails_44 (by decide) ?_
          exact ih y1 y2 y3 y4 v9 _ _ _ hsp hR (lv_sub hl [1, 2, 3, 4, 5, 0] rfl)
        · rw [if_neg c8] at hsp
          refine lv_iconst (v := 0) hx hb dX12_areTails_39 (by decide) ?_
          have e1 := fr_s1 hsp
          exact fr_zret C hr hlocks hR (Or.inl rfl) e1 rfl dX12_areTails_40
  refine lv_iconst (v := 0) hx hb dX12_areTails_0 (by decide) ?_
  refine lv_istore (lv' := [(5, .int (0 : Int32)), (0, .ref (g.2.2 a)), (1, .int x1), (2, .int x2), (3, .int x3), (4, .int x4)]) hx hb dX12_areTails_1 hl (by decide) rfl (fun ls hl => ?_)
  exact hb_3 20000 x1 x2 x3 x4 (0 : Int32) _ _ _ hsp hR (lv_sub hl [1, 2, 3, 4, 5, 0] rfl)
