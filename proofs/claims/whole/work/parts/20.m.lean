/-! TermRowsModel.isIn(JJJ)Z -/
def z_X12_isIn (x0 : Int64) (x2 : Int64) (x4 : Int64) : Option Int32 :=
    if x0 < x2 then (some (0 : Int32)) else (if x4 < x0 then (some (0 : Int32)) else (some (1 : Int32)))
set_option maxHeartbeats 4000000 in
set_option maxRecDepth 100000 in
theorem k_X12_isIn {l : Launch} {S : fh_S} {g : fh_G} {h : fh_H} (hj : fh_inj S g) {x0 : Int64} {x2 : Int64} {x4 : Int64} {r : Int32} (hsp : z_X12_isIn x0 x2 x4 = some r) : fh_M l yX12_isIn cX12_isIn 6 (some .boolean) (fh_rm 1) S g [.long x0, .long x2, .long x4] h (some (.int r)) h := by
  refine fr_head (own := RX12) (by decide) rfl hj (Nat.le_of_ble_eq_true rfl) ?_
  intro p e s m below meth c ls C hr hlocks hR hl
  have hl : lv_has ls 6 [(0, .long x0), (2, .long x2), (4, .long x4)] := hl
  have hx := C.1.1
  have hb := C.1.2.1
  unfold z_X12_isIn at hsp
  refine lv_lload_n hx hb dX12_isIn_0 rfl (lv_at hl 0 rfl) ?_
  refine lv_lload_n hx hb dX12_isIn_1 rfl (lv_at hl 1 rfl) ?_
  refine fr_lc_lt (tgt := 17) hx hb dX12_isIn_2 dX12_isIn_3 (by decide) (fun c1 => ?_) (fun c1 => ?_)
  · rw [if_pos c1] at hsp
    refine lv_iconst (v := 0) hx hb dX12_isIn_17 (by decide) ?_
    have e1 := fr_s1 hsp
    exact fr_zret C hr hlocks hR (Or.inl rfl) e1 rfl dX12_isIn_18
  · rw [if_neg c1] at hsp
    refine lv_lload_n hx hb dX12_isIn_6 rfl (lv_at hl 0 rfl) ?_
    refine lv_lload hx hb dX12_isIn_7 (lv_at hl 2 rfl) ?_
    refine fr_lc_gt (tgt := 17) hx hb dX12_isIn_9 dX12_isIn_10 (by decide) (fun c2 => ?_) (fun c2 => ?_)
    · rw [if_pos c2] at hsp
      refine lv_iconst (v := 0) hx hb dX12_isIn_17 (by decide) ?_
      have e1 := fr_s1 hsp
      exact fr_zret C hr hlocks hR (Or.inl rfl) e1 rfl dX12_isIn_18
    · rw [if_neg c2] at hsp
      refine lv_iconst (v := 1) hx hb dX12_isIn_13 (by decide) ?_
      refine lv_goto (tgt := 18) hx hb dX12_isIn_14 (by decide) ?_
      have e1 := fr_s1 hsp
      exact fr_zret C hr hlocks hR (Or.inr rfl) e1 rfl dX12_isIn_18

/-! TermRowsModel.isRow(I)Z -/
def z_X12_isRow (x0 : Int32) : Option Int32 :=
    fh_b1 (z_X12_isIn (Int32.toInt64 x0) (0 : Int64) (9 : Int64)) (fun r1 => fh_ck (decide (r1 = 0 ∨ r1 = 1)) (some r1))
set_option maxHeartbeats 4000000 in
set_option maxRecDepth 100000 in
theorem k_X12_isRow {l : Launch} {S : fh_S} {g : fh_G} {h : fh_H} (hj : fh_inj S g) {x0 : Int32} {r : Int32} (hsp : z_X12_isRow x0 = some r) : fh_M l yX12_isRow cX12_isRow 1 (some .boolean) (fh_rm 2) S g [.int x0] h (some (.int r)) h := by
  refine fr_head (own := RX12) (by decide) rfl hj (Nat.le_of_ble_eq_true rfl) ?_
  intro p e s m below meth c ls C hr hlocks hR hl
  have hl : lv_has ls 1 [(0, .int x0)] := hl
  have hx := C.1.1
  have hb := C.1.2.1
  unfold z_X12_isRow at hsp
  refine lv_iload_n hx hb dX12_isRow_0 rfl (lv_at hl 0 rfl) ?_
  refine lv_i2l hx hb dX12_isRow_1 rfl ?_
  refine lv_lconst (v := 0) hx hb dX12_isRow_2 (by decide) ?_
  refine lv_ldc2 hx hb C.1.2.2.2.1 (C.1.2.2.2.2 _ Kc_RX12_76) dX12_isRow_3 ?_
  obtain ⟨r1, E2, hsp⟩ := fr_b1 hsp
  refine fq_callS (rest := []) (st1 := [.int r1]) C hR (k_X12_isIn C.2.2 E2) Y_X12_isIn YS_X12_isIn Lk_RX12_78 rfl hl.1 ⟨Nat.le_of_ble_eq_true rfl, Nat.le_of_ble_eq_true rfl⟩ rfl (Nat.le_of_ble_eq_true rfl) ⟨Nat.zero_le _, Nat.zero_le _⟩ rfl dX12_isRow_6 (fun H locs hR => ?_)
  obtain ⟨hz3, hsp⟩ := fr_ck hsp
  have e1 := fr_s1 hsp
  exact fr_zret C hr hlocks hR (of_decide_eq_true hz3) e1 rfl dX12_isRow_9

/-! TermRowsModel.of1(II)I -/
def z_X12_of1 (S : fh_S) (h : fh_H) (a : Nat) (x1 : Int32) (x2 : Int32) : Option Int32 :=
    fh_b1 (h.2.2 a 0) (fun j1 => fh_ck (fh_kq S j1 13) (fh_ck (fh_in (((109 : Int32) * x1) + x2) (S.2.2 j1)) (some (h.1 j1 (Int32.toNatClampNeg (((109 : Int32) * x1) + x2))))))
set_option maxHeartbeats 4000000 in
set_option maxRecDepth 100000 in
theorem k_X12_of1 {l : Launch} {S : fh_S} {g : fh_G} {h : fh_H} (hj : fh_inj S g) {a : Nat} {x1 : Int32} {x2 : Int32} {r : Int32} (ha : fh_kq S a 12 = true) (hsp : z_X12_of1 S h a x1 x2 = some r) : fh_M l yX12_of1 cX12_of1 3 (some .int) (fh_rm 1) S g [.ref (g.2.2 a), .int x1, .int x2] h (some (.int r)) h := by
  refine fr_head (own := RX12) (by decide) rfl hj (Nat.le_of_ble_eq_true rfl) ?_
  intro p e s m below meth c ls C hr hlocks hR hl
  have hl : lv_has ls 3 [(0, .ref (g.2.2 a)), (1, .int x1), (2, .int x2)] := hl
  have hx := C.1.1
  have hb := C.1.2.1
  unfold z_X12_of1 at hsp
  refine lv_aload_n hx hb dX12_of1_0 rfl (lv_at hl 0 rfl) ?_
  obtain ⟨j1, hv2, hsp⟩ := fr_b1 hsp
  refine fr_getr C hR ha Fg_RX12_9 rfl hv2 dX12_of1_1 ?_
  refine lv_bipush (v := 109) hx hb dX12_of1_4 (by decide) ?_
  refine lv_iload_n hx hb dX12_of1_6 rfl (lv_at hl 1 rfl) ?_
  refine lv_imul hx hb dX12_of1_7 ?_
  refine lv_iload_n hx hb dX12_of1_8 rfl (lv_at hl 2 rfl) ?_
  refine lv_iadd hx hb dX12_of1_9 ?_
  obtain ⟨hk3, hsp⟩ := fr_ck hsp
  obtain ⟨hi4, hsp⟩ := fr_ck hsp
  refine fr_iald C hR hk3 hi4 dX12_of1_10 ?_
  have e1 := fr_s1 hsp
  exact fr_iret C hr hlocks hR e1 rfl dX12_of1_11

/-! TermRowsModel.put(III)V -/
def z_X12_put (S : fh_S) (h : fh_H) (a : Nat) (x1 : Int32) (x2 : Int32) (x3 : Int32) : Option fh_H :=
    fh_b1 (h.2.2 a 0) (fun j1 => fh_ck (fh_kq S j1 13) (fh_ck (fh_in (((109 : Int32) * x1) + x2) (S.2.2 j1)) (fh_let (fh_sI h j1 (Int32.toNatClampNeg (((109 : Int32) * x1) + x2)) x3) (fun h5 => some h5))))
set_option maxHeartbeats 4000000 in
set_option maxRecDepth 100000 in
theorem k_X12_put {l : Launch} {S : fh_S} {g : fh_G} {h h' : fh_H} (hj : fh_inj S g) {a : Nat} {x1 : Int32} {x2 : Int32} {x3 : Int32} (ha : fh_kq S a 12 = true) (hsp : z_X12_put S h a x1 x2 x3 = some h') : fh_M l yX12_put cX12_put 4 none (fh_rm 1) S g [.ref (g.2.2 a), .int x1, .int x2, .int x3] h none h' := by
  refine fr_head (own := RX12) (by decide) rfl hj (Nat.le_of_ble_eq_true rfl) ?_
  intro p e s m below meth c ls C hr hlocks hR hl
  have hl : lv_has ls 4 [(0, .ref (g.2.2 a)), (1, .int x1), (2, .int x2), (3, .int x3)] := hl
  have hx := C.1.1
  have hb := C.1.2.1
  unfold z_X12_put at hsp
  refine lv_aload_n hx hb dX12_put_0 rfl (lv_at hl 0 rfl) ?_
  obtain ⟨j1, hv2, hsp⟩ := fr_b1 hsp
  refine fr_getr C hR ha Fg_RX12_9 rfl hv2 dX12_put_1 ?_
  refine lv_bipush (v := 109) hx hb dX12_put_4 (by decide) ?_
  refine lv_iload_n hx hb dX12_put_6 rfl (lv_at hl 1 rfl) ?_
  refine lv_imul hx hb dX12_put_7 ?_
  refine lv_iload_n hx hb dX12_put_8 rfl (lv_at hl 2 rfl) ?_
  refine lv_iadd hx hb dX12_put_9 ?_
  refine lv_iload_n hx hb dX12_put_10 rfl (lv_at hl 3 rfl) ?_
  obtain ⟨hk3, hsp⟩ := fr_ck hsp
  obtain ⟨hi4, hsp⟩ := fr_ck hsp
  refine fr_iast C hR hk3 hi4 dX12_put_11 (fun H locs hR => ?_)
  obtain ⟨h5, eh5⟩ : ∃ z, z = fh_sI h j1 (Int32.toNatClampNeg (((109 : Int32) * x1) + x2)) x3 := ⟨_, rfl⟩
  rw [← eh5] at hR
  have hsp := fr_let eh5 hsp
  exact fr_vret C hr hlocks hR (fr_s1 hsp) dX12_put_12

/-! TermRowsModel.termOf(II)I -/
def z_X12_termOf (S : fh_S) (h : fh_H) (a : Nat) (x1 : Int32) (x2 : Int32) : Option Int32 :=
    fh_b1 (h.2.2 a 4) (fun j1 => fh_ck (fh_kq S j1 13) (fh_ck (fh_in (((60 : Int32) * x1) + x2) (S.2.2 j1)) (some (h.1 j1 (Int32.toNatClampNeg (((60 : Int32) * x1) + x2))))))
set_option maxHeartbeats 4000000 in
set_option maxRecDepth 100000 in
theorem k_X12_termOf {l : Launch} {S : fh_S} {g : fh_G} {h : fh_H} (hj : fh_inj S g) {a : Nat} {x1 : Int32} {x2 : Int32} {r : Int32} (ha : fh_kq S a 12 = true) (hsp : z_X12_termOf S h a x1 x2 = some r) : fh_M l yX12_termOf cX12_termOf 3 (some .int) (fh_rm 1) S g [.ref (g.2.2 a), .int x1, .int x2] h (some (.int r)) h := by
  refine fr_head (own := RX12) (by decide) rfl hj (Nat.le_of_ble_eq_true rfl) ?_
  intro p e s m below meth c ls C hr hlocks hR hl
  have hl : lv_has ls 3 [(0, .ref (g.2.2 a)), (1, .int x1), (2, .int x2)] := hl
  have hx := C.1.1
  have hb := C.1.2.1
  unfold z_X12_termOf at hsp
  refine lv_aload_n hx hb dX12_termOf_0 rfl (lv_at hl 0 rfl) ?_
  obtain ⟨j1, hv2, hsp⟩ := fr_b1 hsp
  refine fr_getr C hR ha Fg_RX12_16 rfl hv2 dX12_termOf_1 ?_
  refine lv_bipush (v := 60) hx hb dX12_termOf_4 (by decide) ?_
  refine lv_iload_n hx hb dX12_termOf_6 rfl (lv_at hl 1 rfl) ?_
  refine lv_imul hx hb dX12_termOf_7 ?_
  refine lv_iload_n hx hb dX12_termOf_8 rfl (lv_at hl 2 rfl) ?_
  refine lv_iadd hx hb dX12_termOf_9 ?_
  obtain ⟨hk3, hsp⟩ := fr_ck hsp
  obtain ⟨hi4, hsp⟩ := fr_ck hsp
  refine fr_iald C hR hk3 hi4 dX12_termOf_10 ?_
  have e1 := fr_s1 hsp
  exact fr_iret C hr hlocks hR e1 rfl dX12_termOf_11

/-! TermRowsModel.isKnown(II)Z -/
def z_X12_isKnown (S : fh_S) (h : fh_H) (a : Nat) (x1 : Int32) (x2 : Int32) : Option Int32 :=
    fh_b1 (h.2.2 a 5) (fun j1 => fh_ck (fh_kq S j1 13) (fh_ck (fh_in x1 (S.2.2 j1)) (fh_b1 (z_X12_isIn (Int32.toInt64 x2) (0 : Int64) (Int32.toInt64 ((h.1 j1 (Int32.toNatClampNeg x1)) - (1 : Int32)))) (fun r5 => fh_ck (decide (r5 = 0 ∨ r5 = 1)) (some r5)))))
set_option maxHeartbeats 4000000 in
set_option maxRecDepth 100000 in
theorem k_X12_isKnown {l : Launch} {S : fh_S} {g : fh_G} {h : fh_H} (hj : fh_inj S g) {a : Nat} {x1 : Int32} {x2 : Int32} {r : Int32} (ha : fh_kq S a 12 = true) (hsp : z_X12_isKnown S h a x1 x2 = some r) : fh_M l yX12_isKnown cX12_isKnown 3 (some .boolean) (fh_rm 2) S g [.ref (g.2.2 a), .int x1, .int x2] h (some (.int r)) h := by
  refine fr_head (own := RX12) (by decide) rfl hj (Nat.le_of_ble_eq_true rfl) ?_
  intro p e s m below meth c ls C hr hlocks hR hl
  have hl : lv_has ls 3 [(0, .ref (g.2.2 a)), (1, .int x1), (2, .int x2)] := hl
  have hx := C.1.1
  have hb := C.1.2.1
  unfold z_X12_isKnown at hsp
  refine lv_iload_n hx hb dX12_isKnown_0 rfl (lv_at hl 2 rfl) ?_
  refine lv_i2l hx hb dX12_isKnown_1 rfl ?_
  refine lv_lconst (v := 0) hx hb dX12_isKnown_2 (by decide) ?_
  refine lv_aload_n hx hb dX12_isKnown_3 rfl (lv_at hl 0 rfl) ?_
  obtain ⟨j1, hv2, hsp⟩ := fr_b1 hsp
  refine fr_getr C hR ha Fg_RX12_19 rfl hv2 dX12_isKnown_4 ?_
  refine lv_iload_n hx hb dX12_isKnown_7 rfl (lv_at hl 1 rfl) ?_
  obtain ⟨hk3, hsp⟩ := fr_ck hsp
  obtain ⟨hi4, hsp⟩ := fr_ck hsp
  refine fr_iald C hR hk3 hi4 dX12_isKnown_8 ?_
  refine lv_iconst (v := 1) hx hb dX12_isKnown_9 (by decide) ?_
  refine lv_isub hx hb dX12_isKnown_10 ?_
  refine lv_i2l hx hb dX12_isKnown_11 rfl ?_
  obtain ⟨r5, E6, hsp⟩ := fr_b1 hsp
  refine fq_callS (rest := []) (st1 := [.int r5]) C hR (k_X12_isIn C.2.2 E6) Y_X12_isIn YS_X12_isIn Lk_RX12_78 rfl hl.1 ⟨Nat.le_of_ble_eq_true rfl, Nat.le_of_ble_eq_true rfl⟩ rfl (Nat.le_of_ble_eq_true rfl) ⟨Nat.zero_le _, Nat.zero_le _⟩ rfl dX12_isKnown_12 (fun H locs hR => ?_)
  obtain ⟨hz7, hsp⟩ := fr_ck hsp
  have e1 := fr_s1 hsp
  exact fr_zret C hr hlocks hR (of_decide_eq_true hz7) e1 rfl dX12_isKnown_15

/-! TermRowsModel.knows(IJ)Z -/
def z_X12_knows (S : fh_S) (h : fh_H) (a : Nat) (x1 : Int32) (x2 : Int64) : Option (Int32 × fh_H) :=
    fh_nn (h.2.2 a 4) (fh_b1 (h.2.2 a 5) (fun j3 => fh_ck (fh_kq S j3 13) (fh_ck (fh_in x1 (S.2.2 j3)) (none)))) (fun j1 => fh_b1 (h.2.2 a 5) (fun j7 => fh_ck (fh_kq S j7 13) (fh_ck (fh_in x1 (S.2.2 j7)) (fh_ck (fh_kq S j1 13) (fh_ck (fh_in (((60 : Int32) * x1) + (h.1 j7 (Int32.toNatClampNeg x1))) (S.2.2 j1)) (fh_let (fh_sI h j1 (Int32.toNatClampNeg (((60 : Int32) * x1) + (h.1 j7 (Int32.toNatClampNeg x1)))) (Int64.toInt32 x2)) (fun h13 => fh_b1 (h13.2.2 a 5) (fun j14 => fh_ck (fh_kq S j14 13) (fh_ck (fh_in x1 (S.2.2 j14)) (fh_let (fh_sI h13 j14 (Int32.toNatClampNeg x1) ((h13.1 j14 (Int32.toNatClampNeg x1)) + (1 : Int32))) (fun h18 => fh_b1 (h18.2.2 a 5) (fun j19 => fh_ck (fh_kq S j19 13) (fh_ck (fh_in x1 (S.2.2 j19)) (if (60 : Int32) ≤ (h18.1 j19 (Int32.toNatClampNeg x1)) then (some ((0 : Int32), h18)) else (some ((1 : Int32), h18))))))))))))))))
set_option maxHeartbeats 4000000 in
set_option maxRecDepth 100000 in
theorem k_X12_knows {l : Launch} {S : fh_S} {g : fh_G} {h h' : fh_H} (hj : fh_inj S g) {a : Nat} {x1 : Int32} {x2 : Int64} {r : Int32} (ha : fh_kq S a 12 = true) (hsp : z_X12_knows S h a x1 x2 = some (r, h')) : fh_M l yX12_knows cX12_knows 4 (some .boolean) (fh_rm 1) S g [.ref (g.2.2 a), .int x1, .long x2] h (some (.int r)) h' := by
  refine fr_head (own := RX12) (by decide) rfl hj (Nat.le_of_ble_eq_true rfl) ?_
  intro p e s m below meth c ls C hr hlocks hR hl
  have hl : lv_has ls 4 [(0, .ref (g.2.2 a)), (1, .int x1), (2, .long x2)] := hl
  have hx := C.1.1
  have hb := C.1.2.1
  unfold z_X12_knows at hsp
  refine lv_aload_n hx hb dX12_knows_0 rfl (lv_at hl 0 rfl) ?_
  rcases hv2 : (h.2.2 a 4) with _ | j1
  · rw [hv2] at hsp; have hsp := fr_nnN hsp
    refine fr_getn C hR ha Fg_RX12_16 rfl hv2 dX12_knows_1 ?_
    refine lv_bipush (v := 60) hx hb dX12_knows_4 (by decide) ?_
    refine lv_iload_n hx hb dX12_knows_6 rfl (lv_at hl 1 rfl) ?_
    refine lv_imul hx hb dX12_knows_7 ?_
    refine lv_aload_n hx hb dX12_knows_8 rfl (lv_at hl 0 rfl) ?_
    obtain ⟨j3, hv4, hsp⟩ := fr_b1 hsp
    refine fr_getr C hR ha Fg_RX12_19 rfl hv4 dX12_knows_9 ?_
    refine lv_iload_n hx hb dX12_knows_12 rfl (lv_at hl 1 rfl) ?_
    obtain ⟨hk5, hsp⟩ := fr_ck hsp
    obtain ⟨hi6, hsp⟩ := fr_ck hsp
    refine fr_iald C hR hk5 hi6 dX12_knows_13 ?_
    refine lv_iadd hx hb dX12_knows_14 ?_
    refine lv_lload_n hx hb dX12_knows_15 rfl (lv_at hl 2 rfl) ?_
    refine lv_l2i hx hb dX12_knows_16 rfl ?_
    cases hsp
  · rw [hv2] at hsp; have hsp := fr_nnS hsp
    refine fr_getr C hR ha Fg_RX12_16 rfl hv2 dX12_knows_1 ?_
    refine lv_bipush (v := 60) hx hb dX12_knows_4 (by decide) ?_
    refine lv_iload_n hx hb dX12_knows_6 rfl (lv_at hl 1 rfl) ?_
    refine lv_imul hx hb dX12_knows_7 ?_
    refine lv_aload_n hx hb dX12_knows_8 rfl (lv_at hl 0 rfl) ?_
    obtain ⟨j7, hv8, hsp⟩ := fr_b1 hsp
    refine fr_getr C hR ha Fg_RX12_19 rfl hv8 dX12_knows_9 ?_
    refine lv_iload_n hx hb dX12_knows_12 rfl (lv_at hl 1 rfl) ?_
    obtain ⟨hk9, hsp⟩ := fr_ck hsp
    obtain ⟨hi10, hsp⟩ := fr_ck hsp
    refine fr_iald C hR hk9 hi10 dX12_knows_13 ?_
    refine lv_iadd hx hb dX12_knows_14 ?_
    refine lv_lload_n hx hb dX12_knows_15 rfl (lv_at hl 2 rfl) ?_
    refine lv_l2i hx hb dX12_knows_16 rfl ?_
    obtain ⟨hk11, hsp⟩ := fr_ck hsp
    obtain ⟨hi12, hsp⟩ := fr_ck hsp
    refine fr_iast C hR hk11 hi12 dX12_knows_17 (fun H locs hR => ?_)
    obtain ⟨h13, eh13⟩ : ∃ z, z = fh_sI h j1 (Int32.toNatClampNeg (((60 : Int32) * x1) + (h.1 j7 (Int32.toNatClampNeg x1)))) (Int64.toInt32 x2) := ⟨_, rfl⟩
    rw [← eh13] at hR
    have hsp := fr_let eh13 hsp
    refine lv_aload_n hx hb dX12_knows_18 rfl (lv_at hl 0 rfl) ?_
    obtain ⟨j14, hv15, hsp⟩ := fr_b1 hsp
    refine fr_getr C hR ha Fg_RX12_19 rfl hv15 dX12_knows_19 ?_
    refine lv_iload_n hx hb dX12_knows_22 rfl (lv_at hl 1 rfl) ?_
    refine lv_dup2_11 hx hb dX12_knows_23 rfl rfl ?_
    obtain ⟨hk16, hsp⟩ := fr_ck hsp
    obtain ⟨hi17, hsp⟩ := fr_ck hsp
    refine fr_iald C hR hk16 hi17 dX12_knows_24 ?_
    refine lv_iconst (v := 1) hx hb dX12_knows_25 (by decide) ?_
    refine lv_iadd hx hb dX12_knows_26 ?_
    refine fr_iast C hR hk16 hi17 dX12_knows_27 (fun H locs hR => ?_)
    obtain ⟨h18, eh18⟩ : ∃ z, z = fh_sI h13 j14 (Int32.toNatClampNeg x1) ((h13.1 j14 (Int32.toNatClampNeg x1)) + (1 : Int32)) := ⟨_, rfl⟩
    rw [← eh18] at hR
    have hsp := fr_let eh18 hsp
    refine lv_aload_n hx hb dX12_knows_28 rfl (lv_at hl 0 rfl) ?_
    obtain ⟨j19, hv20, hsp⟩ := fr_b1 hsp
    refine fr_getr C hR ha Fg_RX12_19 rfl hv20 dX12_knows_29 ?_
    refine lv_iload_n hx hb dX12_knows_32 rfl (lv_at hl 1 rfl) ?_
    obtain ⟨hk21, hsp⟩ := fr_ck hsp
    obtain ⟨hi22, hsp⟩ := fr_ck hsp
    refine fr_iald C hR hk21 hi22 dX12_knows_33 ?_
    refine lv_bipush (v := 60) hx hb dX12_knows_34 (by decide) ?_
    refine lv_icmp_ge (tgt := 43) hx hb dX12_knows_36 (by decide) (fun c23 => ?_) (fun c23 => ?_)
    · rw [if_pos c23] at hsp
      refine lv_iconst (v := 0) hx hb dX12_knows_43 (by decide) ?_
      obtain ⟨e1, e2⟩ := fr_s2 hsp
      exact fr_zret C hr hlocks hR (Or.inl rfl) e1 e2 dX12_knows_44
    · rw [if_neg c23] at hsp
      refine lv_iconst (v := 1) hx hb dX12_knows_39 (by decide) ?_
      refine lv_goto (tgt := 44) hx hb dX12_knows_40 (by decide) ?_
      obtain ⟨e1, e2⟩ := fr_s2 hsp
      exact fr_zret C hr hlocks hR (Or.inr rfl) e1 e2 dX12_knows_44

/-! java/lang/Math.floorDiv(JJ)J -/
def z_J9_floorDiv_f86c9 (x0 : Int64) (x2 : Int64) : Option Int64 :=
    fh_ck (decide (¬ x2 = 0)) (fh_let ((x0 / x2)) (fun v2 => if (0 : Int64) ≤ (x0 ^^^ x2) then (some v2) else (if (v2 * x2) = x0 then (some v2) else (some (v2 - (1 : Int64))))))
set_option maxHeartbeats 4000000 in
set_option maxRecDepth 100000 in
theorem k_J9_floorDiv_f86c9 {l : Launch} {S : fh_S} {g : fh_G} {h : fh_H} (hj : fh_inj S g) {x0 : Int64} {x2 : Int64} {r : Int64} (hsp : z_J9_floorDiv_f86c9 x0 x2 = some r) : fh_M l yJ9_floorDiv_f86c9 cJ9_floorDiv_f86c9 6 (some .long) (fh_rm 1) S g [.long x0, .long x2] h (some (.long r)) h := by
  refine fr_headF (own := RJ9) (by decide +kernel) rfl hj (Nat.le_of_ble_eq_true rfl) ?_
  intro p e s m below meth c ls C hr hlocks hR hl
  have hl : lv_has ls 6 [(0, .long x0), (2, .long x2)] := hl
  have hx := C.1.1
  have hb := C.1.2.1
  unfold z_J9_floorDiv_f86c9 at hsp
  refine lv_lload_n hx hb dJ9_floorDiv_f86c9_0 rfl (lv_at hl 0 rfl) ?_
  refine lv_lload_n hx hb dJ9_floorDiv_f86c9_1 rfl (lv_at hl 1 rfl) ?_
  obtain ⟨hz1, hsp⟩ := fr_ck hsp
  refine lv_ldiv hx hb dJ9_floorDiv_f86c9_2 (of_decide_eq_true hz1) ?_
  refine lv_topl (fun v2 ev2 => ?_)
  have hsp := fr_let ev2 hsp
  refine lv_lstore (lv' := [(4, .long v2), (0, .long x0), (2, .long x2)]) hx hb dJ9_floorDiv_f86c9_3 hl (by decide) rfl (fun ls hl => ?_)
  refine lv_lload_n hx hb dJ9_floorDiv_f86c9_5 rfl (lv_at hl 1 rfl) ?_
  refine lv_lload_n hx hb dJ9_floorDiv_f86c9_6 rfl (lv_at hl 2 rfl) ?_
  refine lv_lxor hx hb dJ9_floorDiv_f86c9_7 ?_
  refine lv_lconst (v := 0) hx hb dJ9_floorDiv_f86c9_8 (by decide) ?_
  refine fr_lc_ge (tgt := 27) hx hb dJ9_floorDiv_f86c9_9 dJ9_floorDiv_f86c9_10 (by decide) (fun c3 => ?_) (fun c3 => ?_)
  · rw [if_pos c3] at hsp
    refine lv_lload hx hb dJ9_floorDiv_f86c9_27 (lv_at hl 0 rfl) ?_
    have e1 := fr_s1 hsp
    exact fr_lret C hr hlocks hR e1 rfl dJ9_floorDiv_f86c9_29
  · rw [if_neg c3] at hsp
    refine lv_lload hx hb dJ9_floorDiv_f86c9_13 (lv_at hl 0 rfl) ?_
    refine lv_lload_n hx hb dJ9_floorDiv_f86c9_15 rfl (lv_at hl 2 rfl) ?_
    refine lv_lmul hx hb dJ9_floorDiv_f86c9_16 ?_
    refine lv_lload_n hx hb dJ9_floorDiv_f86c9_17 rfl (lv_at hl 1 rfl) ?_
    refine fr_lc_eq (tgt := 27) hx hb dJ9_floorDiv_f86c9_18 dJ9_floorDiv_f86c9_19 (by decide) (fun c4 => ?_) (fun c4 => ?_)
    · rw [if_pos c4] at hsp
      refine lv_lload hx hb dJ9_floorDiv_f86c9_27 (lv_at hl 0 rfl) ?_
      have e1 := fr_s1 hsp
      exact fr_lret C hr hlocks hR e1 rfl dJ9_floorDiv_f86c9_29
    · rw [if_neg c4] at hsp
      refine lv_lload hx hb dJ9_floorDiv_f86c9_22 (lv_at hl 0 rfl) ?_
      refine lv_lconst (v := 1) hx hb dJ9_floorDiv_f86c9_24 (by decide) ?_
      refine lv_lsub hx hb dJ9_floorDiv_f86c9_25 ?_
      have e1 := fr_s1 hsp
      exact fr_lret C hr hlocks hR e1 rfl dJ9_floorDiv_f86c9_26

/-! java/lang/Math.abs(I)I -/
def z_J9_abs_0f7a4 (x0 : Int32) : Option Int32 :=
    if 0 ≤ x0 then (some x0) else (some (-x0))
set_option maxHeartbeats 4000000 in
set_option maxRecDepth 100000 in
theorem k_J9_abs_0f7a4 {l : Launch} {S : fh_S} {g : fh_G} {h : fh_H} (hj : fh_inj S g) {x0 : Int32} {r : Int32} (hsp : z_J9_abs_0f7a4 x0 = some r) : fh_M l yJ9_abs_0f7a4 cJ9_abs_0f7a4 1 (some .int) (fh_rm 1) S g [.int x0] h (some (.int r)) h := by
  refine fr_headF (own := RJ9) (by decide +kernel) rfl hj (Nat.le_of_ble_eq_true rfl) ?_
  intro p e s m below meth c ls C hr hlocks hR hl
  have hl : lv_has ls 1 [(0, .int x0)] := hl
  have hx := C.1.1
  have hb := C.1.2.1
  unfold z_J9_abs_0f7a4 at hsp
  refine lv_iload_n hx hb dJ9_abs_0f7a4_0 rfl (lv_at hl 0 rfl) ?_
  refine lv_if_ge (tgt := 9) hx hb dJ9_abs_0f7a4_1 (by decide) (fun c1 => ?_) (fun c1 => ?_)
  · rw [if_pos c1] at hsp
    refine lv_iload_n hx hb dJ9_abs_0f7a4_9 rfl (lv_at hl 0 rfl) ?_
    have e1 := fr_s1 hsp
    exact fr_iret C hr hlocks hR e1 rfl dJ9_abs_0f7a4_10
  · rw [if_neg c1] at hsp
    refine lv_iload_n hx hb dJ9_abs_0f7a4_4 rfl (lv_at hl 0 rfl) ?_
    refine lv_ineg hx hb dJ9_abs_0f7a4_5 ?_
    refine lv_goto (tgt := 10) hx hb dJ9_abs_0f7a4_6 (by decide) ?_
    have e1 := fr_s1 hsp
    exact fr_iret C hr hlocks hR e1 rfl dJ9_abs_0f7a4_10

/-! java/lang/Math.abs(J)J -/
def z_J9_abs_067f4 (x0 : Int64) : Option Int64 :=
    if (0 : Int64) ≤ x0 then (some x0) else (some (-x0))
set_option maxHeartbeats 4000000 in
set_option maxRecDepth 100000 in
theorem k_J9_abs_067f4 {l : Launch} {S : fh_S} {g : fh_G} {h : fh_H} (hj : fh_inj S g) {x0 : Int64} {r : Int64} (hsp : z_J9_abs_067f4 x0 = some r) : fh_M l yJ9_abs_067f4 cJ9_abs_067f4 2 (some .long) (fh_rm 1) S g [.long x0] h (some (.long r)) h := by
  refine fr_headF (own := RJ9) (by decide +kernel) rfl hj (Nat.le_of_ble_eq_true rfl) ?_
  intro p e s m below meth c ls C hr hlocks hR hl
  have hl : lv_has ls 2 [(0, .long x0)] := hl
  have hx := C.1.1
  have hb := C.1.2.1
  unfold z_J9_abs_067f4 at hsp
  refine lv_lload_n hx hb dJ9_abs_067f4_0 rfl (lv_at hl 0 rfl) ?_
  refine lv_lconst (v := 0) hx hb dJ9_abs_067f4_1 (by decide) ?_
  refine fr_lc_ge (tgt := 11) hx hb dJ9_abs_067f4_2 dJ9_abs_067f4_3 (by decide) (fun c1 => ?_) (fun c1 => ?_)
  · rw [if_pos c1] at hsp
    refine lv_lload_n hx hb dJ9_abs_067f4_11 rfl (lv_at hl 0 rfl) ?_
    have e1 := fr_s1 hsp
    exact fr_lret C hr hlocks hR e1 rfl dJ9_abs_067f4_12
  · rw [if_neg c1] at hsp
    refine lv_lload_n hx hb dJ9_abs_067f4_6 rfl (lv_at hl 0 rfl) ?_
    refine lv_lneg hx hb dJ9_abs_067f4_7 ?_
    refine lv_goto (tgt := 12) hx hb dJ9_abs_067f4_8 (by decide) ?_
    have e1 := fr_s1 hsp
    exact fr_lret C hr hlocks hR e1 rfl dJ9_abs_067f4_12

/-! java/lang/Math.max(II)I -/
def z_J9_max_7cf53 (x0 : Int32) (x1 : Int32) : Option Int32 :=
    if x0 < x1 then (some x1) else (some x0)
set_option maxHeartbeats 4000000 in
set_option maxRecDepth 100000 in
theorem k_J9_max_7cf53 {l : Launch} {S : fh_S} {g : fh_G} {h : fh_H} (hj : fh_inj S g) {x0 : Int32} {x1 : Int32} {r : Int32} (hsp : z_J9_max_7cf53 x0 x1 = some r) : fh_M l yJ9_max_7cf53 cJ9_max_7cf53 2 (some .int) (fh_rm 1) S g [.int x0, .int x1] h (some (.int r)) h := by
  refine fr_headF (own := RJ9) (by decide +kernel) rfl hj (Nat.le_of_ble_eq_true rfl) ?_
  intro p e s m below meth c ls C hr hlocks hR hl
  have hl : lv_has ls 2 [(0, .int x0), (1, .int x1)] := hl
  have hx := C.1.1
  have hb := C.1.2.1
  unfold z_J9_max_7cf53 at hsp
  refine lv_iload_n hx hb dJ9_max_7cf53_0 rfl (lv_at hl 0 rfl) ?_
  refine lv_iload_n hx hb dJ9_max_7cf53_1 rfl (lv_at hl 1 rfl) ?_
  refine lv_icmp_lt (tgt := 9) hx hb dJ9_max_7cf53_2 (by decide) (fun c1 => ?_) (fun c1 => ?_)
  · rw [if_pos c1] at hsp
    refine lv_iload_n hx hb dJ9_max_7cf53_9 rfl (lv_at hl 1 rfl) ?_
    have e1 := fr_s1 hsp
    exact fr_iret C hr hlocks hR e1 rfl dJ9_max_7cf53_10
  · rw [if_neg c1] at hsp
    refine lv_iload_n hx hb dJ9_max_7cf53_5 rfl (lv_at hl 0 rfl) ?_
    refine lv_goto (tgt := 10) hx hb dJ9_max_7cf53_6 (by decide) ?_
    have e1 := fr_s1 hsp
    exact fr_iret C hr hlocks hR e1 rfl dJ9_max_7cf53_10

/-! java/lang/Math.min(II)I -/
def z_J9_min_7cf53 (x0 : Int32) (x1 : Int32) : Option Int32 :=
    if x1 < x0 then (some x1) else (some x0)
set_option maxHeartbeats 4000000 in
set_option maxRecDepth 100000 in
theorem k_J9_min_7cf53 {l : Launch} {S : fh_S} {g : fh_G} {h : fh_H} (hj : fh_inj S g) {x0 : Int32} {x1 : Int32} {r : Int32} (hsp : z_J9_min_7cf53 x0 x1 = some r) : fh_M l yJ9_min_7cf53 cJ9_min_7cf53 2 (some .int) (fh_rm 1) S g [.int x0, .int x1] h (some (.int r)) h := by
  refine fr_headF (own := RJ9) (by decide +kernel) rfl hj (Nat.le_of_ble_eq_true rfl) ?_
  intro p e s m below meth c ls C hr hlocks hR hl
  have hl : lv_has ls 2 [(0, .int x0), (1, .int x1)] := hl
  have hx := C.1.1
  have hb := C.1.2.1
  unfold z_J9_min_7cf53 at hsp
  refine lv_iload_n hx hb dJ9_min_7cf53_0 rfl (lv_at hl 0 rfl) ?_
  refine lv_iload_n hx hb dJ9_min_7cf53_1 rfl (lv_at hl 1 rfl) ?_
  refine lv_icmp_gt (tgt := 9) hx hb dJ9_min_7cf53_2 (by decide) (fun c1 => ?_) (fun c1 => ?_)
  · rw [if_pos c1] at hsp
    refine lv_iload_n hx hb dJ9_min_7cf53_9 rfl (lv_at hl 1 rfl) ?_
    have e1 := fr_s1 hsp
    exact fr_iret C hr hlocks hR e1 rfl dJ9_min_7cf53_10
  · rw [if_neg c1] at hsp
    refine lv_iload_n hx hb dJ9_min_7cf53_5 rfl (lv_at hl 0 rfl) ?_
    refine lv_goto (tgt := 10) hx hb dJ9_min_7cf53_6 (by decide) ?_
    have e1 := fr_s1 hsp
    exact fr_iret C hr hlocks hR e1 rfl dJ9_min_7cf53_10

/-! java/lang/Long.bitCount(J)I -/
def z_J13_bitCount_95d88 (x0 : Int64) : Option Int32 :=
    fh_let ((x0 - ((Int64.toUInt64 x0 >>> ((Int32.toInt64 (1 : Int32)).toUInt64 &&& Int64.toUInt64 63)).toInt64 &&& (6148914691236517205 : Int64)))) (fun v1 => fh_let (((v1 &&& (3689348814741910323 : Int64)) + ((Int64.toUInt64 v1 >>> ((Int32.toInt64 (2 : Int32)).toUInt64 &&& Int64.toUInt64 63)).toInt64 &&& (3689348814741910323 : Int64)))) (fun v2 => fh_let (((v2 + (Int64.toUInt64 v2 >>> ((Int32.toInt64 (4 : Int32)).toUInt64 &&& Int64.toUInt64 63)).toInt64) &&& (1085102592571150095 : Int64))) (fun v3 => fh_let ((v3 + (Int64.toUInt64 v3 >>> ((Int32.toInt64 (8 : Int32)).toUInt64 &&& Int64.toUInt64 63)).toInt64)) (fun v4 => fh_let ((v4 + (Int64.toUInt64 v4 >>> ((Int32.toInt64 (16 : Int32)).toUInt64 &&& Int64.toUInt64 63)).toInt64)) (fun v5 => fh_let ((v5 + (Int64.toUInt64 v5 >>> ((Int32.toInt64 (32 : Int32)).toUInt64 &&& Int64.toUInt64 63)).toInt64)) (fun v6 => some ((Int64.toInt32 v6) &&& (127 : Int32))))))))
set_option maxHeartbeats 4000000 in
set_option maxRecDepth 100000 in
theorem k_J13_bitCount_95d88 {l : Launch} {S : fh_S} {g : fh_G} {h : fh_H} (hj : fh_inj S g) {x0 : Int64} {r : Int32} (hsp : z_J13_bitCount_95d88 x0 = some r) : fh_M l yJ13_bitCount_95d88 cJ13_bitCount_95d88 2 (some .int) (fh_rm 1) S g [.long x0] h (some (.int r)) h := by
  refine fr_headF (own := RJ13) (by decide +kernel) rfl hj (Nat.le_of_ble_eq_true rfl) ?_
  intro p e s m below meth c ls C hr hlocks hR hl
  have hl : lv_has ls 2 [(0, .long x0)] := hl
  have hx := C.1.1
  have hb := C.1.2.1
  unfold z_J13_bitCount_95d88 at hsp
  refine lv_lload_n hx hb dJ13_bitCount_95d88_0 rfl (lv_at hl 0 rfl) ?_
  refine lv_lload_n hx hb dJ13_bitCount_95d88_1 rfl (lv_at hl 0 rfl) ?_
  refine lv_iconst (v := 1) hx hb dJ13_bitCount_95d88_2 (by decide) ?_
  refine lv_lushr hx hb dJ13_bitCount_95d88_3 rfl ?_
  refine lv_ldc2 hx hb C.1.2.2.2.1 (C.1.2.2.2.2 _ Kc_RJ13_314) dJ13_bitCount_95d88_4 ?_
  refine lv_land hx hb dJ13_bitCount_95d88_7 ?_
  refine lv_lsub hx hb dJ13_bitCount_95d88_8 ?_
  refine lv_topl (fun v1 ev1 => ?_)
  have hsp := fr_let ev1 hsp
  refine lv_lstore_n (lv' := [(0, .long v1)]) hx hb dJ13_bitCount_95d88_9 rfl hl (by decide) rfl (fun ls hl => ?_)
  refine lv_lload_n hx hb dJ13_bitCount_95d88_10 rfl (lv_at hl 0 rfl) ?_
  refine lv_ldc2 hx hb C.1.2.2.2.1 (C.1.2.2.2.2 _ Kc_RJ13_316) dJ13_bitCount_95d88_11 ?_
  refine lv_land hx hb dJ13_bitCount_95d88_14 ?_
  refine lv_lload_n hx hb dJ13_bitCount_95d88_15 rfl (lv_at hl 0 rfl) ?_
  refine lv_iconst (v := 2) hx hb dJ13_bitCount_95d88_16 (by decide) ?_
  refine lv_lushr hx hb dJ13_bitCount_95d88_17 rfl ?_
  refine lv_ldc2 hx hb C.1.2.2.2.1 (C.1.2.2.2.2 _ Kc_RJ13_316) dJ13_bitCount_95d88_18 ?_
  refine lv_land hx hb dJ13_bitCount_95d88_21 ?_
  refine lv_ladd hx hb dJ13_bitCount_95d88_22 ?_
  refine lv_topl (fun v2 ev2 => ?_)
  have hsp := fr_let ev2 hsp
  refine lv_lstore_n (lv' := [(0, .long v2)]) hx hb dJ13_bitCount_95d88_23 rfl hl (by decide) rfl (fun ls hl => ?_)
  refine lv_lload_n hx hb dJ13_bitCount_95d88_24 rfl (lv_at hl 0 rfl) ?_
  refine lv_lload_n hx hb dJ13_bitCount_95d88_25 rfl (lv_at hl 0 rfl) ?_
  refine lv_iconst (v := 4) hx hb dJ13_bitCount_95d88_26 (by decide) ?_
  refine lv_lushr hx hb dJ13_bitCount_95d88_27 rfl ?_
  refine lv_ladd hx hb dJ13_bitCount_95d88_28 ?_
  refine lv_ldc2 hx hb C.1.2.2.2.1 (C.1.2.2.2.2 _ Kc_RJ13_318) dJ13_bitCount_95d88_29 ?_
  refine lv_land hx hb dJ13_bitCount_95d88_32 ?_
  refine lv_topl (fun v3 ev3 => ?_)
  have hsp := fr_let ev3 hsp
  refine lv_lstore_n (lv' := [(0, .long v3)]) hx hb dJ13_bitCount_95d88_33 rfl hl (by decide) rfl (fun ls hl => ?_)
  refine lv_lload_n hx hb dJ13_bitCount_95d88_34 rfl (lv_at hl 0 rfl) ?_
  refine lv_lload_n hx hb dJ13_bitCount_95d88_35 rfl (lv_at hl 0 rfl) ?_
  refine lv_bipush (v := 8) hx hb dJ13_bitCount_95d88_36 (by decide) ?_
  refine lv_lushr hx hb dJ13_bitCount_95d88_38 rfl ?_
  refine lv_ladd hx hb dJ13_bitCount_95d88_39 ?_
  refine lv_topl (fun v4 ev4 => ?_)
  have hsp := fr_let ev4 hsp
  refine lv_lstore_n (lv' := [(0, .long v4)]) hx hb dJ13_bitCount_95d88_40 rfl hl (by decide) rfl (fun ls hl => ?_)
  refine lv_lload_n hx hb dJ13_bitCount_95d88_41 rfl (lv_at hl 0 rfl) ?_
  refine lv_lload_n hx hb dJ13_bitCount_95d88_42 rfl (lv_at hl 0 rfl) ?_
  refine lv_bipush (v := 16) hx hb dJ13_bitCount_95d88_43 (by decide) ?_
  refine lv_lushr hx hb dJ13_bitCount_95d88_45 rfl ?_
  refine lv_ladd hx hb dJ13_bitCount_95d88_46 ?_
  refine lv_topl (fun v5 ev5 => ?_)
  have hsp := fr_let ev5 hsp
  refine lv_lstore_n (lv' := [(0, .long v5)]) hx hb dJ13_bitCount_95d88_47 rfl hl (by decide) rfl (fun ls hl => ?_)
  refine lv_lload_n hx hb dJ13_bitCount_95d88_48 rfl (lv_at hl 0 rfl) ?_
  refine lv_lload_n hx hb dJ13_bitCount_95d88_49 rfl (lv_at hl 0 rfl) ?_
  refine lv_bipush (v := 32) hx hb dJ13_bitCount_95d88_50 (by decide) ?_
  refine lv_lushr hx hb dJ13_bitCount_95d88_52 rfl ?_
  refine lv_ladd hx hb dJ13_bitCount_95d88_53 ?_
  refine lv_topl (fun v6 ev6 => ?_)
  have hsp := fr_let ev6 hsp
  refine lv_lstore_n (lv' := [(0, .long v6)]) hx hb dJ13_bitCount_95d88_54 rfl hl (by decide) rfl (fun ls hl => ?_)
  refine lv_lload_n hx hb dJ13_bitCount_95d88_55 rfl (lv_at hl 0 rfl) ?_
  refine lv_l2i hx hb dJ13_bitCount_95d88_56 rfl ?_
  refine lv_bipush (v := 127) hx hb dJ13_bitCount_95d88_57 (by decide) ?_
  refine lv_iand hx hb dJ13_bitCount_95d88_59 ?_
  have e1 := fr_s1 hsp
  exact fr_iret C hr hlocks hR e1 rfl dJ13_bitCount_95d88_60

/-! TermRowsModel.rootOf(J)J -/
def z_X12_rootOf_b7 : Nat → Int64 → Int64 → Int64 → Option Int64
  | 0, _, _, _ => none
  | n + 1, y0, y2, y4 =>
    if y4 ≤ (0 : Int64) then (some y2) else (if y0 < ((y2 + y4) * (y2 + y4)) then (fh_let ((y4 / (2 : Int64))) (fun v3 => z_X12_rootOf_b7 n y0 y2 v3)) else (fh_let ((y2 + y4)) (fun v4 => fh_let ((y4 / (2 : Int64))) (fun v5 => z_X12_rootOf_b7 n y0 v4 v5))))
def z_X12_rootOf (x0 : Int64) : Option Int64 :=
    z_X12_rootOf_b7 20000 x0 (0 : Int64) (1048576 : Int64)
set_option maxHeartbeats 4000000 in
set_option maxRecDepth 100000 in
theorem k_X12_rootOf {l : Launch} {S : fh_S} {g : fh_G} {h : fh_H} (hj : fh_inj S g) {x0 : Int64} {r : Int64} (hsp : z_X12_rootOf x0 = some r) : fh_M l yX12_rootOf cX12_rootOf 6 (some .long) (fh_rm 1) S g [.long x0] h (some (.long r)) h := by
  refine fr_head (own := RX12) (by decide) rfl hj (Nat.le_of_ble_eq_true rfl) ?_
  intro p e s m below meth c ls C hr hlocks hR hl
  have hl : lv_has ls 6 [(0, .long x0)] := hl
  have hx := C.1.1
  have hb := C.1.2.1
  have hb_7 : ∀ (n : Nat) (y0 : Int64) (y2 : Int64) (y4 : Int64) (H : Heap) (locs : List Loc) (ls : Array Slot), z_X12_rootOf_b7 n y0 y2 y4 = some r → fh_R S g s.heap h H locs → lv_has ls 6 [(0, .long y0), (2, .long y2), (4, .long y4)] → fh_Wk p l e 1 s m [.long x0] below meth c S g (some (.long r)) h H locs (F0 m 7 ls []) := by
    intro n
    induction n with
    | zero => intro y0 y2 y4 H locs ls hsp; cases hsp
    | succ n ih =>
      intro y0 y2 y4 H locs ls hsp hR hl
      rw [z_X12_rootOf_b7] at hsp
      refine lv_lload hx hb dX12_rootOf_7 (lv_at hl 2 rfl) ?_
      refine lv_lconst (v := 0) hx hb dX12_rootOf_9 (by decide) ?_
      refine fr_lc_le (tgt := 44) hx hb dX12_rootOf_10 dX12_rootOf_11 (by decide) (fun c1 => ?_) (fun c1 => ?_)
      · rw [if_pos c1] at hsp
        refine lv_lload_n hx hb dX12_rootOf_44 rfl (lv_at hl 1 rfl) ?_
        have e1 := fr_s1 hsp
        exact fr_lret C hr hlocks hR e1 rfl dX12_rootOf_45
      · rw [if_neg c1] at hsp
        refine lv_lload_n hx hb dX12_rootOf_14 rfl (lv_at hl 1 rfl) ?_
        refine lv_lload hx hb dX12_rootOf_15 (lv_at hl 2 rfl) ?_
        refine lv_ladd hx hb dX12_rootOf_17 ?_
        refine lv_lload_n hx hb dX12_rootOf_18 rfl (lv_at hl 1 rfl) ?_
        refine lv_lload hx hb dX12_rootOf_19 (lv_at hl 2 rfl) ?_
        refine lv_ladd hx hb dX12_rootOf_21 ?_
        refine lv_lmul hx hb dX12_rootOf_22 ?_
        refine lv_lload_n hx hb dX12_rootOf_23 rfl (lv_at hl 0 rfl) ?_
        refine fr_lc_gt (tgt := 33) hx hb dX12_rootOf_24 dX12_rootOf_25 (by decide) (fun c2 => ?_) (fun c2 => ?_)
        · rw [if_pos c2] at hsp
          refine lv_lload hx hb dX12_rootOf_33 (lv_at hl 2 rfl) ?_
          refine lv_ldc2 hx hb C.1.2.2.2.1 (C.1.2.2.2.2 _ Kc_RX12_115) dX12_rootOf_35 ?_
          refine lv_ldiv hx hb dX12_rootOf_38 (by decide) ?_
          refine lv_topl (fun v3 ev3 => ?_)
          have hsp := fr_let ev3 hsp
          refine lv_lstore (lv' := [(4, .long v3), (0, .long y0), (2, .long y2)]) hx hb dX12_rootOf_39 hl (by decide) rfl (fun ls hl => ?_)
          refine lv_goto (tgt := 7) hx hb dX12_rootOf_41 (by decide) ?_
          exact ih y0 y2 v3 _ _ _ hsp hR (lv_sub hl [1, 2, 0] rfl)
        · rw [if_neg c2] at hsp
          refine lv_lload_n hx hb dX12_rootOf_28 rfl (lv_at hl 1 rfl) ?_
          refine lv_lload hx hb dX12_rootOf_29 (lv_at hl 2 rfl) ?_
          refine lv_ladd hx hb dX12_rootOf_31 ?_
          refine lv_topl (fun v4 ev4 => ?_)
          have hsp := fr_let ev4 hsp
          refine lv_lstore_n (lv' := [(2, .long v4), (0, .long y0), (4, .long y4)]) hx hb dX12_rootOf_32 rfl hl (by decide) rfl (fun ls hl => ?_)
          refine lv_lload hx hb dX12_rootOf_33 (lv_at hl 2 rfl) ?_
          refine lv_ldc2 hx hb C.1.2.2.2.1 (C.1.2.2.2.2 _ Kc_RX12_115) dX12_rootOf_35 ?_
          refine lv_ldiv hx hb dX12_rootOf_38 (by decide) ?_
          refine lv_topl (fun v5 ev5 => ?_)
          have hsp := fr_let ev5 hsp
          refine lv_lstore (lv' := [(4, .long v5), (2, .long v4), (0, .long y0)]) hx hb dX12_rootOf_39 hl (by decide) rfl (fun ls hl => ?_)
          refine lv_goto (tgt := 7) hx hb dX12_rootOf_41 (by decide) ?_
          exact ih y0 v4 v5 _ _ _ hsp hR (lv_sub hl [2, 1, 0] rfl)
  unfold z_X12_rootOf at hsp
  refine lv_lconst (v := 0) hx hb dX12_rootOf_0 (by decide) ?_
  refine lv_lstore_n (lv' := [(2, .long (0 : Int64)), (0, .long x0)]) hx hb dX12_rootOf_1 rfl hl (by decide) rfl (fun ls hl => ?_)
  refine lv_ldc2 hx hb C.1.2.2.2.1 (C.1.2.2.2.2 _ Kc_RX12_113) dX12_rootOf_2 ?_
  refine lv_lstore (lv' := [(4, .long (1048576 : Int64)), (2, .long (0 : Int64)), (0, .long x0)]) hx hb dX12_rootOf_5 hl (by decide) rfl (fun ls hl => ?_)
  exact hb_7 20000 x0 (0 : Int64) (1048576 : Int64) _ _ _ hsp hR (lv_sub hl [2, 1, 0] rfl)

/-! TermRowsModel.divides(IJJ)V -/
def z_X12_divides_b93 (S : fh_S) (a : Nat) (h : fh_H) (y1 : Int32) (y10 : Int32) : Option fh_H :=
    if y10 = 0 then (some h) else (fh_b1 (h.2.2 a 6) (fun j2 => fh_ck (fh_kq S j2 13) (fh_ck (fh_in y1 (S.2.2 j2)) (fh_let (fh_sI h j2 (Int32.toNatClampNeg y1) (1 : Int32)) (fun h6 => some h6)))))
def z_X12_divides_b42 (S : fh_S) (a : Nat) : Nat → fh_H → Int32 → Int64 → Int64 → Int32 → Option fh_H
  | 0, _, _, _, _, _ => none
  | n + 1, h, y1, y6, y8, y10 =>
    if y10 = 0 then (z_X12_divides_b93 S a h y1 y10) else (if y8 = (0 : Int64) then (z_X12_divides_b93 S a h y1 y10) else (fh_b1 (z_J9_floorDiv_f86c9 y6 y8) (fun r3 => fh_let ((y6 - (r3 * y8))) (fun v5 => fh_b2 (z_X12_knows S h a y1 r3) (fun r6 h7 => z_X12_divides_b42 S a n h7 y1 y8 v5 r6)))))
def z_X12_divides_b30 (S : fh_S) (a : Nat) (h : fh_H) (y1 : Int32) (y6 : Int64) (t0 : Int64) : Option fh_H :=
    fh_b1 (h.2.2 a 6) (fun j1 => fh_ck (fh_kq S j1 13) (fh_ck (fh_in y1 (S.2.2 j1)) (fh_let (fh_sI h j1 (Int32.toNatClampNeg y1) (0 : Int32)) (fun h5 => z_X12_divides_b42 S a 20000 h5 y1 y6 t0 (1 : Int32)))))
def z_X12_divides_b13 (S : fh_S) (a : Nat) (h : fh_H) (y1 : Int32) (y4 : Int64) (t0 : Int64) : Option fh_H :=
    if (0 : Int64) ≤ y4 then (z_X12_divides_b30 S a h y1 t0 y4) else (z_X12_divides_b30 S a h y1 t0 (-y4))
def z_X12_divides (S : fh_S) (h : fh_H) (a : Nat) (x1 : Int32) (x2 : Int64) (x4 : Int64) : Option fh_H :=
    if (0 : Int64) ≤ x4 then (z_X12_divides_b13 S a h x1 x4 x2) else (z_X12_divides_b13 S a h x1 x4 (-x2))
set_option maxHeartbeats 4000000 in
set_option maxRecDepth 100000 in
theorem k_X12_divides {l : Launch} {S : fh_S} {g : fh_G} {h h' : fh_H} (hj : fh_inj S g) {a : Nat} {x1 : Int32} {x2 : Int64} {x4 : Int64} (ha : fh_kq S a 12 = true) (hsp : z_X12_divides S h a x1 x2 x4 = some h') : fh_M l yX12_divides cX12_divides 15 none (fh_rm 2) S g [.ref (g.2.2 a), .int x1, .long x2, .long x4] h none h' := by
  refine fr_head (own := RX12) (by decide) rfl hj (Nat.le_of_ble_eq_true rfl) ?_
  intro p e s m below meth c ls C hr hlocks hR hl
  have hl : lv_has ls 15 [(0, .ref (g.2.2 a)), (1, .int x1), (2, .long x2), (4, .long x4)] := hl
  have hx := C.1.1
  have hb := C.1.2.1
  have hb_93 : ∀ (h : fh_H) (y1 : Int32) (y10 : Int32) (H : Heap) (locs : List Loc) (ls : Array Slot), z_X12_divides_b93 S a h y1 y10 = some h' → fh_R S g s.heap h H locs → lv_has ls 15 [(0, .ref (g.2.2 a)), (1, .int y1), (10, .int y10)] → fh_Wk p l e 2 s m [.ref (g.2.2 a), .int x1, .long x2, .long x4] below meth c S g none h' H locs (F0 m 93 ls []) := by
    intro h y1 y10 H locs ls hsp hR hl
    unfold z_X12_divides_b93 at hsp
    refine lv_iload hx hb dX12_divides_93 (lv_at hl 2 rfl) ?_
    refine lv_if_eq (tgt := 105) hx hb dX12_divides_95 (by decide) (fun c1 => ?_) (fun c1 => ?_)
    · rw [if_pos c1] at hsp
      exact fr_vret C hr hlocks hR (fr_s1 hsp) dX12_divides_105
    · rw [if_neg c1] at hsp
      refine lv_aload_n hx hb dX12_divides_98 rfl (lv_at hl 0 rfl) ?_
      obtain ⟨j2, hv3, hsp⟩ := fr_b1 hsp
      refine fr_getr C hR ha Fg_RX12_22 rfl hv3 dX12_divides_99 ?_
      refine lv_iload_n hx hb dX12_divides_102 rfl (lv_at hl 1 rfl) ?_
      refine lv_iconst (v := 1) hx hb dX12_divides_103 (by decide) ?_
      obtain ⟨hk4, hsp⟩ := fr_ck hsp
      obtain ⟨hi5, hsp⟩ := fr_ck hsp
      refine fr_iast C hR hk4 hi5 dX12_divides_104 (fun H locs hR => ?_)
      obtain ⟨h6, eh6⟩ : ∃ z, z = fh_sI h j2 (Int32.toNatClampNeg y1) (1 : Int32) := ⟨_, rfl⟩
      rw [← eh6] at hR
      have hsp := fr_let eh6 hsp
      exact fr_vret C hr hlocks hR (fr_s1 hsp) dX12_divides_105
  have hb_42 : ∀ (n : Nat) (h : fh_H) (y1 : Int32) (y6 : Int64) (y8 : Int64) (y10 : Int32) (H : Heap) (locs : List Loc) (ls : Array Slot), z_X12_divides_b42 S a n h y1 y6 y8 y10 = some h' → fh_R S g s.heap h H locs → lv_has ls 15 [(0, .ref (g.2.2 a)), (1, .int y1), (6, .long y6), (8, .long y8), (10, .int y10)] → fh_Wk p l e 2 s m [.ref (g.2.2 a), .int x1, .long x2, .long x4] below meth c S g none h' H locs (F0 m 42 ls []) := by
    intro n
    induction n with
    | zero => intro h y1 y6 y8 y10 H locs ls hsp; cases hsp
    | succ n ih =>
      intro h y1 y6 y8 y10 H locs ls hsp hR hl
      rw [z_X12_divides_b42] at hsp
      refine lv_iload hx hb dX12_divides_42 (lv_at hl 4 rfl) ?_
      refine lv_if_eq (tgt := 93) hx hb dX12_divides_44 (by decide) (fun c1 => ?_) (fun c1 => ?_)
      · rw [if_pos c1] at hsp
        exact hb_93 h y1 y10 _ _ _ hsp hR (lv_sub hl [0, 1, 4] rfl)
      · rw [if_neg c1] at hsp
        refine lv_lload hx hb dX12_divides_47 (lv_at hl 3 rfl) ?_
        refine lv_lconst (v := 0) hx hb dX12_divides_49 (by decide) ?_
        refine fr_lc_eq (tgt := 93) hx hb dX12_divides_50 dX12_divides_51 (by decide) (fun c2 => ?_) (fun c2 => ?_)
        · rw [if_pos c2] at hsp
          exact hb_93 h y1 y10 _ _ _ hsp hR (lv_sub hl [0, 1, 4] rfl)
        · rw [if_neg c2] at hsp
          refine lv_lload hx hb dX12_divides_54 (lv_at hl 2 rfl) ?_
          refine lv_lload hx hb dX12_divides_56 (lv_at hl 3 rfl) ?_
          obtain ⟨r3, E4, hsp⟩ := fr_b1 hsp
          refine fq_callS (rest := []) (st1 := [.long r3]) C hR (k_J9_floorDiv_f86c9 C.2.2 E4) Y_J9_floorDiv_f86c9 YS_J9_floorDiv_f86c9 Lk_RX12_103 rfl hl.1 ⟨Nat.le_of_ble_eq_true rfl, Nat.le_of_ble_eq_true rfl⟩ rfl (Nat.le_of_ble_eq_true rfl) ⟨Nat.zero_le _, Nat.zero_le _⟩ rfl dX12_divides_58 (fun H locs hR => ?_)
          refine lv_lstore (lv' := [(11, .long r3), (0, .ref (g.2.2 a)), (1, .int y1), (6, .long y6), (8, .long y8), (10, .int y10)]) hx hb dX12_divides_61 hl (by decide) rfl (fun ls hl => ?_)
          refine lv_lload hx hb dX12_divides_63 (lv_at hl 3 rfl) ?_
          refine lv_lload hx hb dX12_divides_65 (lv_at hl 0 rfl) ?_
          refine lv_lload hx hb dX12_divides_67 (lv_at hl 4 rfl) ?_
          refine lv_lmul hx hb dX12_divides_69 ?_
          refine lv_lsub hx hb dX12_divides_70 ?_
          refine lv_topl (fun v5 ev5 => ?_)
          have hsp := fr_let ev5 hsp
          refine lv_lstore (lv' := [(13, .long v5), (11, .long r3), (0, .ref (g.2.2 a)), (1, .int y1), (6, .long y6), (8, .long y8), (10, .int y10)]) hx hb dX12_divides_71 hl (by decide) rfl (fun ls hl => ?_)
          refine lv_aload_n hx hb dX12_divides_73 rfl (lv_at hl 2 rfl) ?_
          refine lv_iload_n hx hb dX12_divides_74 rfl (lv_at hl 3 rfl) ?_
          refine lv_lload hx hb dX12_divides_75 (lv_at hl 1 rfl) ?_
          obtain ⟨r6, h7, E8, hsp⟩ := fr_b2 hsp
          refine fq_callV (rest := []) (st1 := [.int r6]) C hR (k_X12_knows C.2.2 ha E8) Y_X12_knows YV_X12_knows Lk_RX12_109 ha ⟨_, _, rfl, by decide⟩ rfl hl.1 ⟨Nat.le_of_ble_eq_true rfl, Nat.le_of_ble_eq_true rfl⟩ rfl (Nat.le_of_ble_eq_true rfl) ⟨Nat.zero_le _, Nat.zero_le _⟩ rfl dX12_divides_77 (fun H locs hR => ?_)
          refine lv_istore (lv' := [(10, .int r6), (13, .long v5), (11, .long r3), (0, .ref (g.2.2 a)), (1, .int y1), (6, .long y6), (8, .long y8)]) hx hb dX12_divides_80 hl (by decide) rfl (fun ls hl => ?_)
          refine lv_lload hx hb dX12_divides_82 (lv_at hl 6 rfl) ?_
          refine lv_lstore (lv' := [(6, .long y8), (10, .int r6), (13, .long v5), (11, .long r3), (0, .ref (g.2.2 a)), (1, .int y1), (8, .long y8)]) hx hb dX12_divides_84 hl (by decide) rfl (fun ls hl => ?_)
          refine lv_lload hx hb dX12_divides_86 (lv_at hl 2 rfl) ?_
          refine lv_lstore (lv' := [(8, .long v5), (6, .long y8), (10, .int r6), (13, .long v5), (11, .long r3), (0, .ref (g.2.2 a)), (1, .int y1)]) hx hb dX12_divides_88 hl (by decide) rfl (fun ls hl => ?_)
          refine lv_goto (tgt := 42) hx hb dX12_divides_90 (by decide) ?_
          exact ih h7 y1 y8 v5 r6 _ _ _ hsp hR (lv_sub hl [5, 6, 1, 0, 2] rfl)
  have hb_30 : ∀ (h : fh_H) (y1 : Int32) (y6 : Int64) (t0 : Int64) (H : Heap) (locs : List Loc) (ls : Array Slot), z_X12_divides_b30 S a h y1 y6 t0 = some h' → fh_R S g s.heap h H locs → lv_has ls 15 [(0, .ref (g.2.2 a)), (1, .int y1), (6, .long y6)] → fh_Wk p l e 2 s m [.ref (g.2.2 a), .int x1, .long x2, .long x4] below meth c S g none h' H locs (F0 m 30 ls [.long t0]) := by
    intro h y1 y6 t0 H locs ls hsp hR hl
    unfold z_X12_divides_b30 at hsp
    refine lv_lstore (lv' := [(8, .long t0), (0, .ref (g.2.2 a)), (1, .int y1), (6, .long y6)]) hx hb dX12_divides_30 hl (by decide) rfl (fun ls hl => ?_)
    refine lv_iconst (v := 1) hx hb dX12_divides_32 (by decide) ?_
    refine lv_istore (lv' := [(10, .int (1 : Int32)), (8, .long t0), (0, .ref (g.2.2 a)), (1, .int y1), (6, .long y6)]) hx hb dX12_divides_33 hl (by decide) rfl (fun ls hl => ?_)
    refine lv_aload_n hx hb dX12_divides_35 rfl (lv_at hl 2 rfl) ?_
    obtain ⟨j1, hv2, hsp⟩ := fr_b1 hsp
    refine fr_getr C hR ha Fg_RX12_22 rfl hv2 dX12_divides_36 ?_
    refine lv_iload_n hx hb dX12_divides_39 rfl (lv_at hl 3 rfl) ?_
    refine lv_iconst (v := 0) hx hb dX12_divides_40 (by decide) ?_
    obtain ⟨hk3, hsp⟩ := fr_ck hsp
    obtain ⟨hi4, hsp⟩ := fr_ck hsp
    refine fr_iast C hR hk3 hi4 dX12_divides_41 (fun H locs hR => ?_)
    obtain ⟨h5, eh5⟩ : ∃ z, z = fh_sI h j1 (Int32.toNatClampNeg y1) (0 : Int32) := ⟨_, rfl⟩
    rw [← eh5] at hR
    have hsp := fr_let eh5 hsp
    exact hb_42 20000 h5 y1 y6 t0 (1 : Int32) _ _ _ hsp hR (lv_sub hl [2, 3, 4, 1, 0] rfl)
  have hb_13 : ∀ (h : fh_H) (y1 : Int32) (y4 : Int64) (t0 : Int64) (H : Heap) (locs : List Loc) (ls : Array Slot), z_X12_divides_b13 S a h y1 y4 t0 = some h' → fh_R S g s.heap h H locs → lv_has ls 15 [(0, .ref (g.2.2 a)), (1, .int y1), (4, .long y4)] → fh_Wk p l e 2 s m [.ref (g.2.2 a), .int x1, .long x2, .long x4] below meth c S g none h' H locs (F0 m 13 ls [.long t0]) := by
    intro h y1 y4 t0 H locs ls hsp hR hl
    unfold z_X12_divides_b13 at hsp
    refine lv_lstore (lv' := [(6, .long t0), (0, .ref (g.2.2 a)), (1, .int y1), (4, .long y4)]) hx hb dX12_divides_13 hl (by decide) rfl (fun ls hl => ?_)
    refine lv_lload hx hb dX12_divides_15 (lv_at hl 3 rfl) ?_
    refine lv_lconst (v := 0) hx hb dX12_divides_17 (by decide) ?_
    refine fr_lc_ge (tgt := 28) hx hb dX12_divides_18 dX12_divides_19 (by decide) (fun c1 => ?_) (fun c1 => ?_)
    · rw [if_pos c1] at hsp
      refine lv_lload hx hb dX12_divides_28 (lv_at hl 3 rfl) ?_
      exact hb_30 h y1 t0 y4 _ _ _ hsp hR (lv_sub hl [1, 2, 0] rfl)
    · rw [if_neg c1] at hsp
      refine lv_lload hx hb dX12_divides_22 (lv_at hl 3 rfl) ?_
      refine lv_lneg hx hb dX12_divides_24 ?_
      refine lv_goto (tgt := 30) hx hb dX12_divides_25 (by decide) ?_
      exact hb_30 h y1 t0 (-y4) _ _ _ hsp hR (lv_sub hl [1, 2, 0] rfl)
  unfold z_X12_divides at hsp
  refine lv_lload hx hb dX12_divides_0 (lv_at hl 3 rfl) ?_
  refine lv_lconst (v := 0) hx hb dX12_divides_2 (by decide) ?_
  refine fr_lc_ge (tgt := 12) hx hb dX12_divides_3 dX12_divides_4 (by decide) (fun c1 => ?_) (fun c1 => ?_)
  · rw [if_pos c1] at hsp
    refine lv_lload_n hx hb dX12_divides_12 rfl (lv_at hl 2 rfl) ?_
    exact hb_13 h x1 x4 x2 _ _ _ hsp hR (lv_sub hl [0, 1, 3] rfl)
  · rw [if_neg c1] at hsp
    refine lv_lload_n hx hb dX12_divides_7 rfl (lv_at hl 2 rfl) ?_
    refine lv_lneg hx hb dX12_divides_8 ?_
    refine lv_goto (tgt := 13) hx hb dX12_divides_9 (by decide) ?_
    exact hb_13 h x1 x4 (-x2) _ _ _ hsp hR (lv_sub hl [0, 1, 3] rfl)
