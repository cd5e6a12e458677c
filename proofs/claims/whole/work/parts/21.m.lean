/-! TermRowsModel.thrown()I -/
def z_X12_thrown (S : fh_S) (h : fh_H) (a : Nat) : Option Int32 :=
    some (h.1 a 3)
set_option maxHeartbeats 4000000 in
set_option maxRecDepth 100000 in
theorem k_X12_thrown {l : Launch} {S : fh_S} {g : fh_G} {h : fh_H} (hj : fh_inj S g) {a : Nat} {r : Int32} (ha : fh_kq S a 12 = true) (hsp : z_X12_thrown S h a = some r) : fh_M l yX12_thrown cX12_thrown 1 (some .int) (fh_rm 1) S g [.ref (g.2.2 a)] h (some (.int r)) h := by
  unfold z_X12_thrown at hsp
  refine fr_head (own := RX12) (by decide) rfl hj (Nat.le_of_ble_eq_true rfl) ?_
  intro p e s m below meth c ls C hr hlocks hR hl
  have hl : lv_has ls 1 [(0, .ref (g.2.2 a))] := hl
  have hx := C.1.1
  have hb := C.1.2.1
  refine lv_aload_n hx hb dX12_thrown_0 rfl (lv_at hl 0 rfl) ?_
  refine fr_geti C hR ha Fg_RX12_73 rfl dX12_thrown_1 ?_
  have e1 := fr_s1 hsp
  exact fr_iret C hr hlocks hR e1 rfl dX12_thrown_4

/-! TermRowsModel.fail(I)I -/
def z_X12_fail (S : fh_S) (h : fh_H) (a : Nat) (x1 : Int32) : Option (Int32 × fh_H) :=
    fh_let (fh_sI h a 3 x1) (fun h1 => some ((0 : Int32), h1))
set_option maxHeartbeats 4000000 in
set_option maxRecDepth 100000 in
theorem k_X12_fail {l : Launch} {S : fh_S} {g : fh_G} {h h' : fh_H} (hj : fh_inj S g) {a : Nat} {x1 : Int32} {r : Int32} (ha : fh_kq S a 12 = true) (hsp : z_X12_fail S h a x1 = some (r, h')) : fh_M l yX12_fail cX12_fail 2 (some .int) (fh_rm 1) S g [.ref (g.2.2 a), .int x1] h (some (.int r)) h' := by
  unfold z_X12_fail at hsp
  refine fr_head (own := RX12) (by decide) rfl hj (Nat.le_of_ble_eq_true rfl) ?_
  intro p e s m below meth c ls C hr hlocks hR hl
  have hl : lv_has ls 2 [(0, .ref (g.2.2 a)), (1, .int x1)] := hl
  have hx := C.1.1
  have hb := C.1.2.1
  refine lv_aload_n hx hb dX12_fail_0 rfl (lv_at hl 0 rfl) ?_
  refine lv_iload_n hx hb dX12_fail_1 rfl (lv_at hl 1 rfl) ?_
  refine fr_puti C hR ha Fp_RX12_73 rfl dX12_fail_2 (fun H locs hR => ?_)
  obtain ⟨h1, eh1⟩ : ∃ z, z = fh_sI h a 3 x1 := ⟨_, rfl⟩
  rw [← eh1] at hR
  have hsp := fr_let eh1 hsp
  refine lv_iconst (v := 0) hx hb dX12_fail_5 (by decide) ?_
  obtain ⟨e1, e2⟩ := fr_s2 hsp
  exact fr_iret C hr hlocks hR e1 e2 dX12_fail_6

/-! TermRowsModel.isIn(JJJ)Z -/
def z_X12_isIn (x0 : Int64) (x2 : Int64) (x4 : Int64) : Option Int32 :=
    if x0 < x2 then (some (0 : Int32)) else (if x4 < x0 then (some (0 : Int32)) else (some (1 : Int32)))
set_option maxHeartbeats 4000000 in
set_option maxRecDepth 100000 in
theorem k_X12_isIn {l : Launch} {S : fh_S} {g : fh_G} {h : fh_H} (hj : fh_inj S g) {x0 : Int64} {x2 : Int64} {x4 : Int64} {r : Int32} (hsp : z_X12_isIn x0 x2 x4 = some r) : fh_M l yX12_isIn cX12_isIn 6 (some .boolean) (fh_rm 1) S g [.long x0, .long x2, .long x4] h (some (.int r)) h := by
  unfold z_X12_isIn at hsp
  refine fr_head (own := RX12) (by decide) rfl hj (Nat.le_of_ble_eq_true rfl) ?_
  intro p e s m below meth c ls C hr hlocks hR hl
  have hl : lv_has ls 6 [(0, .long x0), (2, .long x2), (4, .long x4)] := hl
  have hx := C.1.1
  have hb := C.1.2.1
  refine lv_lload_n hx hb dX12_isIn_0 rfl (lv_at hl 0 rfl) ?_
  refine lv_lload_n hx hb dX12_isIn_1 rfl (lv_at hl 1 rfl) ?_
  refine fr_lc_lt (tgt := 17) hx hb dX12_isIn_2 dX12_isIn_3 (by decide) (fun c1 => ?_) (fun c1 => ?_)
  · rw [if_pos c1] at hsp
    refine lv_iconst (v := 0) hx hb dX12_isIn_17 (by decide) ?_
    have e1 := fr_s1 hsp
    exact fr_zret C hr hlocks hR (Or.inl rfl) e1 rfl dX12_isIn_18
  · rw [if_neg c1] at hsp
    refine lv_lload_n hx hb dX12_isIn_6 rfl (lv_at hl 0 rfl) ?_
    refine lv_lload hx hb dX12_isIn_7 (lv_at hl 2 rfl) ?_
    refine fr_lc_gt (tgt := 17) hx hb dX12_isIn_9 dX12_isIn_10 (by decide) (fun c2 => ?_) (fun c2 => ?_)
    · rw [if_pos c2] at hsp
      refine lv_iconst (v := 0) hx hb dX12_isIn_17 (by decide) ?_
      have e1 := fr_s1 hsp
      exact fr_zret C hr hlocks hR (Or.inl rfl) e1 rfl dX12_isIn_18
    · rw [if_neg c2] at hsp
      refine lv_iconst (v := 1) hx hb dX12_isIn_13 (by decide) ?_
      refine lv_goto (tgt := 18) hx hb dX12_isIn_14 (by decide) ?_
      have e1 := fr_s1 hsp
      exact fr_zret C hr hlocks hR (Or.inr rfl) e1 rfl dX12_isIn_18

/-! TermRowsModel.of1(II)I -/
def z_X12_of1 (S : fh_S) (h : fh_H) (a : Nat) (x1 : Int32) (x2 : Int32) : Option Int32 :=
    fh_b1 (h.2.2 a 0) (fun j1 => fh_ck (fh_kq S j1 13) (fh_ck (fh_in (((109 : Int32) * x1) + x2) (S.2.2 j1)) (some (h.1 j1 (Int32.toNatClampNeg (((109 : Int32) * x1) + x2))))))
set_option maxHeartbeats 4000000 in
set_option maxRecDepth 100000 in
theorem k_X12_of1 {l : Launch} {S : fh_S} {g : fh_G} {h : fh_H} (hj : fh_inj S g) {a : Nat} {x1 : Int32} {x2 : Int32} {r : Int32} (ha : fh_kq S a 12 = true) (hsp : z_X12_of1 S h a x1 x2 = some r) : fh_M l yX12_of1 cX12_of1 3 (some .int) (fh_rm 1) S g [.ref (g.2.2 a), .int x1, .int x2] h (some (.int r)) h := by
  unfold z_X12_of1 at hsp
  refine fr_head (own := RX12) (by decide) rfl hj (Nat.le_of_ble_eq_true rfl) ?_
  intro p e s m below meth c ls C hr hlocks hR hl
  have hl : lv_has ls 3 [(0, .ref (g.2.2 a)), (1, .int x1), (2, .int x2)] := hl
  have hx := C.1.1
  have hb := C.1.2.1
  refine lv_aload_n hx hb dX12_of1_0 rfl (lv_at hl 0 rfl) ?_
  obtain ⟨j1, hv2, hsp⟩ := fr_b1 hsp
  refine fr_getr C hR ha Fg_RX12_9 rfl hv2 dX12_of1_1 ?_
  refine lv_bipush (v := 109) hx hb dX12_of1_4 (by decide) ?_
  refine lv_iload_n hx hb dX12_of1_6 rfl (lv_at hl 1 rfl) ?_
  refine lv_imul hx hb dX12_of1_7 ?_
  refine lv_iload_n hx hb dX12_of1_8 rfl (lv_at hl 2 rfl) ?_
  refine lv_iadd hx hb dX12_of1_9 ?_
  obtain ⟨hk3, hsp⟩ := fr_ck hsp
  obtain ⟨hi4, hsp⟩ := fr_ck hsp
  refine fr_iald C hR hk3 hi4 dX12_of1_10 ?_
  have e1 := fr_s1 hsp
  exact fr_iret C hr hlocks hR e1 rfl dX12_of1_11

/-! TermRowsModel.put(III)V -/
def z_X12_put (S : fh_S) (h : fh_H) (a : Nat) (x1 : Int32) (x2 : Int32) (x3 : Int32) : Option fh_H :=
    fh_b1 (h.2.2 a 0) (fun j1 => fh_ck (fh_kq S j1 13) (fh_ck (fh_in (((109 : Int32) * x1) + x2) (S.2.2 j1)) (fh_let (fh_sI h j1 (Int32.toNatClampNeg (((109 : Int32) * x1) + x2)) x3) (fun h5 => some h5))))
set_option maxHeartbeats 4000000 in
set_option maxRecDepth 100000 in
theorem k_X12_put {l : Launch} {S : fh_S} {g : fh_G} {h h' : fh_H} (hj : fh_inj S g) {a : Nat} {x1 : Int32} {x2 : Int32} {x3 : Int32} (ha : fh_kq S a 12 = true) (hsp : z_X12_put S h a x1 x2 x3 = some h') : fh_M l yX12_put cX12_put 4 none (fh_rm 1) S g [.ref (g.2.2 a), .int x1, .int x2, .int x3] h none h' := by
  unfold z_X12_put at hsp
  refine fr_head (own := RX12) (by decide) rfl hj (Nat.le_of_ble_eq_true rfl) ?_
  intro p e s m below meth c ls C hr hlocks hR hl
  have hl : lv_has ls 4 [(0, .ref (g.2.2 a)), (1, .int x1), (2, .int x2), (3, .int x3)] := hl
  have hx := C.1.1
  have hb := C.1.2.1
  refine lv_aload_n hx hb dX12_put_0 rfl (lv_at hl 0 rfl) ?_
  obtain ⟨j1, hv2, hsp⟩ := fr_b1 hsp
  refine fr_getr C hR ha Fg_RX12_9 rfl hv2 dX12_put_1 ?_
  refine lv_bipush (v := 109) hx hb dX12_put_4 (by decide) ?_
  refine lv_iload_n hx hb dX12_put_6 rfl (lv_at hl 1 rfl) ?_
  refine lv_imul hx hb dX12_put_7 ?_
  refine lv_iload_n hx hb dX12_put_8 rfl (lv_at hl 2 rfl) ?_
  refine lv_iadd hx hb dX12_put_9 ?_
  refine lv_iload_n hx hb dX12_put_10 rfl (lv_at hl 3 rfl) ?_
  obtain ⟨hk3, hsp⟩ := fr_ck hsp
  obtain ⟨hi4, hsp⟩ := fr_ck hsp
  refine fr_iast C hR hk3 hi4 dX12_put_11 (fun H locs hR => ?_)
  obtain ⟨h5, eh5⟩ : ∃ z, z = fh_sI h j1 (Int32.toNatClampNeg (((109 : Int32) * x1) + x2)) x3 := ⟨_, rfl⟩
  rw [← eh5] at hR
  have hsp := fr_let eh5 hsp
  exact fr_vret C hr hlocks hR (fr_s1 hsp) dX12_put_12

/-! TermRowsModel.termOf(II)I -/
def z_X12_termOf (S : fh_S) (h : fh_H) (a : Nat) (x1 : Int32) (x2 : Int32) : Option Int32 :=
    fh_b1 (h.2.2 a 4) (fun j1 => fh_ck (fh_kq S j1 13) (fh_ck (fh_in (((60 : Int32) * x1) + x2) (S.2.2 j1)) (some (h.1 j1 (Int32.toNatClampNeg (((60 : Int32) * x1) + x2))))))
set_option maxHeartbeats 4000000 in
set_option maxRecDepth 100000 in
theorem k_X12_termOf {l : Launch} {S : fh_S} {g : fh_G} {h : fh_H} (hj : fh_inj S g) {a : Nat} {x1 : Int32} {x2 : Int32} {r : Int32} (ha : fh_kq S a 12 = true) (hsp : z_X12_termOf S h a x1 x2 = some r) : fh_M l yX12_termOf cX12_termOf 3 (some .int) (fh_rm 1) S g [.ref (g.2.2 a), .int x1, .int x2] h (some (.int r)) h := by
  unfold z_X12_termOf at hsp
  refine fr_head (own := RX12) (by decide) rfl hj (Nat.le_of_ble_eq_true rfl) ?_
  intro p e s m below meth c ls C hr hlocks hR hl
  have hl : lv_has ls 3 [(0, .ref (g.2.2 a)), (1, .int x1), (2, .int x2)] := hl
  have hx := C.1.1
  have hb := C.1.2.1
  refine lv_aload_n hx hb dX12_termOf_0 rfl (lv_at hl 0 rfl) ?_
  obtain ⟨j1, hv2, hsp⟩ := fr_b1 hsp
  refine fr_getr C hR ha Fg_RX12_16 rfl hv2 dX12_termOf_1 ?_
  refine lv_bipush (v := 60) hx hb dX12_termOf_4 (by decide) ?_
  refine lv_iload_n hx hb dX12_termOf_6 rfl (lv_at hl 1 rfl) ?_
  refine lv_imul hx hb dX12_termOf_7 ?_
  refine lv_iload_n hx hb dX12_termOf_8 rfl (lv_at hl 2 rfl) ?_
  refine lv_iadd hx hb dX12_termOf_9 ?_
  obtain ⟨hk3, hsp⟩ := fr_ck hsp
  obtain ⟨hi4, hsp⟩ := fr_ck hsp
  refine fr_iald C hR hk3 hi4 dX12_termOf_10 ?_
  have e1 := fr_s1 hsp
  exact fr_iret C hr hlocks hR e1 rfl dX12_termOf_11

/-! TermRowsModel.knows(IJ)Z -/
def z_X12_knows (S : fh_S) (h : fh_H) (a : Nat) (x1 : Int32) (x2 : Int64) : Option (Int32 × fh_H) :=
    fh_b1 (h.2.2 a 4) (fun j1 => fh_b1 (h.2.2 a 5) (fun j3 => fh_ck (fh_kq S j3 13) (fh_ck (fh_in x1 (S.2.2 j3)) (fh_ck (fh_kq S j1 13) (fh_ck (fh_in (((60 : Int32) * x1) + (h.1 j3 (Int32.toNatClampNeg x1))) (S.2.2 j1)) (fh_let (fh_sI h j1 (Int32.toNatClampNeg (((60 : Int32) * x1) + (h.1 j3 (Int32.toNatClampNeg x1)))) (Int64.toInt32 x2)) (fun h9 => fh_b1 (h9.2.2 a 5) (fun j10 => fh_ck (fh_kq S j10 13) (fh_ck (fh_in x1 (S.2.2 j10)) (fh_let (fh_sI h9 j10 (Int32.toNatClampNeg x1) ((h9.1 j10 (Int32.toNatClampNeg x1)) + (1 : Int32))) (fun h14 => fh_b1 (h14.2.2 a 5) (fun j15 => fh_ck (fh_kq S j15 13) (fh_ck (fh_in x1 (S.2.2 j15)) (if (60 : Int32) ≤ (h14.1 j15 (Int32.toNatClampNeg x1)) then (some ((0 : Int32), h14)) else (some ((1 : Int32), h14))))))))))))))))
set_option maxHeartbeats 4000000 in
set_option maxRecDepth 100000 in
theorem k_X12_knows {l : Launch} {S : fh_S} {g : fh_G} {h h' : fh_H} (hj : fh_inj S g) {a : Nat} {x1 : Int32} {x2 : Int64} {r : Int32} (ha : fh_kq S a 12 = true) (hsp : z_X12_knows S h a x1 x2 = some (r, h')) : fh_M l yX12_knows cX12_knows 4 (some .boolean) (fh_rm 1) S g [.ref (g.2.2 a), .int x1, .long x2] h (some (.int r)) h' := by
  unfold z_X12_knows at hsp
  refine fr_head (own := RX12) (by decide) rfl hj (Nat.le_of_ble_eq_true rfl) ?_
  intro p e s m below meth c ls C hr hlocks hR hl
  have hl : lv_has ls 4 [(0, .ref (g.2.2 a)), (1, .int x1), (2, .long x2)] := hl
  have hx := C.1.1
  have hb := C.1.2.1
  refine lv_aload_n hx hb dX12_knows_0 rfl (lv_at hl 0 rfl) ?_
  obtain ⟨j1, hv2, hsp⟩ := fr_b1 hsp
  refine fr_getr C hR ha Fg_RX12_16 rfl hv2 dX12_knows_1 ?_
  refine lv_bipush (v := 60) hx hb dX12_knows_4 (by decide) ?_
  refine lv_iload_n hx hb dX12_knows_6 rfl (lv_at hl 1 rfl) ?_
  refine lv_imul hx hb dX12_knows_7 ?_
  refine lv_aload_n hx hb dX12_knows_8 rfl (lv_at hl 0 rfl) ?_
  obtain ⟨j3, hv4, hsp⟩ := fr_b1 hsp
  refine fr_getr C hR ha Fg_RX12_19 rfl hv4 dX12_knows_9 ?_
  refine lv_iload_n hx hb dX12_knows_12 rfl (lv_at hl 1 rfl) ?_
  obtain ⟨hk5, hsp⟩ := fr_ck hsp
  obtain ⟨hi6, hsp⟩ := fr_ck hsp
  refine fr_iald C hR hk5 hi6 dX12_knows_13 ?_
  refine lv_iadd hx hb dX12_knows_14 ?_
  refine lv_lload_n hx hb dX12_knows_15 rfl (lv_at hl 2 rfl) ?_
  refine lv_l2i hx hb dX12_knows_16 rfl ?_
  obtain ⟨hk7, hsp⟩ := fr_ck hsp
  obtain ⟨hi8, hsp⟩ := fr_ck hsp
  refine fr_iast C hR hk7 hi8 dX12_knows_17 (fun H locs hR => ?_)
  obtain ⟨h9, eh9⟩ : ∃ z, z = fh_sI h j1 (Int32.toNatClampNeg (((60 : Int32) * x1) + (h.1 j3 (Int32.toNatClampNeg x1)))) (Int64.toInt32 x2) := ⟨_, rfl⟩
  rw [← eh9] at hR
  have hsp := fr_let eh9 hsp
  refine lv_aload_n hx hb dX12_knows_18 rfl (lv_at hl 0 rfl) ?_
  obtain ⟨j10, hv11, hsp⟩ := fr_b1 hsp
  refine fr_getr C hR ha Fg_RX12_19 rfl hv11 dX12_knows_19 ?_
  refine lv_iload_n hx hb dX12_knows_22 rfl (lv_at hl 1 rfl) ?_
  refine lv_dup2_11 hx hb dX12_knows_23 rfl rfl ?_
  obtain ⟨hk12, hsp⟩ := fr_ck hsp
  obtain ⟨hi13, hsp⟩ := fr_ck hsp
  refine fr_iald C hR hk12 hi13 dX12_knows_24 ?_
  refine lv_iconst (v := 1) hx hb dX12_knows_25 (by decide) ?_
  refine lv_iadd hx hb dX12_knows_26 ?_
  refine fr_iast C hR hk12 hi13 dX12_knows_27 (fun H locs hR => ?_)
  obtain ⟨h14, eh14⟩ : ∃ z, z = fh_sI h9 j10 (Int32.toNatClampNeg x1) ((h9.1 j10 (Int32.toNatClampNeg x1)) + (1 : Int32)) := ⟨_, rfl⟩
  rw [← eh14] at hR
  have hsp := fr_let eh14 hsp
  refine lv_aload_n hx hb dX12_knows_28 rfl (lv_at hl 0 rfl) ?_
  obtain ⟨j15, hv16, hsp⟩ := fr_b1 hsp
  refine fr_getr C hR ha Fg_RX12_19 rfl hv16 dX12_knows_29 ?_
  refine lv_iload_n hx hb dX12_knows_32 rfl (lv_at hl 1 rfl) ?_
  obtain ⟨hk17, hsp⟩ := fr_ck hsp
  obtain ⟨hi18, hsp⟩ := fr_ck hsp
  refine fr_iald C hR hk17 hi18 dX12_knows_33 ?_
  refine lv_bipush (v := 60) hx hb dX12_knows_34 (by decide) ?_
  refine lv_icmp_ge (tgt := 43) hx hb dX12_knows_36 (by decide) (fun c19 => ?_) (fun c19 => ?_)
  · rw [if_pos c19] at hsp
    refine lv_iconst (v := 0) hx hb dX12_knows_43 (by decide) ?_
    obtain ⟨e1, e2⟩ := fr_s2 hsp
    exact fr_zret C hr hlocks hR (Or.inl rfl) e1 e2 dX12_knows_44
  · rw [if_neg c19] at hsp
    refine lv_iconst (v := 1) hx hb dX12_knows_39 (by decide) ?_
    refine lv_goto (tgt := 44) hx hb dX12_knows_40 (by decide) ?_
    obtain ⟨e1, e2⟩ := fr_s2 hsp
    exact fr_zret C hr hlocks hR (Or.inr rfl) e1 e2 dX12_knows_44

/-! TermRowsModel.rootOf(J)J -/
def z_X12_rootOf_b7 : Nat → Int64 → Int64 → Int64 → Option Int64
  | 0, _, _, _ => none
  | n + 1, y0, y2, y4 =>
    if y4 ≤ (0 : Int64) then (some y2) else (if y0 < ((y2 + y4) * (y2 + y4)) then (fh_let ((y4 / (2 : Int64))) (fun v3 => z_X12_rootOf_b7 n y0 y2 v3)) else (fh_let ((y2 + y4)) (fun v4 => fh_let ((y4 / (2 : Int64))) (fun v5 => z_X12_rootOf_b7 n y0 v4 v5))))
def z_X12_rootOf (x0 : Int64) : Option Int64 :=
    z_X12_rootOf_b7 20000 x0 (0 : Int64) (1048576 : Int64)
set_option maxHeartbeats 4000000 in
set_option maxRecDepth 100000 in
theorem k_X12_rootOf {l : Launch} {S : fh_S} {g : fh_G} {h : fh_H} (hj : fh_inj S g) {x0 : Int64} {r : Int64} (hsp : z_X12_rootOf x0 = some r) : fh_M l yX12_rootOf cX12_rootOf 6 (some .long) (fh_rm 1) S g [.long x0] h (some (.long r)) h := by
  unfold z_X12_rootOf at hsp
  refine fr_head (own := RX12) (by decide) rfl hj (Nat.le_of_ble_eq_true rfl) ?_
  intro p e s m below meth c ls C hr hlocks hR hl
  have hl : lv_has ls 6 [(0, .long x0)] := hl
  have hx := C.1.1
  have hb := C.1.2.1
  have hb_7 : ∀ (n : Nat) (y0 : Int64) (y2 : Int64) (y4 : Int64) (H : Heap) (locs : List Loc) (ls : Array Slot), z_X12_rootOf_b7 n y0 y2 y4 = some r → fh_R S g s.heap h H locs → lv_has ls 6 [(0, .long y0), (2, .long y2), (4, .long y4)] → fh_Wk p l e 1 s m [.long x0] below meth c S g (some (.long r)) h H locs (F0 m 7 ls []) := by
    intro n
    induction n with
    | zero => intro y0 y2 y4 H locs ls hsp; cases hsp
    | succ n ih =>
      intro y0 y2 y4 H locs ls hsp hR hl
      rw [z_X12_rootOf_b7] at hsp
      refine lv_lload hx hb dX12_rootOf_7 (lv_at hl 2 rfl) ?_
      refine lv_lconst (v := 0) hx hb dX12_rootOf_9 (by decide) ?_
      refine fr_lc_le (tgt := 44) hx hb dX12_rootOf_10 dX12_rootOf_11 (by decide) (fun c1 => ?_) (fun c1 => ?_)
      · rw [if_pos c1] at hsp
        refine lv_lload_n hx hb dX12_rootOf_44 rfl (lv_at hl 1 rfl) ?_
        have e1 := fr_s1 hsp
        exact fr_lret C hr hlocks hR e1 rfl dX12_rootOf_45
      · rw [if_neg c1] at hsp
        refine lv_lload_n hx hb dX12_rootOf_14 rfl (lv_at hl 1 rfl) ?_
        refine lv_lload hx hb dX12_rootOf_15 (lv_at hl 2 rfl) ?_
        refine lv_ladd hx hb dX12_rootOf_17 ?_
        refine lv_lload_n hx hb dX12_rootOf_18 rfl (lv_at hl 1 rfl) ?_
        refine lv_lload hx hb dX12_rootOf_19 (lv_at hl 2 rfl) ?_
        refine lv_ladd hx hb dX12_rootOf_21 ?_
        refine lv_lmul hx hb dX12_rootOf_22 ?_
        refine lv_lload_n hx hb dX12_rootOf_23 rfl (lv_at hl 0 rfl) ?_
        refine fr_lc_gt (tgt := 33) hx hb dX12_rootOf_24 dX12_rootOf_25 (by decide) (fun c2 => ?_) (fun c2 => ?_)
        · rw [if_pos c2] at hsp
          refine lv_lload hx hb dX12_rootOf_33 (lv_at hl 2 rfl) ?_
          refine lv_ldc2 hx hb C.1.2.2.2.1 (C.1.2.2.2.2 _ Kc_RX12_115) dX12_rootOf_35 ?_
          refine lv_ldiv hx hb dX12_rootOf_38 (by decide) ?_
          refine lv_topl (fun v3 ev3 => ?_)
          have hsp := fr_let ev3 hsp
          refine lv_lstore (lv' := [(4, .long v3), (0, .long y0), (2, .long y2)]) hx hb dX12_rootOf_39 hl (by decide) rfl (fun ls hl => ?_)
          refine lv_goto (tgt := 7) hx hb dX12_rootOf_41 (by decide) ?_
          exact ih y0 y2 v3 _ _ _ hsp hR (lv_sub hl [1, 2, 0] rfl)
        · rw [if_neg c2] at hsp
          refine lv_lload_n hx hb dX12_rootOf_28 rfl (lv_at hl 1 rfl) ?_
          refine lv_lload hx hb dX12_rootOf_29 (lv_at hl 2 rfl) ?_
          refine lv_ladd hx hb dX12_rootOf_31 ?_
          refine lv_topl (fun v4 ev4 => ?_)
          have hsp := fr_let ev4 hsp
          refine lv_lstore_n (lv' := [(2, .long v4), (0, .long y0), (4, .long y4)]) hx hb dX12_rootOf_32 rfl hl (by decide) rfl (fun ls hl => ?_)
          refine lv_lload hx hb dX12_rootOf_33 (lv_at hl 2 rfl) ?_
          refine lv_ldc2 hx hb C.1.2.2.2.1 (C.1.2.2.2.2 _ Kc_RX12_115) dX12_rootOf_35 ?_
          refine lv_ldiv hx hb dX12_rootOf_38 (by decide) ?_
          refine lv_topl (fun v5 ev5 => ?_)
          have hsp := fr_let ev5 hsp
          refine lv_lstore (lv' := [(4, .long v5), (2, .long v4), (0, .long y0)]) hx hb dX12_rootOf_39 hl (by decide) rfl (fun ls hl => ?_)
          refine lv_goto (tgt := 7) hx hb dX12_rootOf_41 (by decide) ?_
          exact ih y0 v4 v5 _ _ _ hsp hR (lv_sub hl [2, 1, 0] rfl)
  refine lv_lconst (v := 0) hx hb dX12_rootOf_0 (by decide) ?_
  refine lv_lstore_n (lv' := [(2, .long (0 : Int64)), (0, .long x0)]) hx hb dX12_rootOf_1 rfl hl (by decide) rfl (fun ls hl => ?_)
  refine lv_ldc2 hx hb C.1.2.2.2.1 (C.1.2.2.2.2 _ Kc_RX12_113) dX12_rootOf_2 ?_
  refine lv_lstore (lv' := [(4, .long (1048576 : Int64)), (2, .long (0 : Int64)), (0, .long x0)]) hx hb dX12_rootOf_5 hl (by decide) rfl (fun ls hl => ?_)
  exact hb_7 20000 x0 (0 : Int64) (1048576 : Int64) _ _ _ hsp hR (lv_sub hl [2, 1, 0] rfl)

/-! TermRowsModel.begins(IIZ)V -/
def z_X12_begins_b30 (S : fh_S) (a : Nat) (h : fh_H) (t0 : Int32) (t1 : Nat) : Option fh_H :=
    fh_ck (fh_kq S t1 12) (fh_ck (decide (t0 = 0 ∨ t0 = 1)) (fh_let (fh_sI h t1 18 t0) (fun h3 => fh_let (fh_sI h3 a 19 (0 : Int32)) (fun h4 => fh_let (fh_sI h4 a 22 (0 : Int32)) (fun h5 => fh_let (fh_sI h5 a 23 (0 : Int32)) (fun h6 => fh_let (fh_sI h6 a 24 (0 : Int32)) (fun h7 => fh_let (fh_sI h7 a 16 (0 : Int32)) (fun h8 => some h8))))))))
def z_X12_begins (S : fh_S) (h : fh_H) (a : Nat) (x1 : Int32) (x2 : Int32) (x3 : Int32) : Option fh_H :=
    fh_let (fh_sI h a 20 x1) (fun h1 => fh_let (fh_sI h1 a 21 x2) (fun h2 => fh_ck (decide (x3 = 0 ∨ x3 = 1)) (fh_let (fh_sI h2 a 15 x3) (fun h4 => fh_let (fh_sI h4 a 17 (0 : Int32)) (fun h5 => if x3 = 0 then (z_X12_begins_b30 S a h5 (1 : Int32) a) else (z_X12_begins_b30 S a h5 (0 : Int32) a))))))
set_option maxHeartbeats 4000000 in
set_option maxRecDepth 100000 in
theorem k_X12_begins {l : Launch} {S : fh_S} {g : fh_G} {h h' : fh_H} (hj : fh_inj S g) {a : Nat} {x1 : Int32} {x2 : Int32} {x3 : Int32} (ha : fh_kq S a 12 = true) (hsp : z_X12_begins S h a x1 x2 x3 = some h') : fh_M l yX12_begins cX12_begins 4 none (fh_rm 1) S g [.ref (g.2.2 a), .int x1, .int x2, .int x3] h none h' := by
  unfold z_X12_begins at hsp
  refine fr_head (own := RX12) (by decide) rfl hj (Nat.le_of_ble_eq_true rfl) ?_
  intro p e s m below meth c ls C hr hlocks hR hl
  have hl : lv_has ls 4 [(0, .ref (g.2.2 a)), (1, .int x1), (2, .int x2), (3, .int x3)] := hl
  have hx := C.1.1
  have hb := C.1.2.1
  have hb_30 : ∀ (h : fh_H) (t0 : Int32) (t1 : Nat) (H : Heap) (locs : List Loc) (ls : Array Slot), z_X12_begins_b30 S a h t0 t1 = some h' → fh_R S g s.heap h H locs → lv_has ls 4 [(0, .ref (g.2.2 a))] → fh_Wk p l e 1 s m [.ref (g.2.2 a), .int x1, .int x2, .int x3] below meth c S g none h' H locs (F0 m 30 ls [.int t0, .ref (g.2.2 t1)]) := by
    intro h t0 t1 H locs ls hsp hR hl
    unfold z_X12_begins_b30 at hsp
    obtain ⟨hk1, hsp⟩ := fr_ck hsp
    obtain ⟨hz2, hsp⟩ := fr_ck hsp
    refine fr_putz C hR hk1 Fp_RX12_161 rfl (of_decide_eq_true hz2) dX12_begins_30 (fun H locs hR => ?_)
    obtain ⟨h3, eh3⟩ : ∃ z, z = fh_sI h t1 18 t0 := ⟨_, rfl⟩
    rw [← eh3] at hR
    have hsp := fr_let eh3 hsp
    refine lv_aload_n hx hb dX12_begins_33 rfl (lv_at hl 0 rfl) ?_
    refine lv_iconst (v := 0) hx hb dX12_begins_34 (by decide) ?_
    refine fr_putz C hR ha Fp_RX12_164 rfl (Or.inl rfl) dX12_begins_35 (fun H locs hR => ?_)
    obtain ⟨h4, eh4⟩ : ∃ z, z = fh_sI h3 a 19 (0 : Int32) := ⟨_, rfl⟩
    rw [← eh4] at hR
    have hsp := fr_let eh4 hsp
    refine lv_aload_n hx hb dX12_begins_38 rfl (lv_at hl 0 rfl) ?_
    refine lv_iconst (v := 0) hx hb dX12_begins_39 (by decide) ?_
    refine fr_puti C hR ha Fp_RX12_167 rfl dX12_begins_40 (fun H locs hR => ?_)
    obtain ⟨h5, eh5⟩ : ∃ z, z = fh_sI h4 a 22 (0 : Int32) := ⟨_, rfl⟩
    rw [← eh5] at hR
    have hsp := fr_let eh5 hsp
    refine lv_aload_n hx hb dX12_begins_43 rfl (lv_at hl 0 rfl) ?_
    refine lv_iconst (v := 0) hx hb dX12_begins_44 (by decide) ?_
    refine fr_puti C hR ha Fp_RX12_170 rfl dX12_begins_45 (fun H locs hR => ?_)
    obtain ⟨h6, eh6⟩ : ∃ z, z = fh_sI h5 a 23 (0 : Int32) := ⟨_, rfl⟩
    rw [← eh6] at hR
    have hsp := fr_let eh6 hsp
    refine lv_aload_n hx hb dX12_begins_48 rfl (lv_at hl 0 rfl) ?_
    refine lv_iconst (v := 0) hx hb dX12_begins_49 (by decide) ?_
    refine fr_puti C hR ha Fp_RX12_173 rfl dX12_begins_50 (fun H locs hR => ?_)
    obtain ⟨h7, eh7⟩ : ∃ z, z = fh_sI h6 a 24 (0 : Int32) := ⟨_, rfl⟩
    rw [← eh7] at hR
    have hsp := fr_let eh7 hsp
    refine lv_aload_n hx hb dX12_begins_53 rfl (lv_at hl 0 rfl) ?_
    refine lv_iconst (v := 0) hx hb dX12_begins_54 (by decide) ?_
    refine fr_putz C hR ha Fp_RX12_141 rfl (Or.inl rfl) dX12_begins_55 (fun H locs hR => ?_)
    obtain ⟨h8, eh8⟩ : ∃ z, z = fh_sI h7 a 16 (0 : Int32) := ⟨_, rfl⟩
    rw [← eh8] at hR
    have hsp := fr_let eh8 hsp
    exact fr_vret C hr hlocks hR (fr_s1 hsp) dX12_begins_58
  refine lv_aload_n hx hb dX12_begins_0 rfl (lv_at hl 0 rfl) ?_
  refine lv_iload_n hx hb dX12_begins_1 rfl (lv_at hl 1 rfl) ?_
  refine fr_puti C hR ha Fp_RX12_149 rfl dX12_begins_2 (fun H locs hR => ?_)
  obtain ⟨h1, eh1⟩ : ∃ z, z = fh_sI h a 20 x1 := ⟨_, rfl⟩
  rw [← eh1] at hR
  have hsp := fr_let eh1 hsp
  refine lv_aload_n hx hb dX12_begins_5 rfl (lv_at hl 0 rfl) ?_
  refine lv_iload_n hx hb dX12_begins_6 rfl (lv_at hl 2 rfl) ?_
  refine fr_puti C hR ha Fp_RX12_152 rfl dX12_begins_7 (fun H locs hR => ?_)
  obtain ⟨h2, eh2⟩ : ∃ z, z = fh_sI h1 a 21 x2 := ⟨_, rfl⟩
  rw [← eh2] at hR
  have hsp := fr_let eh2 hsp
  refine lv_aload_n hx hb dX12_begins_10 rfl (lv_at hl 0 rfl) ?_
  refine lv_iload_n hx hb dX12_begins_11 rfl (lv_at hl 3 rfl) ?_
  obtain ⟨hz3, hsp⟩ := fr_ck hsp
  refine fr_putz C hR ha Fp_RX12_155 rfl (of_decide_eq_true hz3) dX12_begins_12 (fun H locs hR => ?_)
  obtain ⟨h4, eh4⟩ : ∃ z, z = fh_sI h2 a 15 x3 := ⟨_, rfl⟩
  rw [← eh4] at hR
  have hsp := fr_let eh4 hsp
  refine lv_aload_n hx hb dX12_begins_15 rfl (lv_at hl 0 rfl) ?_
  refine lv_iconst (v := 0) hx hb dX12_begins_16 (by decide) ?_
  refine fr_putz C hR ha Fp_RX12_158 rfl (Or.inl rfl) dX12_begins_17 (fun H locs hR => ?_)
  obtain ⟨h5, eh5⟩ : ∃ z, z = fh_sI h4 a 17 (0 : Int32) := ⟨_, rfl⟩
  rw [← eh5] at hR
  have hsp := fr_let eh5 hsp
  refine lv_aload_n hx hb dX12_begins_20 rfl (lv_at hl 0 rfl) ?_
  refine lv_iload_n hx hb dX12_begins_21 rfl (lv_at hl 3 rfl) ?_
  refine lv_if_ne (tgt := 29) hx hb dX12_begins_22 (by decide) (fun c6 => ?_) (fun c6 => ?_)
  · rw [if_neg c6] at hsp
    refine lv_iconst (v := 0) hx hb dX12_begins_29 (by decide) ?_
    exact hb_30 h5 (0 : Int32) a _ _ _ hsp hR (lv_sub hl [0] rfl)
  · rw [if_pos c6] at hsp
    refine lv_iconst (v := 1) hx hb dX12_begins_25 (by decide) ?_
    refine lv_goto (tgt := 30) hx hb dX12_begins_26 (by decide) ?_
    exact hb_30 h5 (1 : Int32) a _ _ _ hsp hR (lv_sub hl [0] rfl)

/-! TermRowsModel.numbers(IIIIIIII)V -/
def z_X12_numbers (S : fh_S) (h : fh_H) (a : Nat) (x1 : Int32) (x2 : Int32) (x3 : Int32) (x4 : Int32) (x5 : Int32) (x6 : Int32) (x7 : Int32) (x8 : Int32) : Option fh_H :=
    fh_b1 (h.2.2 a 13) (fun j1 => fh_ck (fh_kq S j1 14) (fh_ck (fh_in (0 : Int32) (S.2.2 j1)) (fh_let (fh_sJ h j1 (Int32.toNatClampNeg (0 : Int32)) (Int32.toInt64 x1)) (fun h5 => fh_b1 (h5.2.2 a 13) (fun j6 => fh_ck (fh_kq S j6 14) (fh_ck (fh_in (1 : Int32) (S.2.2 j6)) (fh_let (fh_sJ h5 j6 (Int32.toNatClampNeg (1 : Int32)) (Int32.toInt64 x2)) (fun h10 => fh_b1 (h10.2.2 a 13) (fun j11 => fh_ck (fh_kq S j11 14) (fh_ck (fh_in (2 : Int32) (S.2.2 j11)) (fh_let (fh_sJ h10 j11 (Int32.toNatClampNeg (2 : Int32)) (Int32.toInt64 x3)) (fun h15 => fh_b1 (h15.2.2 a 13) (fun j16 => fh_ck (fh_kq S j16 14) (fh_ck (fh_in (3 : Int32) (S.2.2 j16)) (fh_let (fh_sJ h15 j16 (Int32.toNatClampNeg (3 : Int32)) (Int32.toInt64 x4)) (fun h20 => fh_b1 (h20.2.2 a 13) (fun j21 => fh_ck (fh_kq S j21 14) (fh_ck (fh_in (4 : Int32) (S.2.2 j21)) (fh_let (fh_sJ h20 j21 (Int32.toNatClampNeg (4 : Int32)) (Int32.toInt64 x5)) (fun h25 => fh_b1 (h25.2.2 a 13) (fun j26 => fh_ck (fh_kq S j26 14) (fh_ck (fh_in (5 : Int32) (S.2.2 j26)) (fh_let (fh_sJ h25 j26 (Int32.toNatClampNeg (5 : Int32)) (Int32.toInt64 x6)) (fun h30 => fh_b1 (h30.2.2 a 13) (fun j31 => fh_ck (fh_kq S j31 14) (fh_ck (fh_in (6 : Int32) (S.2.2 j31)) (fh_let (fh_sJ h30 j31 (Int32.toNatClampNeg (6 : Int32)) (Int32.toInt64 x7)) (fun h35 => fh_b1 (h35.2.2 a 13) (fun j36 => fh_ck (fh_kq S j36 14) (fh_ck (fh_in (7 : Int32) (S.2.2 j36)) (fh_let (fh_sJ h35 j36 (Int32.toNatClampNeg (7 : Int32)) (Int32.toInt64 x8)) (fun h40 => some h40))))))))))))))))))))))))))))))))
set_option maxHeartbeats 4000000 in
set_option maxRecDepth 100000 in
theorem k_X12_numbers {l : Launch} {S : fh_S} {g : fh_G} {h h' : fh_H} (hj : fh_inj S g) {a : Nat} {x1 : Int32} {x2 : Int32} {x3 : Int32} {x4 : Int32} {x5 : Int32} {x6 : Int32} {x7 : Int32} {x8 : Int32} (ha : fh_kq S a 12 = true) (hsp : z_X12_numbers S h a x1 x2 x3 x4 x5 x6 x7 x8 = some h') : fh_M l yX12_numbers cX12_numbers 9 none (fh_rm 1) S g [.ref (g.2.2 a), .int x1, .int x2, .int x3, .int x4, .int x5, .int x6, .int x7, .int x8] h none h' := by
  unfold z_X12_numbers at hsp
  refine fr_head (own := RX12) (by decide) rfl hj (Nat.le_of_ble_eq_true rfl) ?_
  intro p e s m below meth c ls C hr hlocks hR hl
  have hl : lv_has ls 9 [(0, .ref (g.2.2 a)), (1, .int x1), (2, .int x2), (3, .int x3), (4, .int x4), (5, .int x5), (6, .int x6), (7, .int x7), (8, .int x8)] := hl
  have hx := C.1.1
  have hb := C.1.2.1
  refine lv_aload_n hx hb dX12_numbers_0 rfl (lv_at hl 0 rfl) ?_
  obtain ⟨j1, hv2, hsp⟩ := fr_b1 hsp
  refine fr_getr C hR ha Fg_RX12_41 rfl hv2 dX12_numbers_1 ?_
  refine lv_iconst (v := 0) hx hb dX12_numbers_4 (by decide) ?_
  refine lv_iload_n hx hb dX12_numbers_5 rfl (lv_at hl 1 rfl) ?_
  refine lv_i2l hx hb dX12_numbers_6 rfl ?_
  obtain ⟨hk3, hsp⟩ := fr_ck hsp
  obtain ⟨hi4, hsp⟩ := fr_ck hsp
  refine fr_last C hR hk3 hi4 dX12_numbers_7 (fun H locs hR => ?_)
  obtain ⟨h5, eh5⟩ : ∃ z, z = fh_sJ h j1 (Int32.toNatClampNeg (0 : Int32)) (Int32.toInt64 x1) := ⟨_, rfl⟩
  rw [← eh5] at hR
  have hsp := fr_let eh5 hsp
  refine lv_aload_n hx hb dX12_numbers_8 rfl (lv_at hl 0 rfl) ?_
  obtain ⟨j6, hv7, hsp⟩ := fr_b1 hsp
  refine fr_getr C hR ha Fg_RX12_41 rfl hv7 dX12_numbers_9 ?_
  refine lv_iconst (v := 1) hx hb dX12_numbers_12 (by decide) ?_
  refine lv_iload_n hx hb dX12_numbers_13 rfl (lv_at hl 2 rfl) ?_
  refine lv_i2l hx hb dX12_numbers_14 rfl ?_
  obtain ⟨hk8, hsp⟩ := fr_ck hsp
  obtain ⟨hi9, hsp⟩ := fr_ck hsp
  refine fr_last C hR hk8 hi9 dX12_numbers_15 (fun H locs hR => ?_)
  obtain ⟨h10, eh10⟩ : ∃ z, z = fh_sJ h5 j6 (Int32.toNatClampNeg (1 : Int32)) (Int32.toInt64 x2) := ⟨_, rfl⟩
  rw [← eh10] at hR
  have hsp := fr_let eh10 hsp
  refine lv_aload_n hx hb dX12_numbers_16 rfl (lv_at hl 0 rfl) ?_
  obtain ⟨j11, hv12, hsp⟩ := fr_b1 hsp
  refine fr_getr C hR ha Fg_RX12_41 rfl hv12 dX12_numbers_17 ?_
  refine lv_iconst (v := 2) hx hb dX12_numbers_20 (by decide) ?_
  refine lv_iload_n hx hb dX12_numbers_21 rfl (lv_at hl 3 rfl) ?_
  refine lv_i2l hx hb dX12_numbers_22 rfl ?_
  obtain ⟨hk13, hsp⟩ := fr_ck hsp
  obtain ⟨hi14, hsp⟩ := fr_ck hsp
  refine fr_last C hR hk13 hi14 dX12_numbers_23 (fun H locs hR => ?_)
  obtain ⟨h15, eh15⟩ : ∃ z, z = fh_sJ h10 j11 (Int32.toNatClampNeg (2 : Int32)) (Int32.toInt64 x3) := ⟨_, rfl⟩
  rw [← eh15] at hR
  have hsp := fr_let eh15 hsp
  refine lv_aload_n hx hb dX12_numbers_24 rfl (lv_at hl 0 rfl) ?_
  obtain ⟨j16, hv17, hsp⟩ := fr_b1 hsp
  refine fr_getr C hR ha Fg_RX12_41 rfl hv17 dX12_numbers_25 ?_
  refine lv_iconst (v := 3) hx hb dX12_numbers_28 (by decide) ?_
  refine lv_iload hx hb dX12_numbers_29 (lv_at hl 4 rfl) ?_
  refine lv_i2l hx hb dX12_numbers_31 rfl ?_
  obtain ⟨hk18, hsp⟩ := fr_ck hsp
  obtain ⟨hi19, hsp⟩ := fr_ck hsp
  refine fr_last C hR hk18 hi19 dX12_numbers_32 (fun H locs hR => ?_)
  obtain ⟨h20, eh20⟩ : ∃ z, z = fh_sJ h15 j16 (Int32.toNatClampNeg (3 : Int32)) (Int32.toInt64 x4) := ⟨_, rfl⟩
  rw [← eh20] at hR
  have hsp := fr_let eh20 hsp
  refine lv_aload_n hx hb dX12_numbers_33 rfl (lv_at hl 0 rfl) ?_
  obtain ⟨j21, hv22, hsp⟩ := fr_b1 hsp
  refine fr_getr C hR ha Fg_RX12_41 rfl hv22 dX12_numbers_34 ?_
  refine lv_iconst (v := 4) hx hb dX12_numbers_37 (by decide) ?_
  refine lv_iload hx hb dX12_numbers_38 (lv_at hl 5 rfl) ?_
  refine lv_i2l hx hb dX12_numbers_40 rfl ?_
  obtain ⟨hk23, hsp⟩ := fr_ck hsp
  obtain ⟨hi24, hsp⟩ := fr_ck hsp
  refine fr_last C hR hk23 hi24 dX12_numbers_41 (fun H locs hR => ?_)
  obtain ⟨h25, eh25⟩ : ∃ z, z = fh_sJ h20 j21 (Int32.toNatClampNeg (4 : Int32)) (Int32.toInt64 x5) := ⟨_, rfl⟩
  rw [← eh25] at hR
  have hsp := fr_let eh25 hsp
  refine lv_aload_n hx hb dX12_numbers_42 rfl (lv_at hl 0 rfl) ?_
  obtain ⟨j26, hv27, hsp⟩ := fr_b1 hsp
  refine fr_getr C hR ha Fg_RX12_41 rfl hv27 dX12_numbers_43 ?_
  refine lv_iconst (v := 5) hx hb dX12_numbers_46 (by decide) ?_
  refine lv_iload hx hb dX12_numbers_47 (lv_at hl 6 rfl) ?_
  refine lv_i2l hx hb dX12_numbers_49 rfl ?_
  obtain ⟨hk28, hsp⟩ := fr_ck hsp
  obtain ⟨hi29, hsp⟩ := fr_ck hsp
  refine fr_last C hR hk28 hi29 dX12_numbers_50 (fun H locs hR => ?_)
  obtain ⟨h30, eh30⟩ : ∃ z, z = fh_sJ h25 j26 (Int32.toNatClampNeg (5 : Int32)) (Int32.toInt64 x6) := ⟨_, rfl⟩
  rw [← eh30] at hR
  have hsp := fr_let eh30 hsp
  refine lv_aload_n hx hb dX12_numbers_51 rfl (lv_at hl 0 rfl) ?_
  obtain ⟨j31, hv32, hsp⟩ := fr_b1 hsp
  refine fr_getr C hR ha Fg_RX12_41 rfl hv32 dX12_numbers_52 ?_
  refine lv_bipush (v := 6) hx hb dX12_numbers_55 (by decide) ?_
  refine lv_iload hx hb dX12_numbers_57 (lv_at hl 7 rfl) ?_
  refine lv_i2l hx hb dX12_numbers_59 rfl ?_
  obtain ⟨hk33, hsp⟩ := fr_ck hsp
  obtain ⟨hi34, hsp⟩ := fr_ck hsp
  refine fr_last C hR hk33 hi34 dX12_numbers_60 (fun H locs hR => ?_)
  obtain ⟨h35, eh35⟩ : ∃ z, z = fh_sJ h30 j31 (Int32.toNatClampNeg (6 : Int32)) (Int32.toInt64 x7) := ⟨_, rfl⟩
  rw [← eh35] at hR
  have hsp := fr_let eh35 hsp
  refine lv_aload_n hx hb dX12_numbers_61 rfl (lv_at hl 0 rfl) ?_
  obtain ⟨j36, hv37, hsp⟩ := fr_b1 hsp
  refine fr_getr C hR ha Fg_RX12_41 rfl hv37 dX12_numbers_62 ?_
  refine lv_bipush (v := 7) hx hb dX12_numbers_65 (by decide) ?_
  refine lv_iload hx hb dX12_numbers_67 (lv_at hl 8 rfl) ?_
  refine lv_i2l hx hb dX12_numbers_69 rfl ?_
  obtain ⟨hk38, hsp⟩ := fr_ck hsp
  obtain ⟨hi39, hsp⟩ := fr_ck hsp
  refine fr_last C hR hk38 hi39 dX12_numbers_70 (fun H locs hR => ?_)
  obtain ⟨h40, eh40⟩ : ∃ z, z = fh_sJ h35 j36 (Int32.toNatClampNeg (7 : Int32)) (Int32.toInt64 x8) := ⟨_, rfl⟩
  rw [← eh40] at hR
  have hsp := fr_let eh40 hsp
  exact fr_vret C hr hlocks hR (fr_s1 hsp) dX12_numbers_71

/-! TermRowsModel.hasEnded()Z -/
def z_X12_hasEnded (S : fh_S) (h : fh_H) (a : Nat) : Option Int32 :=
    if (h.1 a 17) = 0 then (some (0 : Int32)) else (if (h.1 a 18) = 0 then (some (0 : Int32)) else (fh_b1 (h.2.2 a 13) (fun j3 => fh_ck (fh_kq S j3 14) (fh_ck (fh_in (4 : Int32) (S.2.2 j3)) (if (h.2.1 j3 (Int32.toNatClampNeg (4 : Int32))) = (0 : Int64) then (some (1 : Int32)) else (some (0 : Int32)))))))
set_option maxHeartbeats 4000000 in
set_option maxRecDepth 100000 in
theorem k_X12_hasEnded {l : Launch} {S : fh_S} {g : fh_G} {h : fh_H} (hj : fh_inj S g) {a : Nat} {r : Int32} (ha : fh_kq S a 12 = true) (hsp : z_X12_hasEnded S h a = some r) : fh_M l yX12_hasEnded cX12_hasEnded 1 (some .boolean) (fh_rm 1) S g [.ref (g.2.2 a)] h (some (.int r)) h := by
  unfold z_X12_hasEnded at hsp
  refine fr_head (own := RX12) (by decide) rfl hj (Nat.le_of_ble_eq_true rfl) ?_
  intro p e s m below meth c ls C hr hlocks hR hl
  have hl : lv_has ls 1 [(0, .ref (g.2.2 a))] := hl
  have hx := C.1.1
  have hb := C.1.2.1
  refine lv_aload_n hx hb dX12_hasEnded_0 rfl (lv_at hl 0 rfl) ?_
  refine fr_geti C hR ha Fg_RX12_158 rfl dX12_hasEnded_1 ?_
  refine lv_if_eq (tgt := 29) hx hb dX12_hasEnded_4 (by decide) (fun c1 => ?_) (fun c1 => ?_)
  · rw [if_pos c1] at hsp
    refine lv_iconst (v := 0) hx hb dX12_hasEnded_29 (by decide) ?_
    have e1 := fr_s1 hsp
    exact fr_zret C hr hlocks hR (Or.inl rfl) e1 rfl dX12_hasEnded_30
  · rw [if_neg c1] at hsp
    refine lv_aload_n hx hb dX12_hasEnded_7 rfl (lv_at hl 0 rfl) ?_
    refine fr_geti C hR ha Fg_RX12_161 rfl dX12_hasEnded_8 ?_
    refine lv_if_eq (tgt := 29) hx hb dX12_hasEnded_11 (by decide) (fun c2 => ?_) (fun c2 => ?_)
    · rw [if_pos c2] at hsp
      refine lv_iconst (v := 0) hx hb dX12_hasEnded_29 (by decide) ?_
      have e1 := fr_s1 hsp
      exact fr_zret C hr hlocks hR (Or.inl rfl) e1 rfl dX12_hasEnded_30
    · rw [if_neg c2] at hsp
      refine lv_aload_n hx hb dX12_hasEnded_14 rfl (lv_at hl 0 rfl) ?_
      obtain ⟨j3, hv4, hsp⟩ := fr_b1 hsp
      refine fr_getr C hR ha Fg_RX12_41 rfl hv4 dX12_hasEnded_15 ?_
      refine lv_iconst (v := 4) hx hb dX12_hasEnded_18 (by decide) ?_
      obtain ⟨hk5, hsp⟩ := fr_ck hsp
      obtain ⟨hi6, hsp⟩ := fr_ck hsp
      refine fr_lald C hR hk5 hi6 dX12_hasEnded_19 ?_
      refine lv_lconst (v := 0) hx hb dX12_hasEnded_20 (by decide) ?_
      refine fr_lc_ne (tgt := 29) hx hb dX12_hasEnded_21 dX12_hasEnded_22 (by decide) (fun c7 => ?_) (fun c7 => ?_)
      · rw [if_neg c7] at hsp
        refine lv_iconst (v := 0) hx hb dX12_hasEnded_29 (by decide) ?_
        have e1 := fr_s1 hsp
        exact fr_zret C hr hlocks hR (Or.inl rfl) e1 rfl dX12_hasEnded_30
      · rw [if_pos c7] at hsp
        refine lv_iconst (v := 1) hx hb dX12_hasEnded_25 (by decide) ?_
        refine lv_goto (tgt := 30) hx hb dX12_hasEnded_26 (by decide) ?_
        have e1 := fr_s1 hsp
        exact fr_zret C hr hlocks hR (Or.inr rfl) e1 rfl dX12_hasEnded_30

/-! TermRowsModel.mayBeSure()Z -/
def z_X12_mayBeSure_b19 (S : fh_S) (a : Nat) (h : fh_H) (t0 : Int32) : Option Int32 :=
    if t0 = 0 then (some (0 : Int32)) else (if (h.1 a 15) = 0 then (some (1 : Int32)) else (if (h.1 a 18) = 0 then (if (h.1 a 23) ≤ 0 then (some (0 : Int32)) else (some (1 : Int32))) else (some (1 : Int32))))
def z_X12_mayBeSure (S : fh_S) (h : fh_H) (a : Nat) : Option Int32 :=
    if (h.1 a 17) = 0 then (if (h.1 a 22) ≤ 0 then (z_X12_mayBeSure_b19 S a h (0 : Int32)) else (z_X12_mayBeSure_b19 S a h (1 : Int32))) else (z_X12_mayBeSure_b19 S a h (1 : Int32))
set_option maxHeartbeats 4000000 in
set_option maxRecDepth 100000 in
theorem k_X12_mayBeSure {l : Launch} {S : fh_S} {g : fh_G} {h : fh_H} (hj : fh_inj S g) {a : Nat} {r : Int32} (ha : fh_kq S a 12 = true) (hsp : z_X12_mayBeSure S h a = some r) : fh_M l yX12_mayBeSure cX12_mayBeSure 2 (some .boolean) (fh_rm 1) S g [.ref (g.2.2 a)] h (some (.int r)) h := by
  unfold z_X12_mayBeSure at hsp
  refine fr_head (own := RX12) (by decide) rfl hj (Nat.le_of_ble_eq_true rfl) ?_
  intro p e s m below meth c ls C hr hlocks hR hl
  have hl : lv_has ls 2 [(0, .ref (g.2.2 a))] := hl
  have hx := C.1.1
  have hb := C.1.2.1
  have hb_19 : ∀ (t0 : Int32) (H : Heap) (locs : List Loc) (ls : Array Slot), z_X12_mayBeSure_b19 S a h t0 = some r → fh_R S g s.heap h H locs → lv_has ls 2 [(0, .ref (g.2.2 a))] → fh_Wk p l e 1 s m [.ref (g.2.2 a)] below meth c S g (some (.int r)) h H locs (F0 m 19 ls [.int t0]) := by
    intro t0 H locs ls hsp hR hl
    unfold z_X12_mayBeSure_b19 at hsp
    refine lv_istore_n (lv' := [(1, .int t0), (0, .ref (g.2.2 a))]) hx hb dX12_mayBeSure_19 rfl hl (by decide) rfl (fun ls hl => ?_)
    refine lv_iload_n hx hb dX12_mayBeSure_20 rfl (lv_at hl 0 rfl) ?_
    refine lv_if_eq (tgt := 49) hx hb dX12_mayBeSure_21 (by decide) (fun c1 => ?_) (fun c1 => ?_)
    · rw [if_pos c1] at hsp
      refine lv_iconst (v := 0) hx hb dX12_mayBeSure_49 (by decide) ?_
      have e1 := fr_s1 hsp
      exact fr_zret C hr hlocks hR (Or.inl rfl) e1 rfl dX12_mayBeSure_50
    · rw [if_neg c1] at hsp
      refine lv_aload_n hx hb dX12_mayBeSure_24 rfl (lv_at hl 1 rfl) ?_
      refine fr_geti C hR ha Fg_RX12_155 rfl dX12_mayBeSure_25 ?_
      refine lv_if_eq (tgt := 45) hx hb dX12_mayBeSure_28 (by decide) (fun c2 => ?_) (fun c2 => ?_)
      · rw [if_pos c2] at hsp
        refine lv_iconst (v := 1) hx hb dX12_mayBeSure_45 (by decide) ?_
        refine lv_goto (tgt := 50) hx hb dX12_mayBeSure_46 (by decide) ?_
        have e1 := fr_s1 hsp
        exact fr_zret C hr hlocks hR (Or.inr rfl) e1 rfl dX12_mayBeSure_50
      · rw [if_neg c2] at hsp
        refine lv_aload_n hx hb dX12_mayBeSure_31 rfl (lv_at hl 1 rfl) ?_
        refine fr_geti C hR ha Fg_RX12_161 rfl dX12_mayBeSure_32 ?_
        refine lv_if_ne (tgt := 45) hx hb dX12_mayBeSure_35 (by decide) (fun c3 => ?_) (fun c3 => ?_)
        · rw [if_neg c3] at hsp
          refine lv_iconst (v := 1) hx hb dX12_mayBeSure_45 (by decide) ?_
          refine lv_goto (tgt := 50) hx hb dX12_mayBeSure_46 (by decide) ?_
          have e1 := fr_s1 hsp
          exact fr_zret C hr hlocks hR (Or.inr rfl) e1 rfl dX12_mayBeSure_50
        · rw [if_pos c3] at hsp
          refine lv_aload_n hx hb dX12_mayBeSure_38 rfl (lv_at hl 1 rfl) ?_
          refine fr_geti C hR ha Fg_RX12_170 rfl dX12_mayBeSure_39 ?_
          refine lv_if_le (tgt := 49) hx hb dX12_mayBeSure_42 (by decide) (fun c4 => ?_) (fun c4 => ?_)
          · rw [if_pos c4] at hsp
            refine lv_iconst (v := 0) hx hb dX12_mayBeSure_49 (by decide) ?_
            have e1 := fr_s1 hsp
            exact fr_zret C hr hlocks hR (Or.inl rfl) e1 rfl dX12_mayBeSure_50
          · rw [if_neg c4] at hsp
            refine lv_iconst (v := 1) hx hb dX12_mayBeSure_45 (by decide) ?_
            refine lv_goto (tgt := 50) hx hb dX12_mayBeSure_46 (by decide) ?_
            have e1 := fr_s1 hsp
            exact fr_zret C hr hlocks hR (Or.inr rfl) e1 rfl dX12_mayBeSure_50
  refine lv_aload_n hx hb dX12_mayBeSure_0 rfl (lv_at hl 0 rfl) ?_
  refine fr_geti C hR ha Fg_RX12_158 rfl dX12_mayBeSure_1 ?_
  refine lv_if_ne (tgt := 14) hx hb dX12_mayBeSure_4 (by decide) (fun c1 => ?_) (fun c1 => ?_)
  · rw [if_neg c1] at hsp
    refine lv_iconst (v := 1) hx hb dX12_mayBeSure_14 (by decide) ?_
    refine lv_goto (tgt := 19) hx hb dX12_mayBeSure_15 (by decide) ?_
    exact hb_19 (1 : Int32) _ _ _ hsp hR (lv_sub hl [0] rfl)
  · rw [if_pos c1] at hsp
    refine lv_aload_n hx hb dX12_mayBeSure_7 rfl (lv_at hl 0 rfl) ?_
    refine fr_geti C hR ha Fg_RX12_167 rfl dX12_mayBeSure_8 ?_
    refine lv_if_le (tgt := 18) hx hb dX12_mayBeSure_11 (by decide) (fun c2 => ?_) (fun c2 => ?_)
    · rw [if_pos c2] at hsp
      refine lv_iconst (v := 0) hx hb dX12_mayBeSure_18 (by decide) ?_
      exact hb_19 (0 : Int32) _ _ _ hsp hR (lv_sub hl [0] rfl)
    · rw [if_neg c2] at hsp
      refine lv_iconst (v := 1) hx hb dX12_mayBeSure_14 (by decide) ?_
      refine lv_goto (tgt := 19) hx hb dX12_mayBeSure_15 (by decide) ?_
      exact hb_19 (1 : Int32) _ _ _ hsp hR (lv_sub hl [0] rfl)

/-! TermRowsModel.haveOneSign(JJ)Z -/
def z_X12_haveOneSign_b12 (y0 : Int64) (y2 : Int64) : Option Int32 :=
    if (0 : Int64) ≤ y0 then (some (0 : Int32)) else (if (0 : Int64) ≤ y2 then (some (0 : Int32)) else (some (1 : Int32)))
def z_X12_haveOneSign (x0 : Int64) (x2 : Int64) : Option Int32 :=
    if x0 ≤ (0 : Int64) then (z_X12_haveOneSign_b12 x0 x2) else (if (0 : Int64) < x2 then (some (1 : Int32)) else (z_X12_haveOneSign_b12 x0 x2))
set_option maxHeartbeats 4000000 in
set_option maxRecDepth 100000 in
theorem k_X12_haveOneSign {l : Launch} {S : fh_S} {g : fh_G} {h : fh_H} (hj : fh_inj S g) {x0 : Int64} {x2 : Int64} {r : Int32} (hsp : z_X12_haveOneSign x0 x2 = some r) : fh_M l yX12_haveOneSign cX12_haveOneSign 4 (some .boolean) (fh_rm 1) S g [.long x0, .long x2] h (some (.int r)) h := by
  unfold z_X12_haveOneSign at hsp
  refine fr_head (own := RX12) (by decide) rfl hj (Nat.le_of_ble_eq_true rfl) ?_
  intro p e s m below meth c ls C hr hlocks hR hl
  have hl : lv_has ls 4 [(0, .long x0), (2, .long x2)] := hl
  have hx := C.1.1
  have hb := C.1.2.1
  have hb_12 : ∀ (y0 : Int64) (y2 : Int64) (H : Heap) (locs : List Loc) (ls : Array Slot), z_X12_haveOneSign_b12 y0 y2 = some r → fh_R S g s.heap h H locs → lv_has ls 4 [(0, .long y0), (2, .long y2)] → fh_Wk p l e 1 s m [.long x0, .long x2] below meth c S g (some (.int r)) h H locs (F0 m 12 ls []) := by
    intro y0 y2 H locs ls hsp hR hl
    unfold z_X12_haveOneSign_b12 at hsp
    refine lv_lload_n hx hb dX12_haveOneSign_12 rfl (lv_at hl 0 rfl) ?_
    refine lv_lconst (v := 0) hx hb dX12_haveOneSign_13 (by decide) ?_
    refine fr_lc_ge (tgt := 28) hx hb dX12_haveOneSign_14 dX12_haveOneSign_15 (by decide) (fun c1 => ?_) (fun c1 => ?_)
    · rw [if_pos c1] at hsp
      refine lv_iconst (v := 0) hx hb dX12_haveOneSign_28 (by decide) ?_
      have e1 := fr_s1 hsp
      exact fr_zret C hr hlocks hR (Or.inl rfl) e1 rfl dX12_haveOneSign_29
    · rw [if_neg c1] at hsp
      refine lv_lload_n hx hb dX12_haveOneSign_18 rfl (lv_at hl 1 rfl) ?_
      refine lv_lconst (v := 0) hx hb dX12_haveOneSign_19 (by decide) ?_
      refine fr_lc_ge (tgt := 28) hx hb dX12_haveOneSign_20 dX12_haveOneSign_21 (by decide) (fun c2 => ?_) (fun c2 => ?_)
      · rw [if_pos c2] at hsp
        refine lv_iconst (v := 0) hx hb dX12_haveOneSign_28 (by decide) ?_
        have e1 := fr_s1 hsp
        exact fr_zret C hr hlocks hR (Or.inl rfl) e1 rfl dX12_haveOneSign_29
      · rw [if_neg c2] at hsp
        refine lv_iconst (v := 1) hx hb dX12_haveOneSign_24 (by decide) ?_
        refine lv_goto (tgt := 29) hx hb dX12_haveOneSign_25 (by decide) ?_
        have e1 := fr_s1 hsp
        exact fr_zret C hr hlocks hR (Or.inr rfl) e1 rfl dX12_haveOneSign_29
  refine lv_lload_n hx hb dX12_haveOneSign_0 rfl (lv_at hl 0 rfl) ?_
  refine lv_lconst (v := 0) hx hb dX12_haveOneSign_1 (by decide) ?_
  refine fr_lc_le (tgt := 12) hx hb dX12_haveOneSign_2 dX12_haveOneSign_3 (by decide) (fun c1 => ?_) (fun c1 => ?_)
  · rw [if_pos c1] at hsp
    exact hb_12 x0 x2 _ _ _ hsp hR (lv_sub hl [0, 1] rfl)
  · rw [if_neg c1] at hsp
    refine lv_lload_n hx hb dX12_haveOneSign_6 rfl (lv_at hl 1 rfl) ?_
    refine lv_lconst (v := 0) hx hb dX12_haveOneSign_7 (by decide) ?_
    refine fr_lc_gt (tgt := 24) hx hb dX12_haveOneSign_8 dX12_haveOneSign_9 (by decide) (fun c2 => ?_) (fun c2 => ?_)
    · rw [if_pos c2] at hsp
      refine lv_iconst (v := 1) hx hb dX12_haveOneSign_24 (by decide) ?_
      refine lv_goto (tgt := 29) hx hb dX12_haveOneSign_25 (by decide) ?_
      have e1 := fr_s1 hsp
      exact fr_zret C hr hlocks hR (Or.inr rfl) e1 rfl dX12_haveOneSign_29
    · rw [if_neg c2] at hsp
      exact hb_12 x0 x2 _ _ _ hsp hR (lv_sub hl [0, 1] rfl)

/-! TermRowsModel.corner(II)J -/
def z_X12_corner_b49 (S : fh_S) (a : Nat) (h : fh_H) (y1 : Int32) (y2 : Int32) (y3 : Int64) : Option Int64 :=
    if y2 = (3 : Int32) then (fh_b1 (h.2.2 a 13) (fun j2 => fh_ck (fh_kq S j2 14) (fh_ck (fh_in (y1 + (3 : Int32)) (S.2.2 j2)) (some (y3 + (h.2.1 j2 (Int32.toNatClampNeg (y1 + (3 : Int32))))))))) else (some y3)
def z_X12_corner_b38 (S : fh_S) (a : Nat) (h : fh_H) (y1 : Int32) (y2 : Int32) (y3 : Int64) : Option Int64 :=
    fh_b1 (h.2.2 a 13) (fun j1 => fh_ck (fh_kq S j1 14) (fh_ck (fh_in (y1 + (2 : Int32)) (S.2.2 j1)) (fh_let ((y3 + (h.2.1 j1 (Int32.toNatClampNeg (y1 + (2 : Int32)))))) (fun v5 => z_X12_corner_b49 S a h y1 y2 v5))))
def z_X12_corner_b17 (S : fh_S) (a : Nat) (h : fh_H) (y1 : Int32) (y2 : Int32) (y3 : Int64) : Option Int64 :=
    fh_b1 (h.2.2 a 13) (fun j1 => fh_ck (fh_kq S j1 14) (fh_ck (fh_in (y1 + (1 : Int32)) (S.2.2 j1)) (fh_let ((y3 + (h.2.1 j1 (Int32.toNatClampNeg (y1 + (1 : Int32)))))) (fun v5 => if y2 = (2 : Int32) then (z_X12_corner_b38 S a h y1 y2 v5) else (if y2 = (3 : Int32) then (z_X12_corner_b38 S a h y1 y2 v5) else (z_X12_corner_b49 S a h y1 y2 v5))))))
def z_X12_corner (S : fh_S) (h : fh_H) (a : Nat) (x1 : Int32) (x2 : Int32) : Option Int64 :=
    fh_b1 (h.2.2 a 13) (fun j1 => fh_ck (fh_kq S j1 14) (fh_ck (fh_in x1 (S.2.2 j1)) (fh_let ((h.2.1 j1 (Int32.toNatClampNeg x1))) (fun v5 => if x2 = (1 : Int32) then (z_X12_corner_b17 S a h x1 x2 v5) else (if x2 = (3 : Int32) then (z_X12_corner_b17 S a h x1 x2 v5) else (if x2 = (2 : Int32) then (z_X12_corner_b38 S a h x1 x2 v5) else (if x2 = (3 : Int32) then (z_X12_corner_b38 S a h x1 x2 v5) else (z_X12_corner_b49 S a h x1 x2 v5))))))))
set_option maxHeartbeats 4000000 in
set_option maxRecDepth 100000 in
theorem k_X12_corner {l : Launch} {S : fh_S} {g : fh_G} {h : fh_H} (hj : fh_inj S g) {a : Nat} {x1 : Int32} {x2 : Int32} {r : Int64} (ha : fh_kq S a 12 = true) (hsp : z_X12_corner S h a x1 x2 = some r) : fh_M l yX12_corner cX12_corner 5 (some .long) (fh_rm 1) S g [.ref (g.2.2 a), .int x1, .int x2] h (some (.long r)) h := by
  unfold z_X12_corner at hsp
  refine fr_head (own := RX12) (by decide) rfl hj (Nat.le_of_ble_eq_true rfl) ?_
  intro p e s m below meth c ls C hr hlocks hR hl
  have hl : lv_has ls 5 [(0, .ref (g.2.2 a)), (1, .int x1), (2, .int x2)] := hl
  have hx := C.1.1
  have hb := C.1.2.1
  have hb_49 : ∀ (y1 : Int32) (y2 : Int32) (y3 : Int64) (H : Heap) (locs : List Loc) (ls : Array Slot), z_X12_corner_b49 S a h y1 y2 y3 = some r → fh_R S g s.heap h H locs → lv_has ls 5 [(0, .ref (g.2.2 a)), (1, .int y1), (2, .int y2), (3, .long y3)] → fh_Wk p l e 1 s m [.ref (g.2.2 a), .int x1, .int x2] below meth c S g (some (.long r)) h H locs (F0 m 49 ls []) := by
    intro y1 y2 y3 H locs ls hsp hR hl
    unfold z_X12_corner_b49 at hsp
    refine lv_iload_n hx hb dX12_corner_49 rfl (lv_at hl 2 rfl) ?_
    refine lv_iconst (v := 3) hx hb dX12_corner_50 (by decide) ?_
    refine lv_icmp_ne (tgt := 67) hx hb dX12_corner_51 (by decide) (fun c1 => ?_) (fun c1 => ?_)
    · rw [if_neg c1] at hsp
      refine lv_lload_n hx hb dX12_corner_67 rfl (lv_at hl 3 rfl) ?_
      have e1 := fr_s1 hsp
      exact fr_lret C hr hlocks hR e1 rfl dX12_corner_68
    · rw [if_pos c1] at hsp
      refine lv_lload_n hx hb dX12_corner_54 rfl (lv_at hl 3 rfl) ?_
      refine lv_aload_n hx hb dX12_corner_55 rfl (lv_at hl 0 rfl) ?_
      obtain ⟨j2, hv3, hsp⟩ := fr_b1 hsp
      refine fr_getr C hR ha Fg_RX12_41 rfl hv3 dX12_corner_56 ?_
      refine lv_iload_n hx hb dX12_corner_59 rfl (lv_at hl 1 rfl) ?_
      refine lv_iconst (v := 3) hx hb dX12_corner_60 (by decide) ?_
      refine lv_iadd hx hb dX12_corner_61 ?_
      obtain ⟨hk4, hsp⟩ := fr_ck hsp
      obtain ⟨hi5, hsp⟩ := fr_ck hsp
      refine fr_lald C hR hk4 hi5 dX12_corner_62 ?_
      refine lv_ladd hx hb dX12_corner_63 ?_
      refine lv_goto (tgt := 68) hx hb dX12_corner_64 (by decide) ?_
      have e1 := fr_s1 hsp
      exact fr_lret C hr hlocks hR e1 rfl dX12_corner_68
  have hb_38 : ∀ (y1 : Int32) (y2 : Int32) (y3 : Int64) (H : Heap) (locs : List Loc) (ls : Array Slot), z_X12_corner_b38 S a h y1 y2 y3 = some r → fh_R S g s.heap h H locs → lv_has ls 5 [(0, .ref (g.2.2 a)), (1, .int y1), (2, .int y2), (3, .long y3)] → fh_Wk p l e 1 s m [.ref (g.2.2 a), .int x1, .int x2] below meth c S g (some (.long r)) h H locs (F0 m 38 ls []) := by
    intro y1 y2 y3 H locs ls hsp hR hl
    unfold z_X12_corner_b38 at hsp
    refine lv_lload_n hx hb dX12_corner_38 rfl (lv_at hl 3 rfl) ?_
    refine lv_aload_n hx hb dX12_corner_39 rfl (lv_at hl 0 rfl) ?_
    obtain ⟨j1, hv2, hsp⟩ := fr_b1 hsp
    refine fr_getr C hR ha Fg_RX12_41 rfl hv2 dX12_corner_40 ?_
    refine lv_iload_n hx hb dX12_corner_43 rfl (lv_at hl 1 rfl) ?_
    refine lv_iconst (v := 2) hx hb dX12_corner_44 (by decide) ?_
    refine lv_iadd hx hb dX12_corner_45 ?_
    obtain ⟨hk3, hsp⟩ := fr_ck hsp
    obtain ⟨hi4, hsp⟩ := fr_ck hsp
    refine fr_lald C hR hk3 hi4 dX12_corner_46 ?_
    refine lv_ladd hx hb dX12_corner_47 ?_
    refine lv_topl (fun v5 ev5 => ?_)
    have hsp := fr_let ev5 hsp
    refine lv_lstore_n (lv' := [(3, .long v5), (0, .ref (g.2.2 a)), (1, .int y1), (2, .int y2)]) hx hb dX12_corner_48 rfl hl (by decide) rfl (fun ls hl => ?_)
    exact hb_49 y1 y2 v5 _ _ _ hsp hR (lv_sub hl [1, 2, 3, 0] rfl)
  have hb_17 : ∀ (y1 : Int32) (y2 : Int32) (y3 : Int64) (H : Heap) (locs : List Loc) (ls : Array Slot), z_X12_corner_b17 S a h y1 y2 y3 = some r → fh_R S g s.heap h H locs → lv_has ls 5 [(0, .ref (g.2.2 a)), (1, .int y1), (2, .int y2), (3, .long y3)] → fh_Wk p l e 1 s m [.ref (g.2.2 a), .int x1, .int x2] below meth c S g (some (.long r)) h H locs (F0 m 17 ls []) := by
    intro y1 y2 y3 H locs ls hsp hR hl
    unfold z_X12_corner_b17 at hsp
    refine lv_lload_n hx hb dX12_corner_17 rfl (lv_at hl 3 rfl) ?_
    refine lv_aload_n hx hb dX12_corner_18 rfl (lv_at hl 0 rfl) ?_
    obtain ⟨j1, hv2, hsp⟩ := fr_b1 hsp
    refine fr_getr C hR ha Fg_RX12_41 rfl hv2 dX12_corner_19 ?_
    refine lv_iload_n hx hb dX12_corner_22 rfl (lv_at hl 1 rfl) ?_
    refine lv_iconst (v := 1) hx hb dX12_corner_23 (by decide) ?_
    refine lv_iadd hx hb dX12_corner_24 ?_
    obtain ⟨hk3, hsp⟩ := fr_ck hsp
    obtain ⟨hi4, hsp⟩ := fr_ck hsp
    refine fr_lald C hR hk3 hi4 dX12_corner_25 ?_
    refine lv_ladd hx hb dX12_corner_26 ?_
    refine lv_topl (fun v5 ev5 => ?_)
    have hsp := fr_let ev5 hsp
    refine lv_lstore_n (lv' := [(3, .long v5), (0, .ref (g.2.2 a)), (1, .int y1), (2, .int y2)]) hx hb dX12_corner_27 rfl hl (by decide) rfl (fun ls hl => ?_)
    refine lv_iload_n hx hb dX12_corner_28 rfl (lv_at hl 3 rfl) ?_
    refine lv_iconst (v := 2) hx hb dX12_corner_29 (by decide) ?_
    refine lv_icmp_eq (tgt := 38) hx hb dX12_corner_30 (by decide) (fun c6 => ?_) (fun c6 => ?_)
    · rw [if_pos c6] at hsp
      exact hb_38 y1 y2 v5 _ _ _ hsp hR (lv_sub hl [1, 2, 3, 0] rfl)
    · rw [if_neg c6] at hsp
      refine lv_iload_n hx hb dX12_corner_33 rfl (lv_at hl 3 rfl) ?_
      refine lv_iconst (v := 3) hx hb dX12_corner_34 (by decide) ?_
      refine lv_icmp_ne (tgt := 49) hx hb dX12_corner_35 (by decide) (fun c7 => ?_) (fun c7 => ?_)
      · rw [if_neg c7] at hsp
        exact hb_49 y1 y2 v5 _ _ _ hsp hR (lv_sub hl [1, 2, 3, 0] rfl)
      · rw [if_pos c7] at hsp
        exact hb_38 y1 y2 v5 _ _ _ hsp hR (lv_sub hl [1, 2, 3, 0] rfl)
  refine lv_aload_n hx hb dX12_corner_0 rfl (lv_at hl 0 rfl) ?_
  obtain ⟨j1, hv2, hsp⟩ := fr_b1 hsp
  refine fr_getr C hR ha Fg_RX12_41 rfl hv2 dX12_corner_1 ?_
  refine lv_iload_n hx hb dX12_corner_4 rfl (lv_at hl 1 rfl) ?_
  obtain ⟨hk3, hsp⟩ := fr_ck hsp
  obtain ⟨hi4, hsp⟩ := fr_ck hsp
  refine fr_lald C hR hk3 hi4 dX12_corner_5 ?_
  refine lv_topl (fun v5 ev5 => ?_)
  have hsp := fr_let ev5 hsp
  refine lv_lstore_n (lv' := [(3, .long v5), (0, .ref (g.2.2 a)), (1, .int x1), (2, .int x2)]) hx hb dX12_corner_6 rfl hl (by decide) rfl (fun ls hl => ?_)
  refine lv_iload_n hx hb dX12_corner_7 rfl (lv_at hl 3 rfl) ?_
  refine lv_iconst (v := 1) hx hb dX12_corner_8 (by decide) ?_
  refine lv_icmp_eq (tgt := 17) hx hb dX12_corner_9 (by decide) (fun c6 => ?_) (fun c6 => ?_)
  · rw [if_pos c6] at hsp
    exact hb_17 x1 x2 v5 _ _ _ hsp hR (lv_sub hl [1, 2, 3, 0] rfl)
  · rw [if_neg c6] at hsp
    refine lv_iload_n hx hb dX12_corner_12 rfl (lv_at hl 3 rfl) ?_
    refine lv_iconst (v := 3) hx hb dX12_corner_13 (by decide) ?_
    refine lv_icmp_ne (tgt := 28) hx hb dX12_corner_14 (by decide) (fun c7 => ?_) (fun c7 => ?_)
    · rw [if_neg c7] at hsp
      refine lv_iload_n hx hb dX12_corner_28 rfl (lv_at hl 3 rfl) ?_
      refine lv_iconst (v := 2) hx hb dX12_corner_29 (by decide) ?_
      refine lv_icmp_eq (tgt := 38) hx hb dX12_corner_30 (by decide) (fun c8 => ?_) (fun c8 => ?_)
      · rw [if_pos c8] at hsp
        exact hb_38 x1 x2 v5 _ _ _ hsp hR (lv_sub hl [1, 2, 3, 0] rfl)
      · rw [if_neg c8] at hsp
        refine lv_iload_n hx hb dX12_corner_33 rfl (lv_at hl 3 rfl) ?_
        refine lv_iconst (v := 3) hx hb dX12_corner_34 (by decide) ?_
        refine lv_icmp_ne (tgt := 49) hx hb dX12_corner_35 (by decide) (fun c9 => ?_) (fun c9 => ?_)
        · rw [if_neg c9] at hsp
          exact hb_49 x1 x2 v5 _ _ _ hsp hR (lv_sub hl [1, 2, 3, 0] rfl)
        · rw [if_pos c9] at hsp
          exact hb_38 x1 x2 v5 _ _ _ hsp hR (lv_sub hl [1, 2, 3, 0] rfl)
    · rw [if_pos c7] at hsp
      exact hb_17 x1 x2 v5 _ _ _ hsp hR (lv_sub hl [1, 2, 3, 0] rfl)

/-! TermRowsModel.corners()I -/
def z_X12_corners (S : fh_S) (h : fh_H) (a : Nat) : Option Int32 :=
    if (h.1 a 15) = 0 then (some (2 : Int32)) else (some (4 : Int32))
set_option maxHeartbeats 4000000 in
set_option maxRecDepth 100000 in
theorem k_X12_corners {l : Launch} {S : fh_S} {g : fh_G} {h : fh_H} (hj : fh_inj S g) {a : Nat} {r : Int32} (ha : fh_kq S a 12 = true) (hsp : z_X12_corners S h a = some r) : fh_M l yX12_corners cX12_corners 1 (some .int) (fh_rm 1) S g [.ref (g.2.2 a)] h (some (.int r)) h := by
  unfold z_X12_corners at hsp
  refine fr_head (own := RX12) (by decide) rfl hj (Nat.le_of_ble_eq_true rfl) ?_
  intro p e s m below meth c ls C hr hlocks hR hl
  have hl : lv_has ls 1 [(0, .ref (g.2.2 a))] := hl
  have hx := C.1.1
  have hb := C.1.2.1
  refine lv_aload_n hx hb dX12_corners_0 rfl (lv_at hl 0 rfl) ?_
  refine fr_geti C hR ha Fg_RX12_155 rfl dX12_corners_1 ?_
  refine lv_if_eq (tgt := 11) hx hb dX12_corners_4 (by decide) (fun c1 => ?_) (fun c1 => ?_)
  · rw [if_pos c1] at hsp
    refine lv_iconst (v := 2) hx hb dX12_corners_11 (by decide) ?_
    have e1 := fr_s1 hsp
    exact fr_iret C hr hlocks hR e1 rfl dX12_corners_12
  · rw [if_neg c1] at hsp
    refine lv_iconst (v := 4) hx hb dX12_corners_7 (by decide) ?_
    refine lv_goto (tgt := 12) hx hb dX12_corners_8 (by decide) ?_
    have e1 := fr_s1 hsp
    exact fr_iret C hr hlocks hR e1 rfl dX12_corners_12

/-! TermRowsModel.takesThen()V -/
def z_X12_takesThen_b2 (S : fh_S) (a : Nat) : Nat → fh_H → Int32 → Option fh_H
  | 0, _, _ => none
  | n + 1, h, y1 =>
    if (8 : Int32) ≤ y1 then (some h) else (fh_b1 (h.2.2 a 13) (fun j2 => fh_b1 (h.2.2 a 14) (fun j4 => fh_ck (fh_kq S j4 14) (fh_ck (fh_in y1 (S.2.2 j4)) (fh_ck (fh_kq S j2 14) (fh_ck (fh_in y1 (S.2.2 j2)) (fh_let (fh_sJ h j2 (Int32.toNatClampNeg y1) (h.2.1 j4 (Int32.toNatClampNeg y1))) (fun h10 => fh_let (y1 + 1) (fun v11 => z_X12_takesThen_b2 S a n h10 v11)))))))))
def z_X12_takesThen (S : fh_S) (h : fh_H) (a : Nat) : Option fh_H :=
    z_X12_takesThen_b2 S a 20000 h (0 : Int32)
set_option maxHeartbeats 4000000 in
set_option maxRecDepth 100000 in
theorem k_X12_takesThen {l : Launch} {S : fh_S} {g : fh_G} {h h' : fh_H} (hj : fh_inj S g) {a : Nat} (ha : fh_kq S a 12 = true) (hsp : z_X12_takesThen S h a = some h') : fh_M l yX12_takesThen cX12_takesThen 2 none (fh_rm 1) S g [.ref (g.2.2 a)] h none h' := by
  unfold z_X12_takesThen at hsp
  refine fr_head (own := RX12) (by decide) rfl hj (Nat.le_of_ble_eq_true rfl) ?_
  intro p e s m below meth c ls C hr hlocks hR hl
  have hl : lv_has ls 2 [(0, .ref (g.2.2 a))] := hl
  have hx := C.1.1
  have hb := C.1.2.1
  have hb_2 : ∀ (n : Nat) (h : fh_H) (y1 : Int32) (H : Heap) (locs : List Loc) (ls : Array Slot), z_X12_takesThen_b2 S a n h y1 = some h' → fh_R S g s.heap h H locs → lv_has ls 2 [(0, .ref (g.2.2 a)), (1, .int y1)] → fh_Wk p l e 1 s m [.ref (g.2.2 a)] below meth c S g none h' H locs (F0 m 2 ls []) := by
    intro n
    induction n with
    | zero => intro h y1 H locs ls hsp; cases hsp
    | succ n ih =>
      intro h y1 H locs ls hsp hR hl
      rw [z_X12_takesThen_b2] at hsp
      refine lv_iload_n hx hb dX12_takesThen_2 rfl (lv_at hl 1 rfl) ?_
      refine lv_bipush (v := 8) hx hb dX12_takesThen_3 (by decide) ?_
      refine lv_icmp_ge (tgt := 26) hx hb dX12_takesThen_5 (by decide) (fun c1 => ?_) (fun c1 => ?_)
      · rw [if_pos c1] at hsp
        exact fr_vret C hr hlocks hR (fr_s1 hsp) dX12_takesThen_26
      · rw [if_neg c1] at hsp
        refine lv_aload_n hx hb dX12_takesThen_8 rfl (lv_at hl 0 rfl) ?_
        obtain ⟨j2, hv3, hsp⟩ := fr_b1 hsp
        refine fr_getr C hR ha Fg_RX12_41 rfl hv3 dX12_takesThen_9 ?_
        refine lv_iload_n hx hb dX12_takesThen_12 rfl (lv_at hl 1 rfl) ?_
        refine lv_aload_n hx hb dX12_takesThen_13 rfl (lv_at hl 0 rfl) ?_
        obtain ⟨j4, hv5, hsp⟩ := fr_b1 hsp
        refine fr_getr C hR ha Fg_RX12_44 rfl hv5 dX12_takesThen_14 ?_
        refine lv_iload_n hx hb dX12_takesThen_17 rfl (lv_at hl 1 rfl) ?_
        obtain ⟨hk6, hsp⟩ := fr_ck hsp
        obtain ⟨hi7, hsp⟩ := fr_ck hsp
        refine fr_lald C hR hk6 hi7 dX12_takesThen_18 ?_
        obtain ⟨hk8, hsp⟩ := fr_ck hsp
        obtain ⟨hi9, hsp⟩ := fr_ck hsp
        refine fr_last C hR hk8 hi9 dX12_takesThen_19 (fun H locs hR => ?_)
        obtain ⟨h10, eh10⟩ : ∃ z, z = fh_sJ h j2 (Int32.toNatClampNeg y1) (h.2.1 j4 (Int32.toNatClampNeg y1)) := ⟨_, rfl⟩
        rw [← eh10] at hR
        have hsp := fr_let eh10 hsp
        obtain ⟨v11, ev11⟩ : ∃ z : Int32, z = y1 + 1 := ⟨_, rfl⟩
        have hsp := fr_let ev11 hsp
        refine lv_iinc (v := v11) (lv' := [(1, .int v11), (0, .ref (g.2.2 a))]) hx hb dX12_takesThen_20 hl (k := 1) rfl (by rw [ev11]; rfl) (by decide) rfl (fun ls hl => ?_)
        refine lv_goto (tgt := 2) hx hb dX12_takesThen_23 (by decide) ?_
        exact ih h10 v11 _ _ _ hsp hR (lv_sub hl [1, 0] rfl)
  refine lv_iconst (v := 0) hx hb dX12_takesThen_0 (by decide) ?_
  refine lv_istore_n (lv' := [(1, .int (0 : Int32)), (0, .ref (g.2.2 a))]) hx hb dX12_takesThen_1 rfl hl (by decide) rfl (fun ls hl => ?_)
  exact hb_2 20000 h (0 : Int32) _ _ _ hsp hR (lv_sub hl [1, 0] rfl)

/-! TermRowsModel.endsOne()V -/
def z_X12_endsOne_b2 (S : fh_S) (a : Nat) : Nat → fh_H → Int32 → Option fh_H
  | 0, _, _ => none
  | n + 1, h, y1 =>
    if (8 : Int32) ≤ y1 then (fh_let (fh_sI h a 17 (1 : Int32)) (fun h2 => some h2)) else (if (h.1 a 15) = 0 then (fh_b1 (h.2.2 a 13) (fun j4 => fh_ck (fh_kq S j4 14) (fh_ck (fh_in y1 (S.2.2 j4)) (fh_ck (fh_in (y1 + (1 : Int32)) (S.2.2 j4)) (fh_let (fh_sJ h j4 (Int32.toNatClampNeg (y1 + (1 : Int32))) (h.2.1 j4 (Int32.toNatClampNeg y1))) (fun h9 => fh_let (y1 + 4) (fun v10 => z_X12_endsOne_b2 S a n h9 v10))))))) else (fh_b1 (h.2.2 a 13) (fun j11 => fh_ck (fh_kq S j11 14) (fh_ck (fh_in y1 (S.2.2 j11)) (fh_ck (fh_in (y1 + (2 : Int32)) (S.2.2 j11)) (fh_let (fh_sJ h j11 (Int32.toNatClampNeg (y1 + (2 : Int32))) (h.2.1 j11 (Int32.toNatClampNeg y1))) (fun h16 => fh_b1 (h16.2.2 a 13) (fun j17 => fh_ck (fh_kq S j17 14) (fh_ck (fh_in (y1 + (1 : Int32)) (S.2.2 j17)) (fh_ck (fh_in (y1 + (3 : Int32)) (S.2.2 j17)) (fh_let (fh_sJ h16 j17 (Int32.toNatClampNeg (y1 + (3 : Int32))) (h16.2.1 j17 (Int32.toNatClampNeg (y1 + (1 : Int32))))) (fun h22 => fh_let (y1 + 4) (fun v23 => z_X12_endsOne_b2 S a n h22 v23)))))))))))))
def z_X12_endsOne (S : fh_S) (h : fh_H) (a : Nat) : Option fh_H :=
    z_X12_endsOne_b2 S a 20000 h (0 : Int32)
set_option maxHeartbeats 4000000 in
set_option maxRecDepth 100000 in
theorem k_X12_endsOne {l : Launch} {S : fh_S} {g : fh_G} {h h' : fh_H} (hj : fh_inj S g) {a : Nat} (ha : fh_kq S a 12 = true) (hsp : z_X12_endsOne S h a = some h') : fh_M l yX12_endsOne cX12_endsOne 2 none (fh_rm 1) S g [.ref (g.2.2 a)] h none h' := by
  unfold z_X12_endsOne at hsp
  refine fr_head (own := RX12) (by decide) rfl hj (Nat.le_of_ble_eq_true rfl) ?_
  intro p e s m below meth c ls C hr hlocks hR hl
  have hl : lv_has ls 2 [(0, .ref (g.2.2 a))] := hl
  have hx := C.1.1
  have hb := C.1.2.1
  have hb_2 : ∀ (n : Nat) (h : fh_H) (y1 : Int32) (H : Heap) (locs : List Loc) (ls : Array Slot), z_X12_endsOne_b2 S a n h y1 = some h' → fh_R S g s.heap h H locs → lv_has ls 2 [(0, .ref (g.2.2 a)), (1, .int y1)] → fh_Wk p l e 1 s m [.ref (g.2.2 a)] below meth c S g none h' H locs (F0 m 2 ls []) := by
    intro n
    induction n with
    | zero => intro h y1 H locs ls hsp; cases hsp
    | succ n ih =>
      intro h y1 H locs ls hsp hR hl
      rw [z_X12_endsOne_b2] at hsp
      refine lv_iload_n hx hb dX12_endsOne_2 rfl (lv_at hl 1 rfl) ?_
      refine lv_bipush (v := 8) hx hb dX12_endsOne_3 (by decide) ?_
      refine lv_icmp_ge (tgt := 68) hx hb dX12_endsOne_5 (by decide) (fun c1 => ?_) (fun c1 => ?_)
      · rw [if_pos c1] at hsp
        refine lv_aload_n hx hb dX12_endsOne_68 rfl (lv_at hl 0 rfl) ?_
        refine lv_iconst (v := 1) hx hb dX12_endsOne_69 (by decide) ?_
        refine fr_putz C hR ha Fp_RX12_158 rfl (Or.inr rfl) dX12_endsOne_70 (fun H locs hR => ?_)
        obtain ⟨h2, eh2⟩ : ∃ z, z = fh_sI h a 17 (1 : Int32) := ⟨_, rfl⟩
        rw [← eh2] at hR
        have hsp := fr_let eh2 hsp
        exact fr_vret C hr hlocks hR (fr_s1 hsp) dX12_endsOne_73
      · rw [if_neg c1] at hsp
        refine lv_aload_n hx hb dX12_endsOne_8 rfl (lv_at hl 0 rfl) ?_
        refine fr_geti C hR ha Fg_RX12_155 rfl dX12_endsOne_9 ?_
        refine lv_if_eq (tgt := 48) hx hb dX12_endsOne_12 (by decide) (fun c3 => ?_) (fun c3 => ?_)
        · rw [if_pos c3] at hsp
          refine lv_aload_n hx hb dX12_endsOne_48 rfl (lv_at hl 0 rfl) ?_
          obtain ⟨j4, hv5, hsp⟩ := fr_b1 hsp
          refine fr_getr C hR ha Fg_RX12_41 rfl hv5 dX12_endsOne_49 ?_
          refine lv_iload_n hx hb dX12_endsOne_52 rfl (lv_at hl 1 rfl) ?_
          refine lv_iconst (v := 1) hx hb dX12_endsOne_53 (by decide) ?_
          refine lv_iadd hx hb dX12_endsOne_54 ?_
          refine lv_aload_n hx hb dX12_endsOne_55 rfl (lv_at hl 0 rfl) ?_
          refine fr_getr C hR ha Fg_RX12_41 rfl hv5 dX12_endsOne_56 ?_
          refine lv_iload_n hx hb dX12_endsOne_59 rfl (lv_at hl 1 rfl) ?_
          obtain ⟨hk6, hsp⟩ := fr_ck hsp
          obtain ⟨hi7, hsp⟩ := fr_ck hsp
          refine fr_lald C hR hk6 hi7 dX12_endsOne_60 ?_
          obtain ⟨hi8, hsp⟩ := fr_ck hsp
          refine fr_last C hR hk6 hi8 dX12_endsOne_61 (fun H locs hR => ?_)
          obtain ⟨h9, eh9⟩ : ∃ z, z = fh_sJ h j4 (Int32.toNatClampNeg (y1 + (1 : Int32))) (h.2.1 j4 (Int32.toNatClampNeg y1)) := ⟨_, rfl⟩
          rw [← eh9] at hR
          have hsp := fr_let eh9 hsp
          obtain ⟨v10, ev10⟩ : ∃ z : Int32, z = y1 + 4 := ⟨_, rfl⟩
          have hsp := fr_let ev10 hsp
          refine lv_iinc (v := v10) (lv' := [(1, .int v10), (0, .ref (g.2.2 a))]) hx hb dX12_endsOne_62 hl (k := 1) rfl (by rw [ev10]; rfl) (by decide) rfl (fun ls hl => ?_)
          refine lv_goto (tgt := 2) hx hb dX12_endsOne_65 (by decide) ?_
          exact ih h9 v10 _ _ _ hsp hR (lv_sub hl [1, 0] rfl)
        · rw [if_neg c3] at hsp
          refine lv_aload_n hx hb dX12_endsOne_15 rfl (lv_at hl 0 rfl) ?_
          obtain ⟨j11, hv12, hsp⟩ := fr_b1 hsp
          refine fr_getr C hR ha Fg_RX12_41 rfl hv12 dX12_endsOne_16 ?_
          refine lv_iload_n hx hb dX12_endsOne_19 rfl (lv_at hl 1 rfl) ?_
          refine lv_iconst (v := 2) hx hb dX12_endsOne_20 (by decide) ?_
          refine lv_iadd hx hb dX12_endsOne_21 ?_
          refine lv_aload_n hx hb dX12_endsOne_22 rfl (lv_at hl 0 rfl) ?_
          refine fr_getr C hR ha Fg_RX12_41 rfl hv12 dX12_endsOne_23 ?_
          refine lv_iload_n hx hb dX12_endsOne_26 rfl (lv_at hl 1 rfl) ?_
          obtain ⟨hk13, hsp⟩ := fr_ck hsp
          obtain ⟨hi14, hsp⟩ := fr_ck hsp
          refine fr_lald C hR hk13 hi14 dX12_endsOne_27 ?_
          obtain ⟨hi15, hsp⟩ := fr_ck hsp
          refine fr_last C hR hk13 hi15 dX12_endsOne_28 (fun H locs hR => ?_)
          obtain ⟨h16, eh16⟩ : ∃ z, z = fh_sJ h j11 (Int32.toNatClampNeg (y1 + (2 : Int32))) (h.2.1 j11 (Int32.toNatClampNeg y1)) := ⟨_, rfl⟩
          rw [← eh16] at hR
          have hsp := fr_let eh16 hsp
          refine lv_aload_n hx hb dX12_endsOne_29 rfl (lv_at hl 0 rfl) ?_
          obtain ⟨j17, hv18, hsp⟩ := fr_b1 hsp
          refine fr_getr C hR ha Fg_RX12_41 rfl hv18 dX12_endsOne_30 ?_
          refine lv_iload_n hx hb dX12_endsOne_33 rfl (lv_at hl 1 rfl) ?_
          refine lv_iconst (v := 3) hx hb dX12_endsOne_34 (by decide) ?_
          refine lv_iadd hx hb dX12_endsOne_35 ?_
          refine lv_aload_n hx hb dX12_endsOne_36 rfl (lv_at hl 0 rfl) ?_
          refine fr_getr C hR ha Fg_RX12_41 rfl hv18 dX12_endsOne_37 ?_
          refine lv_iload_n hx hb dX12_endsOne_40 rfl (lv_at hl 1 rfl) ?_
          refine lv_iconst (v := 1) hx hb dX12_endsOne_41 (by decide) ?_
          refine lv_iadd hx hb dX12_endsOne_42 ?_
          obtain ⟨hk19, hsp⟩ := fr_ck hsp
          obtain ⟨hi20, hsp⟩ := fr_ck hsp
          refine fr_lald C hR hk19 hi20 dX12_endsOne_43 ?_
          obtain ⟨hi21, hsp⟩ := fr_ck hsp
          refine fr_last C hR hk19 hi21 dX12_endsOne_44 (fun H locs hR => ?_)
          obtain ⟨h22, eh22⟩ : ∃ z, z = fh_sJ h16 j17 (Int32.toNatClampNeg (y1 + (3 : Int32))) (h16.2.1 j17 (Int32.toNatClampNeg (y1 + (1 : Int32)))) := ⟨_, rfl⟩
          rw [← eh22] at hR
          have hsp := fr_let eh22 hsp
          refine lv_goto (tgt := 62) hx hb dX12_endsOne_45 (by decide) ?_
          obtain ⟨v23, ev23⟩ : ∃ z : Int32, z = y1 + 4 := ⟨_, rfl⟩
          have hsp := fr_let ev23 hsp
          refine lv_iinc (v := v23) (lv' := [(1, .int v23), (0, .ref (g.2.2 a))]) hx hb dX12_endsOne_62 hl (k := 1) rfl (by rw [ev23]; rfl) (by decide) rfl (fun ls hl => ?_)
          refine lv_goto (tgt := 2) hx hb dX12_endsOne_65 (by decide) ?_
          exact ih h22 v23 _ _ _ hsp hR (lv_sub hl [1, 0] rfl)
  refine lv_iconst (v := 0) hx hb dX12_endsOne_0 (by decide) ?_
  refine lv_istore_n (lv' := [(1, .int (0 : Int32)), (0, .ref (g.2.2 a))]) hx hb dX12_endsOne_1 rfl hl (by decide) rfl (fun ls hl => ?_)
  exact hb_2 20000 h (0 : Int32) _ _ _ hsp hR (lv_sub hl [1, 0] rfl)

/-! TermRowsModel.endsOther()V -/
def z_X12_endsOther_b2 (S : fh_S) (a : Nat) : Nat → fh_H → Int32 → Option fh_H
  | 0, _, _ => none
  | n + 1, h, y1 =>
    if (8 : Int32) ≤ y1 then (fh_let (fh_sI h a 18 (1 : Int32)) (fun h2 => some h2)) else (fh_b1 (h.2.2 a 13) (fun j3 => fh_ck (fh_kq S j3 14) (fh_ck (fh_in y1 (S.2.2 j3)) (fh_ck (fh_in (y1 + (1 : Int32)) (S.2.2 j3)) (fh_let (fh_sJ h j3 (Int32.toNatClampNeg (y1 + (1 : Int32))) (h.2.1 j3 (Int32.toNatClampNeg y1))) (fun h8 => fh_b1 (h8.2.2 a 13) (fun j9 => fh_ck (fh_kq S j9 14) (fh_ck (fh_in (y1 + (2 : Int32)) (S.2.2 j9)) (fh_ck (fh_in (y1 + (3 : Int32)) (S.2.2 j9)) (fh_let (fh_sJ h8 j9 (Int32.toNatClampNeg (y1 + (3 : Int32))) (h8.2.1 j9 (Int32.toNatClampNeg (y1 + (2 : Int32))))) (fun h14 => fh_let (y1 + 4) (fun v15 => z_X12_endsOther_b2 S a n h14 v15))))))))))))
def z_X12_endsOther (S : fh_S) (h : fh_H) (a : Nat) : Option fh_H :=
    z_X12_endsOther_b2 S a 20000 h (0 : Int32)
set_option maxHeartbeats 4000000 in
set_option maxRecDepth 100000 in
theorem k_X12_endsOther {l : Launch} {S : fh_S} {g : fh_G} {h h' : fh_H} (hj : fh_inj S g) {a : Nat} (ha : fh_kq S a 12 = true) (hsp : z_X12_endsOther S h a = some h') : fh_M l yX12_endsOther cX12_endsOther 2 none (fh_rm 1) S g [.ref (g.2.2 a)] h none h' := by
  unfold z_X12_endsOther at hsp
  refine fr_head (own := RX12) (by decide) rfl hj (Nat.le_of_ble_eq_true rfl) ?_
  intro p e s m below meth c ls C hr hlocks hR hl
  have hl : lv_has ls 2 [(0, .ref (g.2.2 a))] := hl
  have hx := C.1.1
  have hb := C.1.2.1
  have hb_2 : ∀ (n : Nat) (h : fh_H) (y1 : Int32) (H : Heap) (locs : List Loc) (ls : Array Slot), z_X12_endsOther_b2 S a n h y1 = some h' → fh_R S g s.heap h H locs → lv_has ls 2 [(0, .ref (g.2.2 a)), (1, .int y1)] → fh_Wk p l e 1 s m [.ref (g.2.2 a)] below meth c S g none h' H locs (F0 m 2 ls []) := by
    intro n
    induction n with
    | zero => intro h y1 H locs ls hsp; cases hsp
    | succ n ih =>
      intro h y1 H locs ls hsp hR hl
      rw [z_X12_endsOther_b2] at hsp
      refine lv_iload_n hx hb dX12_endsOther_2 rfl (lv_at hl 1 rfl) ?_
      refine lv_bipush (v := 8) hx hb dX12_endsOther_3 (by decide) ?_
      refine lv_icmp_ge (tgt := 44) hx hb dX12_endsOther_5 (by decide) (fun c1 => ?_) (fun c1 => ?_)
      · rw [if_pos c1] at hsp
        refine lv_aload_n hx hb dX12_endsOther_44 rfl (lv_at hl 0 rfl) ?_
        refine lv_iconst (v := 1) hx hb dX12_endsOther_45 (by decide) ?_
        refine fr_putz C hR ha Fp_RX12_161 rfl (Or.inr rfl) dX12_endsOther_46 (fun H locs hR => ?_)
        obtain ⟨h2, eh2⟩ : ∃ z, z = fh_sI h a 18 (1 : Int32) := ⟨_, rfl⟩
        rw [← eh2] at hR
        have hsp := fr_let eh2 hsp
        exact fr_vret C hr hlocks hR (fr_s1 hsp) dX12_endsOther_49
      · rw [if_neg c1] at hsp
        refine lv_aload_n hx hb dX12_endsOther_8 rfl (lv_at hl 0 rfl) ?_
        obtain ⟨j3, hv4, hsp⟩ := fr_b1 hsp
        refine fr_getr C hR ha Fg_RX12_41 rfl hv4 dX12_endsOther_9 ?_
        refine lv_iload_n hx hb dX12_endsOther_12 rfl (lv_at hl 1 rfl) ?_
        refine lv_iconst (v := 1) hx hb dX12_endsOther_13 (by decide) ?_
        refine lv_iadd hx hb dX12_endsOther_14 ?_
        refine lv_aload_n hx hb dX12_endsOther_15 rfl (lv_at hl 0 rfl) ?_
        refine fr_getr C hR ha Fg_RX12_41 rfl hv4 dX12_endsOther_16 ?_
        refine lv_iload_n hx hb dX12_endsOther_19 rfl (lv_at hl 1 rfl) ?_
        obtain ⟨hk5, hsp⟩ := fr_ck hsp
        obtain ⟨hi6, hsp⟩ := fr_ck hsp
        refine fr_lald C hR hk5 hi6 dX12_endsOther_20 ?_
        obtain ⟨hi7, hsp⟩ := fr_ck hsp
        refine fr_last C hR hk5 hi7 dX12_endsOther_21 (fun H locs hR => ?_)
        obtain ⟨h8, eh8⟩ : ∃ z, z = fh_sJ h j3 (Int32.toNatClampNeg (y1 + (1 : Int32))) (h.2.1 j3 (Int32.toNatClampNeg y1)) := ⟨_, rfl⟩
        rw [← eh8] at hR
        have hsp := fr_let eh8 hsp
        refine lv_aload_n hx hb dX12_endsOther_22 rfl (lv_at hl 0 rfl) ?_
        obtain ⟨j9, hv10, hsp⟩ := fr_b1 hsp
        refine fr_getr C hR ha Fg_RX12_41 rfl hv10 dX12_endsOther_23 ?_
        refine lv_iload_n hx hb dX12_endsOther_26 rfl (lv_at hl 1 rfl) ?_
        refine lv_iconst (v := 3) hx hb dX12_endsOther_27 (by decide) ?_
        refine lv_iadd hx hb dX12_endsOther_28 ?_
        refine lv_aload_n hx hb dX12_endsOther_29 rfl (lv_at hl 0 rfl) ?_
        refine fr_getr C hR ha Fg_RX12_41 rfl hv10 dX12_endsOther_30 ?_
        refine lv_iload_n hx hb dX12_endsOther_33 rfl (lv_at hl 1 rfl) ?_
        refine lv_iconst (v := 2) hx hb dX12_endsOther_34 (by decide) ?_
        refine lv_iadd hx hb dX12_endsOther_35 ?_
        obtain ⟨hk11, hsp⟩ := fr_ck hsp
        obtain ⟨hi12, hsp⟩ := fr_ck hsp
        refine fr_lald C hR hk11 hi12 dX12_endsOther_36 ?_
        obtain ⟨hi13, hsp⟩ := fr_ck hsp
        refine fr_last C hR hk11 hi13 dX12_endsOther_37 (fun H locs hR => ?_)
        obtain ⟨h14, eh14⟩ : ∃ z, z = fh_sJ h8 j9 (Int32.toNatClampNeg (y1 + (3 : Int32))) (h8.2.1 j9 (Int32.toNatClampNeg (y1 + (2 : Int32)))) := ⟨_, rfl⟩
        rw [← eh14] at hR
        have hsp := fr_let eh14 hsp
        obtain ⟨v15, ev15⟩ : ∃ z : Int32, z = y1 + 4 := ⟨_, rfl⟩
        have hsp := fr_let ev15 hsp
        refine lv_iinc (v := v15) (lv' := [(1, .int v15), (0, .ref (g.2.2 a))]) hx hb dX12_endsOther_38 hl (k := 1) rfl (by rw [ev15]; rfl) (by decide) rfl (fun ls hl => ?_)
        refine lv_goto (tgt := 2) hx hb dX12_endsOther_41 (by decide) ?_
        exact ih h14 v15 _ _ _ hsp hR (lv_sub hl [1, 0] rfl)
  refine lv_iconst (v := 0) hx hb dX12_endsOther_0 (by decide) ?_
  refine lv_istore_n (lv' := [(1, .int (0 : Int32)), (0, .ref (g.2.2 a))]) hx hb dX12_endsOther_1 rfl hl (by decide) rfl (fun ls hl => ?_)
  exact hb_2 20000 h (0 : Int32) _ _ _ hsp hR (lv_sub hl [1, 0] rfl)

/-! TermRowsModel.turns()V -/
def z_X12_turns (S : fh_S) (h : fh_H) (a : Nat) : Option fh_H :=
    fh_let ((h.1 a 19)) (fun v1 => if v1 = 0 then (if (h.1 a 18) = 0 then (fh_let (fh_sI h a 19 (1 : Int32)) (fun h5 => some h5)) else (fh_let (fh_sI h a 19 (0 : Int32)) (fun h4 => some h4))) else (fh_ck (decide ((h.1 a 17) = 0 ∨ (h.1 a 17) = 1)) (fh_let (fh_sI h a 19 (h.1 a 17)) (fun h7 => some h7))))
set_option maxHeartbeats 4000000 in
set_option maxRecDepth 100000 in
theorem k_X12_turns {l : Launch} {S : fh_S} {g : fh_G} {h h' : fh_H} (hj : fh_inj S g) {a : Nat} (ha : fh_kq S a 12 = true) (hsp : z_X12_turns S h a = some h') : fh_M l yX12_turns cX12_turns 2 none (fh_rm 1) S g [.ref (g.2.2 a)] h none h' := by
  unfold z_X12_turns at hsp
  refine fr_head (own := RX12) (by decide) rfl hj (Nat.le_of_ble_eq_true rfl) ?_
  intro p e s m below meth c ls C hr hlocks hR hl
  have hl : lv_has ls 2 [(0, .ref (g.2.2 a))] := hl
  have hx := C.1.1
  have hb := C.1.2.1
  refine lv_aload_n hx hb dX12_turns_0 rfl (lv_at hl 0 rfl) ?_
  refine fr_geti C hR ha Fg_RX12_164 rfl dX12_turns_1 ?_
  refine lv_topi (fun v1 ev1 => ?_)
  have hsp := fr_let ev1 hsp
  refine lv_istore_n (lv' := [(1, .int v1), (0, .ref (g.2.2 a))]) hx hb dX12_turns_4 rfl hl (by decide) rfl (fun ls hl => ?_)
  refine lv_aload_n hx hb dX12_turns_5 rfl (lv_at hl 1 rfl) ?_
  refine lv_iload_n hx hb dX12_turns_6 rfl (lv_at hl 0 rfl) ?_
  refine lv_if_eq (tgt := 17) hx hb dX12_turns_7 (by decide) (fun c2 => ?_) (fun c2 => ?_)
  · rw [if_pos c2] at hsp
    refine lv_aload_n hx hb dX12_turns_17 rfl (lv_at hl 1 rfl) ?_
    refine fr_geti C hR ha Fg_RX12_161 rfl dX12_turns_18 ?_
    refine lv_if_ne (tgt := 28) hx hb dX12_turns_21 (by decide) (fun c3 => ?_) (fun c3 => ?_)
    · rw [if_neg c3] at hsp
      refine lv_iconst (v := 0) hx hb dX12_turns_28 (by decide) ?_
      refine fr_putz C hR ha Fp_RX12_164 rfl (Or.inl rfl) dX12_turns_29 (fun H locs hR => ?_)
      obtain ⟨h4, eh4⟩ : ∃ z, z = fh_sI h a 19 (0 : Int32) := ⟨_, rfl⟩
      rw [← eh4] at hR
      have hsp := fr_let eh4 hsp
      exact fr_vret C hr hlocks hR (fr_s1 hsp) dX12_turns_32
    · rw [if_pos c3] at hsp
      refine lv_iconst (v := 1) hx hb dX12_turns_24 (by decide) ?_
      refine lv_goto (tgt := 29) hx hb dX12_turns_25 (by decide) ?_
      refine fr_putz C hR ha Fp_RX12_164 rfl (Or.inr rfl) dX12_turns_29 (fun H locs hR => ?_)
      obtain ⟨h5, eh5⟩ : ∃ z, z = fh_sI h a 19 (1 : Int32) := ⟨_, rfl⟩
      rw [← eh5] at hR
      have hsp := fr_let eh5 hsp
      exact fr_vret C hr hlocks hR (fr_s1 hsp) dX12_turns_32
  · rw [if_neg c2] at hsp
    refine lv_aload_n hx hb dX12_turns_10 rfl (lv_at hl 1 rfl) ?_
    refine fr_geti C hR ha Fg_RX12_158 rfl dX12_turns_11 ?_
    refine lv_goto (tgt := 29) hx hb dX12_turns_14 (by decide) ?_
    obtain ⟨hz6, hsp⟩ := fr_ck hsp
    refine fr_putz C hR ha Fp_RX12_164 rfl (of_decide_eq_true hz6) dX12_turns_29 (fun H locs hR => ?_)
    obtain ⟨h7, eh7⟩ : ∃ z, z = fh_sI h a 19 (h.1 a 17) := ⟨_, rfl⟩
    rw [← eh7] at hR
    have hsp := fr_let eh7 hsp
    exact fr_vret C hr hlocks hR (fr_s1 hsp) dX12_turns_32

/-! TermRowsModel.keep()V -/
def z_X12_keep_b54 (S : fh_S) (a : Nat) : Nat → fh_H → Int32 → Option fh_H
  | 0, _, _ => none
  | n + 1, h, y1 =>
    if (1090 : Int32) ≤ y1 then (fh_let (fh_sI h a 2 ((h.1 a 2) + (1 : Int32))) (fun h2 => some h2)) else (fh_b1 (h.2.2 a 1) (fun j3 => fh_b1 (h.2.2 a 0) (fun j5 => fh_ck (fh_kq S j5 13) (fh_ck (fh_in y1 (S.2.2 j5)) (fh_ck (fh_kq S j3 13) (fh_ck (fh_in (((1090 : Int32) * (h.1 a 2)) + y1) (S.2.2 j3)) (fh_let (fh_sI h j3 (Int32.toNatClampNeg (((1090 : Int32) * (h.1 a 2)) + y1)) (h.1 j5 (Int32.toNatClampNeg y1))) (fun h11 => fh_let (y1 + 1) (fun v12 => z_X12_keep_b54 S a n h11 v12)))))))))
def z_X12_keep_b13 (S : fh_S) (a : Nat) : Nat → fh_H → Int32 → Option fh_H
  | 0, _, _ => none
  | n + 1, h, y1 =>
    if (17440 : Int32) ≤ y1 then (fh_let (fh_sI h a 2 ((h.1 a 2) - (1 : Int32))) (fun h2 => z_X12_keep_b54 S a 20000 h2 (0 : Int32))) else (fh_b1 (h.2.2 a 1) (fun j3 => fh_ck (fh_kq S j3 13) (fh_ck (fh_in y1 (S.2.2 j3)) (fh_ck (fh_in (y1 - (1090 : Int32)) (S.2.2 j3)) (fh_let (fh_sI h j3 (Int32.toNatClampNeg (y1 - (1090 : Int32))) (h.1 j3 (Int32.toNatClampNeg y1))) (fun h8 => fh_let (y1 + 1) (fun v9 => z_X12_keep_b13 S a n h8 v9)))))))
def z_X12_keep (S : fh_S) (h : fh_H) (a : Nat) : Option fh_H :=
    if (h.1 a 2) = (16 : Int32) then (z_X12_keep_b13 S a 20000 h (1090 : Int32)) else (z_X12_keep_b54 S a 20000 h (0 : Int32))
set_option maxHeartbeats 4000000 in
set_option maxRecDepth 100000 in
theorem k_X12_keep {l : Launch} {S : fh_S} {g : fh_G} {h h' : fh_H} (hj : fh_inj S g) {a : Nat} (ha : fh_kq S a 12 = true) (hsp : z_X12_keep S h a = some h') : fh_M l yX12_keep cX12_keep 2 none (fh_rm 1) S g [.ref (g.2.2 a)] h none h' := by
  unfold z_X12_keep at hsp
  refine fr_head (own := RX12) (by decide) rfl hj (Nat.le_of_ble_eq_true rfl) ?_
  intro p e s m below meth c ls C hr hlocks hR hl
  have hl : lv_has ls 2 [(0, .ref (g.2.2 a))] := hl
  have hx := C.1.1
  have hb := C.1.2.1
  have hb_54 : ∀ (n : Nat) (h : fh_H) (y1 : Int32) (H : Heap) (locs : List Loc) (ls : Array Slot), z_X12_keep_b54 S a n h y1 = some h' → fh_R S g s.heap h H locs → lv_has ls 2 [(0, .ref (g.2.2 a)), (1, .int y1)] → fh_Wk p l e 1 s m [.ref (g.2.2 a)] below meth c S g none h' H locs (F0 m 54 ls []) := by
    intro n
    induction n with
    | zero => intro h y1 H locs ls hsp; cases hsp
    | succ n ih =>
      intro h y1 H locs ls hsp hR hl
      rw [z_X12_keep_b54] at hsp
      refine lv_iload_n hx hb dX12_keep_54 rfl (lv_at hl 1 rfl) ?_
      refine lv_sipush (v := 1090) hx hb dX12_keep_55 (by decide) ?_
      refine lv_icmp_ge (tgt := 88) hx hb dX12_keep_58 (by decide) (fun c1 => ?_) (fun c1 => ?_)
      · rw [if_pos c1] at hsp
        refine lv_aload_n hx hb dX12_keep_88 rfl (lv_at hl 0 rfl) ?_
        refine lv_dup hx hb dX12_keep_89 rfl ?_
        refine fr_geti C hR ha Fg_RX12_258 rfl dX12_keep_90 ?_
        refine lv_iconst (v := 1) hx hb dX12_keep_93 (by decide) ?_
        refine lv_iadd hx hb dX12_keep_94 ?_
        refine fr_puti C hR ha Fp_RX12_258 rfl dX12_keep_95 (fun H locs hR => ?_)
        obtain ⟨h2, eh2⟩ : ∃ z, z = fh_sI h a 2 ((h.1 a 2) + (1 : Int32)) := ⟨_, rfl⟩
        rw [← eh2] at hR
        have hsp := fr_let eh2 hsp
        exact fr_vret C hr hlocks hR (fr_s1 hsp) dX12_keep_98
      · rw [if_neg c1] at hsp
        refine lv_aload_n hx hb dX12_keep_61 rfl (lv_at hl 0 rfl) ?_
        obtain ⟨j3, hv4, hsp⟩ := fr_b1 hsp
        refine fr_getr C hR ha Fg_RX12_13 rfl hv4 dX12_keep_62 ?_
        refine lv_sipush (v := 1090) hx hb dX12_keep_65 (by decide) ?_
        refine lv_aload_n hx hb dX12_keep_68 rfl (lv_at hl 0 rfl) ?_
        refine fr_geti C hR ha Fg_RX12_258 rfl dX12_keep_69 ?_
        refine lv_imul hx hb dX12_keep_72 ?_
        refine lv_iload_n hx hb dX12_keep_73 rfl (lv_at hl 1 rfl) ?_
        refine lv_iadd hx hb dX12_keep_74 ?_
        refine lv_aload_n hx hb dX12_keep_75 rfl (lv_at hl 0 rfl) ?_
        obtain ⟨j5, hv6, hsp⟩ := fr_b1 hsp
        refine fr_getr C hR ha Fg_RX12_9 rfl hv6 dX12_keep_76 ?_
        refine lv_iload_n hx hb dX12_keep_79 rfl (lv_at hl 1 rfl) ?_
        obtain ⟨hk7, hsp⟩ := fr_ck hsp
        obtain ⟨hi8, hsp⟩ := fr_ck hsp
        refine fr_iald C hR hk7 hi8 dX12_keep_80 ?_
        obtain ⟨hk9, hsp⟩ := fr_ck hsp
        obtain ⟨hi10, hsp⟩ := fr_ck hsp
        refine fr_iast C hR hk9 hi10 dX12_keep_81 (fun H locs hR => ?_)
        obtain ⟨h11, eh11⟩ : ∃ z, z = fh_sI h j3 (Int32.toNatClampNeg (((1090 : Int32) * (h.1 a 2)) + y1)) (h.1 j5 (Int32.toNatClampNeg y1)) := ⟨_, rfl⟩
        rw [← eh11] at hR
        have hsp := fr_let eh11 hsp
        obtain ⟨v12, ev12⟩ : ∃ z : Int32, z = y1 + 1 := ⟨_, rfl⟩
        have hsp := fr_let ev12 hsp
        refine lv_iinc (v := v12) (lv' := [(1, .int v12), (0, .ref (g.2.2 a))]) hx hb dX12_keep_82 hl (k := 1) rfl (by rw [ev12]; rfl) (by decide) rfl (fun ls hl => ?_)
        refine lv_goto (tgt := 54) hx hb dX12_keep_85 (by decide) ?_
        exact ih h11 v12 _ _ _ hsp hR (lv_sub hl [1, 0] rfl)
  have hb_13 : ∀ (n : Nat) (h : fh_H) (y1 : Int32) (H : Heap) (locs : List Loc) (ls : Array Slot), z_X12_keep_b13 S a n h y1 = some h' → fh_R S g s.heap h H locs → lv_has ls 2 [(0, .ref (g.2.2 a)), (1, .int y1)] → fh_Wk p l e 1 s m [.ref (g.2.2 a)] below meth c S g none h' H locs (F0 m 13 ls []) := by
    intro n
    induction n with
    | zero => intro h y1 H locs ls hsp; cases hsp
    | succ n ih =>
      intro h y1 H locs ls hsp hR hl
      rw [z_X12_keep_b13] at hsp
      refine lv_iload_n hx hb dX12_keep_13 rfl (lv_at hl 1 rfl) ?_
      refine lv_sipush (v := 17440) hx hb dX12_keep_14 (by decide) ?_
      refine lv_icmp_ge (tgt := 42) hx hb dX12_keep_17 (by decide) (fun c1 => ?_) (fun c1 => ?_)
      · rw [if_pos c1] at hsp
        refine lv_aload_n hx hb dX12_keep_42 rfl (lv_at hl 0 rfl) ?_
        refine lv_dup hx hb dX12_keep_43 rfl ?_
        refine fr_geti C hR ha Fg_RX12_258 rfl dX12_keep_44 ?_
        refine lv_iconst (v := 1) hx hb dX12_keep_47 (by decide) ?_
        refine lv_isub hx hb dX12_keep_48 ?_
        refine fr_puti C hR ha Fp_RX12_258 rfl dX12_keep_49 (fun H locs hR => ?_)
        obtain ⟨h2, eh2⟩ : ∃ z, z = fh_sI h a 2 ((h.1 a 2) - (1 : Int32)) := ⟨_, rfl⟩
        rw [← eh2] at hR
        have hsp := fr_let eh2 hsp
        refine lv_iconst (v := 0) hx hb dX12_keep_52 (by decide) ?_
        refine lv_istore_n (lv' := [(1, .int (0 : Int32)), (0, .ref (g.2.2 a))]) hx hb dX12_keep_53 rfl hl (by decide) rfl (fun ls hl => ?_)
        exact hb_54 20000 h2 (0 : Int32) _ _ _ hsp hR (lv_sub hl [1, 0] rfl)
      · rw [if_neg c1] at hsp
        refine lv_aload_n hx hb dX12_keep_20 rfl (lv_at hl 0 rfl) ?_
        obtain ⟨j3, hv4, hsp⟩ := fr_b1 hsp
        refine fr_getr C hR ha Fg_RX12_13 rfl hv4 dX12_keep_21 ?_
        refine lv_iload_n hx hb dX12_keep_24 rfl (lv_at hl 1 rfl) ?_
        refine lv_sipush (v := 1090) hx hb dX12_keep_25 (by decide) ?_
        refine lv_isub hx hb dX12_keep_28 ?_
        refine lv_aload_n hx hb dX12_keep_29 rfl (lv_at hl 0 rfl) ?_
        refine fr_getr C hR ha Fg_RX12_13 rfl hv4 dX12_keep_30 ?_
        refine lv_iload_n hx hb dX12_keep_33 rfl (lv_at hl 1 rfl) ?_
        obtain ⟨hk5, hsp⟩ := fr_ck hsp
        obtain ⟨hi6, hsp⟩ := fr_ck hsp
        refine fr_iald C hR hk5 hi6 dX12_keep_34 ?_
        obtain ⟨hi7, hsp⟩ := fr_ck hsp
        refine fr_iast C hR hk5 hi7 dX12_keep_35 (fun H locs hR => ?_)
        obtain ⟨h8, eh8⟩ : ∃ z, z = fh_sI h j3 (Int32.toNatClampNeg (y1 - (1090 : Int32))) (h.1 j3 (Int32.toNatClampNeg y1)) := ⟨_, rfl⟩
        rw [← eh8] at hR
        have hsp := fr_let eh8 hsp
        obtain ⟨v9, ev9⟩ : ∃ z : Int32, z = y1 + 1 := ⟨_, rfl⟩
        have hsp := fr_let ev9 hsp
        refine lv_iinc (v := v9) (lv' := [(1, .int v9), (0, .ref (g.2.2 a))]) hx hb dX12_keep_36 hl (k := 1) rfl (by rw [ev9]; rfl) (by decide) rfl (fun ls hl => ?_)
        refine lv_goto (tgt := 13) hx hb dX12_keep_39 (by decide) ?_
        exact ih h8 v9 _ _ _ hsp hR (lv_sub hl [1, 0] rfl)
  refine lv_aload_n hx hb dX12_keep_0 rfl (lv_at hl 0 rfl) ?_
  refine fr_geti C hR ha Fg_RX12_258 rfl dX12_keep_1 ?_
  refine lv_bipush (v := 16) hx hb dX12_keep_4 (by decide) ?_
  refine lv_icmp_ne (tgt := 52) hx hb dX12_keep_6 (by decide) (fun c1 => ?_) (fun c1 => ?_)
  · rw [if_neg c1] at hsp
    refine lv_iconst (v := 0) hx hb dX12_keep_52 (by decide) ?_
    refine lv_istore_n (lv' := [(1, .int (0 : Int32)), (0, .ref (g.2.2 a))]) hx hb dX12_keep_53 rfl hl (by decide) rfl (fun ls hl => ?_)
    exact hb_54 20000 h (0 : Int32) _ _ _ hsp hR (lv_sub hl [1, 0] rfl)
  · rw [if_pos c1] at hsp
    refine lv_sipush (v := 1090) hx hb dX12_keep_9 (by decide) ?_
    refine lv_istore_n (lv' := [(1, .int (1090 : Int32)), (0, .ref (g.2.2 a))]) hx hb dX12_keep_12 rfl hl (by decide) rfl (fun ls hl => ?_)
    exact hb_13 20000 h (1090 : Int32) _ _ _ hsp hR (lv_sub hl [1, 0] rfl)

/-! TermRowsModel.stopMany(I)I -/
def z_X12_stopMany_b4 (S : fh_S) (a : Nat) : Nat → fh_H → Int32 → Int32 → Int32 → Option Int32
  | 0, _, _, _, _ => none
  | n + 1, h, y1, y2, y3 =>
    if (10 : Int32) ≤ y3 then (some y2) else (fh_b1 (h.2.2 a 6) (fun j2 => fh_ck (fh_kq S j2 13) (fh_ck (fh_in y3 (S.2.2 j2)) (if (h.1 j2 (Int32.toNatClampNeg y3)) = y1 then (fh_let ((y2 + (1 : Int32))) (fun v9 => fh_let (y3 + 1) (fun v10 => z_X12_stopMany_b4 S a n h y1 v9 v10))) else (fh_let ((y2 + (0 : Int32))) (fun v7 => fh_let (y3 + 1) (fun v8 => z_X12_stopMany_b4 S a n h y1 v7 v8)))))))
def z_X12_stopMany (S : fh_S) (h : fh_H) (a : Nat) (x1 : Int32) : Option Int32 :=
    z_X12_stopMany_b4 S a 20000 h x1 (0 : Int32) (0 : Int32)
set_option maxHeartbeats 4000000 in
set_option maxRecDepth 100000 in
theorem k_X12_stopMany {l : Launch} {S : fh_S} {g : fh_G} {h : fh_H} (hj : fh_inj S g) {a : Nat} {x1 : Int32} {r : Int32} (ha : fh_kq S a 12 = true) (hsp : z_X12_stopMany S h a x1 = some r) : fh_M l yX12_stopMany cX12_stopMany 4 (some .int) (fh_rm 1) S g [.ref (g.2.2 a), .int x1] h (some (.int r)) h := by
  unfold z_X12_stopMany at hsp
  refine fr_head (own := RX12) (by decide) rfl hj (Nat.le_of_ble_eq_true rfl) ?_
  intro p e s m below meth c ls C hr hlocks hR hl
  have hl : lv_has ls 4 [(0, .ref (g.2.2 a)), (1, .int x1)] := hl
  have hx := C.1.1
  have hb := C.1.2.1
  have hb_4 : ∀ (n : Nat) (y1 : Int32) (y2 : Int32) (y3 : Int32) (H : Heap) (locs : List Loc) (ls : Array Slot), z_X12_stopMany_b4 S a n h y1 y2 y3 = some r → fh_R S g s.heap h H locs → lv_has ls 4 [(0, .ref (g.2.2 a)), (1, .int y1), (2, .int y2), (3, .int y3)] → fh_Wk p l e 1 s m [.ref (g.2.2 a), .int x1] below meth c S g (some (.int r)) h H locs (F0 m 4 ls []) := by
    intro n
    induction n with
    | zero => intro y1 y2 y3 H locs ls hsp; cases hsp
    | succ n ih =>
      intro y1 y2 y3 H locs ls hsp hR hl
      rw [z_X12_stopMany_b4] at hsp
      refine lv_iload_n hx hb dX12_stopMany_4 rfl (lv_at hl 3 rfl) ?_
      refine lv_bipush (v := 10) hx hb dX12_stopMany_5 (by decide) ?_
      refine lv_icmp_ge (tgt := 34) hx hb dX12_stopMany_7 (by decide) (fun c1 => ?_) (fun c1 => ?_)
      · rw [if_pos c1] at hsp
        refine lv_iload_n hx hb dX12_stopMany_34 rfl (lv_at hl 2 rfl) ?_
        have e1 := fr_s1 hsp
        exact fr_iret C hr hlocks hR e1 rfl dX12_stopMany_35
      · rw [if_neg c1] at hsp
        refine lv_iload_n hx hb dX12_stopMany_10 rfl (lv_at hl 2 rfl) ?_
        refine lv_aload_n hx hb dX12_stopMany_11 rfl (lv_at hl 0 rfl) ?_
        obtain ⟨j2, hv3, hsp⟩ := fr_b1 hsp
        refine fr_getr C hR ha Fg_RX12_22 rfl hv3 dX12_stopMany_12 ?_
        refine lv_iload_n hx hb dX12_stopMany_15 rfl (lv_at hl 3 rfl) ?_
        obtain ⟨hk4, hsp⟩ := fr_ck hsp
        obtain ⟨hi5, hsp⟩ := fr_ck hsp
        refine fr_iald C hR hk4 hi5 dX12_stopMany_16 ?_
        refine lv_iload_n hx hb dX12_stopMany_17 rfl (lv_at hl 1 rfl) ?_
        refine lv_icmp_ne (tgt := 25) hx hb dX12_stopMany_18 (by decide) (fun c6 => ?_) (fun c6 => ?_)
        · rw [if_neg c6] at hsp
          refine lv_iconst (v := 0) hx hb dX12_stopMany_25 (by decide) ?_
          refine lv_iadd hx hb dX12_stopMany_26 ?_
          refine lv_topi (fun v7 ev7 => ?_)
          have hsp := fr_let ev7 hsp
          refine lv_istore_n (lv' := [(2, .int v7), (0, .ref (g.2.2 a)), (1, .int y1), (3, .int y3)]) hx hb dX12_stopMany_27 rfl hl (by decide) rfl (fun ls hl => ?_)
          obtain ⟨v8, ev8⟩ : ∃ z : Int32, z = y3 + 1 := ⟨_, rfl⟩
          have hsp := fr_let ev8 hsp
          refine lv_iinc (v := v8) (lv' := [(3, .int v8), (2, .int v7), (0, .ref (g.2.2 a)), (1, .int y1)]) hx hb dX12_stopMany_28 hl (k := 3) rfl (by rw [ev8]; rfl) (by decide) rfl (fun ls hl => ?_)
          refine lv_goto (tgt := 4) hx hb dX12_stopMany_31 (by decide) ?_
          exact ih y1 v7 v8 _ _ _ hsp hR (lv_sub hl [2, 3, 1, 0] rfl)
        · rw [if_pos c6] at hsp
          refine lv_iconst (v := 1) hx hb dX12_stopMany_21 (by decide) ?_
          refine lv_goto (tgt := 26) hx hb dX12_stopMany_22 (by decide) ?_
          refine lv_iadd hx hb dX12_stopMany_26 ?_
          refine lv_topi (fun v9 ev9 => ?_)
          have hsp := fr_let ev9 hsp
          refine lv_istore_n (lv' := [(2, .int v9), (0, .ref (g.2.2 a)), (1, .int y1), (3, .int y3)]) hx hb dX12_stopMany_27 rfl hl (by decide) rfl (fun ls hl => ?_)
          obtain ⟨v10, ev10⟩ : ∃ z : Int32, z = y3 + 1 := ⟨_, rfl⟩
          have hsp := fr_let ev10 hsp
          refine lv_iinc (v := v10) (lv' := [(3, .int v10), (2, .int v9), (0, .ref (g.2.2 a)), (1, .int y1)]) hx hb dX12_stopMany_28 hl (k := 3) rfl (by rw [ev10]; rfl) (by decide) rfl (fun ls hl => ?_)
          refine lv_goto (tgt := 4) hx hb dX12_stopMany_31 (by decide) ?_
          exact ih y1 v9 v10 _ _ _ hsp hR (lv_sub hl [2, 3, 1, 0] rfl)
  refine lv_iconst (v := 0) hx hb dX12_stopMany_0 (by decide) ?_
  refine lv_istore_n (lv' := [(2, .int (0 : Int32)), (0, .ref (g.2.2 a)), (1, .int x1)]) hx hb dX12_stopMany_1 rfl hl (by decide) rfl (fun ls hl => ?_)
  refine lv_iconst (v := 0) hx hb dX12_stopMany_2 (by decide) ?_
  refine lv_istore_n (lv' := [(3, .int (0 : Int32)), (2, .int (0 : Int32)), (0, .ref (g.2.2 a)), (1, .int x1)]) hx hb dX12_stopMany_3 rfl hl (by decide) rfl (fun ls hl => ?_)
  exact hb_4 20000 x1 (0 : Int32) (0 : Int32) _ _ _ hsp hR (lv_sub hl [2, 3, 1, 0] rfl)

/-! TermRowsModel.byPlace(IZ)I -/
def z_X12_byPlace (x0 : Int32) (x1 : Int32) : Option Int32 :=
    if (x0 - x0 / (2 : Int32) * (2 : Int32)) = 0 then (if (1 : Int32) = x1 then (some (-1 : Int32)) else (some (1 : Int32))) else (if (0 : Int32) = x1 then (some (-1 : Int32)) else (some (1 : Int32)))
set_option maxHeartbeats 4000000 in
set_option maxRecDepth 100000 in
theorem k_X12_byPlace {l : Launch} {S : fh_S} {g : fh_G} {h : fh_H} (hj : fh_inj S g) {x0 : Int32} {x1 : Int32} {r : Int32} (hsp : z_X12_byPlace x0 x1 = some r) : fh_M l yX12_byPlace cX12_byPlace 2 (some .int) (fh_rm 1) S g [.int x0, .int x1] h (some (.int r)) h := by
  unfold z_X12_byPlace at hsp
  refine fr_head (own := RX12) (by decide) rfl hj (Nat.le_of_ble_eq_true rfl) ?_
  intro p e s m below meth c ls C hr hlocks hR hl
  have hl : lv_has ls 2 [(0, .int x0), (1, .int x1)] := hl
  have hx := C.1.1
  have hb := C.1.2.1
  refine lv_iload_n hx hb dX12_byPlace_0 rfl (lv_at hl 0 rfl) ?_
  refine lv_iconst (v := 2) hx hb dX12_byPlace_1 (by decide) ?_
  refine lv_irem hx hb dX12_byPlace_2 (by decide) ?_
  refine lv_if_ne (tgt := 10) hx hb dX12_byPlace_3 (by decide) (fun c1 => ?_) (fun c1 => ?_)
  · rw [if_neg c1] at hsp
    refine lv_iconst (v := 0) hx hb dX12_byPlace_10 (by decide) ?_
    refine lv_iload_n hx hb dX12_byPlace_11 rfl (lv_at hl 1 rfl) ?_
    refine lv_icmp_ne (tgt := 19) hx hb dX12_byPlace_12 (by decide) (fun c2 => ?_) (fun c2 => ?_)
    · rw [if_neg c2] at hsp
      refine lv_iconst (v := 1) hx hb dX12_byPlace_19 (by decide) ?_
      have e1 := fr_s1 hsp
      exact fr_iret C hr hlocks hR e1 rfl dX12_byPlace_20
    · rw [if_pos c2] at hsp
      refine lv_iconst (v := -1) hx hb dX12_byPlace_15 (by decide) ?_
      refine lv_goto (tgt := 20) hx hb dX12_byPlace_16 (by decide) ?_
      have e1 := fr_s1 hsp
      exact fr_iret C hr hlocks hR e1 rfl dX12_byPlace_20
  · rw [if_pos c1] at hsp
    refine lv_iconst (v := 1) hx hb dX12_byPlace_6 (by decide) ?_
    refine lv_goto (tgt := 11) hx hb dX12_byPlace_7 (by decide) ?_
    refine lv_iload_n hx hb dX12_byPlace_11 rfl (lv_at hl 1 rfl) ?_
    refine lv_icmp_ne (tgt := 19) hx hb dX12_byPlace_12 (by decide) (fun c3 => ?_) (fun c3 => ?_)
    · rw [if_neg c3] at hsp
      refine lv_iconst (v := 1) hx hb dX12_byPlace_19 (by decide) ?_
      have e1 := fr_s1 hsp
      exact fr_iret C hr hlocks hR e1 rfl dX12_byPlace_20
    · rw [if_pos c3] at hsp
      refine lv_iconst (v := -1) hx hb dX12_byPlace_15 (by decide) ?_
      refine lv_goto (tgt := 20) hx hb dX12_byPlace_16 (by decide) ?_
      have e1 := fr_s1 hsp
      exact fr_iret C hr hlocks hR e1 rfl dX12_byPlace_20

/-! TermRowsModel.writes(I)V -/
def z_X12_writes (S : fh_S) (h : fh_H) (a : Nat) (x1 : Int32) : Option fh_H :=
    fh_b1 (h.2.2 a 31) (fun j1 => fh_ck (fh_kq S j1 13) (fh_ck (fh_in (h.1 a 32) (S.2.2 j1)) (fh_let (fh_sI h j1 (Int32.toNatClampNeg (h.1 a 32)) x1) (fun h5 => fh_let (fh_sI h5 a 32 ((h5.1 a 32) + (1 : Int32))) (fun h6 => some h6)))))
set_option maxHeartbeats 4000000 in
set_option maxRecDepth 100000 in
theorem k_X12_writes {l : Launch} {S : fh_S} {g : fh_G} {h h' : fh_H} (hj : fh_inj S g) {a : Nat} {x1 : Int32} (ha : fh_kq S a 12 = true) (hsp : z_X12_writes S h a x1 = some h') : fh_M l yX12_writes cX12_writes 2 none (fh_rm 1) S g [.ref (g.2.2 a), .int x1] h none h' := by
  unfold z_X12_writes at hsp
  refine fr_head (own := RX12) (by decide) rfl hj (Nat.le_of_ble_eq_true rfl) ?_
  intro p e s m below meth c ls C hr hlocks hR hl
  have hl : lv_has ls 2 [(0, .ref (g.2.2 a)), (1, .int x1)] := hl
  have hx := C.1.1
  have hb := C.1.2.1
  refine lv_aload_n hx hb dX12_writes_0 rfl (lv_at hl 0 rfl) ?_
  obtain ⟨j1, hv2, hsp⟩ := fr_b1 hsp
  refine fr_getr C hR ha Fg_RX12_53 rfl hv2 dX12_writes_1 ?_
  refine lv_aload_n hx hb dX12_writes_4 rfl (lv_at hl 0 rfl) ?_
  refine fr_geti C hR ha Fg_RX12_361 rfl dX12_writes_5 ?_
  refine lv_iload_n hx hb dX12_writes_8 rfl (lv_at hl 1 rfl) ?_
  obtain ⟨hk3, hsp⟩ := fr_ck hsp
  obtain ⟨hi4, hsp⟩ := fr_ck hsp
  refine fr_iast C hR hk3 hi4 dX12_writes_9 (fun H locs hR => ?_)
  obtain ⟨h5, eh5⟩ : ∃ z, z = fh_sI h j1 (Int32.toNatClampNeg (h.1 a 32)) x1 := ⟨_, rfl⟩
  rw [← eh5] at hR
  have hsp := fr_let eh5 hsp
  refine lv_aload_n hx hb dX12_writes_10 rfl (lv_at hl 0 rfl) ?_
  refine lv_dup hx hb dX12_writes_11 rfl ?_
  refine fr_geti C hR ha Fg_RX12_361 rfl dX12_writes_12 ?_
  refine lv_iconst (v := 1) hx hb dX12_writes_15 (by decide) ?_
  refine lv_iadd hx hb dX12_writes_16 ?_
  refine fr_puti C hR ha Fp_RX12_361 rfl dX12_writes_17 (fun H locs hR => ?_)
  obtain ⟨h6, eh6⟩ : ∃ z, z = fh_sI h5 a 32 ((h5.1 a 32) + (1 : Int32)) := ⟨_, rfl⟩
  rw [← eh6] at hR
  have hsp := fr_let eh6 hsp
  exact fr_vret C hr hlocks hR (fr_s1 hsp) dX12_writes_20

/-! TermRowsModel.feed(IIIII)I -/
def z_X12_feed_b76 (S : fh_S) (a : Nat) (K23 : fh_H → Int32 → Int32 → Int32 → Int32 → Int32 → Int32 → Option (Int32 × fh_H)) (h : fh_H) (y1 : Int32) (y2 : Int32) (y3 : Int32) (y4 : Int32) (y5 : Int32) (y6 : Int32) (t0 : Int32) : Option (Int32 × fh_H) :=
    fh_b1 (h.2.2 a 33) (fun j1 => fh_ck (fh_kq S j1 13) (fh_ck (fh_in (h.1 a 35) (S.2.2 j1)) (fh_let (fh_sI h j1 (Int32.toNatClampNeg (h.1 a 35)) ((t0 >>> (((24 : Int32) - ((8 : Int32) * (y6 - y6 / (4 : Int32) * (4 : Int32)))) &&& 31)) &&& (255 : Int32))) (fun h5 => fh_let (fh_sI h5 a 35 ((h5.1 a 35) + (1 : Int32))) (fun h6 => fh_let (y6 + 1) (fun v7 => K23 h6 y1 y2 y3 y4 y5 v7))))))
def z_X12_feed_b23 (S : fh_S) (a : Nat) : Nat → fh_H → Int32 → Int32 → Int32 → Int32 → Int32 → Int32 → Option (Int32 × fh_H)
  | 0, _, _, _, _, _, _, _ => none
  | n + 1, h, y1, y2, y3, y4, y5, y6 =>
    if (20 : Int32) ≤ y6 then (some ((h.1 a 35), h)) else (if (4 : Int32) ≤ y6 then (if (8 : Int32) ≤ y6 then (if (12 : Int32) ≤ y6 then (if (16 : Int32) ≤ y6 then (z_X12_feed_b76 S a (z_X12_feed_b23 S a n) h y1 y2 y3 y4 y5 y6 y5) else (z_X12_feed_b76 S a (z_X12_feed_b23 S a n) h y1 y2 y3 y4 y5 y6 y4)) else (z_X12_feed_b76 S a (z_X12_feed_b23 S a n) h y1 y2 y3 y4 y5 y6 y3)) else (z_X12_feed_b76 S a (z_X12_feed_b23 S a n) h y1 y2 y3 y4 y5 y6 y2)) else (z_X12_feed_b76 S a (z_X12_feed_b23 S a n) h y1 y2 y3 y4 y5 y6 y1))
def z_X12_feed (S : fh_S) (h : fh_H) (a : Nat) (x1 : Int32) (x2 : Int32) (x3 : Int32) (x4 : Int32) (x5 : Int32) : Option (Int32 × fh_H) :=
    fh_let (fh_sI h a 3 (0 : Int32)) (fun h1 => if ((h1.1 a 35) + (20 : Int32)) ≤ (200 : Int32) then (z_X12_feed_b23 S a 20000 h1 x1 x2 x3 x4 x5 (0 : Int32)) else (some ((-1 : Int32), h1)))
set_option maxHeartbeats 4000000 in
set_option maxRecDepth 100000 in
theorem k_X12_feed {l : Launch} {S : fh_S} {g : fh_G} {h h' : fh_H} (hj : fh_inj S g) {a : Nat} {x1 : Int32} {x2 : Int32} {x3 : Int32} {x4 : Int32} {x5 : Int32} {r : Int32} (ha : fh_kq S a 12 = true) (hsp : z_X12_feed S h a x1 x2 x3 x4 x5 = some (r, h')) : fh_M l yX12_feed cX12_feed 8 (some .int) (fh_rm 1) S g [.ref (g.2.2 a), .int x1, .int x2, .int x3, .int x4, .int x5] h (some (.int r)) h' := by
  unfold z_X12_feed at hsp
  refine fr_head (own := RX12) (by decide) rfl hj (Nat.le_of_ble_eq_true rfl) ?_
  intro p e s m below meth c ls C hr hlocks hR hl
  have hl : lv_has ls 8 [(0, .ref (g.2.2 a)), (1, .int x1), (2, .int x2), (3, .int x3), (4, .int x4), (5, .int x5)] := hl
  have hx := C.1.1
  have hb := C.1.2.1
  have hb_76 : ∀ (K23 : fh_H → Int32 → Int32 → Int32 → Int32 → Int32 → Int32 → Option (Int32 × fh_H)) (hK23 : ∀ (h : fh_H) (y1 : Int32) (y2 : Int32) (y3 : Int32) (y4 : Int32) (y5 : Int32) (y6 : Int32) (H : Heap) (locs : List Loc) (ls : Array Slot), K23 h y1 y2 y3 y4 y5 y6 = some (r, h') → fh_R S g s.heap h H locs → lv_has ls 8 [(0, .ref (g.2.2 a)), (1, .int y1), (2, .int y2), (3, .int y3), (4, .int y4), (5, .int y5), (6, .int y6)] → fh_Wk p l e 1 s m [.ref (g.2.2 a), .int x1, .int x2, .int x3, .int x4, .int x5] below meth c S g (some (.int r)) h' H locs (F0 m 23 ls [])), ∀ (h : fh_H) (y1 : Int32) (y2 : Int32) (y3 : Int32) (y4 : Int32) (y5 : Int32) (y6 : Int32) (t0 : Int32) (H : Heap) (locs : List Loc) (ls : Array Slot), z_X12_feed_b76 S a K23 h y1 y2 y3 y4 y5 y6 t0 = some (r, h') → fh_R S g s.heap h H locs → lv_has ls 8 [(0, .ref (g.2.2 a)), (1, .int y1), (2, .int y2), (3, .int y3), (4, .int y4), (5, .int y5), (6, .int y6)] → fh_Wk p l e 1 s m [.ref (g.2.2 a), .int x1, .int x2, .int x3, .int x4, .int x5] below meth c S g (some (.int r)) h' H locs (F0 m 76 ls [.int t0]) := by
    intro K23 hK23 h y1 y2 y3 y4 y5 y6 t0 H locs ls hsp hR hl
    unfold z_X12_feed_b76 at hsp
    refine lv_istore (lv' := [(7, .int t0), (0, .ref (g.2.2 a)), (1, .int y1), (2, .int y2), (3, .int y3), (4, .int y4), (5, .int y5), (6, .int y6)]) hx hb dX12_feed_76 hl (by decide) rfl (fun ls hl => ?_)
    refine lv_aload_n hx hb dX12_feed_78 rfl (lv_at hl 1 rfl) ?_
    obtain ⟨j1, hv2, hsp⟩ := fr_b1 hsp
    refine fr_getr C hR ha Fg_RX12_56 rfl hv2 dX12_feed_79 ?_
    refine lv_aload_n hx hb dX12_feed_82 rfl (lv_at hl 1 rfl) ?_
    refine fr_geti C hR ha Fg_RX12_289 rfl dX12_feed_83 ?_
    refine lv_iload hx hb dX12_feed_86 (lv_at hl 0 rfl) ?_
    refine lv_bipush (v := 24) hx hb dX12_feed_88 (by decide) ?_
    refine lv_bipush (v := 8) hx hb dX12_feed_90 (by decide) ?_
    refine lv_iload hx hb dX12_feed_92 (lv_at hl 7 rfl) ?_
    refine lv_iconst (v := 4) hx hb dX12_feed_94 (by decide) ?_
    refine lv_irem hx hb dX12_feed_95 (by decide) ?_
    refine lv_imul hx hb dX12_feed_96 ?_
    refine lv_isub hx hb dX12_feed_97 ?_
    refine lv_ishr hx hb dX12_feed_98 ?_
    refine lv_sipush (v := 255) hx hb dX12_feed_99 (by decide) ?_
    refine lv_iand hx hb dX12_feed_102 ?_
    obtain ⟨hk3, hsp⟩ := fr_ck hsp
    obtain ⟨hi4, hsp⟩ := fr_ck hsp
    refine fr_iast C hR hk3 hi4 dX12_feed_103 (fun H locs hR => ?_)
    obtain ⟨h5, eh5⟩ : ∃ z, z = fh_sI h j1 (Int32.toNatClampNeg (h.1 a 35)) ((t0 >>> (((24 : Int32) - ((8 : Int32) * (y6 - y6 / (4 : Int32) * (4 : Int32)))) &&& 31)) &&& (255 : Int32)) := ⟨_, rfl⟩
    rw [← eh5] at hR
    have hsp := fr_let eh5 hsp
    refine lv_aload_n hx hb dX12_feed_104 rfl (lv_at hl 1 rfl) ?_
    refine lv_dup hx hb dX12_feed_105 rfl ?_
    refine fr_geti C hR ha Fg_RX12_289 rfl dX12_feed_106 ?_
    refine lv_iconst (v := 1) hx hb dX12_feed_109 (by decide) ?_
    refine lv_iadd hx hb dX12_feed_110 ?_
    refine fr_puti C hR ha Fp_RX12_289 rfl dX12_feed_111 (fun H locs hR => ?_)
    obtain ⟨h6, eh6⟩ : ∃ z, z = fh_sI h5 a 35 ((h5.1 a 35) + (1 : Int32)) := ⟨_, rfl⟩
    rw [← eh6] at hR
    have hsp := fr_let eh6 hsp
    obtain ⟨v7, ev7⟩ : ∃ z : Int32, z = y6 + 1 := ⟨_, rfl⟩
    have hsp := fr_let ev7 hsp
    refine lv_iinc (v := v7) (lv' := [(6, .int v7), (7, .int t0), (0, .ref (g.2.2 a)), (1, .int y1), (2, .int y2), (3, .int y3), (4, .int y4), (5, .int y5)]) hx hb dX12_feed_114 hl (k := 7) rfl (by rw [ev7]; rfl) (by decide) rfl (fun ls hl => ?_)
    refine lv_goto (tgt := 23) hx hb dX12_feed_117 (by decide) ?_
    exact hK23 h6 y1 y2 y3 y4 y5 v7 _ _ _ hsp hR (lv_sub hl [2, 3, 4, 5, 6, 7, 0] rfl)
  have hb_23 : ∀ (n : Nat) (h : fh_H) (y1 : Int32) (y2 : Int32) (y3 : Int32) (y4 : Int32) (y5 : Int32) (y6 : Int32) (H : Heap) (locs : List Loc) (ls : Array Slot), z_X12_feed_b23 S a n h y1 y2 y3 y4 y5 y6 = some (r, h') → fh_R S g s.heap h H locs → lv_has ls 8 [(0, .ref (g.2.2 a)), (1, .int y1), (2, .int y2), (3, .int y3), (4, .int y4), (5, .int y5), (6, .int y6)] → fh_Wk p l e 1 s m [.ref (g.2.2 a), .int x1, .int x2, .int x3, .int x4, .int x5] below meth c S g (some (.int r)) h' H locs (F0 m 23 ls []) := by
    intro n
    induction n with
    | zero => intro h y1 y2 y3 y4 y5 y6 H locs ls hsp; cases hsp
    | succ n ih =>
      intro h y1 y2 y3 y4 y5 y6 H locs ls hsp hR hl
      rw [z_X12_feed_b23] at hsp
      refine lv_iload hx hb dX12_feed_23 (lv_at hl 6 rfl) ?_
      refine lv_bipush (v := 20) hx hb dX12_feed_25 (by decide) ?_
      refine lv_icmp_ge (tgt := 120) hx hb dX12_feed_27 (by decide) (fun c1 => ?_) (fun c1 => ?_)
      · rw [if_pos c1] at hsp
        refine lv_aload_n hx hb dX12_feed_120 rfl (lv_at hl 0 rfl) ?_
        refine fr_geti C hR ha Fg_RX12_289 rfl dX12_feed_121 ?_
        obtain ⟨e1, e2⟩ := fr_s2 hsp
        exact fr_iret C hr hlocks hR e1 e2 dX12_feed_124
      · rw [if_neg c1] at hsp
        refine lv_iload hx hb dX12_feed_30 (lv_at hl 6 rfl) ?_
        refine lv_iconst (v := 4) hx hb dX12_feed_32 (by decide) ?_
        refine lv_icmp_ge (tgt := 40) hx hb dX12_feed_33 (by decide) (fun c2 => ?_) (fun c2 => ?_)
        · rw [if_pos c2] at hsp
          refine lv_iload hx hb dX12_feed_40 (lv_at hl 6 rfl) ?_
          refine lv_bipush (v := 8) hx hb dX12_feed_42 (by decide) ?_
          refine lv_icmp_ge (tgt := 51) hx hb dX12_feed_44 (by decide) (fun c3 => ?_) (fun c3 => ?_)
          · rw [if_pos c3] at hsp
            refine lv_iload hx hb dX12_feed_51 (lv_at hl 6 rfl) ?_
            refine lv_bipush (v := 12) hx hb dX12_feed_53 (by decide) ?_
            refine lv_icmp_ge (tgt := 62) hx hb dX12_feed_55 (by decide) (fun c4 => ?_) (fun c4 => ?_)
            · rw [if_pos c4] at hsp
              refine lv_iload hx hb dX12_feed_62 (lv_at hl 6 rfl) ?_
              refine lv_bipush (v := 16) hx hb dX12_feed_64 (by decide) ?_
              refine lv_icmp_ge (tgt := 74) hx hb dX12_feed_66 (by decide) (fun c5 => ?_) (fun c5 => ?_)
              · rw [if_pos c5] at hsp
                refine lv_iload hx hb dX12_feed_74 (lv_at hl 5 rfl) ?_
                exact hb_76 (z_X12_feed_b23 S a n) ih h y1 y2 y3 y4 y5 y6 y5 _ _ _ hsp hR (lv_sub hl [0, 1, 2, 3, 4, 5, 6] rfl)
              · rw [if_neg c5] at hsp
                refine lv_iload hx hb dX12_feed_69 (lv_at hl 4 rfl) ?_
                refine lv_goto (tgt := 76) hx hb dX12_feed_71 (by decide) ?_
                exact hb_76 (z_X12_feed_b23 S a n) ih h y1 y2 y3 y4 y5 y6 y4 _ _ _ hsp hR (lv_sub hl [0, 1, 2, 3, 4, 5, 6] rfl)
            · rw [if_neg c4] at hsp
              refine lv_iload_n hx hb dX12_feed_58 rfl (lv_at hl 3 rfl) ?_
              refine lv_goto (tgt := 76) hx hb dX12_feed_59 (by decide) ?_
              exact hb_76 (z_X12_feed_b23 S a n) ih h y1 y2 y3 y4 y5 y6 y3 _ _ _ hsp hR (lv_sub hl [0, 1, 2, 3, 4, 5, 6] rfl)
          · rw [if_neg c3] at hsp
            refine lv_iload_n hx hb dX12_feed_47 rfl (lv_at hl 2 rfl) ?_
            refine lv_goto (tgt := 76) hx hb dX12_feed_48 (by decide) ?_
            exact hb_76 (z_X12_feed_b23 S a n) ih h y1 y2 y3 y4 y5 y6 y2 _ _ _ hsp hR (lv_sub hl [0, 1, 2, 3, 4, 5, 6] rfl)
        · rw [if_neg c2] at hsp
          refine lv_iload_n hx hb dX12_feed_36 rfl (lv_at hl 1 rfl) ?_
          refine lv_goto (tgt := 76) hx hb dX12_feed_37 (by decide) ?_
          exact hb_76 (z_X12_feed_b23 S a n) ih h y1 y2 y3 y4 y5 y6 y1 _ _ _ hsp hR (lv_sub hl [0, 1, 2, 3, 4, 5, 6] rfl)
  refine lv_aload_n hx hb dX12_feed_0 rfl (lv_at hl 0 rfl) ?_
  refine lv_iconst (v := 0) hx hb dX12_feed_1 (by decide) ?_
  refine fr_puti C hR ha Fp_RX12_73 rfl dX12_feed_2 (fun H locs hR => ?_)
  obtain ⟨h1, eh1⟩ : ∃ z, z = fh_sI h a 3 (0 : Int32) := ⟨_, rfl⟩
  rw [← eh1] at hR
  have hsp := fr_let eh1 hsp
  refine lv_aload_n hx hb dX12_feed_5 rfl (lv_at hl 0 rfl) ?_
  refine fr_geti C hR ha Fg_RX12_289 rfl dX12_feed_6 ?_
  refine lv_bipush (v := 20) hx hb dX12_feed_9 (by decide) ?_
  refine lv_iadd hx hb dX12_feed_11 ?_
  refine lv_sipush (v := 200) hx hb dX12_feed_12 (by decide) ?_
  refine lv_icmp_le (tgt := 20) hx hb dX12_feed_15 (by decide) (fun c2 => ?_) (fun c2 => ?_)
  · rw [if_pos c2] at hsp
    refine lv_iconst (v := 0) hx hb dX12_feed_20 (by decide) ?_
    refine lv_istore (lv' := [(6, .int (0 : Int32)), (0, .ref (g.2.2 a)), (1, .int x1), (2, .int x2), (3, .int x3), (4, .int x4), (5, .int x5)]) hx hb dX12_feed_21 hl (by decide) rfl (fun ls hl => ?_)
    exact hb_23 20000 h1 x1 x2 x3 x4 x5 (0 : Int32) _ _ _ hsp hR (lv_sub hl [1, 2, 3, 4, 5, 6, 0] rfl)
  · rw [if_neg c2] at hsp
    refine lv_iconst (v := -1) hx hb dX12_feed_18 (by decide) ?_
    obtain ⟨e1, e2⟩ := fr_s2 hsp
    exact fr_iret C hr hlocks hR e1 e2 dX12_feed_19

/-! TermRowsModel.fault()I -/
def z_X12_fault (S : fh_S) (h : fh_H) (a : Nat) : Option (Int32 × fh_H) :=
    fh_let (fh_sI h a 3 (0 : Int32)) (fun h1 => some ((h1.1 a 43), h1))
set_option maxHeartbeats 4000000 in
set_option maxRecDepth 100000 in
theorem k_X12_fault {l : Launch} {S : fh_S} {g : fh_G} {h h' : fh_H} (hj : fh_inj S g) {a : Nat} {r : Int32} (ha : fh_kq S a 12 = true) (hsp : z_X12_fault S h a = some (r, h')) : fh_M l yX12_fault cX12_fault 1 (some .int) (fh_rm 1) S g [.ref (g.2.2 a)] h (some (.int r)) h' := by
  unfold z_X12_fault at hsp
  refine fr_head (own := RX12) (by decide) rfl hj (Nat.le_of_ble_eq_true rfl) ?_
  intro p e s m below meth c ls C hr hlocks hR hl
  have hl : lv_has ls 1 [(0, .ref (g.2.2 a))] := hl
  have hx := C.1.1
  have hb := C.1.2.1
  refine lv_aload_n hx hb dX12_fault_0 rfl (lv_at hl 0 rfl) ?_
  refine lv_iconst (v := 0) hx hb dX12_fault_1 (by decide) ?_
  refine fr_puti C hR ha Fp_RX12_73 rfl dX12_fault_2 (fun H locs hR => ?_)
  obtain ⟨h1, eh1⟩ : ∃ z, z = fh_sI h a 3 (0 : Int32) := ⟨_, rfl⟩
  rw [← eh1] at hR
  have hsp := fr_let eh1 hsp
  refine lv_aload_n hx hb dX12_fault_5 rfl (lv_at hl 0 rfl) ?_
  refine fr_geti C hR ha Fg_RX12_62 rfl dX12_fault_6 ?_
  obtain ⟨e1, e2⟩ := fr_s2 hsp
  exact fr_iret C hr hlocks hR e1 e2 dX12_fault_9
