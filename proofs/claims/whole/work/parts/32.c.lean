/-! TermRows$Tape.isNext(I)Z -/
def z_X10_isNext (S : fh_S) (h : fh_H) (a : Nat) (x1 : Int32) : Option Int32 :=
    if (h.1 a 7) = 0 then (if (h.1 a 5) < 0 then (some (0 : Int32)) else (fh_b1 (h.2.2 a 1) (fun j3 => fh_ck (fh_kq S j3 13) (if (Int32.ofNat (S.2.2 j3)) ≤ (h.1 a 5) then (some (0 : Int32)) else (fh_ck (fh_in (h.1 a 5) (S.2.2 j3)) (if (h.1 j3 (Int32.toNatClampNeg (h.1 a 5))) = x1 then (some (1 : Int32)) else (some (0 : Int32)))))))) else (some (0 : Int32))
set_option maxHeartbeats 4000000 in
set_option maxRecDepth 100000 in
theorem k_X10_isNext {l : Launch} {S : fh_S} {g : fh_G} {h : fh_H} (hj : fh_inj S g) {a : Nat} {x1 : Int32} {r : Int32} (ha : fh_kq S a 10 = true) (hsp : z_X10_isNext S h a x1 = some r) : fh_M l yX10_isNext cX10_isNext 2 (some .boolean) (fh_rm 1) S g [.ref (g.2.2 a), .int x1] h (some (.int r)) h := by
  unfold z_X10_isNext at hsp
  refine fr_head (own := RX10) (by decide) rfl hj (Nat.le_of_ble_eq_true rfl) ?_
  intro p e s m below meth c ls C hr hlocks hR hl
  have hl : lv_has ls 2 [(0, .ref (g.2.2 a)), (1, .int x1)] := hl
  have hx := C.1.1
  have hb := C.1.2.1
  refine lv_aload_n hx hb dX10_isNext_0 rfl (lv_at hl 0 rfl) ?_
  refine fr_geti C hR ha Fg_RX10_35 rfl dX10_isNext_1 ?_
  refine lv_if_ne (tgt := 43) hx hb dX10_isNext_4 (by decide) (fun c1 => ?_) (fun c1 => ?_)
  · rw [if_neg c1] at hsp
    refine lv_iconst (v := 0) hx hb dX10_isNext_43 (by decide) ?_
    have e1 := fr_s1 hsp
    exact fr_zret C hr hlocks hR (Or.inl rfl) e1 rfl dX10_isNext_44
  · rw [if_pos c1] at hsp
    refine lv_aload_n hx hb dX10_isNext_7 rfl (lv_at hl 0 rfl) ?_
    refine fr_geti C hR ha Fg_RX10_41 rfl dX10_isNext_8 ?_
    refine lv_if_lt (tgt := 43) hx hb dX10_isNext_11 (by decide) (fun c2 => ?_) (fun c2 => ?_)
    · rw [if_pos c2] at hsp
      refine lv_iconst (v := 0) hx hb dX10_isNext_43 (by decide) ?_
      have e1 := fr_s1 hsp
      exact fr_zret C hr hlocks hR (Or.inl rfl) e1 rfl dX10_isNext_44
    · rw [if_neg c2] at hsp
      refine lv_aload_n hx hb dX10_isNext_14 rfl (lv_at hl 0 rfl) ?_
      refine fr_geti C hR ha Fg_RX10_41 rfl dX10_isNext_15 ?_
      refine lv_aload_n hx hb dX10_isNext_18 rfl (lv_at hl 0 rfl) ?_
      obtain ⟨j3, hv4, hsp⟩ := fr_b1 hsp
      refine fr_getr C hR ha Fg_RX10_15 rfl hv4 dX10_isNext_19 ?_
      obtain ⟨hk5, hsp⟩ := fr_ck hsp
      refine fr_alen C hR hk5 (Or.inl rfl) dX10_isNext_22 ?_
      refine lv_icmp_ge (tgt := 43) hx hb dX10_isNext_23 (by decide) (fun c6 => ?_) (fun c6 => ?_)
      · rw [if_pos c6] at hsp
        refine lv_iconst (v := 0) hx hb dX10_isNext_43 (by decide) ?_
        have e1 := fr_s1 hsp
        exact fr_zret C hr hlocks hR (Or.inl rfl) e1 rfl dX10_isNext_44
      · rw [if_neg c6] at hsp
        refine lv_aload_n hx hb dX10_isNext_26 rfl (lv_at hl 0 rfl) ?_
        refine fr_getr C hR ha Fg_RX10_15 rfl hv4 dX10_isNext_27 ?_
        refine lv_aload_n hx hb dX10_isNext_30 rfl (lv_at hl 0 rfl) ?_
        refine fr_geti C hR ha Fg_RX10_41 rfl dX10_isNext_31 ?_
        obtain ⟨hi7, hsp⟩ := fr_ck hsp
        refine fr_iald C hR hk5 hi7 dX10_isNext_34 ?_
        refine lv_iload_n hx hb dX10_isNext_35 rfl (lv_at hl 1 rfl) ?_
        refine lv_icmp_ne (tgt := 43) hx hb dX10_isNext_36 (by decide) (fun c8 => ?_) (fun c8 => ?_)
        · rw [if_neg c8] at hsp
          refine lv_iconst (v := 0) hx hb dX10_isNext_43 (by decide) ?_
          have e1 := fr_s1 hsp
          exact fr_zret C hr hlocks hR (Or.inl rfl) e1 rfl dX10_isNext_44
        · rw [if_pos c8] at hsp
          refine lv_iconst (v := 1) hx hb dX10_isNext_39 (by decide) ?_
          refine lv_goto (tgt := 44) hx hb dX10_isNext_40 (by decide) ?_
          have e1 := fr_s1 hsp
          exact fr_zret C hr hlocks hR (Or.inr rfl) e1 rfl dX10_isNext_44

/-! TermRows$Tape.fail(I)V -/
def z_X10_fail (S : fh_S) (h : fh_H) (a : Nat) (x1 : Int32) : Option fh_H :=
    if (h.1 a 7) = 0 then (fh_let (fh_sI h a 7 x1) (fun h2 => if (h2.1 a 5) < 0 then (fh_let (fh_sI h2 a 8 (0 : Int32)) (fun h4 => some h4)) else (fh_b1 (h2.2.2 a 3) (fun j5 => fh_ck (fh_kq S j5 13) (if (Int32.ofNat (S.2.2 j5)) ≤ (h2.1 a 5) then (fh_let (fh_sI h2 a 8 (0 : Int32)) (fun h9 => some h9)) else (fh_ck (fh_in (h2.1 a 5) (S.2.2 j5)) (fh_let (fh_sI h2 a 8 (h2.1 j5 (Int32.toNatClampNeg (h2.1 a 5)))) (fun h11 => some h11)))))))) else (some h)
set_option maxHeartbeats 4000000 in
set_option maxRecDepth 100000 in
theorem k_X10_fail {l : Launch} {S : fh_S} {g : fh_G} {h h' : fh_H} (hj : fh_inj S g) {a : Nat} {x1 : Int32} (ha : fh_kq S a 10 = true) (hsp : z_X10_fail S h a x1 = some h') : fh_M l yX10_fail cX10_fail 2 none (fh_rm 1) S g [.ref (g.2.2 a), .int x1] h none h' := by
  unfold z_X10_fail at hsp
  refine fr_head (own := RX10) (by decide) rfl hj (Nat.le_of_ble_eq_true rfl) ?_
  intro p e s m below meth c ls C hr hlocks hR hl
  have hl : lv_has ls 2 [(0, .ref (g.2.2 a)), (1, .int x1)] := hl
  have hx := C.1.1
  have hb := C.1.2.1
  refine lv_aload_n hx hb dX10_fail_0 rfl (lv_at hl 0 rfl) ?_
  refine fr_geti C hR ha Fg_RX10_35 rfl dX10_fail_1 ?_
  refine lv_if_ne (tgt := 48) hx hb dX10_fail_4 (by decide) (fun c1 => ?_) (fun c1 => ?_)
  · rw [if_neg c1] at hsp
    exact fr_vret C hr hlocks hR (fr_s1 hsp) dX10_fail_48
  · rw [if_pos c1] at hsp
    refine lv_aload_n hx hb dX10_fail_7 rfl (lv_at hl 0 rfl) ?_
    refine lv_iload_n hx hb dX10_fail_8 rfl (lv_at hl 1 rfl) ?_
    refine fr_puti C hR ha Fp_RX10_35 rfl dX10_fail_9 (fun H locs hR => ?_)
    obtain ⟨h2, eh2⟩ : ∃ z, z = fh_sI h a 7 x1 := ⟨_, rfl⟩
    rw [← eh2] at hR
    have hsp := fr_let eh2 hsp
    refine lv_aload_n hx hb dX10_fail_12 rfl (lv_at hl 0 rfl) ?_
    refine lv_aload_n hx hb dX10_fail_13 rfl (lv_at hl 0 rfl) ?_
    refine fr_geti C hR ha Fg_RX10_41 rfl dX10_fail_14 ?_
    refine lv_if_lt (tgt := 44) hx hb dX10_fail_17 (by decide) (fun c3 => ?_) (fun c3 => ?_)
    · rw [if_pos c3] at hsp
      refine lv_iconst (v := 0) hx hb dX10_fail_44 (by decide) ?_
      refine fr_puti C hR ha Fp_RX10_24 rfl dX10_fail_45 (fun H locs hR => ?_)
      obtain ⟨h4, eh4⟩ : ∃ z, z = fh_sI h2 a 8 (0 : Int32) := ⟨_, rfl⟩
      rw [← eh4] at hR
      have hsp := fr_let eh4 hsp
      exact fr_vret C hr hlocks hR (fr_s1 hsp) dX10_fail_48
    · rw [if_neg c3] at hsp
      refine lv_aload_n hx hb dX10_fail_20 rfl (lv_at hl 0 rfl) ?_
      refine fr_geti C hR ha Fg_RX10_41 rfl dX10_fail_21 ?_
      refine lv_aload_n hx hb dX10_fail_24 rfl (lv_at hl 0 rfl) ?_
      obtain ⟨j5, hv6, hsp⟩ := fr_b1 hsp
      refine fr_getr C hR ha Fg_RX10_21 rfl hv6 dX10_fail_25 ?_
      obtain ⟨hk7, hsp⟩ := fr_ck hsp
      refine fr_alen C hR hk7 (Or.inl rfl) dX10_fail_28 ?_
      refine lv_icmp_ge (tgt := 44) hx hb dX10_fail_29 (by decide) (fun c8 => ?_) (fun c8 => ?_)
      · rw [if_pos c8] at hsp
        refine lv_iconst (v := 0) hx hb dX10_fail_44 (by decide) ?_
        refine fr_puti C hR ha Fp_RX10_24 rfl dX10_fail_45 (fun H locs hR => ?_)
        obtain ⟨h9, eh9⟩ : ∃ z, z = fh_sI h2 a 8 (0 : Int32) := ⟨_, rfl⟩
        rw [← eh9] at hR
        have hsp := fr_let eh9 hsp
        exact fr_vret C hr hlocks hR (fr_s1 hsp) dX10_fail_48
      · rw [if_neg c8] at hsp
        refine lv_aload_n hx hb dX10_fail_32 rfl (lv_at hl 0 rfl) ?_
        refine fr_getr C hR ha Fg_RX10_21 rfl hv6 dX10_fail_33 ?_
        refine lv_aload_n hx hb dX10_fail_36 rfl (lv_at hl 0 rfl) ?_
        refine fr_geti C hR ha Fg_RX10_41 rfl dX10_fail_37 ?_
        obtain ⟨hi10, hsp⟩ := fr_ck hsp
        refine fr_iald C hR hk7 hi10 dX10_fail_40 ?_
        refine lv_goto (tgt := 45) hx hb dX10_fail_41 (by decide) ?_
        refine fr_puti C hR ha Fp_RX10_24 rfl dX10_fail_45 (fun H locs hR => ?_)
        obtain ⟨h11, eh11⟩ : ∃ z, z = fh_sI h2 a 8 (h2.1 j5 (Int32.toNatClampNeg (h2.1 a 5))) := ⟨_, rfl⟩
        rw [← eh11] at hR
        have hsp := fr_let eh11 hsp
        exact fr_vret C hr hlocks hR (fr_s1 hsp) dX10_fail_48

/-! TermRows.fault()I -/
def z_X11_fault (S : fh_S) (h : fh_H) (a : Nat) : Option Int32 :=
    fh_b1 (h.2.2 a 6) (fun j1 => fh_ck (fh_kq S j1 10) (some (h.1 j1 8)))
set_option maxHeartbeats 4000000 in
set_option maxRecDepth 100000 in
theorem k_X11_fault {l : Launch} {S : fh_S} {g : fh_G} {h : fh_H} (hj : fh_inj S g) {a : Nat} {r : Int32} (ha : fh_kq S a 11 = true) (hsp : z_X11_fault S h a = some r) : fh_M l yX11_fault cX11_fault 1 (some .int) (fh_rm 1) S g [.ref (g.2.2 a)] h (some (.int r)) h := by
  unfold z_X11_fault at hsp
  refine fr_head (own := RX11) (by decide) rfl hj (Nat.le_of_ble_eq_true rfl) ?_
  intro p e s m below meth c ls C hr hlocks hR hl
  have hl : lv_has ls 1 [(0, .ref (g.2.2 a))] := hl
  have hx := C.1.1
  have hb := C.1.2.1
  refine lv_aload_n hx hb dX11_fault_0 rfl (lv_at hl 0 rfl) ?_
  obtain ⟨j1, hv2, hsp⟩ := fr_b1 hsp
  refine fr_getr C hR ha Fg_RX11_53 rfl hv2 dX11_fault_1 ?_
  obtain ⟨hk3, hsp⟩ := fr_ck hsp
  refine fr_geti C hR hk3 Fg_RX11_134 rfl dX11_fault_4 ?_
  have e1 := fr_s1 hsp
  exact fr_iret C hr hlocks hR e1 rfl dX11_fault_7

/-! TermRows.within(II)Z -/
def z_X11_within (x0 : Int32) (x1 : Int32) : Option Int32 :=
    if x0 < (-x1) then (some (0 : Int32)) else (if x1 < x0 then (some (0 : Int32)) else (some (1 : Int32)))
set_option maxHeartbeats 4000000 in
set_option maxRecDepth 100000 in
theorem k_X11_within {l : Launch} {S : fh_S} {g : fh_G} {h : fh_H} (hj : fh_inj S g) {x0 : Int32} {x1 : Int32} {r : Int32} (hsp : z_X11_within x0 x1 = some r) : fh_M l yX11_within cX11_within 2 (some .boolean) (fh_rm 1) S g [.int x0, .int x1] h (some (.int r)) h := by
  unfold z_X11_within at hsp
  refine fr_head (own := RX11) (by decide) rfl hj (Nat.le_of_ble_eq_true rfl) ?_
  intro p e s m below meth c ls C hr hlocks hR hl
  have hl : lv_has ls 2 [(0, .int x0), (1, .int x1)] := hl
  have hx := C.1.1
  have hb := C.1.2.1
  refine lv_iload_n hx hb dX11_within_0 rfl (lv_at hl 0 rfl) ?_
  refine lv_iload_n hx hb dX11_within_1 rfl (lv_at hl 1 rfl) ?_
  refine lv_ineg hx hb dX11_within_2 ?_
  refine lv_icmp_lt (tgt := 15) hx hb dX11_within_3 (by decide) (fun c1 => ?_) (fun c1 => ?_)
  · rw [if_pos c1] at hsp
    refine lv_iconst (v := 0) hx hb dX11_within_15 (by decide) ?_
    have e1 := fr_s1 hsp
    exact fr_zret C hr hlocks hR (Or.inl rfl) e1 rfl dX11_within_16
  · rw [if_neg c1] at hsp
    refine lv_iload_n hx hb dX11_within_6 rfl (lv_at hl 0 rfl) ?_
    refine lv_iload_n hx hb dX11_within_7 rfl (lv_at hl 1 rfl) ?_
    refine lv_icmp_gt (tgt := 15) hx hb dX11_within_8 (by decide) (fun c2 => ?_) (fun c2 => ?_)
    · rw [if_pos c2] at hsp
      refine lv_iconst (v := 0) hx hb dX11_within_15 (by decide) ?_
      have e1 := fr_s1 hsp
      exact fr_zret C hr hlocks hR (Or.inl rfl) e1 rfl dX11_within_16
    · rw [if_neg c2] at hsp
      refine lv_iconst (v := 1) hx hb dX11_within_11 (by decide) ?_
      refine lv_goto (tgt := 16) hx hb dX11_within_12 (by decide) ?_
      have e1 := fr_s1 hsp
      exact fr_zret C hr hlocks hR (Or.inr rfl) e1 rfl dX11_within_16

/-! TermRows.grown(JJJ)J -/
def z_X11_grown_b43 (y0 : Int64) (y2 : Int64) (y4 : Int64) : Option Int64 :=
    fh_let (((y0 * y2) + y4)) (fun v1 => if (1000000000000000 : Int64) < v1 then (some (1000000000000001 : Int64)) else (if (-1000000000000000 : Int64) ≤ v1 then (some v1) else (some (1000000000000001 : Int64))))
def z_X11_grown_b21 (y0 : Int64) (y2 : Int64) (y4 : Int64) (t0 : Int64) (t1 : Int64) : Option Int64 :=
    fh_ck (decide (¬ t0 = 0)) (fh_let ((t1 / t0)) (fun v2 => if v2 < y0 then (some (1000000000000001 : Int64)) else (if (-v2) ≤ y0 then (z_X11_grown_b43 y0 y2 y4) else (some (1000000000000001 : Int64)))))
def z_X11_grown (x0 : Int64) (x2 : Int64) (x4 : Int64) : Option Int64 :=
    if x2 = (0 : Int64) then (z_X11_grown_b43 x0 x2 x4) else (if (0 : Int64) ≤ x2 then (z_X11_grown_b21 x0 x2 x4 x2 (2000000000000000 : Int64)) else (z_X11_grown_b21 x0 x2 x4 (-x2) (2000000000000000 : Int64)))
set_option maxHeartbeats 4000000 in
set_option maxRecDepth 100000 in
theorem k_X11_grown {l : Launch} {S : fh_S} {g : fh_G} {h : fh_H} (hj : fh_inj S g) {x0 : Int64} {x2 : Int64} {x4 : Int64} {r : Int64} (hsp : z_X11_grown x0 x2 x4 = some r) : fh_M l yX11_grown cX11_grown 8 (some .long) (fh_rm 1) S g [.long x0, .long x2, .long x4] h (some (.long r)) h := by
  unfold z_X11_grown at hsp
  refine fr_head (own := RX11) (by decide) rfl hj (Nat.le_of_ble_eq_true rfl) ?_
  intro p e s m below meth c ls C hr hlocks hR hl
  have hl : lv_has ls 8 [(0, .long x0), (2, .long x2), (4, .long x4)] := hl
  have hx := C.1.1
  have hb := C.1.2.1
  have hb_43 : ∀ (y0 : Int64) (y2 : Int64) (y4 : Int64) (H : Heap) (locs : List Loc) (ls : Array Slot), z_X11_grown_b43 y0 y2 y4 = some r → fh_R S g s.heap h H locs → lv_has ls 8 [(0, .long y0), (2, .long y2), (4, .long y4)] → fh_Wk p l e 1 s m [.long x0, .long x2, .long x4] below meth c S g (some (.long r)) h H locs (F0 m 43 ls []) := by
    intro y0 y2 y4 H locs ls hsp hR hl
    unfold z_X11_grown_b43 at hsp
    refine lv_lload_n hx hb dX11_grown_43 rfl (lv_at hl 0 rfl) ?_
    refine lv_lload_n hx hb dX11_grown_44 rfl (lv_at hl 1 rfl) ?_
    refine lv_lmul hx hb dX11_grown_45 ?_
    refine lv_lload hx hb dX11_grown_46 (lv_at hl 2 rfl) ?_
    refine lv_ladd hx hb dX11_grown_48 ?_
    refine lv_topl (fun v1 ev1 => ?_)
    have hsp := fr_let ev1 hsp
    refine lv_lstore (lv' := [(6, .long v1), (0, .long y0), (2, .long y2), (4, .long y4)]) hx hb dX11_grown_49 hl (by decide) rfl (fun ls hl => ?_)
    refine lv_lload hx hb dX11_grown_51 (lv_at hl 0 rfl) ?_
    refine lv_ldc2 hx hb C.1.2.2.2.1 (C.1.2.2.2.2 _ Kc_RX11_344) dX11_grown_53 ?_
    refine fr_lc_gt (tgt := 69) hx hb dX11_grown_56 dX11_grown_57 (by decide) (fun c2 => ?_) (fun c2 => ?_)
    · rw [if_pos c2] at hsp
      refine lv_ldc2 hx hb C.1.2.2.2.1 (C.1.2.2.2.2 _ Kc_RX11_247) dX11_grown_69 ?_
      refine lv_goto (tgt := 77) hx hb dX11_grown_72 (by decide) ?_
      have e1 := fr_s1 hsp
      exact fr_lret C hr hlocks hR e1 rfl dX11_grown_77
    · rw [if_neg c2] at hsp
      refine lv_lload hx hb dX11_grown_60 (lv_at hl 0 rfl) ?_
      refine lv_ldc2 hx hb C.1.2.2.2.1 (C.1.2.2.2.2 _ Kc_RX11_346) dX11_grown_62 ?_
      refine fr_lc_ge (tgt := 75) hx hb dX11_grown_65 dX11_grown_66 (by decide) (fun c3 => ?_) (fun c3 => ?_)
      · rw [if_pos c3] at hsp
        refine lv_lload hx hb dX11_grown_75 (lv_at hl 0 rfl) ?_
        have e1 := fr_s1 hsp
        exact fr_lret C hr hlocks hR e1 rfl dX11_grown_77
      · rw [if_neg c3] at hsp
        refine lv_ldc2 hx hb C.1.2.2.2.1 (C.1.2.2.2.2 _ Kc_RX11_247) dX11_grown_69 ?_
        refine lv_goto (tgt := 77) hx hb dX11_grown_72 (by decide) ?_
        have e1 := fr_s1 hsp
        exact fr_lret C hr hlocks hR e1 rfl dX11_grown_77
  have hb_21 : ∀ (y0 : Int64) (y2 : Int64) (y4 : Int64) (t0 : Int64) (t1 : Int64) (H : Heap) (locs : List Loc) (ls : Array Slot), z_X11_grown_b21 y0 y2 y4 t0 t1 = some r → fh_R S g s.heap h H locs → lv_has ls 8 [(0, .long y0), (2, .long y2), (4, .long y4)] → fh_Wk p l e 1 s m [.long x0, .long x2, .long x4] below meth c S g (some (.long r)) h H locs (F0 m 21 ls [.long t0, .long t1]) := by
    intro y0 y2 y4 t0 t1 H locs ls hsp hR hl
    unfold z_X11_grown_b21 at hsp
    obtain ⟨hz1, hsp⟩ := fr_ck hsp
    refine lv_ldiv hx hb dX11_grown_21 (of_decide_eq_true hz1) ?_
    refine lv_topl (fun v2 ev2 => ?_)
    have hsp := fr_let ev2 hsp
    refine lv_lstore (lv' := [(6, .long v2), (0, .long y0), (2, .long y2), (4, .long y4)]) hx hb dX11_grown_22 hl (by decide) rfl (fun ls hl => ?_)
    refine lv_lload_n hx hb dX11_grown_24 rfl (lv_at hl 1 rfl) ?_
    refine lv_lload hx hb dX11_grown_25 (lv_at hl 0 rfl) ?_
    refine fr_lc_gt (tgt := 39) hx hb dX11_grown_27 dX11_grown_28 (by decide) (fun c3 => ?_) (fun c3 => ?_)
    · rw [if_pos c3] at hsp
      refine lv_ldc2 hx hb C.1.2.2.2.1 (C.1.2.2.2.2 _ Kc_RX11_247) dX11_grown_39 ?_
      have e1 := fr_s1 hsp
      exact fr_lret C hr hlocks hR e1 rfl dX11_grown_42
    · rw [if_neg c3] at hsp
      refine lv_lload_n hx hb dX11_grown_31 rfl (lv_at hl 1 rfl) ?_
      refine lv_lload hx hb dX11_grown_32 (lv_at hl 0 rfl) ?_
      refine lv_lneg hx hb dX11_grown_34 ?_
      refine fr_lc_ge (tgt := 43) hx hb dX11_grown_35 dX11_grown_36 (by decide) (fun c4 => ?_) (fun c4 => ?_)
      · rw [if_pos c4] at hsp
        exact hb_43 y0 y2 y4 _ _ _ hsp hR (lv_sub hl [1, 2, 3] rfl)
      · rw [if_neg c4] at hsp
        refine lv_ldc2 hx hb C.1.2.2.2.1 (C.1.2.2.2.2 _ Kc_RX11_247) dX11_grown_39 ?_
        have e1 := fr_s1 hsp
        exact fr_lret C hr hlocks hR e1 rfl dX11_grown_42
  refine lv_lload_n hx hb dX11_grown_0 rfl (lv_at hl 1 rfl) ?_
  refine lv_lconst (v := 0) hx hb dX11_grown_1 (by decide) ?_
  refine fr_lc_eq (tgt := 43) hx hb dX11_grown_2 dX11_grown_3 (by decide) (fun c1 => ?_) (fun c1 => ?_)
  · rw [if_pos c1] at hsp
    exact hb_43 x0 x2 x4 _ _ _ hsp hR (lv_sub hl [0, 1, 2] rfl)
  · rw [if_neg c1] at hsp
    refine lv_ldc2 hx hb C.1.2.2.2.1 (C.1.2.2.2.2 _ Kc_RX11_342) dX11_grown_6 ?_
    refine lv_lload_n hx hb dX11_grown_9 rfl (lv_at hl 1 rfl) ?_
    refine lv_lconst (v := 0) hx hb dX11_grown_10 (by decide) ?_
    refine fr_lc_ge (tgt := 20) hx hb dX11_grown_11 dX11_grown_12 (by decide) (fun c2 => ?_) (fun c2 => ?_)
    · rw [if_pos c2] at hsp
      refine lv_lload_n hx hb dX11_grown_20 rfl (lv_at hl 1 rfl) ?_
      exact hb_21 x0 x2 x4 x2 (2000000000000000 : Int64) _ _ _ hsp hR (lv_sub hl [0, 1, 2] rfl)
    · rw [if_neg c2] at hsp
      refine lv_lload_n hx hb dX11_grown_15 rfl (lv_at hl 1 rfl) ?_
      refine lv_lneg hx hb dX11_grown_16 ?_
      refine lv_goto (tgt := 21) hx hb dX11_grown_17 (by decide) ?_
      exact hb_21 x0 x2 x4 (-x2) (2000000000000000 : Int64) _ _ _ hsp hR (lv_sub hl [0, 1, 2] rfl)

/-! TermRows.wholeRoot(J)J -/
def z_X11_wholeRoot_b7 : Nat → Int64 → Int64 → Int64 → Option Int64
  | 0, _, _, _ => none
  | n + 1, y0, y2, y4 =>
    if y4 ≤ (0 : Int64) then (some y2) else (if y0 < ((y2 + y4) * (y2 + y4)) then (fh_let ((y4 >>> (Int32.toInt64 (1 : Int32) &&& 63))) (fun v3 => z_X11_wholeRoot_b7 n y0 y2 v3)) else (fh_let ((y2 + y4)) (fun v4 => fh_let ((y4 >>> (Int32.toInt64 (1 : Int32) &&& 63))) (fun v5 => z_X11_wholeRoot_b7 n y0 v4 v5))))
def z_X11_wholeRoot (x0 : Int64) : Option Int64 :=
    z_X11_wholeRoot_b7 20000 x0 (0 : Int64) (8192 : Int64)
set_option maxHeartbeats 4000000 in
set_option maxRecDepth 100000 in
theorem k_X11_wholeRoot {l : Launch} {S : fh_S} {g : fh_G} {h : fh_H} (hj : fh_inj S g) {x0 : Int64} {r : Int64} (hsp : z_X11_wholeRoot x0 = some r) : fh_M l yX11_wholeRoot cX11_wholeRoot 6 (some .long) (fh_rm 1) S g [.long x0] h (some (.long r)) h := by
  unfold z_X11_wholeRoot at hsp
  refine fr_head (own := RX11) (by decide) rfl hj (Nat.le_of_ble_eq_true rfl) ?_
  intro p e s m below meth c ls C hr hlocks hR hl
  have hl : lv_has ls 6 [(0, .long x0)] := hl
  have hx := C.1.1
  have hb := C.1.2.1
  have hb_7 : ∀ (n : Nat) (y0 : Int64) (y2 : Int64) (y4 : Int64) (H : Heap) (locs : List Loc) (ls : Array Slot), z_X11_wholeRoot_b7 n y0 y2 y4 = some r → fh_R S g s.heap h H locs → lv_has ls 6 [(0, .long y0), (2, .long y2), (4, .long y4)] → fh_Wk p l e 1 s m [.long x0] below meth c S g (some (.long r)) h H locs (F0 m 7 ls []) := by
    intro n
    induction n with
    | zero => intro y0 y2 y4 H locs ls hsp; cases hsp
    | succ n ih =>
      intro y0 y2 y4 H locs ls hsp hR hl
      rw [z_X11_wholeRoot_b7] at hsp
      refine lv_lload hx hb dX11_wholeRoot_7 (lv_at hl 2 rfl) ?_
      refine lv_lconst (v := 0) hx hb dX11_wholeRoot_9 (by decide) ?_
      refine fr_lc_le (tgt := 42) hx hb dX11_wholeRoot_10 dX11_wholeRoot_11 (by decide) (fun c1 => ?_) (fun c1 => ?_)
      · rw [if_pos c1] at hsp
        refine lv_lload_n hx hb dX11_wholeRoot_42 rfl (lv_at hl 1 rfl) ?_
        have e1 := fr_s1 hsp
        exact fr_lret C hr hlocks hR e1 rfl dX11_wholeRoot_43
      · rw [if_neg c1] at hsp
        refine lv_lload_n hx hb dX11_wholeRoot_14 rfl (lv_at hl 1 rfl) ?_
        refine lv_lload hx hb dX11_wholeRoot_15 (lv_at hl 2 rfl) ?_
        refine lv_ladd hx hb dX11_wholeRoot_17 ?_
        refine lv_lload_n hx hb dX11_wholeRoot_18 rfl (lv_at hl 1 rfl) ?_
        refine lv_lload hx hb dX11_wholeRoot_19 (lv_at hl 2 rfl) ?_
        refine lv_ladd hx hb dX11_wholeRoot_21 ?_
        refine lv_lmul hx hb dX11_wholeRoot_22 ?_
        refine lv_lload_n hx hb dX11_wholeRoot_23 rfl (lv_at hl 0 rfl) ?_
        refine fr_lc_gt (tgt := 33) hx hb dX11_wholeRoot_24 dX11_wholeRoot_25 (by decide) (fun c2 => ?_) (fun c2 => ?_)
        · rw [if_pos c2] at hsp
          refine lv_lload hx hb dX11_wholeRoot_33 (lv_at hl 2 rfl) ?_
          refine lv_iconst (v := 1) hx hb dX11_wholeRoot_35 (by decide) ?_
          refine lv_lshr hx hb dX11_wholeRoot_36 rfl ?_
          refine lv_topl (fun v3 ev3 => ?_)
          have hsp := fr_let ev3 hsp
          refine lv_lstore (lv' := [(4, .long v3), (0, .long y0), (2, .long y2)]) hx hb dX11_wholeRoot_37 hl (by decide) rfl (fun ls hl => ?_)
          refine lv_goto (tgt := 7) hx hb dX11_wholeRoot_39 (by decide) ?_
          exact ih y0 y2 v3 _ _ _ hsp hR (lv_sub hl [1, 2, 0] rfl)
        · rw [if_neg c2] at hsp
          refine lv_lload_n hx hb dX11_wholeRoot_28 rfl (lv_at hl 1 rfl) ?_
          refine lv_lload hx hb dX11_wholeRoot_29 (lv_at hl 2 rfl) ?_
          refine lv_ladd hx hb dX11_wholeRoot_31 ?_
          refine lv_topl (fun v4 ev4 => ?_)
          have hsp := fr_let ev4 hsp
          refine lv_lstore_n (lv' := [(2, .long v4), (0, .long y0), (4, .long y4)]) hx hb dX11_wholeRoot_32 rfl hl (by decide) rfl (fun ls hl => ?_)
          refine lv_lload hx hb dX11_wholeRoot_33 (lv_at hl 2 rfl) ?_
          refine lv_iconst (v := 1) hx hb dX11_wholeRoot_35 (by decide) ?_
          refine lv_lshr hx hb dX11_wholeRoot_36 rfl ?_
          refine lv_topl (fun v5 ev5 => ?_)
          have hsp := fr_let ev5 hsp
          refine lv_lstore (lv' := [(4, .long v5), (2, .long v4), (0, .long y0)]) hx hb dX11_wholeRoot_37 hl (by decide) rfl (fun ls hl => ?_)
          refine lv_goto (tgt := 7) hx hb dX11_wholeRoot_39 (by decide) ?_
          exact ih y0 v4 v5 _ _ _ hsp hR (lv_sub hl [2, 1, 0] rfl)
  refine lv_lconst (v := 0) hx hb dX11_wholeRoot_0 (by decide) ?_
  refine lv_lstore_n (lv' := [(2, .long (0 : Int64)), (0, .long x0)]) hx hb dX11_wholeRoot_1 rfl hl (by decide) rfl (fun ls hl => ?_)
  refine lv_ldc2 hx hb C.1.2.2.2.1 (C.1.2.2.2.2 _ Kc_RX11_348) dX11_wholeRoot_2 ?_
  refine lv_lstore (lv' := [(4, .long (8192 : Int64)), (2, .long (0 : Int64)), (0, .long x0)]) hx hb dX11_wholeRoot_5 hl (by decide) rfl (fun ls hl => ?_)
  exact hb_7 20000 x0 (0 : Int64) (8192 : Int64) _ _ _ hsp hR (lv_sub hl [2, 1, 0] rfl)

/-! TermRows.find(I)LTermRows$Row; -/
def z_X11_find (S : fh_S) (h : fh_H) (a : Nat) (x1 : Int32) : Option (Option Nat) :=
    if x1 < 0 then (some none) else (fh_b1 (h.2.2 a 0) (fun j2 => fh_ck (fh_kq S j2 16) (if (Int32.ofNat (S.2.2 j2)) ≤ x1 then (some none) else (fh_ck (fh_in x1 (S.2.2 j2)) (fh_nn (h.2.2 j2 (Int32.toNatClampNeg x1)) (some none) (fun j7 => some (some j7)))))))
set_option maxHeartbeats 4000000 in
set_option maxRecDepth 100000 in
theorem k_X11_find {l : Launch} {S : fh_S} {g : fh_G} {h : fh_H} (hj : fh_inj S g) {a : Nat} {x1 : Int32} {r : Option Nat} (ha : fh_kq S a 11 = true) (hsp : z_X11_find S h a x1 = some r) : fh_M l yX11_find cX11_find 2 (some (.object "TermRows$Row")) (fh_rm 1) S g [.ref (g.2.2 a), .int x1] h (some (va_rf (r.map g.2.2))) h := by
  unfold z_X11_find at hsp
  refine fr_head (own := RX11) (by decide) rfl hj (Nat.le_of_ble_eq_true rfl) ?_
  intro p e s m below meth c ls C hr hlocks hR hl
  have hl : lv_has ls 2 [(0, .ref (g.2.2 a)), (1, .int x1)] := hl
  have hx := C.1.1
  have hb := C.1.2.1
  refine lv_iload_n hx hb dX11_find_0 rfl (lv_at hl 1 rfl) ?_
  refine lv_if_lt (tgt := 22) hx hb dX11_find_1 (by decide) (fun c1 => ?_) (fun c1 => ?_)
  · rw [if_pos c1] at hsp
    refine lv_null hx hb dX11_find_22 ?_
    have e1 := fr_s1 hsp
    exact fr_nret C hr hlocks hR e1 rfl dX11_find_23
  · rw [if_neg c1] at hsp
    refine lv_iload_n hx hb dX11_find_4 rfl (lv_at hl 1 rfl) ?_
    refine lv_aload_n hx hb dX11_find_5 rfl (lv_at hl 0 rfl) ?_
    obtain ⟨j2, hv3, hsp⟩ := fr_b1 hsp
    refine fr_getr C hR ha Fg_RX11_11 rfl hv3 dX11_find_6 ?_
    obtain ⟨hk4, hsp⟩ := fr_ck hsp
    refine fr_alen C hR hk4 (Or.inr (Or.inr (Or.inr rfl))) dX11_find_9 ?_
    refine lv_icmp_ge (tgt := 22) hx hb dX11_find_10 (by decide) (fun c5 => ?_) (fun c5 => ?_)
    · rw [if_pos c5] at hsp
      refine lv_null hx hb dX11_find_22 ?_
      have e1 := fr_s1 hsp
      exact fr_nret C hr hlocks hR e1 rfl dX11_find_23
    · rw [if_neg c5] at hsp
      refine lv_aload_n hx hb dX11_find_13 rfl (lv_at hl 0 rfl) ?_
      refine fr_getr C hR ha Fg_RX11_11 rfl hv3 dX11_find_14 ?_
      refine lv_iload_n hx hb dX11_find_17 rfl (lv_at hl 1 rfl) ?_
      obtain ⟨hi6, hsp⟩ := fr_ck hsp
      rcases hv8 : (h.2.2 j2 (Int32.toNatClampNeg x1)) with _ | j7
      · rw [hv8] at hsp; have hsp := fr_nnN hsp
        refine fr_aaln C hR hk4 (Or.inr rfl) hi6 hv8 dX11_find_18 ?_
        refine lv_goto (tgt := 23) hx hb dX11_find_19 (by decide) ?_
        have e1 := fr_s1 hsp
        exact fr_nret C hr hlocks hR e1 rfl dX11_find_23
      · rw [hv8] at hsp; have hsp := fr_nnS hsp
        refine fr_aald C hR hk4 (Or.inr rfl) hi6 hv8 dX11_find_18 ?_
        refine lv_goto (tgt := 23) hx hb dX11_find_19 (by decide) ?_
        have e1 := fr_s1 hsp
        exact fr_aret C hr hlocks hR e1 rfl dX11_find_23

/-! TermRows.rowsOfKind(I)I -/
def z_X11_rowsOfKind_b4 (S : fh_S) (a : Nat) : Nat → fh_H → Int32 → Int32 → Int32 → Option Int32
  | 0, _, _, _, _ => none
  | n + 1, h, y1, y2, y3 =>
    fh_b1 (h.2.2 a 0) (fun j1 => fh_ck (fh_kq S j1 16) (if (Int32.ofNat (S.2.2 j1)) ≤ y3 then (some y2) else (fh_ck (fh_in y3 (S.2.2 j1)) (fh_nn (h.2.2 j1 (Int32.toNatClampNeg y3)) (fh_let (y3 + 1) (fun v8 => z_X11_rowsOfKind_b4 S a n h y1 y2 v8)) (fun j6 => fh_ck (fh_kq S j6 6) (fh_b1 (h.2.2 j6 4) (fun j10 => fh_ck (fh_kq S j10 3) (if (h.1 j10 0) = y1 then (fh_let (y2 + 1) (fun v15 => fh_let (y3 + 1) (fun v16 => z_X11_rowsOfKind_b4 S a n h y1 v15 v16))) else (fh_let (y3 + 1) (fun v14 => z_X11_rowsOfKind_b4 S a n h y1 y2 v14))))))))))
def z_X11_rowsOfKind (S : fh_S) (h : fh_H) (a : Nat) (x1 : Int32) : Option Int32 :=
    z_X11_rowsOfKind_b4 S a 20000 h x1 (0 : Int32) (0 : Int32)
set_option maxHeartbeats 4000000 in
set_option maxRecDepth 100000 in
theorem k_X11_rowsOfKind {l : Launch} {S : fh_S} {g : fh_G} {h : fh_H} (hj : fh_inj S g) {a : Nat} {x1 : Int32} {r : Int32} (ha : fh_kq S a 11 = true) (hsp : z_X11_rowsOfKind S h a x1 = some r) : fh_M l yX11_rowsOfKind cX11_rowsOfKind 4 (some .int) (fh_rm 1) S g [.ref (g.2.2 a), .int x1] h (some (.int r)) h := by
  unfold z_X11_rowsOfKind at hsp
  refine fr_head (own := RX11) (by decide) rfl hj (Nat.le_of_ble_eq_true rfl) ?_
  intro p e s m below meth c ls C hr hlocks hR hl
  have hl : lv_has ls 4 [(0, .ref (g.2.2 a)), (1, .int x1)] := hl
  have hx := C.1.1
  have hb := C.1.2.1
  have hb_4 : ∀ (n : Nat) (y1 : Int32) (y2 : Int32) (y3 : Int32) (H : Heap) (locs : List Loc) (ls : Array Slot), z_X11_rowsOfKind_b4 S a n h y1 y2 y3 = some r → fh_R S g s.heap h H locs → lv_has ls 4 [(0, .ref (g.2.2 a)), (1, .int y1), (2, .int y2), (3, .int y3)] → fh_Wk p l e 1 s m [.ref (g.2.2 a), .int x1] below meth c S g (some (.int r)) h H locs (F0 m 4 ls []) := by
    intro n
    induction n with
    | zero => intro y1 y2 y3 H locs ls hsp; cases hsp
    | succ n ih =>
      intro y1 y2 y3 H locs ls hsp hR hl
      rw [z_X11_rowsOfKind_b4] at hsp
      refine lv_iload_n hx hb dX11_rowsOfKind_4 rfl (lv_at hl 3 rfl) ?_
      refine lv_aload_n hx hb dX11_rowsOfKind_5 rfl (lv_at hl 0 rfl) ?_
      obtain ⟨j1, hv2, hsp⟩ := fr_b1 hsp
      refine fr_getr C hR ha Fg_RX11_11 rfl hv2 dX11_rowsOfKind_6 ?_
      obtain ⟨hk3, hsp⟩ := fr_ck hsp
      refine fr_alen C hR hk3 (Or.inr (Or.inr (Or.inr rfl))) dX11_rowsOfKind_9 ?_
      refine lv_icmp_ge (tgt := 47) hx hb dX11_rowsOfKind_10 (by decide) (fun c4 => ?_) (fun c4 => ?_)
      · rw [if_pos c4] at hsp
        refine lv_iload_n hx hb dX11_rowsOfKind_47 rfl (lv_at hl 2 rfl) ?_
        have e1 := fr_s1 hsp
        exact fr_iret C hr hlocks hR e1 rfl dX11_rowsOfKind_48
      · rw [if_neg c4] at hsp
        refine lv_aload_n hx hb dX11_rowsOfKind_13 rfl (lv_at hl 0 rfl) ?_
        refine fr_getr C hR ha Fg_RX11_11 rfl hv2 dX11_rowsOfKind_14 ?_
        refine lv_iload_n hx hb dX11_rowsOfKind_17 rfl (lv_at hl 3 rfl) ?_
        obtain ⟨hi5, hsp⟩ := fr_ck hsp
        rcases hv7 : (h.2.2 j1 (Int32.toNatClampNeg y3)) with _ | j6
        · rw [hv7] at hsp; have hsp := fr_nnN hsp
          refine fr_aaln C hR hk3 (Or.inr rfl) hi5 hv7 dX11_rowsOfKind_18 ?_
          refine lv_ifnullN (tgt := 41) hx hb dX11_rowsOfKind_19 (by decide) ?_
          obtain ⟨v8, ev8⟩ : ∃ z : Int32, z = y3 + 1 := ⟨_, rfl⟩
          have hsp := fr_let ev8 hsp
          refine lv_iinc (v := v8) (lv' := [(3, .int v8), (0, .ref (g.2.2 a)), (1, .int y1), (2, .int y2)]) hx hb dX11_rowsOfKind_41 hl (k := 3) rfl (by rw [ev8]; rfl) (by decide) rfl (fun ls hl => ?_)
          refine lv_goto (tgt := 4) hx hb dX11_rowsOfKind_44 (by decide) ?_
          exact ih y1 y2 v8 _ _ _ hsp hR (lv_sub hl [1, 2, 3, 0] rfl)
        · rw [hv7] at hsp; have hsp := fr_nnS hsp
          refine fr_aald C hR hk3 (Or.inr rfl) hi5 hv7 dX11_rowsOfKind_18 ?_
          refine lv_ifnull hx hb dX11_rowsOfKind_19 ?_
          refine lv_aload_n hx hb dX11_rowsOfKind_22 rfl (lv_at hl 0 rfl) ?_
          refine fr_getr C hR ha Fg_RX11_11 rfl hv2 dX11_rowsOfKind_23 ?_
          refine lv_iload_n hx hb dX11_rowsOfKind_26 rfl (lv_at hl 3 rfl) ?_
          refine fr_aald C hR hk3 (Or.inr rfl) hi5 hv7 dX11_rowsOfKind_27 ?_
          obtain ⟨hk9, hsp⟩ := fr_ck hsp
          obtain ⟨j10, hv11, hsp⟩ := fr_b1 hsp
          refine fr_getr C hR hk9 Fg_RX11_168 rfl hv11 dX11_rowsOfKind_28 ?_
          obtain ⟨hk12, hsp⟩ := fr_ck hsp
          refine fr_geti C hR hk12 Fg_RX11_172 rfl dX11_rowsOfKind_31 ?_
          refine lv_iload_n hx hb dX11_rowsOfKind_34 rfl (lv_at hl 1 rfl) ?_
          refine lv_icmp_ne (tgt := 41) hx hb dX11_rowsOfKind_35 (by decide) (fun c13 => ?_) (fun c13 => ?_)
          · rw [if_neg c13] at hsp
            obtain ⟨v14, ev14⟩ : ∃ z : Int32, z = y3 + 1 := ⟨_, rfl⟩
            have hsp := fr_let ev14 hsp
            refine lv_iinc (v := v14) (lv' := [(3, .int v14), (0, .ref (g.2.2 a)), (1, .int y1), (2, .int y2)]) hx hb dX11_rowsOfKind_41 hl (k := 3) rfl (by rw [ev14]; rfl) (by decide) rfl (fun ls hl => ?_)
            refine lv_goto (tgt := 4) hx hb dX11_rowsOfKind_44 (by decide) ?_
            exact ih y1 y2 v14 _ _ _ hsp hR (lv_sub hl [1, 2, 3, 0] rfl)
          · rw [if_pos c13] at hsp
            obtain ⟨v15, ev15⟩ : ∃ z : Int32, z = y2 + 1 := ⟨_, rfl⟩
            have hsp := fr_let ev15 hsp
            refine lv_iinc (v := v15) (lv' := [(2, .int v15), (0, .ref (g.2.2 a)), (1, .int y1), (3, .int y3)]) hx hb dX11_rowsOfKind_38 hl (k := 2) rfl (by rw [ev15]; rfl) (by decide) rfl (fun ls hl => ?_)
            obtain ⟨v16, ev16⟩ : ∃ z : Int32, z = y3 + 1 := ⟨_, rfl⟩
            have hsp := fr_let ev16 hsp
            refine lv_iinc (v := v16) (lv' := [(3, .int v16), (2, .int v15), (0, .ref (g.2.2 a)), (1, .int y1)]) hx hb dX11_rowsOfKind_41 hl (k := 3) rfl (by rw [ev16]; rfl) (by decide) rfl (fun ls hl => ?_)
            refine lv_goto (tgt := 4) hx hb dX11_rowsOfKind_44 (by decide) ?_
            exact ih y1 v15 v16 _ _ _ hsp hR (lv_sub hl [2, 3, 1, 0] rfl)
  refine lv_iconst (v := 0) hx hb dX11_rowsOfKind_0 (by decide) ?_
  refine lv_istore_n (lv' := [(2, .int (0 : Int32)), (0, .ref (g.2.2 a)), (1, .int x1)]) hx hb dX11_rowsOfKind_1 rfl hl (by decide) rfl (fun ls hl => ?_)
  refine lv_iconst (v := 0) hx hb dX11_rowsOfKind_2 (by decide) ?_
  refine lv_istore_n (lv' := [(3, .int (0 : Int32)), (2, .int (0 : Int32)), (0, .ref (g.2.2 a)), (1, .int x1)]) hx hb dX11_rowsOfKind_3 rfl hl (by decide) rfl (fun ls hl => ?_)
  exact hb_4 20000 x1 (0 : Int32) (0 : Int32) _ _ _ hsp hR (lv_sub hl [2, 3, 1, 0] rfl)

/-! TermRows.rowsMadeOf(I)I -/
def z_X11_rowsMadeOf_b35 (S : fh_S) (a : Nat) (K4 : fh_H → Int32 → Int32 → Int32 → Option Int32) (h : fh_H) (y1 : Int32) (y2 : Int32) (y3 : Int32) (t0 : Option Nat) : Option Int32 :=
    fh_nn t0 (fh_let (y3 + 1) (fun v1 => K4 h y1 y2 v1)) (fun jt0 => fh_ck (fh_kq S jt0 3) (if (h.1 jt0 0) < (3 : Int32) then (fh_let (y3 + 1) (fun v4 => K4 h y1 y2 v4)) else (if (h.1 jt0 1) = y1 then (fh_let (y2 + 1) (fun v6 => fh_let (y3 + 1) (fun v7 => K4 h y1 v6 v7))) else (if (h.1 jt0 2) = y1 then (fh_let (y2 + 1) (fun v10 => fh_let (y3 + 1) (fun v11 => K4 h y1 v10 v11))) else (fh_let (y3 + 1) (fun v9 => K4 h y1 y2 v9))))))
def z_X11_rowsMadeOf_b4 (S : fh_S) (a : Nat) : Nat → fh_H → Int32 → Int32 → Int32 → Option Int32
  | 0, _, _, _, _ => none
  | n + 1, h, y1, y2, y3 =>
    fh_b1 (h.2.2 a 0) (fun j1 => fh_ck (fh_kq S j1 16) (if (Int32.ofNat (S.2.2 j1)) ≤ y3 then (some y2) else (fh_ck (fh_in y3 (S.2.2 j1)) (fh_nn (h.2.2 j1 (Int32.toNatClampNeg y3)) (z_X11_rowsMadeOf_b35 S a (z_X11_rowsMadeOf_b4 S a n) h y1 y2 y3 none) (fun j6 => fh_ck (fh_kq S j6 6) (fh_nn (h.2.2 j6 4) (z_X11_rowsMadeOf_b35 S a (z_X11_rowsMadeOf_b4 S a n) h y1 y2 y3 none) (fun j9 => z_X11_rowsMadeOf_b35 S a (z_X11_rowsMadeOf_b4 S a n) h y1 y2 y3 (some j9))))))))
def z_X11_rowsMadeOf (S : fh_S) (h : fh_H) (a : Nat) (x1 : Int32) : Option Int32 :=
    z_X11_rowsMadeOf_b4 S a 20000 h x1 (0 : Int32) (0 : Int32)
set_option maxHeartbeats 4000000 in
set_option maxRecDepth 100000 in
theorem k_X11_rowsMadeOf {l : Launch} {S : fh_S} {g : fh_G} {h : fh_H} (hj : fh_inj S g) {a : Nat} {x1 : Int32} {r : Int32} (ha : fh_kq S a 11 = true) (hsp : z_X11_rowsMadeOf S h a x1 = some r) : fh_M l yX11_rowsMadeOf cX11_rowsMadeOf 5 (some .int) (fh_rm 1) S g [.ref (g.2.2 a), .int x1] h (some (.int r)) h := by
  unfold z_X11_rowsMadeOf at hsp
  refine fr_head (own := RX11) (by decide) rfl hj (Nat.le_of_ble_eq_true rfl) ?_
  intro p e s m below meth c ls C hr hlocks hR hl
  have hl : lv_has ls 5 [(0, .ref (g.2.2 a)), (1, .int x1)] := hl
  have hx := C.1.1
  have hb := C.1.2.1
  have hb_35 : ∀ (K4 : fh_H → Int32 → Int32 → Int32 → Option Int32) (hK4 : ∀ (y1 : Int32) (y2 : Int32) (y3 : Int32) (H : Heap) (locs : List Loc) (ls : Array Slot), K4 h y1 y2 y3 = some r → fh_R S g s.heap h H locs → lv_has ls 5 [(0, .ref (g.2.2 a)), (1, .int y1), (2, .int y2), (3, .int y3)] → fh_Wk p l e 1 s m [.ref (g.2.2 a), .int x1] below meth c S g (some (.int r)) h H locs (F0 m 4 ls [])), ∀ (y1 : Int32) (y2 : Int32) (y3 : Int32) (t0 : Option Nat) (H : Heap) (locs : List Loc) (ls : Array Slot), z_X11_rowsMadeOf_b35 S a K4 h y1 y2 y3 t0 = some r → fh_R S g s.heap h H locs → lv_has ls 5 [(0, .ref (g.2.2 a)), (1, .int y1), (2, .int y2), (3, .int y3)] → fh_Wk p l e 1 s m [.ref (g.2.2 a), .int x1] below meth c S g (some (.int r)) h H locs (F0 m 35 ls [va_rf (Option.map g.2.2 t0)]) := by
    intro K4 hK4 y1 y2 y3 t0 H locs ls hsp hR hl
    unfold z_X11_rowsMadeOf_b35 at hsp
    rcases t0 with _ | jt0
    · have hsp := fr_nnN hsp
      have hl : lv_has ls 5 [(0, .ref (g.2.2 a)), (1, .int y1), (2, .int y2), (3, .int y3)] := hl
      refine W.eq (g2 := F0 m 35 ls [.null]) rfl ?_
      refine lv_astoreN (lv' := [(4, .null), (0, .ref (g.2.2 a)), (1, .int y1), (2, .int y2), (3, .int y3)]) hx hb dX11_rowsMadeOf_35 hl (by decide) rfl (fun ls hl => ?_)
      refine lv_aloadN hx hb dX11_rowsMadeOf_37 (lv_at hl 0 rfl) ?_
      refine lv_ifnullN (tgt := 72) hx hb dX11_rowsMadeOf_39 (by decide) ?_
      obtain ⟨v1, ev1⟩ : ∃ z : Int32, z = y3 + 1 := ⟨_, rfl⟩
      have hsp := fr_let ev1 hsp
      refine lv_iinc (v := v1) (lv' := [(3, .int v1), (4, .null), (0, .ref (g.2.2 a)), (1, .int y1), (2, .int y2)]) hx hb dX11_rowsMadeOf_72 hl (k := 4) rfl (by rw [ev1]; rfl) (by decide) rfl (fun ls hl => ?_)
      refine lv_goto (tgt := 4) hx hb dX11_rowsMadeOf_75 (by decide) ?_
      exact hK4 y1 y2 v1 _ _ _ hsp hR (lv_sub hl [2, 3, 4, 0] rfl)
    · have hsp := fr_nnS hsp
      have hl : lv_has ls 5 [(0, .ref (g.2.2 a)), (1, .int y1), (2, .int y2), (3, .int y3)] := hl
      refine W.eq (g2 := F0 m 35 ls [.ref (g.2.2 jt0)]) rfl ?_
      refine lv_astore (lv' := [(4, .ref (g.2.2 jt0)), (0, .ref (g.2.2 a)), (1, .int y1), (2, .int y2), (3, .int y3)]) hx hb dX11_rowsMadeOf_35 hl (by decide) rfl (fun ls hl => ?_)
      refine lv_aload hx hb dX11_rowsMadeOf_37 (lv_at hl 0 rfl) ?_
      refine lv_ifnull hx hb dX11_rowsMadeOf_39 ?_
      refine lv_aload hx hb dX11_rowsMadeOf_42 (lv_at hl 0 rfl) ?_
      obtain ⟨hk2, hsp⟩ := fr_ck hsp
      refine fr_geti C hR hk2 Fg_RX11_172 rfl dX11_rowsMadeOf_44 ?_
      refine lv_iconst (v := 3) hx hb dX11_rowsMadeOf_47 (by decide) ?_
      refine lv_icmp_lt (tgt := 72) hx hb dX11_rowsMadeOf_48 (by decide) (fun c3 => ?_) (fun c3 => ?_)
      · rw [if_pos c3] at hsp
        obtain ⟨v4, ev4⟩ : ∃ z : Int32, z = y3 + 1 := ⟨_, rfl⟩
        have hsp := fr_let ev4 hsp
        refine lv_iinc (v := v4) (lv' := [(3, .int v4), (4, .ref (g.2.2 jt0)), (0, .ref (g.2.2 a)), (1, .int y1), (2, .int y2)]) hx hb dX11_rowsMadeOf_72 hl (k := 4) rfl (by rw [ev4]; rfl) (by decide) rfl (fun ls hl => ?_)
        refine lv_goto (tgt := 4) hx hb dX11_rowsMadeOf_75 (by decide) ?_
        exact hK4 y1 y2 v4 _ _ _ hsp hR (lv_sub hl [2, 3, 4, 0] rfl)
      · rw [if_neg c3] at hsp
        refine lv_aload hx hb dX11_rowsMadeOf_51 (lv_at hl 0 rfl) ?_
        refine fr_geti C hR hk2 Fg_RX11_377 rfl dX11_rowsMadeOf_53 ?_
        refine lv_iload_n hx hb dX11_rowsMadeOf_56 rfl (lv_at hl 2 rfl) ?_
        refine lv_icmp_eq (tgt := 69) hx hb dX11_rowsMadeOf_57 (by decide) (fun c5 => ?_) (fun c5 => ?_)
        · rw [if_pos c5] at hsp
          obtain ⟨v6, ev6⟩ : ∃ z : Int32, z = y2 + 1 := ⟨_, rfl⟩
          have hsp := fr_let ev6 hsp
          refine lv_iinc (v := v6) (lv' := [(2, .int v6), (4, .ref (g.2.2 jt0)), (0, .ref (g.2.2 a)), (1, .int y1), (3, .int y3)]) hx hb dX11_rowsMadeOf_69 hl (k := 3) rfl (by rw [ev6]; rfl) (by decide) rfl (fun ls hl => ?_)
          obtain ⟨v7, ev7⟩ : ∃ z : Int32, z = y3 + 1 := ⟨_, rfl⟩
          have hsp := fr_let ev7 hsp
          refine lv_iinc (v := v7) (lv' := [(3, .int v7), (2, .int v6), (4, .ref (g.2.2 jt0)), (0, .ref (g.2.2 a)), (1, .int y1)]) hx hb dX11_rowsMadeOf_72 hl (k := 4) rfl (by rw [ev7]; rfl) (by decide) rfl (fun ls hl => ?_)
          refine lv_goto (tgt := 4) hx hb dX11_rowsMadeOf_75 (by decide) ?_
          exact hK4 y1 v6 v7 _ _ _ hsp hR (lv_sub hl [3, 4, 1, 0] rfl)
        · rw [if_neg c5] at hsp
          refine lv_aload hx hb dX11_rowsMadeOf_60 (lv_at hl 0 rfl) ?_
          refine fr_geti C hR hk2 Fg_RX11_386 rfl dX11_rowsMadeOf_62 ?_
          refine lv_iload_n hx hb dX11_rowsMadeOf_65 rfl (lv_at hl 2 rfl) ?_
          refine lv_icmp_ne (tgt := 72) hx hb dX11_rowsMadeOf_66 (by decide) (fun c8 => ?_) (fun c8 => ?_)
          · rw [if_neg c8] at hsp
            obtain ⟨v9, ev9⟩ : ∃ z : Int32, z = y3 + 1 := ⟨_, rfl⟩
            have hsp := fr_let ev9 hsp
            refine lv_iinc (v := v9) (lv' := [(3, .int v9), (4, .ref (g.2.2 jt0)), (0, .ref (g.2.2 a)), (1, .int y1), (2, .int y2)]) hx hb dX11_rowsMadeOf_72 hl (k := 4) rfl (by rw [ev9]; rfl) (by decide) rfl (fun ls hl => ?_)
            refine lv_goto (tgt := 4) hx hb dX11_rowsMadeOf_75 (by decide) ?_
            exact hK4 y1 y2 v9 _ _ _ hsp hR (lv_sub hl [2, 3, 4, 0] rfl)
          · rw [if_pos c8] at hsp
            obtain ⟨v10, ev10⟩ : ∃ z : Int32, z = y2 + 1 := ⟨_, rfl⟩
            have hsp := fr_let ev10 hsp
            refine lv_iinc (v := v10) (lv' := [(2, .int v10), (4, .ref (g.2.2 jt0)), (0, .ref (g.2.2 a)), (1, .int y1), (3, .int y3)]) hx hb dX11_rowsMadeOf_69 hl (k := 3) rfl (by rw [ev10]; rfl) (by decide) rfl (fun ls hl => ?_)
            obtain ⟨v11, ev11⟩ : ∃ z : Int32, z = y3 + 1 := ⟨_, rfl⟩
            have hsp := fr_let ev11 hsp
            refine lv_iinc (v := v11) (lv' := [(3, .int v11), (2, .int v10), (4, .ref (g.2.2 jt0)), (0, .ref (g.2.2 a)), (1, .int y1)]) hx hb dX11_rowsMadeOf_72 hl (k := 4) rfl (by rw [ev11]; rfl) (by decide) rfl (fun ls hl => ?_)
            refine lv_goto (tgt := 4) hx hb dX11_rowsMadeOf_75 (by decide) ?_
            exact hK4 y1 v10 v11 _ _ _ hsp hR (lv_sub hl [3, 4, 1, 0] rfl)
  have hb_4 : ∀ (n : Nat) (y1 : Int32) (y2 : Int32) (y3 : Int32) (H : Heap) (locs : List Loc) (ls : Array Slot), z_X11_rowsMadeOf_b4 S a n h y1 y2 y3 = some r → fh_R S g s.heap h H locs → lv_has ls 5 [(0, .ref (g.2.2 a)), (1, .int y1), (2, .int y2), (3, .int y3)] → fh_Wk p l e 1 s m [.ref (g.2.2 a), .int x1] below meth c S g (some (.int r)) h H locs (F0 m 4 ls []) := by
    intro n
    induction n with
    | zero => intro y1 y2 y3 H locs ls hsp; cases hsp
    | succ n ih =>
      intro y1 y2 y3 H locs ls hsp hR hl
      rw [z_X11_rowsMadeOf_b4] at hsp
      refine lv_iload_n hx hb dX11_rowsMadeOf_4 rfl (lv_at hl 3 rfl) ?_
      refine lv_aload_n hx hb dX11_rowsMadeOf_5 rfl (lv_at hl 0 rfl) ?_
      obtain ⟨j1, hv2, hsp⟩ := fr_b1 hsp
      refine fr_getr C hR ha Fg_RX11_11 rfl hv2 dX11_rowsMadeOf_6 ?_
      obtain ⟨hk3, hsp⟩ := fr_ck hsp
      refine fr_alen C hR hk3 (Or.inr (Or.inr (Or.inr rfl))) dX11_rowsMadeOf_9 ?_
      refine lv_icmp_ge (tgt := 78) hx hb dX11_rowsMadeOf_10 (by decide) (fun c4 => ?_) (fun c4 => ?_)
      · rw [if_pos c4] at hsp
        refine lv_iload_n hx hb dX11_rowsMadeOf_78 rfl (lv_at hl 2 rfl) ?_
        have e1 := fr_s1 hsp
        exact fr_iret C hr hlocks hR e1 rfl dX11_rowsMadeOf_79
      · rw [if_neg c4] at hsp
        refine lv_aload_n hx hb dX11_rowsMadeOf_13 rfl (lv_at hl 0 rfl) ?_
        refine fr_getr C hR ha Fg_RX11_11 rfl hv2 dX11_rowsMadeOf_14 ?_
        refine lv_iload_n hx hb dX11_rowsMadeOf_17 rfl (lv_at hl 3 rfl) ?_
        obtain ⟨hi5, hsp⟩ := fr_ck hsp
        rcases hv7 : (h.2.2 j1 (Int32.toNatClampNeg y3)) with _ | j6
        · rw [hv7] at hsp; have hsp := fr_nnN hsp
          refine fr_aaln C hR hk3 (Or.inr rfl) hi5 hv7 dX11_rowsMadeOf_18 ?_
          refine lv_ifnonnullN hx hb dX11_rowsMadeOf_19 ?_
          refine lv_null hx hb dX11_rowsMadeOf_22 ?_
          refine lv_goto (tgt := 35) hx hb dX11_rowsMadeOf_23 (by decide) ?_
          exact hb_35 (z_X11_rowsMadeOf_b4 S a n) ih y1 y2 y3 none _ _ _ hsp hR (lv_sub hl [0, 1, 2, 3] rfl)
        · rw [hv7] at hsp; have hsp := fr_nnS hsp
          refine fr_aald C hR hk3 (Or.inr rfl) hi5 hv7 dX11_rowsMadeOf_18 ?_
          refine lv_ifnonnull (tgt := 26) hx hb dX11_rowsMadeOf_19 (by decide) ?_
          refine lv_aload_n hx hb dX11_rowsMadeOf_26 rfl (lv_at hl 0 rfl) ?_
          refine fr_getr C hR ha Fg_RX11_11 rfl hv2 dX11_rowsMadeOf_27 ?_
          refine lv_iload_n hx hb dX11_rowsMadeOf_30 rfl (lv_at hl 3 rfl) ?_
          refine fr_aald C hR hk3 (Or.inr rfl) hi5 hv7 dX11_rowsMadeOf_31 ?_
          obtain ⟨hk8, hsp⟩ := fr_ck hsp
          rcases hv10 : (h.2.2 j6 4) with _ | j9
          · rw [hv10] at hsp; have hsp := fr_nnN hsp
            refine fr_getn C hR hk8 Fg_RX11_168 rfl hv10 dX11_rowsMadeOf_32 ?_
            exact hb_35 (z_X11_rowsMadeOf_b4 S a n) ih y1 y2 y3 none _ _ _ hsp hR (lv_sub hl [0, 1, 2, 3] rfl)
          · rw [hv10] at hsp; have hsp := fr_nnS hsp
            refine fr_getr C hR hk8 Fg_RX11_168 rfl hv10 dX11_rowsMadeOf_32 ?_
            exact hb_35 (z_X11_rowsMadeOf_b4 S a n) ih y1 y2 y3 (some j9) _ _ _ hsp hR (lv_sub hl [0, 1, 2, 3] rfl)
  refine lv_iconst (v := 0) hx hb dX11_rowsMadeOf_0 (by decide) ?_
  refine lv_istore_n (lv' := [(2, .int (0 : Int32)), (0, .ref (g.2.2 a)), (1, .int x1)]) hx hb dX11_rowsMadeOf_1 rfl hl (by decide) rfl (fun ls hl => ?_)
  refine lv_iconst (v := 0) hx hb dX11_rowsMadeOf_2 (by decide) ?_
  refine lv_istore_n (lv' := [(3, .int (0 : Int32)), (2, .int (0 : Int32)), (0, .ref (g.2.2 a)), (1, .int x1)]) hx hb dX11_rowsMadeOf_3 rfl hl (by decide) rfl (fun ls hl => ?_)
  exact hb_4 20000 x1 (0 : Int32) (0 : Int32) _ _ _ hsp hR (lv_sub hl [2, 3, 1, 0] rfl)

/-! TermRows.partOfPair(II)I -/
def z_X11_partOfPair (x0 : Int32) (x1 : Int32) : Option Int32 :=
    if x0 = (-1 : Int32) then (some (-1 : Int32)) else (if x1 = 0 then (some (x0 / (64 : Int32))) else (some (x0 - x0 / (64 : Int32) * (64 : Int32))))
set_option maxHeartbeats 4000000 in
set_option maxRecDepth 100000 in
theorem k_X11_partOfPair {l : Launch} {S : fh_S} {g : fh_G} {h : fh_H} (hj : fh_inj S g) {x0 : Int32} {x1 : Int32} {r : Int32} (hsp : z_X11_partOfPair x0 x1 = some r) : fh_M l yX11_partOfPair cX11_partOfPair 2 (some .int) (fh_rm 1) S g [.int x0, .int x1] h (some (.int r)) h := by
  unfold z_X11_partOfPair at hsp
  refine fr_head (own := RX11) (by decide) rfl hj (Nat.le_of_ble_eq_true rfl) ?_
  intro p e s m below meth c ls C hr hlocks hR hl
  have hl : lv_has ls 2 [(0, .int x0), (1, .int x1)] := hl
  have hx := C.1.1
  have hb := C.1.2.1
  refine lv_iload_n hx hb dX11_partOfPair_0 rfl (lv_at hl 0 rfl) ?_
  refine lv_iconst (v := -1) hx hb dX11_partOfPair_1 (by decide) ?_
  refine lv_icmp_ne (tgt := 7) hx hb dX11_partOfPair_2 (by decide) (fun c1 => ?_) (fun c1 => ?_)
  · rw [if_neg c1] at hsp
    refine lv_iload_n hx hb dX11_partOfPair_7 rfl (lv_at hl 1 rfl) ?_
    refine lv_if_ne (tgt := 18) hx hb dX11_partOfPair_8 (by decide) (fun c2 => ?_) (fun c2 => ?_)
    · rw [if_neg c2] at hsp
      refine lv_iload_n hx hb dX11_partOfPair_18 rfl (lv_at hl 0 rfl) ?_
      refine lv_bipush (v := 64) hx hb dX11_partOfPair_19 (by decide) ?_
      refine lv_irem hx hb dX11_partOfPair_21 (by decide) ?_
      have e1 := fr_s1 hsp
      exact fr_iret C hr hlocks hR e1 rfl dX11_partOfPair_22
    · rw [if_pos c2] at hsp
      refine lv_iload_n hx hb dX11_partOfPair_11 rfl (lv_at hl 0 rfl) ?_
      refine lv_bipush (v := 64) hx hb dX11_partOfPair_12 (by decide) ?_
      refine lv_idiv hx hb dX11_partOfPair_14 (by decide) ?_
      refine lv_goto (tgt := 22) hx hb dX11_partOfPair_15 (by decide) ?_
      have e1 := fr_s1 hsp
      exact fr_iret C hr hlocks hR e1 rfl dX11_partOfPair_22
  · rw [if_pos c1] at hsp
    refine lv_iconst (v := -1) hx hb dX11_partOfPair_5 (by decide) ?_
    have e1 := fr_s1 hsp
    exact fr_iret C hr hlocks hR e1 rfl dX11_partOfPair_6

/-! TermRows$Half.readFirst(I)V -/
def z_X0_readFirst (S : fh_S) (h : fh_H) (a : Nat) (x1 : Int32) : Option fh_H :=
    fh_b1 (z_X11_grown (h.2.1 a 0) (Int32.toInt64 x1) (h.2.1 a 2)) (fun r1 => fh_b1 (z_X11_grown (h.2.1 a 1) (Int32.toInt64 x1) (h.2.1 a 3)) (fun r3 => fh_b1 (z_X0_become S h a r1 r3 (h.2.1 a 0) (h.2.1 a 1)) (fun h5 => some h5)))
set_option maxHeartbeats 4000000 in
set_option maxRecDepth 100000 in
theorem k_X0_readFirst {l : Launch} {S : fh_S} {g : fh_G} {h h' : fh_H} (hj : fh_inj S g) {a : Nat} {x1 : Int32} (ha : fh_kq S a 0 = true) (hsp : z_X0_readFirst S h a x1 = some h') : fh_M l yX0_readFirst cX0_readFirst 2 none (fh_rm 2) S g [.ref (g.2.2 a), .int x1] h none h' := by
  unfold z_X0_readFirst at hsp
  refine fr_head (own := RX0) (by decide) rfl hj (Nat.le_of_ble_eq_true rfl) ?_
  intro p e s m below meth c ls C hr hlocks hR hl
  have hl : lv_has ls 2 [(0, .ref (g.2.2 a)), (1, .int x1)] := hl
  have hx := C.1.1
  have hb := C.1.2.1
  refine lv_aload_n hx hb dX0_readFirst_0 rfl (lv_at hl 0 rfl) ?_
  refine lv_aload_n hx hb dX0_readFirst_1 rfl (lv_at hl 0 rfl) ?_
  refine fr_getj C hR ha Fg_RX0_9 rfl dX0_readFirst_2 ?_
  refine lv_iload_n hx hb dX0_readFirst_5 rfl (lv_at hl 1 rfl) ?_
  refine lv_i2l hx hb dX0_readFirst_6 rfl ?_
  refine lv_aload_n hx hb dX0_readFirst_7 rfl (lv_at hl 0 rfl) ?_
  refine fr_getj C hR ha Fg_RX0_18 rfl dX0_readFirst_8 ?_
  obtain ⟨r1, E2, hsp⟩ := fr_b1 hsp
  refine fq_callSN (rest := [.ref (g.2.2 a)]) (st1 := [.long r1, .ref (g.2.2 a)]) C hR (k_X11_grown C.2.2 E2) Y_X11_grown YS_X11_grown C.2.1.2.1 rfl hl.1 ⟨Nat.le_of_ble_eq_true rfl, Nat.le_of_ble_eq_true rfl⟩ rfl (Nat.le_of_ble_eq_true rfl) ⟨Nat.zero_le _, Nat.zero_le _⟩ rfl dX0_readFirst_11 (fun H locs hR => ?_)
  refine lv_aload_n hx hb dX0_readFirst_14 rfl (lv_at hl 0 rfl) ?_
  refine fr_getj C hR ha Fg_RX0_15 rfl dX0_readFirst_15 ?_
  refine lv_iload_n hx hb dX0_readFirst_18 rfl (lv_at hl 1 rfl) ?_
  refine lv_i2l hx hb dX0_readFirst_19 rfl ?_
  refine lv_aload_n hx hb dX0_readFirst_20 rfl (lv_at hl 0 rfl) ?_
  refine fr_getj C hR ha Fg_RX0_21 rfl dX0_readFirst_21 ?_
  obtain ⟨r3, E4, hsp⟩ := fr_b1 hsp
  refine fq_callSN (rest := [.long r1, .ref (g.2.2 a)]) (st1 := [.long r3, .long r1, .ref (g.2.2 a)]) C hR (k_X11_grown C.2.2 E4) Y_X11_grown YS_X11_grown C.2.1.2.1 rfl hl.1 ⟨Nat.le_of_ble_eq_true rfl, Nat.le_of_ble_eq_true rfl⟩ rfl (Nat.le_of_ble_eq_true rfl) ⟨Nat.zero_le _, Nat.zero_le _⟩ rfl dX0_readFirst_24 (fun H locs hR => ?_)
  refine lv_aload_n hx hb dX0_readFirst_27 rfl (lv_at hl 0 rfl) ?_
  refine fr_getj C hR ha Fg_RX0_9 rfl dX0_readFirst_28 ?_
  refine lv_aload_n hx hb dX0_readFirst_31 rfl (lv_at hl 0 rfl) ?_
  refine fr_getj C hR ha Fg_RX0_15 rfl dX0_readFirst_32 ?_
  obtain ⟨h5, E6, hsp⟩ := fr_b1 hsp
  refine fq_callV (rest := []) (st1 := []) C hR (k_X0_become C.2.2 ha E6) Y_X0_become YV_X0_become Lk_RX0_28 ha ⟨_, _, rfl, by decide⟩ rfl hl.1 ⟨Nat.le_of_ble_eq_true rfl, Nat.le_of_ble_eq_true rfl⟩ rfl (Nat.le_of_ble_eq_true rfl) ⟨Nat.zero_le _, Nat.zero_le _⟩ rfl dX0_readFirst_35 (fun H locs hR => ?_)
  exact fr_vret C hr hlocks hR (fr_s1 hsp) dX0_readFirst_38

/-! TermRows$Half.readSecond(I)V -/
def z_X0_readSecond (S : fh_S) (h : fh_H) (a : Nat) (x1 : Int32) : Option fh_H :=
    fh_b1 (z_X11_grown (h.2.1 a 0) (Int32.toInt64 x1) (h.2.1 a 1)) (fun r1 => fh_b1 (z_X11_grown (h.2.1 a 2) (Int32.toInt64 x1) (h.2.1 a 3)) (fun r3 => fh_b1 (z_X0_become S h a r1 (h.2.1 a 0) r3 (h.2.1 a 2)) (fun h5 => some h5)))
set_option maxHeartbeats 4000000 in
set_option maxRecDepth 100000 in
theorem k_X0_readSecond {l : Launch} {S : fh_S} {g : fh_G} {h h' : fh_H} (hj : fh_inj S g) {a : Nat} {x1 : Int32} (ha : fh_kq S a 0 = true) (hsp : z_X0_readSecond S h a x1 = some h') : fh_M l yX0_readSecond cX0_readSecond 2 none (fh_rm 2) S g [.ref (g.2.2 a), .int x1] h none h' := by
  unfold z_X0_readSecond at hsp
  refine fr_head (own := RX0) (by decide) rfl hj (Nat.le_of_ble_eq_true rfl) ?_
  intro p e s m below meth c ls C hr hlocks hR hl
  have hl : lv_has ls 2 [(0, .ref (g.2.2 a)), (1, .int x1)] := hl
  have hx := C.1.1
  have hb := C.1.2.1
  refine lv_aload_n hx hb dX0_readSecond_0 rfl (lv_at hl 0 rfl) ?_
  refine lv_aload_n hx hb dX0_readSecond_1 rfl (lv_at hl 0 rfl) ?_
  refine fr_getj C hR ha Fg_RX0_9 rfl dX0_readSecond_2 ?_
  refine lv_iload_n hx hb dX0_readSecond_5 rfl (lv_at hl 1 rfl) ?_
  refine lv_i2l hx hb dX0_readSecond_6 rfl ?_
  refine lv_aload_n hx hb dX0_readSecond_7 rfl (lv_at hl 0 rfl) ?_
  refine fr_getj C hR ha Fg_RX0_15 rfl dX0_readSecond_8 ?_
  obtain ⟨r1, E2, hsp⟩ := fr_b1 hsp
  refine fq_callSN (rest := [.ref (g.2.2 a)]) (st1 := [.long r1, .ref (g.2.2 a)]) C hR (k_X11_grown C.2.2 E2) Y_X11_grown YS_X11_grown C.2.1.2.1 rfl hl.1 ⟨Nat.le_of_ble_eq_true rfl, Nat.le_of_ble_eq_true rfl⟩ rfl (Nat.le_of_ble_eq_true rfl) ⟨Nat.zero_le _, Nat.zero_le _⟩ rfl dX0_readSecond_11 (fun H locs hR => ?_)
  refine lv_aload_n hx hb dX0_readSecond_14 rfl (lv_at hl 0 rfl) ?_
  refine fr_getj C hR ha Fg_RX0_9 rfl dX0_readSecond_15 ?_
  refine lv_aload_n hx hb dX0_readSecond_18 rfl (lv_at hl 0 rfl) ?_
  refine fr_getj C hR ha Fg_RX0_18 rfl dX0_readSecond_19 ?_
  refine lv_iload_n hx hb dX0_readSecond_22 rfl (lv_at hl 1 rfl) ?_
  refine lv_i2l hx hb dX0_readSecond_23 rfl ?_
  refine lv_aload_n hx hb dX0_readSecond_24 rfl (lv_at hl 0 rfl) ?_
  refine fr_getj C hR ha Fg_RX0_21 rfl dX0_readSecond_25 ?_
  obtain ⟨r3, E4, hsp⟩ := fr_b1 hsp
  refine fq_callSN (rest := [.long (h.2.1 a 0), .long r1, .ref (g.2.2 a)]) (st1 := [.long r3, .long (h.2.1 a 0), .long r1, .ref (g.2.2 a)]) C hR (k_X11_grown C.2.2 E4) Y_X11_grown YS_X11_grown C.2.1.2.1 rfl hl.1 ⟨Nat.le_of_ble_eq_true rfl, Nat.le_of_ble_eq_true rfl⟩ rfl (Nat.le_of_ble_eq_true rfl) ⟨Nat.zero_le _, Nat.zero_le _⟩ rfl dX0_readSecond_28 (fun H locs hR => ?_)
  refine lv_aload_n hx hb dX0_readSecond_31 rfl (lv_at hl 0 rfl) ?_
  refine fr_getj C hR ha Fg_RX0_18 rfl dX0_readSecond_32 ?_
  obtain ⟨h5, E6, hsp⟩ := fr_b1 hsp
  refine fq_callV (rest := []) (st1 := []) C hR (k_X0_become C.2.2 ha E6) Y_X0_become YV_X0_become Lk_RX0_28 ha ⟨_, _, rfl, by decide⟩ rfl hl.1 ⟨Nat.le_of_ble_eq_true rfl, Nat.le_of_ble_eq_true rfl⟩ rfl (Nat.le_of_ble_eq_true rfl) ⟨Nat.zero_le _, Nat.zero_le _⟩ rfl dX0_readSecond_35 (fun H locs hR => ?_)
  exact fr_vret C hr hlocks hR (fr_s1 hsp) dX0_readSecond_38

/-! TermRows$Half.endFirst()V -/
def z_X0_endFirst (S : fh_S) (h : fh_H) (a : Nat) : Option fh_H :=
    fh_b1 (z_X0_become S h a (h.2.1 a 0) (h.2.1 a 1) (h.2.1 a 0) (h.2.1 a 1)) (fun h1 => some h1)
set_option maxHeartbeats 4000000 in
set_option maxRecDepth 100000 in
theorem k_X0_endFirst {l : Launch} {S : fh_S} {g : fh_G} {h h' : fh_H} (hj : fh_inj S g) {a : Nat} (ha : fh_kq S a 0 = true) (hsp : z_X0_endFirst S h a = some h') : fh_M l yX0_endFirst cX0_endFirst 1 none (fh_rm 2) S g [.ref (g.2.2 a)] h none h' := by
  unfold z_X0_endFirst at hsp
  refine fr_head (own := RX0) (by decide) rfl hj (Nat.le_of_ble_eq_true rfl) ?_
  intro p e s m below meth c ls C hr hlocks hR hl
  have hl : lv_has ls 1 [(0, .ref (g.2.2 a))] := hl
  have hx := C.1.1
  have hb := C.1.2.1
  refine lv_aload_n hx hb dX0_endFirst_0 rfl (lv_at hl 0 rfl) ?_
  refine lv_aload_n hx hb dX0_endFirst_1 rfl (lv_at hl 0 rfl) ?_
  refine fr_getj C hR ha Fg_RX0_9 rfl dX0_endFirst_2 ?_
  refine lv_aload_n hx hb dX0_endFirst_5 rfl (lv_at hl 0 rfl) ?_
  refine fr_getj C hR ha Fg_RX0_15 rfl dX0_endFirst_6 ?_
  refine lv_aload_n hx hb dX0_endFirst_9 rfl (lv_at hl 0 rfl) ?_
  refine fr_getj C hR ha Fg_RX0_9 rfl dX0_endFirst_10 ?_
  refine lv_aload_n hx hb dX0_endFirst_13 rfl (lv_at hl 0 rfl) ?_
  refine fr_getj C hR ha Fg_RX0_15 rfl dX0_endFirst_14 ?_
  obtain ⟨h1, E2, hsp⟩ := fr_b1 hsp
  refine fq_callV (rest := []) (st1 := []) C hR (k_X0_become C.2.2 ha E2) Y_X0_become YV_X0_become Lk_RX0_28 ha ⟨_, _, rfl, by decide⟩ rfl hl.1 ⟨Nat.le_of_ble_eq_true rfl, Nat.le_of_ble_eq_true rfl⟩ rfl (Nat.le_of_ble_eq_true rfl) ⟨Nat.zero_le _, Nat.zero_le _⟩ rfl dX0_endFirst_17 (fun H locs hR => ?_)
  exact fr_vret C hr hlocks hR (fr_s1 hsp) dX0_endFirst_20

/-! TermRows$Half.endSecond()V -/
def z_X0_endSecond (S : fh_S) (h : fh_H) (a : Nat) : Option fh_H :=
    fh_b1 (z_X0_become S h a (h.2.1 a 0) (h.2.1 a 0) (h.2.1 a 2) (h.2.1 a 2)) (fun h1 => some h1)
set_option maxHeartbeats 4000000 in
set_option maxRecDepth 100000 in
theorem k_X0_endSecond {l : Launch} {S : fh_S} {g : fh_G} {h h' : fh_H} (hj : fh_inj S g) {a : Nat} (ha : fh_kq S a 0 = true) (hsp : z_X0_endSecond S h a = some h') : fh_M l yX0_endSecond cX0_endSecond 1 none (fh_rm 2) S g [.ref (g.2.2 a)] h none h' := by
  unfold z_X0_endSecond at hsp
  refine fr_head (own := RX0) (by decide) rfl hj (Nat.le_of_ble_eq_true rfl) ?_
  intro p e s m below meth c ls C hr hlocks hR hl
  have hl : lv_has ls 1 [(0, .ref (g.2.2 a))] := hl
  have hx := C.1.1
  have hb := C.1.2.1
  refine lv_aload_n hx hb dX0_endSecond_0 rfl (lv_at hl 0 rfl) ?_
  refine lv_aload_n hx hb dX0_endSecond_1 rfl (lv_at hl 0 rfl) ?_
  refine fr_getj C hR ha Fg_RX0_9 rfl dX0_endSecond_2 ?_
  refine lv_aload_n hx hb dX0_endSecond_5 rfl (lv_at hl 0 rfl) ?_
  refine fr_getj C hR ha Fg_RX0_9 rfl dX0_endSecond_6 ?_
  refine lv_aload_n hx hb dX0_endSecond_9 rfl (lv_at hl 0 rfl) ?_
  refine fr_getj C hR ha Fg_RX0_18 rfl dX0_endSecond_10 ?_
  refine lv_aload_n hx hb dX0_endSecond_13 rfl (lv_at hl 0 rfl) ?_
  refine fr_getj C hR ha Fg_RX0_18 rfl dX0_endSecond_14 ?_
  obtain ⟨h1, E2, hsp⟩ := fr_b1 hsp
  refine fq_callV (rest := []) (st1 := []) C hR (k_X0_become C.2.2 ha E2) Y_X0_become YV_X0_become Lk_RX0_28 ha ⟨_, _, rfl, by decide⟩ rfl hl.1 ⟨Nat.le_of_ble_eq_true rfl, Nat.le_of_ble_eq_true rfl⟩ rfl (Nat.le_of_ble_eq_true rfl) ⟨Nat.zero_le _, Nat.zero_le _⟩ rfl dX0_endSecond_17 (fun H locs hR => ?_)
  exact fr_vret C hr hlocks hR (fr_s1 hsp) dX0_endSecond_20

/-! TermRows$Half.subtract(JLTermRows$Half;)V -/
def z_X0_subtract (S : fh_S) (h : fh_H) (a : Nat) (x1 : Int64) (x3 : Nat) : Option fh_H :=
    fh_b1 (z_X11_grown (h.2.1 x3 0) (-x1) (h.2.1 a 0)) (fun r1 => fh_b1 (z_X11_grown (h.2.1 x3 1) (-x1) (h.2.1 a 1)) (fun r3 => fh_b1 (z_X11_grown (h.2.1 x3 2) (-x1) (h.2.1 a 2)) (fun r5 => fh_b1 (z_X11_grown (h.2.1 x3 3) (-x1) (h.2.1 a 3)) (fun r7 => fh_b1 (z_X0_become S h a r1 r3 r5 r7) (fun h9 => some h9)))))
set_option maxHeartbeats 4000000 in
set_option maxRecDepth 100000 in
theorem k_X0_subtract {l : Launch} {S : fh_S} {g : fh_G} {h h' : fh_H} (hj : fh_inj S g) {a : Nat} {x1 : Int64} {x3 : Nat} (ha : fh_kq S a 0 = true) (k_x3 : fh_kq S x3 0 = true) (hsp : z_X0_subtract S h a x1 x3 = some h') : fh_M l yX0_subtract cX0_subtract 4 none (fh_rm 2) S g [.ref (g.2.2 a), .long x1, .ref (g.2.2 x3)] h none h' := by
  unfold z_X0_subtract at hsp
  refine fr_head (own := RX0) (by decide) rfl hj (Nat.le_of_ble_eq_true rfl) ?_
  intro p e s m below meth c ls C hr hlocks hR hl
  have hl : lv_has ls 4 [(0, .ref (g.2.2 a)), (1, .long x1), (3, .ref (g.2.2 x3))] := hl
  have hx := C.1.1
  have hb := C.1.2.1
  refine lv_aload_n hx hb dX0_subtract_0 rfl (lv_at hl 0 rfl) ?_
  refine lv_aload_n hx hb dX0_subtract_1 rfl (lv_at hl 2 rfl) ?_
  refine fr_getj C hR k_x3 Fg_RX0_9 rfl dX0_subtract_2 ?_
  refine lv_lload_n hx hb dX0_subtract_5 rfl (lv_at hl 1 rfl) ?_
  refine lv_lneg hx hb dX0_subtract_6 ?_
  refine lv_aload_n hx hb dX0_subtract_7 rfl (lv_at hl 0 rfl) ?_
  refine fr_getj C hR ha Fg_RX0_9 rfl dX0_subtract_8 ?_
  obtain ⟨r1, E2, hsp⟩ := fr_b1 hsp
  refine fq_callSN (rest := [.ref (g.2.2 a)]) (st1 := [.long r1, .ref (g.2.2 a)]) C hR (k_X11_grown C.2.2 E2) Y_X11_grown YS_X11_grown C.2.1.2.1 rfl hl.1 ⟨Nat.le_of_ble_eq_true rfl, Nat.le_of_ble_eq_true rfl⟩ rfl (Nat.le_of_ble_eq_true rfl) ⟨Nat.zero_le _, Nat.zero_le _⟩ rfl dX0_subtract_11 (fun H locs hR => ?_)
  refine lv_aload_n hx hb dX0_subtract_14 rfl (lv_at hl 2 rfl) ?_
  refine fr_getj C hR k_x3 Fg_RX0_15 rfl dX0_subtract_15 ?_
  refine lv_lload_n hx hb dX0_subtract_18 rfl (lv_at hl 1 rfl) ?_
  refine lv_lneg hx hb dX0_subtract_19 ?_
  refine lv_aload_n hx hb dX0_subtract_20 rfl (lv_at hl 0 rfl) ?_
  refine fr_getj C hR ha Fg_RX0_15 rfl dX0_subtract_21 ?_
  obtain ⟨r3, E4, hsp⟩ := fr_b1 hsp
  refine fq_callSN (rest := [.long r1, .ref (g.2.2 a)]) (st1 := [.long r3, .long r1, .ref (g.2.2 a)]) C hR (k_X11_grown C.2.2 E4) Y_X11_grown YS_X11_grown C.2.1.2.1 rfl hl.1 ⟨Nat.le_of_ble_eq_true rfl, Nat.le_of_ble_eq_true rfl⟩ rfl (Nat.le_of_ble_eq_true rfl) ⟨Nat.zero_le _, Nat.zero_le _⟩ rfl dX0_subtract_24 (fun H locs hR => ?_)
  refine lv_aload_n hx hb dX0_subtract_27 rfl (lv_at hl 2 rfl) ?_
  refine fr_getj C hR k_x3 Fg_RX0_18 rfl dX0_subtract_28 ?_
  refine lv_lload_n hx hb dX0_subtract_31 rfl (lv_at hl 1 rfl) ?_
  refine lv_lneg hx hb dX0_subtract_32 ?_
  refine lv_aload_n hx hb dX0_subtract_33 rfl (lv_at hl 0 rfl) ?_
  refine fr_getj C hR ha Fg_RX0_18 rfl dX0_subtract_34 ?_
  obtain ⟨r5, E6, hsp⟩ := fr_b1 hsp
  refine fq_callSN (rest := [.long r3, .long r1, .ref (g.2.2 a)]) (st1 := [.long r5, .long r3, .long r1, .ref (g.2.2 a)]) C hR (k_X11_grown C.2.2 E6) Y_X11_grown YS_X11_grown C.2.1.2.1 rfl hl.1 ⟨Nat.le_of_ble_eq_true rfl, Nat.le_of_ble_eq_true rfl⟩ rfl (Nat.le_of_ble_eq_true rfl) ⟨Nat.zero_le _, Nat.zero_le _⟩ rfl dX0_subtract_37 (fun H locs hR => ?_)
  refine lv_aload_n hx hb dX0_subtract_40 rfl (lv_at hl 2 rfl) ?_
  refine fr_getj C hR k_x3 Fg_RX0_21 rfl dX0_subtract_41 ?_
  refine lv_lload_n hx hb dX0_subtract_44 rfl (lv_at hl 1 rfl) ?_
  refine lv_lneg hx hb dX0_subtract_45 ?_
  refine lv_aload_n hx hb dX0_subtract_46 rfl (lv_at hl 0 rfl) ?_
  refine fr_getj C hR ha Fg_RX0_21 rfl dX0_subtract_47 ?_
  obtain ⟨r7, E8, hsp⟩ := fr_b1 hsp
  refine fq_callSN (rest := [.long r5, .long r3, .long r1, .ref (g.2.2 a)]) (st1 := [.long r7, .long r5, .long r3, .long r1, .ref (g.2.2 a)]) C hR (k_X11_grown C.2.2 E8) Y_X11_grown YS_X11_grown C.2.1.2.1 rfl hl.1 ⟨Nat.le_of_ble_eq_true rfl, Nat.le_of_ble_eq_true rfl⟩ rfl (Nat.le_of_ble_eq_true rfl) ⟨Nat.zero_le _, Nat.zero_le _⟩ rfl dX0_subtract_50 (fun H locs hR => ?_)
  obtain ⟨h9, E10, hsp⟩ := fr_b1 hsp
  refine fq_callV (rest := []) (st1 := []) C hR (k_X0_become C.2.2 ha E10) Y_X0_become YV_X0_become Lk_RX0_28 ha ⟨_, _, rfl, by decide⟩ rfl hl.1 ⟨Nat.le_of_ble_eq_true rfl, Nat.le_of_ble_eq_true rfl⟩ rfl (Nat.le_of_ble_eq_true rfl) ⟨Nat.zero_le _, Nat.zero_le _⟩ rfl dX0_subtract_53 (fun H locs hR => ?_)
  exact fr_vret C hr hlocks hR (fr_s1 hsp) dX0_subtract_56

/-! TermRows$History.keep(LTermRows$Row;)V -/
def z_X1_keep_b58 (S : fh_S) (a : Nat) (h : fh_H) (y1 : Nat) (y2 : Int32) : Option fh_H :=
    fh_b1 (h.2.2 a 0) (fun j1 => fh_ck (fh_kq S j1 16) (fh_ck (fh_in y2 (S.2.2 j1)) (fh_ck (fh_kq S y1 6) (fh_let (fh_sR h j1 (Int32.toNatClampNeg y2) (some y1)) (fun h6 => fh_b1 (z_X1_swap S h6 a y1 y2) (fun h7 => some h7))))))
def z_X1_keep (S : fh_S) (h : fh_H) (a : Nat) (x1 : Nat) : Option fh_H :=
    fh_let ((((h.1 a 2) + (h.1 a 3)) &&& (15 : Int32))) (fun v1 => fh_b1 (h.2.2 a 0) (fun j2 => fh_ck (fh_kq S j2 16) (if v1 < (Int32.ofNat (S.2.2 j2)) then (if (h.1 a 3) = (16 : Int32) then (fh_let (fh_sI h a 2 (((h.1 a 2) + (1 : Int32)) &&& (15 : Int32))) (fun h8 => z_X1_keep_b58 S a h8 x1 v1)) else (fh_let (fh_sI h a 3 ((h.1 a 3) + (1 : Int32))) (fun h7 => z_X1_keep_b58 S a h7 x1 v1))) else (some h))))
set_option maxHeartbeats 4000000 in
set_option maxRecDepth 100000 in
theorem k_X1_keep {l : Launch} {S : fh_S} {g : fh_G} {h h' : fh_H} (hj : fh_inj S g) {a : Nat} {x1 : Nat} (ha : fh_kq S a 1 = true) (k_x1 : fh_kq S x1 6 = true) (hsp : z_X1_keep S h a x1 = some h') : fh_M l yX1_keep cX1_keep 3 none (fh_rm 2) S g [.ref (g.2.2 a), .ref (g.2.2 x1)] h none h' := by
  unfold z_X1_keep at hsp
  refine fr_head (own := RX1) (by decide) rfl hj (Nat.le_of_ble_eq_true rfl) ?_
  intro p e s m below meth c ls C hr hlocks hR hl
  have hl : lv_has ls 3 [(0, .ref (g.2.2 a)), (1, .ref (g.2.2 x1))] := hl
  have hx := C.1.1
  have hb := C.1.2.1
  have hb_58 : ∀ (h : fh_H) (y1 : Nat) (y2 : Int32) (H : Heap) (locs : List Loc) (ls : Array Slot), z_X1_keep_b58 S a h y1 y2 = some h' → fh_R S g s.heap h H locs → lv_has ls 3 [(0, .ref (g.2.2 a)), (1, .ref (g.2.2 y1)), (2, .int y2)] → fh_Wk p l e 2 s m [.ref (g.2.2 a), .ref (g.2.2 x1)] below meth c S g none h' H locs (F0 m 58 ls []) := by
    intro h y1 y2 H locs ls hsp hR hl
    unfold z_X1_keep_b58 at hsp
    refine lv_aload_n hx hb dX1_keep_58 rfl (lv_at hl 0 rfl) ?_
    obtain ⟨j1, hv2, hsp⟩ := fr_b1 hsp
    refine fr_getr C hR ha Fg_RX1_11 rfl hv2 dX1_keep_59 ?_
    refine lv_iload_n hx hb dX1_keep_62 rfl (lv_at hl 2 rfl) ?_
    refine lv_aload_n hx hb dX1_keep_63 rfl (lv_at hl 1 rfl) ?_
    obtain ⟨hk3, hsp⟩ := fr_ck hsp
    obtain ⟨hi4, hsp⟩ := fr_ck hsp
    obtain ⟨hk5, hsp⟩ := fr_ck hsp
    refine fr_aast C hR hk3 hk5 (Or.inr ⟨rfl, rfl⟩) hi4 dX1_keep_64 (fun H locs hR => ?_)
    obtain ⟨h6, eh6⟩ : ∃ z, z = fh_sR h j1 (Int32.toNatClampNeg y2) (some y1) := ⟨_, rfl⟩
    rw [← eh6] at hR
    have hsp := fr_let eh6 hsp
    refine lv_aload_n hx hb dX1_keep_65 rfl (lv_at hl 0 rfl) ?_
    refine lv_aload_n hx hb dX1_keep_66 rfl (lv_at hl 1 rfl) ?_
    refine lv_iload_n hx hb dX1_keep_67 rfl (lv_at hl 2 rfl) ?_
    obtain ⟨h7, E8, hsp⟩ := fr_b1 hsp
    refine fq_callV (rest := []) (st1 := []) C hR (k_X1_swap C.2.2 ha hk5 E8) Y_X1_swap YV_X1_swap Lk_RX1_31 ha ⟨_, _, rfl, by decide⟩ rfl hl.1 ⟨Nat.le_of_ble_eq_true rfl, Nat.le_of_ble_eq_true rfl⟩ rfl (Nat.le_of_ble_eq_true rfl) ⟨Nat.zero_le _, Nat.zero_le _⟩ rfl dX1_keep_68 (fun H locs hR => ?_)
    exact fr_vret C hr hlocks hR (fr_s1 hsp) dX1_keep_71
  refine lv_aload_n hx hb dX1_keep_0 rfl (lv_at hl 0 rfl) ?_
  refine fr_geti C hR ha Fg_RX1_24 rfl dX1_keep_1 ?_
  refine lv_aload_n hx hb dX1_keep_4 rfl (lv_at hl 0 rfl) ?_
  refine fr_geti C hR ha Fg_RX1_28 rfl dX1_keep_5 ?_
  refine lv_iadd hx hb dX1_keep_8 ?_
  refine lv_bipush (v := 15) hx hb dX1_keep_9 (by decide) ?_
  refine lv_iand hx hb dX1_keep_11 ?_
  refine lv_topi (fun v1 ev1 => ?_)
  have hsp := fr_let ev1 hsp
  refine lv_istore_n (lv' := [(2, .int v1), (0, .ref (g.2.2 a)), (1, .ref (g.2.2 x1))]) hx hb dX1_keep_12 rfl hl (by decide) rfl (fun ls hl => ?_)
  refine lv_iload_n hx hb dX1_keep_13 rfl (lv_at hl 0 rfl) ?_
  refine lv_aload_n hx hb dX1_keep_14 rfl (lv_at hl 1 rfl) ?_
  obtain ⟨j2, hv3, hsp⟩ := fr_b1 hsp
  refine fr_getr C hR ha Fg_RX1_11 rfl hv3 dX1_keep_15 ?_
  obtain ⟨hk4, hsp⟩ := fr_ck hsp
  refine fr_alen C hR hk4 (Or.inr (Or.inr (Or.inr rfl))) dX1_keep_18 ?_
  refine lv_icmp_lt (tgt := 23) hx hb dX1_keep_19 (by decide) (fun c5 => ?_) (fun c5 => ?_)
  · rw [if_pos c5] at hsp
    refine lv_aload_n hx hb dX1_keep_23 rfl (lv_at hl 1 rfl) ?_
    refine fr_geti C hR ha Fg_RX1_28 rfl dX1_keep_24 ?_
    refine lv_bipush (v := 16) hx hb dX1_keep_27 (by decide) ?_
    refine lv_icmp_ne (tgt := 48) hx hb dX1_keep_29 (by decide) (fun c6 => ?_) (fun c6 => ?_)
    · rw [if_neg c6] at hsp
      refine lv_aload_n hx hb dX1_keep_48 rfl (lv_at hl 1 rfl) ?_
      refine lv_dup hx hb dX1_keep_49 rfl ?_
      refine fr_geti C hR ha Fg_RX1_28 rfl dX1_keep_50 ?_
      refine lv_iconst (v := 1) hx hb dX1_keep_53 (by decide) ?_
      refine lv_iadd hx hb dX1_keep_54 ?_
      refine fr_puti C hR ha Fp_RX1_28 rfl dX1_keep_55 (fun H locs hR => ?_)
      obtain ⟨h7, eh7⟩ : ∃ z, z = fh_sI h a 3 ((h.1 a 3) + (1 : Int32)) := ⟨_, rfl⟩
      rw [← eh7] at hR
      have hsp := fr_let eh7 hsp
      exact hb_58 h7 x1 v1 _ _ _ hsp hR (lv_sub hl [1, 2, 0] rfl)
    · rw [if_pos c6] at hsp
      refine lv_aload_n hx hb dX1_keep_32 rfl (lv_at hl 1 rfl) ?_
      refine lv_aload_n hx hb dX1_keep_33 rfl (lv_at hl 1 rfl) ?_
      refine fr_geti C hR ha Fg_RX1_24 rfl dX1_keep_34 ?_
      refine lv_iconst (v := 1) hx hb dX1_keep_37 (by decide) ?_
      refine lv_iadd hx hb dX1_keep_38 ?_
      refine lv_bipush (v := 15) hx hb dX1_keep_39 (by decide) ?_
      refine lv_iand hx hb dX1_keep_41 ?_
      refine fr_puti C hR ha Fp_RX1_24 rfl dX1_keep_42 (fun H locs hR => ?_)
      obtain ⟨h8, eh8⟩ : ∃ z, z = fh_sI h a 2 (((h.1 a 2) + (1 : Int32)) &&& (15 : Int32)) := ⟨_, rfl⟩
      rw [← eh8] at hR
      have hsp := fr_let eh8 hsp
      refine lv_goto (tgt := 58) hx hb dX1_keep_45 (by decide) ?_
      exact hb_58 h8 x1 v1 _ _ _ hsp hR (lv_sub hl [1, 2, 0] rfl)
  · rw [if_neg c5] at hsp
    exact fr_vret C hr hlocks hR (fr_s1 hsp) dX1_keep_22

/-! TermRows$History.takeBack()LTermRows$Row; -/
def z_X1_takeBack_b51 (S : fh_S) (a : Nat) (h : fh_H) (y1 : Int32) (t0 : Option Nat) : Option ((Option Nat) × fh_H) :=
    fh_nn t0 (some (none, h)) (fun jt0 => fh_ck (fh_kq S jt0 6) (fh_b1 (z_X1_swap S h a jt0 y1) (fun h2 => some ((some jt0), h2))))
def z_X1_takeBack (S : fh_S) (h : fh_H) (a : Nat) : Option ((Option Nat) × fh_H) :=
    if 0 < (h.1 a 3) then (fh_let (fh_sI h a 3 ((h.1 a 3) - (1 : Int32))) (fun h2 => fh_let ((((h2.1 a 2) + (h2.1 a 3)) &&& (15 : Int32))) (fun v3 => fh_b1 (h2.2.2 a 0) (fun j4 => fh_ck (fh_kq S j4 16) (if (Int32.ofNat (S.2.2 j4)) ≤ v3 then (z_X1_takeBack_b51 S a h2 v3 none) else (fh_ck (fh_in v3 (S.2.2 j4)) (fh_nn (h2.2.2 j4 (Int32.toNatClampNeg v3)) (z_X1_takeBack_b51 S a h2 v3 none) (fun j9 => z_X1_takeBack_b51 S a h2 v3 (some j9))))))))) else (some (none, h))
set_option maxHeartbeats 4000000 in
set_option maxRecDepth 100000 in
theorem k_X1_takeBack {l : Launch} {S : fh_S} {g : fh_G} {h h' : fh_H} (hj : fh_inj S g) {a : Nat} {r : Option Nat} (ha : fh_kq S a 1 = true) (hsp : z_X1_takeBack S h a = some (r, h')) : fh_M l yX1_takeBack cX1_takeBack 3 (some (.object "TermRows$Row")) (fh_rm 2) S g [.ref (g.2.2 a)] h (some (va_rf (r.map g.2.2))) h' := by
  unfold z_X1_takeBack at hsp
  refine fr_head (own := RX1) (by decide) rfl hj (Nat.le_of_ble_eq_true rfl) ?_
  intro p e s m below meth c ls C hr hlocks hR hl
  have hl : lv_has ls 3 [(0, .ref (g.2.2 a))] := hl
  have hx := C.1.1
  have hb := C.1.2.1
  have hb_51 : ∀ (h : fh_H) (y1 : Int32) (t0 : Option Nat) (H : Heap) (locs : List Loc) (ls : Array Slot), z_X1_takeBack_b51 S a h y1 t0 = some (r, h') → fh_R S g s.heap h H locs → lv_has ls 3 [(0, .ref (g.2.2 a)), (1, .int y1)] → fh_Wk p l e 2 s m [.ref (g.2.2 a)] below meth c S g (some (va_rf (r.map g.2.2))) h' H locs (F0 m 51 ls [va_rf (Option.map g.2.2 t0)]) := by
    intro h y1 t0 H locs ls hsp hR hl
    unfold z_X1_takeBack_b51 at hsp
    rcases t0 with _ | jt0
    · have hsp := fr_nnN hsp
      have hl : lv_has ls 3 [(0, .ref (g.2.2 a)), (1, .int y1)] := hl
      refine W.eq (g2 := F0 m 51 ls [.null]) rfl ?_
      refine lv_astore_nN (lv' := [(2, .null), (0, .ref (g.2.2 a)), (1, .int y1)]) hx hb dX1_takeBack_51 rfl hl (by decide) rfl (fun ls hl => ?_)
      refine lv_aload_nN hx hb dX1_takeBack_52 rfl (lv_at hl 0 rfl) ?_
      refine lv_ifnullN (tgt := 62) hx hb dX1_takeBack_53 (by decide) ?_
      refine lv_aload_nN hx hb dX1_takeBack_62 rfl (lv_at hl 0 rfl) ?_
      obtain ⟨e1, e2⟩ := fr_s2 hsp
      exact fr_nret C hr hlocks hR e1 e2 dX1_takeBack_63
    · have hsp := fr_nnS hsp
      have hl : lv_has ls 3 [(0, .ref (g.2.2 a)), (1, .int y1)] := hl
      refine W.eq (g2 := F0 m 51 ls [.ref (g.2.2 jt0)]) rfl ?_
      refine lv_astore_n (lv' := [(2, .ref (g.2.2 jt0)), (0, .ref (g.2.2 a)), (1, .int y1)]) hx hb dX1_takeBack_51 rfl hl (by decide) rfl (fun ls hl => ?_)
      refine lv_aload_n hx hb dX1_takeBack_52 rfl (lv_at hl 0 rfl) ?_
      refine lv_ifnull hx hb dX1_takeBack_53 ?_
      refine lv_aload_n hx hb dX1_takeBack_56 rfl (lv_at hl 1 rfl) ?_
      refine lv_aload_n hx hb dX1_takeBack_57 rfl (lv_at hl 0 rfl) ?_
      refine lv_iload_n hx hb dX1_takeBack_58 rfl (lv_at hl 2 rfl) ?_
      obtain ⟨hk1, hsp⟩ := fr_ck hsp
      obtain ⟨h2, E3, hsp⟩ := fr_b1 hsp
      refine fq_callV (rest := []) (st1 := []) C hR (k_X1_swap C.2.2 ha hk1 E3) Y_X1_swap YV_X1_swap Lk_RX1_31 ha ⟨_, _, rfl, by decide⟩ rfl hl.1 ⟨Nat.le_of_ble_eq_true rfl, Nat.le_of_ble_eq_true rfl⟩ rfl (Nat.le_of_ble_eq_true rfl) ⟨Nat.zero_le _, Nat.zero_le _⟩ rfl dX1_takeBack_59 (fun H locs hR => ?_)
      refine lv_aload_n hx hb dX1_takeBack_62 rfl (lv_at hl 0 rfl) ?_
      obtain ⟨e1, e2⟩ := fr_s2 hsp
      exact fr_aret C hr hlocks hR e1 e2 dX1_takeBack_63
  refine lv_aload_n hx hb dX1_takeBack_0 rfl (lv_at hl 0 rfl) ?_
  refine fr_geti C hR ha Fg_RX1_28 rfl dX1_takeBack_1 ?_
  refine lv_if_gt (tgt := 9) hx hb dX1_takeBack_4 (by decide) (fun c1 => ?_) (fun c1 => ?_)
  · rw [if_pos c1] at hsp
    refine lv_aload_n hx hb dX1_takeBack_9 rfl (lv_at hl 0 rfl) ?_
    refine lv_dup hx hb dX1_takeBack_10 rfl ?_
    refine fr_geti C hR ha Fg_RX1_28 rfl dX1_takeBack_11 ?_
    refine lv_iconst (v := 1) hx hb dX1_takeBack_14 (by decide) ?_
    refine lv_isub hx hb dX1_takeBack_15 ?_
    refine fr_puti C hR ha Fp_RX1_28 rfl dX1_takeBack_16 (fun H locs hR => ?_)
    obtain ⟨h2, eh2⟩ : ∃ z, z = fh_sI h a 3 ((h.1 a 3) - (1 : Int32)) := ⟨_, rfl⟩
    rw [← eh2] at hR
    have hsp := fr_let eh2 hsp
    refine lv_aload_n hx hb dX1_takeBack_19 rfl (lv_at hl 0 rfl) ?_
    refine fr_geti C hR ha Fg_RX1_24 rfl dX1_takeBack_20 ?_
    refine lv_aload_n hx hb dX1_takeBack_23 rfl (lv_at hl 0 rfl) ?_
    refine fr_geti C hR ha Fg_RX1_28 rfl dX1_takeBack_24 ?_
    refine lv_iadd hx hb dX1_takeBack_27 ?_
    refine lv_bipush (v := 15) hx hb dX1_takeBack_28 (by decide) ?_
    refine lv_iand hx hb dX1_takeBack_30 ?_
    refine lv_topi (fun v3 ev3 => ?_)
    have hsp := fr_let ev3 hsp
    refine lv_istore_n (lv' := [(1, .int v3), (0, .ref (g.2.2 a))]) hx hb dX1_takeBack_31 rfl hl (by decide) rfl (fun ls hl => ?_)
    refine lv_iload_n hx hb dX1_takeBack_32 rfl (lv_at hl 0 rfl) ?_
    refine lv_aload_n hx hb dX1_takeBack_33 rfl (lv_at hl 1 rfl) ?_
    obtain ⟨j4, hv5, hsp⟩ := fr_b1 hsp
    refine fr_getr C hR ha Fg_RX1_11 rfl hv5 dX1_takeBack_34 ?_
    obtain ⟨hk6, hsp⟩ := fr_ck hsp
    refine fr_alen C hR hk6 (Or.inr (Or.inr (Or.inr rfl))) dX1_takeBack_37 ?_
    refine lv_icmp_ge (tgt := 50) hx hb dX1_takeBack_38 (by decide) (fun c7 => ?_) (fun c7 => ?_)
    · rw [if_pos c7] at hsp
      refine lv_null hx hb dX1_takeBack_50 ?_
      exact hb_51 h2 v3 none _ _ _ hsp hR (lv_sub hl [1, 0] rfl)
    · rw [if_neg c7] at hsp
      refine lv_aload_n hx hb dX1_takeBack_41 rfl (lv_at hl 1 rfl) ?_
      refine fr_getr C hR ha Fg_RX1_11 rfl hv5 dX1_takeBack_42 ?_
      refine lv_iload_n hx hb dX1_takeBack_45 rfl (lv_at hl 0 rfl) ?_
      obtain ⟨hi8, hsp⟩ := fr_ck hsp
      rcases hv10 : (h2.2.2 j4 (Int32.toNatClampNeg v3)) with _ | j9
      · rw [hv10] at hsp; have hsp := fr_nnN hsp
        refine fr_aaln C hR hk6 (Or.inr rfl) hi8 hv10 dX1_takeBack_46 ?_
        refine lv_goto (tgt := 51) hx hb dX1_takeBack_47 (by decide) ?_
        exact hb_51 h2 v3 none _ _ _ hsp hR (lv_sub hl [1, 0] rfl)
      · rw [hv10] at hsp; have hsp := fr_nnS hsp
        refine fr_aald C hR hk6 (Or.inr rfl) hi8 hv10 dX1_takeBack_46 ?_
        refine lv_goto (tgt := 51) hx hb dX1_takeBack_47 (by decide) ?_
        exact hb_51 h2 v3 (some j9) _ _ _ hsp hR (lv_sub hl [1, 0] rfl)
  · rw [if_neg c1] at hsp
    refine lv_null hx hb dX1_takeBack_7 ?_
    obtain ⟨e1, e2⟩ := fr_s2 hsp
    exact fr_nret C hr hlocks hR e1 e2 dX1_takeBack_8

/-! TermRows$Ladder.climbOne(I)V -/
def z_X2_climbOne (S : fh_S) (h : fh_H) (a : Nat) (x1 : Int32) : Option fh_H :=
    if (h.1 a 4) = 0 then (fh_b1 (z_X11_grown (h.2.1 a 0) (Int32.toInt64 x1) (h.2.1 a 2)) (fun r2 => fh_b1 (z_X11_grown (h.2.1 a 1) (Int32.toInt64 x1) (h.2.1 a 3)) (fun r4 => fh_let (fh_sJ h a 2 (h.2.1 a 0)) (fun h6 => fh_let (fh_sJ h6 a 3 (h6.2.1 a 1)) (fun h7 => fh_let (fh_sJ h7 a 0 r2) (fun h8 => fh_let (fh_sJ h8 a 1 r4) (fun h9 => if (h9.2.1 a 0) = (1000000000000001 : Int64) then (fh_let (fh_sI h9 a 4 (1 : Int32)) (fun h11 => some h11)) else (if (h9.2.1 a 1) = (1000000000000001 : Int64) then (fh_let (fh_sI h9 a 4 (1 : Int32)) (fun h14 => some h14)) else (fh_let (fh_sI h9 a 4 (0 : Int32)) (fun h13 => some h13)))))))))) else (some h)
set_option maxHeartbeats 4000000 in
set_option maxRecDepth 100000 in
theorem k_X2_climbOne {l : Launch} {S : fh_S} {g : fh_G} {h h' : fh_H} (hj : fh_inj S g) {a : Nat} {x1 : Int32} (ha : fh_kq S a 2 = true) (hsp : z_X2_climbOne S h a x1 = some h') : fh_M l yX2_climbOne cX2_climbOne 6 none (fh_rm 2) S g [.ref (g.2.2 a), .int x1] h none h' := by
  unfold z_X2_climbOne at hsp
  refine fr_head (own := RX2) (by decide) rfl hj (Nat.le_of_ble_eq_true rfl) ?_
  intro p e s m below meth c ls C hr hlocks hR hl
  have hl : lv_has ls 6 [(0, .ref (g.2.2 a)), (1, .int x1)] := hl
  have hx := C.1.1
  have hb := C.1.2.1
  refine lv_aload_n hx hb dX2_climbOne_0 rfl (lv_at hl 0 rfl) ?_
  refine fr_geti C hR ha Fg_RX2_24 rfl dX2_climbOne_1 ?_
  refine lv_if_eq (tgt := 8) hx hb dX2_climbOne_4 (by decide) (fun c1 => ?_) (fun c1 => ?_)
  · rw [if_pos c1] at hsp
    refine lv_aload_n hx hb dX2_climbOne_8 rfl (lv_at hl 0 rfl) ?_
    refine fr_getj C hR ha Fg_RX2_9 rfl dX2_climbOne_9 ?_
    refine lv_iload_n hx hb dX2_climbOne_12 rfl (lv_at hl 1 rfl) ?_
    refine lv_i2l hx hb dX2_climbOne_13 rfl ?_
    refine lv_aload_n hx hb dX2_climbOne_14 rfl (lv_at hl 0 rfl) ?_
    refine fr_getj C hR ha Fg_RX2_18 rfl dX2_climbOne_15 ?_
    obtain ⟨r2, E3, hsp⟩ := fr_b1 hsp
    refine fq_callSN (rest := []) (st1 := [.long r2]) C hR (k_X11_grown C.2.2 E3) Y_X11_grown YS_X11_grown C.2.1.2.2.1 rfl hl.1 ⟨Nat.le_of_ble_eq_true rfl, Nat.le_of_ble_eq_true rfl⟩ rfl (Nat.le_of_ble_eq_true rfl) ⟨Nat.zero_le _, Nat.zero_le _⟩ rfl dX2_climbOne_18 (fun H locs hR => ?_)
    refine lv_lstore_n (lv' := [(2, .long r2), (0, .ref (g.2.2 a)), (1, .int x1)]) hx hb dX2_climbOne_21 rfl hl (by decide) rfl (fun ls hl => ?_)
    refine lv_aload_n hx hb dX2_climbOne_22 rfl (lv_at hl 1 rfl) ?_
    refine fr_getj C hR ha Fg_RX2_15 rfl dX2_climbOne_23 ?_
    refine lv_iload_n hx hb dX2_climbOne_26 rfl (lv_at hl 2 rfl) ?_
    refine lv_i2l hx hb dX2_climbOne_27 rfl ?_
    refine lv_aload_n hx hb dX2_climbOne_28 rfl (lv_at hl 1 rfl) ?_
    refine fr_getj C hR ha Fg_RX2_21 rfl dX2_climbOne_29 ?_
    obtain ⟨r4, E5, hsp⟩ := fr_b1 hsp
    refine fq_callSN (rest := []) (st1 := [.long r4]) C hR (k_X11_grown C.2.2 E5) Y_X11_grown YS_X11_grown C.2.1.2.2.1 rfl hl.1 ⟨Nat.le_of_ble_eq_true rfl, Nat.le_of_ble_eq_true rfl⟩ rfl (Nat.le_of_ble_eq_true rfl) ⟨Nat.zero_le _, Nat.zero_le _⟩ rfl dX2_climbOne_32 (fun H locs hR => ?_)
    refine lv_lstore (lv' := [(4, .long r4), (2, .long r2), (0, .ref (g.2.2 a)), (1, .int x1)]) hx hb dX2_climbOne_35 hl (by decide) rfl (fun ls hl => ?_)
    refine lv_aload_n hx hb dX2_climbOne_37 rfl (lv_at hl 2 rfl) ?_
    refine lv_aload_n hx hb dX2_climbOne_38 rfl (lv_at hl 2 rfl) ?_
    refine fr_getj C hR ha Fg_RX2_9 rfl dX2_climbOne_39 ?_
    refine fr_putj C hR ha Fp_RX2_18 rfl dX2_climbOne_42 (fun H locs hR => ?_)
    obtain ⟨h6, eh6⟩ : ∃ z, z = fh_sJ h a 2 (h.2.1 a 0) := ⟨_, rfl⟩
    rw [← eh6] at hR
    have hsp := fr_let eh6 hsp
    refine lv_aload_n hx hb dX2_climbOne_45 rfl (lv_at hl 2 rfl) ?_
    refine lv_aload_n hx hb dX2_climbOne_46 rfl (lv_at hl 2 rfl) ?_
    refine fr_getj C hR ha Fg_RX2_15 rfl dX2_climbOne_47 ?_
    refine fr_putj C hR ha Fp_RX2_21 rfl dX2_climbOne_50 (fun H locs hR => ?_)
    obtain ⟨h7, eh7⟩ : ∃ z, z = fh_sJ h6 a 3 (h6.2.1 a 1) := ⟨_, rfl⟩
    rw [← eh7] at hR
    have hsp := fr_let eh7 hsp
    refine lv_aload_n hx hb dX2_climbOne_53 rfl (lv_at hl 2 rfl) ?_
    refine lv_lload_n hx hb dX2_climbOne_54 rfl (lv_at hl 1 rfl) ?_
    refine fr_putj C hR ha Fp_RX2_9 rfl dX2_climbOne_55 (fun H locs hR => ?_)
    obtain ⟨h8, eh8⟩ : ∃ z, z = fh_sJ h7 a 0 r2 := ⟨_, rfl⟩
    rw [← eh8] at hR
    have hsp := fr_let eh8 hsp
    refine lv_aload_n hx hb dX2_climbOne_58 rfl (lv_at hl 2 rfl) ?_
    refine lv_lload hx hb dX2_climbOne_59 (lv_at hl 0 rfl) ?_
    refine fr_putj C hR ha Fp_RX2_15 rfl dX2_climbOne_61 (fun H locs hR => ?_)
    obtain ⟨h9, eh9⟩ : ∃ z, z = fh_sJ h8 a 1 r4 := ⟨_, rfl⟩
    rw [← eh9] at hR
    have hsp := fr_let eh9 hsp
    refine lv_aload_n hx hb dX2_climbOne_64 rfl (lv_at hl 2 rfl) ?_
    refine lv_aload_n hx hb dX2_climbOne_65 rfl (lv_at hl 2 rfl) ?_
    refine fr_getj C hR ha Fg_RX2_9 rfl dX2_climbOne_66 ?_
    refine lv_ldc2 hx hb C.1.2.2.2.1 (C.1.2.2.2.2 _ Kc_RX2_45) dX2_climbOne_69 ?_
    refine fr_lc_eq (tgt := 87) hx hb dX2_climbOne_72 dX2_climbOne_73 (by decide) (fun c10 => ?_) (fun c10 => ?_)
    · rw [if_pos c10] at hsp
      refine lv_iconst (v := 1) hx hb dX2_climbOne_87 (by decide) ?_
      refine lv_goto (tgt := 92) hx hb dX2_climbOne_88 (by decide) ?_
      refine fr_putz C hR ha Fp_RX2_24 rfl (Or.inr rfl) dX2_climbOne_92 (fun H locs hR => ?_)
      obtain ⟨h11, eh11⟩ : ∃ z, z = fh_sI h9 a 4 (1 : Int32) := ⟨_, rfl⟩
      rw [← eh11] at hR
      have hsp := fr_let eh11 hsp
      exact fr_vret C hr hlocks hR (fr_s1 hsp) dX2_climbOne_95
    · rw [if_neg c10] at hsp
      refine lv_aload_n hx hb dX2_climbOne_76 rfl (lv_at hl 2 rfl) ?_
      refine fr_getj C hR ha Fg_RX2_15 rfl dX2_climbOne_77 ?_
      refine lv_ldc2 hx hb C.1.2.2.2.1 (C.1.2.2.2.2 _ Kc_RX2_45) dX2_climbOne_80 ?_
      refine fr_lc_ne (tgt := 91) hx hb dX2_climbOne_83 dX2_climbOne_84 (by decide) (fun c12 => ?_) (fun c12 => ?_)
      · rw [if_neg c12] at hsp
        refine lv_iconst (v := 0) hx hb dX2_climbOne_91 (by decide) ?_
        refine fr_putz C hR ha Fp_RX2_24 rfl (Or.inl rfl) dX2_climbOne_92 (fun H locs hR => ?_)
        obtain ⟨h13, eh13⟩ : ∃ z, z = fh_sI h9 a 4 (0 : Int32) := ⟨_, rfl⟩
        rw [← eh13] at hR
        have hsp := fr_let eh13 hsp
        exact fr_vret C hr hlocks hR (fr_s1 hsp) dX2_climbOne_95
      · rw [if_pos c12] at hsp
        refine lv_iconst (v := 1) hx hb dX2_climbOne_87 (by decide) ?_
        refine lv_goto (tgt := 92) hx hb dX2_climbOne_88 (by decide) ?_
        refine fr_putz C hR ha Fp_RX2_24 rfl (Or.inr rfl) dX2_climbOne_92 (fun H locs hR => ?_)
        obtain ⟨h14, eh14⟩ : ∃ z, z = fh_sI h9 a 4 (1 : Int32) := ⟨_, rfl⟩
        rw [← eh14] at hR
        have hsp := fr_let eh14 hsp
        exact fr_vret C hr hlocks hR (fr_s1 hsp) dX2_climbOne_95
  · rw [if_neg c1] at hsp
    exact fr_vret C hr hlocks hR (fr_s1 hsp) dX2_climbOne_7

/-! TermRows$Question.valueAt(IIJ)J -/
def z_X4_valueAt (S : fh_S) (h : fh_H) (a : Nat) (x1 : Int32) (x2 : Int32) (x3 : Int64) : Option Int64 :=
    if x1 = 263 then (some (Int32.toInt64 x2)) else (if x1 = 264 then (fh_b1 (h.2.2 a 1) (fun j3 => fh_ck (fh_kq S j3 6) (fh_b1 (z_X6_termAt S h j3 x2) (fun r6 => some (Int32.toInt64 r6))))) else (if x1 = 265 then (if x2 = 0 then (some (0 : Int64)) else (fh_b1 (h.2.2 a 1) (fun j10 => fh_ck (fh_kq S j10 6) (fh_b1 (z_X6_termAt S h j10 (x2 - (1 : Int32))) (fun r13 => some (Int32.toInt64 r13)))))) else (if x1 = 266 then (some x3) else (fh_b1 (h.2.2 a 1) (fun j16 => fh_ck (fh_kq S j16 6) (some (Int32.toInt64 (((h.1 j16 6) - (1 : Int32)) - x2))))))))
set_option maxHeartbeats 4000000 in
set_option maxRecDepth 100000 in
theorem k_X4_valueAt {l : Launch} {S : fh_S} {g : fh_G} {h : fh_H} (hj : fh_inj S g) {a : Nat} {x1 : Int32} {x2 : Int32} {x3 : Int64} {r : Int64} (ha : fh_kq S a 4 = true) (hsp : z_X4_valueAt S h a x1 x2 x3 = some r) : fh_M l yX4_valueAt cX4_valueAt 5 (some .long) (fh_rm 2) S g [.ref (g.2.2 a), .int x1, .int x2, .long x3] h (some (.long r)) h := by
  unfold z_X4_valueAt at hsp
  refine fr_head (own := RX4) (by decide) rfl hj (Nat.le_of_ble_eq_true rfl) ?_
  intro p e s m below meth c ls C hr hlocks hR hl
  have hl : lv_has ls 5 [(0, .ref (g.2.2 a)), (1, .int x1), (2, .int x2), (3, .long x3)] := hl
  have hx := C.1.1
  have hb := C.1.2.1
  refine lv_iload_n hx hb dX4_valueAt_0 rfl (lv_at hl 1 rfl) ?_
  by_cases c1 : x1 = 263
  · rw [if_pos c1] at hsp
    refine lv_tableIn (off := 31) (tgt := 32) hx hb dX4_valueAt_1 (by rw [c1]; decide) (by rw [c1]; decide) (by rw [c1]; decide) (by decide) ?_
    refine lv_iload_n hx hb dX4_valueAt_32 rfl (lv_at hl 2 rfl) ?_
    refine lv_i2l hx hb dX4_valueAt_33 rfl ?_
    have e1 := fr_s1 hsp
    exact fr_lret C hr hlocks hR e1 rfl dX4_valueAt_34
  rw [if_neg c1] at hsp
  by_cases c2 : x1 = 264
  · rw [if_pos c2] at hsp
    refine lv_tableIn (off := 34) (tgt := 35) hx hb dX4_valueAt_1 (by rw [c2]; decide) (by rw [c2]; decide) (by rw [c2]; decide) (by decide) ?_
    refine lv_aload_n hx hb dX4_valueAt_35 rfl (lv_at hl 0 rfl) ?_
    obtain ⟨j3, hv4, hsp⟩ := fr_b1 hsp
    refine fr_getr C hR ha Fg_RX4_15 rfl hv4 dX4_valueAt_36 ?_
    refine lv_iload_n hx hb dX4_valueAt_39 rfl (lv_at hl 2 rfl) ?_
    obtain ⟨hk5, hsp⟩ := fr_ck hsp
    obtain ⟨r6, E7, hsp⟩ := fr_b1 hsp
    refine fq_callV (rest := []) (st1 := [.int r6]) C hR (k_X6_termAt C.2.2 hk5 E7) Y_X6_termAt YV_X6_termAt Lk_RX4_88 hk5 ⟨_, _, rfl, by decide⟩ rfl hl.1 ⟨Nat.le_of_ble_eq_true rfl, Nat.le_of_ble_eq_true rfl⟩ rfl (Nat.le_of_ble_eq_true rfl) ⟨Nat.zero_le _, Nat.zero_le _⟩ rfl dX4_valueAt_40 (fun H locs hR => ?_)
    refine lv_i2l hx hb dX4_valueAt_43 rfl ?_
    have e1 := fr_s1 hsp
    exact fr_lret C hr hlocks hR e1 rfl dX4_valueAt_44
  rw [if_neg c2] at hsp
  by_cases c8 : x1 = 265
  · rw [if_pos c8] at hsp
    refine lv_tableIn (off := 44) (tgt := 45) hx hb dX4_valueAt_1 (by rw [c8]; decide) (by rw [c8]; decide) (by rw [c8]; decide) (by decide) ?_
    refine lv_iload_n hx hb dX4_valueAt_45 rfl (lv_at hl 2 rfl) ?_
    refine lv_if_ne (tgt := 53) hx hb dX4_valueAt_46 (by decide) (fun c9 => ?_) (fun c9 => ?_)
    · rw [if_neg c9] at hsp
      refine lv_aload_n hx hb dX4_valueAt_53 rfl (lv_at hl 0 rfl) ?_
      obtain ⟨j10, hv11, hsp⟩ := fr_b1 hsp
      refine fr_getr C hR ha Fg_RX4_15 rfl hv11 dX4_valueAt_54 ?_
      refine lv_iload_n hx hb dX4_valueAt_57 rfl (lv_at hl 2 rfl) ?_
      refine lv_iconst (v := 1) hx hb dX4_valueAt_58 (by decide) ?_
      refine lv_isub hx hb dX4_valueAt_59 ?_
      obtain ⟨hk12, hsp⟩ := fr_ck hsp
      obtain ⟨r13, E14, hsp⟩ := fr_b1 hsp
      refine fq_callV (rest := []) (st1 := [.int r13]) C hR (k_X6_termAt C.2.2 hk12 E14) Y_X6_termAt YV_X6_termAt Lk_RX4_88 hk12 ⟨_, _, rfl, by decide⟩ rfl hl.1 ⟨Nat.le_of_ble_eq_true rfl, Nat.le_of_ble_eq_true rfl⟩ rfl (Nat.le_of_ble_eq_true rfl) ⟨Nat.zero_le _, Nat.zero_le _⟩ rfl dX4_valueAt_60 (fun H locs hR => ?_)
      refine lv_i2l hx hb dX4_valueAt_63 rfl ?_
      have e1 := fr_s1 hsp
      exact fr_lret C hr hlocks hR e1 rfl dX4_valueAt_64
    · rw [if_pos c9] at hsp
      refine lv_lconst (v := 0) hx hb dX4_valueAt_49 (by decide) ?_
      refine lv_goto (tgt := 64) hx hb dX4_valueAt_50 (by decide) ?_
      have e1 := fr_s1 hsp
      exact fr_lret C hr hlocks hR e1 rfl dX4_valueAt_64
  rw [if_neg c8] at hsp
  by_cases c15 : x1 = 266
  · rw [if_pos c15] at hsp
    refine lv_tableIn (off := 64) (tgt := 65) hx hb dX4_valueAt_1 (by rw [c15]; decide) (by rw [c15]; decide) (by rw [c15]; decide) (by decide) ?_
    refine lv_lload_n hx hb dX4_valueAt_65 rfl (lv_at hl 3 rfl) ?_
    have e1 := fr_s1 hsp
    exact fr_lret C hr hlocks hR e1 rfl dX4_valueAt_66
  rw [if_neg c15] at hsp
  refine lv_tableOut (tgt := 67) hx hb dX4_valueAt_1 (fr_tout 263 4 (fun j hj => by match j, hj with | 0, _ => exact c1 | 1, _ => exact c2 | 2, _ => exact c8 | 3, _ => exact c15 | (k + 4), hk => omega) (by decide) (by decide)) (by decide) ?_
  refine lv_aload_n hx hb dX4_valueAt_67 rfl (lv_at hl 0 rfl) ?_
  obtain ⟨j16, hv17, hsp⟩ := fr_b1 hsp
  refine fr_getr C hR ha Fg_RX4_15 rfl hv17 dX4_valueAt_68 ?_
  obtain ⟨hk18, hsp⟩ := fr_ck hsp
  refine fr_geti C hR hk18 Fg_RX4_19 rfl dX4_valueAt_71 ?_
  refine lv_iconst (v := 1) hx hb dX4_valueAt_74 (by decide) ?_
  refine lv_isub hx hb dX4_valueAt_75 ?_
  refine lv_iload_n hx hb dX4_valueAt_76 rfl (lv_at hl 2 rfl) ?_
  refine lv_isub hx hb dX4_valueAt_77 ?_
  refine lv_i2l hx hb dX4_valueAt_78 rfl ?_
  have e1 := fr_s1 hsp
  exact fr_lret C hr hlocks hR e1 rfl dX4_valueAt_79

/-! TermRows$Reckoner.startSingle(LTermRows$Row;IIII)V -/
def z_X5_startSingle (S : fh_S) (h : fh_H) (a : Nat) (x1 : Option Nat) (x2 : Int32) (x3 : Int32) (x4 : Int32) (x5 : Int32) : Option fh_H :=
    fh_nn x1 (fh_b1 (z_X5_begin S h a none none) (fun h1 => fh_b1 (h1.2.2 a 0) (fun j3 => fh_ck (fh_kq S j3 0) (fh_b1 (z_X0_become S h1 j3 (Int32.toInt64 x2) (0 : Int64) (Int32.toInt64 x3) (0 : Int64)) (fun h6 => fh_b1 (h6.2.2 a 1) (fun j8 => fh_ck (fh_kq S j8 0) (fh_b1 (z_X0_become S h6 j8 (Int32.toInt64 x4) (0 : Int64) (Int32.toInt64 x5) (0 : Int64)) (fun h11 => some h11)))))))) (fun jx1 => fh_b1 (z_X5_begin S h a (some jx1) none) (fun h13 => fh_b1 (h13.2.2 a 0) (fun j15 => fh_ck (fh_kq S j15 0) (fh_b1 (z_X0_become S h13 j15 (Int32.toInt64 x2) (0 : Int64) (Int32.toInt64 x3) (0 : Int64)) (fun h18 => fh_b1 (h18.2.2 a 1) (fun j20 => fh_ck (fh_kq S j20 0) (fh_b1 (z_X0_become S h18 j20 (Int32.toInt64 x4) (0 : Int64) (Int32.toInt64 x5) (0 : Int64)) (fun h23 => some h23))))))))
set_option maxHeartbeats 4000000 in
set_option maxRecDepth 100000 in
theorem k_X5_startSingle {l : Launch} {S : fh_S} {g : fh_G} {h h' : fh_H} (hj : fh_inj S g) {a : Nat} {x1 : Option Nat} {x2 : Int32} {x3 : Int32} {x4 : Int32} {x5 : Int32} (ha : fh_kq S a 5 = true) (hsp : z_X5_startSingle S h a x1 x2 x3 x4 x5 = some h') : fh_M l yX5_startSingle cX5_startSingle 6 none (fh_rm 2) S g [.ref (g.2.2 a), va_rf (Option.map g.2.2 x1), .int x2, .int x3, .int x4, .int x5] h none h' := by
  unfold z_X5_startSingle at hsp
  rcases x1 with _ | jx1
  · have hsp := fr_nnN hsp
    refine fr_head (own := RX5) (by decide) rfl hj (Nat.le_of_ble_eq_true rfl) ?_
    intro p e s m below meth c ls C hr hlocks hR hl
    have hl : lv_has ls 6 [(0, .ref (g.2.2 a)), (1, .null), (2, .int x2), (3, .int x3), (4, .int x4), (5, .int x5)] := hl
    have hx := C.1.1
    have hb := C.1.2.1
    refine lv_aload_n hx hb dX5_startSingle_0 rfl (lv_at hl 0 rfl) ?_
    refine lv_aload_nN hx hb dX5_startSingle_1 rfl (lv_at hl 1 rfl) ?_
    refine lv_null hx hb dX5_startSingle_2 ?_
    obtain ⟨h1, E2, hsp⟩ := fr_b1 hsp
    refine fq_callV (rest := []) (st1 := []) C hR (k_X5_begin C.2.2 ha E2) Y_X5_begin YV_X5_begin Lk_RX5_21 ha ⟨_, _, rfl, by decide⟩ rfl hl.1 ⟨Nat.le_of_ble_eq_true rfl, Nat.le_of_ble_eq_true rfl⟩ rfl (Nat.le_of_ble_eq_true rfl) ⟨Nat.zero_le _, Nat.zero_le _⟩ rfl dX5_startSingle_3 (fun H locs hR => ?_)
    refine lv_aload_n hx hb dX5_startSingle_6 rfl (lv_at hl 0 rfl) ?_
    obtain ⟨j3, hv4, hsp⟩ := fr_b1 hsp
    refine fr_getr C hR ha Fg_RX5_12 rfl hv4 dX5_startSingle_7 ?_
    refine lv_iload_n hx hb dX5_startSingle_10 rfl (lv_at hl 2 rfl) ?_
    refine lv_i2l hx hb dX5_startSingle_11 rfl ?_
    refine lv_lconst (v := 0) hx hb dX5_startSingle_12 (by decide) ?_
    refine lv_iload_n hx hb dX5_startSingle_13 rfl (lv_at hl 3 rfl) ?_
    refine lv_i2l hx hb dX5_startSingle_14 rfl ?_
    refine lv_lconst (v := 0) hx hb dX5_startSingle_15 (by decide) ?_
    obtain ⟨hk5, hsp⟩ := fr_ck hsp
    obtain ⟨h6, E7, hsp⟩ := fr_b1 hsp
    refine fq_callV (rest := []) (st1 := []) C hR (k_X0_become C.2.2 hk5 E7) Y_X0_become YV_X0_become Lk_RX5_25 hk5 ⟨_, _, rfl, by decide⟩ rfl hl.1 ⟨Nat.le_of_ble_eq_true rfl, Nat.le_of_ble_eq_true rfl⟩ rfl (Nat.le_of_ble_eq_true rfl) ⟨Nat.zero_le _, Nat.zero_le _⟩ rfl dX5_startSingle_16 (fun H locs hR => ?_)
    refine lv_aload_n hx hb dX5_startSingle_19 rfl (lv_at hl 0 rfl) ?_
    obtain ⟨j8, hv9, hsp⟩ := fr_b1 hsp
    refine fr_getr C hR ha Fg_RX5_18 rfl hv9 dX5_startSingle_20 ?_
    refine lv_iload hx hb dX5_startSingle_23 (lv_at hl 4 rfl) ?_
    refine lv_i2l hx hb dX5_startSingle_25 rfl ?_
    refine lv_lconst (v := 0) hx hb dX5_startSingle_26 (by decide) ?_
    refine lv_iload hx hb dX5_startSingle_27 (lv_at hl 5 rfl) ?_
    refine lv_i2l hx hb dX5_startSingle_29 rfl ?_
    refine lv_lconst (v := 0) hx hb dX5_startSingle_30 (by decide) ?_
    obtain ⟨hk10, hsp⟩ := fr_ck hsp
    obtain ⟨h11, E12, hsp⟩ := fr_b1 hsp
    refine fq_callV (rest := []) (st1 := []) C hR (k_X0_become C.2.2 hk10 E12) Y_X0_become YV_X0_become Lk_RX5_25 hk10 ⟨_, _, rfl, by decide⟩ rfl hl.1 ⟨Nat.le_of_ble_eq_true rfl, Nat.le_of_ble_eq_true rfl⟩ rfl (Nat.le_of_ble_eq_true rfl) ⟨Nat.zero_le _, Nat.zero_le _⟩ rfl dX5_startSingle_31 (fun H locs hR => ?_)
    exact fr_vret C hr hlocks hR (fr_s1 hsp) dX5_startSingle_34
  · have hsp := fr_nnS hsp
    refine fr_head (own := RX5) (by decide) rfl hj (Nat.le_of_ble_eq_true rfl) ?_
    intro p e s m below meth c ls C hr hlocks hR hl
    have hl : lv_has ls 6 [(0, .ref (g.2.2 a)), (1, .ref (g.2.2 jx1)), (2, .int x2), (3, .int x3), (4, .int x4), (5, .int x5)] := hl
    have hx := C.1.1
    have hb := C.1.2.1
    refine lv_aload_n hx hb dX5_startSingle_0 rfl (lv_at hl 0 rfl) ?_
    refine lv_aload_n hx hb dX5_startSingle_1 rfl (lv_at hl 1 rfl) ?_
    refine lv_null hx hb dX5_startSingle_2 ?_
    obtain ⟨h13, E14, hsp⟩ := fr_b1 hsp
    refine fq_callV (rest := []) (st1 := []) C hR (k_X5_begin C.2.2 ha E14) Y_X5_begin YV_X5_begin Lk_RX5_21 ha ⟨_, _, rfl, by decide⟩ rfl hl.1 ⟨Nat.le_of_ble_eq_true rfl, Nat.le_of_ble_eq_true rfl⟩ rfl (Nat.le_of_ble_eq_true rfl) ⟨Nat.zero_le _, Nat.zero_le _⟩ rfl dX5_startSingle_3 (fun H locs hR => ?_)
    refine lv_aload_n hx hb dX5_startSingle_6 rfl (lv_at hl 0 rfl) ?_
    obtain ⟨j15, hv16, hsp⟩ := fr_b1 hsp
    refine fr_getr C hR ha Fg_RX5_12 rfl hv16 dX5_startSingle_7 ?_
    refine lv_iload_n hx hb dX5_startSingle_10 rfl (lv_at hl 2 rfl) ?_
    refine lv_i2l hx hb dX5_startSingle_11 rfl ?_
    refine lv_lconst (v := 0) hx hb dX5_startSingle_12 (by decide) ?_
    refine lv_iload_n hx hb dX5_startSingle_13 rfl (lv_at hl 3 rfl) ?_
    refine lv_i2l hx hb dX5_startSingle_14 rfl ?_
    refine lv_lconst (v := 0) hx hb dX5_startSingle_15 (by decide) ?_
    obtain ⟨hk17, hsp⟩ := fr_ck hsp
    obtain ⟨h18, E19, hsp⟩ := fr_b1 hsp
    refine fq_callV (rest := []) (st1 := []) C hR (k_X0_become C.2.2 hk17 E19) Y_X0_become YV_X0_become Lk_RX5_25 hk17 ⟨_, _, rfl, by decide⟩ rfl hl.1 ⟨Nat.le_of_ble_eq_true rfl, Nat.le_of_ble_eq_true rfl⟩ rfl (Nat.le_of_ble_eq_true rfl) ⟨Nat.zero_le _, Nat.zero_le _⟩ rfl dX5_startSingle_16 (fun H locs hR => ?_)
    refine lv_aload_n hx hb dX5_startSingle_19 rfl (lv_at hl 0 rfl) ?_
    obtain ⟨j20, hv21, hsp⟩ := fr_b1 hsp
    refine fr_getr C hR ha Fg_RX5_18 rfl hv21 dX5_startSingle_20 ?_
    refine lv_iload hx hb dX5_startSingle_23 (lv_at hl 4 rfl) ?_
    refine lv_i2l hx hb dX5_startSingle_25 rfl ?_
    refine lv_lconst (v := 0) hx hb dX5_startSingle_26 (by decide) ?_
    refine lv_iload hx hb dX5_startSingle_27 (lv_at hl 5 rfl) ?_
    refine lv_i2l hx hb dX5_startSingle_29 rfl ?_
    refine lv_lconst (v := 0) hx hb dX5_startSingle_30 (by decide) ?_
    obtain ⟨hk22, hsp⟩ := fr_ck hsp
    obtain ⟨h23, E24, hsp⟩ := fr_b1 hsp
    refine fq_callV (rest := []) (st1 := []) C hR (k_X0_become C.2.2 hk22 E24) Y_X0_become YV_X0_become Lk_RX5_25 hk22 ⟨_, _, rfl, by decide⟩ rfl hl.1 ⟨Nat.le_of_ble_eq_true rfl, Nat.le_of_ble_eq_true rfl⟩ rfl (Nat.le_of_ble_eq_true rfl) ⟨Nat.zero_le _, Nat.zero_le _⟩ rfl dX5_startSingle_31 (fun H locs hR => ?_)
    exact fr_vret C hr hlocks hR (fr_s1 hsp) dX5_startSingle_34

/-! TermRows$Reckoner.startDouble(ILTermRows$Row;LTermRows$Row;)V -/
def z_X5_startDouble_b70 (S : fh_S) (a : Nat) (h : fh_H) (y1 : Int32) (t0 : Int64) (t1 : Int64) (t2 : Int64) (t3 : Option Nat) : Option fh_H :=
    fh_nn t3 (if y1 = (3 : Int32) then (none) else (none)) (fun jt3 => if y1 = (3 : Int32) then (fh_ck (fh_kq S jt3 0) (fh_b1 (z_X0_become S h jt3 t2 t1 t0 (0 : Int64)) (fun h7 => some h7))) else (fh_ck (fh_kq S jt3 0) (fh_b1 (z_X0_become S h jt3 t2 t1 t0 (1 : Int64)) (fun h4 => some h4))))
def z_X5_startDouble_b50 (S : fh_S) (a : Nat) (h : fh_H) (y1 : Int32) (t0 : Int64) (t1 : Int64) (t2 : Int64) (t3 : Option Nat) : Option fh_H :=
    fh_nn t3 (none) (fun jt3 => fh_ck (fh_kq S jt3 0) (fh_b1 (z_X0_become S h jt3 t2 t1 t0 (0 : Int64)) (fun h2 => fh_nn (h2.2.2 a 1) (if y1 = (3 : Int32) then (z_X5_startDouble_b70 S a h2 y1 (1 : Int64) (0 : Int64) (0 : Int64) none) else (z_X5_startDouble_b70 S a h2 y1 (0 : Int64) (0 : Int64) (0 : Int64) none)) (fun j4 => if y1 = (3 : Int32) then (z_X5_startDouble_b70 S a h2 y1 (1 : Int64) (0 : Int64) (0 : Int64) (some j4)) else (z_X5_startDouble_b70 S a h2 y1 (0 : Int64) (0 : Int64) (0 : Int64) (some j4))))))
def z_X5_startDouble_b30 (S : fh_S) (a : Nat) (h : fh_H) (y1 : Int32) (t0 : Int64) (t1 : Int64) (t2 : Option Nat) : Option fh_H :=
    fh_nn t2 (if y1 = 0 then (z_X5_startDouble_b50 S a h y1 (1 : Int64) t0 t1 none) else (if y1 = (1 : Int32) then (z_X5_startDouble_b50 S a h y1 (-1 : Int64) t0 t1 none) else (z_X5_startDouble_b50 S a h y1 (0 : Int64) t0 t1 none))) (fun jt2 => if y1 = 0 then (z_X5_startDouble_b50 S a h y1 (1 : Int64) t0 t1 (some jt2)) else (if y1 = (1 : Int32) then (z_X5_startDouble_b50 S a h y1 (-1 : Int64) t0 t1 (some jt2)) else (z_X5_startDouble_b50 S a h y1 (0 : Int64) t0 t1 (some jt2))))
def z_X5_startDouble (S : fh_S) (h : fh_H) (a : Nat) (x1 : Int32) (x2 : Option Nat) (x3 : Option Nat) : Option fh_H :=
    fh_nn x2 (fh_nn x3 (fh_b1 (z_X5_begin S h a none none) (fun h1 => fh_nn (h1.2.2 a 0) (if x1 = (2 : Int32) then (if x1 = (2 : Int32) then (z_X5_startDouble_b30 S a h1 x1 (0 : Int64) (1 : Int64) none) else (z_X5_startDouble_b30 S a h1 x1 (1 : Int64) (1 : Int64) none)) else (if x1 = (2 : Int32) then (z_X5_startDouble_b30 S a h1 x1 (0 : Int64) (0 : Int64) none) else (z_X5_startDouble_b30 S a h1 x1 (1 : Int64) (0 : Int64) none))) (fun j3 => if x1 = (2 : Int32) then (if x1 = (2 : Int32) then (z_X5_startDouble_b30 S a h1 x1 (0 : Int64) (1 : Int64) (some j3)) else (z_X5_startDouble_b30 S a h1 x1 (1 : Int64) (1 : Int64) (some j3))) else (if x1 = (2 : Int32) then (z_X5_startDouble_b30 S a h1 x1 (0 : Int64) (0 : Int64) (some j3)) else (z_X5_startDouble_b30 S a h1 x1 (1 : Int64) (0 : Int64) (some j3)))))) (fun jx3 => fh_b1 (z_X5_begin S h a none (some jx3)) (fun h11 => fh_nn (h11.2.2 a 0) (if x1 = (2 : Int32) then (if x1 = (2 : Int32) then (z_X5_startDouble_b30 S a h11 x1 (0 : Int64) (1 : Int64) none) else (z_X5_startDouble_b30 S a h11 x1 (1 : Int64) (1 : Int64) none)) else (if x1 = (2 : Int32) then (z_X5_startDouble_b30 S a h11 x1 (0 : Int64) (0 : Int64) none) else (z_X5_startDouble_b30 S a h11 x1 (1 : Int64) (0 : Int64) none))) (fun j13 => if x1 = (2 : Int32) then (if x1 = (2 : Int32) then (z_X5_startDouble_b30 S a h11 x1 (0 : Int64) (1 : Int64) (some j13)) else (z_X5_startDouble_b30 S a h11 x1 (1 : Int64) (1 : Int64) (some j13))) else (if x1 = (2 : Int32) then (z_X5_startDouble_b30 S a h11 x1 (0 : Int64) (0 : Int64) (some j13)) else (z_X5_startDouble_b30 S a h11 x1 (1 : Int64) (0 : Int64) (some j13))))))) (fun jx2 => fh_nn x3 (fh_b1 (z_X5_begin S h a (some jx2) none) (fun h21 => fh_nn (h21.2.2 a 0) (if x1 = (2 : Int32) then (if x1 = (2 : Int32) then (z_X5_startDouble_b30 S a h21 x1 (0 : Int64) (1 : Int64) none) else (z_X5_startDouble_b30 S a h21 x1 (1 : Int64) (1 : Int64) none)) else (if x1 = (2 : Int32) then (z_X5_startDouble_b30 S a h21 x1 (0 : Int64) (0 : Int64) none) else (z_X5_startDouble_b30 S a h21 x1 (1 : Int64) (0 : Int64) none))) (fun j23 => if x1 = (2 : Int32) then (if x1 = (2 : Int32) then (z_X5_startDouble_b30 S a h21 x1 (0 : Int64) (1 : Int64) (some j23)) else (z_X5_startDouble_b30 S a h21 x1 (1 : Int64) (1 : Int64) (some j23))) else (if x1 = (2 : Int32) then (z_X5_startDouble_b30 S a h21 x1 (0 : Int64) (0 : Int64) (some j23)) else (z_X5_startDouble_b30 S a h21 x1 (1 : Int64) (0 : Int64) (some j23)))))) (fun jx3 => fh_b1 (z_X5_begin S h a (some jx2) (some jx3)) (fun h31 => fh_nn (h31.2.2 a 0) (if x1 = (2 : Int32) then (if x1 = (2 : Int32) then (z_X5_startDouble_b30 S a h31 x1 (0 : Int64) (1 : Int64) none) else (z_X5_startDouble_b30 S a h31 x1 (1 : Int64) (1 : Int64) none)) else (if x1 = (2 : Int32) then (z_X5_startDouble_b30 S a h31 x1 (0 : Int64) (0 : Int64) none) else (z_X5_startDouble_b30 S a h31 x1 (1 : Int64) (0 : Int64) none))) (fun j33 => if x1 = (2 : Int32) then (if x1 = (2 : Int32) then (z_X5_startDouble_b30 S a h31 x1 (0 : Int64) (1 : Int64) (some j33)) else (z_X5_startDouble_b30 S a h31 x1 (1 : Int64) (1 : Int64) (some j33))) else (if x1 = (2 : Int32) then (z_X5_startDouble_b30 S a h31 x1 (0 : Int64) (0 : Int64) (some j33)) else (z_X5_startDouble_b30 S a h31 x1 (1 : Int64) (0 : Int64) (some j33)))))))
set_option maxHeartbeats 4000000 in
set_option maxRecDepth 100000 in
theorem k_X5_startDouble {l : Launch} {S : fh_S} {g : fh_G} {h h' : fh_H} (hj : fh_inj S g) {a : Nat} {x1 : Int32} {x2 : Option Nat} {x3 : Option Nat} (ha : fh_kq S a 5 = true) (hsp : z_X5_startDouble S h a x1 x2 x3 = some h') : fh_M l yX5_startDouble cX5_startDouble 4 none (fh_rm 2) S g [.ref (g.2.2 a), .int x1, va_rf (Option.map g.2.2 x2), va_rf (Option.map g.2.2 x3)] h none h' := by
  unfold z_X5_startDouble at hsp
  rcases x2 with _ | jx2
  · have hsp := fr_nnN hsp
    rcases x3 with _ | jx3
    · have hsp := fr_nnN hsp
      refine fr_head (own := RX5) (by decide) rfl hj (Nat.le_of_ble_eq_true rfl) ?_
      intro p e s m below meth c ls C hr hlocks hR hl
      have hl : lv_has ls 4 [(0, .ref (g.2.2 a)), (1, .int x1), (2, .null), (3, .null)] := hl
      have hx := C.1.1
      have hb := C.1.2.1
      have hb_70 : ∀ (h : fh_H) (y1 : Int32) (t0 : Int64) (t1 : Int64) (t2 : Int64) (t3 : Option Nat) (H : Heap) (locs : List Loc) (ls : Array Slot), z_X5_startDouble_b70 S a h y1 t0 t1 t2 t3 = some h' → fh_R S g s.heap h H locs → lv_has ls 4 [(1, .int y1)] → fh_Wk p l e 2 s m [.ref (g.2.2 a), .int x1, va_rf (Option.map g.2.2 none), va_rf (Option.map g.2.2 none)] below meth c S g none h' H locs (F0 m 70 ls [.long t0, .long t1, .long t2, va_rf (Option.map g.2.2 t3)]) := by
        intro h y1 t0 t1 t2 t3 H locs ls hsp hR hl
        unfold z_X5_startDouble_b70 at hsp
        rcases t3 with _ | jt3
        · have hsp := fr_nnN hsp
          have hl : lv_has ls 4 [(1, .int y1)] := hl
          refine W.eq (g2 := F0 m 70 ls [.long t0, .long t1, .long t2, .null]) rfl ?_
          refine lv_iload_n hx hb dX5_startDouble_70 rfl (lv_at hl 0 rfl) ?_
          refine lv_iconst (v := 3) hx hb dX5_startDouble_71 (by decide) ?_
          refine lv_icmp_ne (tgt := 79) hx hb dX5_startDouble_72 (by decide) (fun c1 => ?_) (fun c1 => ?_)
          · rw [if_neg c1] at hsp
            refine lv_lconst (v := 1) hx hb dX5_startDouble_79 (by decide) ?_
            cases hsp
          · rw [if_pos c1] at hsp
            refine lv_lconst (v := 0) hx hb dX5_startDouble_75 (by decide) ?_
            refine lv_goto (tgt := 80) hx hb dX5_startDouble_76 (by decide) ?_
            cases hsp
        · have hsp := fr_nnS hsp
          have hl : lv_has ls 4 [(1, .int y1)] := hl
          refine W.eq (g2 := F0 m 70 ls [.long t0, .long t1, .long t2, .ref (g.2.2 jt3)]) rfl ?_
          refine lv_iload_n hx hb dX5_startDouble_70 rfl (lv_at hl 0 rfl) ?_
          refine lv_iconst (v := 3) hx hb dX5_startDouble_71 (by decide) ?_
          refine lv_icmp_ne (tgt := 79) hx hb dX5_startDouble_72 (by decide) (fun c2 => ?_) (fun c2 => ?_)
          · rw [if_neg c2] at hsp
            refine lv_lconst (v := 1) hx hb dX5_startDouble_79 (by decide) ?_
            obtain ⟨hk3, hsp⟩ := fr_ck hsp
            obtain ⟨h4, E5, hsp⟩ := fr_b1 hsp
            refine fq_callV (rest := []) (st1 := []) C hR (k_X0_become C.2.2 hk3 E5) Y_X0_become YV_X0_become Lk_RX5_25 hk3 ⟨_, _, rfl, by decide⟩ rfl hl.1 ⟨Nat.le_of_ble_eq_true rfl, Nat.le_of_ble_eq_true rfl⟩ rfl (Nat.le_of_ble_eq_true rfl) ⟨Nat.zero_le _, Nat.zero_le _⟩ rfl dX5_startDouble_80 (fun H locs hR => ?_)
            exact fr_vret C hr hlocks hR (fr_s1 hsp) dX5_startDouble_83
          · rw [if_pos c2] at hsp
            refine lv_lconst (v := 0) hx hb dX5_startDouble_75 (by decide) ?_
            refine lv_goto (tgt := 80) hx hb dX5_startDouble_76 (by decide) ?_
            obtain ⟨hk6, hsp⟩ := fr_ck hsp
            obtain ⟨h7, E8, hsp⟩ := fr_b1 hsp
            refine fq_callV (rest := []) (st1 := []) C hR (k_X0_become C.2.2 hk6 E8) Y_X0_become YV_X0_become Lk_RX5_25 hk6 ⟨_, _, rfl, by decide⟩ rfl hl.1 ⟨Nat.le_of_ble_eq_true rfl, Nat.le_of_ble_eq_true rfl⟩ rfl (Nat.le_of_ble_eq_true rfl) ⟨Nat.zero_le _, Nat.zero_le _⟩ rfl dX5_startDouble_80 (fun H locs hR => ?_)
            exact fr_vret C hr hlocks hR (fr_s1 hsp) dX5_startDouble_83
      have hb_50 : ∀ (h : fh_H) (y1 : Int32) (t0 : Int64) (t1 : Int64) (t2 : Int64) (t3 : Option Nat) (H : Heap) (locs : List Loc) (ls : Array Slot), z_X5_startDouble_b50 S a h y1 t0 t1 t2 t3 = some h' → fh_R S g s.heap h H locs → lv_has ls 4 [(0, .ref (g.2.2 a)), (1, .int y1)] → fh_Wk p l e 2 s m [.ref (g.2.2 a), .int x1, va_rf (Option.map g.2.2 none), va_rf (Option.map g.2.2 none)] below meth c S g none h' H locs (F0 m 50 ls [.long t0, .long t1, .long t2, va_rf (Option.map g.2.2 t3)]) := by
        intro h y1 t0 t1 t2 t3 H locs ls hsp hR hl
        unfold z_X5_startDouble_b50 at hsp
        rcases t3 with _ | jt3
        · have hsp := fr_nnN hsp
          have hl : lv_has ls 4 [(0, .ref (g.2.2 a)), (1, .int y1)] := hl
          refine W.eq (g2 := F0 m 50 ls [.long t0, .long t1, .long t2, .null]) rfl ?_
          refine lv_lconst (v := 0) hx hb dX5_startDouble_50 (by decide) ?_
          cases hsp
        · have hsp := fr_nnS hsp
          have hl : lv_has ls 4 [(0, .ref (g.2.2 a)), (1, .int y1)] := hl
          refine W.eq (g2 := F0 m 50 ls [.long t0, .long t1, .long t2, .ref (g.2.2 jt3)]) rfl ?_
          refine lv_lconst (v := 0) hx hb dX5_startDouble_50 (by decide) ?_
          obtain ⟨hk1, hsp⟩ := fr_ck hsp
          obtain ⟨h2, E3, hsp⟩ := fr_b1 hsp
          refine fq_callV (rest := []) (st1 := []) C hR (k_X0_become C.2.2 hk1 E3) Y_X0_become YV_X0_become Lk_RX5_25 hk1 ⟨_, _, rfl, by decide⟩ rfl hl.1 ⟨Nat.le_of_ble_eq_true rfl, Nat.le_of_ble_eq_true rfl⟩ rfl (Nat.le_of_ble_eq_true rfl) ⟨Nat.zero_le _, Nat.zero_le _⟩ rfl dX5_startDouble_51 (fun H locs hR => ?_)
          refine lv_aload_n hx hb dX5_startDouble_54 rfl (lv_at hl 0 rfl) ?_
          rcases hv5 : (h2.2.2 a 1) with _ | j4
          · rw [hv5] at hsp; have hsp := fr_nnN hsp
            refine fr_getn C hR ha Fg_RX5_18 rfl hv5 dX5_startDouble_55 ?_
            refine lv_lconst (v := 0) hx hb dX5_startDouble_58 (by decide) ?_
            refine lv_lconst (v := 0) hx hb dX5_startDouble_59 (by decide) ?_
            refine lv_iload_n hx hb dX5_startDouble_60 rfl (lv_at hl 1 rfl) ?_
            refine lv_iconst (v := 3) hx hb dX5_startDouble_61 (by decide) ?_
            refine lv_icmp_ne (tgt := 69) hx hb dX5_startDouble_62 (by decide) (fun c6 => ?_) (fun c6 => ?_)
            · rw [if_neg c6] at hsp
              refine lv_lconst (v := 0) hx hb dX5_startDouble_69 (by decide) ?_
              exact hb_70 h2 y1 (0 : Int64) (0 : Int64) (0 : Int64) none _ _ _ hsp hR (lv_sub hl [1] rfl)
            · rw [if_pos c6] at hsp
              refine lv_lconst (v := 1) hx hb dX5_startDouble_65 (by decide) ?_
              refine lv_goto (tgt := 70) hx hb dX5_startDouble_66 (by decide) ?_
              exact hb_70 h2 y1 (1 : Int64) (0 : Int64) (0 : Int64) none _ _ _ hsp hR (lv_sub hl [1] rfl)
          · rw [hv5] at hsp; have hsp := fr_nnS hsp
            refine fr_getr C hR ha Fg_RX5_18 rfl hv5 dX5_startDouble_55 ?_
            refine lv_lconst (v := 0) hx hb dX5_startDouble_58 (by decide) ?_
            refine lv_lconst (v := 0) hx hb dX5_startDouble_59 (by decide) ?_
            refine lv_iload_n hx hb dX5_startDouble_60 rfl (lv_at hl 1 rfl) ?_
            refine lv_iconst (v := 3) hx hb dX5_startDouble_61 (by decide) ?_
            refine lv_icmp_ne (tgt := 69) hx hb dX5_startDouble_62 (by decide) (fun c7 => ?_) (fun c7 => ?_)
            · rw [if_neg c7] at hsp
              refine lv_lconst (v := 0) hx hb dX5_startDouble_69 (by decide) ?_
              exact hb_70 h2 y1 (0 : Int64) (0 : Int64) (0 : Int64) (some j4) _ _ _ hsp hR (lv_sub hl [1] rfl)
            · rw [if_pos c7] at hsp
              refine lv_lconst (v := 1) hx hb dX5_startDouble_65 (by decide) ?_
              refine lv_goto (tgt := 70) hx hb dX5_startDouble_66 (by decide) ?_
              exact hb_70 h2 y1 (1 : Int64) (0 : Int64) (0 : Int64) (some j4) _ _ _ hsp hR (lv_sub hl [1] rfl)
      have hb_30 : ∀ (h : fh_H) (y1 : Int32) (t0 : Int64) (t1 : Int64) (t2 : Option Nat) (H : Heap) (locs : List Loc) (ls : Array Slot), z_X5_startDouble_b30 S a h y1 t0 t1 t2 = some h' → fh_R S g s.heap h H locs → lv_has ls 4 [(0, .ref (g.2.2 a)), (1, .int y1)] → fh_Wk p l e 2 s m [.ref (g.2.2 a), .int x1, va_rf (Option.map g.2.2 none), va_rf (Option.map g.2.2 none)] below meth c S g none h' H locs (F0 m 30 ls [.long t0, .long t1, va_rf (Option.map g.2.2 t2)]) := by
        intro h y1 t0 t1 t2 H locs ls hsp hR hl
        unfold z_X5_startDouble_b30 at hsp
        rcases t2 with _ | jt2
        · have hsp := fr_nnN hsp
          have hl : lv_has ls 4 [(0, .ref (g.2.2 a)), (1, .int y1)] := hl
          refine W.eq (g2 := F0 m 30 ls [.long t0, .long t1, .null]) rfl ?_
          refine lv_iload_n hx hb dX5_startDouble_30 rfl (lv_at hl 1 rfl) ?_
          refine lv_if_ne (tgt := 38) hx hb dX5_startDouble_31 (by decide) (fun c1 => ?_) (fun c1 => ?_)
          · rw [if_neg c1] at hsp
            refine lv_iload_n hx hb dX5_startDouble_38 rfl (lv_at hl 1 rfl) ?_
            refine lv_iconst (v := 1) hx hb dX5_startDouble_39 (by decide) ?_
            refine lv_icmp_ne (tgt := 49) hx hb dX5_startDouble_40 (by decide) (fun c2 => ?_) (fun c2 => ?_)
            · rw [if_neg c2] at hsp
              refine lv_lconst (v := 0) hx hb dX5_startDouble_49 (by decide) ?_
              exact hb_50 h y1 (0 : Int64) t0 t1 none _ _ _ hsp hR (lv_sub hl [0, 1] rfl)
            · rw [if_pos c2] at hsp
              refine lv_ldc2 hx hb C.1.2.2.2.1 (C.1.2.2.2.2 _ Kc_RX5_29) dX5_startDouble_43 ?_
              refine lv_goto (tgt := 50) hx hb dX5_startDouble_46 (by decide) ?_
              exact hb_50 h y1 (-1 : Int64) t0 t1 none _ _ _ hsp hR (lv_sub hl [0, 1] rfl)
          · rw [if_pos c1] at hsp
            refine lv_lconst (v := 1) hx hb dX5_startDouble_34 (by decide) ?_
            refine lv_goto (tgt := 50) hx hb dX5_startDouble_35 (by decide) ?_
            exact hb_50 h y1 (1 : Int64) t0 t1 none _ _ _ hsp hR (lv_sub hl [0, 1] rfl)
        · have hsp := fr_nnS hsp
          have hl : lv_has ls 4 [(0, .ref (g.2.2 a)), (1, .int y1)] := hl
          refine W.eq (g2 := F0 m 30 ls [.long t0, .long t1, .ref (g.2.2 jt2)]) rfl ?_
          refine lv_iload_n hx hb dX5_startDouble_30 rfl (lv_at hl 1 rfl) ?_
          refine lv_if_ne (tgt := 38) hx hb dX5_startDouble_31 (by decide) (fun c3 => ?_) (fun c3 => ?_)
          · rw [if_neg c3] at hsp
            refine lv_iload_n hx hb dX5_startDouble_38 rfl (lv_at hl 1 rfl) ?_
            refine lv_iconst (v := 1) hx hb dX5_startDouble_39 (by decide) ?_
            refine lv_icmp_ne (tgt := 49) hx hb dX5_startDouble_40 (by decide) (fun c4 => ?_) (fun c4 => ?_)
            · rw [if_neg c4] at hsp
              refine lv_lconst (v := 0) hx hb dX5_startDouble_49 (by decide) ?_
              exact hb_50 h y1 (0 : Int64) t0 t1 (some jt2) _ _ _ hsp hR (lv_sub hl [0, 1] rfl)
            · rw [if_pos c4] at hsp
              refine lv_ldc2 hx hb C.1.2.2.2.1 (C.1.2.2.2.2 _ Kc_RX5_29) dX5_startDouble_43 ?_
              refine lv_goto (tgt := 50) hx hb dX5_startDouble_46 (by decide) ?_
              exact hb_50 h y1 (-1 : Int64) t0 t1 (some jt2) _ _ _ hsp hR (lv_sub hl [0, 1] rfl)
          · rw [if_pos c3] at hsp
            refine lv_lconst (v := 1) hx hb dX5_startDouble_34 (by decide) ?_
            refine lv_goto (tgt := 50) hx hb dX5_startDouble_35 (by decide) ?_
            exact hb_50 h y1 (1 : Int64) t0 t1 (some jt2) _ _ _ hsp hR (lv_sub hl [0, 1] rfl)
      refine lv_aload_n hx hb dX5_startDouble_0 rfl (lv_at hl 0 rfl) ?_
      refine lv_aload_nN hx hb dX5_startDouble_1 rfl (lv_at hl 2 rfl) ?_
      refine lv_aload_nN hx hb dX5_startDouble_2 rfl (lv_at hl 3 rfl) ?_
      obtain ⟨h1, E2, hsp⟩ := fr_b1 hsp
      refine fq_callV (rest := []) (st1 := []) C hR (k_X5_begin C.2.2 ha E2) Y_X5_begin YV_X5_begin Lk_RX5_21 ha ⟨_, _, rfl, by decide⟩ rfl hl.1 ⟨Nat.le_of_ble_eq_true rfl, Nat.le_of_ble_eq_true rfl⟩ rfl (Nat.le_of_ble_eq_true rfl) ⟨Nat.zero_le _, Nat.zero_le _⟩ rfl dX5_startDouble_3 (fun H locs hR => ?_)
      refine lv_aload_n hx hb dX5_startDouble_6 rfl (lv_at hl 0 rfl) ?_
      rcases hv4 : (h1.2.2 a 0) with _ | j3
      · rw [hv4] at hsp; have hsp := fr_nnN hsp
        refine fr_getn C hR ha Fg_RX5_12 rfl hv4 dX5_startDouble_7 ?_
        refine lv_iload_n hx hb dX5_startDouble_10 rfl (lv_at hl 1 rfl) ?_
        refine lv_iconst (v := 2) hx hb dX5_startDouble_11 (by decide) ?_
        refine lv_icmp_ne (tgt := 19) hx hb dX5_startDouble_12 (by decide) (fun c5 => ?_) (fun c5 => ?_)
        · rw [if_neg c5] at hsp
          refine lv_lconst (v := 0) hx hb dX5_startDouble_19 (by decide) ?_
          refine lv_iload_n hx hb dX5_startDouble_20 rfl (lv_at hl 1 rfl) ?_
          refine lv_iconst (v := 2) hx hb dX5_startDouble_21 (by decide) ?_
          refine lv_icmp_ne (tgt := 29) hx hb dX5_startDouble_22 (by decide) (fun c6 => ?_) (fun c6 => ?_)
          · rw [if_neg c6] at hsp
            refine lv_lconst (v := 1) hx hb dX5_startDouble_29 (by decide) ?_
            exact hb_30 h1 x1 (1 : Int64) (0 : Int64) none _ _ _ hsp hR (lv_sub hl [0, 1] rfl)
          · rw [if_pos c6] at hsp
            refine lv_lconst (v := 0) hx hb dX5_startDouble_25 (by decide) ?_
            refine lv_goto (tgt := 30) hx hb dX5_startDouble_26 (by decide) ?_
            exact hb_30 h1 x1 (0 : Int64) (0 : Int64) none _ _ _ hsp hR (lv_sub hl [0, 1] rfl)
        · rw [if_pos c5] at hsp
          refine lv_lconst (v := 1) hx hb dX5_startDouble_15 (by decide) ?_
          refine lv_goto (tgt := 20) hx hb dX5_startDouble_16 (by decide) ?_
          refine lv_iload_n hx hb dX5_startDouble_20 rfl (lv_at hl 1 rfl) ?_
          refine lv_iconst (v := 2) hx hb dX5_startDouble_21 (by decide) ?_
          refine lv_icmp_ne (tgt := 29) hx hb dX5_startDouble_22 (by decide) (fun c7 => ?_) (fun c7 => ?_)
          · rw [if_neg c7] at hsp
            refine lv_lconst (v := 1) hx hb dX5_startDouble_29 (by decide) ?_
            exact hb_30 h1 x1 (1 : Int64) (1 : Int64) none _ _ _ hsp hR (lv_sub hl [0, 1] rfl)
          · rw [if_pos c7] at hsp
            refine lv_lconst (v := 0) hx hb dX5_startDouble_25 (by decide) ?_
            refine lv_goto (tgt := 30) hx hb dX5_startDouble_26 (by decide) ?_
            exact hb_30 h1 x1 (0 : Int64) (1 : Int64) none _ _ _ hsp hR (lv_sub hl [0, 1] rfl)
      · rw [hv4] at hsp; have hsp := fr_nnS hsp
        refine fr_getr C hR ha Fg_RX5_12 rfl hv4 dX5_startDouble_7 ?_
        refine lv_iload_n hx hb dX5_startDouble_10 rfl (lv_at hl 1 rfl) ?_
        refine lv_iconst (v := 2) hx hb dX5_startDouble_11 (by decide) ?_
        refine lv_icmp_ne (tgt := 19) hx hb dX5_startDouble_12 (by decide) (fun c8 => ?_) (fun c8 => ?_)
        · rw [if_neg c8] at hsp
          refine lv_lconst (v := 0) hx hb dX5_startDouble_19 (by decide) ?_
          refine lv_iload_n hx hb dX5_startDouble_20 rfl (lv_at hl 1 rfl) ?_
          refine lv_iconst (v := 2) hx hb dX5_startDouble_21 (by decide) ?_
          refine lv_icmp_ne (tgt := 29) hx hb dX5_startDouble_22 (by decide) (fun c9 => ?_) (fun c9 => ?_)
          · rw [if_neg c9] at hsp
            refine lv_lconst (v := 1) hx hb dX5_startDouble_29 (by decide) ?_
            exact hb_30 h1 x1 (1 : Int64) (0 : Int64) (some j3) _ _ _ hsp hR (lv_sub hl [0, 1] rfl)
          · rw [if_pos c9] at hsp
            refine lv_lconst (v := 0) hx hb dX5_startDouble_25 (by decide) ?_
            refine lv_goto (tgt := 30) hx hb dX5_startDouble_26 (by decide) ?_
            exact hb_30 h1 x1 (0 : Int64) (0 : Int64) (some j3) _ _ _ hsp hR (lv_sub hl [0, 1] rfl)
        · rw [if_pos c8] at hsp
          refine lv_lconst (v := 1) hx hb dX5_startDouble_15 (by decide) ?_
          refine lv_goto (tgt := 20) hx hb dX5_startDouble_16 (by decide) ?_
          refine lv_iload_n hx hb dX5_startDouble_20 rfl (lv_at hl 1 rfl) ?_
          refine lv_iconst (v := 2) hx hb dX5_startDouble_21 (by decide) ?_
          refine lv_icmp_ne (tgt := 29) hx hb dX5_startDouble_22 (by decide) (fun c10 => ?_) (fun c10 => ?_)
          · rw [if_neg c10] at hsp
            refine lv_lconst (v := 1) hx hb dX5_startDouble_29 (by decide) ?_
            exact hb_30 h1 x1 (1 : Int64) (1 : Int64) (some j3) _ _ _ hsp hR (lv_sub hl [0, 1] rfl)
          · rw [if_pos c10] at hsp
            refine lv_lconst (v := 0) hx hb dX5_startDouble_25 (by decide) ?_
            refine lv_goto (tgt := 30) hx hb dX5_startDouble_26 (by decide) ?_
            exact hb_30 h1 x1 (0 : Int64) (1 : Int64) (some j3) _ _ _ hsp hR (lv_sub hl [0, 1] rfl)
    · have hsp := fr_nnS hsp
      refine fr_head (own := RX5) (by decide) rfl hj (Nat.le_of_ble_eq_true rfl) ?_
      intro p e s m below meth c ls C hr hlocks hR hl
      have hl : lv_has ls 4 [(0, .ref (g.2.2 a)), (1, .int x1), (2, .null), (3, .ref (g.2.2 jx3))] := hl
      have hx := C.1.1
      have hb := C.1.2.1
      have hb_70 : ∀ (h : fh_H) (y1 : Int32) (t0 : Int64) (t1 : Int64) (t2 : Int64) (t3 : Option Nat) (H : Heap) (locs : List Loc) (ls : Array Slot), z_X5_startDouble_b70 S a h y1 t0 t1 t2 t3 = some h' → fh_R S g s.heap h H locs → lv_has ls 4 [(1, .int y1)] → fh_Wk p l e 2 s m [.ref (g.2.2 a), .int x1, va_rf (Option.map g.2.2 none), va_rf (Option.map g.2.2 (some jx3))] below meth c S g none h' H locs (F0 m 70 ls [.long t0, .long t1, .long t2, va_rf (Option.map g.2.2 t3)]) := by
        intro h y1 t0 t1 t2 t3 H locs ls hsp hR hl
        unfold z_X5_startDouble_b70 at hsp
        rcases t3 with _ | jt3
        · have hsp := fr_nnN hsp
          have hl : lv_has ls 4 [(1, .int y1)] := hl
          refine W.eq (g2 := F0 m 70 ls [.long t0, .long t1, .long t2, .null]) rfl ?_
          refine lv_iload_n hx hb dX5_startDouble_70 rfl (lv_at hl 0 rfl) ?_
          refine lv_iconst (v := 3) hx hb dX5_startDouble_71 (by decide) ?_
          refine lv_icmp_ne (tgt := 79) hx hb dX5_startDouble_72 (by decide) (fun c1 => ?_) (fun c1 => ?_)
          · rw [if_neg c1] at hsp
            refine lv_lconst (v := 1) hx hb dX5_startDouble_79 (by decide) ?_
            cases hsp
          · rw [if_pos c1] at hsp
            refine lv_lconst (v := 0) hx hb dX5_startDouble_75 (by decide) ?_
            refine lv_goto (tgt := 80) hx hb dX5_startDouble_76 (by decide) ?_
            cases hsp
        · have hsp := fr_nnS hsp
          have hl : lv_has ls 4 [(1, .int y1)] := hl
          refine W.eq (g2 := F0 m 70 ls [.long t0, .long t1, .long t2, .ref (g.2.2 jt3)]) rfl ?_
          refine lv_iload_n hx hb dX5_startDouble_70 rfl (lv_at hl 0 rfl) ?_
          refine lv_iconst (v := 3) hx hb dX5_startDouble_71 (by decide) ?_
          refine lv_icmp_ne (tgt := 79) hx hb dX5_startDouble_72 (by decide) (fun c2 => ?_) (fun c2 => ?_)
          · rw [if_neg c2] at hsp
            refine lv_lconst (v := 1) hx hb dX5_startDouble_79 (by decide) ?_
            obtain ⟨hk3, hsp⟩ := fr_ck hsp
            obtain ⟨h4, E5, hsp⟩ := fr_b1 hsp
            refine fq_callV (rest := []) (st1 := []) C hR (k_X0_become C.2.2 hk3 E5) Y_X0_become YV_X0_become Lk_RX5_25 hk3 ⟨_, _, rfl, by decide⟩ rfl hl.1 ⟨Nat.le_of_ble_eq_true rfl, Nat.le_of_ble_eq_true rfl⟩ rfl (Nat.le_of_ble_eq_true rfl) ⟨Nat.zero_le _, Nat.zero_le _⟩ rfl dX5_startDouble_80 (fun H locs hR => ?_)
            exact fr_vret C hr hlocks hR (fr_s1 hsp) dX5_startDouble_83
          · rw [if_pos c2] at hsp
            refine lv_lconst (v := 0) hx hb dX5_startDouble_75 (by decide) ?_
            refine lv_goto (tgt := 80) hx hb dX5_startDouble_76 (by decide) ?_
            obtain ⟨hk6, hsp⟩ := fr_ck hsp
            obtain ⟨h7, E8, hsp⟩ := fr_b1 hsp
            refine fq_callV (rest := []) (st1 := []) C hR (k_X0_become C.2.2 hk6 E8) Y_X0_become YV_X0_become Lk_RX5_25 hk6 ⟨_, _, rfl, by decide⟩ rfl hl.1 ⟨Nat.le_of_ble_eq_true rfl, Nat.le_of_ble_eq_true rfl⟩ rfl (Nat.le_of_ble_eq_true rfl) ⟨Nat.zero_le _, Nat.zero_le _⟩ rfl dX5_startDouble_80 (fun H locs hR => ?_)
            exact fr_vret C hr hlocks hR (fr_s1 hsp) dX5_startDouble_83
      have hb_50 : ∀ (h : fh_H) (y1 : Int32) (t0 : Int64) (t1 : Int64) (t2 : Int64) (t3 : Option Nat) (H : Heap) (locs : List Loc) (ls : Array Slot), z_X5_startDouble_b50 S a h y1 t0 t1 t2 t3 = some h' → fh_R S g s.heap h H locs → lv_has ls 4 [(0, .ref (g.2.2 a)), (1, .int y1)] → fh_Wk p l e 2 s m [.ref (g.2.2 a), .int x1, va_rf (Option.map g.2.2 none), va_rf (Option.map g.2.2 (some jx3))] below meth c S g none h' H locs (F0 m 50 ls [.long t0, .long t1, .long t2, va_rf (Option.map g.2.2 t3)]) := by
        intro h y1 t0 t1 t2 t3 H locs ls hsp hR hl
        unfold z_X5_startDouble_b50 at hsp
        rcases t3 with _ | jt3
        · have hsp := fr_nnN hsp
          have hl : lv_has ls 4 [(0, .ref (g.2.2 a)), (1, .int y1)] := hl
          refine W.eq (g2 := F0 m 50 ls [.long t0, .long t1, .long t2, .null]) rfl ?_
          refine lv_lconst (v := 0) hx hb dX5_startDouble_50 (by decide) ?_
          cases hsp
        · have hsp := fr_nnS hsp
          have hl : lv_has ls 4 [(0, .ref (g.2.2 a)), (1, .int y1)] := hl
          refine W.eq (g2 := F0 m 50 ls [.long t0, .long t1, .long t2, .ref (g.2.2 jt3)]) rfl ?_
          refine lv_lconst (v := 0) hx hb dX5_startDouble_50 (by decide) ?_
          obtain ⟨hk1, hsp⟩ := fr_ck hsp
          obtain ⟨h2, E3, hsp⟩ := fr_b1 hsp
          refine fq_callV (rest := []) (st1 := []) C hR (k_X0_become C.2.2 hk1 E3) Y_X0_become YV_X0_become Lk_RX5_25 hk1 ⟨_, _, rfl, by decide⟩ rfl hl.1 ⟨Nat.le_of_ble_eq_true rfl, Nat.le_of_ble_eq_true rfl⟩ rfl (Nat.le_of_ble_eq_true rfl) ⟨Nat.zero_le _, Nat.zero_le _⟩ rfl dX5_startDouble_51 (fun H locs hR => ?_)
          refine lv_aload_n hx hb dX5_startDouble_54 rfl (lv_at hl 0 rfl) ?_
          rcases hv5 : (h2.2.2 a 1) with _ | j4
          · rw [hv5] at hsp; have hsp := fr_nnN hsp
            refine fr_getn C hR ha Fg_RX5_18 rfl hv5 dX5_startDouble_55 ?_
            refine lv_lconst (v := 0) hx hb dX5_startDouble_58 (by decide) ?_
            refine lv_lconst (v := 0) hx hb dX5_startDouble_59 (by decide) ?_
            refine lv_iload_n hx hb dX5_startDouble_60 rfl (lv_at hl 1 rfl) ?_
            refine lv_iconst (v := 3) hx hb dX5_startDouble_61 (by decide) ?_
            refine lv_icmp_ne (tgt := 69) hx hb dX5_startDouble_62 (by decide) (fun c6 => ?_) (fun c6 => ?_)
            · rw [if_neg c6] at hsp
              refine lv_lconst (v := 0) hx hb dX5_startDouble_69 (by decide) ?_
              exact hb_70 h2 y1 (0 : Int64) (0 : Int64) (0 : Int64) none _ _ _ hsp hR (lv_sub hl [1] rfl)
            · rw [if_pos c6] at hsp
              refine lv_lconst (v := 1) hx hb dX5_startDouble_65 (by decide) ?_
              refine lv_goto (tgt := 70) hx hb dX5_startDouble_66 (by decide) ?_
              exact hb_70 h2 y1 (1 : Int64) (0 : Int64) (0 : Int64) none _ _ _ hsp hR (lv_sub hl [1] rfl)
          · rw [hv5] at hsp; have hsp := fr_nnS hsp
            refine fr_getr C hR ha Fg_RX5_18 rfl hv5 dX5_startDouble_55 ?_
            refine lv_lconst (v := 0) hx hb dX5_startDouble_58 (by decide) ?_
            refine lv_lconst (v := 0) hx hb dX5_startDouble_59 (by decide) ?_
            refine lv_iload_n hx hb dX5_startDouble_60 rfl (lv_at hl 1 rfl) ?_
            refine lv_iconst (v := 3) hx hb dX5_startDouble_61 (by decide) ?_
            refine lv_icmp_ne (tgt := 69) hx hb dX5_startDouble_62 (by decide) (fun c7 => ?_) (fun c7 => ?_)
            · rw [if_neg c7] at hsp
              refine lv_lconst (v := 0) hx hb dX5_startDouble_69 (by decide) ?_
              exact hb_70 h2 y1 (0 : Int64) (0 : Int64) (0 : Int64) (some j4) _ _ _ hsp hR (lv_sub hl [1] rfl)
            · rw [if_pos c7] at hsp
              refine lv_lconst (v := 1) hx hb dX5_startDouble_65 (by decide) ?_
              refine lv_goto (tgt := 70) hx hb dX5_startDouble_66 (by decide) ?_
              exact hb_70 h2 y1 (1 : Int64) (0 : Int64) (0 : Int64) (some j4) _ _ _ hsp hR (lv_sub hl [1] rfl)
      have hb_30 : ∀ (h : fh_H) (y1 : Int32) (t0 : Int64) (t1 : Int64) (t2 : Option Nat) (H : Heap) (locs : List Loc) (ls : Array Slot), z_X5_startDouble_b30 S a h y1 t0 t1 t2 = some h' → fh_R S g s.heap h H locs → lv_has ls 4 [(0, .ref (g.2.2 a)), (1, .int y1)] → fh_Wk p l e 2 s m [.ref (g.2.2 a), .int x1, va_rf (Option.map g.2.2 none), va_rf (Option.map g.2.2 (some jx3))] below meth c S g none h' H locs (F0 m 30 ls [.long t0, .long t1, va_rf (Option.map g.2.2 t2)]) := by
        intro h y1 t0 t1 t2 H locs ls hsp hR hl
        unfold z_X5_startDouble_b30 at hsp
        rcases t2 with _ | jt2
        · have hsp := fr_nnN hsp
          have hl : lv_has ls 4 [(0, .ref (g.2.2 a)), (1, .int y1)] := hl
          refine W.eq (g2 := F0 m 30 ls [.long t0, .long t1, .null]) rfl ?_
          refine lv_iload_n hx hb dX5_startDouble_30 rfl (lv_at hl 1 rfl) ?_
          refine lv_if_ne (tgt := 38) hx hb dX5_startDouble_31 (by decide) (fun c1 => ?_) (fun c1 => ?_)
          · rw [if_neg c1] at hsp
            refine lv_iload_n hx hb dX5_startDouble_38 rfl (lv_at hl 1 rfl) ?_
            refine lv_iconst (v := 1) hx hb dX5_startDouble_39 (by decide) ?_
            refine lv_icmp_ne (tgt := 49) hx hb dX5_startDouble_40 (by decide) (fun c2 => ?_) (fun c2 => ?_)
            · rw [if_neg c2] at hsp
              refine lv_lconst (v := 0) hx hb dX5_startDouble_49 (by decide) ?_
              exact hb_50 h y1 (0 : Int64) t0 t1 none _ _ _ hsp hR (lv_sub hl [0, 1] rfl)
            · rw [if_pos c2] at hsp
              refine lv_ldc2 hx hb C.1.2.2.2.1 (C.1.2.2.2.2 _ Kc_RX5_29) dX5_startDouble_43 ?_
              refine lv_goto (tgt := 50) hx hb dX5_startDouble_46 (by decide) ?_
              exact hb_50 h y1 (-1 : Int64) t0 t1 none _ _ _ hsp hR (lv_sub hl [0, 1] rfl)
          · rw [if_pos c1] at hsp
            refine lv_lconst (v := 1) hx hb dX5_startDouble_34 (by decide) ?_
            refine lv_goto (tgt := 50) hx hb dX5_startDouble_35 (by decide) ?_
            exact hb_50 h y1 (1 : Int64) t0 t1 none _ _ _ hsp hR (lv_sub hl [0, 1] rfl)
        · have hsp := fr_nnS hsp
          have hl : lv_has ls 4 [(0, .ref (g.2.2 a)), (1, .int y1)] := hl
          refine W.eq (g2 := F0 m 30 ls [.long t0, .long t1, .ref (g.2.2 jt2)]) rfl ?_
          refine lv_iload_n hx hb dX5_startDouble_30 rfl (lv_at hl 1 rfl) ?_
          refine lv_if_ne (tgt := 38) hx hb dX5_startDouble_31 (by decide) (fun c3 => ?_) (fun c3 => ?_)
          · rw [if_neg c3] at hsp
            refine lv_iload_n hx hb dX5_startDouble_38 rfl (lv_at hl 1 rfl) ?_
            refine lv_iconst (v := 1) hx hb dX5_startDouble_39 (by decide) ?_
            refine lv_icmp_ne (tgt := 49) hx hb dX5_startDouble_40 (by decide) (fun c4 => ?_) (fun c4 => ?_)
            · rw [if_neg c4] at hsp
              refine lv_lconst (v := 0) hx hb dX5_startDouble_49 (by decide) ?_
              exact hb_50 h y1 (0 : Int64) t0 t1 (some jt2) _ _ _ hsp hR (lv_sub hl [0, 1] rfl)
            · rw [if_pos c4] at hsp
              refine lv_ldc2 hx hb C.1.2.2.2.1 (C.1.2.2.2.2 _ Kc_RX5_29) dX5_startDouble_43 ?_
              refine lv_goto (tgt := 50) hx hb dX5_startDouble_46 (by decide) ?_
              exact hb_50 h y1 (-1 : Int64) t0 t1 (some jt2) _ _ _ hsp hR (lv_sub hl [0, 1] rfl)
          · rw [if_pos c3] at hsp
            refine lv_lconst (v := 1) hx hb dX5_startDouble_34 (by decide) ?_
            refine lv_goto (tgt := 50) hx hb dX5_startDouble_35 (by decide) ?_
            exact hb_50 h y1 (1 : Int64) t0 t1 (some jt2) _ _ _ hsp hR (lv_sub hl [0, 1] rfl)
      refine lv_aload_n hx hb dX5_startDouble_0 rfl (lv_at hl 0 rfl) ?_
      refine lv_aload_nN hx hb dX5_startDouble_1 rfl (lv_at hl 2 rfl) ?_
      refine lv_aload_n hx hb dX5_startDouble_2 rfl (lv_at hl 3 rfl) ?_
      obtain ⟨h11, E12, hsp⟩ := fr_b1 hsp
      refine fq_callV (rest := []) (st1 := []) C hR (k_X5_begin C.2.2 ha E12) Y_X5_begin YV_X5_begin Lk_RX5_21 ha ⟨_, _, rfl, by decide⟩ rfl hl.1 ⟨Nat.le_of_ble_eq_true rfl, Nat.le_of_ble_eq_true rfl⟩ rfl (Nat.le_of_ble_eq_true rfl) ⟨Nat.zero_le _, Nat.zero_le _⟩ rfl dX5_startDouble_3 (fun H locs hR => ?_)
      refine lv_aload_n hx hb dX5_startDouble_6 rfl (lv_at hl 0 rfl) ?_
      rcases hv14 : (h11.2.2 a 0) with _ | j13
      · rw [hv14] at hsp; have hsp := fr_nnN hsp
        refine fr_getn C hR ha Fg_RX5_12 rfl hv14 dX5_startDouble_7 ?_
        refine lv_iload_n hx hb dX5_startDouble_10 rfl (lv_at hl 1 rfl) ?_
        refine lv_iconst (v := 2) hx hb dX5_startDouble_11 (by decide) ?_
        refine lv_icmp_ne (tgt := 19) hx hb dX5_startDouble_12 (by decide) (fun c15 => ?_) (fun c15 => ?_)
        · rw [if_neg c15] at hsp
          refine lv_lconst (v := 0) hx hb dX5_startDouble_19 (by decide) ?_
          refine lv_iload_n hx hb dX5_startDouble_20 rfl (lv_at hl 1 rfl) ?_
          refine lv_iconst (v := 2) hx hb dX5_startDouble_21 (by decide) ?_
          refine lv_icmp_ne (tgt := 29) hx hb dX5_startDouble_22 (by decide) (fun c16 => ?_) (fun c16 => ?_)
          · rw [if_neg c16] at hsp
            refine lv_lconst (v := 1) hx hb dX5_startDouble_29 (by decide) ?_
            exact hb_30 h11 x1 (1 : Int64) (0 : Int64) none _ _ _ hsp hR (lv_sub hl [0, 1] rfl)
          · rw [if_pos c16] at hsp
            refine lv_lconst (v := 0) hx hb dX5_startDouble_25 (by decide) ?_
            refine lv_goto (tgt := 30) hx hb dX5_startDouble_26 (by decide) ?_
            exact hb_30 h11 x1 (0 : Int64) (0 : Int64) none _ _ _ hsp hR (lv_sub hl [0, 1] rfl)
        · rw [if_pos c15] at hsp
          refine lv_lconst (v := 1) hx hb dX5_startDouble_15 (by decide) ?_
          refine lv_goto (tgt := 20) hx hb dX5_startDouble_16 (by decide) ?_
          refine lv_iload_n hx hb dX5_startDouble_20 rfl (lv_at hl 1 rfl) ?_
          refine lv_iconst (v := 2) hx hb dX5_startDouble_21 (by decide) ?_
          refine lv_icmp_ne (tgt := 29) hx hb dX5_startDouble_22 (by decide) (fun c17 => ?_) (fun c17 => ?_)
          · rw [if_neg c17] at hsp
            refine lv_lconst (v := 1) hx hb dX5_startDouble_29 (by decide) ?_
            exact hb_30 h11 x1 (1 : Int64) (1 : Int64) none _ _ _ hsp hR (lv_sub hl [0, 1] rfl)
          · rw [if_pos c17] at hsp
            refine lv_lconst (v := 0) hx hb dX5_startDouble_25 (by decide) ?_
            refine lv_goto (tgt := 30) hx hb dX5_startDouble_26 (by decide) ?_
            exact hb_30 h11 x1 (0 : Int64) (1 : Int64) none _ _ _ hsp hR (lv_sub hl [0, 1] rfl)
      · rw [hv14] at hsp; have hsp := fr_nnS hsp
        refine fr_getr C hR ha Fg_RX5_12 rfl hv14 dX5_startDouble_7 ?_
        refine lv_iload_n hx hb dX5_startDouble_10 rfl (lv_at hl 1 rfl) ?_
        refine lv_iconst (v := 2) hx hb dX5_startDouble_11 (by decide) ?_
        refine lv_icmp_ne (tgt := 19) hx hb dX5_startDouble_12 (by decide) (fun c18 => ?_) (fun c18 => ?_)
        · rw [if_neg c18] at hsp
          refine lv_lconst (v := 0) hx hb dX5_startDouble_19 (by decide) ?_
          refine lv_iload_n hx hb dX5_startDouble_20 rfl (lv_at hl 1 rfl) ?_
          refine lv_iconst (v := 2) hx hb dX5_startDouble_21 (by decide) ?_
          refine lv_icmp_ne (tgt := 29) hx hb dX5_startDouble_22 (by decide) (fun c19 => ?_) (fun c19 => ?_)
          · rw [if_neg c19] at hsp
            refine lv_lconst (v := 1) hx hb dX5_startDouble_29 (by decide) ?_
            exact hb_30 h11 x1 (1 : Int64) (0 : Int64) (some j13) _ _ _ hsp hR (lv_sub hl [0, 1] rfl)
          · rw [if_pos c19] at hsp
            refine lv_lconst (v := 0) hx hb dX5_startDouble_25 (by decide) ?_
            refine lv_goto (tgt := 30) hx hb dX5_startDouble_26 (by decide) ?_
            exact hb_30 h11 x1 (0 : Int64) (0 : Int64) (some j13) _ _ _ hsp hR (lv_sub hl [0, 1] rfl)
        · rw [if_pos c18] at hsp
          refine lv_lconst (v := 1) hx hb dX5_startDouble_15 (by decide) ?_
          refine lv_goto (tgt := 20) hx hb dX5_startDouble_16 (by decide) ?_
          refine lv_iload_n hx hb dX5_startDouble_20 rfl (lv_at hl 1 rfl) ?_
          refine lv_iconst (v := 2) hx hb dX5_startDouble_21 (by decide) ?_
          refine lv_icmp_ne (tgt := 29) hx hb dX5_startDouble_22 (by decide) (fun c20 => ?_) (fun c20 => ?_)
          · rw [if_neg c20] at hsp
            refine lv_lconst (v := 1) hx hb dX5_startDouble_29 (by decide) ?_
            exact hb_30 h11 x1 (1 : Int64) (1 : Int64) (some j13) _ _ _ hsp hR (lv_sub hl [0, 1] rfl)
          · rw [if_pos c20] at hsp
            refine lv_lconst (v := 0) hx hb dX5_startDouble_25 (by decide) ?_
            refine lv_goto (tgt := 30) hx hb dX5_startDouble_26 (by decide) ?_
            exact hb_30 h11 x1 (0 : Int64) (1 : Int64) (some j13) _ _ _ hsp hR (lv_sub hl [0, 1] rfl)
  · have hsp := fr_nnS hsp
    rcases x3 with _ | jx3
    · have hsp := fr_nnN hsp
      refine fr_head (own := RX5) (by decide) rfl hj (Nat.le_of_ble_eq_true rfl) ?_
      intro p e s m below meth c ls C hr hlocks hR hl
      have hl : lv_has ls 4 [(0, .ref (g.2.2 a)), (1, .int x1), (2, .ref (g.2.2 jx2)), (3, .null)] := hl
      have hx := C.1.1
      have hb := C.1.2.1
      have hb_70 : ∀ (h : fh_H) (y1 : Int32) (t0 : Int64) (t1 : Int64) (t2 : Int64) (t3 : Option Nat) (H : Heap) (locs : List Loc) (ls : Array Slot), z_X5_startDouble_b70 S a h y1 t0 t1 t2 t3 = some h' → fh_R S g s.heap h H locs → lv_has ls 4 [(1, .int y1)] → fh_Wk p l e 2 s m [.ref (g.2.2 a), .int x1, va_rf (Option.map g.2.2 (some jx2)), va_rf (Option.map g.2.2 none)] below meth c S g none h' H locs (F0 m 70 ls [.long t0, .long t1, .long t2, va_rf (Option.map g.2.2 t3)]) := by
        intro h y1 t0 t1 t2 t3 H locs ls hsp hR hl
        unfold z_X5_startDouble_b70 at hsp
        rcases t3 with _ | jt3
        · have hsp := fr_nnN hsp
          have hl : lv_has ls 4 [(1, .int y1)] := hl
          refine W.eq (g2 := F0 m 70 ls [.long t0, .long t1, .long t2, .null]) rfl ?_
          refine lv_iload_n hx hb dX5_startDouble_70 rfl (lv_at hl 0 rfl) ?_
          refine lv_iconst (v := 3) hx hb dX5_startDouble_71 (by decide) ?_
          refine lv_icmp_ne (tgt := 79) hx hb dX5_startDouble_72 (by decide) (fun c1 => ?_) (fun c1 => ?_)
          · rw [if_neg c1] at hsp
            refine lv_lconst (v := 1) hx hb dX5_startDouble_79 (by decide) ?_
            cases hsp
          · rw [if_pos c1] at hsp
            refine lv_lconst (v := 0) hx hb dX5_startDouble_75 (by decide) ?_
            refine lv_goto (tgt := 80) hx hb dX5_startDouble_76 (by decide) ?_
            cases hsp
        · have hsp := fr_nnS hsp
          have hl : lv_has ls 4 [(1, .int y1)] := hl
          refine W.eq (g2 := F0 m 70 ls [.long t0, .long t1, .long t2, .ref (g.2.2 jt3)]) rfl ?_
          refine lv_iload_n hx hb dX5_startDouble_70 rfl (lv_at hl 0 rfl) ?_
          refine lv_iconst (v := 3) hx hb dX5_startDouble_71 (by decide) ?_
          refine lv_icmp_ne (tgt := 79) hx hb dX5_startDouble_72 (by decide) (fun c2 => ?_) (fun c2 => ?_)
          · rw [if_neg c2] at hsp
            refine lv_lconst (v := 1) hx hb dX5_startDouble_79 (by decide) ?_
            obtain ⟨hk3, hsp⟩ := fr_ck hsp
            obtain ⟨h4, E5, hsp⟩ := fr_b1 hsp
            refine fq_callV (rest := []) (st1 := []) C hR (k_X0_become C.2.2 hk3 E5) Y_X0_become YV_X0_become Lk_RX5_25 hk3 ⟨_, _, rfl, by decide⟩ rfl hl.1 ⟨Nat.le_of_ble_eq_true rfl, Nat.le_of_ble_eq_true rfl⟩ rfl (Nat.le_of_ble_eq_true rfl) ⟨Nat.zero_le _, Nat.zero_le _⟩ rfl dX5_startDouble_80 (fun H locs hR => ?_)
            exact fr_vret C hr hlocks hR (fr_s1 hsp) dX5_startDouble_83
          · rw [if_pos c2] at hsp
            refine lv_lconst (v := 0) hx hb dX5_startDouble_75 (by decide) ?_
            refine lv_goto (tgt := 80) hx hb dX5_startDouble_76 (by decide) ?_
            obtain ⟨hk6, hsp⟩ := fr_ck hsp
            obtain ⟨h7, E8, hsp⟩ := fr_b1 hsp
            refine fq_callV (rest := []) (st1 := []) C hR (k_X0_become C.2.2 hk6 E8) Y_X0_become YV_X0_become Lk_RX5_25 hk6 ⟨_, _, rfl, by decide⟩ rfl hl.1 ⟨Nat.le_of_ble_eq_true rfl, Nat.le_of_ble_eq_true rfl⟩ rfl (Nat.le_of_ble_eq_true rfl) ⟨Nat.zero_le _, Nat.zero_le _⟩ rfl dX5_startDouble_80 (fun H locs hR => ?_)
            exact fr_vret C hr hlocks hR (fr_s1 hsp) dX5_startDouble_83
      have hb_50 : ∀ (h : fh_H) (y1 : Int32) (t0 : Int64) (t1 : Int64) (t2 : Int64) (t3 : Option Nat) (H : Heap) (locs : List Loc) (ls : Array Slot), z_X5_startDouble_b50 S a h y1 t0 t1 t2 t3 = some h' → fh_R S g s.heap h H locs → lv_has ls 4 [(0, .ref (g.2.2 a)), (1, .int y1)] → fh_Wk p l e 2 s m [.ref (g.2.2 a), .int x1, va_rf (Option.map g.2.2 (some jx2)), va_rf (Option.map g.2.2 none)] below meth c S g none h' H locs (F0 m 50 ls [.long t0, .long t1, .long t2, va_rf (Option.map g.2.2 t3)]) := by
        intro h y1 t0 t1 t2 t3 H locs ls hsp hR hl
        unfold z_X5_startDouble_b50 at hsp
        rcases t3 with _ | jt3
        · have hsp := fr_nnN hsp
          have hl : lv_has ls 4 [(0, .ref (g.2.2 a)), (1, .int y1)] := hl
          refine W.eq (g2 := F0 m 50 ls [.long t0, .long t1, .long t2, .null]) rfl ?_
          refine lv_lconst (v := 0) hx hb dX5_startDouble_50 (by decide) ?_
          cases hsp
        · have hsp := fr_nnS hsp
          have hl : lv_has ls 4 [(0, .ref (g.2.2 a)), (1, .int y1)] := hl
          refine W.eq (g2 := F0 m 50 ls [.long t0, .long t1, .long t2, .ref (g.2.2 jt3)]) rfl ?_
          refine lv_lconst (v := 0) hx hb dX5_startDouble_50 (by decide) ?_
          obtain ⟨hk1, hsp⟩ := fr_ck hsp
          obtain ⟨h2, E3, hsp⟩ := fr_b1 hsp
          refine fq_callV (rest := []) (st1 := []) C hR (k_X0_become C.2.2 hk1 E3) Y_X0_become YV_X0_become Lk_RX5_25 hk1 ⟨_, _, rfl, by decide⟩ rfl hl.1 ⟨Nat.le_of_ble_eq_true rfl, Nat.le_of_ble_eq_true rfl⟩ rfl (Nat.le_of_ble_eq_true rfl) ⟨Nat.zero_le _, Nat.zero_le _⟩ rfl dX5_startDouble_51 (fun H locs hR => ?_)
          refine lv_aload_n hx hb dX5_startDouble_54 rfl (lv_at hl 0 rfl) ?_
          rcases hv5 : (h2.2.2 a 1) with _ | j4
          · rw [hv5] at hsp; have hsp := fr_nnN hsp
            refine fr_getn C hR ha Fg_RX5_18 rfl hv5 dX5_startDouble_55 ?_
            refine lv_lconst (v := 0) hx hb dX5_startDouble_58 (by decide) ?_
            refine lv_lconst (v := 0) hx hb dX5_startDouble_59 (by decide) ?_
            refine lv_iload_n hx hb dX5_startDouble_60 rfl (lv_at hl 1 rfl) ?_
            refine lv_iconst (v := 3) hx hb dX5_startDouble_61 (by decide) ?_
            refine lv_icmp_ne (tgt := 69) hx hb dX5_startDouble_62 (by decide) (fun c6 => ?_) (fun c6 => ?_)
            · rw [if_neg c6] at hsp
              refine lv_lconst (v := 0) hx hb dX5_startDouble_69 (by decide) ?_
              exact hb_70 h2 y1 (0 : Int64) (0 : Int64) (0 : Int64) none _ _ _ hsp hR (lv_sub hl [1] rfl)
            · rw [if_pos c6] at hsp
              refine lv_lconst (v := 1) hx hb dX5_startDouble_65 (by decide) ?_
              refine lv_goto (tgt := 70) hx hb dX5_startDouble_66 (by decide) ?_
              exact hb_70 h2 y1 (1 : Int64) (0 : Int64) (0 : Int64) none _ _ _ hsp hR (lv_sub hl [1] rfl)
          · rw [hv5] at hsp; have hsp := fr_nnS hsp
            refine fr_getr C hR ha Fg_RX5_18 rfl hv5 dX5_startDouble_55 ?_
            refine lv_lconst (v := 0) hx hb dX5_startDouble_58 (by decide) ?_
            refine lv_lconst (v := 0) hx hb dX5_startDouble_59 (by decide) ?_
            refine lv_iload_n hx hb dX5_startDouble_60 rfl (lv_at hl 1 rfl) ?_
            refine lv_iconst (v := 3) hx hb dX5_startDouble_61 (by decide) ?_
            refine lv_icmp_ne (tgt := 69) hx hb dX5_startDouble_62 (by decide) (fun c7 => ?_) (fun c7 => ?_)
            · rw [if_neg c7] at hsp
              refine lv_lconst (v := 0) hx hb dX5_startDouble_69 (by decide) ?_
              exact hb_70 h2 y1 (0 : Int64) (0 : Int64) (0 : Int64) (some j4) _ _ _ hsp hR (lv_sub hl [1] rfl)
            · rw [if_pos c7] at hsp
              refine lv_lconst (v := 1) hx hb dX5_startDouble_65 (by decide) ?_
              refine lv_goto (tgt := 70) hx hb dX5_startDouble_66 (by decide) ?_
              exact hb_70 h2 y1 (1 : Int64) (0 : Int64) (0 : Int64) (some j4) _ _ _ hsp hR (lv_sub hl [1] rfl)
      have hb_30 : ∀ (h : fh_H) (y1 : Int32) (t0 : Int64) (t1 : Int64) (t2 : Option Nat) (H : Heap) (locs : List Loc) (ls : Array Slot), z_X5_startDouble_b30 S a h y1 t0 t1 t2 = some h' → fh_R S g s.heap h H locs → lv_has ls 4 [(0, .ref (g.2.2 a)), (1, .int y1)] → fh_Wk p l e 2 s m [.ref (g.2.2 a), .int x1, va_rf (Option.map g.2.2 (some jx2)), va_rf (Option.map g.2.2 none)] below meth c S g none h' H locs (F0 m 30 ls [.long t0, .long t1, va_rf (Option.map g.2.2 t2)]) := by
        intro h y1 t0 t1 t2 H locs ls hsp hR hl
        unfold z_X5_startDouble_b30 at hsp
        rcases t2 with _ | jt2
        · have hsp := fr_nnN hsp
          have hl : lv_has ls 4 [(0, .ref (g.2.2 a)), (1, .int y1)] := hl
          refine W.eq (g2 := F0 m 30 ls [.long t0, .long t1, .null]) rfl ?_
          refine lv_iload_n hx hb dX5_startDouble_30 rfl (lv_at hl 1 rfl) ?_
          refine lv_if_ne (tgt := 38) hx hb dX5_startDouble_31 (by decide) (fun c1 => ?_) (fun c1 => ?_)
          · rw [if_neg c1] at hsp
            refine lv_iload_n hx hb dX5_startDouble_38 rfl (lv_at hl 1 rfl) ?_
            refine lv_iconst (v := 1) hx hb dX5_startDouble_39 (by decide) ?_
            refine lv_icmp_ne (tgt := 49) hx hb dX5_startDouble_40 (by decide) (fun c2 => ?_) (fun c2 => ?_)
            · rw [if_neg c2] at hsp
              refine lv_lconst (v := 0) hx hb dX5_startDouble_49 (by decide) ?_
              exact hb_50 h y1 (0 : Int64) t0 t1 none _ _ _ hsp hR (lv_sub hl [0, 1] rfl)
            · rw [if_pos c2] at hsp
              refine lv_ldc2 hx hb C.1.2.2.2.1 (C.1.2.2.2.2 _ Kc_RX5_29) dX5_startDouble_43 ?_
              refine lv_goto (tgt := 50) hx hb dX5_startDouble_46 (by decide) ?_
              exact hb_50 h y1 (-1 : Int64) t0 t1 none _ _ _ hsp hR (lv_sub hl [0, 1] rfl)
          · rw [if_pos c1] at hsp
            refine lv_lconst (v := 1) hx hb dX5_startDouble_34 (by decide) ?_
            refine lv_goto (tgt := 50) hx hb dX5_startDouble_35 (by decide) ?_
            exact hb_50 h y1 (1 : Int64) t0 t1 none _ _ _ hsp hR (lv_sub hl [0, 1] rfl)
        · have hsp := fr_nnS hsp
          have hl : lv_has ls 4 [(0, .ref (g.2.2 a)), (1, .int y1)] := hl
          refine W.eq (g2 := F0 m 30 ls [.long t0, .long t1, .ref (g.2.2 jt2)]) rfl ?_
          refine lv_iload_n hx hb dX5_startDouble_30 rfl (lv_at hl 1 rfl) ?_
          refine lv_if_ne (tgt := 38) hx hb dX5_startDouble_31 (by decide) (fun c3 => ?_) (fun c3 => ?_)
          · rw [if_neg c3] at hsp
            refine lv_iload_n hx hb dX5_startDouble_38 rfl (lv_at hl 1 rfl) ?_
            refine lv_iconst (v := 1) hx hb dX5_startDouble_39 (by decide) ?_
            refine lv_icmp_ne (tgt := 49) hx hb dX5_startDouble_40 (by decide) (fun c4 => ?_) (fun c4 => ?_)
            · rw [if_neg c4] at hsp
              refine lv_lconst (v := 0) hx hb dX5_startDouble_49 (by decide) ?_
              exact hb_50 h y1 (0 : Int64) t0 t1 (some jt2) _ _ _ hsp hR (lv_sub hl [0, 1] rfl)
            · rw [if_pos c4] at hsp
              refine lv_ldc2 hx hb C.1.2.2.2.1 (C.1.2.2.2.2 _ Kc_RX5_29) dX5_startDouble_43 ?_
              refine lv_goto (tgt := 50) hx hb dX5_startDouble_46 (by decide) ?_
              exact hb_50 h y1 (-1 : Int64) t0 t1 (some jt2) _ _ _ hsp hR (lv_sub hl [0, 1] rfl)
          · rw [if_pos c3] at hsp
            refine lv_lconst (v := 1) hx hb dX5_startDouble_34 (by decide) ?_
            refine lv_goto (tgt := 50) hx hb dX5_startDouble_35 (by decide) ?_
            exact hb_50 h y1 (1 : Int64) t0 t1 (some jt2) _ _ _ hsp hR (lv_sub hl [0, 1] rfl)
      refine lv_aload_n hx hb dX5_startDouble_0 rfl (lv_at hl 0 rfl) ?_
      refine lv_aload_n hx hb dX5_startDouble_1 rfl (lv_at hl 2 rfl) ?_
      refine lv_aload_nN hx hb dX5_startDouble_2 rfl (lv_at hl 3 rfl) ?_
      obtain ⟨h21, E22, hsp⟩ := fr_b1 hsp
      refine fq_callV (rest := []) (st1 := []) C hR (k_X5_begin C.2.2 ha E22) Y_X5_begin YV_X5_begin Lk_RX5_21 ha ⟨_, _, rfl, by decide⟩ rfl hl.1 ⟨Nat.le_of_ble_eq_true rfl, Nat.le_of_ble_eq_true rfl⟩ rfl (Nat.le_of_ble_eq_true rfl) ⟨Nat.zero_le _, Nat.zero_le _⟩ rfl dX5_startDouble_3 (fun H locs hR => ?_)
      refine lv_aload_n hx hb dX5_startDouble_6 rfl (lv_at hl 0 rfl) ?_
      rcases hv24 : (h21.2.2 a 0) with _ | j23
      · rw [hv24] at hsp; have hsp := fr_nnN hsp
        refine fr_getn C hR ha Fg_RX5_12 rfl hv24 dX5_startDouble_7 ?_
        refine lv_iload_n hx hb dX5_startDouble_10 rfl (lv_at hl 1 rfl) ?_
        refine lv_iconst (v := 2) hx hb dX5_startDouble_11 (by decide) ?_
        refine lv_icmp_ne (tgt := 19) hx hb dX5_startDouble_12 (by decide) (fun c25 => ?_) (fun c25 => ?_)
        · rw [if_neg c25] at hsp
          refine lv_lconst (v := 0) hx hb dX5_startDouble_19 (by decide) ?_
          refine lv_iload_n hx hb dX5_startDouble_20 rfl (lv_at hl 1 rfl) ?_
          refine lv_iconst (v := 2) hx hb dX5_startDouble_21 (by decide) ?_
          refine lv_icmp_ne (tgt := 29) hx hb dX5_startDouble_22 (by decide) (fun c26 => ?_) (fun c26 => ?_)
          · rw [if_neg c26] at hsp
            refine lv_lconst (v := 1) hx hb dX5_startDouble_29 (by decide) ?_
            exact hb_30 h21 x1 (1 : Int64) (0 : Int64) none _ _ _ hsp hR (lv_sub hl [0, 1] rfl)
          · rw [if_pos c26] at hsp
            refine lv_lconst (v := 0) hx hb dX5_startDouble_25 (by decide) ?_
            refine lv_goto (tgt := 30) hx hb dX5_startDouble_26 (by decide) ?_
            exact hb_30 h21 x1 (0 : Int64) (0 : Int64) none _ _ _ hsp hR (lv_sub hl [0, 1] rfl)
        · rw [if_pos c25] at hsp
          refine lv_lconst (v := 1) hx hb dX5_startDouble_15 (by decide) ?_
          refine lv_goto (tgt := 20) hx hb dX5_startDouble_16 (by decide) ?_
          refine lv_iload_n hx hb dX5_startDouble_20 rfl (lv_at hl 1 rfl) ?_
          refine lv_iconst (v := 2) hx hb dX5_startDouble_21 (by decide) ?_
          refine lv_icmp_ne (tgt := 29) hx hb dX5_startDouble_22 (by decide) (fun c27 => ?_) (fun c27 => ?_)
          · rw [if_neg c27] at hsp
            refine lv_lconst (v := 1) hx hb dX5_startDouble_29 (by decide) ?_
            exact hb_30 h21 x1 (1 : Int64) (1 : Int64) none _ _ _ hsp hR (lv_sub hl [0, 1] rfl)
          · rw [if_pos c27] at hsp
            refine lv_lconst (v := 0) hx hb dX5_startDouble_25 (by decide) ?_
            refine lv_goto (tgt := 30) hx hb dX5_startDouble_26 (by decide) ?_
            exact hb_30 h21 x1 (0 : Int64) (1 : Int64) none _ _ _ hsp hR (lv_sub hl [0, 1] rfl)
      · rw [hv24] at hsp; have hsp := fr_nnS hsp
        refine fr_getr C hR ha Fg_RX5_12 rfl hv24 dX5_startDouble_7 ?_
        refine lv_iload_n hx hb dX5_startDouble_10 rfl (lv_at hl 1 rfl) ?_
        refine lv_iconst (v := 2) hx hb dX5_startDouble_11 (by decide) ?_
        refine lv_icmp_ne (tgt := 19) hx hb dX5_startDouble_12 (by decide) (fun c28 => ?_) (fun c28 => ?_)
        · rw [if_neg c28] at hsp
          refine lv_lconst (v := 0) hx hb dX5_startDouble_19 (by decide) ?_
          refine lv_iload_n hx hb dX5_startDouble_20 rfl (lv_at hl 1 rfl) ?_
          refine lv_iconst (v := 2) hx hb dX5_startDouble_21 (by decide) ?_
          refine lv_icmp_ne (tgt := 29) hx hb dX5_startDouble_22 (by decide) (fun c29 => ?_) (fun c29 => ?_)
          · rw [if_neg c29] at hsp
            refine lv_lconst (v := 1) hx hb dX5_startDouble_29 (by decide) ?_
            exact hb_30 h21 x1 (1 : Int64) (0 : Int64) (some j23) _ _ _ hsp hR (lv_sub hl [0, 1] rfl)
          · rw [if_pos c29] at hsp
            refine lv_lconst (v := 0) hx hb dX5_startDouble_25 (by decide) ?_
            refine lv_goto (tgt := 30) hx hb dX5_startDouble_26 (by decide) ?_
            exact hb_30 h21 x1 (0 : Int64) (0 : Int64) (some j23) _ _ _ hsp hR (lv_sub hl [0, 1] rfl)
        · rw [if_pos c28] at hsp
          refine lv_lconst (v := 1) hx hb dX5_startDouble_15 (by decide) ?_
          refine lv_goto (tgt := 20) hx hb dX5_startDouble_16 (by decide) ?_
          refine lv_iload_n hx hb dX5_startDouble_20 rfl (lv_at hl 1 rfl) ?_
          refine lv_iconst (v := 2) hx hb dX5_startDouble_21 (by decide) ?_
          refine lv_icmp_ne (tgt := 29) hx hb dX5_startDouble_22 (by decide) (fun c30 => ?_) (fun c30 => ?_)
          · rw [if_neg c30] at hsp
            refine lv_lconst (v := 1) hx hb dX5_startDouble_29 (by decide) ?_
            exact hb_30 h21 x1 (1 : Int64) (1 : Int64) (some j23) _ _ _ hsp hR (lv_sub hl [0, 1] rfl)
          · rw [if_pos c30] at hsp
            refine lv_lconst (v := 0) hx hb dX5_startDouble_25 (by decide) ?_
            refine lv_goto (tgt := 30) hx hb dX5_startDouble_26 (by decide) ?_
            exact hb_30 h21 x1 (0 : Int64) (1 : Int64) (some j23) _ _ _ hsp hR (lv_sub hl [0, 1] rfl)
    · have hsp := fr_nnS hsp
      refine fr_head (own := RX5) (by decide) rfl hj (Nat.le_of_ble_eq_true rfl) ?_
      intro p e s m below meth c ls C hr hlocks hR hl
      have hl : lv_has ls 4 [(0, .ref (g.2.2 a)), (1, .int x1), (2, .ref (g.2.2 jx2)), (3, .ref (g.2.2 jx3))] := hl
      have hx := C.1.1
      have hb := C.1.2.1
      have hb_70 : ∀ (h : fh_H) (y1 : Int32) (t0 : Int64) (t1 : Int64) (t2 : Int64) (t3 : Option Nat) (H : Heap) (locs : List Loc) (ls : Array Slot), z_X5_startDouble_b70 S a h y1 t0 t1 t2 t3 = some h' → fh_R S g s.heap h H locs → lv_has ls 4 [(1, .int y1)] → fh_Wk p l e 2 s m [.ref (g.2.2 a), .int x1, va_rf (Option.map g.2.2 (some jx2)), va_rf (Option.map g.2.2 (some jx3))] below meth c S g none h' H locs (F0 m 70 ls [.long t0, .long t1, .long t2, va_rf (Option.map g.2.2 t3)]) := by
        intro h y1 t0 t1 t2 t3 H locs ls hsp hR hl
        unfold z_X5_startDouble_b70 at hsp
        rcases t3 with _ | jt3
        · have hsp := fr_nnN hsp
          have hl : lv_has ls 4 [(1, .int y1)] := hl
          refine W.eq (g2 := F0 m 70 ls [.long t0, .long t1, .long t2, .null]) rfl ?_
          refine lv_iload_n hx hb dX5_startDouble_70 rfl (lv_at hl 0 rfl) ?_
          refine lv_iconst (v := 3) hx hb dX5_startDouble_71 (by decide) ?_
          refine lv_icmp_ne (tgt := 79) hx hb dX5_startDouble_72 (by decide) (fun c1 => ?_) (fun c1 => ?_)
          · rw [if_neg c1] at hsp
            refine lv_lconst (v := 1) hx hb dX5_startDouble_79 (by decide) ?_
            cases hsp
          · rw [if_pos c1] at hsp
            refine lv_lconst (v := 0) hx hb dX5_startDouble_75 (by decide) ?_
            refine lv_goto (tgt := 80) hx hb dX5_startDouble_76 (by decide) ?_
            cases hsp
        · have hsp := fr_nnS hsp
          have hl : lv_has ls 4 [(1, .int y1)] := hl
          refine W.eq (g2 := F0 m 70 ls [.long t0, .long t1, .long t2, .ref (g.2.2 jt3)]) rfl ?_
          refine lv_iload_n hx hb dX5_startDouble_70 rfl (lv_at hl 0 rfl) ?_
          refine lv_iconst (v := 3) hx hb dX5_startDouble_71 (by decide) ?_
          refine lv_icmp_ne (tgt := 79) hx hb dX5_startDouble_72 (by decide) (fun c2 => ?_) (fun c2 => ?_)
          · rw [if_neg c2] at hsp
            refine lv_lconst (v := 1) hx hb dX5_startDouble_79 (by decide) ?_
            obtain ⟨hk3, hsp⟩ := fr_ck hsp
            obtain ⟨h4, E5, hsp⟩ := fr_b1 hsp
            refine fq_callV (rest := []) (st1 := []) C hR (k_X0_become C.2.2 hk3 E5) Y_X0_become YV_X0_become Lk_RX5_25 hk3 ⟨_, _, rfl, by decide⟩ rfl hl.1 ⟨Nat.le_of_ble_eq_true rfl, Nat.le_of_ble_eq_true rfl⟩ rfl (Nat.le_of_ble_eq_true rfl) ⟨Nat.zero_le _, Nat.zero_le _⟩ rfl dX5_startDouble_80 (fun H locs hR => ?_)
            exact fr_vret C hr hlocks hR (fr_s1 hsp) dX5_startDouble_83
          · rw [if_pos c2] at hsp
            refine lv_lconst (v := 0) hx hb dX5_startDouble_75 (by decide) ?_
            refine lv_goto (tgt := 80) hx hb dX5_startDouble_76 (by decide) ?_
            obtain ⟨hk6, hsp⟩ := fr_ck hsp
            obtain ⟨h7, E8, hsp⟩ := fr_b1 hsp
            refine fq_callV (rest := []) (st1 := []) C hR (k_X0_become C.2.2 hk6 E8) Y_X0_become YV_X0_become Lk_RX5_25 hk6 ⟨_, _, rfl, by decide⟩ rfl hl.1 ⟨Nat.le_of_ble_eq_true rfl, Nat.le_of_ble_eq_true rfl⟩ rfl (Nat.le_of_ble_eq_true rfl) ⟨Nat.zero_le _, Nat.zero_le _⟩ rfl dX5_startDouble_80 (fun H locs hR => ?_)
            exact fr_vret C hr hlocks hR (fr_s1 hsp) dX5_startDouble_83
      have hb_50 : ∀ (h : fh_H) (y1 : Int32) (t0 : Int64) (t1 : Int64) (t2 : Int64) (t3 : Option Nat) (H : Heap) (locs : List Loc) (ls : Array Slot), z_X5_startDouble_b50 S a h y1 t0 t1 t2 t3 = some h' → fh_R S g s.heap h H locs → lv_has ls 4 [(0, .ref (g.2.2 a)), (1, .int y1)] → fh_Wk p l e 2 s m [.ref (g.2.2 a), .int x1, va_rf (Option.map g.2.2 (some jx2)), va_rf (Option.map g.2.2 (some jx3))] below meth c S g none h' H locs (F0 m 50 ls [.long t0, .long t1, .long t2, va_rf (Option.map g.2.2 t3)]) := by
        intro h y1 t0 t1 t2 t3 H locs ls hsp hR hl
        unfold z_X5_startDouble_b50 at hsp
        rcases t3 with _ | jt3
        · have hsp := fr_nnN hsp
          have hl : lv_has ls 4 [(0, .ref (g.2.2 a)), (1, .int y1)] := hl
          refine W.eq (g2 := F0 m 50 ls [.long t0, .long t1, .long t2, .null]) rfl ?_
          refine lv_lconst (v := 0) hx hb dX5_startDouble_50 (by decide) ?_
          cases hsp
        · have hsp := fr_nnS hsp
          have hl : lv_has ls 4 [(0, .ref (g.2.2 a)), (1, .int y1)] := hl
          refine W.eq (g2 := F0 m 50 ls [.long t0, .long t1, .long t2, .ref (g.2.2 jt3)]) rfl ?_
          refine lv_lconst (v := 0) hx hb dX5_startDouble_50 (by decide) ?_
          obtain ⟨hk1, hsp⟩ := fr_ck hsp
          obtain ⟨h2, E3, hsp⟩ := fr_b1 hsp
          refine fq_callV (rest := []) (st1 := []) C hR (k_X0_become C.2.2 hk1 E3) Y_X0_become YV_X0_become Lk_RX5_25 hk1 ⟨_, _, rfl, by decide⟩ rfl hl.1 ⟨Nat.le_of_ble_eq_true rfl, Nat.le_of_ble_eq_true rfl⟩ rfl (Nat.le_of_ble_eq_true rfl) ⟨Nat.zero_le _, Nat.zero_le _⟩ rfl dX5_startDouble_51 (fun H locs hR => ?_)
          refine lv_aload_n hx hb dX5_startDouble_54 rfl (lv_at hl 0 rfl) ?_
          rcases hv5 : (h2.2.2 a 1) with _ | j4
          · rw [hv5] at hsp; have hsp := fr_nnN hsp
            refine fr_getn C hR ha Fg_RX5_18 rfl hv5 dX5_startDouble_55 ?_
            refine lv_lconst (v := 0) hx hb dX5_startDouble_58 (by decide) ?_
            refine lv_lconst (v := 0) hx hb dX5_startDouble_59 (by decide) ?_
            refine lv_iload_n hx hb dX5_startDouble_60 rfl (lv_at hl 1 rfl) ?_
            refine lv_iconst (v := 3) hx hb dX5_startDouble_61 (by decide) ?_
            refine lv_icmp_ne (tgt := 69) hx hb dX5_startDouble_62 (by decide) (fun c6 => ?_) (fun c6 => ?_)
            · rw [if_neg c6] at hsp
              refine lv_lconst (v := 0) hx hb dX5_startDouble_69 (by decide) ?_
              exact hb_70 h2 y1 (0 : Int64) (0 : Int64) (0 : Int64) none _ _ _ hsp hR (lv_sub hl [1] rfl)
            · rw [if_pos c6] at hsp
              refine lv_lconst (v := 1) hx hb dX5_startDouble_65 (by decide) ?_
              refine lv_goto (tgt := 70) hx hb dX5_startDouble_66 (by decide) ?_
              exact hb_70 h2 y1 (1 : Int64) (0 : Int64) (0 : Int64) none _ _ _ hsp hR (lv_sub hl [1] rfl)
          · rw [hv5] at hsp; have hsp := fr_nnS hsp
            refine fr_getr C hR ha Fg_RX5_18 rfl hv5 dX5_startDouble_55 ?_
            refine lv_lconst (v := 0) hx hb dX5_startDouble_58 (by decide) ?_
            refine lv_lconst (v := 0) hx hb dX5_startDouble_59 (by decide) ?_
            refine lv_iload_n hx hb dX5_startDouble_60 rfl (lv_at hl 1 rfl) ?_
            refine lv_iconst (v := 3) hx hb dX5_startDouble_61 (by decide) ?_
            refine lv_icmp_ne (tgt := 69) hx hb dX5_startDouble_62 (by decide) (fun c7 => ?_) (fun c7 => ?_)
            · rw [if_neg c7] at hsp
              refine lv_lconst (v := 0) hx hb dX5_startDouble_69 (by decide) ?_
              exact hb_70 h2 y1 (0 : Int64) (0 : Int64) (0 : Int64) (some j4) _ _ _ hsp hR (lv_sub hl [1] rfl)
            · rw [if_pos c7] at hsp
              refine lv_lconst (v := 1) hx hb dX5_startDouble_65 (by decide) ?_
              refine lv_goto (tgt := 70) hx hb dX5_startDouble_66 (by decide) ?_
              exact hb_70 h2 y1 (1 : Int64) (0 : Int64) (0 : Int64) (some j4) _ _ _ hsp hR (lv_sub hl [1] rfl)
      have hb_30 : ∀ (h : fh_H) (y1 : Int32) (t0 : Int64) (t1 : Int64) (t2 : Option Nat) (H : Heap) (locs : List Loc) (ls : Array Slot), z_X5_startDouble_b30 S a h y1 t0 t1 t2 = some h' → fh_R S g s.heap h H locs → lv_has ls 4 [(0, .ref (g.2.2 a)), (1, .int y1)] → fh_Wk p l e 2 s m [.ref (g.2.2 a), .int x1, va_rf (Option.map g.2.2 (some jx2)), va_rf (Option.map g.2.2 (some jx3))] below meth c S g none h' H locs (F0 m 30 ls [.long t0, .long t1, va_rf (Option.map g.2.2 t2)]) := by
        intro h y1 t0 t1 t2 H locs ls hsp hR hl
        unfold z_X5_startDouble_b30 at hsp
        rcases t2 with _ | jt2
        · have hsp := fr_nnN hsp
          have hl : lv_has ls 4 [(0, .ref (g.2.2 a)), (1, .int y1)] := hl
          refine W.eq (g2 := F0 m 30 ls [.long t0, .long t1, .null]) rfl ?_
          refine lv_iload_n hx hb dX5_startDouble_30 rfl (lv_at hl 1 rfl) ?_
          refine lv_if_ne (tgt := 38) hx hb dX5_startDouble_31 (by decide) (fun c1 => ?_) (fun c1 => ?_)
          · rw [if_neg c1] at hsp
            refine lv_iload_n hx hb dX5_startDouble_38 rfl (lv_at hl 1 rfl) ?_
            refine lv_iconst (v := 1) hx hb dX5_startDouble_39 (by decide) ?_
            refine lv_icmp_ne (tgt := 49) hx hb dX5_startDouble_40 (by decide) (fun c2 => ?_) (fun c2 => ?_)
            · rw [if_neg c2] at hsp
              refine lv_lconst (v := 0) hx hb dX5_startDouble_49 (by decide) ?_
              exact hb_50 h y1 (0 : Int64) t0 t1 none _ _ _ hsp hR (lv_sub hl [0, 1] rfl)
            · rw [if_pos c2] at hsp
              refine lv_ldc2 hx hb C.1.2.2.2.1 (C.1.2.2.2.2 _ Kc_RX5_29) dX5_startDouble_43 ?_
              refine lv_goto (tgt := 50) hx hb dX5_startDouble_46 (by decide) ?_
              exact hb_50 h y1 (-1 : Int64) t0 t1 none _ _ _ hsp hR (lv_sub hl [0, 1] rfl)
          · rw [if_pos c1] at hsp
            refine lv_lconst (v := 1) hx hb dX5_startDouble_34 (by decide) ?_
            refine lv_goto (tgt := 50) hx hb dX5_startDouble_35 (by decide) ?_
            exact hb_50 h y1 (1 : Int64) t0 t1 none _ _ _ hsp hR (lv_sub hl [0, 1] rfl)
        · have hsp := fr_nnS hsp
          have hl : lv_has ls 4 [(0, .ref (g.2.2 a)), (1, .int y1)] := hl
          refine W.eq (g2 := F0 m 30 ls [.long t0, .long t1, .ref (g.2.2 jt2)]) rfl ?_
          refine lv_iload_n hx hb dX5_startDouble_30 rfl (lv_at hl 1 rfl) ?_
          refine lv_if_ne (tgt := 38) hx hb dX5_startDouble_31 (by decide) (fun c3 => ?_) (fun c3 => ?_)
          · rw [if_neg c3] at hsp
            refine lv_iload_n hx hb dX5_startDouble_38 rfl (lv_at hl 1 rfl) ?_
            refine lv_iconst (v := 1) hx hb dX5_startDouble_39 (by decide) ?_
            refine lv_icmp_ne (tgt := 49) hx hb dX5_startDouble_40 (by decide) (fun c4 => ?_) (fun c4 => ?_)
            · rw [if_neg c4] at hsp
              refine lv_lconst (v := 0) hx hb dX5_startDouble_49 (by decide) ?_
              exact hb_50 h y1 (0 : Int64) t0 t1 (some jt2) _ _ _ hsp hR (lv_sub hl [0, 1] rfl)
            · rw [if_pos c4] at hsp
              refine lv_ldc2 hx hb C.1.2.2.2.1 (C.1.2.2.2.2 _ Kc_RX5_29) dX5_startDouble_43 ?_
              refine lv_goto (tgt := 50) hx hb dX5_startDouble_46 (by decide) ?_
              exact hb_50 h y1 (-1 : Int64) t0 t1 (some jt2) _ _ _ hsp hR (lv_sub hl [0, 1] rfl)
          · rw [if_pos c3] at hsp
            refine lv_lconst (v := 1) hx hb dX5_startDouble_34 (by decide) ?_
            refine lv_goto (tgt := 50) hx hb dX5_startDouble_35 (by decide) ?_
            exact hb_50 h y1 (1 : Int64) t0 t1 (some jt2) _ _ _ hsp hR (lv_sub hl [0, 1] rfl)
      refine lv_aload_n hx hb dX5_startDouble_0 rfl (lv_at hl 0 rfl) ?_
      refine lv_aload_n hx hb dX5_startDouble_1 rfl (lv_at hl 2 rfl) ?_
      refine lv_aload_n hx hb dX5_startDouble_2 rfl (lv_at hl 3 rfl) ?_
      obtain ⟨h31, E32, hsp⟩ := fr_b1 hsp
      refine fq_callV (rest := []) (st1 := []) C hR (k_X5_begin C.2.2 ha E32) Y_X5_begin YV_X5_begin Lk_RX5_21 ha ⟨_, _, rfl, by decide⟩ rfl hl.1 ⟨Nat.le_of_ble_eq_true rfl, Nat.le_of_ble_eq_true rfl⟩ rfl (Nat.le_of_ble_eq_true rfl) ⟨Nat.zero_le _, Nat.zero_le _⟩ rfl dX5_startDouble_3 (fun H locs hR => ?_)
      refine lv_aload_n hx hb dX5_startDouble_6 rfl (lv_at hl 0 rfl) ?_
      rcases hv34 : (h31.2.2 a 0) with _ | j33
      · rw [hv34] at hsp; have hsp := fr_nnN hsp
        refine fr_getn C hR ha Fg_RX5_12 rfl hv34 dX5_startDouble_7 ?_
        refine lv_iload_n hx hb dX5_startDouble_10 rfl (lv_at hl 1 rfl) ?_
        refine lv_iconst (v := 2) hx hb dX5_startDouble_11 (by decide) ?_
        refine lv_icmp_ne (tgt := 19) hx hb dX5_startDouble_12 (by decide) (fun c35 => ?_) (fun c35 => ?_)
        · rw [if_neg c35] at hsp
          refine lv_lconst (v := 0) hx hb dX5_startDouble_19 (by decide) ?_
          refine lv_iload_n hx hb dX5_startDouble_20 rfl (lv_at hl 1 rfl) ?_
          refine lv_iconst (v := 2) hx hb dX5_startDouble_21 (by decide) ?_
          refine lv_icmp_ne (tgt := 29) hx hb dX5_startDouble_22 (by decide) (fun c36 => ?_) (fun c36 => ?_)
          · rw [if_neg c36] at hsp
            refine lv_lconst (v := 1) hx hb dX5_startDouble_29 (by decide) ?_
            exact hb_30 h31 x1 (1 : Int64) (0 : Int64) none _ _ _ hsp hR (lv_sub hl [0, 1] rfl)
          · rw [if_pos c36] at hsp
            refine lv_lconst (v := 0) hx hb dX5_startDouble_25 (by decide) ?_
            refine lv_goto (tgt := 30) hx hb dX5_startDouble_26 (by decide) ?_
            exact hb_30 h31 x1 (0 : Int64) (0 : Int64) none _ _ _ hsp hR (lv_sub hl [0, 1] rfl)
        · rw [if_pos c35] at hsp
          refine lv_lconst (v := 1) hx hb dX5_startDouble_15 (by decide) ?_
          refine lv_goto (tgt := 20) hx hb dX5_startDouble_16 (by decide) ?_
          refine lv_iload_n hx hb dX5_startDouble_20 rfl (lv_at hl 1 rfl) ?_
          refine lv_iconst (v := 2) hx hb dX5_startDouble_21 (by decide) ?_
          refine lv_icmp_ne (tgt := 29) hx hb dX5_startDouble_22 (by decide) (fun c37 => ?_) (fun c37 => ?_)
          · rw [if_neg c37] at hsp
            refine lv_lconst (v := 1) hx hb dX5_startDouble_29 (by decide) ?_
            exact hb_30 h31 x1 (1 : Int64) (1 : Int64) none _ _ _ hsp hR (lv_sub hl [0, 1] rfl)
          · rw [if_pos c37] at hsp
            refine lv_lconst (v := 0) hx hb dX5_startDouble_25 (by decide) ?_
            refine lv_goto (tgt := 30) hx hb dX5_startDouble_26 (by decide) ?_
            exact hb_30 h31 x1 (0 : Int64) (1 : Int64) none _ _ _ hsp hR (lv_sub hl [0, 1] rfl)
      · rw [hv34] at hsp; have hsp := fr_nnS hsp
        refine fr_getr C hR ha Fg_RX5_12 rfl hv34 dX5_startDouble_7 ?_
        refine lv_iload_n hx hb dX5_startDouble_10 rfl (lv_at hl 1 rfl) ?_
        refine lv_iconst (v := 2) hx hb dX5_startDouble_11 (by decide) ?_
        refine lv_icmp_ne (tgt := 19) hx hb dX5_startDouble_12 (by decide) (fun c38 => ?_) (fun c38 => ?_)
        · rw [if_neg c38] at hsp
          refine lv_lconst (v := 0) hx hb dX5_startDouble_19 (by decide) ?_
          refine lv_iload_n hx hb dX5_startDouble_20 rfl (lv_at hl 1 rfl) ?_
          refine lv_iconst (v := 2) hx hb dX5_startDouble_21 (by decide) ?_
          refine lv_icmp_ne (tgt := 29) hx hb dX5_startDouble_22 (by decide) (fun c39 => ?_) (fun c39 => ?_)
          · rw [if_neg c39] at hsp
            refine lv_lconst (v := 1) hx hb dX5_startDouble_29 (by decide) ?_
            exact hb_30 h31 x1 (1 : Int64) (0 : Int64) (some j33) _ _ _ hsp hR (lv_sub hl [0, 1] rfl)
          · rw [if_pos c39] at hsp
            refine lv_lconst (v := 0) hx hb dX5_startDouble_25 (by decide) ?_
            refine lv_goto (tgt := 30) hx hb dX5_startDouble_26 (by decide) ?_
            exact hb_30 h31 x1 (0 : Int64) (0 : Int64) (some j33) _ _ _ hsp hR (lv_sub hl [0, 1] rfl)
        · rw [if_pos c38] at hsp
          refine lv_lconst (v := 1) hx hb dX5_startDouble_15 (by decide) ?_
          refine lv_goto (tgt := 20) hx hb dX5_startDouble_16 (by decide) ?_
          refine lv_iload_n hx hb dX5_startDouble_20 rfl (lv_at hl 1 rfl) ?_
          refine lv_iconst (v := 2) hx hb dX5_startDouble_21 (by decide) ?_
          refine lv_icmp_ne (tgt := 29) hx hb dX5_startDouble_22 (by decide) (fun c40 => ?_) (fun c40 => ?_)
          · rw [if_neg c40] at hsp
            refine lv_lconst (v := 1) hx hb dX5_startDouble_29 (by decide) ?_
            exact hb_30 h31 x1 (1 : Int64) (1 : Int64) (some j33) _ _ _ hsp hR (lv_sub hl [0, 1] rfl)
          · rw [if_pos c40] at hsp
            refine lv_lconst (v := 0) hx hb dX5_startDouble_25 (by decide) ?_
            refine lv_goto (tgt := 30) hx hb dX5_startDouble_26 (by decide) ?_
            exact hb_30 h31 x1 (0 : Int64) (1 : Int64) (some j33) _ _ _ hsp hR (lv_sub hl [0, 1] rfl)

/-! TermRows$Reckoner.isSure()Z -/
def z_X5_isSure_b156 (S : fh_S) (a : Nat) (h : fh_H) (y1 : Int64) (y3 : Int64) (y5 : Int64) (y7 : Int64) : Option (Int32 × fh_H) :=
    fh_b1 (h.2.2 a 0) (fun j1 => fh_ck (fh_kq S j1 0) (fh_let (((h.2.1 j1 0) + (h.2.1 j1 1))) (fun v4 => fh_b1 (z_J9_floorDiv_f86c9 (h.2.1 j1 0) y1) (fun r5 => fh_let (fh_sJ h a 10 r5) (fun h7 => fh_b1 (z_J9_floorDiv_f86c9 v4 y3) (fun r8 => if (h7.2.1 a 10) = r8 then (fh_b1 (h7.2.2 a 0) (fun j11 => fh_ck (fh_kq S j11 0) (fh_b1 (z_J9_floorDiv_f86c9 ((h7.2.1 j11 0) + (h7.2.1 j11 2)) y5) (fun r14 => if (h7.2.1 a 10) = r14 then (fh_b1 (z_J9_floorDiv_f86c9 ((v4 + (h7.2.1 j11 2)) + (h7.2.1 j11 3)) y7) (fun r17 => if (h7.2.1 a 10) = r17 then (some ((1 : Int32), h7)) else (some ((0 : Int32), h7)))) else (some ((0 : Int32), h7)))))) else (some ((0 : Int32), h7))))))))
def z_X5_isSure_b141 (S : fh_S) (a : Nat) (h : fh_H) (y1 : Int64) (y3 : Int64) (y5 : Int64) (y7 : Int64) (y9 : Int32) : Option (Int32 × fh_H) :=
    if y9 = 0 then (if (0 : Int32) = 0 then (some ((0 : Int32), h)) else (z_X5_isSure_b156 S a h y1 y3 y5 y7)) else (z_X5_isSure_b156 S a h y1 y3 y5 y7)
def z_X5_isSure_b109 (S : fh_S) (a : Nat) (h : fh_H) (y1 : Int64) (y3 : Int64) (y5 : Int64) (y7 : Int64) (t0 : Int32) : Option (Int32 × fh_H) :=
    if (0 : Int64) ≤ y1 then (z_X5_isSure_b141 S a h y1 y3 y5 y7 t0) else (if (0 : Int64) ≤ y3 then (z_X5_isSure_b141 S a h y1 y3 y5 y7 t0) else (if (0 : Int64) ≤ y5 then (z_X5_isSure_b141 S a h y1 y3 y5 y7 t0) else (if (0 : Int64) ≤ y7 then (z_X5_isSure_b141 S a h y1 y3 y5 y7 t0) else (if t0 = 0 then (if (1 : Int32) = 0 then (some ((0 : Int32), h)) else (z_X5_isSure_b156 S a h y1 y3 y5 y7)) else (z_X5_isSure_b156 S a h y1 y3 y5 y7)))))
def z_X5_isSure_b30 (S : fh_S) (a : Nat) (h : fh_H) : Option (Int32 × fh_H) :=
    fh_b1 (h.2.2 a 1) (fun j1 => fh_ck (fh_kq S j1 0) (fh_let ((h.2.1 j1 0)) (fun v4 => fh_let ((v4 + (h.2.1 j1 1))) (fun v5 => fh_let ((v4 + (h.2.1 j1 2))) (fun v6 => fh_let (((v5 + (h.2.1 j1 2)) + (h.2.1 j1 3))) (fun v7 => if v4 ≤ (0 : Int64) then (z_X5_isSure_b109 S a h v4 v5 v6 v7 (0 : Int32)) else (if v5 ≤ (0 : Int64) then (z_X5_isSure_b109 S a h v4 v5 v6 v7 (0 : Int32)) else (if v6 ≤ (0 : Int64) then (z_X5_isSure_b109 S a h v4 v5 v6 v7 (0 : Int32)) else (if v7 ≤ (0 : Int64) then (z_X5_isSure_b109 S a h v4 v5 v6 v7 (0 : Int32)) else (z_X5_isSure_b109 S a h v4 v5 v6 v7 (1 : Int32)))))))))))
def z_X5_isSure_b14 (S : fh_S) (a : Nat) (h : fh_H) : Option (Int32 × fh_H) :=
    if (h.1 a 8) = 0 then (if (h.1 a 5) = 0 then (some ((0 : Int32), h)) else (z_X5_isSure_b30 S a h)) else (z_X5_isSure_b30 S a h)
def z_X5_isSure (S : fh_S) (h : fh_H) (a : Nat) : Option (Int32 × fh_H) :=
    if (h.1 a 7) = 0 then (if (h.1 a 4) = 0 then (some ((0 : Int32), h)) else (z_X5_isSure_b14 S a h)) else (z_X5_isSure_b14 S a h)
set_option maxHeartbeats 4000000 in
set_option maxRecDepth 100000 in
theorem k_X5_isSure {l : Launch} {S : fh_S} {g : fh_G} {h h' : fh_H} (hj : fh_inj S g) {a : Nat} {r : Int32} (ha : fh_kq S a 5 = true) (hsp : z_X5_isSure S h a = some (r, h')) : fh_M l yX5_isSure cX5_isSure 13 (some .boolean) (fh_rm 2) S g [.ref (g.2.2 a)] h (some (.int r)) h' := by
  unfold z_X5_isSure at hsp
  refine fr_head (own := RX5) (by decide) rfl hj (Nat.le_of_ble_eq_true rfl) ?_
  intro p e s m below meth c ls C hr hlocks hR hl
  have hl : lv_has ls 13 [(0, .ref (g.2.2 a))] := hl
  have hx := C.1.1
  have hb := C.1.2.1
  have hb_156 : ∀ (h : fh_H) (y1 : Int64) (y3 : Int64) (y5 : Int64) (y7 : Int64) (H : Heap) (locs : List Loc) (ls : Array Slot), z_X5_isSure_b156 S a h y1 y3 y5 y7 = some (r, h') → fh_R S g s.heap h H locs → lv_has ls 13 [(0, .ref (g.2.2 a)), (1, .long y1), (3, .long y3), (5, .long y5), (7, .long y7)] → fh_Wk p l e 2 s m [.ref (g.2.2 a)] below meth c S g (some (.int r)) h' H locs (F0 m 156 ls []) := by
    intro h y1 y3 y5 y7 H locs ls hsp hR hl
    unfold z_X5_isSure_b156 at hsp
    refine lv_aload_n hx hb dX5_isSure_156 rfl (lv_at hl 0 rfl) ?_
    obtain ⟨j1, hv2, hsp⟩ := fr_b1 hsp
    refine fr_getr C hR ha Fg_RX5_12 rfl hv2 dX5_isSure_157 ?_
    obtain ⟨hk3, hsp⟩ := fr_ck hsp
    refine fr_getj C hR hk3 Fg_RX5_63 rfl dX5_isSure_160 ?_
    refine lv_aload_n hx hb dX5_isSure_163 rfl (lv_at hl 0 rfl) ?_
    refine fr_getr C hR ha Fg_RX5_12 rfl hv2 dX5_isSure_164 ?_
    refine fr_getj C hR hk3 Fg_RX5_88 rfl dX5_isSure_167 ?_
    refine lv_ladd hx hb dX5_isSure_170 ?_
    refine lv_topl (fun v4 ev4 => ?_)
    have hsp := fr_let ev4 hsp
    refine lv_lstore (lv' := [(11, .long v4), (0, .ref (g.2.2 a)), (1, .long y1), (3, .long y3), (5, .long y5), (7, .long y7)]) hx hb dX5_isSure_171 hl (by decide) rfl (fun ls hl => ?_)
    refine lv_aload_n hx hb dX5_isSure_173 rfl (lv_at hl 1 rfl) ?_
    refine lv_aload_n hx hb dX5_isSure_174 rfl (lv_at hl 1 rfl) ?_
    refine fr_getr C hR ha Fg_RX5_12 rfl hv2 dX5_isSure_175 ?_
    refine fr_getj C hR hk3 Fg_RX5_63 rfl dX5_isSure_178 ?_
    refine lv_lload_n hx hb dX5_isSure_181 rfl (lv_at hl 2 rfl) ?_
    obtain ⟨r5, E6, hsp⟩ := fr_b1 hsp
    refine fq_callS (rest := [.ref (g.2.2 a)]) (st1 := [.long r5, .ref (g.2.2 a)]) C hR (k_J9_floorDiv_f86c9 C.2.2 E6) Y_J9_floorDiv_f86c9 YS_J9_floorDiv_f86c9 Lk_RX5_97 rfl hl.1 ⟨Nat.le_of_ble_eq_true rfl, Nat.le_of_ble_eq_true rfl⟩ rfl (Nat.le_of_ble_eq_true rfl) ⟨Nat.zero_le _, Nat.zero_le _⟩ rfl dX5_isSure_182 (fun H locs hR => ?_)
    refine fr_putj C hR ha Fp_RX5_103 rfl dX5_isSure_185 (fun H locs hR => ?_)
    obtain ⟨h7, eh7⟩ : ∃ z, z = fh_sJ h a 10 r5 := ⟨_, rfl⟩
    rw [← eh7] at hR
    have hsp := fr_let eh7 hsp
    refine lv_aload_n hx hb dX5_isSure_188 rfl (lv_at hl 1 rfl) ?_
    refine fr_getj C hR ha Fg_RX5_103 rfl dX5_isSure_189 ?_
    refine lv_lload hx hb dX5_isSure_192 (lv_at hl 0 rfl) ?_
    refine lv_lload_n hx hb dX5_isSure_194 rfl (lv_at hl 3 rfl) ?_
    obtain ⟨r8, E9, hsp⟩ := fr_b1 hsp
    refine fq_callS (rest := [.long (h7.2.1 a 10)]) (st1 := [.long r8, .long (h7.2.1 a 10)]) C hR (k_J9_floorDiv_f86c9 C.2.2 E9) Y_J9_floorDiv_f86c9 YS_J9_floorDiv_f86c9 Lk_RX5_97 rfl hl.1 ⟨Nat.le_of_ble_eq_true rfl, Nat.le_of_ble_eq_true rfl⟩ rfl (Nat.le_of_ble_eq_true rfl) ⟨Nat.zero_le _, Nat.zero_le _⟩ rfl dX5_isSure_195 (fun H locs hR => ?_)
    refine fr_lc_ne (tgt := 265) hx hb dX5_isSure_198 dX5_isSure_199 (by decide) (fun c10 => ?_) (fun c10 => ?_)
    · rw [if_neg c10] at hsp
      refine lv_iconst (v := 0) hx hb dX5_isSure_265 (by decide) ?_
      obtain ⟨e1, e2⟩ := fr_s2 hsp
      exact fr_zret C hr hlocks hR (Or.inl rfl) e1 e2 dX5_isSure_266
    · rw [if_pos c10] at hsp
      refine lv_aload_n hx hb dX5_isSure_202 rfl (lv_at hl 1 rfl) ?_
      refine fr_getj C hR ha Fg_RX5_103 rfl dX5_isSure_203 ?_
      refine lv_aload_n hx hb dX5_isSure_206 rfl (lv_at hl 1 rfl) ?_
      obtain ⟨j11, hv12, hsp⟩ := fr_b1 hsp
      refine fr_getr C hR ha Fg_RX5_12 rfl hv12 dX5_isSure_207 ?_
      obtain ⟨hk13, hsp⟩ := fr_ck hsp
      refine fr_getj C hR hk13 Fg_RX5_63 rfl dX5_isSure_210 ?_
      refine lv_aload_n hx hb dX5_isSure_213 rfl (lv_at hl 1 rfl) ?_
      refine fr_getr C hR ha Fg_RX5_12 rfl hv12 dX5_isSure_214 ?_
      refine fr_getj C hR hk13 Fg_RX5_91 rfl dX5_isSure_217 ?_
      refine lv_ladd hx hb dX5_isSure_220 ?_
      refine lv_lload hx hb dX5_isSure_221 (lv_at hl 4 rfl) ?_
      obtain ⟨r14, E15, hsp⟩ := fr_b1 hsp
      refine fq_callS (rest := [.long (h7.2.1 a 10)]) (st1 := [.long r14, .long (h7.2.1 a 10)]) C hR (k_J9_floorDiv_f86c9 C.2.2 E15) Y_J9_floorDiv_f86c9 YS_J9_floorDiv_f86c9 Lk_RX5_97 rfl hl.1 ⟨Nat.le_of_ble_eq_true rfl, Nat.le_of_ble_eq_true rfl⟩ rfl (Nat.le_of_ble_eq_true rfl) ⟨Nat.zero_le _, Nat.zero_le _⟩ rfl dX5_isSure_223 (fun H locs hR => ?_)
      refine fr_lc_ne (tgt := 265) hx hb dX5_isSure_226 dX5_isSure_227 (by decide) (fun c16 => ?_) (fun c16 => ?_)
      · rw [if_neg c16] at hsp
        refine lv_iconst (v := 0) hx hb dX5_isSure_265 (by decide) ?_
        obtain ⟨e1, e2⟩ := fr_s2 hsp
        exact fr_zret C hr hlocks hR (Or.inl rfl) e1 e2 dX5_isSure_266
      · rw [if_pos c16] at hsp
        refine lv_aload_n hx hb dX5_isSure_230 rfl (lv_at hl 1 rfl) ?_
        refine fr_getj C hR ha Fg_RX5_103 rfl dX5_isSure_231 ?_
        refine lv_lload hx hb dX5_isSure_234 (lv_at hl 0 rfl) ?_
        refine lv_aload_n hx hb dX5_isSure_236 rfl (lv_at hl 1 rfl) ?_
        refine fr_getr C hR ha Fg_RX5_12 rfl hv12 dX5_isSure_237 ?_
        refine fr_getj C hR hk13 Fg_RX5_91 rfl dX5_isSure_240 ?_
        refine lv_ladd hx hb dX5_isSure_243 ?_
        refine lv_aload_n hx hb dX5_isSure_244 rfl (lv_at hl 1 rfl) ?_
        refine fr_getr C hR ha Fg_RX5_12 rfl hv12 dX5_isSure_245 ?_
        refine fr_getj C hR hk13 Fg_RX5_94 rfl dX5_isSure_248 ?_
        refine lv_ladd hx hb dX5_isSure_251 ?_
        refine lv_lload hx hb dX5_isSure_252 (lv_at hl 5 rfl) ?_
        obtain ⟨r17, E18, hsp⟩ := fr_b1 hsp
        refine fq_callS (rest := [.long (h7.2.1 a 10)]) (st1 := [.long r17, .long (h7.2.1 a 10)]) C hR (k_J9_floorDiv_f86c9 C.2.2 E18) Y_J9_floorDiv_f86c9 YS_J9_floorDiv_f86c9 Lk_RX5_97 rfl hl.1 ⟨Nat.le_of_ble_eq_true rfl, Nat.le_of_ble_eq_true rfl⟩ rfl (Nat.le_of_ble_eq_true rfl) ⟨Nat.zero_le _, Nat.zero_le _⟩ rfl dX5_isSure_254 (fun H locs hR => ?_)
        refine fr_lc_ne (tgt := 265) hx hb dX5_isSure_257 dX5_isSure_258 (by decide) (fun c19 => ?_) (fun c19 => ?_)
        · rw [if_neg c19] at hsp
          refine lv_iconst (v := 0) hx hb dX5_isSure_265 (by decide) ?_
          obtain ⟨e1, e2⟩ := fr_s2 hsp
          exact fr_zret C hr hlocks hR (Or.inl rfl) e1 e2 dX5_isSure_266
        · rw [if_pos c19] at hsp
          refine lv_iconst (v := 1) hx hb dX5_isSure_261 (by decide) ?_
          refine lv_goto (tgt := 266) hx hb dX5_isSure_262 (by decide) ?_
          obtain ⟨e1, e2⟩ := fr_s2 hsp
          exact fr_zret C hr hlocks hR (Or.inr rfl) e1 e2 dX5_isSure_266
  have hb_141 : ∀ (h : fh_H) (y1 : Int64) (y3 : Int64) (y5 : Int64) (y7 : Int64) (y9 : Int32) (H : Heap) (locs : List Loc) (ls : Array Slot), z_X5_isSure_b141 S a h y1 y3 y5 y7 y9 = some (r, h') → fh_R S g s.heap h H locs → lv_has ls 13 [(0, .ref (g.2.2 a)), (1, .long y1), (3, .long y3), (5, .long y5), (7, .long y7), (9, .int y9)] → fh_Wk p l e 2 s m [.ref (g.2.2 a)] below meth c S g (some (.int r)) h' H locs (F0 m 141 ls []) := by
    intro h y1 y3 y5 y7 y9 H locs ls hsp hR hl
    unfold z_X5_isSure_b141 at hsp
    refine lv_iconst (v := 0) hx hb dX5_isSure_141 (by decide) ?_
    refine lv_istore (lv' := [(10, .int (0 : Int32)), (0, .ref (g.2.2 a)), (1, .long y1), (3, .long y3), (5, .long y5), (7, .long y7), (9, .int y9)]) hx hb dX5_isSure_142 hl (by decide) rfl (fun ls hl => ?_)
    refine lv_iload hx hb dX5_isSure_144 (lv_at hl 6 rfl) ?_
    refine lv_if_ne (tgt := 156) hx hb dX5_isSure_146 (by decide) (fun c1 => ?_) (fun c1 => ?_)
    · rw [if_neg c1] at hsp
      exact hb_156 h y1 y3 y5 y7 _ _ _ hsp hR (lv_sub hl [1, 2, 3, 4, 5] rfl)
    · rw [if_pos c1] at hsp
      refine lv_iload hx hb dX5_isSure_149 (lv_at hl 0 rfl) ?_
      refine lv_if_ne (tgt := 156) hx hb dX5_isSure_151 (by decide) (fun c2 => ?_) (fun c2 => ?_)
      · rw [if_neg c2] at hsp
        exact hb_156 h y1 y3 y5 y7 _ _ _ hsp hR (lv_sub hl [1, 2, 3, 4, 5] rfl)
      · rw [if_pos c2] at hsp
        refine lv_iconst (v := 0) hx hb dX5_isSure_154 (by decide) ?_
        obtain ⟨e1, e2⟩ := fr_s2 hsp
        exact fr_zret C hr hlocks hR (Or.inl rfl) e1 e2 dX5_isSure_155
  have hb_109 : ∀ (h : fh_H) (y1 : Int64) (y3 : Int64) (y5 : Int64) (y7 : Int64) (t0 : Int32) (H : Heap) (locs : List Loc) (ls : Array Slot), z_X5_isSure_b109 S a h y1 y3 y5 y7 t0 = some (r, h') → fh_R S g s.heap h H locs → lv_has ls 13 [(0, .ref (g.2.2 a)), (1, .long y1), (3, .long y3), (5, .long y5), (7, .long y7)] → fh_Wk p l e 2 s m [.ref (g.2.2 a)] below meth c S g (some (.int r)) h' H locs (F0 m 109 ls [.int t0]) := by
    intro h y1 y3 y5 y7 t0 H locs ls hsp hR hl
    unfold z_X5_isSure_b109 at hsp
    refine lv_istore (lv' := [(9, .int t0), (0, .ref (g.2.2 a)), (1, .long y1), (3, .long y3), (5, .long y5), (7, .long y7)]) hx hb dX5_isSure_109 hl (by decide) rfl (fun ls hl => ?_)
    refine lv_lload_n hx hb dX5_isSure_111 rfl (lv_at hl 2 rfl) ?_
    refine lv_lconst (v := 0) hx hb dX5_isSure_112 (by decide) ?_
    refine fr_lc_ge (tgt := 141) hx hb dX5_isSure_113 dX5_isSure_114 (by decide) (fun c1 => ?_) (fun c1 => ?_)
    · rw [if_pos c1] at hsp
      exact hb_141 h y1 y3 y5 y7 t0 _ _ _ hsp hR (lv_sub hl [1, 2, 3, 4, 5, 0] rfl)
    · rw [if_neg c1] at hsp
      refine lv_lload_n hx hb dX5_isSure_117 rfl (lv_at hl 3 rfl) ?_
      refine lv_lconst (v := 0) hx hb dX5_isSure_118 (by decide) ?_
      refine fr_lc_ge (tgt := 141) hx hb dX5_isSure_119 dX5_isSure_120 (by decide) (fun c2 => ?_) (fun c2 => ?_)
      · rw [if_pos c2] at hsp
        exact hb_141 h y1 y3 y5 y7 t0 _ _ _ hsp hR (lv_sub hl [1, 2, 3, 4, 5, 0] rfl)
      · rw [if_neg c2] at hsp
        refine lv_lload hx hb dX5_isSure_123 (lv_at hl 4 rfl) ?_
        refine lv_lconst (v := 0) hx hb dX5_isSure_125 (by decide) ?_
        refine fr_lc_ge (tgt := 141) hx hb dX5_isSure_126 dX5_isSure_127 (by decide) (fun c3 => ?_) (fun c3 => ?_)
        · rw [if_pos c3] at hsp
          exact hb_141 h y1 y3 y5 y7 t0 _ _ _ hsp hR (lv_sub hl [1, 2, 3, 4, 5, 0] rfl)
        · rw [if_neg c3] at hsp
          refine lv_lload hx hb dX5_isSure_130 (lv_at hl 5 rfl) ?_
          refine lv_lconst (v := 0) hx hb dX5_isSure_132 (by decide) ?_
          refine fr_lc_ge (tgt := 141) hx hb dX5_isSure_133 dX5_isSure_134 (by decide) (fun c4 => ?_) (fun c4 => ?_)
          · rw [if_pos c4] at hsp
            exact hb_141 h y1 y3 y5 y7 t0 _ _ _ hsp hR (lv_sub hl [1, 2, 3, 4, 5, 0] rfl)
          · rw [if_neg c4] at hsp
            refine lv_iconst (v := 1) hx hb dX5_isSure_137 (by decide) ?_
            refine lv_goto (tgt := 142) hx hb dX5_isSure_138 (by decide) ?_
            refine lv_istore (lv' := [(10, .int (1 : Int32)), (9, .int t0), (0, .ref (g.2.2 a)), (1, .long y1), (3, .long y3), (5, .long y5), (7, .long y7)]) hx hb dX5_isSure_142 hl (by decide) rfl (fun ls hl => ?_)
            refine lv_iload hx hb dX5_isSure_144 (lv_at hl 1 rfl) ?_
            refine lv_if_ne (tgt := 156) hx hb dX5_isSure_146 (by decide) (fun c5 => ?_) (fun c5 => ?_)
            · rw [if_neg c5] at hsp
              exact hb_156 h y1 y3 y5 y7 _ _ _ hsp hR (lv_sub hl [2, 3, 4, 5, 6] rfl)
            · rw [if_pos c5] at hsp
              refine lv_iload hx hb dX5_isSure_149 (lv_at hl 0 rfl) ?_
              refine lv_if_ne (tgt := 156) hx hb dX5_isSure_151 (by decide) (fun c6 => ?_) (fun c6 => ?_)
              · rw [if_neg c6] at hsp
                exact hb_156 h y1 y3 y5 y7 _ _ _ hsp hR (lv_sub hl [2, 3, 4, 5, 6] rfl)
              · rw [if_pos c6] at hsp
                refine lv_iconst (v := 0) hx hb dX5_isSure_154 (by decide) ?_
                obtain ⟨e1, e2⟩ := fr_s2 hsp
                exact fr_zret C hr hlocks hR (Or.inl rfl) e1 e2 dX5_isSure_155
  have hb_30 : ∀ (h : fh_H) (H : Heap) (locs : List Loc) (ls : Array Slot), z_X5_isSure_b30 S a h = some (r, h') → fh_R S g s.heap h H locs → lv_has ls 13 [(0, .ref (g.2.2 a))] → fh_Wk p l e 2 s m [.ref (g.2.2 a)] below meth c S g (some (.int r)) h' H locs (F0 m 30 ls []) := by
    intro h  H locs ls hsp hR hl
    unfold z_X5_isSure_b30 at hsp
    refine lv_aload_n hx hb dX5_isSure_30 rfl (lv_at hl 0 rfl) ?_
    obtain ⟨j1, hv2, hsp⟩ := fr_b1 hsp
    refine fr_getr C hR ha Fg_RX5_18 rfl hv2 dX5_isSure_31 ?_
    obtain ⟨hk3, hsp⟩ := fr_ck hsp
    refine fr_getj C hR hk3 Fg_RX5_63 rfl dX5_isSure_34 ?_
    refine lv_topl (fun v4 ev4 => ?_)
    have hsp := fr_let ev4 hsp
    refine lv_lstore_n (lv' := [(1, .long v4), (0, .ref (g.2.2 a))]) hx hb dX5_isSure_37 rfl hl (by decide) rfl (fun ls hl => ?_)
    refine lv_lload_n hx hb dX5_isSure_38 rfl (lv_at hl 0 rfl) ?_
    refine lv_aload_n hx hb dX5_isSure_39 rfl (lv_at hl 1 rfl) ?_
    refine fr_getr C hR ha Fg_RX5_18 rfl hv2 dX5_isSure_40 ?_
    refine fr_getj C hR hk3 Fg_RX5_88 rfl dX5_isSure_43 ?_
    refine lv_ladd hx hb dX5_isSure_46 ?_
    refine lv_topl (fun v5 ev5 => ?_)
    have hsp := fr_let ev5 hsp
    refine lv_lstore_n (lv' := [(3, .long v5), (1, .long v4), (0, .ref (g.2.2 a))]) hx hb dX5_isSure_47 rfl hl (by decide) rfl (fun ls hl => ?_)
    refine lv_lload_n hx hb dX5_isSure_48 rfl (lv_at hl 1 rfl) ?_
    refine lv_aload_n hx hb dX5_isSure_49 rfl (lv_at hl 2 rfl) ?_
    refine fr_getr C hR ha Fg_RX5_18 rfl hv2 dX5_isSure_50 ?_
    refine fr_getj C hR hk3 Fg_RX5_91 rfl dX5_isSure_53 ?_
    refine lv_ladd hx hb dX5_isSure_56 ?_
    refine lv_topl (fun v6 ev6 => ?_)
    have hsp := fr_let ev6 hsp
    refine lv_lstore (lv' := [(5, .long v6), (3, .long v5), (1, .long v4), (0, .ref (g.2.2 a))]) hx hb dX5_isSure_57 hl (by decide) rfl (fun ls hl => ?_)
    refine lv_lload_n hx hb dX5_isSure_59 rfl (lv_at hl 1 rfl) ?_
    refine lv_aload_n hx hb dX5_isSure_60 rfl (lv_at hl 3 rfl) ?_
    refine fr_getr C hR ha Fg_RX5_18 rfl hv2 dX5_isSure_61 ?_
    refine fr_getj C hR hk3 Fg_RX5_91 rfl dX5_isSure_64 ?_
    refine lv_ladd hx hb dX5_isSure_67 ?_
    refine lv_aload_n hx hb dX5_isSure_68 rfl (lv_at hl 3 rfl) ?_
    refine fr_getr C hR ha Fg_RX5_18 rfl hv2 dX5_isSure_69 ?_
    refine fr_getj C hR hk3 Fg_RX5_94 rfl dX5_isSure_72 ?_
    refine lv_ladd hx hb dX5_isSure_75 ?_
    refine lv_topl (fun v7 ev7 => ?_)
    have hsp := fr_let ev7 hsp
    refine lv_lstore (lv' := [(7, .long v7), (5, .long v6), (3, .long v5), (1, .long v4), (0, .ref (g.2.2 a))]) hx hb dX5_isSure_76 hl (by decide) rfl (fun ls hl => ?_)
    refine lv_lload_n hx hb dX5_isSure_78 rfl (lv_at hl 3 rfl) ?_
    refine lv_lconst (v := 0) hx hb dX5_isSure_79 (by decide) ?_
    refine fr_lc_le (tgt := 108) hx hb dX5_isSure_80 dX5_isSure_81 (by decide) (fun c8 => ?_) (fun c8 => ?_)
    · rw [if_pos c8] at hsp
      refine lv_iconst (v := 0) hx hb dX5_isSure_108 (by decide) ?_
      exact hb_109 h v4 v5 v6 v7 (0 : Int32) _ _ _ hsp hR (lv_sub hl [4, 3, 2, 1, 0] rfl)
    · rw [if_neg c8] at hsp
      refine lv_lload_n hx hb dX5_isSure_84 rfl (lv_at hl 2 rfl) ?_
      refine lv_lconst (v := 0) hx hb dX5_isSure_85 (by decide) ?_
      refine fr_lc_le (tgt := 108) hx hb dX5_isSure_86 dX5_isSure_87 (by decide) (fun c9 => ?_) (fun c9 => ?_)
      · rw [if_pos c9] at hsp
        refine lv_iconst (v := 0) hx hb dX5_isSure_108 (by decide) ?_
        exact hb_109 h v4 v5 v6 v7 (0 : Int32) _ _ _ hsp hR (lv_sub hl [4, 3, 2, 1, 0] rfl)
      · rw [if_neg c9] at hsp
        refine lv_lload hx hb dX5_isSure_90 (lv_at hl 1 rfl) ?_
        refine lv_lconst (v := 0) hx hb dX5_isSure_92 (by decide) ?_
        refine fr_lc_le (tgt := 108) hx hb dX5_isSure_93 dX5_isSure_94 (by decide) (fun c10 => ?_) (fun c10 => ?_)
        · rw [if_pos c10] at hsp
          refine lv_iconst (v := 0) hx hb dX5_isSure_108 (by decide) ?_
          exact hb_109 h v4 v5 v6 v7 (0 : Int32) _ _ _ hsp hR (lv_sub hl [4, 3, 2, 1, 0] rfl)
        · rw [if_neg c10] at hsp
          refine lv_lload hx hb dX5_isSure_97 (lv_at hl 0 rfl) ?_
          refine lv_lconst (v := 0) hx hb dX5_isSure_99 (by decide) ?_
          refine fr_lc_le (tgt := 108) hx hb dX5_isSure_100 dX5_isSure_101 (by decide) (fun c11 => ?_) (fun c11 => ?_)
          · rw [if_pos c11] at hsp
            refine lv_iconst (v := 0) hx hb dX5_isSure_108 (by decide) ?_
            exact hb_109 h v4 v5 v6 v7 (0 : Int32) _ _ _ hsp hR (lv_sub hl [4, 3, 2, 1, 0] rfl)
          · rw [if_neg c11] at hsp
            refine lv_iconst (v := 1) hx hb dX5_isSure_104 (by decide) ?_
            refine lv_goto (tgt := 109) hx hb dX5_isSure_105 (by decide) ?_
            exact hb_109 h v4 v5 v6 v7 (1 : Int32) _ _ _ hsp hR (lv_sub hl [4, 3, 2, 1, 0] rfl)
  have hb_14 : ∀ (h : fh_H) (H : Heap) (locs : List Loc) (ls : Array Slot), z_X5_isSure_b14 S a h = some (r, h') → fh_R S g s.heap h H locs → lv_has ls 13 [(0, .ref (g.2.2 a))] → fh_Wk p l e 2 s m [.ref (g.2.2 a)] below meth c S g (some (.int r)) h' H locs (F0 m 14 ls []) := by
    intro h  H locs ls hsp hR hl
    unfold z_X5_isSure_b14 at hsp
    refine lv_aload_n hx hb dX5_isSure_14 rfl (lv_at hl 0 rfl) ?_
    refine fr_geti C hR ha Fg_RX5_52 rfl dX5_isSure_15 ?_
    refine lv_if_ne (tgt := 30) hx hb dX5_isSure_18 (by decide) (fun c1 => ?_) (fun c1 => ?_)
    · rw [if_neg c1] at hsp
      exact hb_30 h _ _ _ hsp hR (lv_sub hl [0] rfl)
    · rw [if_pos c1] at hsp
      refine lv_aload_n hx hb dX5_isSure_21 rfl (lv_at hl 0 rfl) ?_
      refine fr_geti C hR ha Fg_RX5_42 rfl dX5_isSure_22 ?_
      refine lv_if_ne (tgt := 30) hx hb dX5_isSure_25 (by decide) (fun c2 => ?_) (fun c2 => ?_)
      · rw [if_neg c2] at hsp
        exact hb_30 h _ _ _ hsp hR (lv_sub hl [0] rfl)
      · rw [if_pos c2] at hsp
        refine lv_iconst (v := 0) hx hb dX5_isSure_28 (by decide) ?_
        obtain ⟨e1, e2⟩ := fr_s2 hsp
        exact fr_zret C hr hlocks hR (Or.inl rfl) e1 e2 dX5_isSure_29
  refine lv_aload_n hx hb dX5_isSure_0 rfl (lv_at hl 0 rfl) ?_
  refine fr_geti C hR ha Fg_RX5_48 rfl dX5_isSure_1 ?_
  refine lv_if_ne (tgt := 14) hx hb dX5_isSure_4 (by decide) (fun c1 => ?_) (fun c1 => ?_)
  · rw [if_neg c1] at hsp
    exact hb_14 h _ _ _ hsp hR (lv_sub hl [0] rfl)
  · rw [if_pos c1] at hsp
    refine lv_aload_n hx hb dX5_isSure_7 rfl (lv_at hl 0 rfl) ?_
    refine fr_geti C hR ha Fg_RX5_38 rfl dX5_isSure_8 ?_
    refine lv_if_eq (tgt := 28) hx hb dX5_isSure_11 (by decide) (fun c2 => ?_) (fun c2 => ?_)
    · rw [if_pos c2] at hsp
      refine lv_iconst (v := 0) hx hb dX5_isSure_28 (by decide) ?_
      obtain ⟨e1, e2⟩ := fr_s2 hsp
      exact fr_zret C hr hlocks hR (Or.inl rfl) e1 e2 dX5_isSure_29
    · rw [if_neg c2] at hsp
      exact hb_14 h _ _ _ hsp hR (lv_sub hl [0] rfl)

/-! TermRows$Row.unknownAt(I)Z -/
def z_X6_unknownAt (S : fh_S) (h : fh_H) (a : Nat) (x1 : Int32) : Option Int32 :=
    fh_b1 (z_X6_knows S h a x1) (fun r1 => if r1 = 0 then (if (h.1 a 7) = (1 : Int32) then (some (0 : Int32)) else (some (1 : Int32))) else (some (0 : Int32)))
set_option maxHeartbeats 4000000 in
set_option maxRecDepth 100000 in
theorem k_X6_unknownAt {l : Launch} {S : fh_S} {g : fh_G} {h : fh_H} (hj : fh_inj S g) {a : Nat} {x1 : Int32} {r : Int32} (ha : fh_kq S a 6 = true) (hsp : z_X6_unknownAt S h a x1 = some r) : fh_M l yX6_unknownAt cX6_unknownAt 2 (some .boolean) (fh_rm 2) S g [.ref (g.2.2 a), .int x1] h (some (.int r)) h := by
  unfold z_X6_unknownAt at hsp
  refine fr_head (own := RX6) (by decide) rfl hj (Nat.le_of_ble_eq_true rfl) ?_
  intro p e s m below meth c ls C hr hlocks hR hl
  have hl : lv_has ls 2 [(0, .ref (g.2.2 a)), (1, .int x1)] := hl
  have hx := C.1.1
  have hb := C.1.2.1
  refine lv_aload_n hx hb dX6_unknownAt_0 rfl (lv_at hl 0 rfl) ?_
  refine lv_iload_n hx hb dX6_unknownAt_1 rfl (lv_at hl 1 rfl) ?_
  obtain ⟨r1, E2, hsp⟩ := fr_b1 hsp
  refine fq_callV (rest := []) (st1 := [.int r1]) C hR (k_X6_knows C.2.2 ha E2) Y_X6_knows YV_X6_knows Lk_RX6_45 ha ⟨_, _, rfl, by decide⟩ rfl hl.1 ⟨Nat.le_of_ble_eq_true rfl, Nat.le_of_ble_eq_true rfl⟩ rfl (Nat.le_of_ble_eq_true rfl) ⟨Nat.zero_le _, Nat.zero_le _⟩ rfl dX6_unknownAt_2 (fun H locs hR => ?_)
  refine lv_if_ne (tgt := 20) hx hb dX6_unknownAt_5 (by decide) (fun c3 => ?_) (fun c3 => ?_)
  · rw [if_neg c3] at hsp
    refine lv_iconst (v := 0) hx hb dX6_unknownAt_20 (by decide) ?_
    have e1 := fr_s1 hsp
    exact fr_zret C hr hlocks hR (Or.inl rfl) e1 rfl dX6_unknownAt_21
  · rw [if_pos c3] at hsp
    refine lv_aload_n hx hb dX6_unknownAt_8 rfl (lv_at hl 0 rfl) ?_
    refine fr_geti C hR ha Fg_RX6_39 rfl dX6_unknownAt_9 ?_
    refine lv_iconst (v := 1) hx hb dX6_unknownAt_12 (by decide) ?_
    refine lv_icmp_eq (tgt := 20) hx hb dX6_unknownAt_13 (by decide) (fun c4 => ?_) (fun c4 => ?_)
    · rw [if_pos c4] at hsp
      refine lv_iconst (v := 0) hx hb dX6_unknownAt_20 (by decide) ?_
      have e1 := fr_s1 hsp
      exact fr_zret C hr hlocks hR (Or.inl rfl) e1 rfl dX6_unknownAt_21
    · rw [if_neg c4] at hsp
      refine lv_iconst (v := 1) hx hb dX6_unknownAt_16 (by decide) ?_
      refine lv_goto (tgt := 21) hx hb dX6_unknownAt_17 (by decide) ?_
      have e1 := fr_s1 hsp
      exact fr_zret C hr hlocks hR (Or.inr rfl) e1 rfl dX6_unknownAt_21

/-! TermRows$Row.divide(JJ)V -/
def z_X6_divide_b65 (S : fh_S) (a : Nat) (h : fh_H) : Option fh_H :=
    if (60 : Int32) ≤ (h.1 a 6) then (fh_let (fh_sI h a 7 (0 : Int32)) (fun h2 => some h2)) else (fh_let (fh_sI h a 7 (1 : Int32)) (fun h3 => some h3))
def z_X6_divide_b9 (S : fh_S) (a : Nat) : Nat → fh_H → Int64 → Int64 → Int32 → Option fh_H
  | 0, _, _, _, _ => none
  | n + 1, h, y5, y7, y9 =>
    if (60 : Int32) ≤ y9 then (z_X6_divide_b65 S a h) else (if y7 = (0 : Int64) then (z_X6_divide_b65 S a h) else (fh_b1 (z_J9_floorDiv_f86c9 y5 y7) (fun r3 => fh_b1 (z_X6_add S h a (Int64.toInt32 r3) (0 : Int32) (0 : Int32)) (fun h5 => fh_let ((y5 - (r3 * y7))) (fun v7 => fh_let (y9 + 1) (fun v8 => z_X6_divide_b9 S a n h5 y7 v7 v8))))))
def z_X6_divide (S : fh_S) (h : fh_H) (a : Nat) (x1 : Int64) (x3 : Int64) : Option fh_H :=
    z_X6_divide_b9 S a 20000 h x1 x3 (0 : Int32)
set_option maxHeartbeats 4000000 in
set_option maxRecDepth 100000 in
theorem k_X6_divide {l : Launch} {S : fh_S} {g : fh_G} {h h' : fh_H} (hj : fh_inj S g) {a : Nat} {x1 : Int64} {x3 : Int64} (ha : fh_kq S a 6 = true) (hsp : z_X6_divide S h a x1 x3 = some h') : fh_M l yX6_divide cX6_divide 14 none (fh_rm 2) S g [.ref (g.2.2 a), .long x1, .long x3] h none h' := by
  unfold z_X6_divide at hsp
  refine fr_head (own := RX6) (by decide) rfl hj (Nat.le_of_ble_eq_true rfl) ?_
  intro p e s m below meth c ls C hr hlocks hR hl
  have hl : lv_has ls 14 [(0, .ref (g.2.2 a)), (1, .long x1), (3, .long x3)] := hl
  have hx := C.1.1
  have hb := C.1.2.1
  have hb_65 : ∀ (h : fh_H) (H : Heap) (locs : List Loc) (ls : Array Slot), z_X6_divide_b65 S a h = some h' → fh_R S g s.heap h H locs → lv_has ls 14 [(0, .ref (g.2.2 a))] → fh_Wk p l e 2 s m [.ref (g.2.2 a), .long x1, .long x3] below meth c S g none h' H locs (F0 m 65 ls []) := by
    intro h  H locs ls hsp hR hl
    unfold z_X6_divide_b65 at hsp
    refine lv_aload_n hx hb dX6_divide_65 rfl (lv_at hl 0 rfl) ?_
    refine lv_aload_n hx hb dX6_divide_66 rfl (lv_at hl 0 rfl) ?_
    refine fr_geti C hR ha Fg_RX6_36 rfl dX6_divide_67 ?_
    refine lv_bipush (v := 60) hx hb dX6_divide_70 (by decide) ?_
    refine lv_icmp_ge (tgt := 79) hx hb dX6_divide_72 (by decide) (fun c1 => ?_) (fun c1 => ?_)
    · rw [if_pos c1] at hsp
      refine lv_iconst (v := 0) hx hb dX6_divide_79 (by decide) ?_
      refine fr_puti C hR ha Fp_RX6_39 rfl dX6_divide_80 (fun H locs hR => ?_)
      obtain ⟨h2, eh2⟩ : ∃ z, z = fh_sI h a 7 (0 : Int32) := ⟨_, rfl⟩
      rw [← eh2] at hR
      have hsp := fr_let eh2 hsp
      exact fr_vret C hr hlocks hR (fr_s1 hsp) dX6_divide_83
    · rw [if_neg c1] at hsp
      refine lv_iconst (v := 1) hx hb dX6_divide_75 (by decide) ?_
      refine lv_goto (tgt := 80) hx hb dX6_divide_76 (by decide) ?_
      refine fr_puti C hR ha Fp_RX6_39 rfl dX6_divide_80 (fun H locs hR => ?_)
      obtain ⟨h3, eh3⟩ : ∃ z, z = fh_sI h a 7 (1 : Int32) := ⟨_, rfl⟩
      rw [← eh3] at hR
      have hsp := fr_let eh3 hsp
      exact fr_vret C hr hlocks hR (fr_s1 hsp) dX6_divide_83
  have hb_9 : ∀ (n : Nat) (h : fh_H) (y5 : Int64) (y7 : Int64) (y9 : Int32) (H : Heap) (locs : List Loc) (ls : Array Slot), z_X6_divide_b9 S a n h y5 y7 y9 = some h' → fh_R S g s.heap h H locs → lv_has ls 14 [(0, .ref (g.2.2 a)), (5, .long y5), (7, .long y7), (9, .int y9)] → fh_Wk p l e 2 s m [.ref (g.2.2 a), .long x1, .long x3] below meth c S g none h' H locs (F0 m 9 ls []) := by
    intro n
    induction n with
    | zero => intro h y5 y7 y9 H locs ls hsp; cases hsp
    | succ n ih =>
      intro h y5 y7 y9 H locs ls hsp hR hl
      rw [z_X6_divide_b9] at hsp
      refine lv_iload hx hb dX6_divide_9 (lv_at hl 3 rfl) ?_
      refine lv_bipush (v := 60) hx hb dX6_divide_11 (by decide) ?_
      refine lv_icmp_ge (tgt := 65) hx hb dX6_divide_13 (by decide) (fun c1 => ?_) (fun c1 => ?_)
      · rw [if_pos c1] at hsp
        exact hb_65 h _ _ _ hsp hR (lv_sub hl [0] rfl)
      · rw [if_neg c1] at hsp
        refine lv_lload hx hb dX6_divide_16 (lv_at hl 2 rfl) ?_
        refine lv_lconst (v := 0) hx hb dX6_divide_18 (by decide) ?_
        refine fr_lc_eq (tgt := 65) hx hb dX6_divide_19 dX6_divide_20 (by decide) (fun c2 => ?_) (fun c2 => ?_)
        · rw [if_pos c2] at hsp
          exact hb_65 h _ _ _ hsp hR (lv_sub hl [0] rfl)
        · rw [if_neg c2] at hsp
          refine lv_lload hx hb dX6_divide_23 (lv_at hl 1 rfl) ?_
          refine lv_lload hx hb dX6_divide_25 (lv_at hl 2 rfl) ?_
          obtain ⟨r3, E4, hsp⟩ := fr_b1 hsp
          refine fq_callS (rest := []) (st1 := [.long r3]) C hR (k_J9_floorDiv_f86c9 C.2.2 E4) Y_J9_floorDiv_f86c9 YS_J9_floorDiv_f86c9 Lk_RX6_49 rfl hl.1 ⟨Nat.le_of_ble_eq_true rfl, Nat.le_of_ble_eq_true rfl⟩ rfl (Nat.le_of_ble_eq_true rfl) ⟨Nat.zero_le _, Nat.zero_le _⟩ rfl dX6_divide_27 (fun H locs hR => ?_)
          refine lv_lstore (lv' := [(10, .long r3), (0, .ref (g.2.2 a)), (5, .long y5), (7, .long y7), (9, .int y9)]) hx hb dX6_divide_30 hl (by decide) rfl (fun ls hl => ?_)
          refine lv_aload_n hx hb dX6_divide_32 rfl (lv_at hl 1 rfl) ?_
          refine lv_lload hx hb dX6_divide_33 (lv_at hl 0 rfl) ?_
          refine lv_l2i hx hb dX6_divide_35 rfl ?_
          refine lv_iconst (v := 0) hx hb dX6_divide_36 (by decide) ?_
          refine lv_iconst (v := 0) hx hb dX6_divide_37 (by decide) ?_
          obtain ⟨h5, E6, hsp⟩ := fr_b1 hsp
          refine fq_callV (rest := []) (st1 := []) C hR (k_X6_add C.2.2 ha E6) Y_X6_add YV_X6_add Lk_RX6_55 ha ⟨_, _, rfl, by decide⟩ rfl hl.1 ⟨Nat.le_of_ble_eq_true rfl, Nat.le_of_ble_eq_true rfl⟩ rfl (Nat.le_of_ble_eq_true rfl) ⟨Nat.zero_le _, Nat.zero_le _⟩ rfl dX6_divide_38 (fun H locs hR => ?_)
          refine lv_lload hx hb dX6_divide_41 (lv_at hl 2 rfl) ?_
          refine lv_lload hx hb dX6_divide_43 (lv_at hl 0 rfl) ?_
          refine lv_lload hx hb dX6_divide_45 (lv_at hl 3 rfl) ?_
          refine lv_lmul hx hb dX6_divide_47 ?_
          refine lv_lsub hx hb dX6_divide_48 ?_
          refine lv_topl (fun v7 ev7 => ?_)
          have hsp := fr_let ev7 hsp
          refine lv_lstore (lv' := [(12, .long v7), (10, .long r3), (0, .ref (g.2.2 a)), (5, .long y5), (7, .long y7), (9, .int y9)]) hx hb dX6_divide_49 hl (by decide) rfl (fun ls hl => ?_)
          refine lv_lload hx hb dX6_divide_51 (lv_at hl 4 rfl) ?_
          refine lv_lstore (lv' := [(5, .long y7), (12, .long v7), (10, .long r3), (0, .ref (g.2.2 a)), (7, .long y7), (9, .int y9)]) hx hb dX6_divide_53 hl (by decide) rfl (fun ls hl => ?_)
          refine lv_lload hx hb dX6_divide_55 (lv_at hl 1 rfl) ?_
          refine lv_lstore (lv' := [(7, .long v7), (5, .long y7), (12, .long v7), (10, .long r3), (0, .ref (g.2.2 a)), (9, .int y9)]) hx hb dX6_divide_57 hl (by decide) rfl (fun ls hl => ?_)
          obtain ⟨v8, ev8⟩ : ∃ z : Int32, z = y9 + 1 := ⟨_, rfl⟩
          have hsp := fr_let ev8 hsp
          refine lv_iinc (v := v8) (lv' := [(9, .int v8), (7, .long v7), (5, .long y7), (12, .long v7), (10, .long r3), (0, .ref (g.2.2 a))]) hx hb dX6_divide_59 hl (k := 5) rfl (by rw [ev8]; rfl) (by decide) rfl (fun ls hl => ?_)
          refine lv_goto (tgt := 9) hx hb dX6_divide_62 (by decide) ?_
          exact ih h5 y7 v7 v8 _ _ _ hsp hR (lv_sub hl [5, 2, 1, 0] rfl)
  refine lv_lload_n hx hb dX6_divide_0 rfl (lv_at hl 1 rfl) ?_
  refine lv_lstore (lv' := [(5, .long x1), (0, .ref (g.2.2 a)), (1, .long x1), (3, .long x3)]) hx hb dX6_divide_1 hl (by decide) rfl (fun ls hl => ?_)
  refine lv_lload_n hx hb dX6_divide_3 rfl (lv_at hl 3 rfl) ?_
  refine lv_lstore (lv' := [(7, .long x3), (5, .long x1), (0, .ref (g.2.2 a)), (1, .long x1), (3, .long x3)]) hx hb dX6_divide_4 hl (by decide) rfl (fun ls hl => ?_)
  refine lv_iconst (v := 0) hx hb dX6_divide_6 (by decide) ?_
  refine lv_istore (lv' := [(9, .int (0 : Int32)), (7, .long x3), (5, .long x1), (0, .ref (g.2.2 a)), (1, .long x1), (3, .long x3)]) hx hb dX6_divide_7 hl (by decide) rfl (fun ls hl => ?_)
  exact hb_9 20000 h x1 x3 (0 : Int32) _ _ _ hsp hR (lv_sub hl [3, 2, 1, 0] rfl)

/-! TermRows$Row.copyTold(LTermRows$Made;)V -/
def z_X6_copyTold_b37 (S : fh_S) (a : Nat) (h : fh_H) : Option fh_H :=
    if (60 : Int32) ≤ (h.1 a 6) then (fh_let (fh_sI h a 7 (0 : Int32)) (fun h2 => some h2)) else (fh_let (fh_sI h a 7 (1 : Int32)) (fun h3 => some h3))
def z_X6_copyTold_b2 (S : fh_S) (a : Nat) : Nat → fh_H → Nat → Int32 → Option fh_H
  | 0, _, _, _ => none
  | n + 1, h, y1, y2 =>
    fh_ck (fh_kq S y1 3) (if (h.1 y1 7) ≤ y2 then (z_X6_copyTold_b37 S a h) else (fh_b1 (h.2.2 y1 8) (fun j3 => fh_ck (fh_kq S j3 13) (if (Int32.ofNat (S.2.2 j3)) ≤ y2 then (z_X6_copyTold_b37 S a h) else (fh_ck (fh_in y2 (S.2.2 j3)) (fh_b1 (z_X6_add S h a (h.1 j3 (Int32.toNatClampNeg y2)) (0 : Int32) (0 : Int32)) (fun h8 => fh_let (y2 + 1) (fun v10 => z_X6_copyTold_b2 S a n h8 y1 v10))))))))
def z_X6_copyTold (S : fh_S) (h : fh_H) (a : Nat) (x1 : Nat) : Option fh_H :=
    z_X6_copyTold_b2 S a 20000 h x1 (0 : Int32)
set_option maxHeartbeats 4000000 in
set_option maxRecDepth 100000 in
theorem k_X6_copyTold {l : Launch} {S : fh_S} {g : fh_G} {h h' : fh_H} (hj : fh_inj S g) {a : Nat} {x1 : Nat} (ha : fh_kq S a 6 = true) (k_x1 : fh_kq S x1 3 = true) (hsp : z_X6_copyTold S h a x1 = some h') : fh_M l yX6_copyTold cX6_copyTold 3 none (fh_rm 2) S g [.ref (g.2.2 a), .ref (g.2.2 x1)] h none h' := by
  unfold z_X6_copyTold at hsp
  refine fr_head (own := RX6) (by decide) rfl hj (Nat.le_of_ble_eq_true rfl) ?_
  intro p e s m below meth c ls C hr hlocks hR hl
  have hl : lv_has ls 3 [(0, .ref (g.2.2 a)), (1, .ref (g.2.2 x1))] := hl
  have hx := C.1.1
  have hb := C.1.2.1
  have hb_37 : ∀ (h : fh_H) (H : Heap) (locs : List Loc) (ls : Array Slot), z_X6_copyTold_b37 S a h = some h' → fh_R S g s.heap h H locs → lv_has ls 3 [(0, .ref (g.2.2 a))] → fh_Wk p l e 2 s m [.ref (g.2.2 a), .ref (g.2.2 x1)] below meth c S g none h' H locs (F0 m 37 ls []) := by
    intro h  H locs ls hsp hR hl
    unfold z_X6_copyTold_b37 at hsp
    refine lv_aload_n hx hb dX6_copyTold_37 rfl (lv_at hl 0 rfl) ?_
    refine lv_aload_n hx hb dX6_copyTold_38 rfl (lv_at hl 0 rfl) ?_
    refine fr_geti C hR ha Fg_RX6_36 rfl dX6_copyTold_39 ?_
    refine lv_bipush (v := 60) hx hb dX6_copyTold_42 (by decide) ?_
    refine lv_icmp_ge (tgt := 51) hx hb dX6_copyTold_44 (by decide) (fun c1 => ?_) (fun c1 => ?_)
    · rw [if_pos c1] at hsp
      refine lv_iconst (v := 0) hx hb dX6_copyTold_51 (by decide) ?_
      refine fr_puti C hR ha Fp_RX6_39 rfl dX6_copyTold_52 (fun H locs hR => ?_)
      obtain ⟨h2, eh2⟩ : ∃ z, z = fh_sI h a 7 (0 : Int32) := ⟨_, rfl⟩
      rw [← eh2] at hR
      have hsp := fr_let eh2 hsp
      exact fr_vret C hr hlocks hR (fr_s1 hsp) dX6_copyTold_55
    · rw [if_neg c1] at hsp
      refine lv_iconst (v := 1) hx hb dX6_copyTold_47 (by decide) ?_
      refine lv_goto (tgt := 52) hx hb dX6_copyTold_48 (by decide) ?_
      refine fr_puti C hR ha Fp_RX6_39 rfl dX6_copyTold_52 (fun H locs hR => ?_)
      obtain ⟨h3, eh3⟩ : ∃ z, z = fh_sI h a 7 (1 : Int32) := ⟨_, rfl⟩
      rw [← eh3] at hR
      have hsp := fr_let eh3 hsp
      exact fr_vret C hr hlocks hR (fr_s1 hsp) dX6_copyTold_55
  have hb_2 : ∀ (n : Nat) (h : fh_H) (y1 : Nat) (y2 : Int32) (H : Heap) (locs : List Loc) (ls : Array Slot), z_X6_copyTold_b2 S a n h y1 y2 = some h' → fh_R S g s.heap h H locs → lv_has ls 3 [(0, .ref (g.2.2 a)), (1, .ref (g.2.2 y1)), (2, .int y2)] → fh_Wk p l e 2 s m [.ref (g.2.2 a), .ref (g.2.2 x1)] below meth c S g none h' H locs (F0 m 2 ls []) := by
    intro n
    induction n with
    | zero => intro h y1 y2 H locs ls hsp; cases hsp
    | succ n ih =>
      intro h y1 y2 H locs ls hsp hR hl
      rw [z_X6_copyTold_b2] at hsp
      refine lv_iload_n hx hb dX6_copyTold_2 rfl (lv_at hl 2 rfl) ?_
      refine lv_aload_n hx hb dX6_copyTold_3 rfl (lv_at hl 1 rfl) ?_
      obtain ⟨hk1, hsp⟩ := fr_ck hsp
      refine fr_geti C hR hk1 Fg_RX6_59 rfl dX6_copyTold_4 ?_
      refine lv_icmp_ge (tgt := 37) hx hb dX6_copyTold_7 (by decide) (fun c2 => ?_) (fun c2 => ?_)
      · rw [if_pos c2] at hsp
        exact hb_37 h _ _ _ hsp hR (lv_sub hl [0] rfl)
      · rw [if_neg c2] at hsp
        refine lv_iload_n hx hb dX6_copyTold_10 rfl (lv_at hl 2 rfl) ?_
        refine lv_aload_n hx hb dX6_copyTold_11 rfl (lv_at hl 1 rfl) ?_
        obtain ⟨j3, hv4, hsp⟩ := fr_b1 hsp
        refine fr_getr C hR hk1 Fg_RX6_62 rfl hv4 dX6_copyTold_12 ?_
        obtain ⟨hk5, hsp⟩ := fr_ck hsp
        refine fr_alen C hR hk5 (Or.inl rfl) dX6_copyTold_15 ?_
        refine lv_icmp_ge (tgt := 37) hx hb dX6_copyTold_16 (by decide) (fun c6 => ?_) (fun c6 => ?_)
        · rw [if_pos c6] at hsp
          exact hb_37 h _ _ _ hsp hR (lv_sub hl [0] rfl)
        · rw [if_neg c6] at hsp
          refine lv_aload_n hx hb dX6_copyTold_19 rfl (lv_at hl 0 rfl) ?_
          refine lv_aload_n hx hb dX6_copyTold_20 rfl (lv_at hl 1 rfl) ?_
          refine fr_getr C hR hk1 Fg_RX6_62 rfl hv4 dX6_copyTold_21 ?_
          refine lv_iload_n hx hb dX6_copyTold_24 rfl (lv_at hl 2 rfl) ?_
          obtain ⟨hi7, hsp⟩ := fr_ck hsp
          refine fr_iald C hR hk5 hi7 dX6_copyTold_25 ?_
          refine lv_iconst (v := 0) hx hb dX6_copyTold_26 (by decide) ?_
          refine lv_iconst (v := 0) hx hb dX6_copyTold_27 (by decide) ?_
          obtain ⟨h8, E9, hsp⟩ := fr_b1 hsp
          refine fq_callV (rest := []) (st1 := []) C hR (k_X6_add C.2.2 ha E9) Y_X6_add YV_X6_add Lk_RX6_55 ha ⟨_, _, rfl, by decide⟩ rfl hl.1 ⟨Nat.le_of_ble_eq_true rfl, Nat.le_of_ble_eq_true rfl⟩ rfl (Nat.le_of_ble_eq_true rfl) ⟨Nat.zero_le _, Nat.zero_le _⟩ rfl dX6_copyTold_28 (fun H locs hR => ?_)
          obtain ⟨v10, ev10⟩ : ∃ z : Int32, z = y2 + 1 := ⟨_, rfl⟩
          have hsp := fr_let ev10 hsp
          refine lv_iinc (v := v10) (lv' := [(2, .int v10), (0, .ref (g.2.2 a)), (1, .ref (g.2.2 y1))]) hx hb dX6_copyTold_31 hl (k := 2) rfl (by rw [ev10]; rfl) (by decide) rfl (fun ls hl => ?_)
          refine lv_goto (tgt := 2) hx hb dX6_copyTold_34 (by decide) ?_
          exact ih h8 y1 v10 _ _ _ hsp hR (lv_sub hl [1, 2, 0] rfl)
  refine lv_iconst (v := 0) hx hb dX6_copyTold_0 (by decide) ?_
  refine lv_istore_n (lv' := [(2, .int (0 : Int32)), (0, .ref (g.2.2 a)), (1, .ref (g.2.2 x1))]) hx hb dX6_copyTold_1 rfl hl (by decide) rfl (fun ls hl => ?_)
  exact hb_2 20000 h x1 (0 : Int32) _ _ _ hsp hR (lv_sub hl [1, 2, 0] rfl)
