/-! TermRows$Half.become(JJJJ)V -/
def z_X0_become (S : fh_S) (h : fh_H) (a : Nat) (x1 : Int64) (x3 : Int64) (x5 : Int64) (x7 : Int64) : Option fh_H :=
    fh_let (fh_sJ h a 0 x1) (fun h1 => fh_let (fh_sJ h1 a 1 x3) (fun h2 => fh_let (fh_sJ h2 a 2 x5) (fun h3 => fh_let (fh_sJ h3 a 3 x7) (fun h4 => some h4))))
set_option maxHeartbeats 4000000 in
set_option maxRecDepth 100000 in
theorem k_X0_become {l : Launch} {S : fh_S} {g : fh_G} {h h' : fh_H} (hj : fh_inj S g) {a : Nat} {x1 : Int64} {x3 : Int64} {x5 : Int64} {x7 : Int64} (ha : fh_kq S a 0 = true) (hsp : z_X0_become S h a x1 x3 x5 x7 = some h') : fh_M l yX0_become cX0_become 9 none (fh_rm 1) S g [.ref (g.2.2 a), .long x1, .long x3, .long x5, .long x7] h none h' := by
  unfold z_X0_become at hsp
  refine fr_head (own := RX0) (by decide) rfl hj (Nat.le_of_ble_eq_true rfl) ?_
  intro p e s m below meth c ls C hr hlocks hR hl
  have hl : lv_has ls 9 [(0, .ref (g.2.2 a)), (1, .long x1), (3, .long x3), (5, .long x5), (7, .long x7)] := hl
  have hx := C.1.1
  have hb := C.1.2.1
  refine lv_aload_n hx hb dX0_become_0 rfl (lv_at hl 0 rfl) ?_
  refine lv_lload_n hx hb dX0_become_1 rfl (lv_at hl 1 rfl) ?_
  refine fr_putj C hR ha Fp_RX0_9 rfl dX0_become_2 (fun H locs hR => ?_)
  obtain ⟨h1, eh1⟩ : ∃ z, z = fh_sJ h a 0 x1 := ⟨_, rfl⟩
  rw [← eh1] at hR
  have hsp := fr_let eh1 hsp
  refine lv_aload_n hx hb dX0_become_5 rfl (lv_at hl 0 rfl) ?_
  refine lv_lload_n hx hb dX0_become_6 rfl (lv_at hl 2 rfl) ?_
  refine fr_putj C hR ha Fp_RX0_15 rfl dX0_become_7 (fun H locs hR => ?_)
  obtain ⟨h2, eh2⟩ : ∃ z, z = fh_sJ h1 a 1 x3 := ⟨_, rfl⟩
  rw [← eh2] at hR
  have hsp := fr_let eh2 hsp
  refine lv_aload_n hx hb dX0_become_10 rfl (lv_at hl 0 rfl) ?_
  refine lv_lload hx hb dX0_become_11 (lv_at hl 3 rfl) ?_
  refine fr_putj C hR ha Fp_RX0_18 rfl dX0_become_13 (fun H locs hR => ?_)
  obtain ⟨h3, eh3⟩ : ∃ z, z = fh_sJ h2 a 2 x5 := ⟨_, rfl⟩
  rw [← eh3] at hR
  have hsp := fr_let eh3 hsp
  refine lv_aload_n hx hb dX0_become_16 rfl (lv_at hl 0 rfl) ?_
  refine lv_lload hx hb dX0_become_17 (lv_at hl 4 rfl) ?_
  refine fr_putj C hR ha Fp_RX0_21 rfl dX0_become_19 (fun H locs hR => ?_)
  obtain ⟨h4, eh4⟩ : ∃ z, z = fh_sJ h3 a 3 x7 := ⟨_, rfl⟩
  rw [← eh4] at hR
  have hsp := fr_let eh4 hsp
  exact fr_vret C hr hlocks hR (fr_s1 hsp) dX0_become_22

/-! TermRows$Half.isBeyond()Z -/
def z_X0_isBeyond (S : fh_S) (h : fh_H) (a : Nat) : Option Int32 :=
    if (h.2.1 a 0) = (1000000000000001 : Int64) then (some (1 : Int32)) else (if (h.2.1 a 1) = (1000000000000001 : Int64) then (some (1 : Int32)) else (if (h.2.1 a 2) = (1000000000000001 : Int64) then (some (1 : Int32)) else (if (h.2.1 a 3) = (1000000000000001 : Int64) then (some (1 : Int32)) else (some (0 : Int32)))))
set_option maxHeartbeats 4000000 in
set_option maxRecDepth 100000 in
theorem k_X0_isBeyond {l : Launch} {S : fh_S} {g : fh_G} {h : fh_H} (hj : fh_inj S g) {a : Nat} {r : Int32} (ha : fh_kq S a 0 = true) (hsp : z_X0_isBeyond S h a = some r) : fh_M l yX0_isBeyond cX0_isBeyond 1 (some .boolean) (fh_rm 1) S g [.ref (g.2.2 a)] h (some (.int r)) h := by
  unfold z_X0_isBeyond at hsp
  refine fr_head (own := RX0) (by decide) rfl hj (Nat.le_of_ble_eq_true rfl) ?_
  intro p e s m below meth c ls C hr hlocks hR hl
  have hl : lv_has ls 1 [(0, .ref (g.2.2 a))] := hl
  have hx := C.1.1
  have hb := C.1.2.1
  refine lv_aload_n hx hb dX0_isBeyond_0 rfl (lv_at hl 0 rfl) ?_
  refine fr_getj C hR ha Fg_RX0_9 rfl dX0_isBeyond_1 ?_
  refine lv_ldc2 hx hb C.1.2.2.2.1 (C.1.2.2.2.2 _ Kc_RX0_32) dX0_isBeyond_4 ?_
  refine fr_lc_eq (tgt := 44) hx hb dX0_isBeyond_7 dX0_isBeyond_8 (by decide) (fun c1 => ?_) (fun c1 => ?_)
  · rw [if_pos c1] at hsp
    refine lv_iconst (v := 1) hx hb dX0_isBeyond_44 (by decide) ?_
    refine lv_goto (tgt := 49) hx hb dX0_isBeyond_45 (by decide) ?_
    have e1 := fr_s1 hsp
    exact fr_zret C hr hlocks hR (Or.inr rfl) e1 rfl dX0_isBeyond_49
  · rw [if_neg c1] at hsp
    refine lv_aload_n hx hb dX0_isBeyond_11 rfl (lv_at hl 0 rfl) ?_
    refine fr_getj C hR ha Fg_RX0_15 rfl dX0_isBeyond_12 ?_
    refine lv_ldc2 hx hb C.1.2.2.2.1 (C.1.2.2.2.2 _ Kc_RX0_32) dX0_isBeyond_15 ?_
    refine fr_lc_eq (tgt := 44) hx hb dX0_isBeyond_18 dX0_isBeyond_19 (by decide) (fun c2 => ?_) (fun c2 => ?_)
    · rw [if_pos c2] at hsp
      refine lv_iconst (v := 1) hx hb dX0_isBeyond_44 (by decide) ?_
      refine lv_goto (tgt := 49) hx hb dX0_isBeyond_45 (by decide) ?_
      have e1 := fr_s1 hsp
      exact fr_zret C hr hlocks hR (Or.inr rfl) e1 rfl dX0_isBeyond_49
    · rw [if_neg c2] at hsp
      refine lv_aload_n hx hb dX0_isBeyond_22 rfl (lv_at hl 0 rfl) ?_
      refine fr_getj C hR ha Fg_RX0_18 rfl dX0_isBeyond_23 ?_
      refine lv_ldc2 hx hb C.1.2.2.2.1 (C.1.2.2.2.2 _ Kc_RX0_32) dX0_isBeyond_26 ?_
      refine fr_lc_eq (tgt := 44) hx hb dX0_isBeyond_29 dX0_isBeyond_30 (by decide) (fun c3 => ?_) (fun c3 => ?_)
      · rw [if_pos c3] at hsp
        refine lv_iconst (v := 1) hx hb dX0_isBeyond_44 (by decide) ?_
        refine lv_goto (tgt := 49) hx hb dX0_isBeyond_45 (by decide) ?_
        have e1 := fr_s1 hsp
        exact fr_zret C hr hlocks hR (Or.inr rfl) e1 rfl dX0_isBeyond_49
      · rw [if_neg c3] at hsp
        refine lv_aload_n hx hb dX0_isBeyond_33 rfl (lv_at hl 0 rfl) ?_
        refine fr_getj C hR ha Fg_RX0_21 rfl dX0_isBeyond_34 ?_
        refine lv_ldc2 hx hb C.1.2.2.2.1 (C.1.2.2.2.2 _ Kc_RX0_32) dX0_isBeyond_37 ?_
        refine fr_lc_ne (tgt := 48) hx hb dX0_isBeyond_40 dX0_isBeyond_41 (by decide) (fun c4 => ?_) (fun c4 => ?_)
        · rw [if_neg c4] at hsp
          refine lv_iconst (v := 0) hx hb dX0_isBeyond_48 (by decide) ?_
          have e1 := fr_s1 hsp
          exact fr_zret C hr hlocks hR (Or.inl rfl) e1 rfl dX0_isBeyond_49
        · rw [if_pos c4] at hsp
          refine lv_iconst (v := 1) hx hb dX0_isBeyond_44 (by decide) ?_
          refine lv_goto (tgt := 49) hx hb dX0_isBeyond_45 (by decide) ?_
          have e1 := fr_s1 hsp
          exact fr_zret C hr hlocks hR (Or.inr rfl) e1 rfl dX0_isBeyond_49

/-! TermRows$History.swap(LTermRows$Row;I)V -/
def z_X1_swap (S : fh_S) (h : fh_H) (a : Nat) (x1 : Nat) (x2 : Int32) : Option fh_H :=
    if x2 < 0 then (some h) else (fh_b1 (h.2.2 a 1) (fun j2 => fh_ck (fh_kq S j2 15) (if x2 < (Int32.ofNat (S.2.2 j2)) then (fh_ck (fh_in x2 (S.2.2 j2)) (fh_nn (h.2.2 j2 (Int32.toNatClampNeg x2)) (some h) (fun j7 => fh_b1 (h.2.2 x1 4) (fun j9 => fh_ck (fh_kq S j9 3) (fh_let (fh_sR h j2 (Int32.toNatClampNeg x2) (some j9)) (fun h12 => fh_let (fh_sR h12 x1 4 (some j7)) (fun h13 => some h13))))))) else (some h))))
set_option maxHeartbeats 4000000 in
set_option maxRecDepth 100000 in
theorem k_X1_swap {l : Launch} {S : fh_S} {g : fh_G} {h h' : fh_H} (hj : fh_inj S g) {a : Nat} {x1 : Nat} {x2 : Int32} (ha : fh_kq S a 1 = true) (k_x1 : fh_kq S x1 6 = true) (hsp : z_X1_swap S h a x1 x2 = some h') : fh_M l yX1_swap cX1_swap 4 none (fh_rm 1) S g [.ref (g.2.2 a), .ref (g.2.2 x1), .int x2] h none h' := by
  unfold z_X1_swap at hsp
  refine fr_head (own := RX1) (by decide) rfl hj (Nat.le_of_ble_eq_true rfl) ?_
  intro p e s m below meth c ls C hr hlocks hR hl
  have hl : lv_has ls 4 [(0, .ref (g.2.2 a)), (1, .ref (g.2.2 x1)), (2, .int x2)] := hl
  have hx := C.1.1
  have hb := C.1.2.1
  refine lv_iload_n hx hb dX1_swap_0 rfl (lv_at hl 2 rfl) ?_
  refine lv_if_lt (tgt := 13) hx hb dX1_swap_1 (by decide) (fun c1 => ?_) (fun c1 => ?_)
  · rw [if_pos c1] at hsp
    exact fr_vret C hr hlocks hR (fr_s1 hsp) dX1_swap_13
  · rw [if_neg c1] at hsp
    refine lv_iload_n hx hb dX1_swap_4 rfl (lv_at hl 2 rfl) ?_
    refine lv_aload_n hx hb dX1_swap_5 rfl (lv_at hl 0 rfl) ?_
    obtain ⟨j2, hv3, hsp⟩ := fr_b1 hsp
    refine fr_getr C hR ha Fg_RX1_19 rfl hv3 dX1_swap_6 ?_
    obtain ⟨hk4, hsp⟩ := fr_ck hsp
    refine fr_alen C hR hk4 (Or.inr (Or.inr (Or.inl rfl))) dX1_swap_9 ?_
    refine lv_icmp_lt (tgt := 14) hx hb dX1_swap_10 (by decide) (fun c5 => ?_) (fun c5 => ?_)
    · rw [if_pos c5] at hsp
      refine lv_aload_n hx hb dX1_swap_14 rfl (lv_at hl 0 rfl) ?_
      refine fr_getr C hR ha Fg_RX1_19 rfl hv3 dX1_swap_15 ?_
      refine lv_iload_n hx hb dX1_swap_18 rfl (lv_at hl 2 rfl) ?_
      obtain ⟨hi6, hsp⟩ := fr_ck hsp
      rcases hv8 : (h.2.2 j2 (Int32.toNatClampNeg x2)) with _ | j7
      · rw [hv8] at hsp; have hsp := fr_nnN hsp
        refine fr_aaln C hR hk4 (Or.inl rfl) hi6 hv8 dX1_swap_19 ?_
        refine lv_astore_nN (lv' := [(3, .null), (0, .ref (g.2.2 a)), (1, .ref (g.2.2 x1)), (2, .int x2)]) hx hb dX1_swap_20 rfl hl (by decide) rfl (fun ls hl => ?_)
        refine lv_aload_nN hx hb dX1_swap_21 rfl (lv_at hl 0 rfl) ?_
        refine lv_ifnullN (tgt := 40) hx hb dX1_swap_22 (by decide) ?_
        exact fr_vret C hr hlocks hR (fr_s1 hsp) dX1_swap_40
      · rw [hv8] at hsp; have hsp := fr_nnS hsp
        refine fr_aald C hR hk4 (Or.inl rfl) hi6 hv8 dX1_swap_19 ?_
        refine lv_astore_n (lv' := [(3, .ref (g.2.2 j7)), (0, .ref (g.2.2 a)), (1, .ref (g.2.2 x1)), (2, .int x2)]) hx hb dX1_swap_20 rfl hl (by decide) rfl (fun ls hl => ?_)
        refine lv_aload_n hx hb dX1_swap_21 rfl (lv_at hl 0 rfl) ?_
        refine lv_ifnull hx hb dX1_swap_22 ?_
        refine lv_aload_n hx hb dX1_swap_25 rfl (lv_at hl 1 rfl) ?_
        refine fr_getr C hR ha Fg_RX1_19 rfl hv3 dX1_swap_26 ?_
        refine lv_iload_n hx hb dX1_swap_29 rfl (lv_at hl 3 rfl) ?_
        refine lv_aload_n hx hb dX1_swap_30 rfl (lv_at hl 2 rfl) ?_
        obtain ⟨j9, hv10, hsp⟩ := fr_b1 hsp
        refine fr_getr C hR k_x1 Fg_RX1_35 rfl hv10 dX1_swap_31 ?_
        obtain ⟨hk11, hsp⟩ := fr_ck hsp
        refine fr_aast C hR hk4 hk11 (Or.inl ⟨rfl, rfl⟩) hi6 dX1_swap_34 (fun H locs hR => ?_)
        obtain ⟨h12, eh12⟩ : ∃ z, z = fh_sR h j2 (Int32.toNatClampNeg x2) (some j9) := ⟨_, rfl⟩
        rw [← eh12] at hR
        have hsp := fr_let eh12 hsp
        refine lv_aload_n hx hb dX1_swap_35 rfl (lv_at hl 2 rfl) ?_
        refine lv_aload_n hx hb dX1_swap_36 rfl (lv_at hl 0 rfl) ?_
        refine fr_putr C hR k_x1 Fp_RX1_35 rfl rfl rfl dX1_swap_37 (fun H locs hR => ?_)
        obtain ⟨h13, eh13⟩ : ∃ z, z = fh_sR h12 x1 4 (some j7) := ⟨_, rfl⟩
        rw [← eh13] at hR
        have hsp := fr_let eh13 hsp
        exact fr_vret C hr hlocks hR (fr_s1 hsp) dX1_swap_40
    · rw [if_neg c5] at hsp
      exact fr_vret C hr hlocks hR (fr_s1 hsp) dX1_swap_13

/-! TermRows$Ladder.start()V -/
def z_X2_start (S : fh_S) (h : fh_H) (a : Nat) : Option fh_H :=
    fh_let (fh_sJ h a 0 (1 : Int64)) (fun h1 => fh_let (fh_sJ h1 a 1 (0 : Int64)) (fun h2 => fh_let (fh_sJ h2 a 2 (0 : Int64)) (fun h3 => fh_let (fh_sJ h3 a 3 (1 : Int64)) (fun h4 => fh_let (fh_sI h4 a 4 (0 : Int32)) (fun h5 => some h5)))))
set_option maxHeartbeats 4000000 in
set_option maxRecDepth 100000 in
theorem k_X2_start {l : Launch} {S : fh_S} {g : fh_G} {h h' : fh_H} (hj : fh_inj S g) {a : Nat} (ha : fh_kq S a 2 = true) (hsp : z_X2_start S h a = some h') : fh_M l yX2_start cX2_start 1 none (fh_rm 1) S g [.ref (g.2.2 a)] h none h' := by
  unfold z_X2_start at hsp
  refine fr_head (own := RX2) (by decide) rfl hj (Nat.le_of_ble_eq_true rfl) ?_
  intro p e s m below meth c ls C hr hlocks hR hl
  have hl : lv_has ls 1 [(0, .ref (g.2.2 a))] := hl
  have hx := C.1.1
  have hb := C.1.2.1
  refine lv_aload_n hx hb dX2_start_0 rfl (lv_at hl 0 rfl) ?_
  refine lv_lconst (v := 1) hx hb dX2_start_1 (by decide) ?_
  refine fr_putj C hR ha Fp_RX2_9 rfl dX2_start_2 (fun H locs hR => ?_)
  obtain ⟨h1, eh1⟩ : ∃ z, z = fh_sJ h a 0 (1 : Int64) := ⟨_, rfl⟩
  rw [← eh1] at hR
  have hsp := fr_let eh1 hsp
  refine lv_aload_n hx hb dX2_start_5 rfl (lv_at hl 0 rfl) ?_
  refine lv_lconst (v := 0) hx hb dX2_start_6 (by decide) ?_
  refine fr_putj C hR ha Fp_RX2_15 rfl dX2_start_7 (fun H locs hR => ?_)
  obtain ⟨h2, eh2⟩ : ∃ z, z = fh_sJ h1 a 1 (0 : Int64) := ⟨_, rfl⟩
  rw [← eh2] at hR
  have hsp := fr_let eh2 hsp
  refine lv_aload_n hx hb dX2_start_10 rfl (lv_at hl 0 rfl) ?_
  refine lv_lconst (v := 0) hx hb dX2_start_11 (by decide) ?_
  refine fr_putj C hR ha Fp_RX2_18 rfl dX2_start_12 (fun H locs hR => ?_)
  obtain ⟨h3, eh3⟩ : ∃ z, z = fh_sJ h2 a 2 (0 : Int64) := ⟨_, rfl⟩
  rw [← eh3] at hR
  have hsp := fr_let eh3 hsp
  refine lv_aload_n hx hb dX2_start_15 rfl (lv_at hl 0 rfl) ?_
  refine lv_lconst (v := 1) hx hb dX2_start_16 (by decide) ?_
  refine fr_putj C hR ha Fp_RX2_21 rfl dX2_start_17 (fun H locs hR => ?_)
  obtain ⟨h4, eh4⟩ : ∃ z, z = fh_sJ h3 a 3 (1 : Int64) := ⟨_, rfl⟩
  rw [← eh4] at hR
  have hsp := fr_let eh4 hsp
  refine lv_aload_n hx hb dX2_start_20 rfl (lv_at hl 0 rfl) ?_
  refine lv_iconst (v := 0) hx hb dX2_start_21 (by decide) ?_
  refine fr_putz C hR ha Fp_RX2_24 rfl (Or.inl rfl) dX2_start_22 (fun H locs hR => ?_)
  obtain ⟨h5, eh5⟩ : ∃ z, z = fh_sI h4 a 4 (0 : Int32) := ⟨_, rfl⟩
  rw [← eh5] at hR
  have hsp := fr_let eh5 hsp
  exact fr_vret C hr hlocks hR (fr_s1 hsp) dX2_start_25

/-! TermRows$Made.become(IIIIIII)V -/
def z_X3_become (S : fh_S) (h : fh_H) (a : Nat) (x1 : Int32) (x2 : Int32) (x3 : Int32) (x4 : Int32) (x5 : Int32) (x6 : Int32) (x7 : Int32) : Option fh_H :=
    fh_let (fh_sI h a 0 x1) (fun h1 => fh_let (fh_sI h1 a 1 x2) (fun h2 => fh_let (fh_sI h2 a 2 x3) (fun h3 => fh_let (fh_sI h3 a 3 x4) (fun h4 => fh_let (fh_sI h4 a 4 x5) (fun h5 => fh_let (fh_sI h5 a 5 x6) (fun h6 => fh_let (fh_sI h6 a 6 x7) (fun h7 => some h7)))))))
set_option maxHeartbeats 4000000 in
set_option maxRecDepth 100000 in
theorem k_X3_become {l : Launch} {S : fh_S} {g : fh_G} {h h' : fh_H} (hj : fh_inj S g) {a : Nat} {x1 : Int32} {x2 : Int32} {x3 : Int32} {x4 : Int32} {x5 : Int32} {x6 : Int32} {x7 : Int32} (ha : fh_kq S a 3 = true) (hsp : z_X3_become S h a x1 x2 x3 x4 x5 x6 x7 = some h') : fh_M l yX3_become cX3_become 8 none (fh_rm 1) S g [.ref (g.2.2 a), .int x1, .int x2, .int x3, .int x4, .int x5, .int x6, .int x7] h none h' := by
  unfold z_X3_become at hsp
  refine fr_head (own := RX3) (by decide) rfl hj (Nat.le_of_ble_eq_true rfl) ?_
  intro p e s m below meth c ls C hr hlocks hR hl
  have hl : lv_has ls 8 [(0, .ref (g.2.2 a)), (1, .int x1), (2, .int x2), (3, .int x3), (4, .int x4), (5, .int x5), (6, .int x6), (7, .int x7)] := hl
  have hx := C.1.1
  have hb := C.1.2.1
  refine lv_aload_n hx hb dX3_become_0 rfl (lv_at hl 0 rfl) ?_
  refine lv_iload_n hx hb dX3_become_1 rfl (lv_at hl 1 rfl) ?_
  refine fr_puti C hR ha Fp_RX3_9 rfl dX3_become_2 (fun H locs hR => ?_)
  obtain ⟨h1, eh1⟩ : ∃ z, z = fh_sI h a 0 x1 := ⟨_, rfl⟩
  rw [← eh1] at hR
  have hsp := fr_let eh1 hsp
  refine lv_aload_n hx hb dX3_become_5 rfl (lv_at hl 0 rfl) ?_
  refine lv_iload_n hx hb dX3_become_6 rfl (lv_at hl 2 rfl) ?_
  refine fr_puti C hR ha Fp_RX3_22 rfl dX3_become_7 (fun H locs hR => ?_)
  obtain ⟨h2, eh2⟩ : ∃ z, z = fh_sI h1 a 1 x2 := ⟨_, rfl⟩
  rw [← eh2] at hR
  have hsp := fr_let eh2 hsp
  refine lv_aload_n hx hb dX3_become_10 rfl (lv_at hl 0 rfl) ?_
  refine lv_iload_n hx hb dX3_become_11 rfl (lv_at hl 3 rfl) ?_
  refine fr_puti C hR ha Fp_RX3_25 rfl dX3_become_12 (fun H locs hR => ?_)
  obtain ⟨h3, eh3⟩ : ∃ z, z = fh_sI h2 a 2 x3 := ⟨_, rfl⟩
  rw [← eh3] at hR
  have hsp := fr_let eh3 hsp
  refine lv_aload_n hx hb dX3_become_15 rfl (lv_at hl 0 rfl) ?_
  refine lv_iload hx hb dX3_become_16 (lv_at hl 4 rfl) ?_
  refine fr_puti C hR ha Fp_RX3_28 rfl dX3_become_18 (fun H locs hR => ?_)
  obtain ⟨h4, eh4⟩ : ∃ z, z = fh_sI h3 a 3 x4 := ⟨_, rfl⟩
  rw [← eh4] at hR
  have hsp := fr_let eh4 hsp
  refine lv_aload_n hx hb dX3_become_21 rfl (lv_at hl 0 rfl) ?_
  refine lv_iload hx hb dX3_become_22 (lv_at hl 5 rfl) ?_
  refine fr_puti C hR ha Fp_RX3_15 rfl dX3_become_24 (fun H locs hR => ?_)
  obtain ⟨h5, eh5⟩ : ∃ z, z = fh_sI h4 a 4 x5 := ⟨_, rfl⟩
  rw [← eh5] at hR
  have hsp := fr_let eh5 hsp
  refine lv_aload_n hx hb dX3_become_27 rfl (lv_at hl 0 rfl) ?_
  refine lv_iload hx hb dX3_become_28 (lv_at hl 6 rfl) ?_
  refine fr_puti C hR ha Fp_RX3_31 rfl dX3_become_30 (fun H locs hR => ?_)
  obtain ⟨h6, eh6⟩ : ∃ z, z = fh_sI h5 a 5 x6 := ⟨_, rfl⟩
  rw [← eh6] at hR
  have hsp := fr_let eh6 hsp
  refine lv_aload_n hx hb dX3_become_33 rfl (lv_at hl 0 rfl) ?_
  refine lv_iload hx hb dX3_become_34 (lv_at hl 7 rfl) ?_
  refine fr_puti C hR ha Fp_RX3_34 rfl dX3_become_36 (fun H locs hR => ?_)
  obtain ⟨h7, eh7⟩ : ∃ z, z = fh_sI h6 a 6 x7 := ⟨_, rfl⟩
  rw [← eh7] at hR
  have hsp := fr_let eh7 hsp
  exact fr_vret C hr hlocks hR (fr_s1 hsp) dX3_become_39

/-! TermRows$Question.firstPlace(J)I -/
def z_X4_firstPlace_b2 : Nat → Int64 → Int32 → Option Int32
  | 0, _, _ => none
  | n + 1, y0, y2 =>
    if (60 : Int32) ≤ y2 then (some (-1 : Int32)) else (if ((y0 >>> (Int32.toInt64 y2 &&& 63)) &&& (1 : Int64)) = (1 : Int64) then (some y2) else (fh_let (y2 + 1) (fun v3 => z_X4_firstPlace_b2 n y0 v3)))
def z_X4_firstPlace (x0 : Int64) : Option Int32 :=
    z_X4_firstPlace_b2 20000 x0 (0 : Int32)
set_option maxHeartbeats 4000000 in
set_option maxRecDepth 100000 in
theorem k_X4_firstPlace {l : Launch} {S : fh_S} {g : fh_G} {h : fh_H} (hj : fh_inj S g) {x0 : Int64} {r : Int32} (hsp : z_X4_firstPlace x0 = some r) : fh_M l yX4_firstPlace cX4_firstPlace 3 (some .int) (fh_rm 1) S g [.long x0] h (some (.int r)) h := by
  unfold z_X4_firstPlace at hsp
  refine fr_head (own := RX4) (by decide) rfl hj (Nat.le_of_ble_eq_true rfl) ?_
  intro p e s m below meth c ls C hr hlocks hR hl
  have hl : lv_has ls 3 [(0, .long x0)] := hl
  have hx := C.1.1
  have hb := C.1.2.1
  have hb_2 : ∀ (n : Nat) (y0 : Int64) (y2 : Int32) (H : Heap) (locs : List Loc) (ls : Array Slot), z_X4_firstPlace_b2 n y0 y2 = some r → fh_R S g s.heap h H locs → lv_has ls 3 [(0, .long y0), (2, .int y2)] → fh_Wk p l e 1 s m [.long x0] below meth c S g (some (.int r)) h H locs (F0 m 2 ls []) := by
    intro n
    induction n with
    | zero => intro y0 y2 H locs ls hsp; cases hsp
    | succ n ih =>
      intro y0 y2 H locs ls hsp hR hl
      rw [z_X4_firstPlace_b2] at hsp
      refine lv_iload_n hx hb dX4_firstPlace_2 rfl (lv_at hl 1 rfl) ?_
      refine lv_bipush (v := 60) hx hb dX4_firstPlace_3 (by decide) ?_
      refine lv_icmp_ge (tgt := 26) hx hb dX4_firstPlace_5 (by decide) (fun c1 => ?_) (fun c1 => ?_)
      · rw [if_pos c1] at hsp
        refine lv_iconst (v := -1) hx hb dX4_firstPlace_26 (by decide) ?_
        have e1 := fr_s1 hsp
        exact fr_iret C hr hlocks hR e1 rfl dX4_firstPlace_27
      · rw [if_neg c1] at hsp
        refine lv_lload_n hx hb dX4_firstPlace_8 rfl (lv_at hl 0 rfl) ?_
        refine lv_iload_n hx hb dX4_firstPlace_9 rfl (lv_at hl 1 rfl) ?_
        refine lv_lshr hx hb dX4_firstPlace_10 rfl ?_
        refine lv_lconst (v := 1) hx hb dX4_firstPlace_11 (by decide) ?_
        refine lv_land hx hb dX4_firstPlace_12 ?_
        refine lv_lconst (v := 1) hx hb dX4_firstPlace_13 (by decide) ?_
        refine fr_lc_ne (tgt := 20) hx hb dX4_firstPlace_14 dX4_firstPlace_15 (by decide) (fun c2 => ?_) (fun c2 => ?_)
        · rw [if_neg c2] at hsp
          obtain ⟨v3, ev3⟩ : ∃ z : Int32, z = y2 + 1 := ⟨_, rfl⟩
          have hsp := fr_let ev3 hsp
          refine lv_iinc (v := v3) (lv' := [(2, .int v3), (0, .long y0)]) hx hb dX4_firstPlace_20 hl (k := 1) rfl (by rw [ev3]; rfl) (by decide) rfl (fun ls hl => ?_)
          refine lv_goto (tgt := 2) hx hb dX4_firstPlace_23 (by decide) ?_
          exact ih y0 v3 _ _ _ hsp hR (lv_sub hl [1, 0] rfl)
        · rw [if_pos c2] at hsp
          refine lv_iload_n hx hb dX4_firstPlace_18 rfl (lv_at hl 1 rfl) ?_
          have e1 := fr_s1 hsp
          exact fr_iret C hr hlocks hR e1 rfl dX4_firstPlace_19
  refine lv_iconst (v := 0) hx hb dX4_firstPlace_0 (by decide) ?_
  refine lv_istore_n (lv' := [(2, .int (0 : Int32)), (0, .long x0)]) hx hb dX4_firstPlace_1 rfl hl (by decide) rfl (fun ls hl => ?_)
  exact hb_2 20000 x0 (0 : Int32) _ _ _ hsp hR (lv_sub hl [1, 0] rfl)

/-! TermRows$Reckoner.begin(LTermRows$Row;LTermRows$Row;)V -/
def z_X5_begin_b35 (S : fh_S) (a : Nat) (h : fh_H) (y2 : Option Nat) (t0 : Int32) (t1 : Nat) : Option fh_H :=
    fh_nn y2 (fh_ck (fh_kq S t1 5) (fh_ck (decide (t0 = 0 ∨ t0 = 1)) (fh_let (fh_sI h t1 7 t0) (fun h3 => fh_let (fh_sI h3 a 8 (1 : Int32)) (fun h4 => fh_let (fh_sI h4 a 9 (0 : Int32)) (fun h5 => some h5)))))) (fun jy2 => fh_ck (fh_kq S t1 5) (fh_ck (decide (t0 = 0 ∨ t0 = 1)) (fh_let (fh_sI h t1 7 t0) (fun h8 => fh_let (fh_sI h8 a 8 (0 : Int32)) (fun h9 => fh_let (fh_sI h9 a 9 (0 : Int32)) (fun h10 => some h10))))))
def z_X5_begin (S : fh_S) (h : fh_H) (a : Nat) (x1 : Option Nat) (x2 : Option Nat) : Option fh_H :=
    fh_nn x1 (fh_nn x2 (fh_let (fh_sR h a 2 none) (fun h1 => fh_let (fh_sR h1 a 3 none) (fun h2 => fh_let (fh_sI h2 a 4 (0 : Int32)) (fun h3 => fh_let (fh_sI h3 a 5 (0 : Int32)) (fun h4 => fh_let (fh_sI h4 a 6 (0 : Int32)) (fun h5 => z_X5_begin_b35 S a h5 none (1 : Int32) a)))))) (fun jx2 => fh_let (fh_sR h a 2 none) (fun h6 => fh_let (fh_sR h6 a 3 (some jx2)) (fun h7 => fh_let (fh_sI h7 a 4 (0 : Int32)) (fun h8 => fh_let (fh_sI h8 a 5 (0 : Int32)) (fun h9 => fh_let (fh_sI h9 a 6 (0 : Int32)) (fun h10 => z_X5_begin_b35 S a h10 (some jx2) (1 : Int32) a))))))) (fun jx1 => fh_nn x2 (fh_let (fh_sR h a 2 (some jx1)) (fun h11 => fh_let (fh_sR h11 a 3 none) (fun h12 => fh_let (fh_sI h12 a 4 (0 : Int32)) (fun h13 => fh_let (fh_sI h13 a 5 (0 : Int32)) (fun h14 => fh_let (fh_sI h14 a 6 (0 : Int32)) (fun h15 => z_X5_begin_b35 S a h15 none (0 : Int32) a)))))) (fun jx2 => fh_let (fh_sR h a 2 (some jx1)) (fun h16 => fh_let (fh_sR h16 a 3 (some jx2)) (fun h17 => fh_let (fh_sI h17 a 4 (0 : Int32)) (fun h18 => fh_let (fh_sI h18 a 5 (0 : Int32)) (fun h19 => fh_let (fh_sI h19 a 6 (0 : Int32)) (fun h20 => z_X5_begin_b35 S a h20 (some jx2) (0 : Int32) a)))))))
set_option maxHeartbeats 4000000 in
set_option maxRecDepth 100000 in
theorem k_X5_begin {l : Launch} {S : fh_S} {g : fh_G} {h h' : fh_H} (hj : fh_inj S g) {a : Nat} {x1 : Option Nat} {x2 : Option Nat} (ha : fh_kq S a 5 = true) (hsp : z_X5_begin S h a x1 x2 = some h') : fh_M l yX5_begin cX5_begin 3 none (fh_rm 1) S g [.ref (g.2.2 a), va_rf (Option.map g.2.2 x1), va_rf (Option.map g.2.2 x2)] h none h' := by
  unfold z_X5_begin at hsp
  rcases x1 with _ | jx1
  · have hsp := fr_nnN hsp
    rcases x2 with _ | jx2
    · have hsp := fr_nnN hsp
      refine fr_head (own := RX5) (by decide) rfl hj (Nat.le_of_ble_eq_true rfl) ?_
      intro p e s m below meth c ls C hr hlocks hR hl
      have hl : lv_has ls 3 [(0, .ref (g.2.2 a)), (1, .null), (2, .null)] := hl
      have hx := C.1.1
      have hb := C.1.2.1
      have hb_35 : ∀ (h : fh_H) (y2 : Option Nat) (t0 : Int32) (t1 : Nat) (H : Heap) (locs : List Loc) (ls : Array Slot), z_X5_begin_b35 S a h y2 t0 t1 = some h' → fh_R S g s.heap h H locs → lv_has ls 3 [(0, .ref (g.2.2 a)), (2, va_rf (Option.map g.2.2 y2))] → fh_Wk p l e 1 s m [.ref (g.2.2 a), va_rf (Option.map g.2.2 none), va_rf (Option.map g.2.2 none)] below meth c S g none h' H locs (F0 m 35 ls [.int t0, .ref (g.2.2 t1)]) := by
        intro h y2 t0 t1 H locs ls hsp hR hl
        unfold z_X5_begin_b35 at hsp
        rcases y2 with _ | jy2
        · have hsp := fr_nnN hsp
          have hl : lv_has ls 3 [(0, .ref (g.2.2 a)), (2, .null)] := hl
          refine W.eq (g2 := F0 m 35 ls [.int t0, .ref (g.2.2 t1)]) rfl ?_
          obtain ⟨hk1, hsp⟩ := fr_ck hsp
          obtain ⟨hz2, hsp⟩ := fr_ck hsp
          refine fr_putz C hR hk1 Fp_RX5_48 rfl (of_decide_eq_true hz2) dX5_begin_35 (fun H locs hR => ?_)
          obtain ⟨h3, eh3⟩ : ∃ z, z = fh_sI h t1 7 t0 := ⟨_, rfl⟩
          rw [← eh3] at hR
          have hsp := fr_let eh3 hsp
          refine lv_aload_n hx hb dX5_begin_38 rfl (lv_at hl 0 rfl) ?_
          refine lv_aload_nN hx hb dX5_begin_39 rfl (lv_at hl 1 rfl) ?_
          refine lv_ifnonnullN hx hb dX5_begin_40 ?_
          refine lv_iconst (v := 1) hx hb dX5_begin_43 (by decide) ?_
          refine lv_goto (tgt := 48) hx hb dX5_begin_44 (by decide) ?_
          refine fr_putz C hR ha Fp_RX5_52 rfl (Or.inr rfl) dX5_begin_48 (fun H locs hR => ?_)
          obtain ⟨h4, eh4⟩ : ∃ z, z = fh_sI h3 a 8 (1 : Int32) := ⟨_, rfl⟩
          rw [← eh4] at hR
          have hsp := fr_let eh4 hsp
          refine lv_aload_n hx hb dX5_begin_51 rfl (lv_at hl 0 rfl) ?_
          refine lv_iconst (v := 0) hx hb dX5_begin_52 (by decide) ?_
          refine fr_putz C hR ha Fp_RX5_55 rfl (Or.inl rfl) dX5_begin_53 (fun H locs hR => ?_)
          obtain ⟨h5, eh5⟩ : ∃ z, z = fh_sI h4 a 9 (0 : Int32) := ⟨_, rfl⟩
          rw [← eh5] at hR
          have hsp := fr_let eh5 hsp
          exact fr_vret C hr hlocks hR (fr_s1 hsp) dX5_begin_56
        · have hsp := fr_nnS hsp
          have hl : lv_has ls 3 [(0, .ref (g.2.2 a)), (2, .ref (g.2.2 jy2))] := hl
          refine W.eq (g2 := F0 m 35 ls [.int t0, .ref (g.2.2 t1)]) rfl ?_
          obtain ⟨hk6, hsp⟩ := fr_ck hsp
          obtain ⟨hz7, hsp⟩ := fr_ck hsp
          refine fr_putz C hR hk6 Fp_RX5_48 rfl (of_decide_eq_true hz7) dX5_begin_35 (fun H locs hR => ?_)
          obtain ⟨h8, eh8⟩ : ∃ z, z = fh_sI h t1 7 t0 := ⟨_, rfl⟩
          rw [← eh8] at hR
          have hsp := fr_let eh8 hsp
          refine lv_aload_n hx hb dX5_begin_38 rfl (lv_at hl 0 rfl) ?_
          refine lv_aload_n hx hb dX5_begin_39 rfl (lv_at hl 1 rfl) ?_
          refine lv_ifnonnull (tgt := 47) hx hb dX5_begin_40 (by decide) ?_
          refine lv_iconst (v := 0) hx hb dX5_begin_47 (by decide) ?_
          refine fr_putz C hR ha Fp_RX5_52 rfl (Or.inl rfl) dX5_begin_48 (fun H locs hR => ?_)
          obtain ⟨h9, eh9⟩ : ∃ z, z = fh_sI h8 a 8 (0 : Int32) := ⟨_, rfl⟩
          rw [← eh9] at hR
          have hsp := fr_let eh9 hsp
          refine lv_aload_n hx hb dX5_begin_51 rfl (lv_at hl 0 rfl) ?_
          refine lv_iconst (v := 0) hx hb dX5_begin_52 (by decide) ?_
          refine fr_putz C hR ha Fp_RX5_55 rfl (Or.inl rfl) dX5_begin_53 (fun H locs hR => ?_)
          obtain ⟨h10, eh10⟩ : ∃ z, z = fh_sI h9 a 9 (0 : Int32) := ⟨_, rfl⟩
          rw [← eh10] at hR
          have hsp := fr_let eh10 hsp
          exact fr_vret C hr hlocks hR (fr_s1 hsp) dX5_begin_56
      refine lv_aload_n hx hb dX5_begin_0 rfl (lv_at hl 0 rfl) ?_
      refine lv_aload_nN hx hb dX5_begin_1 rfl (lv_at hl 1 rfl) ?_
      refine fr_putn C hR ha Fp_RX5_31 rfl rfl rfl dX5_begin_2 (fun H locs hR => ?_)
      obtain ⟨h1, eh1⟩ : ∃ z, z = fh_sR h a 2 none := ⟨_, rfl⟩
      rw [← eh1] at hR
      have hsp := fr_let eh1 hsp
      refine lv_aload_n hx hb dX5_begin_5 rfl (lv_at hl 0 rfl) ?_
      refine lv_aload_nN hx hb dX5_begin_6 rfl (lv_at hl 2 rfl) ?_
      refine fr_putn C hR ha Fp_RX5_35 rfl rfl rfl dX5_begin_7 (fun H locs hR => ?_)
      obtain ⟨h2, eh2⟩ : ∃ z, z = fh_sR h1 a 3 none := ⟨_, rfl⟩
      rw [← eh2] at hR
      have hsp := fr_let eh2 hsp
      refine lv_aload_n hx hb dX5_begin_10 rfl (lv_at hl 0 rfl) ?_
      refine lv_iconst (v := 0) hx hb dX5_begin_11 (by decide) ?_
      refine fr_puti C hR ha Fp_RX5_38 rfl dX5_begin_12 (fun H locs hR => ?_)
      obtain ⟨h3, eh3⟩ : ∃ z, z = fh_sI h2 a 4 (0 : Int32) := ⟨_, rfl⟩
      rw [← eh3] at hR
      have hsp := fr_let eh3 hsp
      refine lv_aload_n hx hb dX5_begin_15 rfl (lv_at hl 0 rfl) ?_
      refine lv_iconst (v := 0) hx hb dX5_begin_16 (by decide) ?_
      refine fr_puti C hR ha Fp_RX5_42 rfl dX5_begin_17 (fun H locs hR => ?_)
      obtain ⟨h4, eh4⟩ : ∃ z, z = fh_sI h3 a 5 (0 : Int32) := ⟨_, rfl⟩
      rw [← eh4] at hR
      have hsp := fr_let eh4 hsp
      refine lv_aload_n hx hb dX5_begin_20 rfl (lv_at hl 0 rfl) ?_
      refine lv_iconst (v := 0) hx hb dX5_begin_21 (by decide) ?_
      refine fr_puti C hR ha Fp_RX5_45 rfl dX5_begin_22 (fun H locs hR => ?_)
      obtain ⟨h5, eh5⟩ : ∃ z, z = fh_sI h4 a 6 (0 : Int32) := ⟨_, rfl⟩
      rw [← eh5] at hR
      have hsp := fr_let eh5 hsp
      refine lv_aload_n hx hb dX5_begin_25 rfl (lv_at hl 0 rfl) ?_
      refine lv_aload_nN hx hb dX5_begin_26 rfl (lv_at hl 1 rfl) ?_
      refine lv_ifnonnullN hx hb dX5_begin_27 ?_
      refine lv_iconst (v := 1) hx hb dX5_begin_30 (by decide) ?_
      refine lv_goto (tgt := 35) hx hb dX5_begin_31 (by decide) ?_
      exact hb_35 h5 none (1 : Int32) a _ _ _ hsp hR (lv_sub hl [0, 2] rfl)
    · have hsp := fr_nnS hsp
      refine fr_head (own := RX5) (by decide) rfl hj (Nat.le_of_ble_eq_true rfl) ?_
      intro p e s m below meth c ls C hr hlocks hR hl
      have hl : lv_has ls 3 [(0, .ref (g.2.2 a)), (1, .null), (2, .ref (g.2.2 jx2))] := hl
      have hx := C.1.1
      have hb := C.1.2.1
      have hb_35 : ∀ (h : fh_H) (y2 : Option Nat) (t0 : Int32) (t1 : Nat) (H : Heap) (locs : List Loc) (ls : Array Slot), z_X5_begin_b35 S a h y2 t0 t1 = some h' → fh_R S g s.heap h H locs → lv_has ls 3 [(0, .ref (g.2.2 a)), (2, va_rf (Option.map g.2.2 y2))] → fh_Wk p l e 1 s m [.ref (g.2.2 a), va_rf (Option.map g.2.2 none), va_rf (Option.map g.2.2 (some jx2))] below meth c S g none h' H locs (F0 m 35 ls [.int t0, .ref (g.2.2 t1)]) := by
        intro h y2 t0 t1 H locs ls hsp hR hl
        unfold z_X5_begin_b35 at hsp
        rcases y2 with _ | jy2
        · have hsp := fr_nnN hsp
          have hl : lv_has ls 3 [(0, .ref (g.2.2 a)), (2, .null)] := hl
          refine W.eq (g2 := F0 m 35 ls [.int t0, .ref (g.2.2 t1)]) rfl ?_
          obtain ⟨hk1, hsp⟩ := fr_ck hsp
          obtain ⟨hz2, hsp⟩ := fr_ck hsp
          refine fr_putz C hR hk1 Fp_RX5_48 rfl (of_decide_eq_true hz2) dX5_begin_35 (fun H locs hR => ?_)
          obtain ⟨h3, eh3⟩ : ∃ z, z = fh_sI h t1 7 t0 := ⟨_, rfl⟩
          rw [← eh3] at hR
          have hsp := fr_let eh3 hsp
          refine lv_aload_n hx hb dX5_begin_38 rfl (lv_at hl 0 rfl) ?_
          refine lv_aload_nN hx hb dX5_begin_39 rfl (lv_at hl 1 rfl) ?_
          refine lv_ifnonnullN hx hb dX5_begin_40 ?_
          refine lv_iconst (v := 1) hx hb dX5_begin_43 (by decide) ?_
          refine lv_goto (tgt := 48) hx hb dX5_begin_44 (by decide) ?_
          refine fr_putz C hR ha Fp_RX5_52 rfl (Or.inr rfl) dX5_begin_48 (fun H locs hR => ?_)
          obtain ⟨h4, eh4⟩ : ∃ z, z = fh_sI h3 a 8 (1 : Int32) := ⟨_, rfl⟩
          rw [← eh4] at hR
          have hsp := fr_let eh4 hsp
          refine lv_aload_n hx hb dX5_begin_51 rfl (lv_at hl 0 rfl) ?_
          refine lv_iconst (v := 0) hx hb dX5_begin_52 (by decide) ?_
          refine fr_putz C hR ha Fp_RX5_55 rfl (Or.inl rfl) dX5_begin_53 (fun H locs hR => ?_)
          obtain ⟨h5, eh5⟩ : ∃ z, z = fh_sI h4 a 9 (0 : Int32) := ⟨_, rfl⟩
          rw [← eh5] at hR
          have hsp := fr_let eh5 hsp
          exact fr_vret C hr hlocks hR (fr_s1 hsp) dX5_begin_56
        · have hsp := fr_nnS hsp
          have hl : lv_has ls 3 [(0, .ref (g.2.2 a)), (2, .ref (g.2.2 jy2))] := hl
          refine W.eq (g2 := F0 m 35 ls [.int t0, .ref (g.2.2 t1)]) rfl ?_
          obtain ⟨hk6, hsp⟩ := fr_ck hsp
          obtain ⟨hz7, hsp⟩ := fr_ck hsp
          refine fr_putz C hR hk6 Fp_RX5_48 rfl (of_decide_eq_true hz7) dX5_begin_35 (fun H locs hR => ?_)
          obtain ⟨h8, eh8⟩ : ∃ z, z = fh_sI h t1 7 t0 := ⟨_, rfl⟩
          rw [← eh8] at hR
          have hsp := fr_let eh8 hsp
          refine lv_aload_n hx hb dX5_begin_38 rfl (lv_at hl 0 rfl) ?_
          refine lv_aload_n hx hb dX5_begin_39 rfl (lv_at hl 1 rfl) ?_
          refine lv_ifnonnull (tgt := 47) hx hb dX5_begin_40 (by decide) ?_
          refine lv_iconst (v := 0) hx hb dX5_begin_47 (by decide) ?_
          refine fr_putz C hR ha Fp_RX5_52 rfl (Or.inl rfl) dX5_begin_48 (fun H locs hR => ?_)
          obtain ⟨h9, eh9⟩ : ∃ z, z = fh_sI h8 a 8 (0 : Int32) := ⟨_, rfl⟩
          rw [← eh9] at hR
          have hsp := fr_let eh9 hsp
          refine lv_aload_n hx hb dX5_begin_51 rfl (lv_at hl 0 rfl) ?_
          refine lv_iconst (v := 0) hx hb dX5_begin_52 (by decide) ?_
          refine fr_putz C hR ha Fp_RX5_55 rfl (Or.inl rfl) dX5_begin_53 (fun H locs hR => ?_)
          obtain ⟨h10, eh10⟩ : ∃ z, z = fh_sI h9 a 9 (0 : Int32) := ⟨_, rfl⟩
          rw [← eh10] at hR
          have hsp := fr_let eh10 hsp
          exact fr_vret C hr hlocks hR (fr_s1 hsp) dX5_begin_56
      refine lv_aload_n hx hb dX5_begin_0 rfl (lv_at hl 0 rfl) ?_
      refine lv_aload_nN hx hb dX5_begin_1 rfl (lv_at hl 1 rfl) ?_
      refine fr_putn C hR ha Fp_RX5_31 rfl rfl rfl dX5_begin_2 (fun H locs hR => ?_)
      obtain ⟨h6, eh6⟩ : ∃ z, z = fh_sR h a 2 none := ⟨_, rfl⟩
      rw [← eh6] at hR
      have hsp := fr_let eh6 hsp
      refine lv_aload_n hx hb dX5_begin_5 rfl (lv_at hl 0 rfl) ?_
      refine lv_aload_n hx hb dX5_begin_6 rfl (lv_at hl 2 rfl) ?_
      refine fr_putr C hR ha Fp_RX5_35 rfl rfl rfl dX5_begin_7 (fun H locs hR => ?_)
      obtain ⟨h7, eh7⟩ : ∃ z, z = fh_sR h6 a 3 (some jx2) := ⟨_, rfl⟩
      rw [← eh7] at hR
      have hsp := fr_let eh7 hsp
      refine lv_aload_n hx hb dX5_begin_10 rfl (lv_at hl 0 rfl) ?_
      refine lv_iconst (v := 0) hx hb dX5_begin_11 (by decide) ?_
      refine fr_puti C hR ha Fp_RX5_38 rfl dX5_begin_12 (fun H locs hR => ?_)
      obtain ⟨h8, eh8⟩ : ∃ z, z = fh_sI h7 a 4 (0 : Int32) := ⟨_, rfl⟩
      rw [← eh8] at hR
      have hsp := fr_let eh8 hsp
      refine lv_aload_n hx hb dX5_begin_15 rfl (lv_at hl 0 rfl) ?_
      refine lv_iconst (v := 0) hx hb dX5_begin_16 (by decide) ?_
      refine fr_puti C hR ha Fp_RX5_42 rfl dX5_begin_17 (fun H locs hR => ?_)
      obtain ⟨h9, eh9⟩ : ∃ z, z = fh_sI h8 a 5 (0 : Int32) := ⟨_, rfl⟩
      rw [← eh9] at hR
      have hsp := fr_let eh9 hsp
      refine lv_aload_n hx hb dX5_begin_20 rfl (lv_at hl 0 rfl) ?_
      refine lv_iconst (v := 0) hx hb dX5_begin_21 (by decide) ?_
      refine fr_puti C hR ha Fp_RX5_45 rfl dX5_begin_22 (fun H locs hR => ?_)
      obtain ⟨h10, eh10⟩ : ∃ z, z = fh_sI h9 a 6 (0 : Int32) := ⟨_, rfl⟩
      rw [← eh10] at hR
      have hsp := fr_let eh10 hsp
      refine lv_aload_n hx hb dX5_begin_25 rfl (lv_at hl 0 rfl) ?_
      refine lv_aload_nN hx hb dX5_begin_26 rfl (lv_at hl 1 rfl) ?_
      refine lv_ifnonnullN hx hb dX5_begin_27 ?_
      refine lv_iconst (v := 1) hx hb dX5_begin_30 (by decide) ?_
      refine lv_goto (tgt := 35) hx hb dX5_begin_31 (by decide) ?_
      exact hb_35 h10 (some jx2) (1 : Int32) a _ _ _ hsp hR (lv_sub hl [0, 2] rfl)
  · have hsp := fr_nnS hsp
    rcases x2 with _ | jx2
    · have hsp := fr_nnN hsp
      refine fr_head (own := RX5) (by decide) rfl hj (Nat.le_of_ble_eq_true rfl) ?_
      intro p e s m below meth c ls C hr hlocks hR hl
      have hl : lv_has ls 3 [(0, .ref (g.2.2 a)), (1, .ref (g.2.2 jx1)), (2, .null)] := hl
      have hx := C.1.1
      have hb := C.1.2.1
      have hb_35 : ∀ (h : fh_H) (y2 : Option Nat) (t0 : Int32) (t1 : Nat) (H : Heap) (locs : List Loc) (ls : Array Slot), z_X5_begin_b35 S a h y2 t0 t1 = some h' → fh_R S g s.heap h H locs → lv_has ls 3 [(0, .ref (g.2.2 a)), (2, va_rf (Option.map g.2.2 y2))] → fh_Wk p l e 1 s m [.ref (g.2.2 a), va_rf (Option.map g.2.2 (some jx1)), va_rf (Option.map g.2.2 none)] below meth c S g none h' H locs (F0 m 35 ls [.int t0, .ref (g.2.2 t1)]) := by
        intro h y2 t0 t1 H locs ls hsp hR hl
        unfold z_X5_begin_b35 at hsp
        rcases y2 with _ | jy2
        · have hsp := fr_nnN hsp
          have hl : lv_has ls 3 [(0, .ref (g.2.2 a)), (2, .null)] := hl
          refine W.eq (g2 := F0 m 35 ls [.int t0, .ref (g.2.2 t1)]) rfl ?_
          obtain ⟨hk1, hsp⟩ := fr_ck hsp
          obtain ⟨hz2, hsp⟩ := fr_ck hsp
          refine fr_putz C hR hk1 Fp_RX5_48 rfl (of_decide_eq_true hz2) dX5_begin_35 (fun H locs hR => ?_)
          obtain ⟨h3, eh3⟩ : ∃ z, z = fh_sI h t1 7 t0 := ⟨_, rfl⟩
          rw [← eh3] at hR
          have hsp := fr_let eh3 hsp
          refine lv_aload_n hx hb dX5_begin_38 rfl (lv_at hl 0 rfl) ?_
          refine lv_aload_nN hx hb dX5_begin_39 rfl (lv_at hl 1 rfl) ?_
          refine lv_ifnonnullN hx hb dX5_begin_40 ?_
          refine lv_iconst (v := 1) hx hb dX5_begin_43 (by decide) ?_
          refine lv_goto (tgt := 48) hx hb dX5_begin_44 (by decide) ?_
          refine fr_putz C hR ha Fp_RX5_52 rfl (Or.inr rfl) dX5_begin_48 (fun H locs hR => ?_)
          obtain ⟨h4, eh4⟩ : ∃ z, z = fh_sI h3 a 8 (1 : Int32) := ⟨_, rfl⟩
          rw [← eh4] at hR
          have hsp := fr_let eh4 hsp
          refine lv_aload_n hx hb dX5_begin_51 rfl (lv_at hl 0 rfl) ?_
          refine lv_iconst (v := 0) hx hb dX5_begin_52 (by decide) ?_
          refine fr_putz C hR ha Fp_RX5_55 rfl (Or.inl rfl) dX5_begin_53 (fun H locs hR => ?_)
          obtain ⟨h5, eh5⟩ : ∃ z, z = fh_sI h4 a 9 (0 : Int32) := ⟨_, rfl⟩
          rw [← eh5] at hR
          have hsp := fr_let eh5 hsp
          exact fr_vret C hr hlocks hR (fr_s1 hsp) dX5_begin_56
        · have hsp := fr_nnS hsp
          have hl : lv_has ls 3 [(0, .ref (g.2.2 a)), (2, .ref (g.2.2 jy2))] := hl
          refine W.eq (g2 := F0 m 35 ls [.int t0, .ref (g.2.2 t1)]) rfl ?_
          obtain ⟨hk6, hsp⟩ := fr_ck hsp
          obtain ⟨hz7, hsp⟩ := fr_ck hsp
          refine fr_putz C hR hk6 Fp_RX5_48 rfl (of_decide_eq_true hz7) dX5_begin_35 (fun H locs hR => ?_)
          obtain ⟨h8, eh8⟩ : ∃ z, z = fh_sI h t1 7 t0 := ⟨_, rfl⟩
          rw [← eh8] at hR
          have hsp := fr_let eh8 hsp
          refine lv_aload_n hx hb dX5_begin_38 rfl (lv_at hl 0 rfl) ?_
          refine lv_aload_n hx hb dX5_begin_39 rfl (lv_at hl 1 rfl) ?_
          refine lv_ifnonnull (tgt := 47) hx hb dX5_begin_40 (by decide) ?_
          refine lv_iconst (v := 0) hx hb dX5_begin_47 (by decide) ?_
          refine fr_putz C hR ha Fp_RX5_52 rfl (Or.inl rfl) dX5_begin_48 (fun H locs hR => ?_)
          obtain ⟨h9, eh9⟩ : ∃ z, z = fh_sI h8 a 8 (0 : Int32) := ⟨_, rfl⟩
          rw [← eh9] at hR
          have hsp := fr_let eh9 hsp
          refine lv_aload_n hx hb dX5_begin_51 rfl (lv_at hl 0 rfl) ?_
          refine lv_iconst (v := 0) hx hb dX5_begin_52 (by decide) ?_
          refine fr_putz C hR ha Fp_RX5_55 rfl (Or.inl rfl) dX5_begin_53 (fun H locs hR => ?_)
          obtain ⟨h10, eh10⟩ : ∃ z, z = fh_sI h9 a 9 (0 : Int32) := ⟨_, rfl⟩
          rw [← eh10] at hR
          have hsp := fr_let eh10 hsp
          exact fr_vret C hr hlocks hR (fr_s1 hsp) dX5_begin_56
      refine lv_aload_n hx hb dX5_begin_0 rfl (lv_at hl 0 rfl) ?_
      refine lv_aload_n hx hb dX5_begin_1 rfl (lv_at hl 1 rfl) ?_
      refine fr_putr C hR ha Fp_RX5_31 rfl rfl rfl dX5_begin_2 (fun H locs hR => ?_)
      obtain ⟨h11, eh11⟩ : ∃ z, z = fh_sR h a 2 (some jx1) := ⟨_, rfl⟩
      rw [← eh11] at hR
      have hsp := fr_let eh11 hsp
      refine lv_aload_n hx hb dX5_begin_5 rfl (lv_at hl 0 rfl) ?_
      refine lv_aload_nN hx hb dX5_begin_6 rfl (lv_at hl 2 rfl) ?_
      refine fr_putn C hR ha Fp_RX5_35 rfl rfl rfl dX5_begin_7 (fun H locs hR => ?_)
      obtain ⟨h12, eh12⟩ : ∃ z, z = fh_sR h11 a 3 none := ⟨_, rfl⟩
      rw [← eh12] at hR
      have hsp := fr_let eh12 hsp
      refine lv_aload_n hx hb dX5_begin_10 rfl (lv_at hl 0 rfl) ?_
      refine lv_iconst (v := 0) hx hb dX5_begin_11 (by decide) ?_
      refine fr_puti C hR ha Fp_RX5_38 rfl dX5_begin_12 (fun H locs hR => ?_)
      obtain ⟨h13, eh13⟩ : ∃ z, z = fh_sI h12 a 4 (0 : Int32) := ⟨_, rfl⟩
      rw [← eh13] at hR
      have hsp := fr_let eh13 hsp
      refine lv_aload_n hx hb dX5_begin_15 rfl (lv_at hl 0 rfl) ?_
      refine lv_iconst (v := 0) hx hb dX5_begin_16 (by decide) ?_
      refine fr_puti C hR ha Fp_RX5_42 rfl dX5_begin_17 (fun H locs hR => ?_)
      obtain ⟨h14, eh14⟩ : ∃ z, z = fh_sI h13 a 5 (0 : Int32) := ⟨_, rfl⟩
      rw [← eh14] at hR
      have hsp := fr_let eh14 hsp
      refine lv_aload_n hx hb dX5_begin_20 rfl (lv_at hl 0 rfl) ?_
      refine lv_iconst (v := 0) hx hb dX5_begin_21 (by decide) ?_
      refine fr_puti C hR ha Fp_RX5_45 rfl dX5_begin_22 (fun H locs hR => ?_)
      obtain ⟨h15, eh15⟩ : ∃ z, z = fh_sI h14 a 6 (0 : Int32) := ⟨_, rfl⟩
      rw [← eh15] at hR
      have hsp := fr_let eh15 hsp
      refine lv_aload_n hx hb dX5_begin_25 rfl (lv_at hl 0 rfl) ?_
      refine lv_aload_n hx hb dX5_begin_26 rfl (lv_at hl 1 rfl) ?_
      refine lv_ifnonnull (tgt := 34) hx hb dX5_begin_27 (by decide) ?_
      refine lv_iconst (v := 0) hx hb dX5_begin_34 (by decide) ?_
      exact hb_35 h15 none (0 : Int32) a _ _ _ hsp hR (lv_sub hl [0, 2] rfl)
    · have hsp := fr_nnS hsp
      refine fr_head (own := RX5) (by decide) rfl hj (Nat.le_of_ble_eq_true rfl) ?_
      intro p e s m below meth c ls C hr hlocks hR hl
      have hl : lv_has ls 3 [(0, .ref (g.2.2 a)), (1, .ref (g.2.2 jx1)), (2, .ref (g.2.2 jx2))] := hl
      have hx := C.1.1
      have hb := C.1.2.1
      have hb_35 : ∀ (h : fh_H) (y2 : Option Nat) (t0 : Int32) (t1 : Nat) (H : Heap) (locs : List Loc) (ls : Array Slot), z_X5_begin_b35 S a h y2 t0 t1 = some h' → fh_R S g s.heap h H locs → lv_has ls 3 [(0, .ref (g.2.2 a)), (2, va_rf (Option.map g.2.2 y2))] → fh_Wk p l e 1 s m [.ref (g.2.2 a), va_rf (Option.map g.2.2 (some jx1)), va_rf (Option.map g.2.2 (some jx2))] below meth c S g none h' H locs (F0 m 35 ls [.int t0, .ref (g.2.2 t1)]) := by
        intro h y2 t0 t1 H locs ls hsp hR hl
        unfold z_X5_begin_b35 at hsp
        rcases y2 with _ | jy2
        · have hsp := fr_nnN hsp
          have hl : lv_has ls 3 [(0, .ref (g.2.2 a)), (2, .null)] := hl
          refine W.eq (g2 := F0 m 35 ls [.int t0, .ref (g.2.2 t1)]) rfl ?_
          obtain ⟨hk1, hsp⟩ := fr_ck hsp
          obtain ⟨hz2, hsp⟩ := fr_ck hsp
          refine fr_putz C hR hk1 Fp_RX5_48 rfl (of_decide_eq_true hz2) dX5_begin_35 (fun H locs hR => ?_)
          obtain ⟨h3, eh3⟩ : ∃ z, z = fh_sI h t1 7 t0 := ⟨_, rfl⟩
          rw [← eh3] at hR
          have hsp := fr_let eh3 hsp
          refine lv_aload_n hx hb dX5_begin_38 rfl (lv_at hl 0 rfl) ?_
          refine lv_aload_nN hx hb dX5_begin_39 rfl (lv_at hl 1 rfl) ?_
          refine lv_ifnonnullN hx hb dX5_begin_40 ?_
          refine lv_iconst (v := 1) hx hb dX5_begin_43 (by decide) ?_
          refine lv_goto (tgt := 48) hx hb dX5_begin_44 (by decide) ?_
          refine fr_putz C hR ha Fp_RX5_52 rfl (Or.inr rfl) dX5_begin_48 (fun H locs hR => ?_)
          obtain ⟨h4, eh4⟩ : ∃ z, z = fh_sI h3 a 8 (1 : Int32) := ⟨_, rfl⟩
          rw [← eh4] at hR
          have hsp := fr_let eh4 hsp
          refine lv_aload_n hx hb dX5_begin_51 rfl (lv_at hl 0 rfl) ?_
          refine lv_iconst (v := 0) hx hb dX5_begin_52 (by decide) ?_
          refine fr_putz C hR ha Fp_RX5_55 rfl (Or.inl rfl) dX5_begin_53 (fun H locs hR => ?_)
          obtain ⟨h5, eh5⟩ : ∃ z, z = fh_sI h4 a 9 (0 : Int32) := ⟨_, rfl⟩
          rw [← eh5] at hR
          have hsp := fr_let eh5 hsp
          exact fr_vret C hr hlocks hR (fr_s1 hsp) dX5_begin_56
        · have hsp := fr_nnS hsp
          have hl : lv_has ls 3 [(0, .ref (g.2.2 a)), (2, .ref (g.2.2 jy2))] := hl
          refine W.eq (g2 := F0 m 35 ls [.int t0, .ref (g.2.2 t1)]) rfl ?_
          obtain ⟨hk6, hsp⟩ := fr_ck hsp
          obtain ⟨hz7, hsp⟩ := fr_ck hsp
          refine fr_putz C hR hk6 Fp_RX5_48 rfl (of_decide_eq_true hz7) dX5_begin_35 (fun H locs hR => ?_)
          obtain ⟨h8, eh8⟩ : ∃ z, z = fh_sI h t1 7 t0 := ⟨_, rfl⟩
          rw [← eh8] at hR
          have hsp := fr_let eh8 hsp
          refine lv_aload_n hx hb dX5_begin_38 rfl (lv_at hl 0 rfl) ?_
          refine lv_aload_n hx hb dX5_begin_39 rfl (lv_at hl 1 rfl) ?_
          refine lv_ifnonnull (tgt := 47) hx hb dX5_begin_40 (by decide) ?_
          refine lv_iconst (v := 0) hx hb dX5_begin_47 (by decide) ?_
          refine fr_putz C hR ha Fp_RX5_52 rfl (Or.inl rfl) dX5_begin_48 (fun H locs hR => ?_)
          obtain ⟨h9, eh9⟩ : ∃ z, z = fh_sI h8 a 8 (0 : Int32) := ⟨_, rfl⟩
          rw [← eh9] at hR
          have hsp := fr_let eh9 hsp
          refine lv_aload_n hx hb dX5_begin_51 rfl (lv_at hl 0 rfl) ?_
          refine lv_iconst (v := 0) hx hb dX5_begin_52 (by decide) ?_
          refine fr_putz C hR ha Fp_RX5_55 rfl (Or.inl rfl) dX5_begin_53 (fun H locs hR => ?_)
          obtain ⟨h10, eh10⟩ : ∃ z, z = fh_sI h9 a 9 (0 : Int32) := ⟨_, rfl⟩
          rw [← eh10] at hR
          have hsp := fr_let eh10 hsp
          exact fr_vret C hr hlocks hR (fr_s1 hsp) dX5_begin_56
      refine lv_aload_n hx hb dX5_begin_0 rfl (lv_at hl 0 rfl) ?_
      refine lv_aload_n hx hb dX5_begin_1 rfl (lv_at hl 1 rfl) ?_
      refine fr_putr C hR ha Fp_RX5_31 rfl rfl rfl dX5_begin_2 (fun H locs hR => ?_)
      obtain ⟨h16, eh16⟩ : ∃ z, z = fh_sR h a 2 (some jx1) := ⟨_, rfl⟩
      rw [← eh16] at hR
      have hsp := fr_let eh16 hsp
      refine lv_aload_n hx hb dX5_begin_5 rfl (lv_at hl 0 rfl) ?_
      refine lv_aload_n hx hb dX5_begin_6 rfl (lv_at hl 2 rfl) ?_
      refine fr_putr C hR ha Fp_RX5_35 rfl rfl rfl dX5_begin_7 (fun H locs hR => ?_)
      obtain ⟨h17, eh17⟩ : ∃ z, z = fh_sR h16 a 3 (some jx2) := ⟨_, rfl⟩
      rw [← eh17] at hR
      have hsp := fr_let eh17 hsp
      refine lv_aload_n hx hb dX5_begin_10 rfl (lv_at hl 0 rfl) ?_
      refine lv_iconst (v := 0) hx hb dX5_begin_11 (by decide) ?_
      refine fr_puti C hR ha Fp_RX5_38 rfl dX5_begin_12 (fun H locs hR => ?_)
      obtain ⟨h18, eh18⟩ : ∃ z, z = fh_sI h17 a 4 (0 : Int32) := ⟨_, rfl⟩
      rw [← eh18] at hR
      have hsp := fr_let eh18 hsp
      refine lv_aload_n hx hb dX5_begin_15 rfl (lv_at hl 0 rfl) ?_
      refine lv_iconst (v := 0) hx hb dX5_begin_16 (by decide) ?_
      refine fr_puti C hR ha Fp_RX5_42 rfl dX5_begin_17 (fun H locs hR => ?_)
      obtain ⟨h19, eh19⟩ : ∃ z, z = fh_sI h18 a 5 (0 : Int32) := ⟨_, rfl⟩
      rw [← eh19] at hR
      have hsp := fr_let eh19 hsp
      refine lv_aload_n hx hb dX5_begin_20 rfl (lv_at hl 0 rfl) ?_
      refine lv_iconst (v := 0) hx hb dX5_begin_21 (by decide) ?_
      refine fr_puti C hR ha Fp_RX5_45 rfl dX5_begin_22 (fun H locs hR => ?_)
      obtain ⟨h20, eh20⟩ : ∃ z, z = fh_sI h19 a 6 (0 : Int32) := ⟨_, rfl⟩
      rw [← eh20] at hR
      have hsp := fr_let eh20 hsp
      refine lv_aload_n hx hb dX5_begin_25 rfl (lv_at hl 0 rfl) ?_
      refine lv_aload_n hx hb dX5_begin_26 rfl (lv_at hl 1 rfl) ?_
      refine lv_ifnonnull (tgt := 34) hx hb dX5_begin_27 (by decide) ?_
      refine lv_iconst (v := 0) hx hb dX5_begin_34 (by decide) ?_
      exact hb_35 h20 (some jx2) (0 : Int32) a _ _ _ hsp hR (lv_sub hl [0, 2] rfl)

/-! TermRows$Row.clear()V -/
def z_X6_clear (S : fh_S) (h : fh_H) (a : Nat) : Option fh_H :=
    fh_let (fh_sI h a 6 (0 : Int32)) (fun h1 => fh_let (fh_sI h1 a 7 (0 : Int32)) (fun h2 => fh_let (fh_sI h2 a 8 (0 : Int32)) (fun h3 => some h3)))
set_option maxHeartbeats 4000000 in
set_option maxRecDepth 100000 in
theorem k_X6_clear {l : Launch} {S : fh_S} {g : fh_G} {h h' : fh_H} (hj : fh_inj S g) {a : Nat} (ha : fh_kq S a 6 = true) (hsp : z_X6_clear S h a = some h') : fh_M l yX6_clear cX6_clear 1 none (fh_rm 1) S g [.ref (g.2.2 a)] h none h' := by
  unfold z_X6_clear at hsp
  refine fr_head (own := RX6) (by decide) rfl hj (Nat.le_of_ble_eq_true rfl) ?_
  intro p e s m below meth c ls C hr hlocks hR hl
  have hl : lv_has ls 1 [(0, .ref (g.2.2 a))] := hl
  have hx := C.1.1
  have hb := C.1.2.1
  refine lv_aload_n hx hb dX6_clear_0 rfl (lv_at hl 0 rfl) ?_
  refine lv_iconst (v := 0) hx hb dX6_clear_1 (by decide) ?_
  refine fr_puti C hR ha Fp_RX6_36 rfl dX6_clear_2 (fun H locs hR => ?_)
  obtain ⟨h1, eh1⟩ : ∃ z, z = fh_sI h a 6 (0 : Int32) := ⟨_, rfl⟩
  rw [← eh1] at hR
  have hsp := fr_let eh1 hsp
  refine lv_aload_n hx hb dX6_clear_5 rfl (lv_at hl 0 rfl) ?_
  refine lv_iconst (v := 0) hx hb dX6_clear_6 (by decide) ?_
  refine fr_puti C hR ha Fp_RX6_39 rfl dX6_clear_7 (fun H locs hR => ?_)
  obtain ⟨h2, eh2⟩ : ∃ z, z = fh_sI h1 a 7 (0 : Int32) := ⟨_, rfl⟩
  rw [← eh2] at hR
  have hsp := fr_let eh2 hsp
  refine lv_aload_n hx hb dX6_clear_10 rfl (lv_at hl 0 rfl) ?_
  refine lv_iconst (v := 0) hx hb dX6_clear_11 (by decide) ?_
  refine fr_puti C hR ha Fp_RX6_42 rfl dX6_clear_12 (fun H locs hR => ?_)
  obtain ⟨h3, eh3⟩ : ∃ z, z = fh_sI h2 a 8 (0 : Int32) := ⟨_, rfl⟩
  rw [← eh3] at hR
  have hsp := fr_let eh3 hsp
  exact fr_vret C hr hlocks hR (fr_s1 hsp) dX6_clear_15

/-! TermRows$Row.add(III)V -/
def z_X6_add (S : fh_S) (h : fh_H) (a : Nat) (x1 : Int32) (x2 : Int32) (x3 : Int32) : Option fh_H :=
    if (h.1 a 6) < 0 then (some h) else (if (60 : Int32) ≤ (h.1 a 6) then (some h) else (fh_b1 (h.2.2 a 1) (fun j3 => fh_ck (fh_kq S j3 13) (fh_ck (fh_in (h.1 a 6) (S.2.2 j3)) (fh_let (fh_sI h j3 (Int32.toNatClampNeg (h.1 a 6)) x1) (fun h7 => fh_b1 (h7.2.2 a 2) (fun j8 => fh_ck (fh_kq S j8 13) (fh_ck (fh_in (h7.1 a 6) (S.2.2 j8)) (fh_let (fh_sI h7 j8 (Int32.toNatClampNeg (h7.1 a 6)) x2) (fun h12 => fh_b1 (h12.2.2 a 3) (fun j13 => fh_ck (fh_kq S j13 13) (fh_ck (fh_in (h12.1 a 6) (S.2.2 j13)) (fh_let (fh_sI h12 j13 (Int32.toNatClampNeg (h12.1 a 6)) x3) (fun h17 => fh_let (fh_sI h17 a 6 ((h17.1 a 6) + (1 : Int32))) (fun h18 => some h18)))))))))))))))
set_option maxHeartbeats 4000000 in
set_option maxRecDepth 100000 in
theorem k_X6_add {l : Launch} {S : fh_S} {g : fh_G} {h h' : fh_H} (hj : fh_inj S g) {a : Nat} {x1 : Int32} {x2 : Int32} {x3 : Int32} (ha : fh_kq S a 6 = true) (hsp : z_X6_add S h a x1 x2 x3 = some h') : fh_M l yX6_add cX6_add 4 none (fh_rm 1) S g [.ref (g.2.2 a), .int x1, .int x2, .int x3] h none h' := by
  unfold z_X6_add at hsp
  refine fr_head (own := RX6) (by decide) rfl hj (Nat.le_of_ble_eq_true rfl) ?_
  intro p e s m below meth c ls C hr hlocks hR hl
  have hl : lv_has ls 4 [(0, .ref (g.2.2 a)), (1, .int x1), (2, .int x2), (3, .int x3)] := hl
  have hx := C.1.1
  have hb := C.1.2.1
  refine lv_aload_n hx hb dX6_add_0 rfl (lv_at hl 0 rfl) ?_
  refine fr_geti C hR ha Fg_RX6_36 rfl dX6_add_1 ?_
  refine lv_if_lt (tgt := 56) hx hb dX6_add_4 (by decide) (fun c1 => ?_) (fun c1 => ?_)
  · rw [if_pos c1] at hsp
    exact fr_vret C hr hlocks hR (fr_s1 hsp) dX6_add_56
  · rw [if_neg c1] at hsp
    refine lv_aload_n hx hb dX6_add_7 rfl (lv_at hl 0 rfl) ?_
    refine fr_geti C hR ha Fg_RX6_36 rfl dX6_add_8 ?_
    refine lv_bipush (v := 60) hx hb dX6_add_11 (by decide) ?_
    refine lv_icmp_ge (tgt := 56) hx hb dX6_add_13 (by decide) (fun c2 => ?_) (fun c2 => ?_)
    · rw [if_pos c2] at hsp
      exact fr_vret C hr hlocks hR (fr_s1 hsp) dX6_add_56
    · rw [if_neg c2] at hsp
      refine lv_aload_n hx hb dX6_add_16 rfl (lv_at hl 0 rfl) ?_
      obtain ⟨j3, hv4, hsp⟩ := fr_b1 hsp
      refine fr_getr C hR ha Fg_RX6_9 rfl hv4 dX6_add_17 ?_
      refine lv_aload_n hx hb dX6_add_20 rfl (lv_at hl 0 rfl) ?_
      refine fr_geti C hR ha Fg_RX6_36 rfl dX6_add_21 ?_
      refine lv_iload_n hx hb dX6_add_24 rfl (lv_at hl 1 rfl) ?_
      obtain ⟨hk5, hsp⟩ := fr_ck hsp
      obtain ⟨hi6, hsp⟩ := fr_ck hsp
      refine fr_iast C hR hk5 hi6 dX6_add_25 (fun H locs hR => ?_)
      obtain ⟨h7, eh7⟩ : ∃ z, z = fh_sI h j3 (Int32.toNatClampNeg (h.1 a 6)) x1 := ⟨_, rfl⟩
      rw [← eh7] at hR
      have hsp := fr_let eh7 hsp
      refine lv_aload_n hx hb dX6_add_26 rfl (lv_at hl 0 rfl) ?_
      obtain ⟨j8, hv9, hsp⟩ := fr_b1 hsp
      refine fr_getr C hR ha Fg_RX6_15 rfl hv9 dX6_add_27 ?_
      refine lv_aload_n hx hb dX6_add_30 rfl (lv_at hl 0 rfl) ?_
      refine fr_geti C hR ha Fg_RX6_36 rfl dX6_add_31 ?_
      refine lv_iload_n hx hb dX6_add_34 rfl (lv_at hl 2 rfl) ?_
      obtain ⟨hk10, hsp⟩ := fr_ck hsp
      obtain ⟨hi11, hsp⟩ := fr_ck hsp
      refine fr_iast C hR hk10 hi11 dX6_add_35 (fun H locs hR => ?_)
      obtain ⟨h12, eh12⟩ : ∃ z, z = fh_sI h7 j8 (Int32.toNatClampNeg (h7.1 a 6)) x2 := ⟨_, rfl⟩
      rw [← eh12] at hR
      have hsp := fr_let eh12 hsp
      refine lv_aload_n hx hb dX6_add_36 rfl (lv_at hl 0 rfl) ?_
      obtain ⟨j13, hv14, hsp⟩ := fr_b1 hsp
      refine fr_getr C hR ha Fg_RX6_18 rfl hv14 dX6_add_37 ?_
      refine lv_aload_n hx hb dX6_add_40 rfl (lv_at hl 0 rfl) ?_
      refine fr_geti C hR ha Fg_RX6_36 rfl dX6_add_41 ?_
      refine lv_iload_n hx hb dX6_add_44 rfl (lv_at hl 3 rfl) ?_
      obtain ⟨hk15, hsp⟩ := fr_ck hsp
      obtain ⟨hi16, hsp⟩ := fr_ck hsp
      refine fr_iast C hR hk15 hi16 dX6_add_45 (fun H locs hR => ?_)
      obtain ⟨h17, eh17⟩ : ∃ z, z = fh_sI h12 j13 (Int32.toNatClampNeg (h12.1 a 6)) x3 := ⟨_, rfl⟩
      rw [← eh17] at hR
      have hsp := fr_let eh17 hsp
      refine lv_aload_n hx hb dX6_add_46 rfl (lv_at hl 0 rfl) ?_
      refine lv_dup hx hb dX6_add_47 rfl ?_
      refine fr_geti C hR ha Fg_RX6_36 rfl dX6_add_48 ?_
      refine lv_iconst (v := 1) hx hb dX6_add_51 (by decide) ?_
      refine lv_iadd hx hb dX6_add_52 ?_
      refine fr_puti C hR ha Fp_RX6_36 rfl dX6_add_53 (fun H locs hR => ?_)
      obtain ⟨h18, eh18⟩ : ∃ z, z = fh_sI h17 a 6 ((h17.1 a 6) + (1 : Int32)) := ⟨_, rfl⟩
      rw [← eh18] at hR
      have hsp := fr_let eh18 hsp
      exact fr_vret C hr hlocks hR (fr_s1 hsp) dX6_add_56

/-! TermRows$Row.knows(I)Z -/
def z_X6_knows (S : fh_S) (h : fh_H) (a : Nat) (x1 : Int32) : Option Int32 :=
    if x1 < 0 then (some (0 : Int32)) else (if (h.1 a 6) ≤ x1 then (some (0 : Int32)) else (some (1 : Int32)))
set_option maxHeartbeats 4000000 in
set_option maxRecDepth 100000 in
theorem k_X6_knows {l : Launch} {S : fh_S} {g : fh_G} {h : fh_H} (hj : fh_inj S g) {a : Nat} {x1 : Int32} {r : Int32} (ha : fh_kq S a 6 = true) (hsp : z_X6_knows S h a x1 = some r) : fh_M l yX6_knows cX6_knows 2 (some .boolean) (fh_rm 1) S g [.ref (g.2.2 a), .int x1] h (some (.int r)) h := by
  unfold z_X6_knows at hsp
  refine fr_head (own := RX6) (by decide) rfl hj (Nat.le_of_ble_eq_true rfl) ?_
  intro p e s m below meth c ls C hr hlocks hR hl
  have hl : lv_has ls 2 [(0, .ref (g.2.2 a)), (1, .int x1)] := hl
  have hx := C.1.1
  have hb := C.1.2.1
  refine lv_iload_n hx hb dX6_knows_0 rfl (lv_at hl 1 rfl) ?_
  refine lv_if_lt (tgt := 16) hx hb dX6_knows_1 (by decide) (fun c1 => ?_) (fun c1 => ?_)
  · rw [if_pos c1] at hsp
    refine lv_iconst (v := 0) hx hb dX6_knows_16 (by decide) ?_
    have e1 := fr_s1 hsp
    exact fr_zret C hr hlocks hR (Or.inl rfl) e1 rfl dX6_knows_17
  · rw [if_neg c1] at hsp
    refine lv_iload_n hx hb dX6_knows_4 rfl (lv_at hl 1 rfl) ?_
    refine lv_aload_n hx hb dX6_knows_5 rfl (lv_at hl 0 rfl) ?_
    refine fr_geti C hR ha Fg_RX6_36 rfl dX6_knows_6 ?_
    refine lv_icmp_ge (tgt := 16) hx hb dX6_knows_9 (by decide) (fun c2 => ?_) (fun c2 => ?_)
    · rw [if_pos c2] at hsp
      refine lv_iconst (v := 0) hx hb dX6_knows_16 (by decide) ?_
      have e1 := fr_s1 hsp
      exact fr_zret C hr hlocks hR (Or.inl rfl) e1 rfl dX6_knows_17
    · rw [if_neg c2] at hsp
      refine lv_iconst (v := 1) hx hb dX6_knows_12 (by decide) ?_
      refine lv_goto (tgt := 17) hx hb dX6_knows_13 (by decide) ?_
      have e1 := fr_s1 hsp
      exact fr_zret C hr hlocks hR (Or.inr rfl) e1 rfl dX6_knows_17

/-! TermRows$Row.termAt(I)I -/
def z_X6_termAt (S : fh_S) (h : fh_H) (a : Nat) (x1 : Int32) : Option Int32 :=
    if x1 < 0 then (some (0 : Int32)) else (fh_b1 (h.2.2 a 1) (fun j2 => fh_ck (fh_kq S j2 13) (if (Int32.ofNat (S.2.2 j2)) ≤ x1 then (some (0 : Int32)) else (fh_ck (fh_in x1 (S.2.2 j2)) (some (h.1 j2 (Int32.toNatClampNeg x1)))))))
set_option maxHeartbeats 4000000 in
set_option maxRecDepth 100000 in
theorem k_X6_termAt {l : Launch} {S : fh_S} {g : fh_G} {h : fh_H} (hj : fh_inj S g) {a : Nat} {x1 : Int32} {r : Int32} (ha : fh_kq S a 6 = true) (hsp : z_X6_termAt S h a x1 = some r) : fh_M l yX6_termAt cX6_termAt 2 (some .int) (fh_rm 1) S g [.ref (g.2.2 a), .int x1] h (some (.int r)) h := by
  unfold z_X6_termAt at hsp
  refine fr_head (own := RX6) (by decide) rfl hj (Nat.le_of_ble_eq_true rfl) ?_
  intro p e s m below meth c ls C hr hlocks hR hl
  have hl : lv_has ls 2 [(0, .ref (g.2.2 a)), (1, .int x1)] := hl
  have hx := C.1.1
  have hb := C.1.2.1
  refine lv_iload_n hx hb dX6_termAt_0 rfl (lv_at hl 1 rfl) ?_
  refine lv_if_lt (tgt := 22) hx hb dX6_termAt_1 (by decide) (fun c1 => ?_) (fun c1 => ?_)
  · rw [if_pos c1] at hsp
    refine lv_iconst (v := 0) hx hb dX6_termAt_22 (by decide) ?_
    have e1 := fr_s1 hsp
    exact fr_iret C hr hlocks hR e1 rfl dX6_termAt_23
  · rw [if_neg c1] at hsp
    refine lv_iload_n hx hb dX6_termAt_4 rfl (lv_at hl 1 rfl) ?_
    refine lv_aload_n hx hb dX6_termAt_5 rfl (lv_at hl 0 rfl) ?_
    obtain ⟨j2, hv3, hsp⟩ := fr_b1 hsp
    refine fr_getr C hR ha Fg_RX6_9 rfl hv3 dX6_termAt_6 ?_
    obtain ⟨hk4, hsp⟩ := fr_ck hsp
    refine fr_alen C hR hk4 (Or.inl rfl) dX6_termAt_9 ?_
    refine lv_icmp_ge (tgt := 22) hx hb dX6_termAt_10 (by decide) (fun c5 => ?_) (fun c5 => ?_)
    · rw [if_pos c5] at hsp
      refine lv_iconst (v := 0) hx hb dX6_termAt_22 (by decide) ?_
      have e1 := fr_s1 hsp
      exact fr_iret C hr hlocks hR e1 rfl dX6_termAt_23
    · rw [if_neg c5] at hsp
      refine lv_aload_n hx hb dX6_termAt_13 rfl (lv_at hl 0 rfl) ?_
      refine fr_getr C hR ha Fg_RX6_9 rfl hv3 dX6_termAt_14 ?_
      refine lv_iload_n hx hb dX6_termAt_17 rfl (lv_at hl 1 rfl) ?_
      obtain ⟨hi6, hsp⟩ := fr_ck hsp
      refine fr_iald C hR hk4 hi6 dX6_termAt_18 ?_
      refine lv_goto (tgt := 23) hx hb dX6_termAt_19 (by decide) ?_
      have e1 := fr_s1 hsp
      exact fr_iret C hr hlocks hR e1 rfl dX6_termAt_23

/-! TermRows$Row.firstReadsAt(I)I -/
def z_X6_firstReadsAt (S : fh_S) (h : fh_H) (a : Nat) (x1 : Int32) : Option Int32 :=
    if x1 < 0 then (some (0 : Int32)) else (fh_b1 (h.2.2 a 2) (fun j2 => fh_ck (fh_kq S j2 13) (if (Int32.ofNat (S.2.2 j2)) ≤ x1 then (some (0 : Int32)) else (fh_ck (fh_in x1 (S.2.2 j2)) (some (h.1 j2 (Int32.toNatClampNeg x1)))))))
set_option maxHeartbeats 4000000 in
set_option maxRecDepth 100000 in
theorem k_X6_firstReadsAt {l : Launch} {S : fh_S} {g : fh_G} {h : fh_H} (hj : fh_inj S g) {a : Nat} {x1 : Int32} {r : Int32} (ha : fh_kq S a 6 = true) (hsp : z_X6_firstReadsAt S h a x1 = some r) : fh_M l yX6_firstReadsAt cX6_firstReadsAt 2 (some .int) (fh_rm 1) S g [.ref (g.2.2 a), .int x1] h (some (.int r)) h := by
  unfold z_X6_firstReadsAt at hsp
  refine fr_head (own := RX6) (by decide) rfl hj (Nat.le_of_ble_eq_true rfl) ?_
  intro p e s m below meth c ls C hr hlocks hR hl
  have hl : lv_has ls 2 [(0, .ref (g.2.2 a)), (1, .int x1)] := hl
  have hx := C.1.1
  have hb := C.1.2.1
  refine lv_iload_n hx hb dX6_firstReadsAt_0 rfl (lv_at hl 1 rfl) ?_
  refine lv_if_lt (tgt := 22) hx hb dX6_firstReadsAt_1 (by decide) (fun c1 => ?_) (fun c1 => ?_)
  · rw [if_pos c1] at hsp
    refine lv_iconst (v := 0) hx hb dX6_firstReadsAt_22 (by decide) ?_
    have e1 := fr_s1 hsp
    exact fr_iret C hr hlocks hR e1 rfl dX6_firstReadsAt_23
  · rw [if_neg c1] at hsp
    refine lv_iload_n hx hb dX6_firstReadsAt_4 rfl (lv_at hl 1 rfl) ?_
    refine lv_aload_n hx hb dX6_firstReadsAt_5 rfl (lv_at hl 0 rfl) ?_
    obtain ⟨j2, hv3, hsp⟩ := fr_b1 hsp
    refine fr_getr C hR ha Fg_RX6_15 rfl hv3 dX6_firstReadsAt_6 ?_
    obtain ⟨hk4, hsp⟩ := fr_ck hsp
    refine fr_alen C hR hk4 (Or.inl rfl) dX6_firstReadsAt_9 ?_
    refine lv_icmp_ge (tgt := 22) hx hb dX6_firstReadsAt_10 (by decide) (fun c5 => ?_) (fun c5 => ?_)
    · rw [if_pos c5] at hsp
      refine lv_iconst (v := 0) hx hb dX6_firstReadsAt_22 (by decide) ?_
      have e1 := fr_s1 hsp
      exact fr_iret C hr hlocks hR e1 rfl dX6_firstReadsAt_23
    · rw [if_neg c5] at hsp
      refine lv_aload_n hx hb dX6_firstReadsAt_13 rfl (lv_at hl 0 rfl) ?_
      refine fr_getr C hR ha Fg_RX6_15 rfl hv3 dX6_firstReadsAt_14 ?_
      refine lv_iload_n hx hb dX6_firstReadsAt_17 rfl (lv_at hl 1 rfl) ?_
      obtain ⟨hi6, hsp⟩ := fr_ck hsp
      refine fr_iald C hR hk4 hi6 dX6_firstReadsAt_18 ?_
      refine lv_goto (tgt := 23) hx hb dX6_firstReadsAt_19 (by decide) ?_
      have e1 := fr_s1 hsp
      exact fr_iret C hr hlocks hR e1 rfl dX6_firstReadsAt_23

/-! TermRows$Row.secondReadsAt(I)I -/
def z_X6_secondReadsAt (S : fh_S) (h : fh_H) (a : Nat) (x1 : Int32) : Option Int32 :=
    if x1 < 0 then (some (0 : Int32)) else (fh_b1 (h.2.2 a 3) (fun j2 => fh_ck (fh_kq S j2 13) (if (Int32.ofNat (S.2.2 j2)) ≤ x1 then (some (0 : Int32)) else (fh_ck (fh_in x1 (S.2.2 j2)) (some (h.1 j2 (Int32.toNatClampNeg x1)))))))
set_option maxHeartbeats 4000000 in
set_option maxRecDepth 100000 in
theorem k_X6_secondReadsAt {l : Launch} {S : fh_S} {g : fh_G} {h : fh_H} (hj : fh_inj S g) {a : Nat} {x1 : Int32} {r : Int32} (ha : fh_kq S a 6 = true) (hsp : z_X6_secondReadsAt S h a x1 = some r) : fh_M l yX6_secondReadsAt cX6_secondReadsAt 2 (some .int) (fh_rm 1) S g [.ref (g.2.2 a), .int x1] h (some (.int r)) h := by
  unfold z_X6_secondReadsAt at hsp
  refine fr_head (own := RX6) (by decide) rfl hj (Nat.le_of_ble_eq_true rfl) ?_
  intro p e s m below meth c ls C hr hlocks hR hl
  have hl : lv_has ls 2 [(0, .ref (g.2.2 a)), (1, .int x1)] := hl
  have hx := C.1.1
  have hb := C.1.2.1
  refine lv_iload_n hx hb dX6_secondReadsAt_0 rfl (lv_at hl 1 rfl) ?_
  refine lv_if_lt (tgt := 22) hx hb dX6_secondReadsAt_1 (by decide) (fun c1 => ?_) (fun c1 => ?_)
  · rw [if_pos c1] at hsp
    refine lv_iconst (v := 0) hx hb dX6_secondReadsAt_22 (by decide) ?_
    have e1 := fr_s1 hsp
    exact fr_iret C hr hlocks hR e1 rfl dX6_secondReadsAt_23
  · rw [if_neg c1] at hsp
    refine lv_iload_n hx hb dX6_secondReadsAt_4 rfl (lv_at hl 1 rfl) ?_
    refine lv_aload_n hx hb dX6_secondReadsAt_5 rfl (lv_at hl 0 rfl) ?_
    obtain ⟨j2, hv3, hsp⟩ := fr_b1 hsp
    refine fr_getr C hR ha Fg_RX6_18 rfl hv3 dX6_secondReadsAt_6 ?_
    obtain ⟨hk4, hsp⟩ := fr_ck hsp
    refine fr_alen C hR hk4 (Or.inl rfl) dX6_secondReadsAt_9 ?_
    refine lv_icmp_ge (tgt := 22) hx hb dX6_secondReadsAt_10 (by decide) (fun c5 => ?_) (fun c5 => ?_)
    · rw [if_pos c5] at hsp
      refine lv_iconst (v := 0) hx hb dX6_secondReadsAt_22 (by decide) ?_
      have e1 := fr_s1 hsp
      exact fr_iret C hr hlocks hR e1 rfl dX6_secondReadsAt_23
    · rw [if_neg c5] at hsp
      refine lv_aload_n hx hb dX6_secondReadsAt_13 rfl (lv_at hl 0 rfl) ?_
      refine fr_getr C hR ha Fg_RX6_18 rfl hv3 dX6_secondReadsAt_14 ?_
      refine lv_iload_n hx hb dX6_secondReadsAt_17 rfl (lv_at hl 1 rfl) ?_
      obtain ⟨hi6, hsp⟩ := fr_ck hsp
      refine fr_iald C hR hk4 hi6 dX6_secondReadsAt_18 ?_
      refine lv_goto (tgt := 23) hx hb dX6_secondReadsAt_19 (by decide) ?_
      have e1 := fr_s1 hsp
      exact fr_iret C hr hlocks hR e1 rfl dX6_secondReadsAt_23

/-! TermRows$RowText.keep(I)V -/
def z_X7_keep (S : fh_S) (h : fh_H) (a : Nat) (x1 : Int32) : Option fh_H :=
    if (h.1 a 3) < 0 then (fh_let (fh_sI h a 3 ((h.1 a 3) + (1 : Int32))) (fun h2 => some h2)) else (fh_b1 (h.2.2 a 1) (fun j3 => fh_ck (fh_kq S j3 13) (if (Int32.ofNat (S.2.2 j3)) ≤ (h.1 a 3) then (fh_let (fh_sI h a 3 ((h.1 a 3) + (1 : Int32))) (fun h7 => some h7)) else (fh_ck (fh_in (h.1 a 3) (S.2.2 j3)) (fh_let (fh_sI h j3 (Int32.toNatClampNeg (h.1 a 3)) x1) (fun h9 => fh_let (fh_sI h9 a 3 ((h9.1 a 3) + (1 : Int32))) (fun h10 => some h10)))))))
set_option maxHeartbeats 4000000 in
set_option maxRecDepth 100000 in
theorem k_X7_keep {l : Launch} {S : fh_S} {g : fh_G} {h h' : fh_H} (hj : fh_inj S g) {a : Nat} {x1 : Int32} (ha : fh_kq S a 7 = true) (hsp : z_X7_keep S h a x1 = some h') : fh_M l yX7_keep cX7_keep 2 none (fh_rm 1) S g [.ref (g.2.2 a), .int x1] h none h' := by
  unfold z_X7_keep at hsp
  refine fr_head (own := RX7) (by decide) rfl hj (Nat.le_of_ble_eq_true rfl) ?_
  intro p e s m below meth c ls C hr hlocks hR hl
  have hl : lv_has ls 2 [(0, .ref (g.2.2 a)), (1, .int x1)] := hl
  have hx := C.1.1
  have hb := C.1.2.1
  refine lv_aload_n hx hb dX7_keep_0 rfl (lv_at hl 0 rfl) ?_
  refine fr_geti C hR ha Fg_RX7_19 rfl dX7_keep_1 ?_
  refine lv_if_lt (tgt := 29) hx hb dX7_keep_4 (by decide) (fun c1 => ?_) (fun c1 => ?_)
  · rw [if_pos c1] at hsp
    refine lv_aload_n hx hb dX7_keep_29 rfl (lv_at hl 0 rfl) ?_
    refine lv_dup hx hb dX7_keep_30 rfl ?_
    refine fr_geti C hR ha Fg_RX7_19 rfl dX7_keep_31 ?_
    refine lv_iconst (v := 1) hx hb dX7_keep_34 (by decide) ?_
    refine lv_iadd hx hb dX7_keep_35 ?_
    refine fr_puti C hR ha Fp_RX7_19 rfl dX7_keep_36 (fun H locs hR => ?_)
    obtain ⟨h2, eh2⟩ : ∃ z, z = fh_sI h a 3 ((h.1 a 3) + (1 : Int32)) := ⟨_, rfl⟩
    rw [← eh2] at hR
    have hsp := fr_let eh2 hsp
    exact fr_vret C hr hlocks hR (fr_s1 hsp) dX7_keep_39
  · rw [if_neg c1] at hsp
    refine lv_aload_n hx hb dX7_keep_7 rfl (lv_at hl 0 rfl) ?_
    refine fr_geti C hR ha Fg_RX7_19 rfl dX7_keep_8 ?_
    refine lv_aload_n hx hb dX7_keep_11 rfl (lv_at hl 0 rfl) ?_
    obtain ⟨j3, hv4, hsp⟩ := fr_b1 hsp
    refine fr_getr C hR ha Fg_RX7_9 rfl hv4 dX7_keep_12 ?_
    obtain ⟨hk5, hsp⟩ := fr_ck hsp
    refine fr_alen C hR hk5 (Or.inl rfl) dX7_keep_15 ?_
    refine lv_icmp_ge (tgt := 29) hx hb dX7_keep_16 (by decide) (fun c6 => ?_) (fun c6 => ?_)
    · rw [if_pos c6] at hsp
      refine lv_aload_n hx hb dX7_keep_29 rfl (lv_at hl 0 rfl) ?_
      refine lv_dup hx hb dX7_keep_30 rfl ?_
      refine fr_geti C hR ha Fg_RX7_19 rfl dX7_keep_31 ?_
      refine lv_iconst (v := 1) hx hb dX7_keep_34 (by decide) ?_
      refine lv_iadd hx hb dX7_keep_35 ?_
      refine fr_puti C hR ha Fp_RX7_19 rfl dX7_keep_36 (fun H locs hR => ?_)
      obtain ⟨h7, eh7⟩ : ∃ z, z = fh_sI h a 3 ((h.1 a 3) + (1 : Int32)) := ⟨_, rfl⟩
      rw [← eh7] at hR
      have hsp := fr_let eh7 hsp
      exact fr_vret C hr hlocks hR (fr_s1 hsp) dX7_keep_39
    · rw [if_neg c6] at hsp
      refine lv_aload_n hx hb dX7_keep_19 rfl (lv_at hl 0 rfl) ?_
      refine fr_getr C hR ha Fg_RX7_9 rfl hv4 dX7_keep_20 ?_
      refine lv_aload_n hx hb dX7_keep_23 rfl (lv_at hl 0 rfl) ?_
      refine fr_geti C hR ha Fg_RX7_19 rfl dX7_keep_24 ?_
      refine lv_iload_n hx hb dX7_keep_27 rfl (lv_at hl 1 rfl) ?_
      obtain ⟨hi8, hsp⟩ := fr_ck hsp
      refine fr_iast C hR hk5 hi8 dX7_keep_28 (fun H locs hR => ?_)
      obtain ⟨h9, eh9⟩ : ∃ z, z = fh_sI h j3 (Int32.toNatClampNeg (h.1 a 3)) x1 := ⟨_, rfl⟩
      rw [← eh9] at hR
      have hsp := fr_let eh9 hsp
      refine lv_aload_n hx hb dX7_keep_29 rfl (lv_at hl 0 rfl) ?_
      refine lv_dup hx hb dX7_keep_30 rfl ?_
      refine fr_geti C hR ha Fg_RX7_19 rfl dX7_keep_31 ?_
      refine lv_iconst (v := 1) hx hb dX7_keep_34 (by decide) ?_
      refine lv_iadd hx hb dX7_keep_35 ?_
      refine fr_puti C hR ha Fp_RX7_19 rfl dX7_keep_36 (fun H locs hR => ?_)
      obtain ⟨h10, eh10⟩ : ∃ z, z = fh_sI h9 a 3 ((h9.1 a 3) + (1 : Int32)) := ⟨_, rfl⟩
      rw [← eh10] at hR
      have hsp := fr_let eh10 hsp
      exact fr_vret C hr hlocks hR (fr_s1 hsp) dX7_keep_39

/-! TermRows$RowText.earlierTerm(I)I -/
def z_X7_earlierTerm (S : fh_S) (h : fh_H) (a : Nat) (x1 : Int32) : Option Int32 :=
    if x1 < 0 then (some (0 : Int32)) else (fh_b1 (h.2.2 a 1) (fun j2 => fh_ck (fh_kq S j2 13) (if (Int32.ofNat (S.2.2 j2)) ≤ x1 then (some (0 : Int32)) else (fh_ck (fh_in x1 (S.2.2 j2)) (some (h.1 j2 (Int32.toNatClampNeg x1)))))))
set_option maxHeartbeats 4000000 in
set_option maxRecDepth 100000 in
theorem k_X7_earlierTerm {l : Launch} {S : fh_S} {g : fh_G} {h : fh_H} (hj : fh_inj S g) {a : Nat} {x1 : Int32} {r : Int32} (ha : fh_kq S a 7 = true) (hsp : z_X7_earlierTerm S h a x1 = some r) : fh_M l yX7_earlierTerm cX7_earlierTerm 2 (some .int) (fh_rm 1) S g [.ref (g.2.2 a), .int x1] h (some (.int r)) h := by
  unfold z_X7_earlierTerm at hsp
  refine fr_head (own := RX7) (by decide) rfl hj (Nat.le_of_ble_eq_true rfl) ?_
  intro p e s m below meth c ls C hr hlocks hR hl
  have hl : lv_has ls 2 [(0, .ref (g.2.2 a)), (1, .int x1)] := hl
  have hx := C.1.1
  have hb := C.1.2.1
  refine lv_iload_n hx hb dX7_earlierTerm_0 rfl (lv_at hl 1 rfl) ?_
  refine lv_if_lt (tgt := 22) hx hb dX7_earlierTerm_1 (by decide) (fun c1 => ?_) (fun c1 => ?_)
  · rw [if_pos c1] at hsp
    refine lv_iconst (v := 0) hx hb dX7_earlierTerm_22 (by decide) ?_
    have e1 := fr_s1 hsp
    exact fr_iret C hr hlocks hR e1 rfl dX7_earlierTerm_23
  · rw [if_neg c1] at hsp
    refine lv_iload_n hx hb dX7_earlierTerm_4 rfl (lv_at hl 1 rfl) ?_
    refine lv_aload_n hx hb dX7_earlierTerm_5 rfl (lv_at hl 0 rfl) ?_
    obtain ⟨j2, hv3, hsp⟩ := fr_b1 hsp
    refine fr_getr C hR ha Fg_RX7_9 rfl hv3 dX7_earlierTerm_6 ?_
    obtain ⟨hk4, hsp⟩ := fr_ck hsp
    refine fr_alen C hR hk4 (Or.inl rfl) dX7_earlierTerm_9 ?_
    refine lv_icmp_ge (tgt := 22) hx hb dX7_earlierTerm_10 (by decide) (fun c5 => ?_) (fun c5 => ?_)
    · rw [if_pos c5] at hsp
      refine lv_iconst (v := 0) hx hb dX7_earlierTerm_22 (by decide) ?_
      have e1 := fr_s1 hsp
      exact fr_iret C hr hlocks hR e1 rfl dX7_earlierTerm_23
    · rw [if_neg c5] at hsp
      refine lv_aload_n hx hb dX7_earlierTerm_13 rfl (lv_at hl 0 rfl) ?_
      refine fr_getr C hR ha Fg_RX7_9 rfl hv3 dX7_earlierTerm_14 ?_
      refine lv_iload_n hx hb dX7_earlierTerm_17 rfl (lv_at hl 1 rfl) ?_
      obtain ⟨hi6, hsp⟩ := fr_ck hsp
      refine fr_iald C hR hk4 hi6 dX7_earlierTerm_18 ?_
      refine lv_goto (tgt := 23) hx hb dX7_earlierTerm_19 (by decide) ?_
      have e1 := fr_s1 hsp
      exact fr_iret C hr hlocks hR e1 rfl dX7_earlierTerm_23

/-! TermRows$Saying.start()V -/
def z_X8_start (S : fh_S) (h : fh_H) (a : Nat) : Option fh_H :=
    fh_let (fh_sI h a 1 (0 : Int32)) (fun h1 => some h1)
set_option maxHeartbeats 4000000 in
set_option maxRecDepth 100000 in
theorem k_X8_start {l : Launch} {S : fh_S} {g : fh_G} {h h' : fh_H} (hj : fh_inj S g) {a : Nat} (ha : fh_kq S a 8 = true) (hsp : z_X8_start S h a = some h') : fh_M l yX8_start cX8_start 1 none (fh_rm 1) S g [.ref (g.2.2 a)] h none h' := by
  unfold z_X8_start at hsp
  refine fr_head (own := RX8) (by decide) rfl hj (Nat.le_of_ble_eq_true rfl) ?_
  intro p e s m below meth c ls C hr hlocks hR hl
  have hl : lv_has ls 1 [(0, .ref (g.2.2 a))] := hl
  have hx := C.1.1
  have hb := C.1.2.1
  refine lv_aload_n hx hb dX8_start_0 rfl (lv_at hl 0 rfl) ?_
  refine lv_iconst (v := 0) hx hb dX8_start_1 (by decide) ?_
  refine fr_puti C hR ha Fp_RX8_15 rfl dX8_start_2 (fun H locs hR => ?_)
  obtain ⟨h1, eh1⟩ : ∃ z, z = fh_sI h a 1 (0 : Int32) := ⟨_, rfl⟩
  rw [← eh1] at hR
  have hsp := fr_let eh1 hsp
  exact fr_vret C hr hlocks hR (fr_s1 hsp) dX8_start_5

/-! TermRows$Saying.byteAt(I)I -/
def z_X8_byteAt (S : fh_S) (h : fh_H) (a : Nat) (x1 : Int32) : Option Int32 :=
    if x1 < 0 then (some (-1 : Int32)) else (if (h.1 a 1) ≤ x1 then (some (-1 : Int32)) else (fh_b1 (h.2.2 a 0) (fun j3 => fh_ck (fh_kq S j3 13) (if (Int32.ofNat (S.2.2 j3)) ≤ x1 then (some (-1 : Int32)) else (fh_ck (fh_in x1 (S.2.2 j3)) (some (h.1 j3 (Int32.toNatClampNeg x1))))))))
set_option maxHeartbeats 4000000 in
set_option maxRecDepth 100000 in
theorem k_X8_byteAt {l : Launch} {S : fh_S} {g : fh_G} {h : fh_H} (hj : fh_inj S g) {a : Nat} {x1 : Int32} {r : Int32} (ha : fh_kq S a 8 = true) (hsp : z_X8_byteAt S h a x1 = some r) : fh_M l yX8_byteAt cX8_byteAt 2 (some .int) (fh_rm 1) S g [.ref (g.2.2 a), .int x1] h (some (.int r)) h := by
  unfold z_X8_byteAt at hsp
  refine fr_head (own := RX8) (by decide) rfl hj (Nat.le_of_ble_eq_true rfl) ?_
  intro p e s m below meth c ls C hr hlocks hR hl
  have hl : lv_has ls 2 [(0, .ref (g.2.2 a)), (1, .int x1)] := hl
  have hx := C.1.1
  have hb := C.1.2.1
  refine lv_iload_n hx hb dX8_byteAt_0 rfl (lv_at hl 1 rfl) ?_
  refine lv_if_lt (tgt := 30) hx hb dX8_byteAt_1 (by decide) (fun c1 => ?_) (fun c1 => ?_)
  · rw [if_pos c1] at hsp
    refine lv_iconst (v := -1) hx hb dX8_byteAt_30 (by decide) ?_
    have e1 := fr_s1 hsp
    exact fr_iret C hr hlocks hR e1 rfl dX8_byteAt_31
  · rw [if_neg c1] at hsp
    refine lv_iload_n hx hb dX8_byteAt_4 rfl (lv_at hl 1 rfl) ?_
    refine lv_aload_n hx hb dX8_byteAt_5 rfl (lv_at hl 0 rfl) ?_
    refine fr_geti C hR ha Fg_RX8_15 rfl dX8_byteAt_6 ?_
    refine lv_icmp_ge (tgt := 30) hx hb dX8_byteAt_9 (by decide) (fun c2 => ?_) (fun c2 => ?_)
    · rw [if_pos c2] at hsp
      refine lv_iconst (v := -1) hx hb dX8_byteAt_30 (by decide) ?_
      have e1 := fr_s1 hsp
      exact fr_iret C hr hlocks hR e1 rfl dX8_byteAt_31
    · rw [if_neg c2] at hsp
      refine lv_iload_n hx hb dX8_byteAt_12 rfl (lv_at hl 1 rfl) ?_
      refine lv_aload_n hx hb dX8_byteAt_13 rfl (lv_at hl 0 rfl) ?_
      obtain ⟨j3, hv4, hsp⟩ := fr_b1 hsp
      refine fr_getr C hR ha Fg_RX8_9 rfl hv4 dX8_byteAt_14 ?_
      obtain ⟨hk5, hsp⟩ := fr_ck hsp
      refine fr_alen C hR hk5 (Or.inl rfl) dX8_byteAt_17 ?_
      refine lv_icmp_ge (tgt := 30) hx hb dX8_byteAt_18 (by decide) (fun c6 => ?_) (fun c6 => ?_)
      · rw [if_pos c6] at hsp
        refine lv_iconst (v := -1) hx hb dX8_byteAt_30 (by decide) ?_
        have e1 := fr_s1 hsp
        exact fr_iret C hr hlocks hR e1 rfl dX8_byteAt_31
      · rw [if_neg c6] at hsp
        refine lv_aload_n hx hb dX8_byteAt_21 rfl (lv_at hl 0 rfl) ?_
        refine fr_getr C hR ha Fg_RX8_9 rfl hv4 dX8_byteAt_22 ?_
        refine lv_iload_n hx hb dX8_byteAt_25 rfl (lv_at hl 1 rfl) ?_
        obtain ⟨hi7, hsp⟩ := fr_ck hsp
        refine fr_iald C hR hk5 hi7 dX8_byteAt_26 ?_
        refine lv_goto (tgt := 31) hx hb dX8_byteAt_27 (by decide) ?_
        have e1 := fr_s1 hsp
        exact fr_iret C hr hlocks hR e1 rfl dX8_byteAt_31

/-! TermRows$Saying.putSign(C)V -/
def z_X8_putSign (S : fh_S) (h : fh_H) (a : Nat) (x1 : Int32) : Option fh_H :=
    if (h.1 a 1) < 0 then (some h) else (fh_b1 (h.2.2 a 0) (fun j2 => fh_ck (fh_kq S j2 13) (if (Int32.ofNat (S.2.2 j2)) ≤ (h.1 a 1) then (some h) else (fh_ck (fh_in (h.1 a 1) (S.2.2 j2)) (fh_let (fh_sI h j2 (Int32.toNatClampNeg (h.1 a 1)) x1) (fun h7 => fh_let (fh_sI h7 a 1 ((h7.1 a 1) + (1 : Int32))) (fun h8 => some h8)))))))
set_option maxHeartbeats 4000000 in
set_option maxRecDepth 100000 in
theorem k_X8_putSign {l : Launch} {S : fh_S} {g : fh_G} {h h' : fh_H} (hj : fh_inj S g) {a : Nat} {x1 : Int32} (ha : fh_kq S a 8 = true) (hsp : z_X8_putSign S h a x1 = some h') : fh_M l yX8_putSign cX8_putSign 2 none (fh_rm 1) S g [.ref (g.2.2 a), .int x1] h none h' := by
  unfold z_X8_putSign at hsp
  refine fr_head (own := RX8) (by decide) rfl hj (Nat.le_of_ble_eq_true rfl) ?_
  intro p e s m below meth c ls C hr hlocks hR hl
  have hl : lv_has ls 2 [(0, .ref (g.2.2 a)), (1, .int x1)] := hl
  have hx := C.1.1
  have hb := C.1.2.1
  refine lv_aload_n hx hb dX8_putSign_0 rfl (lv_at hl 0 rfl) ?_
  refine fr_geti C hR ha Fg_RX8_15 rfl dX8_putSign_1 ?_
  refine lv_if_lt (tgt := 39) hx hb dX8_putSign_4 (by decide) (fun c1 => ?_) (fun c1 => ?_)
  · rw [if_pos c1] at hsp
    exact fr_vret C hr hlocks hR (fr_s1 hsp) dX8_putSign_39
  · rw [if_neg c1] at hsp
    refine lv_aload_n hx hb dX8_putSign_7 rfl (lv_at hl 0 rfl) ?_
    refine fr_geti C hR ha Fg_RX8_15 rfl dX8_putSign_8 ?_
    refine lv_aload_n hx hb dX8_putSign_11 rfl (lv_at hl 0 rfl) ?_
    obtain ⟨j2, hv3, hsp⟩ := fr_b1 hsp
    refine fr_getr C hR ha Fg_RX8_9 rfl hv3 dX8_putSign_12 ?_
    obtain ⟨hk4, hsp⟩ := fr_ck hsp
    refine fr_alen C hR hk4 (Or.inl rfl) dX8_putSign_15 ?_
    refine lv_icmp_ge (tgt := 39) hx hb dX8_putSign_16 (by decide) (fun c5 => ?_) (fun c5 => ?_)
    · rw [if_pos c5] at hsp
      exact fr_vret C hr hlocks hR (fr_s1 hsp) dX8_putSign_39
    · rw [if_neg c5] at hsp
      refine lv_aload_n hx hb dX8_putSign_19 rfl (lv_at hl 0 rfl) ?_
      refine fr_getr C hR ha Fg_RX8_9 rfl hv3 dX8_putSign_20 ?_
      refine lv_aload_n hx hb dX8_putSign_23 rfl (lv_at hl 0 rfl) ?_
      refine fr_geti C hR ha Fg_RX8_15 rfl dX8_putSign_24 ?_
      refine lv_iload_n hx hb dX8_putSign_27 rfl (lv_at hl 1 rfl) ?_
      obtain ⟨hi6, hsp⟩ := fr_ck hsp
      refine fr_iast C hR hk4 hi6 dX8_putSign_28 (fun H locs hR => ?_)
      obtain ⟨h7, eh7⟩ : ∃ z, z = fh_sI h j2 (Int32.toNatClampNeg (h.1 a 1)) x1 := ⟨_, rfl⟩
      rw [← eh7] at hR
      have hsp := fr_let eh7 hsp
      refine lv_aload_n hx hb dX8_putSign_29 rfl (lv_at hl 0 rfl) ?_
      refine lv_dup hx hb dX8_putSign_30 rfl ?_
      refine fr_geti C hR ha Fg_RX8_15 rfl dX8_putSign_31 ?_
      refine lv_iconst (v := 1) hx hb dX8_putSign_34 (by decide) ?_
      refine lv_iadd hx hb dX8_putSign_35 ?_
      refine fr_puti C hR ha Fp_RX8_15 rfl dX8_putSign_36 (fun H locs hR => ?_)
      obtain ⟨h8, eh8⟩ : ∃ z, z = fh_sI h7 a 1 ((h7.1 a 1) + (1 : Int32)) := ⟨_, rfl⟩
      rw [← eh8] at hR
      have hsp := fr_let eh8 hsp
      exact fr_vret C hr hlocks hR (fr_s1 hsp) dX8_putSign_39

/-! TermRows$Surd.leave(J)V -/
def z_X9_leave (S : fh_S) (h : fh_H) (a : Nat) (x1 : Int64) : Option fh_H :=
    if (h.2.1 a 2) = (0 : Int64) then (some h) else (fh_let (fh_sJ h a 0 ((x1 * (h.2.1 a 2)) - (h.2.1 a 0))) (fun h2 => fh_ck (decide (¬ (h2.2.1 a 2) = 0)) (fh_let (fh_sJ h2 a 2 (((h2.2.1 a 1) - ((h2.2.1 a 0) * (h2.2.1 a 0))) / (h2.2.1 a 2))) (fun h4 => some h4))))
set_option maxHeartbeats 4000000 in
set_option maxRecDepth 100000 in
theorem k_X9_leave {l : Launch} {S : fh_S} {g : fh_G} {h h' : fh_H} (hj : fh_inj S g) {a : Nat} {x1 : Int64} (ha : fh_kq S a 9 = true) (hsp : z_X9_leave S h a x1 = some h') : fh_M l yX9_leave cX9_leave 3 none (fh_rm 1) S g [.ref (g.2.2 a), .long x1] h none h' := by
  unfold z_X9_leave at hsp
  refine fr_head (own := RX9) (by decide) rfl hj (Nat.le_of_ble_eq_true rfl) ?_
  intro p e s m below meth c ls C hr hlocks hR hl
  have hl : lv_has ls 3 [(0, .ref (g.2.2 a)), (1, .long x1)] := hl
  have hx := C.1.1
  have hb := C.1.2.1
  refine lv_aload_n hx hb dX9_leave_0 rfl (lv_at hl 0 rfl) ?_
  refine fr_getj C hR ha Fg_RX9_16 rfl dX9_leave_1 ?_
  refine lv_lconst (v := 0) hx hb dX9_leave_4 (by decide) ?_
  refine fr_lc_ne (tgt := 10) hx hb dX9_leave_5 dX9_leave_6 (by decide) (fun c1 => ?_) (fun c1 => ?_)
  · rw [if_neg c1] at hsp
    refine lv_aload_n hx hb dX9_leave_10 rfl (lv_at hl 0 rfl) ?_
    refine lv_lload_n hx hb dX9_leave_11 rfl (lv_at hl 1 rfl) ?_
    refine lv_aload_n hx hb dX9_leave_12 rfl (lv_at hl 0 rfl) ?_
    refine fr_getj C hR ha Fg_RX9_16 rfl dX9_leave_13 ?_
    refine lv_lmul hx hb dX9_leave_16 ?_
    refine lv_aload_n hx hb dX9_leave_17 rfl (lv_at hl 0 rfl) ?_
    refine fr_getj C hR ha Fg_RX9_7 rfl dX9_leave_18 ?_
    refine lv_lsub hx hb dX9_leave_21 ?_
    refine fr_putj C hR ha Fp_RX9_7 rfl dX9_leave_22 (fun H locs hR => ?_)
    obtain ⟨h2, eh2⟩ : ∃ z, z = fh_sJ h a 0 ((x1 * (h.2.1 a 2)) - (h.2.1 a 0)) := ⟨_, rfl⟩
    rw [← eh2] at hR
    have hsp := fr_let eh2 hsp
    refine lv_aload_n hx hb dX9_leave_25 rfl (lv_at hl 0 rfl) ?_
    refine lv_aload_n hx hb dX9_leave_26 rfl (lv_at hl 0 rfl) ?_
    refine fr_getj C hR ha Fg_RX9_13 rfl dX9_leave_27 ?_
    refine lv_aload_n hx hb dX9_leave_30 rfl (lv_at hl 0 rfl) ?_
    refine fr_getj C hR ha Fg_RX9_7 rfl dX9_leave_31 ?_
    refine lv_aload_n hx hb dX9_leave_34 rfl (lv_at hl 0 rfl) ?_
    refine fr_getj C hR ha Fg_RX9_7 rfl dX9_leave_35 ?_
    refine lv_lmul hx hb dX9_leave_38 ?_
    refine lv_lsub hx hb dX9_leave_39 ?_
    refine lv_aload_n hx hb dX9_leave_40 rfl (lv_at hl 0 rfl) ?_
    refine fr_getj C hR ha Fg_RX9_16 rfl dX9_leave_41 ?_
    obtain ⟨hz3, hsp⟩ := fr_ck hsp
    refine lv_ldiv hx hb dX9_leave_44 (of_decide_eq_true hz3) ?_
    refine fr_putj C hR ha Fp_RX9_16 rfl dX9_leave_45 (fun H locs hR => ?_)
    obtain ⟨h4, eh4⟩ : ∃ z, z = fh_sJ h2 a 2 (((h2.2.1 a 1) - ((h2.2.1 a 0) * (h2.2.1 a 0))) / (h2.2.1 a 2)) := ⟨_, rfl⟩
    rw [← eh4] at hR
    have hsp := fr_let eh4 hsp
    exact fr_vret C hr hlocks hR (fr_s1 hsp) dX9_leave_48
  · rw [if_pos c1] at hsp
    exact fr_vret C hr hlocks hR (fr_s1 hsp) dX9_leave_9

/-! TermRows$Tape.addByte(I)V -/
def z_X10_addByte (S : fh_S) (h : fh_H) (a : Nat) (x1 : Int32) : Option fh_H :=
    if (h.1 a 6) < 0 then (some h) else (fh_b1 (h.2.2 a 0) (fun j2 => fh_ck (fh_kq S j2 13) (if (Int32.ofNat (S.2.2 j2)) ≤ (h.1 a 6) then (some h) else (fh_ck (fh_in (h.1 a 6) (S.2.2 j2)) (fh_let (fh_sI h j2 (Int32.toNatClampNeg (h.1 a 6)) (x1 &&& (255 : Int32))) (fun h7 => fh_let (fh_sI h7 a 6 ((h7.1 a 6) + (1 : Int32))) (fun h8 => some h8)))))))
set_option maxHeartbeats 4000000 in
set_option maxRecDepth 100000 in
theorem k_X10_addByte {l : Launch} {S : fh_S} {g : fh_G} {h h' : fh_H} (hj : fh_inj S g) {a : Nat} {x1 : Int32} (ha : fh_kq S a 10 = true) (hsp : z_X10_addByte S h a x1 = some h') : fh_M l yX10_addByte cX10_addByte 2 none (fh_rm 1) S g [.ref (g.2.2 a), .int x1] h none h' := by
  unfold z_X10_addByte at hsp
  refine fr_head (own := RX10) (by decide) rfl hj (Nat.le_of_ble_eq_true rfl) ?_
  intro p e s m below meth c ls C hr hlocks hR hl
  have hl : lv_has ls 2 [(0, .ref (g.2.2 a)), (1, .int x1)] := hl
  have hx := C.1.1
  have hb := C.1.2.1
  refine lv_aload_n hx hb dX10_addByte_0 rfl (lv_at hl 0 rfl) ?_
  refine fr_geti C hR ha Fg_RX10_32 rfl dX10_addByte_1 ?_
  refine lv_if_lt (tgt := 43) hx hb dX10_addByte_4 (by decide) (fun c1 => ?_) (fun c1 => ?_)
  · rw [if_pos c1] at hsp
    exact fr_vret C hr hlocks hR (fr_s1 hsp) dX10_addByte_43
  · rw [if_neg c1] at hsp
    refine lv_aload_n hx hb dX10_addByte_7 rfl (lv_at hl 0 rfl) ?_
    refine fr_geti C hR ha Fg_RX10_32 rfl dX10_addByte_8 ?_
    refine lv_aload_n hx hb dX10_addByte_11 rfl (lv_at hl 0 rfl) ?_
    obtain ⟨j2, hv3, hsp⟩ := fr_b1 hsp
    refine fr_getr C hR ha Fg_RX10_9 rfl hv3 dX10_addByte_12 ?_
    obtain ⟨hk4, hsp⟩ := fr_ck hsp
    refine fr_alen C hR hk4 (Or.inl rfl) dX10_addByte_15 ?_
    refine lv_icmp_ge (tgt := 43) hx hb dX10_addByte_16 (by decide) (fun c5 => ?_) (fun c5 => ?_)
    · rw [if_pos c5] at hsp
      exact fr_vret C hr hlocks hR (fr_s1 hsp) dX10_addByte_43
    · rw [if_neg c5] at hsp
      refine lv_aload_n hx hb dX10_addByte_19 rfl (lv_at hl 0 rfl) ?_
      refine fr_getr C hR ha Fg_RX10_9 rfl hv3 dX10_addByte_20 ?_
      refine lv_aload_n hx hb dX10_addByte_23 rfl (lv_at hl 0 rfl) ?_
      refine fr_geti C hR ha Fg_RX10_32 rfl dX10_addByte_24 ?_
      refine lv_iload_n hx hb dX10_addByte_27 rfl (lv_at hl 1 rfl) ?_
      refine lv_sipush (v := 255) hx hb dX10_addByte_28 (by decide) ?_
      refine lv_iand hx hb dX10_addByte_31 ?_
      obtain ⟨hi6, hsp⟩ := fr_ck hsp
      refine fr_iast C hR hk4 hi6 dX10_addByte_32 (fun H locs hR => ?_)
      obtain ⟨h7, eh7⟩ : ∃ z, z = fh_sI h j2 (Int32.toNatClampNeg (h.1 a 6)) (x1 &&& (255 : Int32)) := ⟨_, rfl⟩
      rw [← eh7] at hR
      have hsp := fr_let eh7 hsp
      refine lv_aload_n hx hb dX10_addByte_33 rfl (lv_at hl 0 rfl) ?_
      refine lv_dup hx hb dX10_addByte_34 rfl ?_
      refine fr_geti C hR ha Fg_RX10_32 rfl dX10_addByte_35 ?_
      refine lv_iconst (v := 1) hx hb dX10_addByte_38 (by decide) ?_
      refine lv_iadd hx hb dX10_addByte_39 ?_
      refine fr_puti C hR ha Fp_RX10_32 rfl dX10_addByte_40 (fun H locs hR => ?_)
      obtain ⟨h8, eh8⟩ : ∃ z, z = fh_sI h7 a 6 ((h7.1 a 6) + (1 : Int32)) := ⟨_, rfl⟩
      rw [← eh8] at hR
      have hsp := fr_let eh8 hsp
      exact fr_vret C hr hlocks hR (fr_s1 hsp) dX10_addByte_43

/-! TermRows$Tape.empty()V -/
def z_X10_empty (S : fh_S) (h : fh_H) (a : Nat) : Option fh_H :=
    fh_let (fh_sI h a 6 (0 : Int32)) (fun h1 => some h1)
set_option maxHeartbeats 4000000 in
set_option maxRecDepth 100000 in
theorem k_X10_empty {l : Launch} {S : fh_S} {g : fh_G} {h h' : fh_H} (hj : fh_inj S g) {a : Nat} (ha : fh_kq S a 10 = true) (hsp : z_X10_empty S h a = some h') : fh_M l yX10_empty cX10_empty 1 none (fh_rm 1) S g [.ref (g.2.2 a)] h none h' := by
  unfold z_X10_empty at hsp
  refine fr_head (own := RX10) (by decide) rfl hj (Nat.le_of_ble_eq_true rfl) ?_
  intro p e s m below meth c ls C hr hlocks hR hl
  have hl : lv_has ls 1 [(0, .ref (g.2.2 a))] := hl
  have hx := C.1.1
  have hb := C.1.2.1
  refine lv_aload_n hx hb dX10_empty_0 rfl (lv_at hl 0 rfl) ?_
  refine lv_iconst (v := 0) hx hb dX10_empty_1 (by decide) ?_
  refine fr_puti C hR ha Fp_RX10_32 rfl dX10_empty_2 (fun H locs hR => ?_)
  obtain ⟨h1, eh1⟩ : ∃ z, z = fh_sI h a 6 (0 : Int32) := ⟨_, rfl⟩
  rw [← eh1] at hR
  have hsp := fr_let eh1 hsp
  exact fr_vret C hr hlocks hR (fr_s1 hsp) dX10_empty_5

/-! TermRows$Tape.byteAt(I)I -/
def z_X10_byteAt (S : fh_S) (h : fh_H) (a : Nat) (x1 : Int32) : Option Int32 :=
    if x1 < 0 then (some (-1 : Int32)) else (fh_b1 (h.2.2 a 0) (fun j2 => fh_ck (fh_kq S j2 13) (if (Int32.ofNat (S.2.2 j2)) ≤ x1 then (some (-1 : Int32)) else (fh_ck (fh_in x1 (S.2.2 j2)) (some (h.1 j2 (Int32.toNatClampNeg x1)))))))
set_option maxHeartbeats 4000000 in
set_option maxRecDepth 100000 in
theorem k_X10_byteAt {l : Launch} {S : fh_S} {g : fh_G} {h : fh_H} (hj : fh_inj S g) {a : Nat} {x1 : Int32} {r : Int32} (ha : fh_kq S a 10 = true) (hsp : z_X10_byteAt S h a x1 = some r) : fh_M l yX10_byteAt cX10_byteAt 2 (some .int) (fh_rm 1) S g [.ref (g.2.2 a), .int x1] h (some (.int r)) h := by
  unfold z_X10_byteAt at hsp
  refine fr_head (own := RX10) (by decide) rfl hj (Nat.le_of_ble_eq_true rfl) ?_
  intro p e s m below meth c ls C hr hlocks hR hl
  have hl : lv_has ls 2 [(0, .ref (g.2.2 a)), (1, .int x1)] := hl
  have hx := C.1.1
  have hb := C.1.2.1
  refine lv_iload_n hx hb dX10_byteAt_0 rfl (lv_at hl 1 rfl) ?_
  refine lv_if_lt (tgt := 22) hx hb dX10_byteAt_1 (by decide) (fun c1 => ?_) (fun c1 => ?_)
  · rw [if_pos c1] at hsp
    refine lv_iconst (v := -1) hx hb dX10_byteAt_22 (by decide) ?_
    have e1 := fr_s1 hsp
    exact fr_iret C hr hlocks hR e1 rfl dX10_byteAt_23
  · rw [if_neg c1] at hsp
    refine lv_iload_n hx hb dX10_byteAt_4 rfl (lv_at hl 1 rfl) ?_
    refine lv_aload_n hx hb dX10_byteAt_5 rfl (lv_at hl 0 rfl) ?_
    obtain ⟨j2, hv3, hsp⟩ := fr_b1 hsp
    refine fr_getr C hR ha Fg_RX10_9 rfl hv3 dX10_byteAt_6 ?_
    obtain ⟨hk4, hsp⟩ := fr_ck hsp
    refine fr_alen C hR hk4 (Or.inl rfl) dX10_byteAt_9 ?_
    refine lv_icmp_ge (tgt := 22) hx hb dX10_byteAt_10 (by decide) (fun c5 => ?_) (fun c5 => ?_)
    · rw [if_pos c5] at hsp
      refine lv_iconst (v := -1) hx hb dX10_byteAt_22 (by decide) ?_
      have e1 := fr_s1 hsp
      exact fr_iret C hr hlocks hR e1 rfl dX10_byteAt_23
    · rw [if_neg c5] at hsp
      refine lv_aload_n hx hb dX10_byteAt_13 rfl (lv_at hl 0 rfl) ?_
      refine fr_getr C hR ha Fg_RX10_9 rfl hv3 dX10_byteAt_14 ?_
      refine lv_iload_n hx hb dX10_byteAt_17 rfl (lv_at hl 1 rfl) ?_
      obtain ⟨hi6, hsp⟩ := fr_ck hsp
      refine fr_iald C hR hk4 hi6 dX10_byteAt_18 ?_
      refine lv_goto (tgt := 23) hx hb dX10_byteAt_19 (by decide) ?_
      have e1 := fr_s1 hsp
      exact fr_iret C hr hlocks hR e1 rfl dX10_byteAt_23

/-! TermRows$Tape.isFigure(I)Z -/
def z_X10_isFigure (x0 : Int32) : Option Int32 :=
    if x0 < (48 : Int32) then (some (0 : Int32)) else (if (57 : Int32) < x0 then (some (0 : Int32)) else (some (1 : Int32)))
set_option maxHeartbeats 4000000 in
set_option maxRecDepth 100000 in
theorem k_X10_isFigure {l : Launch} {S : fh_S} {g : fh_G} {h : fh_H} (hj : fh_inj S g) {x0 : Int32} {r : Int32} (hsp : z_X10_isFigure x0 = some r) : fh_M l yX10_isFigure cX10_isFigure 1 (some .boolean) (fh_rm 1) S g [.int x0] h (some (.int r)) h := by
  unfold z_X10_isFigure at hsp
  refine fr_head (own := RX10) (by decide) rfl hj (Nat.le_of_ble_eq_true rfl) ?_
  intro p e s m below meth c ls C hr hlocks hR hl
  have hl : lv_has ls 1 [(0, .int x0)] := hl
  have hx := C.1.1
  have hb := C.1.2.1
  refine lv_iload_n hx hb dX10_isFigure_0 rfl (lv_at hl 0 rfl) ?_
  refine lv_bipush (v := 48) hx hb dX10_isFigure_1 (by decide) ?_
  refine lv_icmp_lt (tgt := 16) hx hb dX10_isFigure_3 (by decide) (fun c1 => ?_) (fun c1 => ?_)
  · rw [if_pos c1] at hsp
    refine lv_iconst (v := 0) hx hb dX10_isFigure_16 (by decide) ?_
    have e1 := fr_s1 hsp
    exact fr_zret C hr hlocks hR (Or.inl rfl) e1 rfl dX10_isFigure_17
  · rw [if_neg c1] at hsp
    refine lv_iload_n hx hb dX10_isFigure_6 rfl (lv_at hl 0 rfl) ?_
    refine lv_bipush (v := 57) hx hb dX10_isFigure_7 (by decide) ?_
    refine lv_icmp_gt (tgt := 16) hx hb dX10_isFigure_9 (by decide) (fun c2 => ?_) (fun c2 => ?_)
    · rw [if_pos c2] at hsp
      refine lv_iconst (v := 0) hx hb dX10_isFigure_16 (by decide) ?_
      have e1 := fr_s1 hsp
      exact fr_zret C hr hlocks hR (Or.inl rfl) e1 rfl dX10_isFigure_17
    · rw [if_neg c2] at hsp
      refine lv_iconst (v := 1) hx hb dX10_isFigure_12 (by decide) ?_
      refine lv_goto (tgt := 17) hx hb dX10_isFigure_13 (by decide) ?_
      have e1 := fr_s1 hsp
      exact fr_zret C hr hlocks hR (Or.inr rfl) e1 rfl dX10_isFigure_17

/-! TermRows$Tape.isLetter(I)Z -/
def z_X10_isLetter (x0 : Int32) : Option Int32 :=
    if x0 < (97 : Int32) then (some (0 : Int32)) else (if (122 : Int32) < x0 then (some (0 : Int32)) else (some (1 : Int32)))
set_option maxHeartbeats 4000000 in
set_option maxRecDepth 100000 in
theorem k_X10_isLetter {l : Launch} {S : fh_S} {g : fh_G} {h : fh_H} (hj : fh_inj S g) {x0 : Int32} {r : Int32} (hsp : z_X10_isLetter x0 = some r) : fh_M l yX10_isLetter cX10_isLetter 1 (some .boolean) (fh_rm 1) S g [.int x0] h (some (.int r)) h := by
  unfold z_X10_isLetter at hsp
  refine fr_head (own := RX10) (by decide) rfl hj (Nat.le_of_ble_eq_true rfl) ?_
  intro p e s m below meth c ls C hr hlocks hR hl
  have hl : lv_has ls 1 [(0, .int x0)] := hl
  have hx := C.1.1
  have hb := C.1.2.1
  refine lv_iload_n hx hb dX10_isLetter_0 rfl (lv_at hl 0 rfl) ?_
  refine lv_bipush (v := 97) hx hb dX10_isLetter_1 (by decide) ?_
  refine lv_icmp_lt (tgt := 16) hx hb dX10_isLetter_3 (by decide) (fun c1 => ?_) (fun c1 => ?_)
  · rw [if_pos c1] at hsp
    refine lv_iconst (v := 0) hx hb dX10_isLetter_16 (by decide) ?_
    have e1 := fr_s1 hsp
    exact fr_zret C hr hlocks hR (Or.inl rfl) e1 rfl dX10_isLetter_17
  · rw [if_neg c1] at hsp
    refine lv_iload_n hx hb dX10_isLetter_6 rfl (lv_at hl 0 rfl) ?_
    refine lv_bipush (v := 122) hx hb dX10_isLetter_7 (by decide) ?_
    refine lv_icmp_gt (tgt := 16) hx hb dX10_isLetter_9 (by decide) (fun c2 => ?_) (fun c2 => ?_)
    · rw [if_pos c2] at hsp
      refine lv_iconst (v := 0) hx hb dX10_isLetter_16 (by decide) ?_
      have e1 := fr_s1 hsp
      exact fr_zret C hr hlocks hR (Or.inl rfl) e1 rfl dX10_isLetter_17
    · rw [if_neg c2] at hsp
      refine lv_iconst (v := 1) hx hb dX10_isLetter_12 (by decide) ?_
      refine lv_goto (tgt := 17) hx hb dX10_isLetter_13 (by decide) ?_
      have e1 := fr_s1 hsp
      exact fr_zret C hr hlocks hR (Or.inr rfl) e1 rfl dX10_isLetter_17

/-! TermRows$Tape.addToken(III)V -/
def z_X10_addToken (S : fh_S) (h : fh_H) (a : Nat) (x1 : Int32) (x2 : Int32) (x3 : Int32) : Option fh_H :=
    if (h.1 a 4) < 0 then (some h) else (if (200 : Int32) < (h.1 a 4) then (some h) else (fh_b1 (h.2.2 a 1) (fun j3 => fh_ck (fh_kq S j3 13) (fh_ck (fh_in (h.1 a 4) (S.2.2 j3)) (fh_let (fh_sI h j3 (Int32.toNatClampNeg (h.1 a 4)) x1) (fun h7 => fh_b1 (h7.2.2 a 2) (fun j8 => fh_ck (fh_kq S j8 13) (fh_ck (fh_in (h7.1 a 4) (S.2.2 j8)) (fh_let (fh_sI h7 j8 (Int32.toNatClampNeg (h7.1 a 4)) x2) (fun h12 => fh_b1 (h12.2.2 a 3) (fun j13 => fh_ck (fh_kq S j13 13) (fh_ck (fh_in (h12.1 a 4) (S.2.2 j13)) (fh_let (fh_sI h12 j13 (Int32.toNatClampNeg (h12.1 a 4)) x3) (fun h17 => fh_let (fh_sI h17 a 4 ((h17.1 a 4) + (1 : Int32))) (fun h18 => some h18)))))))))))))))
set_option maxHeartbeats 4000000 in
set_option maxRecDepth 100000 in
theorem k_X10_addToken {l : Launch} {S : fh_S} {g : fh_G} {h h' : fh_H} (hj : fh_inj S g) {a : Nat} {x1 : Int32} {x2 : Int32} {x3 : Int32} (ha : fh_kq S a 10 = true) (hsp : z_X10_addToken S h a x1 x2 x3 = some h') : fh_M l yX10_addToken cX10_addToken 4 none (fh_rm 1) S g [.ref (g.2.2 a), .int x1, .int x2, .int x3] h none h' := by
  unfold z_X10_addToken at hsp
  refine fr_head (own := RX10) (by decide) rfl hj (Nat.le_of_ble_eq_true rfl) ?_
  intro p e s m below meth c ls C hr hlocks hR hl
  have hl : lv_has ls 4 [(0, .ref (g.2.2 a)), (1, .int x1), (2, .int x2), (3, .int x3)] := hl
  have hx := C.1.1
  have hb := C.1.2.1
  refine lv_aload_n hx hb dX10_addToken_0 rfl (lv_at hl 0 rfl) ?_
  refine fr_geti C hR ha Fg_RX10_38 rfl dX10_addToken_1 ?_
  refine lv_if_lt (tgt := 57) hx hb dX10_addToken_4 (by decide) (fun c1 => ?_) (fun c1 => ?_)
  · rw [if_pos c1] at hsp
    exact fr_vret C hr hlocks hR (fr_s1 hsp) dX10_addToken_57
  · rw [if_neg c1] at hsp
    refine lv_aload_n hx hb dX10_addToken_7 rfl (lv_at hl 0 rfl) ?_
    refine fr_geti C hR ha Fg_RX10_38 rfl dX10_addToken_8 ?_
    refine lv_sipush (v := 200) hx hb dX10_addToken_11 (by decide) ?_
    refine lv_icmp_gt (tgt := 57) hx hb dX10_addToken_14 (by decide) (fun c2 => ?_) (fun c2 => ?_)
    · rw [if_pos c2] at hsp
      exact fr_vret C hr hlocks hR (fr_s1 hsp) dX10_addToken_57
    · rw [if_neg c2] at hsp
      refine lv_aload_n hx hb dX10_addToken_17 rfl (lv_at hl 0 rfl) ?_
      obtain ⟨j3, hv4, hsp⟩ := fr_b1 hsp
      refine fr_getr C hR ha Fg_RX10_15 rfl hv4 dX10_addToken_18 ?_
      refine lv_aload_n hx hb dX10_addToken_21 rfl (lv_at hl 0 rfl) ?_
      refine fr_geti C hR ha Fg_RX10_38 rfl dX10_addToken_22 ?_
      refine lv_iload_n hx hb dX10_addToken_25 rfl (lv_at hl 1 rfl) ?_
      obtain ⟨hk5, hsp⟩ := fr_ck hsp
      obtain ⟨hi6, hsp⟩ := fr_ck hsp
      refine fr_iast C hR hk5 hi6 dX10_addToken_26 (fun H locs hR => ?_)
      obtain ⟨h7, eh7⟩ : ∃ z, z = fh_sI h j3 (Int32.toNatClampNeg (h.1 a 4)) x1 := ⟨_, rfl⟩
      rw [← eh7] at hR
      have hsp := fr_let eh7 hsp
      refine lv_aload_n hx hb dX10_addToken_27 rfl (lv_at hl 0 rfl) ?_
      obtain ⟨j8, hv9, hsp⟩ := fr_b1 hsp
      refine fr_getr C hR ha Fg_RX10_18 rfl hv9 dX10_addToken_28 ?_
      refine lv_aload_n hx hb dX10_addToken_31 rfl (lv_at hl 0 rfl) ?_
      refine fr_geti C hR ha Fg_RX10_38 rfl dX10_addToken_32 ?_
      refine lv_iload_n hx hb dX10_addToken_35 rfl (lv_at hl 2 rfl) ?_
      obtain ⟨hk10, hsp⟩ := fr_ck hsp
      obtain ⟨hi11, hsp⟩ := fr_ck hsp
      refine fr_iast C hR hk10 hi11 dX10_addToken_36 (fun H locs hR => ?_)
      obtain ⟨h12, eh12⟩ : ∃ z, z = fh_sI h7 j8 (Int32.toNatClampNeg (h7.1 a 4)) x2 := ⟨_, rfl⟩
      rw [← eh12] at hR
      have hsp := fr_let eh12 hsp
      refine lv_aload_n hx hb dX10_addToken_37 rfl (lv_at hl 0 rfl) ?_
      obtain ⟨j13, hv14, hsp⟩ := fr_b1 hsp
      refine fr_getr C hR ha Fg_RX10_21 rfl hv14 dX10_addToken_38 ?_
      refine lv_aload_n hx hb dX10_addToken_41 rfl (lv_at hl 0 rfl) ?_
      refine fr_geti C hR ha Fg_RX10_38 rfl dX10_addToken_42 ?_
      refine lv_iload_n hx hb dX10_addToken_45 rfl (lv_at hl 3 rfl) ?_
      obtain ⟨hk15, hsp⟩ := fr_ck hsp
      obtain ⟨hi16, hsp⟩ := fr_ck hsp
      refine fr_iast C hR hk15 hi16 dX10_addToken_46 (fun H locs hR => ?_)
      obtain ⟨h17, eh17⟩ : ∃ z, z = fh_sI h12 j13 (Int32.toNatClampNeg (h12.1 a 4)) x3 := ⟨_, rfl⟩
      rw [← eh17] at hR
      have hsp := fr_let eh17 hsp
      refine lv_aload_n hx hb dX10_addToken_47 rfl (lv_at hl 0 rfl) ?_
      refine lv_dup hx hb dX10_addToken_48 rfl ?_
      refine fr_geti C hR ha Fg_RX10_38 rfl dX10_addToken_49 ?_
      refine lv_iconst (v := 1) hx hb dX10_addToken_52 (by decide) ?_
      refine lv_iadd hx hb dX10_addToken_53 ?_
      refine fr_puti C hR ha Fp_RX10_38 rfl dX10_addToken_54 (fun H locs hR => ?_)
      obtain ⟨h18, eh18⟩ : ∃ z, z = fh_sI h17 a 4 ((h17.1 a 4) + (1 : Int32)) := ⟨_, rfl⟩
      rw [← eh18] at hR
      have hsp := fr_let eh18 hsp
      exact fr_vret C hr hlocks hR (fr_s1 hsp) dX10_addToken_57
