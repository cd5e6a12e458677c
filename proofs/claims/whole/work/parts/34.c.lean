/-! TermRows$Tape.expect(I)V -/
def z_X10_expect (S : fh_S) (h : fh_H) (a : Nat) (x1 : Int32) : Option fh_H :=
    fh_b2 (z_X10_take S h a x1) (fun r1 h2 => if r1 = 0 then (fh_b1 (z_X10_fail S h2 a (1 : Int32)) (fun h5 => some h5)) else (some h2))
set_option maxHeartbeats 4000000 in
set_option maxRecDepth 100000 in
theorem k_X10_expect {l : Launch} {S : fh_S} {g : fh_G} {h h' : fh_H} (hj : fh_inj S g) {a : Nat} {x1 : Int32} (ha : fh_kq S a 10 = true) (hsp : z_X10_expect S h a x1 = some h') : fh_M l yX10_expect cX10_expect 2 none (fh_rm 3) S g [.ref (g.2.2 a), .int x1] h none h' := by
  unfold z_X10_expect at hsp
  refine fr_head (own := RX10) (by decide) rfl hj (Nat.le_of_ble_eq_true rfl) ?_
  intro p e s m below meth c ls C hr hlocks hR hl
  have hl : lv_has ls 2 [(0, .ref (g.2.2 a)), (1, .int x1)] := hl
  have hx := C.1.1
  have hb := C.1.2.1
  refine lv_aload_n hx hb dX10_expect_0 rfl (lv_at hl 0 rfl) ?_
  refine lv_iload_n hx hb dX10_expect_1 rfl (lv_at hl 1 rfl) ?_
  obtain ⟨r1, h2, E3, hsp⟩ := fr_b2 hsp
  refine fq_callV (rest := []) (st1 := [.int r1]) C hR (k_X10_take C.2.2 ha E3) Y_X10_take YV_X10_take Lk_RX10_114 ha ⟨_, _, rfl, by decide⟩ rfl hl.1 ⟨Nat.le_of_ble_eq_true rfl, Nat.le_of_ble_eq_true rfl⟩ rfl (Nat.le_of_ble_eq_true rfl) ⟨Nat.zero_le _, Nat.zero_le _⟩ rfl dX10_expect_2 (fun H locs hR => ?_)
  refine lv_if_ne (tgt := 13) hx hb dX10_expect_5 (by decide) (fun c4 => ?_) (fun c4 => ?_)
  · rw [if_neg c4] at hsp
    exact fr_vret C hr hlocks hR (fr_s1 hsp) dX10_expect_13
  · rw [if_pos c4] at hsp
    refine lv_aload_n hx hb dX10_expect_8 rfl (lv_at hl 0 rfl) ?_
    refine lv_iconst (v := 1) hx hb dX10_expect_9 (by decide) ?_
    obtain ⟨h5, E6, hsp⟩ := fr_b1 hsp
    refine fq_callV (rest := []) (st1 := []) C hR (k_X10_fail C.2.2 ha E6) Y_X10_fail YV_X10_fail Lk_RX10_117 ha ⟨_, _, rfl, by decide⟩ rfl hl.1 ⟨Nat.le_of_ble_eq_true rfl, Nat.le_of_ble_eq_true rfl⟩ rfl (Nat.le_of_ble_eq_true rfl) ⟨Nat.zero_le _, Nat.zero_le _⟩ rfl dX10_expect_10 (fun H locs hR => ?_)
    exact fr_vret C hr hlocks hR (fr_s1 hsp) dX10_expect_13

/-! TermRows.feed(IIIII)I -/
def z_X11_feed (S : fh_S) (h : fh_H) (a : Nat) (x1 : Int32) (x2 : Int32) (x3 : Int32) (x4 : Int32) (x5 : Int32) : Option (Int32 × fh_H) :=
    fh_b1 (h.2.2 a 6) (fun j1 => fh_ck (fh_kq S j1 10) (if ((h.1 j1 6) + (20 : Int32)) ≤ (200 : Int32) then (fh_b1 (z_X10_addFour S h j1 x1) (fun h5 => fh_b1 (h5.2.2 a 6) (fun j7 => fh_ck (fh_kq S j7 10) (fh_b1 (z_X10_addFour S h5 j7 x2) (fun h10 => fh_b1 (h10.2.2 a 6) (fun j12 => fh_ck (fh_kq S j12 10) (fh_b1 (z_X10_addFour S h10 j12 x3) (fun h15 => fh_b1 (h15.2.2 a 6) (fun j17 => fh_ck (fh_kq S j17 10) (fh_b1 (z_X10_addFour S h15 j17 x4) (fun h20 => fh_b1 (h20.2.2 a 6) (fun j22 => fh_ck (fh_kq S j22 10) (fh_b1 (z_X10_addFour S h20 j22 x5) (fun h25 => fh_b1 (h25.2.2 a 6) (fun j27 => fh_ck (fh_kq S j27 10) (some ((h25.1 j27 6), h25))))))))))))))))) else (some ((-1 : Int32), h))))
set_option maxHeartbeats 4000000 in
set_option maxRecDepth 100000 in
theorem k_X11_feed {l : Launch} {S : fh_S} {g : fh_G} {h h' : fh_H} (hj : fh_inj S g) {a : Nat} {x1 : Int32} {x2 : Int32} {x3 : Int32} {x4 : Int32} {x5 : Int32} {r : Int32} (ha : fh_kq S a 11 = true) (hsp : z_X11_feed S h a x1 x2 x3 x4 x5 = some (r, h')) : fh_M l yX11_feed cX11_feed 6 (some .int) (fh_rm 3) S g [.ref (g.2.2 a), .int x1, .int x2, .int x3, .int x4, .int x5] h (some (.int r)) h' := by
  unfold z_X11_feed at hsp
  refine fr_head (own := RX11) (by decide) rfl hj (Nat.le_of_ble_eq_true rfl) ?_
  intro p e s m below meth c ls C hr hlocks hR hl
  have hl : lv_has ls 6 [(0, .ref (g.2.2 a)), (1, .int x1), (2, .int x2), (3, .int x3), (4, .int x4), (5, .int x5)] := hl
  have hx := C.1.1
  have hb := C.1.2.1
  refine lv_aload_n hx hb dX11_feed_0 rfl (lv_at hl 0 rfl) ?_
  obtain ⟨j1, hv2, hsp⟩ := fr_b1 hsp
  refine fr_getr C hR ha Fg_RX11_53 rfl hv2 dX11_feed_1 ?_
  obtain ⟨hk3, hsp⟩ := fr_ck hsp
  refine fr_geti C hR hk3 Fg_RX11_80 rfl dX11_feed_4 ?_
  refine lv_bipush (v := 20) hx hb dX11_feed_7 (by decide) ?_
  refine lv_iadd hx hb dX11_feed_9 ?_
  refine lv_sipush (v := 200) hx hb dX11_feed_10 (by decide) ?_
  refine lv_icmp_le (tgt := 18) hx hb dX11_feed_13 (by decide) (fun c4 => ?_) (fun c4 => ?_)
  · rw [if_pos c4] at hsp
    refine lv_aload_n hx hb dX11_feed_18 rfl (lv_at hl 0 rfl) ?_
    refine fr_getr C hR ha Fg_RX11_53 rfl hv2 dX11_feed_19 ?_
    refine lv_iload_n hx hb dX11_feed_22 rfl (lv_at hl 1 rfl) ?_
    obtain ⟨h5, E6, hsp⟩ := fr_b1 hsp
    refine fq_callV (rest := []) (st1 := []) C hR (k_X10_addFour C.2.2 hk3 E6) Y_X10_addFour YV_X10_addFour Lk_RX11_84 hk3 ⟨_, _, rfl, by decide⟩ rfl hl.1 ⟨Nat.le_of_ble_eq_true rfl, Nat.le_of_ble_eq_true rfl⟩ rfl (Nat.le_of_ble_eq_true rfl) ⟨Nat.zero_le _, Nat.zero_le _⟩ rfl dX11_feed_23 (fun H locs hR => ?_)
    refine lv_aload_n hx hb dX11_feed_26 rfl (lv_at hl 0 rfl) ?_
    obtain ⟨j7, hv8, hsp⟩ := fr_b1 hsp
    refine fr_getr C hR ha Fg_RX11_53 rfl hv8 dX11_feed_27 ?_
    refine lv_iload_n hx hb dX11_feed_30 rfl (lv_at hl 2 rfl) ?_
    obtain ⟨hk9, hsp⟩ := fr_ck hsp
    obtain ⟨h10, E11, hsp⟩ := fr_b1 hsp
    refine fq_callV (rest := []) (st1 := []) C hR (k_X10_addFour C.2.2 hk9 E11) Y_X10_addFour YV_X10_addFour Lk_RX11_84 hk9 ⟨_, _, rfl, by decide⟩ rfl hl.1 ⟨Nat.le_of_ble_eq_true rfl, Nat.le_of_ble_eq_true rfl⟩ rfl (Nat.le_of_ble_eq_true rfl) ⟨Nat.zero_le _, Nat.zero_le _⟩ rfl dX11_feed_31 (fun H locs hR => ?_)
    refine lv_aload_n hx hb dX11_feed_34 rfl (lv_at hl 0 rfl) ?_
    obtain ⟨j12, hv13, hsp⟩ := fr_b1 hsp
    refine fr_getr C hR ha Fg_RX11_53 rfl hv13 dX11_feed_35 ?_
    refine lv_iload_n hx hb dX11_feed_38 rfl (lv_at hl 3 rfl) ?_
    obtain ⟨hk14, hsp⟩ := fr_ck hsp
    obtain ⟨h15, E16, hsp⟩ := fr_b1 hsp
    refine fq_callV (rest := []) (st1 := []) C hR (k_X10_addFour C.2.2 hk14 E16) Y_X10_addFour YV_X10_addFour Lk_RX11_84 hk14 ⟨_, _, rfl, by decide⟩ rfl hl.1 ⟨Nat.le_of_ble_eq_true rfl, Nat.le_of_ble_eq_true rfl⟩ rfl (Nat.le_of_ble_eq_true rfl) ⟨Nat.zero_le _, Nat.zero_le _⟩ rfl dX11_feed_39 (fun H locs hR => ?_)
    refine lv_aload_n hx hb dX11_feed_42 rfl (lv_at hl 0 rfl) ?_
    obtain ⟨j17, hv18, hsp⟩ := fr_b1 hsp
    refine fr_getr C hR ha Fg_RX11_53 rfl hv18 dX11_feed_43 ?_
    refine lv_iload hx hb dX11_feed_46 (lv_at hl 4 rfl) ?_
    obtain ⟨hk19, hsp⟩ := fr_ck hsp
    obtain ⟨h20, E21, hsp⟩ := fr_b1 hsp
    refine fq_callV (rest := []) (st1 := []) C hR (k_X10_addFour C.2.2 hk19 E21) Y_X10_addFour YV_X10_addFour Lk_RX11_84 hk19 ⟨_, _, rfl, by decide⟩ rfl hl.1 ⟨Nat.le_of_ble_eq_true rfl, Nat.le_of_ble_eq_true rfl⟩ rfl (Nat.le_of_ble_eq_true rfl) ⟨Nat.zero_le _, Nat.zero_le _⟩ rfl dX11_feed_48 (fun H locs hR => ?_)
    refine lv_aload_n hx hb dX11_feed_51 rfl (lv_at hl 0 rfl) ?_
    obtain ⟨j22, hv23, hsp⟩ := fr_b1 hsp
    refine fr_getr C hR ha Fg_RX11_53 rfl hv23 dX11_feed_52 ?_
    refine lv_iload hx hb dX11_feed_55 (lv_at hl 5 rfl) ?_
    obtain ⟨hk24, hsp⟩ := fr_ck hsp
    obtain ⟨h25, E26, hsp⟩ := fr_b1 hsp
    refine fq_callV (rest := []) (st1 := []) C hR (k_X10_addFour C.2.2 hk24 E26) Y_X10_addFour YV_X10_addFour Lk_RX11_84 hk24 ⟨_, _, rfl, by decide⟩ rfl hl.1 ⟨Nat.le_of_ble_eq_true rfl, Nat.le_of_ble_eq_true rfl⟩ rfl (Nat.le_of_ble_eq_true rfl) ⟨Nat.zero_le _, Nat.zero_le _⟩ rfl dX11_feed_57 (fun H locs hR => ?_)
    refine lv_aload_n hx hb dX11_feed_60 rfl (lv_at hl 0 rfl) ?_
    obtain ⟨j27, hv28, hsp⟩ := fr_b1 hsp
    refine fr_getr C hR ha Fg_RX11_53 rfl hv28 dX11_feed_61 ?_
    obtain ⟨hk29, hsp⟩ := fr_ck hsp
    refine fr_geti C hR hk29 Fg_RX11_80 rfl dX11_feed_64 ?_
    obtain ⟨e1, e2⟩ := fr_s2 hsp
    exact fr_iret C hr hlocks hR e1 e2 dX11_feed_67
  · rw [if_neg c4] at hsp
    refine lv_iconst (v := -1) hx hb dX11_feed_16 (by decide) ?_
    obtain ⟨e1, e2⟩ := fr_s2 hsp
    exact fr_iret C hr hlocks hR e1 e2 dX11_feed_17

/-! TermRows.reckonRoot(LTermRows$Row;)V -/
def z_X11_reckonRoot_b94 (S : fh_S) (a : Nat) : Nat → fh_H → Nat → Int32 → Option fh_H
  | 0, _, _, _ => none
  | n + 1, h, y1, y3 =>
    if (60 : Int32) ≤ y3 then (fh_ck (fh_kq S y1 6) (fh_let (fh_sI h y1 7 (0 : Int32)) (fun h3 => some h3))) else (fh_b1 (h.2.2 a 4) (fun j4 => fh_ck (fh_kq S j4 9) (fh_b1 (z_X9_whole S h j4) (fun r7 => fh_ck (fh_kq S y1 6) (fh_b1 (z_X6_add S h y1 (Int64.toInt32 r7) (0 : Int32) (0 : Int32)) (fun h10 => fh_b1 (h10.2.2 a 4) (fun j12 => fh_ck (fh_kq S j12 9) (fh_b1 (z_X9_leave S h10 j12 r7) (fun h15 => fh_let (y3 + 1) (fun v17 => z_X11_reckonRoot_b94 S a n h15 y1 v17))))))))))
def z_X11_reckonRoot_b45 (S : fh_S) (a : Nat) (h : fh_H) (y2 : Nat) (t0 : Int64) (t1 : Nat) : Option fh_H :=
    fh_ck (fh_kq S y2 3) (if 0 ≤ (h.1 y2 5) then (fh_ck (fh_kq S t1 6) (fh_b1 (z_X6_divide S h t1 t0 (Int32.toInt64 (h.1 y2 5))) (fun h4 => some h4))) else (fh_ck (fh_kq S t1 6) (fh_b1 (z_X6_divide S h t1 t0 (Int32.toInt64 (-(h.1 y2 5)))) (fun h7 => some h7))))
def z_X11_reckonRoot (S : fh_S) (h : fh_H) (a : Nat) (x1 : Nat) : Option fh_H :=
    fh_b1 (h.2.2 x1 4) (fun j1 => fh_ck (fh_kq S j1 3) (fh_b1 (z_X11_isSquare (Int32.toInt64 (h.1 j1 4))) (fun r4 => if r4 = 0 then (fh_b1 (h.2.2 a 4) (fun j7 => fh_ck (fh_kq S j7 9) (fh_b1 (z_X9_start S h j7 (Int32.toInt64 (h.1 j1 3)) (Int32.toInt64 (h.1 j1 4)) (Int32.toInt64 (h.1 j1 5))) (fun h10 => z_X11_reckonRoot_b94 S a 20000 h10 x1 (0 : Int32))))) else (fh_b1 (z_X11_wholeRoot (Int32.toInt64 (h.1 j1 4))) (fun r12 => fh_let (((Int32.toInt64 (h.1 j1 3)) + r12)) (fun v14 => if 0 ≤ (h.1 j1 5) then (z_X11_reckonRoot_b45 S a h j1 v14 x1) else (z_X11_reckonRoot_b45 S a h j1 (-v14) x1)))))))
set_option maxHeartbeats 4000000 in
set_option maxRecDepth 100000 in
theorem k_X11_reckonRoot {l : Launch} {S : fh_S} {g : fh_G} {h h' : fh_H} (hj : fh_inj S g) {a : Nat} {x1 : Nat} (ha : fh_kq S a 11 = true) (k_x1 : fh_kq S x1 6 = true) (hsp : z_X11_reckonRoot S h a x1 = some h') : fh_M l yX11_reckonRoot cX11_reckonRoot 6 none (fh_rm 3) S g [.ref (g.2.2 a), .ref (g.2.2 x1)] h none h' := by
  unfold z_X11_reckonRoot at hsp
  refine fr_head (own := RX11) (by decide) rfl hj (Nat.le_of_ble_eq_true rfl) ?_
  intro p e s m below meth c ls C hr hlocks hR hl
  have hl : lv_has ls 6 [(0, .ref (g.2.2 a)), (1, .ref (g.2.2 x1))] := hl
  have hx := C.1.1
  have hb := C.1.2.1
  have hb_94 : ∀ (n : Nat) (h : fh_H) (y1 : Nat) (y3 : Int32) (H : Heap) (locs : List Loc) (ls : Array Slot), z_X11_reckonRoot_b94 S a n h y1 y3 = some h' → fh_R S g s.heap h H locs → lv_has ls 6 [(0, .ref (g.2.2 a)), (1, .ref (g.2.2 y1)), (3, .int y3)] → fh_Wk p l e 3 s m [.ref (g.2.2 a), .ref (g.2.2 x1)] below meth c S g none h' H locs (F0 m 94 ls []) := by
    intro n
    induction n with
    | zero => intro h y1 y3 H locs ls hsp; cases hsp
    | succ n ih =>
      intro h y1 y3 H locs ls hsp hR hl
      rw [z_X11_reckonRoot_b94] at hsp
      refine lv_iload_n hx hb dX11_reckonRoot_94 rfl (lv_at hl 2 rfl) ?_
      refine lv_bipush (v := 60) hx hb dX11_reckonRoot_95 (by decide) ?_
      refine lv_icmp_ge (tgt := 133) hx hb dX11_reckonRoot_97 (by decide) (fun c1 => ?_) (fun c1 => ?_)
      · rw [if_pos c1] at hsp
        refine lv_aload_n hx hb dX11_reckonRoot_133 rfl (lv_at hl 1 rfl) ?_
        refine lv_iconst (v := 0) hx hb dX11_reckonRoot_134 (by decide) ?_
        obtain ⟨hk2, hsp⟩ := fr_ck hsp
        refine fr_puti C hR hk2 Fp_RX11_178 rfl dX11_reckonRoot_135 (fun H locs hR => ?_)
        obtain ⟨h3, eh3⟩ : ∃ z, z = fh_sI h y1 7 (0 : Int32) := ⟨_, rfl⟩
        rw [← eh3] at hR
        have hsp := fr_let eh3 hsp
        exact fr_vret C hr hlocks hR (fr_s1 hsp) dX11_reckonRoot_138
      · rw [if_neg c1] at hsp
        refine lv_aload_n hx hb dX11_reckonRoot_100 rfl (lv_at hl 0 rfl) ?_
        obtain ⟨j4, hv5, hsp⟩ := fr_b1 hsp
        refine fr_getr C hR ha Fg_RX11_39 rfl hv5 dX11_reckonRoot_101 ?_
        obtain ⟨hk6, hsp⟩ := fr_ck hsp
        obtain ⟨r7, E8, hsp⟩ := fr_b1 hsp
        refine fq_callV (rest := []) (st1 := [.long r7]) C hR (k_X9_whole C.2.2 hk6 E8) Y_X9_whole YV_X9_whole Lk_RX11_307 hk6 ⟨_, _, rfl, by decide⟩ rfl hl.1 ⟨Nat.le_of_ble_eq_true rfl, Nat.le_of_ble_eq_true rfl⟩ rfl (Nat.le_of_ble_eq_true rfl) ⟨Nat.zero_le _, Nat.zero_le _⟩ rfl dX11_reckonRoot_104 (fun H locs hR => ?_)
        refine lv_lstore (lv' := [(4, .long r7), (0, .ref (g.2.2 a)), (1, .ref (g.2.2 y1)), (3, .int y3)]) hx hb dX11_reckonRoot_107 hl (by decide) rfl (fun ls hl => ?_)
        refine lv_aload_n hx hb dX11_reckonRoot_109 rfl (lv_at hl 2 rfl) ?_
        refine lv_lload hx hb dX11_reckonRoot_110 (lv_at hl 0 rfl) ?_
        refine lv_l2i hx hb dX11_reckonRoot_112 rfl ?_
        refine lv_iconst (v := 0) hx hb dX11_reckonRoot_113 (by decide) ?_
        refine lv_iconst (v := 0) hx hb dX11_reckonRoot_114 (by decide) ?_
        obtain ⟨hk9, hsp⟩ := fr_ck hsp
        obtain ⟨h10, E11, hsp⟩ := fr_b1 hsp
        refine fq_callV (rest := []) (st1 := []) C hR (k_X6_add C.2.2 hk9 E11) Y_X6_add YV_X6_add Lk_RX11_393 hk9 ⟨_, _, rfl, by decide⟩ rfl hl.1 ⟨Nat.le_of_ble_eq_true rfl, Nat.le_of_ble_eq_true rfl⟩ rfl (Nat.le_of_ble_eq_true rfl) ⟨Nat.zero_le _, Nat.zero_le _⟩ rfl dX11_reckonRoot_115 (fun H locs hR => ?_)
        refine lv_aload_n hx hb dX11_reckonRoot_118 rfl (lv_at hl 1 rfl) ?_
        obtain ⟨j12, hv13, hsp⟩ := fr_b1 hsp
        refine fr_getr C hR ha Fg_RX11_39 rfl hv13 dX11_reckonRoot_119 ?_
        refine lv_lload hx hb dX11_reckonRoot_122 (lv_at hl 0 rfl) ?_
        obtain ⟨hk14, hsp⟩ := fr_ck hsp
        obtain ⟨h15, E16, hsp⟩ := fr_b1 hsp
        refine fq_callV (rest := []) (st1 := []) C hR (k_X9_leave C.2.2 hk14 E16) Y_X9_leave YV_X9_leave Lk_RX11_311 hk14 ⟨_, _, rfl, by decide⟩ rfl hl.1 ⟨Nat.le_of_ble_eq_true rfl, Nat.le_of_ble_eq_true rfl⟩ rfl (Nat.le_of_ble_eq_true rfl) ⟨Nat.zero_le _, Nat.zero_le _⟩ rfl dX11_reckonRoot_124 (fun H locs hR => ?_)
        obtain ⟨v17, ev17⟩ : ∃ z : Int32, z = y3 + 1 := ⟨_, rfl⟩
        have hsp := fr_let ev17 hsp
        refine lv_iinc (v := v17) (lv' := [(3, .int v17), (4, .long r7), (0, .ref (g.2.2 a)), (1, .ref (g.2.2 y1))]) hx hb dX11_reckonRoot_127 hl (k := 3) rfl (by rw [ev17]; rfl) (by decide) rfl (fun ls hl => ?_)
        refine lv_goto (tgt := 94) hx hb dX11_reckonRoot_130 (by decide) ?_
        exact ih h15 y1 v17 _ _ _ hsp hR (lv_sub hl [2, 3, 0] rfl)
  have hb_45 : ∀ (h : fh_H) (y2 : Nat) (t0 : Int64) (t1 : Nat) (H : Heap) (locs : List Loc) (ls : Array Slot), z_X11_reckonRoot_b45 S a h y2 t0 t1 = some h' → fh_R S g s.heap h H locs → lv_has ls 6 [(2, .ref (g.2.2 y2))] → fh_Wk p l e 3 s m [.ref (g.2.2 a), .ref (g.2.2 x1)] below meth c S g none h' H locs (F0 m 45 ls [.long t0, .ref (g.2.2 t1)]) := by
    intro h y2 t0 t1 H locs ls hsp hR hl
    unfold z_X11_reckonRoot_b45 at hsp
    refine lv_aload_n hx hb dX11_reckonRoot_45 rfl (lv_at hl 0 rfl) ?_
    obtain ⟨hk1, hsp⟩ := fr_ck hsp
    refine fr_geti C hR hk1 Fg_RX11_301 rfl dX11_reckonRoot_46 ?_
    refine lv_if_ge (tgt := 61) hx hb dX11_reckonRoot_49 (by decide) (fun c2 => ?_) (fun c2 => ?_)
    · rw [if_pos c2] at hsp
      refine lv_aload_n hx hb dX11_reckonRoot_61 rfl (lv_at hl 0 rfl) ?_
      refine fr_geti C hR hk1 Fg_RX11_301 rfl dX11_reckonRoot_62 ?_
      refine lv_i2l hx hb dX11_reckonRoot_65 rfl ?_
      obtain ⟨hk3, hsp⟩ := fr_ck hsp
      obtain ⟨h4, E5, hsp⟩ := fr_b1 hsp
      refine fq_callV (rest := []) (st1 := []) C hR (k_X6_divide C.2.2 hk3 E5) Y_X6_divide YV_X6_divide Lk_RX11_367 hk3 ⟨_, _, rfl, by decide⟩ rfl hl.1 ⟨Nat.le_of_ble_eq_true rfl, Nat.le_of_ble_eq_true rfl⟩ rfl (Nat.le_of_ble_eq_true rfl) ⟨Nat.zero_le _, Nat.zero_le _⟩ rfl dX11_reckonRoot_66 (fun H locs hR => ?_)
      exact fr_vret C hr hlocks hR (fr_s1 hsp) dX11_reckonRoot_69
    · rw [if_neg c2] at hsp
      refine lv_aload_n hx hb dX11_reckonRoot_52 rfl (lv_at hl 0 rfl) ?_
      refine fr_geti C hR hk1 Fg_RX11_301 rfl dX11_reckonRoot_53 ?_
      refine lv_ineg hx hb dX11_reckonRoot_56 ?_
      refine lv_i2l hx hb dX11_reckonRoot_57 rfl ?_
      refine lv_goto (tgt := 66) hx hb dX11_reckonRoot_58 (by decide) ?_
      obtain ⟨hk6, hsp⟩ := fr_ck hsp
      obtain ⟨h7, E8, hsp⟩ := fr_b1 hsp
      refine fq_callV (rest := []) (st1 := []) C hR (k_X6_divide C.2.2 hk6 E8) Y_X6_divide YV_X6_divide Lk_RX11_367 hk6 ⟨_, _, rfl, by decide⟩ rfl hl.1 ⟨Nat.le_of_ble_eq_true rfl, Nat.le_of_ble_eq_true rfl⟩ rfl (Nat.le_of_ble_eq_true rfl) ⟨Nat.zero_le _, Nat.zero_le _⟩ rfl dX11_reckonRoot_66 (fun H locs hR => ?_)
      exact fr_vret C hr hlocks hR (fr_s1 hsp) dX11_reckonRoot_69
  refine lv_aload_n hx hb dX11_reckonRoot_0 rfl (lv_at hl 1 rfl) ?_
  obtain ⟨j1, hv2, hsp⟩ := fr_b1 hsp
  refine fr_getr C hR k_x1 Fg_RX11_168 rfl hv2 dX11_reckonRoot_1 ?_
  refine lv_astore_n (lv' := [(2, .ref (g.2.2 j1)), (0, .ref (g.2.2 a)), (1, .ref (g.2.2 x1))]) hx hb dX11_reckonRoot_4 rfl hl (by decide) rfl (fun ls hl => ?_)
  refine lv_aload_n hx hb dX11_reckonRoot_5 rfl (lv_at hl 0 rfl) ?_
  obtain ⟨hk3, hsp⟩ := fr_ck hsp
  refine fr_geti C hR hk3 Fg_RX11_287 rfl dX11_reckonRoot_6 ?_
  refine lv_i2l hx hb dX11_reckonRoot_9 rfl ?_
  obtain ⟨r4, E5, hsp⟩ := fr_b1 hsp
  refine fq_callS (rest := []) (st1 := [.int r4]) C hR (k_X11_isSquare C.2.2 E5) Y_X11_isSquare YS_X11_isSquare Lk_RX11_290 rfl hl.1 ⟨Nat.le_of_ble_eq_true rfl, Nat.le_of_ble_eq_true rfl⟩ rfl (Nat.le_of_ble_eq_true rfl) ⟨Nat.zero_le _, Nat.zero_le _⟩ rfl dX11_reckonRoot_10 (fun H locs hR => ?_)
  refine lv_if_eq (tgt := 70) hx hb dX11_reckonRoot_13 (by decide) (fun c6 => ?_) (fun c6 => ?_)
  · rw [if_pos c6] at hsp
    refine lv_aload_n hx hb dX11_reckonRoot_70 rfl (lv_at hl 1 rfl) ?_
    obtain ⟨j7, hv8, hsp⟩ := fr_b1 hsp
    refine fr_getr C hR ha Fg_RX11_39 rfl hv8 dX11_reckonRoot_71 ?_
    refine lv_aload_n hx hb dX11_reckonRoot_74 rfl (lv_at hl 0 rfl) ?_
    refine fr_geti C hR hk3 Fg_RX11_298 rfl dX11_reckonRoot_75 ?_
    refine lv_i2l hx hb dX11_reckonRoot_78 rfl ?_
    refine lv_aload_n hx hb dX11_reckonRoot_79 rfl (lv_at hl 0 rfl) ?_
    refine fr_geti C hR hk3 Fg_RX11_287 rfl dX11_reckonRoot_80 ?_
    refine lv_i2l hx hb dX11_reckonRoot_83 rfl ?_
    refine lv_aload_n hx hb dX11_reckonRoot_84 rfl (lv_at hl 0 rfl) ?_
    refine fr_geti C hR hk3 Fg_RX11_301 rfl dX11_reckonRoot_85 ?_
    refine lv_i2l hx hb dX11_reckonRoot_88 rfl ?_
    obtain ⟨hk9, hsp⟩ := fr_ck hsp
    obtain ⟨h10, E11, hsp⟩ := fr_b1 hsp
    refine fq_callV (rest := []) (st1 := []) C hR (k_X9_start C.2.2 hk9 E11) Y_X9_start YV_X9_start Lk_RX11_304 hk9 ⟨_, _, rfl, by decide⟩ rfl hl.1 ⟨Nat.le_of_ble_eq_true rfl, Nat.le_of_ble_eq_true rfl⟩ rfl (Nat.le_of_ble_eq_true rfl) ⟨Nat.zero_le _, Nat.zero_le _⟩ rfl dX11_reckonRoot_89 (fun H locs hR => ?_)
    refine lv_iconst (v := 0) hx hb dX11_reckonRoot_92 (by decide) ?_
    refine lv_istore_n (lv' := [(3, .int (0 : Int32)), (2, .ref (g.2.2 j1)), (0, .ref (g.2.2 a)), (1, .ref (g.2.2 x1))]) hx hb dX11_reckonRoot_93 rfl hl (by decide) rfl (fun ls hl => ?_)
    exact hb_94 20000 h10 x1 (0 : Int32) _ _ _ hsp hR (lv_sub hl [2, 3, 0] rfl)
  · rw [if_neg c6] at hsp
    refine lv_aload_n hx hb dX11_reckonRoot_16 rfl (lv_at hl 0 rfl) ?_
    refine fr_geti C hR hk3 Fg_RX11_298 rfl dX11_reckonRoot_17 ?_
    refine lv_i2l hx hb dX11_reckonRoot_20 rfl ?_
    refine lv_aload_n hx hb dX11_reckonRoot_21 rfl (lv_at hl 0 rfl) ?_
    refine fr_geti C hR hk3 Fg_RX11_287 rfl dX11_reckonRoot_22 ?_
    refine lv_i2l hx hb dX11_reckonRoot_25 rfl ?_
    obtain ⟨r12, E13, hsp⟩ := fr_b1 hsp
    refine fq_callS (rest := [.long (Int32.toInt64 (h.1 j1 3))]) (st1 := [.long r12, .long (Int32.toInt64 (h.1 j1 3))]) C hR (k_X11_wholeRoot C.2.2 E13) Y_X11_wholeRoot YS_X11_wholeRoot Lk_RX11_350 rfl hl.1 ⟨Nat.le_of_ble_eq_true rfl, Nat.le_of_ble_eq_true rfl⟩ rfl (Nat.le_of_ble_eq_true rfl) ⟨Nat.zero_le _, Nat.zero_le _⟩ rfl dX11_reckonRoot_26 (fun H locs hR => ?_)
    refine lv_ladd hx hb dX11_reckonRoot_29 ?_
    refine lv_topl (fun v14 ev14 => ?_)
    have hsp := fr_let ev14 hsp
    refine lv_lstore_n (lv' := [(3, .long v14), (2, .ref (g.2.2 j1)), (0, .ref (g.2.2 a)), (1, .ref (g.2.2 x1))]) hx hb dX11_reckonRoot_30 rfl hl (by decide) rfl (fun ls hl => ?_)
    refine lv_aload_n hx hb dX11_reckonRoot_31 rfl (lv_at hl 3 rfl) ?_
    refine lv_aload_n hx hb dX11_reckonRoot_32 rfl (lv_at hl 1 rfl) ?_
    refine fr_geti C hR hk3 Fg_RX11_301 rfl dX11_reckonRoot_33 ?_
    refine lv_if_ge (tgt := 44) hx hb dX11_reckonRoot_36 (by decide) (fun c15 => ?_) (fun c15 => ?_)
    · rw [if_pos c15] at hsp
      refine lv_lload_n hx hb dX11_reckonRoot_44 rfl (lv_at hl 0 rfl) ?_
      exact hb_45 h j1 v14 x1 _ _ _ hsp hR (lv_sub hl [1] rfl)
    · rw [if_neg c15] at hsp
      refine lv_lload_n hx hb dX11_reckonRoot_39 rfl (lv_at hl 0 rfl) ?_
      refine lv_lneg hx hb dX11_reckonRoot_40 ?_
      refine lv_goto (tgt := 45) hx hb dX11_reckonRoot_41 (by decide) ?_
      exact hb_45 h j1 (-v14) x1 _ _ _ hsp hR (lv_sub hl [1] rfl)

/-! TermRows.markStale(LTermRows$Row;)V -/
def z_X11_markStale_b12 (S : fh_S) (a : Nat) : Nat → fh_H → Int32 → Option fh_H
  | 0, _, _ => none
  | n + 1, h, y2 =>
    if y2 ≤ 0 then (some h) else (fh_b1 (h.2.2 a 0) (fun j2 => fh_ck (fh_kq S j2 16) (if (Int32.ofNat (S.2.2 j2)) ≤ y2 then (some h) else (fh_ck (fh_in y2 (S.2.2 j2)) (fh_nn (h.2.2 j2 (Int32.toNatClampNeg y2)) (fh_let (y2 + 1) (fun v9 => z_X11_markStale_b12 S a n h v9)) (fun j7 => fh_ck (fh_kq S j7 6) (fh_b1 (h.2.2 j7 4) (fun j11 => fh_ck (fh_kq S j11 3) (fh_b1 (z_X11_isStaleSource S h a j7 (h.1 j11 1)) (fun r14 => if r14 = 0 then (fh_b1 (z_X11_isStaleSource S h a j7 (h.1 j11 2)) (fun r19 => if r19 = 0 then (fh_let (y2 + 1) (fun v22 => z_X11_markStale_b12 S a n h v22)) else (fh_let (fh_sI h j7 5 (1 : Int32)) (fun h23 => fh_let (y2 + 1) (fun v24 => z_X11_markStale_b12 S a n h23 v24))))) else (fh_let (fh_sI h j7 5 (1 : Int32)) (fun h17 => fh_let (y2 + 1) (fun v18 => z_X11_markStale_b12 S a n h17 v18)))))))))))))
def z_X11_markStale (S : fh_S) (h : fh_H) (a : Nat) (x1 : Nat) : Option fh_H :=
    fh_let (fh_sI h x1 5 (1 : Int32)) (fun h1 => fh_let (((h1.1 x1 0) + (1 : Int32))) (fun v2 => z_X11_markStale_b12 S a 20000 h1 v2))
set_option maxHeartbeats 4000000 in
set_option maxRecDepth 100000 in
theorem k_X11_markStale {l : Launch} {S : fh_S} {g : fh_G} {h h' : fh_H} (hj : fh_inj S g) {a : Nat} {x1 : Nat} (ha : fh_kq S a 11 = true) (k_x1 : fh_kq S x1 6 = true) (hsp : z_X11_markStale S h a x1 = some h') : fh_M l yX11_markStale cX11_markStale 4 none (fh_rm 3) S g [.ref (g.2.2 a), .ref (g.2.2 x1)] h none h' := by
  unfold z_X11_markStale at hsp
  refine fr_head (own := RX11) (by decide) rfl hj (Nat.le_of_ble_eq_true rfl) ?_
  intro p e s m below meth c ls C hr hlocks hR hl
  have hl : lv_has ls 4 [(0, .ref (g.2.2 a)), (1, .ref (g.2.2 x1))] := hl
  have hx := C.1.1
  have hb := C.1.2.1
  have hb_12 : ∀ (n : Nat) (h : fh_H) (y2 : Int32) (H : Heap) (locs : List Loc) (ls : Array Slot), z_X11_markStale_b12 S a n h y2 = some h' → fh_R S g s.heap h H locs → lv_has ls 4 [(0, .ref (g.2.2 a)), (2, .int y2)] → fh_Wk p l e 3 s m [.ref (g.2.2 a), .ref (g.2.2 x1)] below meth c S g none h' H locs (F0 m 12 ls []) := by
    intro n
    induction n with
    | zero => intro h y2 H locs ls hsp; cases hsp
    | succ n ih =>
      intro h y2 H locs ls hsp hR hl
      rw [z_X11_markStale_b12] at hsp
      refine lv_iload_n hx hb dX11_markStale_12 rfl (lv_at hl 1 rfl) ?_
      refine lv_if_le (tgt := 77) hx hb dX11_markStale_13 (by decide) (fun c1 => ?_) (fun c1 => ?_)
      · rw [if_pos c1] at hsp
        exact fr_vret C hr hlocks hR (fr_s1 hsp) dX11_markStale_77
      · rw [if_neg c1] at hsp
        refine lv_iload_n hx hb dX11_markStale_16 rfl (lv_at hl 1 rfl) ?_
        refine lv_aload_n hx hb dX11_markStale_17 rfl (lv_at hl 0 rfl) ?_
        obtain ⟨j2, hv3, hsp⟩ := fr_b1 hsp
        refine fr_getr C hR ha Fg_RX11_11 rfl hv3 dX11_markStale_18 ?_
        obtain ⟨hk4, hsp⟩ := fr_ck hsp
        refine fr_alen C hR hk4 (Or.inr (Or.inr (Or.inr rfl))) dX11_markStale_21 ?_
        refine lv_icmp_ge (tgt := 77) hx hb dX11_markStale_22 (by decide) (fun c5 => ?_) (fun c5 => ?_)
        · rw [if_pos c5] at hsp
          exact fr_vret C hr hlocks hR (fr_s1 hsp) dX11_markStale_77
        · rw [if_neg c5] at hsp
          refine lv_aload_n hx hb dX11_markStale_25 rfl (lv_at hl 0 rfl) ?_
          refine fr_getr C hR ha Fg_RX11_11 rfl hv3 dX11_markStale_26 ?_
          refine lv_iload_n hx hb dX11_markStale_29 rfl (lv_at hl 1 rfl) ?_
          obtain ⟨hi6, hsp⟩ := fr_ck hsp
          rcases hv8 : (h.2.2 j2 (Int32.toNatClampNeg y2)) with _ | j7
          · rw [hv8] at hsp; have hsp := fr_nnN hsp
            refine fr_aaln C hR hk4 (Or.inr rfl) hi6 hv8 dX11_markStale_30 ?_
            refine lv_astore_nN (lv' := [(3, .null), (0, .ref (g.2.2 a)), (2, .int y2)]) hx hb dX11_markStale_31 rfl hl (by decide) rfl (fun ls hl => ?_)
            refine lv_aload_nN hx hb dX11_markStale_32 rfl (lv_at hl 0 rfl) ?_
            refine lv_ifnullN (tgt := 71) hx hb dX11_markStale_33 (by decide) ?_
            obtain ⟨v9, ev9⟩ : ∃ z : Int32, z = y2 + 1 := ⟨_, rfl⟩
            have hsp := fr_let ev9 hsp
            refine lv_iinc (v := v9) (lv' := [(2, .int v9), (3, .null), (0, .ref (g.2.2 a))]) hx hb dX11_markStale_71 hl (k := 2) rfl (by rw [ev9]; rfl) (by decide) rfl (fun ls hl => ?_)
            refine lv_goto (tgt := 12) hx hb dX11_markStale_74 (by decide) ?_
            exact ih h v9 _ _ _ hsp hR (lv_sub hl [2, 0] rfl)
          · rw [hv8] at hsp; have hsp := fr_nnS hsp
            refine fr_aald C hR hk4 (Or.inr rfl) hi6 hv8 dX11_markStale_30 ?_
            refine lv_astore_n (lv' := [(3, .ref (g.2.2 j7)), (0, .ref (g.2.2 a)), (2, .int y2)]) hx hb dX11_markStale_31 rfl hl (by decide) rfl (fun ls hl => ?_)
            refine lv_aload_n hx hb dX11_markStale_32 rfl (lv_at hl 0 rfl) ?_
            refine lv_ifnull hx hb dX11_markStale_33 ?_
            refine lv_aload_n hx hb dX11_markStale_36 rfl (lv_at hl 1 rfl) ?_
            refine lv_aload_n hx hb dX11_markStale_37 rfl (lv_at hl 0 rfl) ?_
            refine lv_aload_n hx hb dX11_markStale_38 rfl (lv_at hl 0 rfl) ?_
            obtain ⟨hk10, hsp⟩ := fr_ck hsp
            obtain ⟨j11, hv12, hsp⟩ := fr_b1 hsp
            refine fr_getr C hR hk10 Fg_RX11_168 rfl hv12 dX11_markStale_39 ?_
            obtain ⟨hk13, hsp⟩ := fr_ck hsp
            refine fr_geti C hR hk13 Fg_RX11_377 rfl dX11_markStale_42 ?_
            obtain ⟨r14, E15, hsp⟩ := fr_b1 hsp
            refine fq_callV (rest := []) (st1 := [.int r14]) C hR (k_X11_isStaleSource C.2.2 ha hk10 E15) Y_X11_isStaleSource YV_X11_isStaleSource Lk_RX11_404 ha ⟨_, _, rfl, by decide⟩ rfl hl.1 ⟨Nat.le_of_ble_eq_true rfl, Nat.le_of_ble_eq_true rfl⟩ rfl (Nat.le_of_ble_eq_true rfl) ⟨Nat.zero_le _, Nat.zero_le _⟩ rfl dX11_markStale_45 (fun H locs hR => ?_)
            refine lv_if_ne (tgt := 66) hx hb dX11_markStale_48 (by decide) (fun c16 => ?_) (fun c16 => ?_)
            · rw [if_neg c16] at hsp
              refine lv_aload_n hx hb dX11_markStale_66 rfl (lv_at hl 0 rfl) ?_
              refine lv_iconst (v := 1) hx hb dX11_markStale_67 (by decide) ?_
              refine fr_putz C hR hk10 Fp_RX11_356 rfl (Or.inr rfl) dX11_markStale_68 (fun H locs hR => ?_)
              obtain ⟨h17, eh17⟩ : ∃ z, z = fh_sI h j7 5 (1 : Int32) := ⟨_, rfl⟩
              rw [← eh17] at hR
              have hsp := fr_let eh17 hsp
              obtain ⟨v18, ev18⟩ : ∃ z : Int32, z = y2 + 1 := ⟨_, rfl⟩
              have hsp := fr_let ev18 hsp
              refine lv_iinc (v := v18) (lv' := [(2, .int v18), (3, .ref (g.2.2 j7)), (0, .ref (g.2.2 a))]) hx hb dX11_markStale_71 hl (k := 2) rfl (by rw [ev18]; rfl) (by decide) rfl (fun ls hl => ?_)
              refine lv_goto (tgt := 12) hx hb dX11_markStale_74 (by decide) ?_
              exact ih h17 v18 _ _ _ hsp hR (lv_sub hl [2, 0] rfl)
            · rw [if_pos c16] at hsp
              refine lv_aload_n hx hb dX11_markStale_51 rfl (lv_at hl 1 rfl) ?_
              refine lv_aload_n hx hb dX11_markStale_52 rfl (lv_at hl 0 rfl) ?_
              refine lv_aload_n hx hb dX11_markStale_53 rfl (lv_at hl 0 rfl) ?_
              refine fr_getr C hR hk10 Fg_RX11_168 rfl hv12 dX11_markStale_54 ?_
              refine fr_geti C hR hk13 Fg_RX11_386 rfl dX11_markStale_57 ?_
              obtain ⟨r19, E20, hsp⟩ := fr_b1 hsp
              refine fq_callV (rest := []) (st1 := [.int r19]) C hR (k_X11_isStaleSource C.2.2 ha hk10 E20) Y_X11_isStaleSource YV_X11_isStaleSource Lk_RX11_404 ha ⟨_, _, rfl, by decide⟩ rfl hl.1 ⟨Nat.le_of_ble_eq_true rfl, Nat.le_of_ble_eq_true rfl⟩ rfl (Nat.le_of_ble_eq_true rfl) ⟨Nat.zero_le _, Nat.zero_le _⟩ rfl dX11_markStale_60 (fun H locs hR => ?_)
              refine lv_if_eq (tgt := 71) hx hb dX11_markStale_63 (by decide) (fun c21 => ?_) (fun c21 => ?_)
              · rw [if_pos c21] at hsp
                obtain ⟨v22, ev22⟩ : ∃ z : Int32, z = y2 + 1 := ⟨_, rfl⟩
                have hsp := fr_let ev22 hsp
                refine lv_iinc (v := v22) (lv' := [(2, .int v22), (3, .ref (g.2.2 j7)), (0, .ref (g.2.2 a))]) hx hb dX11_markStale_71 hl (k := 2) rfl (by rw [ev22]; rfl) (by decide) rfl (fun ls hl => ?_)
                refine lv_goto (tgt := 12) hx hb dX11_markStale_74 (by decide) ?_
                exact ih h v22 _ _ _ hsp hR (lv_sub hl [2, 0] rfl)
              · rw [if_neg c21] at hsp
                refine lv_aload_n hx hb dX11_markStale_66 rfl (lv_at hl 0 rfl) ?_
                refine lv_iconst (v := 1) hx hb dX11_markStale_67 (by decide) ?_
                refine fr_putz C hR hk10 Fp_RX11_356 rfl (Or.inr rfl) dX11_markStale_68 (fun H locs hR => ?_)
                obtain ⟨h23, eh23⟩ : ∃ z, z = fh_sI h j7 5 (1 : Int32) := ⟨_, rfl⟩
                rw [← eh23] at hR
                have hsp := fr_let eh23 hsp
                obtain ⟨v24, ev24⟩ : ∃ z : Int32, z = y2 + 1 := ⟨_, rfl⟩
                have hsp := fr_let ev24 hsp
                refine lv_iinc (v := v24) (lv' := [(2, .int v24), (3, .ref (g.2.2 j7)), (0, .ref (g.2.2 a))]) hx hb dX11_markStale_71 hl (k := 2) rfl (by rw [ev24]; rfl) (by decide) rfl (fun ls hl => ?_)
                refine lv_goto (tgt := 12) hx hb dX11_markStale_74 (by decide) ?_
                exact ih h23 v24 _ _ _ hsp hR (lv_sub hl [2, 0] rfl)
  refine lv_aload_n hx hb dX11_markStale_0 rfl (lv_at hl 1 rfl) ?_
  refine lv_iconst (v := 1) hx hb dX11_markStale_1 (by decide) ?_
  refine fr_putz C hR k_x1 Fp_RX11_356 rfl (Or.inr rfl) dX11_markStale_2 (fun H locs hR => ?_)
  obtain ⟨h1, eh1⟩ : ∃ z, z = fh_sI h x1 5 (1 : Int32) := ⟨_, rfl⟩
  rw [← eh1] at hR
  have hsp := fr_let eh1 hsp
  refine lv_aload_n hx hb dX11_markStale_5 rfl (lv_at hl 1 rfl) ?_
  refine fr_geti C hR k_x1 Fg_RX11_401 rfl dX11_markStale_6 ?_
  refine lv_iconst (v := 1) hx hb dX11_markStale_9 (by decide) ?_
  refine lv_iadd hx hb dX11_markStale_10 ?_
  refine lv_topi (fun v2 ev2 => ?_)
  have hsp := fr_let ev2 hsp
  refine lv_istore_n (lv' := [(2, .int v2), (0, .ref (g.2.2 a)), (1, .ref (g.2.2 x1))]) hx hb dX11_markStale_11 rfl hl (by decide) rfl (fun ls hl => ?_)
  exact hb_12 20000 h1 v2 _ _ _ hsp hR (lv_sub hl [1, 0] rfl)

/-! TermRows.comingAgain(LTermRows$Row;)I -/
def z_X11_comingAgain_b16 (S : fh_S) : Nat → fh_H → Nat → Int32 → Int32 → Int32 → Option Int32
  | 0, _, _, _, _, _ => none
  | n + 1, h, y0, y1, y2, y3 =>
    if (60 : Int32) < ((2 : Int32) * y3) then (if y2 = 0 then (some (-1 : Int32)) else (some ((y1 * (64 : Int32)) + y2))) else (fh_ck (fh_kq S y0 6) (fh_b1 (z_X11_alikeFrom S h y0 y0 (-y3)) (fun r4 => if (60 : Int32) < (r4 + ((2 : Int32) * y3)) then (fh_let (y3 + 1) (fun v7 => z_X11_comingAgain_b16 S n h y0 y1 y2 v7)) else (if y1 ≤ r4 then (fh_let (y3 + 1) (fun v9 => z_X11_comingAgain_b16 S n h y0 y1 y2 v9)) else (fh_let (y3 + 1) (fun v10 => z_X11_comingAgain_b16 S n h y0 r4 y3 v10))))))
def z_X11_comingAgain (S : fh_S) (h : fh_H) (x0 : Nat) : Option Int32 :=
    if (h.1 x0 7) = 0 then (z_X11_comingAgain_b16 S 20000 h x0 (60 : Int32) (0 : Int32) (1 : Int32)) else (some (-1 : Int32))
set_option maxHeartbeats 4000000 in
set_option maxRecDepth 100000 in
theorem k_X11_comingAgain {l : Launch} {S : fh_S} {g : fh_G} {h : fh_H} (hj : fh_inj S g) {x0 : Nat} {r : Int32} (k_x0 : fh_kq S x0 6 = true) (hsp : z_X11_comingAgain S h x0 = some r) : fh_M l yX11_comingAgain cX11_comingAgain 5 (some .int) (fh_rm 3) S g [.ref (g.2.2 x0)] h (some (.int r)) h := by
  unfold z_X11_comingAgain at hsp
  refine fr_head (own := RX11) (by decide) rfl hj (Nat.le_of_ble_eq_true rfl) ?_
  intro p e s m below meth c ls C hr hlocks hR hl
  have hl : lv_has ls 5 [(0, .ref (g.2.2 x0))] := hl
  have hx := C.1.1
  have hb := C.1.2.1
  have hb_16 : ∀ (n : Nat) (y0 : Nat) (y1 : Int32) (y2 : Int32) (y3 : Int32) (H : Heap) (locs : List Loc) (ls : Array Slot), z_X11_comingAgain_b16 S n h y0 y1 y2 y3 = some r → fh_R S g s.heap h H locs → lv_has ls 5 [(0, .ref (g.2.2 y0)), (1, .int y1), (2, .int y2), (3, .int y3)] → fh_Wk p l e 3 s m [.ref (g.2.2 x0)] below meth c S g (some (.int r)) h H locs (F0 m 16 ls []) := by
    intro n
    induction n with
    | zero => intro y0 y1 y2 y3 H locs ls hsp; cases hsp
    | succ n ih =>
      intro y0 y1 y2 y3 H locs ls hsp hR hl
      rw [z_X11_comingAgain_b16] at hsp
      refine lv_iconst (v := 2) hx hb dX11_comingAgain_16 (by decide) ?_
      refine lv_iload_n hx hb dX11_comingAgain_17 rfl (lv_at hl 3 rfl) ?_
      refine lv_imul hx hb dX11_comingAgain_18 ?_
      refine lv_bipush (v := 60) hx hb dX11_comingAgain_19 (by decide) ?_
      refine lv_icmp_gt (tgt := 61) hx hb dX11_comingAgain_21 (by decide) (fun c1 => ?_) (fun c1 => ?_)
      · rw [if_pos c1] at hsp
        refine lv_iload_n hx hb dX11_comingAgain_61 rfl (lv_at hl 2 rfl) ?_
        refine lv_if_ne (tgt := 69) hx hb dX11_comingAgain_62 (by decide) (fun c2 => ?_) (fun c2 => ?_)
        · rw [if_neg c2] at hsp
          refine lv_iload_n hx hb dX11_comingAgain_69 rfl (lv_at hl 1 rfl) ?_
          refine lv_bipush (v := 64) hx hb dX11_comingAgain_70 (by decide) ?_
          refine lv_imul hx hb dX11_comingAgain_72 ?_
          refine lv_iload_n hx hb dX11_comingAgain_73 rfl (lv_at hl 2 rfl) ?_
          refine lv_iadd hx hb dX11_comingAgain_74 ?_
          have e1 := fr_s1 hsp
          exact fr_iret C hr hlocks hR e1 rfl dX11_comingAgain_75
        · rw [if_pos c2] at hsp
          refine lv_iconst (v := -1) hx hb dX11_comingAgain_65 (by decide) ?_
          refine lv_goto (tgt := 75) hx hb dX11_comingAgain_66 (by decide) ?_
          have e1 := fr_s1 hsp
          exact fr_iret C hr hlocks hR e1 rfl dX11_comingAgain_75
      · rw [if_neg c1] at hsp
        refine lv_aload_n hx hb dX11_comingAgain_24 rfl (lv_at hl 0 rfl) ?_
        refine lv_aload_n hx hb dX11_comingAgain_25 rfl (lv_at hl 0 rfl) ?_
        refine lv_iload_n hx hb dX11_comingAgain_26 rfl (lv_at hl 3 rfl) ?_
        refine lv_ineg hx hb dX11_comingAgain_27 ?_
        obtain ⟨hk3, hsp⟩ := fr_ck hsp
        obtain ⟨r4, E5, hsp⟩ := fr_b1 hsp
        refine fq_callS (rest := []) (st1 := [.int r4]) C hR (k_X11_alikeFrom C.2.2 hk3 hk3 E5) Y_X11_alikeFrom YS_X11_alikeFrom Lk_RX11_411 rfl hl.1 ⟨Nat.le_of_ble_eq_true rfl, Nat.le_of_ble_eq_true rfl⟩ rfl (Nat.le_of_ble_eq_true rfl) ⟨Nat.zero_le _, Nat.zero_le _⟩ rfl dX11_comingAgain_28 (fun H locs hR => ?_)
        refine lv_istore (lv' := [(4, .int r4), (0, .ref (g.2.2 y0)), (1, .int y1), (2, .int y2), (3, .int y3)]) hx hb dX11_comingAgain_31 hl (by decide) rfl (fun ls hl => ?_)
        refine lv_iload hx hb dX11_comingAgain_33 (lv_at hl 0 rfl) ?_
        refine lv_iconst (v := 2) hx hb dX11_comingAgain_35 (by decide) ?_
        refine lv_iload_n hx hb dX11_comingAgain_36 rfl (lv_at hl 4 rfl) ?_
        refine lv_imul hx hb dX11_comingAgain_37 ?_
        refine lv_iadd hx hb dX11_comingAgain_38 ?_
        refine lv_bipush (v := 60) hx hb dX11_comingAgain_39 (by decide) ?_
        refine lv_icmp_gt (tgt := 55) hx hb dX11_comingAgain_41 (by decide) (fun c6 => ?_) (fun c6 => ?_)
        · rw [if_pos c6] at hsp
          obtain ⟨v7, ev7⟩ : ∃ z : Int32, z = y3 + 1 := ⟨_, rfl⟩
          have hsp := fr_let ev7 hsp
          refine lv_iinc (v := v7) (lv' := [(3, .int v7), (4, .int r4), (0, .ref (g.2.2 y0)), (1, .int y1), (2, .int y2)]) hx hb dX11_comingAgain_55 hl (k := 4) rfl (by rw [ev7]; rfl) (by decide) rfl (fun ls hl => ?_)
          refine lv_goto (tgt := 16) hx hb dX11_comingAgain_58 (by decide) ?_
          exact ih y0 y1 y2 v7 _ _ _ hsp hR (lv_sub hl [2, 3, 4, 0] rfl)
        · rw [if_neg c6] at hsp
          refine lv_iload hx hb dX11_comingAgain_44 (lv_at hl 0 rfl) ?_
          refine lv_iload_n hx hb dX11_comingAgain_46 rfl (lv_at hl 2 rfl) ?_
          refine lv_icmp_ge (tgt := 55) hx hb dX11_comingAgain_47 (by decide) (fun c8 => ?_) (fun c8 => ?_)
          · rw [if_pos c8] at hsp
            obtain ⟨v9, ev9⟩ : ∃ z : Int32, z = y3 + 1 := ⟨_, rfl⟩
            have hsp := fr_let ev9 hsp
            refine lv_iinc (v := v9) (lv' := [(3, .int v9), (4, .int r4), (0, .ref (g.2.2 y0)), (1, .int y1), (2, .int y2)]) hx hb dX11_comingAgain_55 hl (k := 4) rfl (by rw [ev9]; rfl) (by decide) rfl (fun ls hl => ?_)
            refine lv_goto (tgt := 16) hx hb dX11_comingAgain_58 (by decide) ?_
            exact ih y0 y1 y2 v9 _ _ _ hsp hR (lv_sub hl [2, 3, 4, 0] rfl)
          · rw [if_neg c8] at hsp
            refine lv_iload hx hb dX11_comingAgain_50 (lv_at hl 0 rfl) ?_
            refine lv_istore_n (lv' := [(1, .int r4), (4, .int r4), (0, .ref (g.2.2 y0)), (2, .int y2), (3, .int y3)]) hx hb dX11_comingAgain_52 rfl hl (by decide) rfl (fun ls hl => ?_)
            refine lv_iload_n hx hb dX11_comingAgain_53 rfl (lv_at hl 4 rfl) ?_
            refine lv_istore_n (lv' := [(2, .int y3), (1, .int r4), (4, .int r4), (0, .ref (g.2.2 y0)), (3, .int y3)]) hx hb dX11_comingAgain_54 rfl hl (by decide) rfl (fun ls hl => ?_)
            obtain ⟨v10, ev10⟩ : ∃ z : Int32, z = y3 + 1 := ⟨_, rfl⟩
            have hsp := fr_let ev10 hsp
            refine lv_iinc (v := v10) (lv' := [(3, .int v10), (2, .int y3), (1, .int r4), (4, .int r4), (0, .ref (g.2.2 y0))]) hx hb dX11_comingAgain_55 hl (k := 4) rfl (by rw [ev10]; rfl) (by decide) rfl (fun ls hl => ?_)
            refine lv_goto (tgt := 16) hx hb dX11_comingAgain_58 (by decide) ?_
            exact ih y0 r4 y3 v10 _ _ _ hsp hR (lv_sub hl [4, 2, 1, 0] rfl)
  refine lv_aload_n hx hb dX11_comingAgain_0 rfl (lv_at hl 0 rfl) ?_
  refine fr_geti C hR k_x0 Fg_RX11_178 rfl dX11_comingAgain_1 ?_
  refine lv_if_eq (tgt := 9) hx hb dX11_comingAgain_4 (by decide) (fun c1 => ?_) (fun c1 => ?_)
  · rw [if_pos c1] at hsp
    refine lv_bipush (v := 60) hx hb dX11_comingAgain_9 (by decide) ?_
    refine lv_istore_n (lv' := [(1, .int (60 : Int32)), (0, .ref (g.2.2 x0))]) hx hb dX11_comingAgain_11 rfl hl (by decide) rfl (fun ls hl => ?_)
    refine lv_iconst (v := 0) hx hb dX11_comingAgain_12 (by decide) ?_
    refine lv_istore_n (lv' := [(2, .int (0 : Int32)), (1, .int (60 : Int32)), (0, .ref (g.2.2 x0))]) hx hb dX11_comingAgain_13 rfl hl (by decide) rfl (fun ls hl => ?_)
    refine lv_iconst (v := 1) hx hb dX11_comingAgain_14 (by decide) ?_
    refine lv_istore_n (lv' := [(3, .int (1 : Int32)), (2, .int (0 : Int32)), (1, .int (60 : Int32)), (0, .ref (g.2.2 x0))]) hx hb dX11_comingAgain_15 rfl hl (by decide) rfl (fun ls hl => ?_)
    exact hb_16 20000 x0 (60 : Int32) (0 : Int32) (1 : Int32) _ _ _ hsp hR (lv_sub hl [3, 2, 1, 0] rfl)
  · rw [if_neg c1] at hsp
    refine lv_iconst (v := -1) hx hb dX11_comingAgain_7 (by decide) ?_
    have e1 := fr_s1 hsp
    exact fr_iret C hr hlocks hR e1 rfl dX11_comingAgain_8

/-! TermRows.tailsAlike(LTermRows$Row;LTermRows$Row;)I -/
def z_X11_tailsAlike_b32 (S : fh_S) : Nat → fh_H → Nat → Nat → Int32 → Int32 → Int32 → Int32 → Option Int32
  | 0, _, _, _, _, _, _, _ => none
  | n + 1, h, y0, y1, y2, y3, y4, y5 =>
    if y2 < y5 then (some y3) else (fh_ck (fh_kq S y0 6) (fh_ck (fh_kq S y1 6) (fh_b1 (z_X11_alikeFrom S h y0 y1 y5) (fun r4 => fh_let ((r4 - y5)) (fun v6 => if y2 < r4 then (fh_let (y5 + 1) (fun v8 => z_X11_tailsAlike_b32 S n h y0 y1 y2 y3 y4 v8)) else (if y2 < v6 then (fh_let (y5 + 1) (fun v10 => z_X11_tailsAlike_b32 S n h y0 y1 y2 y3 y4 v10)) else (if y4 ≤ (r4 + v6) then (fh_let (y5 + 1) (fun v12 => z_X11_tailsAlike_b32 S n h y0 y1 y2 y3 y4 v12)) else (fh_let ((r4 + v6)) (fun v13 => fh_let (((r4 * (64 : Int32)) + v6)) (fun v14 => fh_let (y5 + 1) (fun v15 => z_X11_tailsAlike_b32 S n h y0 y1 y2 v14 v13 v15)))))))))))
def z_X11_tailsAlike (S : fh_S) (h : fh_H) (x0 : Nat) (x1 : Nat) : Option Int32 :=
    if (h.1 x0 7) = 0 then (if (h.1 x1 7) = 0 then (fh_let ((((2 : Int32) * (40 : Int32)) + (1 : Int32))) (fun v3 => fh_let ((-(40 : Int32))) (fun v4 => z_X11_tailsAlike_b32 S 20000 h x0 x1 (40 : Int32) (-1 : Int32) v3 v4))) else (some (-1 : Int32))) else (some (-1 : Int32))
set_option maxHeartbeats 4000000 in
set_option maxRecDepth 100000 in
theorem k_X11_tailsAlike {l : Launch} {S : fh_S} {g : fh_G} {h : fh_H} (hj : fh_inj S g) {x0 : Nat} {x1 : Nat} {r : Int32} (k_x0 : fh_kq S x0 6 = true) (k_x1 : fh_kq S x1 6 = true) (hsp : z_X11_tailsAlike S h x0 x1 = some r) : fh_M l yX11_tailsAlike cX11_tailsAlike 8 (some .int) (fh_rm 3) S g [.ref (g.2.2 x0), .ref (g.2.2 x1)] h (some (.int r)) h := by
  unfold z_X11_tailsAlike at hsp
  refine fr_head (own := RX11) (by decide) rfl hj (Nat.le_of_ble_eq_true rfl) ?_
  intro p e s m below meth c ls C hr hlocks hR hl
  have hl : lv_has ls 8 [(0, .ref (g.2.2 x0)), (1, .ref (g.2.2 x1))] := hl
  have hx := C.1.1
  have hb := C.1.2.1
  have hb_32 : ∀ (n : Nat) (y0 : Nat) (y1 : Nat) (y2 : Int32) (y3 : Int32) (y4 : Int32) (y5 : Int32) (H : Heap) (locs : List Loc) (ls : Array Slot), z_X11_tailsAlike_b32 S n h y0 y1 y2 y3 y4 y5 = some r → fh_R S g s.heap h H locs → lv_has ls 8 [(0, .ref (g.2.2 y0)), (1, .ref (g.2.2 y1)), (2, .int y2), (3, .int y3), (4, .int y4), (5, .int y5)] → fh_Wk p l e 3 s m [.ref (g.2.2 x0), .ref (g.2.2 x1)] below meth c S g (some (.int r)) h H locs (F0 m 32 ls []) := by
    intro n
    induction n with
    | zero => intro y0 y1 y2 y3 y4 y5 H locs ls hsp; cases hsp
    | succ n ih =>
      intro y0 y1 y2 y3 y4 y5 H locs ls hsp hR hl
      rw [z_X11_tailsAlike_b32] at hsp
      refine lv_iload hx hb dX11_tailsAlike_32 (lv_at hl 5 rfl) ?_
      refine lv_iload_n hx hb dX11_tailsAlike_34 rfl (lv_at hl 2 rfl) ?_
      refine lv_icmp_gt (tgt := 98) hx hb dX11_tailsAlike_35 (by decide) (fun c1 => ?_) (fun c1 => ?_)
      · rw [if_pos c1] at hsp
        refine lv_iload_n hx hb dX11_tailsAlike_98 rfl (lv_at hl 3 rfl) ?_
        have e1 := fr_s1 hsp
        exact fr_iret C hr hlocks hR e1 rfl dX11_tailsAlike_99
      · rw [if_neg c1] at hsp
        refine lv_aload_n hx hb dX11_tailsAlike_38 rfl (lv_at hl 0 rfl) ?_
        refine lv_aload_n hx hb dX11_tailsAlike_39 rfl (lv_at hl 1 rfl) ?_
        refine lv_iload hx hb dX11_tailsAlike_40 (lv_at hl 5 rfl) ?_
        obtain ⟨hk2, hsp⟩ := fr_ck hsp
        obtain ⟨hk3, hsp⟩ := fr_ck hsp
        obtain ⟨r4, E5, hsp⟩ := fr_b1 hsp
        refine fq_callS (rest := []) (st1 := [.int r4]) C hR (k_X11_alikeFrom C.2.2 hk2 hk3 E5) Y_X11_alikeFrom YS_X11_alikeFrom Lk_RX11_411 rfl hl.1 ⟨Nat.le_of_ble_eq_true rfl, Nat.le_of_ble_eq_true rfl⟩ rfl (Nat.le_of_ble_eq_true rfl) ⟨Nat.zero_le _, Nat.zero_le _⟩ rfl dX11_tailsAlike_42 (fun H locs hR => ?_)
        refine lv_istore (lv' := [(6, .int r4), (0, .ref (g.2.2 y0)), (1, .ref (g.2.2 y1)), (2, .int y2), (3, .int y3), (4, .int y4), (5, .int y5)]) hx hb dX11_tailsAlike_45 hl (by decide) rfl (fun ls hl => ?_)
        refine lv_iload hx hb dX11_tailsAlike_47 (lv_at hl 0 rfl) ?_
        refine lv_iload hx hb dX11_tailsAlike_49 (lv_at hl 6 rfl) ?_
        refine lv_isub hx hb dX11_tailsAlike_51 ?_
        refine lv_topi (fun v6 ev6 => ?_)
        have hsp := fr_let ev6 hsp
        refine lv_istore (lv' := [(7, .int v6), (6, .int r4), (0, .ref (g.2.2 y0)), (1, .ref (g.2.2 y1)), (2, .int y2), (3, .int y3), (4, .int y4), (5, .int y5)]) hx hb dX11_tailsAlike_52 hl (by decide) rfl (fun ls hl => ?_)
        refine lv_iload hx hb dX11_tailsAlike_54 (lv_at hl 1 rfl) ?_
        refine lv_iload_n hx hb dX11_tailsAlike_56 rfl (lv_at hl 4 rfl) ?_
        refine lv_icmp_gt (tgt := 92) hx hb dX11_tailsAlike_57 (by decide) (fun c7 => ?_) (fun c7 => ?_)
        · rw [if_pos c7] at hsp
          obtain ⟨v8, ev8⟩ : ∃ z : Int32, z = y5 + 1 := ⟨_, rfl⟩
          have hsp := fr_let ev8 hsp
          refine lv_iinc (v := v8) (lv' := [(5, .int v8), (7, .int v6), (6, .int r4), (0, .ref (g.2.2 y0)), (1, .ref (g.2.2 y1)), (2, .int y2), (3, .int y3), (4, .int y4)]) hx hb dX11_tailsAlike_92 hl (k := 7) rfl (by rw [ev8]; rfl) (by decide) rfl (fun ls hl => ?_)
          refine lv_goto (tgt := 32) hx hb dX11_tailsAlike_95 (by decide) ?_
          exact ih y0 y1 y2 y3 y4 v8 _ _ _ hsp hR (lv_sub hl [3, 4, 5, 6, 7, 0] rfl)
        · rw [if_neg c7] at hsp
          refine lv_iload hx hb dX11_tailsAlike_60 (lv_at hl 0 rfl) ?_
          refine lv_iload_n hx hb dX11_tailsAlike_62 rfl (lv_at hl 4 rfl) ?_
          refine lv_icmp_gt (tgt := 92) hx hb dX11_tailsAlike_63 (by decide) (fun c9 => ?_) (fun c9 => ?_)
          · rw [if_pos c9] at hsp
            obtain ⟨v10, ev10⟩ : ∃ z : Int32, z = y5 + 1 := ⟨_, rfl⟩
            have hsp := fr_let ev10 hsp
            refine lv_iinc (v := v10) (lv' := [(5, .int v10), (7, .int v6), (6, .int r4), (0, .ref (g.2.2 y0)), (1, .ref (g.2.2 y1)), (2, .int y2), (3, .int y3), (4, .int y4)]) hx hb dX11_tailsAlike_92 hl (k := 7) rfl (by rw [ev10]; rfl) (by decide) rfl (fun ls hl => ?_)
            refine lv_goto (tgt := 32) hx hb dX11_tailsAlike_95 (by decide) ?_
            exact ih y0 y1 y2 y3 y4 v10 _ _ _ hsp hR (lv_sub hl [3, 4, 5, 6, 7, 0] rfl)
          · rw [if_neg c9] at hsp
            refine lv_iload hx hb dX11_tailsAlike_66 (lv_at hl 1 rfl) ?_
            refine lv_iload hx hb dX11_tailsAlike_68 (lv_at hl 0 rfl) ?_
            refine lv_iadd hx hb dX11_tailsAlike_70 ?_
            refine lv_iload hx hb dX11_tailsAlike_71 (lv_at hl 6 rfl) ?_
            refine lv_icmp_ge (tgt := 92) hx hb dX11_tailsAlike_73 (by decide) (fun c11 => ?_) (fun c11 => ?_)
            · rw [if_pos c11] at hsp
              obtain ⟨v12, ev12⟩ : ∃ z : Int32, z = y5 + 1 := ⟨_, rfl⟩
              have hsp := fr_let ev12 hsp
              refine lv_iinc (v := v12) (lv' := [(5, .int v12), (7, .int v6), (6, .int r4), (0, .ref (g.2.2 y0)), (1, .ref (g.2.2 y1)), (2, .int y2), (3, .int y3), (4, .int y4)]) hx hb dX11_tailsAlike_92 hl (k := 7) rfl (by rw [ev12]; rfl) (by decide) rfl (fun ls hl => ?_)
              refine lv_goto (tgt := 32) hx hb dX11_tailsAlike_95 (by decide) ?_
              exact ih y0 y1 y2 y3 y4 v12 _ _ _ hsp hR (lv_sub hl [3, 4, 5, 6, 7, 0] rfl)
            · rw [if_neg c11] at hsp
              refine lv_iload hx hb dX11_tailsAlike_76 (lv_at hl 1 rfl) ?_
              refine lv_iload hx hb dX11_tailsAlike_78 (lv_at hl 0 rfl) ?_
              refine lv_iadd hx hb dX11_tailsAlike_80 ?_
              refine lv_topi (fun v13 ev13 => ?_)
              have hsp := fr_let ev13 hsp
              refine lv_istore (lv' := [(4, .int v13), (7, .int v6), (6, .int r4), (0, .ref (g.2.2 y0)), (1, .ref (g.2.2 y1)), (2, .int y2), (3, .int y3), (5, .int y5)]) hx hb dX11_tailsAlike_81 hl (by decide) rfl (fun ls hl => ?_)
              refine lv_iload hx hb dX11_tailsAlike_83 (lv_at hl 2 rfl) ?_
              refine lv_bipush (v := 64) hx hb dX11_tailsAlike_85 (by decide) ?_
              refine lv_imul hx hb dX11_tailsAlike_87 ?_
              refine lv_iload hx hb dX11_tailsAlike_88 (lv_at hl 1 rfl) ?_
              refine lv_iadd hx hb dX11_tailsAlike_90 ?_
              refine lv_topi (fun v14 ev14 => ?_)
              have hsp := fr_let ev14 hsp
              refine lv_istore_n (lv' := [(3, .int v14), (4, .int v13), (7, .int v6), (6, .int r4), (0, .ref (g.2.2 y0)), (1, .ref (g.2.2 y1)), (2, .int y2), (5, .int y5)]) hx hb dX11_tailsAlike_91 rfl hl (by decide) rfl (fun ls hl => ?_)
              obtain ⟨v15, ev15⟩ : ∃ z : Int32, z = y5 + 1 := ⟨_, rfl⟩
              have hsp := fr_let ev15 hsp
              refine lv_iinc (v := v15) (lv' := [(5, .int v15), (3, .int v14), (4, .int v13), (7, .int v6), (6, .int r4), (0, .ref (g.2.2 y0)), (1, .ref (g.2.2 y1)), (2, .int y2)]) hx hb dX11_tailsAlike_92 hl (k := 7) rfl (by rw [ev15]; rfl) (by decide) rfl (fun ls hl => ?_)
              refine lv_goto (tgt := 32) hx hb dX11_tailsAlike_95 (by decide) ?_
              exact ih y0 y1 y2 v14 v13 v15 _ _ _ hsp hR (lv_sub hl [5, 6, 7, 1, 2, 0] rfl)
  refine lv_aload_n hx hb dX11_tailsAlike_0 rfl (lv_at hl 0 rfl) ?_
  refine fr_geti C hR k_x0 Fg_RX11_178 rfl dX11_tailsAlike_1 ?_
  refine lv_if_ne (tgt := 14) hx hb dX11_tailsAlike_4 (by decide) (fun c1 => ?_) (fun c1 => ?_)
  · rw [if_neg c1] at hsp
    refine lv_iconst (v := -1) hx hb dX11_tailsAlike_14 (by decide) ?_
    have e1 := fr_s1 hsp
    exact fr_iret C hr hlocks hR e1 rfl dX11_tailsAlike_15
  · rw [if_pos c1] at hsp
    refine lv_aload_n hx hb dX11_tailsAlike_7 rfl (lv_at hl 1 rfl) ?_
    refine fr_geti C hR k_x1 Fg_RX11_178 rfl dX11_tailsAlike_8 ?_
    refine lv_if_eq (tgt := 16) hx hb dX11_tailsAlike_11 (by decide) (fun c2 => ?_) (fun c2 => ?_)
    · rw [if_pos c2] at hsp
      refine lv_bipush (v := 40) hx hb dX11_tailsAlike_16 (by decide) ?_
      refine lv_istore_n (lv' := [(2, .int (40 : Int32)), (0, .ref (g.2.2 x0)), (1, .ref (g.2.2 x1))]) hx hb dX11_tailsAlike_18 rfl hl (by decide) rfl (fun ls hl => ?_)
      refine lv_iconst (v := -1) hx hb dX11_tailsAlike_19 (by decide) ?_
      refine lv_istore_n (lv' := [(3, .int (-1 : Int32)), (2, .int (40 : Int32)), (0, .ref (g.2.2 x0)), (1, .ref (g.2.2 x1))]) hx hb dX11_tailsAlike_20 rfl hl (by decide) rfl (fun ls hl => ?_)
      refine lv_iconst (v := 2) hx hb dX11_tailsAlike_21 (by decide) ?_
      refine lv_iload_n hx hb dX11_tailsAlike_22 rfl (lv_at hl 1 rfl) ?_
      refine lv_imul hx hb dX11_tailsAlike_23 ?_
      refine lv_iconst (v := 1) hx hb dX11_tailsAlike_24 (by decide) ?_
      refine lv_iadd hx hb dX11_tailsAlike_25 ?_
      refine lv_topi (fun v3 ev3 => ?_)
      have hsp := fr_let ev3 hsp
      refine lv_istore (lv' := [(4, .int v3), (3, .int (-1 : Int32)), (2, .int (40 : Int32)), (0, .ref (g.2.2 x0)), (1, .ref (g.2.2 x1))]) hx hb dX11_tailsAlike_26 hl (by decide) rfl (fun ls hl => ?_)
      refine lv_iload_n hx hb dX11_tailsAlike_28 rfl (lv_at hl 2 rfl) ?_
      refine lv_ineg hx hb dX11_tailsAlike_29 ?_
      refine lv_topi (fun v4 ev4 => ?_)
      have hsp := fr_let ev4 hsp
      refine lv_istore (lv' := [(5, .int v4), (4, .int v3), (3, .int (-1 : Int32)), (2, .int (40 : Int32)), (0, .ref (g.2.2 x0)), (1, .ref (g.2.2 x1))]) hx hb dX11_tailsAlike_30 hl (by decide) rfl (fun ls hl => ?_)
      exact hb_32 20000 x0 x1 (40 : Int32) (-1 : Int32) v3 v4 _ _ _ hsp hR (lv_sub hl [4, 5, 3, 2, 1, 0] rfl)
    · rw [if_neg c2] at hsp
      refine lv_iconst (v := -1) hx hb dX11_tailsAlike_14 (by decide) ?_
      have e1 := fr_s1 hsp
      exact fr_iret C hr hlocks hR e1 rfl dX11_tailsAlike_15

/-! TermRows$Question.parseComparison()J -/
def z_X4_parseComparison_b186 (S : fh_S) (a : Nat) (K67 : fh_H → Int32 → Int32 → Int32 → Int32 → Int32 → Int64 → Int64 → Int32 → Option (Int64 × fh_H)) (h : fh_H) (y1 : Int32) (y2 : Int32) (y3 : Int32) (y4 : Int32) (y5 : Int32) (y6 : Int64) (y8 : Int64) (y10 : Int32) (t0 : Int32) (t1 : Int32) : Option (Int64 × fh_H) :=
    if t1 = t0 then (fh_let ((y6 ||| ((1 : Int64) <<< (Int32.toInt64 y10 &&& 63)))) (fun v3 => fh_let (y10 + 1) (fun v4 => K67 h y1 y2 y3 y4 y5 v3 y8 v4))) else (fh_let (y10 + 1) (fun v2 => K67 h y1 y2 y3 y4 y5 y6 y8 v2))
def z_X4_parseComparison_b158 (S : fh_S) (a : Nat) (K67 : fh_H → Int32 → Int32 → Int32 → Int32 → Int32 → Int64 → Int64 → Int32 → Option (Int64 × fh_H)) (h : fh_H) (y1 : Int32) (y2 : Int32) (y3 : Int32) (y4 : Int32) (y5 : Int32) (y6 : Int64) (y8 : Int64) (y10 : Int32) (y11 : Int64) (t0 : Int64) : Option (Int64 × fh_H) :=
    if t0 ≤ y11 then (if y11 ≤ t0 then (z_X4_parseComparison_b186 S a K67 h y1 y2 y3 y4 y5 y6 y8 y10 (0 : Int32) y3) else (z_X4_parseComparison_b186 S a K67 h y1 y2 y3 y4 y5 y6 y8 y10 (1 : Int32) y3)) else (z_X4_parseComparison_b186 S a K67 h y1 y2 y3 y4 y5 y6 y8 y10 (-1 : Int32) y3)
def z_X4_parseComparison_b132 (S : fh_S) (a : Nat) (K67 : fh_H → Int32 → Int32 → Int32 → Int32 → Int32 → Int64 → Int64 → Int32 → Option (Int64 × fh_H)) (h : fh_H) (y1 : Int32) (y2 : Int32) (y3 : Int32) (y4 : Int32) (y5 : Int32) (y6 : Int64) (y8 : Int64) (y10 : Int32) (t0 : Int64) : Option (Int64 × fh_H) :=
    if y4 = (256 : Int32) then (z_X4_parseComparison_b158 S a K67 h y1 y2 y3 y4 y5 y6 y8 y10 t0 (Int32.toInt64 y5)) else (fh_b1 (z_X4_valueAt S h a y4 y10 y8) (fun r2 => z_X4_parseComparison_b158 S a K67 h y1 y2 y3 y4 y5 y6 y8 y10 t0 r2))
def z_X4_parseComparison_b67 (S : fh_S) (a : Nat) : Nat → fh_H → Int32 → Int32 → Int32 → Int32 → Int32 → Int64 → Int64 → Int32 → Option (Int64 × fh_H)
  | 0, _, _, _, _, _, _, _, _, _ => none
  | n + 1, h, y1, y2, y3, y4, y5, y6, y8, y10 =>
    fh_b1 (h.2.2 a 1) (fun j1 => fh_ck (fh_kq S j1 6) (if (h.1 j1 6) ≤ y10 then (some (y6, h)) else (if (60 : Int32) ≤ y10 then (some (y6, h)) else (fh_b1 (h.2.2 a 0) (fun j6 => fh_ck (fh_kq S j6 10) (if (h.1 j6 7) = 0 then (fh_b1 (z_X6_termAt S h j1 y10) (fun r10 => fh_let ((y8 + (Int32.toInt64 r10))) (fun v12 => if y1 = (256 : Int32) then (z_X4_parseComparison_b132 S a (z_X4_parseComparison_b67 S a n) h y1 y2 y3 y4 y5 y6 v12 y10 (Int32.toInt64 y2)) else (fh_b1 (z_X4_valueAt S h a y1 y10 v12) (fun r14 => z_X4_parseComparison_b132 S a (z_X4_parseComparison_b67 S a n) h y1 y2 y3 y4 y5 y6 v12 y10 r14))))) else (some (y6, h))))))))
def z_X4_parseComparison_b24 (S : fh_S) (a : Nat) (h : fh_H) (y1 : Int32) (t0 : Int32) : Option (Int64 × fh_H) :=
    fh_b2 (z_X4_parseCompareSign S h a) (fun r1 h2 => fh_b2 (z_X4_parseValueCode S h2 a) (fun r4 h5 => if r4 = (256 : Int32) then (fh_b1 (h5.2.2 a 0) (fun j8 => fh_ck (fh_kq S j8 10) (fh_b2 (z_X10_takeFigures S h5 j8 (0 : Int32)) (fun r11 h12 => z_X4_parseComparison_b67 S a 20000 h12 y1 t0 r1 r4 r11 (0 : Int64) (0 : Int64) (0 : Int32))))) else (z_X4_parseComparison_b67 S a 20000 h5 y1 t0 r1 r4 (0 : Int32) (0 : Int64) (0 : Int64) (0 : Int32))))
def z_X4_parseComparison (S : fh_S) (h : fh_H) (a : Nat) : Option (Int64 × fh_H) :=
    fh_b2 (z_X4_parseValueCode S h a) (fun r1 h2 => if r1 = (256 : Int32) then (fh_b1 (h2.2.2 a 0) (fun j5 => fh_ck (fh_kq S j5 10) (fh_b2 (z_X10_takeFigures S h2 j5 (0 : Int32)) (fun r8 h9 => z_X4_parseComparison_b24 S a h9 r1 r8)))) else (z_X4_parseComparison_b24 S a h2 r1 (0 : Int32)))
set_option maxHeartbeats 4000000 in
set_option maxRecDepth 100000 in
theorem k_X4_parseComparison {l : Launch} {S : fh_S} {g : fh_G} {h h' : fh_H} (hj : fh_inj S g) {a : Nat} {r : Int64} (ha : fh_kq S a 4 = true) (hsp : z_X4_parseComparison S h a = some (r, h')) : fh_M l yX4_parseComparison cX4_parseComparison 15 (some .long) (fh_rm 4) S g [.ref (g.2.2 a)] h (some (.long r)) h' := by
  unfold z_X4_parseComparison at hsp
  refine fr_head (own := RX4) (by decide) rfl hj (Nat.le_of_ble_eq_true rfl) ?_
  intro p e s m below meth c ls C hr hlocks hR hl
  have hl : lv_has ls 15 [(0, .ref (g.2.2 a))] := hl
  have hx := C.1.1
  have hb := C.1.2.1
  have hb_186 : ∀ (K67 : fh_H → Int32 → Int32 → Int32 → Int32 → Int32 → Int64 → Int64 → Int32 → Option (Int64 × fh_H)) (hK67 : ∀ (h : fh_H) (y1 : Int32) (y2 : Int32) (y3 : Int32) (y4 : Int32) (y5 : Int32) (y6 : Int64) (y8 : Int64) (y10 : Int32) (H : Heap) (locs : List Loc) (ls : Array Slot), K67 h y1 y2 y3 y4 y5 y6 y8 y10 = some (r, h') → fh_R S g s.heap h H locs → lv_has ls 15 [(0, .ref (g.2.2 a)), (1, .int y1), (2, .int y2), (3, .int y3), (4, .int y4), (5, .int y5), (6, .long y6), (8, .long y8), (10, .int y10)] → fh_Wk p l e 4 s m [.ref (g.2.2 a)] below meth c S g (some (.long r)) h' H locs (F0 m 67 ls [])), ∀ (h : fh_H) (y1 : Int32) (y2 : Int32) (y3 : Int32) (y4 : Int32) (y5 : Int32) (y6 : Int64) (y8 : Int64) (y10 : Int32) (t0 : Int32) (t1 : Int32) (H : Heap) (locs : List Loc) (ls : Array Slot), z_X4_parseComparison_b186 S a K67 h y1 y2 y3 y4 y5 y6 y8 y10 t0 t1 = some (r, h') → fh_R S g s.heap h H locs → lv_has ls 15 [(0, .ref (g.2.2 a)), (1, .int y1), (2, .int y2), (3, .int y3), (4, .int y4), (5, .int y5), (6, .long y6), (8, .long y8), (10, .int y10)] → fh_Wk p l e 4 s m [.ref (g.2.2 a)] below meth c S g (some (.long r)) h' H locs (F0 m 186 ls [.int t0, .int t1]) := by
    intro K67 hK67 h y1 y2 y3 y4 y5 y6 y8 y10 t0 t1 H locs ls hsp hR hl
    unfold z_X4_parseComparison_b186 at hsp
    refine lv_icmp_ne (tgt := 198) hx hb dX4_parseComparison_186 (by decide) (fun c1 => ?_) (fun c1 => ?_)
    · rw [if_neg c1] at hsp
      obtain ⟨v2, ev2⟩ : ∃ z : Int32, z = y10 + 1 := ⟨_, rfl⟩
      have hsp := fr_let ev2 hsp
      refine lv_iinc (v := v2) (lv' := [(10, .int v2), (0, .ref (g.2.2 a)), (1, .int y1), (2, .int y2), (3, .int y3), (4, .int y4), (5, .int y5), (6, .long y6), (8, .long y8)]) hx hb dX4_parseComparison_198 hl (k := 8) rfl (by rw [ev2]; rfl) (by decide) rfl (fun ls hl => ?_)
      refine lv_goto (tgt := 67) hx hb dX4_parseComparison_201 (by decide) ?_
      exact hK67 h y1 y2 y3 y4 y5 y6 y8 v2 _ _ _ hsp hR (lv_sub hl [1, 2, 3, 4, 5, 6, 7, 8, 0] rfl)
    · rw [if_pos c1] at hsp
      refine lv_lload hx hb dX4_parseComparison_189 (lv_at hl 6 rfl) ?_
      refine lv_lconst (v := 1) hx hb dX4_parseComparison_191 (by decide) ?_
      refine lv_iload hx hb dX4_parseComparison_192 (lv_at hl 8 rfl) ?_
      refine lv_lshl hx hb dX4_parseComparison_194 rfl ?_
      refine lv_lor hx hb dX4_parseComparison_195 ?_
      refine lv_topl (fun v3 ev3 => ?_)
      have hsp := fr_let ev3 hsp
      refine lv_lstore (lv' := [(6, .long v3), (0, .ref (g.2.2 a)), (1, .int y1), (2, .int y2), (3, .int y3), (4, .int y4), (5, .int y5), (8, .long y8), (10, .int y10)]) hx hb dX4_parseComparison_196 hl (by decide) rfl (fun ls hl => ?_)
      obtain ⟨v4, ev4⟩ : ∃ z : Int32, z = y10 + 1 := ⟨_, rfl⟩
      have hsp := fr_let ev4 hsp
      refine lv_iinc (v := v4) (lv' := [(10, .int v4), (6, .long v3), (0, .ref (g.2.2 a)), (1, .int y1), (2, .int y2), (3, .int y3), (4, .int y4), (5, .int y5), (8, .long y8)]) hx hb dX4_parseComparison_198 hl (k := 8) rfl (by rw [ev4]; rfl) (by decide) rfl (fun ls hl => ?_)
      refine lv_goto (tgt := 67) hx hb dX4_parseComparison_201 (by decide) ?_
      exact hK67 h y1 y2 y3 y4 y5 v3 y8 v4 _ _ _ hsp hR (lv_sub hl [2, 3, 4, 5, 6, 7, 1, 8, 0] rfl)
  have hb_158 : ∀ (K67 : fh_H → Int32 → Int32 → Int32 → Int32 → Int32 → Int64 → Int64 → Int32 → Option (Int64 × fh_H)) (hK67 : ∀ (h : fh_H) (y1 : Int32) (y2 : Int32) (y3 : Int32) (y4 : Int32) (y5 : Int32) (y6 : Int64) (y8 : Int64) (y10 : Int32) (H : Heap) (locs : List Loc) (ls : Array Slot), K67 h y1 y2 y3 y4 y5 y6 y8 y10 = some (r, h') → fh_R S g s.heap h H locs → lv_has ls 15 [(0, .ref (g.2.2 a)), (1, .int y1), (2, .int y2), (3, .int y3), (4, .int y4), (5, .int y5), (6, .long y6), (8, .long y8), (10, .int y10)] → fh_Wk p l e 4 s m [.ref (g.2.2 a)] below meth c S g (some (.long r)) h' H locs (F0 m 67 ls [])), ∀ (h : fh_H) (y1 : Int32) (y2 : Int32) (y3 : Int32) (y4 : Int32) (y5 : Int32) (y6 : Int64) (y8 : Int64) (y10 : Int32) (y11 : Int64) (t0 : Int64) (H : Heap) (locs : List Loc) (ls : Array Slot), z_X4_parseComparison_b158 S a K67 h y1 y2 y3 y4 y5 y6 y8 y10 y11 t0 = some (r, h') → fh_R S g s.heap h H locs → lv_has ls 15 [(0, .ref (g.2.2 a)), (1, .int y1), (2, .int y2), (3, .int y3), (4, .int y4), (5, .int y5), (6, .long y6), (8, .long y8), (10, .int y10), (11, .long y11)] → fh_Wk p l e 4 s m [.ref (g.2.2 a)] below meth c S g (some (.long r)) h' H locs (F0 m 158 ls [.long t0]) := by
    intro K67 hK67 h y1 y2 y3 y4 y5 y6 y8 y10 y11 t0 H locs ls hsp hR hl
    unfold z_X4_parseComparison_b158 at hsp
    refine lv_lstore (lv' := [(13, .long t0), (0, .ref (g.2.2 a)), (1, .int y1), (2, .int y2), (3, .int y3), (4, .int y4), (5, .int y5), (6, .long y6), (8, .long y8), (10, .int y10), (11, .long y11)]) hx hb dX4_parseComparison_158 hl (by decide) rfl (fun ls hl => ?_)
    refine lv_iload_n hx hb dX4_parseComparison_160 rfl (lv_at hl 4 rfl) ?_
    refine lv_lload hx hb dX4_parseComparison_161 (lv_at hl 10 rfl) ?_
    refine lv_lload hx hb dX4_parseComparison_163 (lv_at hl 0 rfl) ?_
    refine fr_lc_ge (tgt := 173) hx hb dX4_parseComparison_165 dX4_parseComparison_166 (by decide) (fun c1 => ?_) (fun c1 => ?_)
    · rw [if_pos c1] at hsp
      refine lv_lload hx hb dX4_parseComparison_173 (lv_at hl 10 rfl) ?_
      refine lv_lload hx hb dX4_parseComparison_175 (lv_at hl 0 rfl) ?_
      refine fr_lc_le (tgt := 185) hx hb dX4_parseComparison_177 dX4_parseComparison_178 (by decide) (fun c2 => ?_) (fun c2 => ?_)
      · rw [if_pos c2] at hsp
        refine lv_iconst (v := 0) hx hb dX4_parseComparison_185 (by decide) ?_
        exact hb_186 K67 hK67 h y1 y2 y3 y4 y5 y6 y8 y10 (0 : Int32) y3 _ _ _ hsp hR (lv_sub hl [1, 2, 3, 4, 5, 6, 7, 8, 9] rfl)
      · rw [if_neg c2] at hsp
        refine lv_iconst (v := 1) hx hb dX4_parseComparison_181 (by decide) ?_
        refine lv_goto (tgt := 186) hx hb dX4_parseComparison_182 (by decide) ?_
        exact hb_186 K67 hK67 h y1 y2 y3 y4 y5 y6 y8 y10 (1 : Int32) y3 _ _ _ hsp hR (lv_sub hl [1, 2, 3, 4, 5, 6, 7, 8, 9] rfl)
    · rw [if_neg c1] at hsp
      refine lv_iconst (v := -1) hx hb dX4_parseComparison_169 (by decide) ?_
      refine lv_goto (tgt := 186) hx hb dX4_parseComparison_170 (by decide) ?_
      exact hb_186 K67 hK67 h y1 y2 y3 y4 y5 y6 y8 y10 (-1 : Int32) y3 _ _ _ hsp hR (lv_sub hl [1, 2, 3, 4, 5, 6, 7, 8, 9] rfl)
  have hb_132 : ∀ (K67 : fh_H → Int32 → Int32 → Int32 → Int32 → Int32 → Int64 → Int64 → Int32 → Option (Int64 × fh_H)) (hK67 : ∀ (h : fh_H) (y1 : Int32) (y2 : Int32) (y3 : Int32) (y4 : Int32) (y5 : Int32) (y6 : Int64) (y8 : Int64) (y10 : Int32) (H : Heap) (locs : List Loc) (ls : Array Slot), K67 h y1 y2 y3 y4 y5 y6 y8 y10 = some (r, h') → fh_R S g s.heap h H locs → lv_has ls 15 [(0, .ref (g.2.2 a)), (1, .int y1), (2, .int y2), (3, .int y3), (4, .int y4), (5, .int y5), (6, .long y6), (8, .long y8), (10, .int y10)] → fh_Wk p l e 4 s m [.ref (g.2.2 a)] below meth c S g (some (.long r)) h' H locs (F0 m 67 ls [])), ∀ (h : fh_H) (y1 : Int32) (y2 : Int32) (y3 : Int32) (y4 : Int32) (y5 : Int32) (y6 : Int64) (y8 : Int64) (y10 : Int32) (t0 : Int64) (H : Heap) (locs : List Loc) (ls : Array Slot), z_X4_parseComparison_b132 S a K67 h y1 y2 y3 y4 y5 y6 y8 y10 t0 = some (r, h') → fh_R S g s.heap h H locs → lv_has ls 15 [(0, .ref (g.2.2 a)), (1, .int y1), (2, .int y2), (3, .int y3), (4, .int y4), (5, .int y5), (6, .long y6), (8, .long y8), (10, .int y10)] → fh_Wk p l e 4 s m [.ref (g.2.2 a)] below meth c S g (some (.long r)) h' H locs (F0 m 132 ls [.long t0]) := by
    intro K67 hK67 h y1 y2 y3 y4 y5 y6 y8 y10 t0 H locs ls hsp hR hl
    unfold z_X4_parseComparison_b132 at hsp
    refine lv_lstore (lv' := [(11, .long t0), (0, .ref (g.2.2 a)), (1, .int y1), (2, .int y2), (3, .int y3), (4, .int y4), (5, .int y5), (6, .long y6), (8, .long y8), (10, .int y10)]) hx hb dX4_parseComparison_132 hl (by decide) rfl (fun ls hl => ?_)
    refine lv_iload hx hb dX4_parseComparison_134 (lv_at hl 5 rfl) ?_
    refine lv_sipush (v := 256) hx hb dX4_parseComparison_136 (by decide) ?_
    refine lv_icmp_ne (tgt := 148) hx hb dX4_parseComparison_139 (by decide) (fun c1 => ?_) (fun c1 => ?_)
    · rw [if_neg c1] at hsp
      refine lv_aload_n hx hb dX4_parseComparison_148 rfl (lv_at hl 1 rfl) ?_
      refine lv_iload hx hb dX4_parseComparison_149 (lv_at hl 5 rfl) ?_
      refine lv_iload hx hb dX4_parseComparison_151 (lv_at hl 9 rfl) ?_
      refine lv_lload hx hb dX4_parseComparison_153 (lv_at hl 8 rfl) ?_
      obtain ⟨r2, E3, hsp⟩ := fr_b1 hsp
      refine fq_callV (rest := []) (st1 := [.long r2]) C hR (k_X4_valueAt C.2.2 ha E3) Y_X4_valueAt YV_X4_valueAt Lk_RX4_91 ha ⟨_, _, rfl, by decide⟩ rfl hl.1 ⟨Nat.le_of_ble_eq_true rfl, Nat.le_of_ble_eq_true rfl⟩ rfl (Nat.le_of_ble_eq_true rfl) ⟨Nat.zero_le _, Nat.zero_le _⟩ rfl dX4_parseComparison_155 (fun H locs hR => ?_)
      exact hb_158 K67 hK67 h y1 y2 y3 y4 y5 y6 y8 y10 t0 r2 _ _ _ hsp hR (lv_sub hl [1, 2, 3, 4, 5, 6, 7, 8, 9, 0] rfl)
    · rw [if_pos c1] at hsp
      refine lv_iload hx hb dX4_parseComparison_142 (lv_at hl 6 rfl) ?_
      refine lv_i2l hx hb dX4_parseComparison_144 rfl ?_
      refine lv_goto (tgt := 158) hx hb dX4_parseComparison_145 (by decide) ?_
      exact hb_158 K67 hK67 h y1 y2 y3 y4 y5 y6 y8 y10 t0 (Int32.toInt64 y5) _ _ _ hsp hR (lv_sub hl [1, 2, 3, 4, 5, 6, 7, 8, 9, 0] rfl)
  have hb_67 : ∀ (n : Nat) (h : fh_H) (y1 : Int32) (y2 : Int32) (y3 : Int32) (y4 : Int32) (y5 : Int32) (y6 : Int64) (y8 : Int64) (y10 : Int32) (H : Heap) (locs : List Loc) (ls : Array Slot), z_X4_parseComparison_b67 S a n h y1 y2 y3 y4 y5 y6 y8 y10 = some (r, h') → fh_R S g s.heap h H locs → lv_has ls 15 [(0, .ref (g.2.2 a)), (1, .int y1), (2, .int y2), (3, .int y3), (4, .int y4), (5, .int y5), (6, .long y6), (8, .long y8), (10, .int y10)] → fh_Wk p l e 4 s m [.ref (g.2.2 a)] below meth c S g (some (.long r)) h' H locs (F0 m 67 ls []) := by
    intro n
    induction n with
    | zero => intro h y1 y2 y3 y4 y5 y6 y8 y10 H locs ls hsp; cases hsp
    | succ n ih =>
      intro h y1 y2 y3 y4 y5 y6 y8 y10 H locs ls hsp hR hl
      rw [z_X4_parseComparison_b67] at hsp
      refine lv_iload hx hb dX4_parseComparison_67 (lv_at hl 8 rfl) ?_
      refine lv_aload_n hx hb dX4_parseComparison_69 rfl (lv_at hl 0 rfl) ?_
      obtain ⟨j1, hv2, hsp⟩ := fr_b1 hsp
      refine fr_getr C hR ha Fg_RX4_15 rfl hv2 dX4_parseComparison_70 ?_
      obtain ⟨hk3, hsp⟩ := fr_ck hsp
      refine fr_geti C hR hk3 Fg_RX4_19 rfl dX4_parseComparison_73 ?_
      refine lv_icmp_ge (tgt := 204) hx hb dX4_parseComparison_76 (by decide) (fun c4 => ?_) (fun c4 => ?_)
      · rw [if_pos c4] at hsp
        refine lv_lload hx hb dX4_parseComparison_204 (lv_at hl 6 rfl) ?_
        obtain ⟨e1, e2⟩ := fr_s2 hsp
        exact fr_lret C hr hlocks hR e1 e2 dX4_parseComparison_206
      · rw [if_neg c4] at hsp
        refine lv_iload hx hb dX4_parseComparison_79 (lv_at hl 8 rfl) ?_
        refine lv_bipush (v := 60) hx hb dX4_parseComparison_81 (by decide) ?_
        refine lv_icmp_ge (tgt := 204) hx hb dX4_parseComparison_83 (by decide) (fun c5 => ?_) (fun c5 => ?_)
        · rw [if_pos c5] at hsp
          refine lv_lload hx hb dX4_parseComparison_204 (lv_at hl 6 rfl) ?_
          obtain ⟨e1, e2⟩ := fr_s2 hsp
          exact fr_lret C hr hlocks hR e1 e2 dX4_parseComparison_206
        · rw [if_neg c5] at hsp
          refine lv_aload_n hx hb dX4_parseComparison_86 rfl (lv_at hl 0 rfl) ?_
          obtain ⟨j6, hv7, hsp⟩ := fr_b1 hsp
          refine fr_getr C hR ha Fg_RX4_9 rfl hv7 dX4_parseComparison_87 ?_
          obtain ⟨hk8, hsp⟩ := fr_ck hsp
          refine fr_geti C hR hk8 Fg_RX4_49 rfl dX4_parseComparison_90 ?_
          refine lv_if_ne (tgt := 204) hx hb dX4_parseComparison_93 (by decide) (fun c9 => ?_) (fun c9 => ?_)
          · rw [if_neg c9] at hsp
            refine lv_lload hx hb dX4_parseComparison_204 (lv_at hl 6 rfl) ?_
            obtain ⟨e1, e2⟩ := fr_s2 hsp
            exact fr_lret C hr hlocks hR e1 e2 dX4_parseComparison_206
          · rw [if_pos c9] at hsp
            refine lv_lload hx hb dX4_parseComparison_96 (lv_at hl 7 rfl) ?_
            refine lv_aload_n hx hb dX4_parseComparison_98 rfl (lv_at hl 0 rfl) ?_
            refine fr_getr C hR ha Fg_RX4_15 rfl hv2 dX4_parseComparison_99 ?_
            refine lv_iload hx hb dX4_parseComparison_102 (lv_at hl 8 rfl) ?_
            obtain ⟨r10, E11, hsp⟩ := fr_b1 hsp
            refine fq_callV (rest := [.long y8]) (st1 := [.int r10, .long y8]) C hR (k_X6_termAt C.2.2 hk3 E11) Y_X6_termAt YV_X6_termAt Lk_RX4_88 hk3 ⟨_, _, rfl, by decide⟩ rfl hl.1 ⟨Nat.le_of_ble_eq_true rfl, Nat.le_of_ble_eq_true rfl⟩ rfl (Nat.le_of_ble_eq_true rfl) ⟨Nat.zero_le _, Nat.zero_le _⟩ rfl dX4_parseComparison_104 (fun H locs hR => ?_)
            refine lv_i2l hx hb dX4_parseComparison_107 rfl ?_
            refine lv_ladd hx hb dX4_parseComparison_108 ?_
            refine lv_topl (fun v12 ev12 => ?_)
            have hsp := fr_let ev12 hsp
            refine lv_lstore (lv' := [(8, .long v12), (0, .ref (g.2.2 a)), (1, .int y1), (2, .int y2), (3, .int y3), (4, .int y4), (5, .int y5), (6, .long y6), (10, .int y10)]) hx hb dX4_parseComparison_109 hl (by decide) rfl (fun ls hl => ?_)
            refine lv_iload_n hx hb dX4_parseComparison_111 rfl (lv_at hl 2 rfl) ?_
            refine lv_sipush (v := 256) hx hb dX4_parseComparison_112 (by decide) ?_
            refine lv_icmp_ne (tgt := 123) hx hb dX4_parseComparison_115 (by decide) (fun c13 => ?_) (fun c13 => ?_)
            · rw [if_neg c13] at hsp
              refine lv_aload_n hx hb dX4_parseComparison_123 rfl (lv_at hl 1 rfl) ?_
              refine lv_iload_n hx hb dX4_parseComparison_124 rfl (lv_at hl 2 rfl) ?_
              refine lv_iload hx hb dX4_parseComparison_125 (lv_at hl 8 rfl) ?_
              refine lv_lload hx hb dX4_parseComparison_127 (lv_at hl 0 rfl) ?_
              obtain ⟨r14, E15, hsp⟩ := fr_b1 hsp
              refine fq_callV (rest := []) (st1 := [.long r14]) C hR (k_X4_valueAt C.2.2 ha E15) Y_X4_valueAt YV_X4_valueAt Lk_RX4_91 ha ⟨_, _, rfl, by decide⟩ rfl hl.1 ⟨Nat.le_of_ble_eq_true rfl, Nat.le_of_ble_eq_true rfl⟩ rfl (Nat.le_of_ble_eq_true rfl) ⟨Nat.zero_le _, Nat.zero_le _⟩ rfl dX4_parseComparison_129 (fun H locs hR => ?_)
              exact hb_132 (z_X4_parseComparison_b67 S a n) ih h y1 y2 y3 y4 y5 y6 v12 y10 r14 _ _ _ hsp hR (lv_sub hl [1, 2, 3, 4, 5, 6, 7, 0, 8] rfl)
            · rw [if_pos c13] at hsp
              refine lv_iload_n hx hb dX4_parseComparison_118 rfl (lv_at hl 3 rfl) ?_
              refine lv_i2l hx hb dX4_parseComparison_119 rfl ?_
              refine lv_goto (tgt := 132) hx hb dX4_parseComparison_120 (by decide) ?_
              exact hb_132 (z_X4_parseComparison_b67 S a n) ih h y1 y2 y3 y4 y5 y6 v12 y10 (Int32.toInt64 y2) _ _ _ hsp hR (lv_sub hl [1, 2, 3, 4, 5, 6, 7, 0, 8] rfl)
  have hb_24 : ∀ (h : fh_H) (y1 : Int32) (t0 : Int32) (H : Heap) (locs : List Loc) (ls : Array Slot), z_X4_parseComparison_b24 S a h y1 t0 = some (r, h') → fh_R S g s.heap h H locs → lv_has ls 15 [(0, .ref (g.2.2 a)), (1, .int y1)] → fh_Wk p l e 4 s m [.ref (g.2.2 a)] below meth c S g (some (.long r)) h' H locs (F0 m 24 ls [.int t0]) := by
    intro h y1 t0 H locs ls hsp hR hl
    unfold z_X4_parseComparison_b24 at hsp
    refine lv_istore_n (lv' := [(2, .int t0), (0, .ref (g.2.2 a)), (1, .int y1)]) hx hb dX4_parseComparison_24 rfl hl (by decide) rfl (fun ls hl => ?_)
    refine lv_aload_n hx hb dX4_parseComparison_25 rfl (lv_at hl 1 rfl) ?_
    obtain ⟨r1, h2, E3, hsp⟩ := fr_b2 hsp
    refine fq_callV (rest := []) (st1 := [.int r1]) C hR (k_X4_parseCompareSign C.2.2 ha E3) Y_X4_parseCompareSign YV_X4_parseCompareSign Lk_RX4_85 ha ⟨_, _, rfl, by decide⟩ rfl hl.1 ⟨Nat.le_of_ble_eq_true rfl, Nat.le_of_ble_eq_true rfl⟩ rfl (Nat.le_of_ble_eq_true rfl) ⟨Nat.zero_le _, Nat.zero_le _⟩ rfl dX4_parseComparison_26 (fun H locs hR => ?_)
    refine lv_istore_n (lv' := [(3, .int r1), (2, .int t0), (0, .ref (g.2.2 a)), (1, .int y1)]) hx hb dX4_parseComparison_29 rfl hl (by decide) rfl (fun ls hl => ?_)
    refine lv_aload_n hx hb dX4_parseComparison_30 rfl (lv_at hl 2 rfl) ?_
    obtain ⟨r4, h5, E6, hsp⟩ := fr_b2 hsp
    refine fq_callV (rest := []) (st1 := [.int r4]) C hR (k_X4_parseValueCode C.2.2 ha E6) Y_X4_parseValueCode YV_X4_parseValueCode Lk_RX4_77 ha ⟨_, _, rfl, by decide⟩ rfl hl.1 ⟨Nat.le_of_ble_eq_true rfl, Nat.le_of_ble_eq_true rfl⟩ rfl (Nat.le_of_ble_eq_true rfl) ⟨Nat.zero_le _, Nat.zero_le _⟩ rfl dX4_parseComparison_31 (fun H locs hR => ?_)
    refine lv_istore (lv' := [(4, .int r4), (3, .int r1), (2, .int t0), (0, .ref (g.2.2 a)), (1, .int y1)]) hx hb dX4_parseComparison_34 hl (by decide) rfl (fun ls hl => ?_)
    refine lv_iload hx hb dX4_parseComparison_36 (lv_at hl 0 rfl) ?_
    refine lv_sipush (v := 256) hx hb dX4_parseComparison_38 (by decide) ?_
    refine lv_icmp_ne (tgt := 55) hx hb dX4_parseComparison_41 (by decide) (fun c7 => ?_) (fun c7 => ?_)
    · rw [if_neg c7] at hsp
      refine lv_iconst (v := 0) hx hb dX4_parseComparison_55 (by decide) ?_
      refine lv_istore (lv' := [(5, .int (0 : Int32)), (4, .int r4), (3, .int r1), (2, .int t0), (0, .ref (g.2.2 a)), (1, .int y1)]) hx hb dX4_parseComparison_56 hl (by decide) rfl (fun ls hl => ?_)
      refine lv_lconst (v := 0) hx hb dX4_parseComparison_58 (by decide) ?_
      refine lv_lstore (lv' := [(6, .long (0 : Int64)), (5, .int (0 : Int32)), (4, .int r4), (3, .int r1), (2, .int t0), (0, .ref (g.2.2 a)), (1, .int y1)]) hx hb dX4_parseComparison_59 hl (by decide) rfl (fun ls hl => ?_)
      refine lv_lconst (v := 0) hx hb dX4_parseComparison_61 (by decide) ?_
      refine lv_lstore (lv' := [(8, .long (0 : Int64)), (6, .long (0 : Int64)), (5, .int (0 : Int32)), (4, .int r4), (3, .int r1), (2, .int t0), (0, .ref (g.2.2 a)), (1, .int y1)]) hx hb dX4_parseComparison_62 hl (by decide) rfl (fun ls hl => ?_)
      refine lv_iconst (v := 0) hx hb dX4_parseComparison_64 (by decide) ?_
      refine lv_istore (lv' := [(10, .int (0 : Int32)), (8, .long (0 : Int64)), (6, .long (0 : Int64)), (5, .int (0 : Int32)), (4, .int r4), (3, .int r1), (2, .int t0), (0, .ref (g.2.2 a)), (1, .int y1)]) hx hb dX4_parseComparison_65 hl (by decide) rfl (fun ls hl => ?_)
      exact hb_67 20000 h5 y1 t0 r1 r4 (0 : Int32) (0 : Int64) (0 : Int64) (0 : Int32) _ _ _ hsp hR (lv_sub hl [7, 8, 6, 5, 4, 3, 2, 1, 0] rfl)
    · rw [if_pos c7] at hsp
      refine lv_aload_n hx hb dX4_parseComparison_44 rfl (lv_at hl 3 rfl) ?_
      obtain ⟨j8, hv9, hsp⟩ := fr_b1 hsp
      refine fr_getr C hR ha Fg_RX4_9 rfl hv9 dX4_parseComparison_45 ?_
      refine lv_iconst (v := 0) hx hb dX4_parseComparison_48 (by decide) ?_
      obtain ⟨hk10, hsp⟩ := fr_ck hsp
      obtain ⟨r11, h12, E13, hsp⟩ := fr_b2 hsp
      refine fq_callV (rest := []) (st1 := [.int r11]) C hR (k_X10_takeFigures C.2.2 hk10 E13) Y_X10_takeFigures YV_X10_takeFigures Lk_RX4_81 hk10 ⟨_, _, rfl, by decide⟩ rfl hl.1 ⟨Nat.le_of_ble_eq_true rfl, Nat.le_of_ble_eq_true rfl⟩ rfl (Nat.le_of_ble_eq_true rfl) ⟨Nat.zero_le _, Nat.zero_le _⟩ rfl dX4_parseComparison_49 (fun H locs hR => ?_)
      refine lv_goto (tgt := 56) hx hb dX4_parseComparison_52 (by decide) ?_
      refine lv_istore (lv' := [(5, .int r11), (4, .int r4), (3, .int r1), (2, .int t0), (0, .ref (g.2.2 a)), (1, .int y1)]) hx hb dX4_parseComparison_56 hl (by decide) rfl (fun ls hl => ?_)
      refine lv_lconst (v := 0) hx hb dX4_parseComparison_58 (by decide) ?_
      refine lv_lstore (lv' := [(6, .long (0 : Int64)), (5, .int r11), (4, .int r4), (3, .int r1), (2, .int t0), (0, .ref (g.2.2 a)), (1, .int y1)]) hx hb dX4_parseComparison_59 hl (by decide) rfl (fun ls hl => ?_)
      refine lv_lconst (v := 0) hx hb dX4_parseComparison_61 (by decide) ?_
      refine lv_lstore (lv' := [(8, .long (0 : Int64)), (6, .long (0 : Int64)), (5, .int r11), (4, .int r4), (3, .int r1), (2, .int t0), (0, .ref (g.2.2 a)), (1, .int y1)]) hx hb dX4_parseComparison_62 hl (by decide) rfl (fun ls hl => ?_)
      refine lv_iconst (v := 0) hx hb dX4_parseComparison_64 (by decide) ?_
      refine lv_istore (lv' := [(10, .int (0 : Int32)), (8, .long (0 : Int64)), (6, .long (0 : Int64)), (5, .int r11), (4, .int r4), (3, .int r1), (2, .int t0), (0, .ref (g.2.2 a)), (1, .int y1)]) hx hb dX4_parseComparison_65 hl (by decide) rfl (fun ls hl => ?_)
      exact hb_67 20000 h12 y1 t0 r1 r4 r11 (0 : Int64) (0 : Int64) (0 : Int32) _ _ _ hsp hR (lv_sub hl [7, 8, 6, 5, 4, 3, 2, 1, 0] rfl)
  refine lv_aload_n hx hb dX4_parseComparison_0 rfl (lv_at hl 0 rfl) ?_
  obtain ⟨r1, h2, E3, hsp⟩ := fr_b2 hsp
  refine fq_callV (rest := []) (st1 := [.int r1]) C hR (k_X4_parseValueCode C.2.2 ha E3) Y_X4_parseValueCode YV_X4_parseValueCode Lk_RX4_77 ha ⟨_, _, rfl, by decide⟩ rfl hl.1 ⟨Nat.le_of_ble_eq_true rfl, Nat.le_of_ble_eq_true rfl⟩ rfl (Nat.le_of_ble_eq_true rfl) ⟨Nat.zero_le _, Nat.zero_le _⟩ rfl dX4_parseComparison_1 (fun H locs hR => ?_)
  refine lv_istore_n (lv' := [(1, .int r1), (0, .ref (g.2.2 a))]) hx hb dX4_parseComparison_4 rfl hl (by decide) rfl (fun ls hl => ?_)
  refine lv_iload_n hx hb dX4_parseComparison_5 rfl (lv_at hl 0 rfl) ?_
  refine lv_sipush (v := 256) hx hb dX4_parseComparison_6 (by decide) ?_
  refine lv_icmp_ne (tgt := 23) hx hb dX4_parseComparison_9 (by decide) (fun c4 => ?_) (fun c4 => ?_)
  · rw [if_neg c4] at hsp
    refine lv_iconst (v := 0) hx hb dX4_parseComparison_23 (by decide) ?_
    exact hb_24 h2 r1 (0 : Int32) _ _ _ hsp hR (lv_sub hl [1, 0] rfl)
  · rw [if_pos c4] at hsp
    refine lv_aload_n hx hb dX4_parseComparison_12 rfl (lv_at hl 1 rfl) ?_
    obtain ⟨j5, hv6, hsp⟩ := fr_b1 hsp
    refine fr_getr C hR ha Fg_RX4_9 rfl hv6 dX4_parseComparison_13 ?_
    refine lv_iconst (v := 0) hx hb dX4_parseComparison_16 (by decide) ?_
    obtain ⟨hk7, hsp⟩ := fr_ck hsp
    obtain ⟨r8, h9, E10, hsp⟩ := fr_b2 hsp
    refine fq_callV (rest := []) (st1 := [.int r8]) C hR (k_X10_takeFigures C.2.2 hk7 E10) Y_X10_takeFigures YV_X10_takeFigures Lk_RX4_81 hk7 ⟨_, _, rfl, by decide⟩ rfl hl.1 ⟨Nat.le_of_ble_eq_true rfl, Nat.le_of_ble_eq_true rfl⟩ rfl (Nat.le_of_ble_eq_true rfl) ⟨Nat.zero_le _, Nat.zero_le _⟩ rfl dX4_parseComparison_17 (fun H locs hR => ?_)
    refine lv_goto (tgt := 24) hx hb dX4_parseComparison_20 (by decide) ?_
    exact hb_24 h9 r1 r8 _ _ _ hsp hR (lv_sub hl [1, 0] rfl)

/-! TermRows$Reckoner.run(LTermRows$Row;I)V -/
def z_X5_run_b158 (S : fh_S) (a : Nat) (h : fh_H) (y1 : Nat) (t0 : Int32) (t1 : Nat) : Option fh_H :=
    fh_ck (fh_kq S t1 6) (fh_let (fh_sI h t1 7 t0) (fun h2 => fh_ck (fh_kq S y1 6) (fh_let (fh_sI h2 y1 8 ((h2.1 a 4) + (h2.1 a 5))) (fun h4 => some h4))))
def z_X5_run_b119 (S : fh_S) (a : Nat) (K5 : fh_H → Nat → Int32 → Int32 → Int32 → Option fh_H) (h : fh_H) (y1 : Nat) (y2 : Int32) (y4 : Int32) (t0 : Int32) (t1 : Nat) : Option fh_H :=
    fh_ck (fh_kq S t1 5) (fh_ck (decide (t0 = 0 ∨ t0 = 1)) (fh_let (fh_sI h t1 9 t0) (fun h3 => if (h3.1 a 9) = 0 then (fh_b2 (z_X5_readSecond S h3 a) (fun r5 h6 => fh_let (y4 + 1) (fun v8 => K5 h6 y1 y2 r5 v8))) else (fh_b2 (z_X5_readFirst S h3 a) (fun r9 h10 => fh_let (y4 + 1) (fun v12 => K5 h10 y1 y2 r9 v12))))))
def z_X5_run_b62 (S : fh_S) (a : Nat) (K5 : fh_H → Nat → Int32 → Int32 → Int32 → Option fh_H) (h : fh_H) (y1 : Nat) (y2 : Int32) (y4 : Int32) : Option fh_H :=
    fh_b2 (z_X5_isSure S h a) (fun r1 h2 => if r1 = 0 then (if (h2.1 a 6) < (100 : Int32) then (if (h2.1 a 7) = 0 then (if (h2.1 a 8) = 0 then (if (h2.1 a 9) = 0 then (z_X5_run_b119 S a K5 h2 y1 y2 y4 (1 : Int32) a) else (z_X5_run_b119 S a K5 h2 y1 y2 y4 (0 : Int32) a)) else (z_X5_run_b119 S a K5 h2 y1 y2 y4 (1 : Int32) a)) else (z_X5_run_b119 S a K5 h2 y1 y2 y4 (0 : Int32) a)) else (fh_let (y4 + 1) (fun v9 => K5 h2 y1 y2 (3 : Int32) v9))) else (fh_ck (fh_kq S y1 6) (fh_b2 (z_X5_letOut S h2 a y1) (fun r11 h12 => fh_let (y4 + 1) (fun v14 => K5 h12 y1 y2 r11 v14)))))
def z_X5_run_b5 (S : fh_S) (a : Nat) : Nat → fh_H → Nat → Int32 → Int32 → Int32 → Option fh_H
  | 0, _, _, _, _, _ => none
  | n + 1, h, y1, y2, y3, y4 =>
    if (200 : Int32) ≤ y4 then (if y3 = (4 : Int32) then (z_X5_run_b158 S a h y1 (3 : Int32) y1) else (z_X5_run_b158 S a h y1 y3 y1)) else (if y3 = (4 : Int32) then (fh_ck (fh_kq S y1 6) (if (h.1 y1 6) < y2 then (if (h.1 a 7) = 0 then (z_X5_run_b62 S a (z_X5_run_b5 S a n) h y1 y2 y4) else (if (h.1 a 8) = 0 then (z_X5_run_b62 S a (z_X5_run_b5 S a n) h y1 y2 y4) else (fh_b1 (h.2.2 a 1) (fun j9 => fh_ck (fh_kq S j9 0) (if (h.2.1 j9 0) = (0 : Int64) then (fh_let (y4 + 1) (fun v13 => z_X5_run_b5 S a n h y1 y2 (1 : Int32) v13)) else (z_X5_run_b62 S a (z_X5_run_b5 S a n) h y1 y2 y4)))))) else (fh_let (y4 + 1) (fun v14 => z_X5_run_b5 S a n h y1 y2 (0 : Int32) v14)))) else (if y3 = (4 : Int32) then (z_X5_run_b158 S a h y1 (3 : Int32) y1) else (z_X5_run_b158 S a h y1 y3 y1)))
def z_X5_run (S : fh_S) (h : fh_H) (a : Nat) (x1 : Nat) (x2 : Int32) : Option fh_H :=
    z_X5_run_b5 S a 20000 h x1 x2 (4 : Int32) (0 : Int32)
set_option maxHeartbeats 4000000 in
set_option maxRecDepth 100000 in
theorem k_X5_run {l : Launch} {S : fh_S} {g : fh_G} {h h' : fh_H} (hj : fh_inj S g) {a : Nat} {x1 : Nat} {x2 : Int32} (ha : fh_kq S a 5 = true) (k_x1 : fh_kq S x1 6 = true) (hsp : z_X5_run S h a x1 x2 = some h') : fh_M l yX5_run cX5_run 5 none (fh_rm 4) S g [.ref (g.2.2 a), .ref (g.2.2 x1), .int x2] h none h' := by
  unfold z_X5_run at hsp
  refine fr_head (own := RX5) (by decide) rfl hj (Nat.le_of_ble_eq_true rfl) ?_
  intro p e s m below meth c ls C hr hlocks hR hl
  have hl : lv_has ls 5 [(0, .ref (g.2.2 a)), (1, .ref (g.2.2 x1)), (2, .int x2)] := hl
  have hx := C.1.1
  have hb := C.1.2.1
  have hb_158 : ∀ (h : fh_H) (y1 : Nat) (t0 : Int32) (t1 : Nat) (H : Heap) (locs : List Loc) (ls : Array Slot), z_X5_run_b158 S a h y1 t0 t1 = some h' → fh_R S g s.heap h H locs → lv_has ls 5 [(0, .ref (g.2.2 a)), (1, .ref (g.2.2 y1))] → fh_Wk p l e 4 s m [.ref (g.2.2 a), .ref (g.2.2 x1), .int x2] below meth c S g none h' H locs (F0 m 158 ls [.int t0, .ref (g.2.2 t1)]) := by
    intro h y1 t0 t1 H locs ls hsp hR hl
    unfold z_X5_run_b158 at hsp
    obtain ⟨hk1, hsp⟩ := fr_ck hsp
    refine fr_puti C hR hk1 Fp_RX5_82 rfl dX5_run_158 (fun H locs hR => ?_)
    obtain ⟨h2, eh2⟩ : ∃ z, z = fh_sI h t1 7 t0 := ⟨_, rfl⟩
    rw [← eh2] at hR
    have hsp := fr_let eh2 hsp
    refine lv_aload_n hx hb dX5_run_161 rfl (lv_at hl 1 rfl) ?_
    refine lv_aload_n hx hb dX5_run_162 rfl (lv_at hl 0 rfl) ?_
    refine fr_geti C hR ha Fg_RX5_38 rfl dX5_run_163 ?_
    refine lv_aload_n hx hb dX5_run_166 rfl (lv_at hl 0 rfl) ?_
    refine fr_geti C hR ha Fg_RX5_42 rfl dX5_run_167 ?_
    refine lv_iadd hx hb dX5_run_170 ?_
    obtain ⟨hk3, hsp⟩ := fr_ck hsp
    refine fr_puti C hR hk3 Fp_RX5_85 rfl dX5_run_171 (fun H locs hR => ?_)
    obtain ⟨h4, eh4⟩ : ∃ z, z = fh_sI h2 y1 8 ((h2.1 a 4) + (h2.1 a 5)) := ⟨_, rfl⟩
    rw [← eh4] at hR
    have hsp := fr_let eh4 hsp
    exact fr_vret C hr hlocks hR (fr_s1 hsp) dX5_run_174
  have hb_119 : ∀ (K5 : fh_H → Nat → Int32 → Int32 → Int32 → Option fh_H) (hK5 : ∀ (h : fh_H) (y1 : Nat) (y2 : Int32) (y3 : Int32) (y4 : Int32) (H : Heap) (locs : List Loc) (ls : Array Slot), K5 h y1 y2 y3 y4 = some h' → fh_R S g s.heap h H locs → lv_has ls 5 [(0, .ref (g.2.2 a)), (1, .ref (g.2.2 y1)), (2, .int y2), (3, .int y3), (4, .int y4)] → fh_Wk p l e 4 s m [.ref (g.2.2 a), .ref (g.2.2 x1), .int x2] below meth c S g none h' H locs (F0 m 5 ls [])), ∀ (h : fh_H) (y1 : Nat) (y2 : Int32) (y4 : Int32) (t0 : Int32) (t1 : Nat) (H : Heap) (locs : List Loc) (ls : Array Slot), z_X5_run_b119 S a K5 h y1 y2 y4 t0 t1 = some h' → fh_R S g s.heap h H locs → lv_has ls 5 [(0, .ref (g.2.2 a)), (1, .ref (g.2.2 y1)), (2, .int y2), (4, .int y4)] → fh_Wk p l e 4 s m [.ref (g.2.2 a), .ref (g.2.2 x1), .int x2] below meth c S g none h' H locs (F0 m 119 ls [.int t0, .ref (g.2.2 t1)]) := by
    intro K5 hK5 h y1 y2 y4 t0 t1 H locs ls hsp hR hl
    unfold z_X5_run_b119 at hsp
    obtain ⟨hk1, hsp⟩ := fr_ck hsp
    obtain ⟨hz2, hsp⟩ := fr_ck hsp
    refine fr_putz C hR hk1 Fp_RX5_55 rfl (of_decide_eq_true hz2) dX5_run_119 (fun H locs hR => ?_)
    obtain ⟨h3, eh3⟩ : ∃ z, z = fh_sI h t1 9 t0 := ⟨_, rfl⟩
    rw [← eh3] at hR
    have hsp := fr_let eh3 hsp
    refine lv_aload_n hx hb dX5_run_122 rfl (lv_at hl 0 rfl) ?_
    refine fr_geti C hR ha Fg_RX5_55 rfl dX5_run_123 ?_
    refine lv_if_eq (tgt := 136) hx hb dX5_run_126 (by decide) (fun c4 => ?_) (fun c4 => ?_)
    · rw [if_pos c4] at hsp
      refine lv_aload_n hx hb dX5_run_136 rfl (lv_at hl 0 rfl) ?_
      obtain ⟨r5, h6, E7, hsp⟩ := fr_b2 hsp
      refine fq_callV (rest := []) (st1 := [.int r5]) C hR (k_X5_readSecond C.2.2 ha E7) Y_X5_readSecond YV_X5_readSecond Lk_RX5_79 ha ⟨_, _, rfl, by decide⟩ rfl hl.1 ⟨Nat.le_of_ble_eq_true rfl, Nat.le_of_ble_eq_true rfl⟩ rfl (Nat.le_of_ble_eq_true rfl) ⟨Nat.zero_le _, Nat.zero_le _⟩ rfl dX5_run_137 (fun H locs hR => ?_)
      refine lv_istore_n (lv' := [(3, .int r5), (0, .ref (g.2.2 a)), (1, .ref (g.2.2 y1)), (2, .int y2), (4, .int y4)]) hx hb dX5_run_140 rfl hl (by decide) rfl (fun ls hl => ?_)
      obtain ⟨v8, ev8⟩ : ∃ z : Int32, z = y4 + 1 := ⟨_, rfl⟩
      have hsp := fr_let ev8 hsp
      refine lv_iinc (v := v8) (lv' := [(4, .int v8), (3, .int r5), (0, .ref (g.2.2 a)), (1, .ref (g.2.2 y1)), (2, .int y2)]) hx hb dX5_run_141 hl (k := 4) rfl (by rw [ev8]; rfl) (by decide) rfl (fun ls hl => ?_)
      refine lv_goto (tgt := 5) hx hb dX5_run_144 (by decide) ?_
      exact hK5 h6 y1 y2 r5 v8 _ _ _ hsp hR (lv_sub hl [2, 3, 4, 1, 0] rfl)
    · rw [if_neg c4] at hsp
      refine lv_aload_n hx hb dX5_run_129 rfl (lv_at hl 0 rfl) ?_
      obtain ⟨r9, h10, E11, hsp⟩ := fr_b2 hsp
      refine fq_callV (rest := []) (st1 := [.int r9]) C hR (k_X5_readFirst C.2.2 ha E11) Y_X5_readFirst YV_X5_readFirst Lk_RX5_75 ha ⟨_, _, rfl, by decide⟩ rfl hl.1 ⟨Nat.le_of_ble_eq_true rfl, Nat.le_of_ble_eq_true rfl⟩ rfl (Nat.le_of_ble_eq_true rfl) ⟨Nat.zero_le _, Nat.zero_le _⟩ rfl dX5_run_130 (fun H locs hR => ?_)
      refine lv_goto (tgt := 140) hx hb dX5_run_133 (by decide) ?_
      refine lv_istore_n (lv' := [(3, .int r9), (0, .ref (g.2.2 a)), (1, .ref (g.2.2 y1)), (2, .int y2), (4, .int y4)]) hx hb dX5_run_140 rfl hl (by decide) rfl (fun ls hl => ?_)
      obtain ⟨v12, ev12⟩ : ∃ z : Int32, z = y4 + 1 := ⟨_, rfl⟩
      have hsp := fr_let ev12 hsp
      refine lv_iinc (v := v12) (lv' := [(4, .int v12), (3, .int r9), (0, .ref (g.2.2 a)), (1, .ref (g.2.2 y1)), (2, .int y2)]) hx hb dX5_run_141 hl (k := 4) rfl (by rw [ev12]; rfl) (by decide) rfl (fun ls hl => ?_)
      refine lv_goto (tgt := 5) hx hb dX5_run_144 (by decide) ?_
      exact hK5 h10 y1 y2 r9 v12 _ _ _ hsp hR (lv_sub hl [2, 3, 4, 1, 0] rfl)
  have hb_62 : ∀ (K5 : fh_H → Nat → Int32 → Int32 → Int32 → Option fh_H) (hK5 : ∀ (h : fh_H) (y1 : Nat) (y2 : Int32) (y3 : Int32) (y4 : Int32) (H : Heap) (locs : List Loc) (ls : Array Slot), K5 h y1 y2 y3 y4 = some h' → fh_R S g s.heap h H locs → lv_has ls 5 [(0, .ref (g.2.2 a)), (1, .ref (g.2.2 y1)), (2, .int y2), (3, .int y3), (4, .int y4)] → fh_Wk p l e 4 s m [.ref (g.2.2 a), .ref (g.2.2 x1), .int x2] below meth c S g none h' H locs (F0 m 5 ls [])), ∀ (h : fh_H) (y1 : Nat) (y2 : Int32) (y4 : Int32) (H : Heap) (locs : List Loc) (ls : Array Slot), z_X5_run_b62 S a K5 h y1 y2 y4 = some h' → fh_R S g s.heap h H locs → lv_has ls 5 [(0, .ref (g.2.2 a)), (1, .ref (g.2.2 y1)), (2, .int y2), (4, .int y4)] → fh_Wk p l e 4 s m [.ref (g.2.2 a), .ref (g.2.2 x1), .int x2] below meth c S g none h' H locs (F0 m 62 ls []) := by
    intro K5 hK5 h y1 y2 y4 H locs ls hsp hR hl
    unfold z_X5_run_b62 at hsp
    refine lv_aload_n hx hb dX5_run_62 rfl (lv_at hl 0 rfl) ?_
    obtain ⟨r1, h2, E3, hsp⟩ := fr_b2 hsp
    refine fq_callV (rest := []) (st1 := [.int r1]) C hR (k_X5_isSure C.2.2 ha E3) Y_X5_isSure YV_X5_isSure Lk_RX5_67 ha ⟨_, _, rfl, by decide⟩ rfl hl.1 ⟨Nat.le_of_ble_eq_true rfl, Nat.le_of_ble_eq_true rfl⟩ rfl (Nat.le_of_ble_eq_true rfl) ⟨Nat.zero_le _, Nat.zero_le _⟩ rfl dX5_run_63 (fun H locs hR => ?_)
    refine lv_if_eq (tgt := 78) hx hb dX5_run_66 (by decide) (fun c4 => ?_) (fun c4 => ?_)
    · rw [if_pos c4] at hsp
      refine lv_aload_n hx hb dX5_run_78 rfl (lv_at hl 0 rfl) ?_
      refine fr_geti C hR ha Fg_RX5_45 rfl dX5_run_79 ?_
      refine lv_bipush (v := 100) hx hb dX5_run_82 (by decide) ?_
      refine lv_icmp_lt (tgt := 92) hx hb dX5_run_84 (by decide) (fun c5 => ?_) (fun c5 => ?_)
      · rw [if_pos c5] at hsp
        refine lv_aload_n hx hb dX5_run_92 rfl (lv_at hl 0 rfl) ?_
        refine lv_aload_n hx hb dX5_run_93 rfl (lv_at hl 0 rfl) ?_
        refine fr_geti C hR ha Fg_RX5_48 rfl dX5_run_94 ?_
        refine lv_if_ne (tgt := 118) hx hb dX5_run_97 (by decide) (fun c6 => ?_) (fun c6 => ?_)
        · rw [if_neg c6] at hsp
          refine lv_iconst (v := 0) hx hb dX5_run_118 (by decide) ?_
          exact hb_119 K5 hK5 h2 y1 y2 y4 (0 : Int32) a _ _ _ hsp hR (lv_sub hl [0, 1, 2, 3] rfl)
        · rw [if_pos c6] at hsp
          refine lv_aload_n hx hb dX5_run_100 rfl (lv_at hl 0 rfl) ?_
          refine fr_geti C hR ha Fg_RX5_52 rfl dX5_run_101 ?_
          refine lv_if_ne (tgt := 114) hx hb dX5_run_104 (by decide) (fun c7 => ?_) (fun c7 => ?_)
          · rw [if_neg c7] at hsp
            refine lv_iconst (v := 1) hx hb dX5_run_114 (by decide) ?_
            refine lv_goto (tgt := 119) hx hb dX5_run_115 (by decide) ?_
            exact hb_119 K5 hK5 h2 y1 y2 y4 (1 : Int32) a _ _ _ hsp hR (lv_sub hl [0, 1, 2, 3] rfl)
          · rw [if_pos c7] at hsp
            refine lv_aload_n hx hb dX5_run_107 rfl (lv_at hl 0 rfl) ?_
            refine fr_geti C hR ha Fg_RX5_55 rfl dX5_run_108 ?_
            refine lv_if_ne (tgt := 118) hx hb dX5_run_111 (by decide) (fun c8 => ?_) (fun c8 => ?_)
            · rw [if_neg c8] at hsp
              refine lv_iconst (v := 0) hx hb dX5_run_118 (by decide) ?_
              exact hb_119 K5 hK5 h2 y1 y2 y4 (0 : Int32) a _ _ _ hsp hR (lv_sub hl [0, 1, 2, 3] rfl)
            · rw [if_pos c8] at hsp
              refine lv_iconst (v := 1) hx hb dX5_run_114 (by decide) ?_
              refine lv_goto (tgt := 119) hx hb dX5_run_115 (by decide) ?_
              exact hb_119 K5 hK5 h2 y1 y2 y4 (1 : Int32) a _ _ _ hsp hR (lv_sub hl [0, 1, 2, 3] rfl)
      · rw [if_neg c5] at hsp
        refine lv_iconst (v := 3) hx hb dX5_run_87 (by decide) ?_
        refine lv_istore_n (lv' := [(3, .int (3 : Int32)), (0, .ref (g.2.2 a)), (1, .ref (g.2.2 y1)), (2, .int y2), (4, .int y4)]) hx hb dX5_run_88 rfl hl (by decide) rfl (fun ls hl => ?_)
        refine lv_goto (tgt := 141) hx hb dX5_run_89 (by decide) ?_
        obtain ⟨v9, ev9⟩ : ∃ z : Int32, z = y4 + 1 := ⟨_, rfl⟩
        have hsp := fr_let ev9 hsp
        refine lv_iinc (v := v9) (lv' := [(4, .int v9), (3, .int (3 : Int32)), (0, .ref (g.2.2 a)), (1, .ref (g.2.2 y1)), (2, .int y2)]) hx hb dX5_run_141 hl (k := 4) rfl (by rw [ev9]; rfl) (by decide) rfl (fun ls hl => ?_)
        refine lv_goto (tgt := 5) hx hb dX5_run_144 (by decide) ?_
        exact hK5 h2 y1 y2 (3 : Int32) v9 _ _ _ hsp hR (lv_sub hl [2, 3, 4, 1, 0] rfl)
    · rw [if_neg c4] at hsp
      refine lv_aload_n hx hb dX5_run_69 rfl (lv_at hl 0 rfl) ?_
      refine lv_aload_n hx hb dX5_run_70 rfl (lv_at hl 1 rfl) ?_
      obtain ⟨hk10, hsp⟩ := fr_ck hsp
      obtain ⟨r11, h12, E13, hsp⟩ := fr_b2 hsp
      refine fq_callV (rest := []) (st1 := [.int r11]) C hR (k_X5_letOut C.2.2 ha hk10 E13) Y_X5_letOut YV_X5_letOut Lk_RX5_71 ha ⟨_, _, rfl, by decide⟩ rfl hl.1 ⟨Nat.le_of_ble_eq_true rfl, Nat.le_of_ble_eq_true rfl⟩ rfl (Nat.le_of_ble_eq_true rfl) ⟨Nat.zero_le _, Nat.zero_le _⟩ rfl dX5_run_71 (fun H locs hR => ?_)
      refine lv_istore_n (lv' := [(3, .int r11), (0, .ref (g.2.2 a)), (1, .ref (g.2.2 y1)), (2, .int y2), (4, .int y4)]) hx hb dX5_run_74 rfl hl (by decide) rfl (fun ls hl => ?_)
      refine lv_goto (tgt := 141) hx hb dX5_run_75 (by decide) ?_
      obtain ⟨v14, ev14⟩ : ∃ z : Int32, z = y4 + 1 := ⟨_, rfl⟩
      have hsp := fr_let ev14 hsp
      refine lv_iinc (v := v14) (lv' := [(4, .int v14), (3, .int r11), (0, .ref (g.2.2 a)), (1, .ref (g.2.2 y1)), (2, .int y2)]) hx hb dX5_run_141 hl (k := 4) rfl (by rw [ev14]; rfl) (by decide) rfl (fun ls hl => ?_)
      refine lv_goto (tgt := 5) hx hb dX5_run_144 (by decide) ?_
      exact hK5 h12 y1 y2 r11 v14 _ _ _ hsp hR (lv_sub hl [2, 3, 4, 1, 0] rfl)
  have hb_5 : ∀ (n : Nat) (h : fh_H) (y1 : Nat) (y2 : Int32) (y3 : Int32) (y4 : Int32) (H : Heap) (locs : List Loc) (ls : Array Slot), z_X5_run_b5 S a n h y1 y2 y3 y4 = some h' → fh_R S g s.heap h H locs → lv_has ls 5 [(0, .ref (g.2.2 a)), (1, .ref (g.2.2 y1)), (2, .int y2), (3, .int y3), (4, .int y4)] → fh_Wk p l e 4 s m [.ref (g.2.2 a), .ref (g.2.2 x1), .int x2] below meth c S g none h' H locs (F0 m 5 ls []) := by
    intro n
    induction n with
    | zero => intro h y1 y2 y3 y4 H locs ls hsp; cases hsp
    | succ n ih =>
      intro h y1 y2 y3 y4 H locs ls hsp hR hl
      rw [z_X5_run_b5] at hsp
      refine lv_iload hx hb dX5_run_5 (lv_at hl 4 rfl) ?_
      refine lv_sipush (v := 200) hx hb dX5_run_7 (by decide) ?_
      refine lv_icmp_ge (tgt := 147) hx hb dX5_run_10 (by decide) (fun c1 => ?_) (fun c1 => ?_)
      · rw [if_pos c1] at hsp
        refine lv_aload_n hx hb dX5_run_147 rfl (lv_at hl 1 rfl) ?_
        refine lv_iload_n hx hb dX5_run_148 rfl (lv_at hl 3 rfl) ?_
        refine lv_iconst (v := 4) hx hb dX5_run_149 (by decide) ?_
        refine lv_icmp_ne (tgt := 157) hx hb dX5_run_150 (by decide) (fun c2 => ?_) (fun c2 => ?_)
        · rw [if_neg c2] at hsp
          refine lv_iload_n hx hb dX5_run_157 rfl (lv_at hl 3 rfl) ?_
          exact hb_158 h y1 y3 y1 _ _ _ hsp hR (lv_sub hl [0, 1] rfl)
        · rw [if_pos c2] at hsp
          refine lv_iconst (v := 3) hx hb dX5_run_153 (by decide) ?_
          refine lv_goto (tgt := 158) hx hb dX5_run_154 (by decide) ?_
          exact hb_158 h y1 (3 : Int32) y1 _ _ _ hsp hR (lv_sub hl [0, 1] rfl)
      · rw [if_neg c1] at hsp
        refine lv_iload_n hx hb dX5_run_13 rfl (lv_at hl 3 rfl) ?_
        refine lv_iconst (v := 4) hx hb dX5_run_14 (by decide) ?_
        refine lv_icmp_ne (tgt := 147) hx hb dX5_run_15 (by decide) (fun c3 => ?_) (fun c3 => ?_)
        · rw [if_neg c3] at hsp
          refine lv_aload_n hx hb dX5_run_147 rfl (lv_at hl 1 rfl) ?_
          refine lv_iload_n hx hb dX5_run_148 rfl (lv_at hl 3 rfl) ?_
          refine lv_iconst (v := 4) hx hb dX5_run_149 (by decide) ?_
          refine lv_icmp_ne (tgt := 157) hx hb dX5_run_150 (by decide) (fun c4 => ?_) (fun c4 => ?_)
          · rw [if_neg c4] at hsp
            refine lv_iload_n hx hb dX5_run_157 rfl (lv_at hl 3 rfl) ?_
            exact hb_158 h y1 y3 y1 _ _ _ hsp hR (lv_sub hl [0, 1] rfl)
          · rw [if_pos c4] at hsp
            refine lv_iconst (v := 3) hx hb dX5_run_153 (by decide) ?_
            refine lv_goto (tgt := 158) hx hb dX5_run_154 (by decide) ?_
            exact hb_158 h y1 (3 : Int32) y1 _ _ _ hsp hR (lv_sub hl [0, 1] rfl)
        · rw [if_pos c3] at hsp
          refine lv_aload_n hx hb dX5_run_18 rfl (lv_at hl 1 rfl) ?_
          obtain ⟨hk5, hsp⟩ := fr_ck hsp
          refine fr_geti C hR hk5 Fg_RX5_58 rfl dX5_run_19 ?_
          refine lv_iload_n hx hb dX5_run_22 rfl (lv_at hl 2 rfl) ?_
          refine lv_icmp_lt (tgt := 31) hx hb dX5_run_23 (by decide) (fun c6 => ?_) (fun c6 => ?_)
          · rw [if_pos c6] at hsp
            refine lv_aload_n hx hb dX5_run_31 rfl (lv_at hl 0 rfl) ?_
            refine fr_geti C hR ha Fg_RX5_48 rfl dX5_run_32 ?_
            refine lv_if_eq (tgt := 62) hx hb dX5_run_35 (by decide) (fun c7 => ?_) (fun c7 => ?_)
            · rw [if_pos c7] at hsp
              exact hb_62 (z_X5_run_b5 S a n) ih h y1 y2 y4 _ _ _ hsp hR (lv_sub hl [0, 1, 2, 4] rfl)
            · rw [if_neg c7] at hsp
              refine lv_aload_n hx hb dX5_run_38 rfl (lv_at hl 0 rfl) ?_
              refine fr_geti C hR ha Fg_RX5_52 rfl dX5_run_39 ?_
              refine lv_if_eq (tgt := 62) hx hb dX5_run_42 (by decide) (fun c8 => ?_) (fun c8 => ?_)
              · rw [if_pos c8] at hsp
                exact hb_62 (z_X5_run_b5 S a n) ih h y1 y2 y4 _ _ _ hsp hR (lv_sub hl [0, 1, 2, 4] rfl)
              · rw [if_neg c8] at hsp
                refine lv_aload_n hx hb dX5_run_45 rfl (lv_at hl 0 rfl) ?_
                obtain ⟨j9, hv10, hsp⟩ := fr_b1 hsp
                refine fr_getr C hR ha Fg_RX5_18 rfl hv10 dX5_run_46 ?_
                obtain ⟨hk11, hsp⟩ := fr_ck hsp
                refine fr_getj C hR hk11 Fg_RX5_63 rfl dX5_run_49 ?_
                refine lv_lconst (v := 0) hx hb dX5_run_52 (by decide) ?_
                refine fr_lc_ne (tgt := 62) hx hb dX5_run_53 dX5_run_54 (by decide) (fun c12 => ?_) (fun c12 => ?_)
                · rw [if_neg c12] at hsp
                  exact hb_62 (z_X5_run_b5 S a n) ih h y1 y2 y4 _ _ _ hsp hR (lv_sub hl [0, 1, 2, 4] rfl)
                · rw [if_pos c12] at hsp
                  refine lv_iconst (v := 1) hx hb dX5_run_57 (by decide) ?_
                  refine lv_istore_n (lv' := [(3, .int (1 : Int32)), (0, .ref (g.2.2 a)), (1, .ref (g.2.2 y1)), (2, .int y2), (4, .int y4)]) hx hb dX5_run_58 rfl hl (by decide) rfl (fun ls hl => ?_)
                  refine lv_goto (tgt := 141) hx hb dX5_run_59 (by decide) ?_
                  obtain ⟨v13, ev13⟩ : ∃ z : Int32, z = y4 + 1 := ⟨_, rfl⟩
                  have hsp := fr_let ev13 hsp
                  refine lv_iinc (v := v13) (lv' := [(4, .int v13), (3, .int (1 : Int32)), (0, .ref (g.2.2 a)), (1, .ref (g.2.2 y1)), (2, .int y2)]) hx hb dX5_run_141 hl (k := 4) rfl (by rw [ev13]; rfl) (by decide) rfl (fun ls hl => ?_)
                  refine lv_goto (tgt := 5) hx hb dX5_run_144 (by decide) ?_
                  exact ih h y1 y2 (1 : Int32) v13 _ _ _ hsp hR (lv_sub hl [2, 3, 4, 1, 0] rfl)
          · rw [if_neg c6] at hsp
            refine lv_iconst (v := 0) hx hb dX5_run_26 (by decide) ?_
            refine lv_istore_n (lv' := [(3, .int (0 : Int32)), (0, .ref (g.2.2 a)), (1, .ref (g.2.2 y1)), (2, .int y2), (4, .int y4)]) hx hb dX5_run_27 rfl hl (by decide) rfl (fun ls hl => ?_)
            refine lv_goto (tgt := 141) hx hb dX5_run_28 (by decide) ?_
            obtain ⟨v14, ev14⟩ : ∃ z : Int32, z = y4 + 1 := ⟨_, rfl⟩
            have hsp := fr_let ev14 hsp
            refine lv_iinc (v := v14) (lv' := [(4, .int v14), (3, .int (0 : Int32)), (0, .ref (g.2.2 a)), (1, .ref (g.2.2 y1)), (2, .int y2)]) hx hb dX5_run_141 hl (k := 4) rfl (by rw [ev14]; rfl) (by decide) rfl (fun ls hl => ?_)
            refine lv_goto (tgt := 5) hx hb dX5_run_144 (by decide) ?_
            exact ih h y1 y2 (0 : Int32) v14 _ _ _ hsp hR (lv_sub hl [2, 3, 4, 1, 0] rfl)
  refine lv_iconst (v := 4) hx hb dX5_run_0 (by decide) ?_
  refine lv_istore_n (lv' := [(3, .int (4 : Int32)), (0, .ref (g.2.2 a)), (1, .ref (g.2.2 x1)), (2, .int x2)]) hx hb dX5_run_1 rfl hl (by decide) rfl (fun ls hl => ?_)
  refine lv_iconst (v := 0) hx hb dX5_run_2 (by decide) ?_
  refine lv_istore (lv' := [(4, .int (0 : Int32)), (3, .int (4 : Int32)), (0, .ref (g.2.2 a)), (1, .ref (g.2.2 x1)), (2, .int x2)]) hx hb dX5_run_3 hl (by decide) rfl (fun ls hl => ?_)
  exact hb_5 20000 h x1 x2 (4 : Int32) (0 : Int32) _ _ _ hsp hR (lv_sub hl [2, 3, 4, 1, 0] rfl)

/-! TermRows$RowText.parseBrackets()V -/
def z_X7_parseBrackets_b14 (S : fh_S) (a : Nat) : Nat → fh_H → Int32 → Option fh_H
  | 0, _, _ => none
  | n + 1, h, y1 =>
    if (200 : Int32) ≤ y1 then (fh_b1 (h.2.2 a 0) (fun j2 => fh_ck (fh_kq S j2 10) (fh_b1 (z_X10_expect S h j2 (41 : Int32)) (fun h5 => some h5)))) else (fh_b2 (z_X7_takeMark S h a) (fun r7 h8 => if r7 = 0 then (fh_b1 (h8.2.2 a 0) (fun j11 => fh_ck (fh_kq S j11 10) (fh_b1 (z_X10_expect S h8 j11 (41 : Int32)) (fun h14 => some h14)))) else (fh_b1 (h8.2.2 a 0) (fun j16 => fh_ck (fh_kq S j16 10) (fh_b2 (z_X10_takeFigures S h8 j16 (1 : Int32)) (fun r19 h20 => fh_b1 (z_X7_keep S h20 a r19) (fun h22 => fh_let (y1 + 1) (fun v24 => z_X7_parseBrackets_b14 S a n h22 v24))))))))
def z_X7_parseBrackets (S : fh_S) (h : fh_H) (a : Nat) : Option fh_H :=
    fh_b1 (h.2.2 a 0) (fun j1 => fh_ck (fh_kq S j1 10) (fh_b2 (z_X10_takeFigures S h j1 (1 : Int32)) (fun r4 h5 => fh_b1 (z_X7_keep S h5 a r4) (fun h7 => z_X7_parseBrackets_b14 S a 20000 h7 (0 : Int32)))))
set_option maxHeartbeats 4000000 in
set_option maxRecDepth 100000 in
theorem k_X7_parseBrackets {l : Launch} {S : fh_S} {g : fh_G} {h h' : fh_H} (hj : fh_inj S g) {a : Nat} (ha : fh_kq S a 7 = true) (hsp : z_X7_parseBrackets S h a = some h') : fh_M l yX7_parseBrackets cX7_parseBrackets 2 none (fh_rm 4) S g [.ref (g.2.2 a)] h none h' := by
  unfold z_X7_parseBrackets at hsp
  refine fr_head (own := RX7) (by decide) rfl hj (Nat.le_of_ble_eq_true rfl) ?_
  intro p e s m below meth c ls C hr hlocks hR hl
  have hl : lv_has ls 2 [(0, .ref (g.2.2 a))] := hl
  have hx := C.1.1
  have hb := C.1.2.1
  have hb_14 : ∀ (n : Nat) (h : fh_H) (y1 : Int32) (H : Heap) (locs : List Loc) (ls : Array Slot), z_X7_parseBrackets_b14 S a n h y1 = some h' → fh_R S g s.heap h H locs → lv_has ls 2 [(0, .ref (g.2.2 a)), (1, .int y1)] → fh_Wk p l e 4 s m [.ref (g.2.2 a)] below meth c S g none h' H locs (F0 m 14 ls []) := by
    intro n
    induction n with
    | zero => intro h y1 H locs ls hsp; cases hsp
    | succ n ih =>
      intro h y1 H locs ls hsp hR hl
      rw [z_X7_parseBrackets_b14] at hsp
      refine lv_iload_n hx hb dX7_parseBrackets_14 rfl (lv_at hl 1 rfl) ?_
      refine lv_sipush (v := 200) hx hb dX7_parseBrackets_15 (by decide) ?_
      refine lv_icmp_ge (tgt := 46) hx hb dX7_parseBrackets_18 (by decide) (fun c1 => ?_) (fun c1 => ?_)
      · rw [if_pos c1] at hsp
        refine lv_aload_n hx hb dX7_parseBrackets_46 rfl (lv_at hl 0 rfl) ?_
        obtain ⟨j2, hv3, hsp⟩ := fr_b1 hsp
        refine fr_getr C hR ha Fg_RX7_15 rfl hv3 dX7_parseBrackets_47 ?_
        refine lv_bipush (v := 41) hx hb dX7_parseBrackets_50 (by decide) ?_
        obtain ⟨hk4, hsp⟩ := fr_ck hsp
        obtain ⟨h5, E6, hsp⟩ := fr_b1 hsp
        refine fq_callV (rest := []) (st1 := []) C hR (k_X10_expect C.2.2 hk4 E6) Y_X10_expect YV_X10_expect Lk_RX7_26 hk4 ⟨_, _, rfl, by decide⟩ rfl hl.1 ⟨Nat.le_of_ble_eq_true rfl, Nat.le_of_ble_eq_true rfl⟩ rfl (Nat.le_of_ble_eq_true rfl) ⟨Nat.zero_le _, Nat.zero_le _⟩ rfl dX7_parseBrackets_52 (fun H locs hR => ?_)
        exact fr_vret C hr hlocks hR (fr_s1 hsp) dX7_parseBrackets_55
      · rw [if_neg c1] at hsp
        refine lv_aload_n hx hb dX7_parseBrackets_21 rfl (lv_at hl 0 rfl) ?_
        obtain ⟨r7, h8, E9, hsp⟩ := fr_b2 hsp
        refine fq_callV (rest := []) (st1 := [.int r7]) C hR (k_X7_takeMark C.2.2 ha E9) Y_X7_takeMark YV_X7_takeMark Lk_RX7_43 ha ⟨_, _, rfl, by decide⟩ rfl hl.1 ⟨Nat.le_of_ble_eq_true rfl, Nat.le_of_ble_eq_true rfl⟩ rfl (Nat.le_of_ble_eq_true rfl) ⟨Nat.zero_le _, Nat.zero_le _⟩ rfl dX7_parseBrackets_22 (fun H locs hR => ?_)
        refine lv_if_eq (tgt := 46) hx hb dX7_parseBrackets_25 (by decide) (fun c10 => ?_) (fun c10 => ?_)
        · rw [if_pos c10] at hsp
          refine lv_aload_n hx hb dX7_parseBrackets_46 rfl (lv_at hl 0 rfl) ?_
          obtain ⟨j11, hv12, hsp⟩ := fr_b1 hsp
          refine fr_getr C hR ha Fg_RX7_15 rfl hv12 dX7_parseBrackets_47 ?_
          refine lv_bipush (v := 41) hx hb dX7_parseBrackets_50 (by decide) ?_
          obtain ⟨hk13, hsp⟩ := fr_ck hsp
          obtain ⟨h14, E15, hsp⟩ := fr_b1 hsp
          refine fq_callV (rest := []) (st1 := []) C hR (k_X10_expect C.2.2 hk13 E15) Y_X10_expect YV_X10_expect Lk_RX7_26 hk13 ⟨_, _, rfl, by decide⟩ rfl hl.1 ⟨Nat.le_of_ble_eq_true rfl, Nat.le_of_ble_eq_true rfl⟩ rfl (Nat.le_of_ble_eq_true rfl) ⟨Nat.zero_le _, Nat.zero_le _⟩ rfl dX7_parseBrackets_52 (fun H locs hR => ?_)
          exact fr_vret C hr hlocks hR (fr_s1 hsp) dX7_parseBrackets_55
        · rw [if_neg c10] at hsp
          refine lv_aload_n hx hb dX7_parseBrackets_28 rfl (lv_at hl 0 rfl) ?_
          refine lv_aload_n hx hb dX7_parseBrackets_29 rfl (lv_at hl 0 rfl) ?_
          obtain ⟨j16, hv17, hsp⟩ := fr_b1 hsp
          refine fr_getr C hR ha Fg_RX7_15 rfl hv17 dX7_parseBrackets_30 ?_
          refine lv_iconst (v := 1) hx hb dX7_parseBrackets_33 (by decide) ?_
          obtain ⟨hk18, hsp⟩ := fr_ck hsp
          obtain ⟨r19, h20, E21, hsp⟩ := fr_b2 hsp
          refine fq_callV (rest := [.ref (g.2.2 a)]) (st1 := [.int r19, .ref (g.2.2 a)]) C hR (k_X10_takeFigures C.2.2 hk18 E21) Y_X10_takeFigures YV_X10_takeFigures Lk_RX7_36 hk18 ⟨_, _, rfl, by decide⟩ rfl hl.1 ⟨Nat.le_of_ble_eq_true rfl, Nat.le_of_ble_eq_true rfl⟩ rfl (Nat.le_of_ble_eq_true rfl) ⟨Nat.zero_le _, Nat.zero_le _⟩ rfl dX7_parseBrackets_34 (fun H locs hR => ?_)
          obtain ⟨h22, E23, hsp⟩ := fr_b1 hsp
          refine fq_callV (rest := []) (st1 := []) C hR (k_X7_keep C.2.2 ha E23) Y_X7_keep YV_X7_keep Lk_RX7_40 ha ⟨_, _, rfl, by decide⟩ rfl hl.1 ⟨Nat.le_of_ble_eq_true rfl, Nat.le_of_ble_eq_true rfl⟩ rfl (Nat.le_of_ble_eq_true rfl) ⟨Nat.zero_le _, Nat.zero_le _⟩ rfl dX7_parseBrackets_37 (fun H locs hR => ?_)
          obtain ⟨v24, ev24⟩ : ∃ z : Int32, z = y1 + 1 := ⟨_, rfl⟩
          have hsp := fr_let ev24 hsp
          refine lv_iinc (v := v24) (lv' := [(1, .int v24), (0, .ref (g.2.2 a))]) hx hb dX7_parseBrackets_40 hl (k := 1) rfl (by rw [ev24]; rfl) (by decide) rfl (fun ls hl => ?_)
          refine lv_goto (tgt := 14) hx hb dX7_parseBrackets_43 (by decide) ?_
          exact ih h22 v24 _ _ _ hsp hR (lv_sub hl [1, 0] rfl)
  refine lv_aload_n hx hb dX7_parseBrackets_0 rfl (lv_at hl 0 rfl) ?_
  refine lv_aload_n hx hb dX7_parseBrackets_1 rfl (lv_at hl 0 rfl) ?_
  obtain ⟨j1, hv2, hsp⟩ := fr_b1 hsp
  refine fr_getr C hR ha Fg_RX7_15 rfl hv2 dX7_parseBrackets_2 ?_
  refine lv_iconst (v := 1) hx hb dX7_parseBrackets_5 (by decide) ?_
  obtain ⟨hk3, hsp⟩ := fr_ck hsp
  obtain ⟨r4, h5, E6, hsp⟩ := fr_b2 hsp
  refine fq_callV (rest := [.ref (g.2.2 a)]) (st1 := [.int r4, .ref (g.2.2 a)]) C hR (k_X10_takeFigures C.2.2 hk3 E6) Y_X10_takeFigures YV_X10_takeFigures Lk_RX7_36 hk3 ⟨_, _, rfl, by decide⟩ rfl hl.1 ⟨Nat.le_of_ble_eq_true rfl, Nat.le_of_ble_eq_true rfl⟩ rfl (Nat.le_of_ble_eq_true rfl) ⟨Nat.zero_le _, Nat.zero_le _⟩ rfl dX7_parseBrackets_6 (fun H locs hR => ?_)
  obtain ⟨h7, E8, hsp⟩ := fr_b1 hsp
  refine fq_callV (rest := []) (st1 := []) C hR (k_X7_keep C.2.2 ha E8) Y_X7_keep YV_X7_keep Lk_RX7_40 ha ⟨_, _, rfl, by decide⟩ rfl hl.1 ⟨Nat.le_of_ble_eq_true rfl, Nat.le_of_ble_eq_true rfl⟩ rfl (Nat.le_of_ble_eq_true rfl) ⟨Nat.zero_le _, Nat.zero_le _⟩ rfl dX7_parseBrackets_9 (fun H locs hR => ?_)
  refine lv_iconst (v := 0) hx hb dX7_parseBrackets_12 (by decide) ?_
  refine lv_istore_n (lv' := [(1, .int (0 : Int32)), (0, .ref (g.2.2 a))]) hx hb dX7_parseBrackets_13 rfl hl (by decide) rfl (fun ls hl => ?_)
  exact hb_14 20000 h7 (0 : Int32) _ _ _ hsp hR (lv_sub hl [1, 0] rfl)

/-! TermRows$Saying.putFirst(LTermRows$Row;I)V -/
def z_X8_putFirst (S : fh_S) (h : fh_H) (a : Nat) (x1 : Nat) (x2 : Int32) : Option fh_H :=
    fh_b1 (z_J9_min_7cf53 x2 (h.1 x1 6)) (fun r1 => fh_b1 (z_X8_putSign S h a (91 : Int32)) (fun h3 => fh_b1 (z_X8_putTerms S h3 a x1 (0 : Int32) r1) (fun h5 => if r1 < (h5.1 x1 6) then (fh_b1 (z_X8_putSign S h5 a (126 : Int32)) (fun h8 => fh_b1 (z_X8_putSign S h8 a (93 : Int32)) (fun h10 => some h10))) else (if (h5.1 x1 7) = (1 : Int32) then (fh_b1 (z_X8_putSign S h5 a (93 : Int32)) (fun h13 => some h13)) else (fh_b1 (z_X8_putSign S h5 a (126 : Int32)) (fun h15 => fh_b1 (z_X8_putSign S h15 a (93 : Int32)) (fun h17 => some h17)))))))
set_option maxHeartbeats 4000000 in
set_option maxRecDepth 100000 in
theorem k_X8_putFirst {l : Launch} {S : fh_S} {g : fh_G} {h h' : fh_H} (hj : fh_inj S g) {a : Nat} {x1 : Nat} {x2 : Int32} (ha : fh_kq S a 8 = true) (k_x1 : fh_kq S x1 6 = true) (hsp : z_X8_putFirst S h a x1 x2 = some h') : fh_M l yX8_putFirst cX8_putFirst 4 none (fh_rm 4) S g [.ref (g.2.2 a), .ref (g.2.2 x1), .int x2] h none h' := by
  unfold z_X8_putFirst at hsp
  refine fr_head (own := RX8) (by decide) rfl hj (Nat.le_of_ble_eq_true rfl) ?_
  intro p e s m below meth c ls C hr hlocks hR hl
  have hl : lv_has ls 4 [(0, .ref (g.2.2 a)), (1, .ref (g.2.2 x1)), (2, .int x2)] := hl
  have hx := C.1.1
  have hb := C.1.2.1
  refine lv_iload_n hx hb dX8_putFirst_0 rfl (lv_at hl 2 rfl) ?_
  refine lv_aload_n hx hb dX8_putFirst_1 rfl (lv_at hl 1 rfl) ?_
  refine fr_geti C hR k_x1 Fg_RX8_19 rfl dX8_putFirst_2 ?_
  obtain ⟨r1, E2, hsp⟩ := fr_b1 hsp
  refine fq_callS (rest := []) (st1 := [.int r1]) C hR (k_J9_min_7cf53 C.2.2 E2) Y_J9_min_7cf53 YS_J9_min_7cf53 Lk_RX8_24 rfl hl.1 ⟨Nat.le_of_ble_eq_true rfl, Nat.le_of_ble_eq_true rfl⟩ rfl (Nat.le_of_ble_eq_true rfl) ⟨Nat.zero_le _, Nat.zero_le _⟩ rfl dX8_putFirst_5 (fun H locs hR => ?_)
  refine lv_istore_n (lv' := [(3, .int r1), (0, .ref (g.2.2 a)), (1, .ref (g.2.2 x1)), (2, .int x2)]) hx hb dX8_putFirst_8 rfl hl (by decide) rfl (fun ls hl => ?_)
  refine lv_aload_n hx hb dX8_putFirst_9 rfl (lv_at hl 1 rfl) ?_
  refine lv_bipush (v := 91) hx hb dX8_putFirst_10 (by decide) ?_
  obtain ⟨h3, E4, hsp⟩ := fr_b1 hsp
  refine fq_callV (rest := []) (st1 := []) C hR (k_X8_putSign C.2.2 ha E4) Y_X8_putSign YV_X8_putSign Lk_RX8_30 ha ⟨_, _, rfl, by decide⟩ rfl hl.1 ⟨Nat.le_of_ble_eq_true rfl, Nat.le_of_ble_eq_true rfl⟩ rfl (Nat.le_of_ble_eq_true rfl) ⟨Nat.zero_le _, Nat.zero_le _⟩ rfl dX8_putFirst_12 (fun H locs hR => ?_)
  refine lv_aload_n hx hb dX8_putFirst_15 rfl (lv_at hl 1 rfl) ?_
  refine lv_aload_n hx hb dX8_putFirst_16 rfl (lv_at hl 2 rfl) ?_
  refine lv_iconst (v := 0) hx hb dX8_putFirst_17 (by decide) ?_
  refine lv_iload_n hx hb dX8_putFirst_18 rfl (lv_at hl 0 rfl) ?_
  obtain ⟨h5, E6, hsp⟩ := fr_b1 hsp
  refine fq_callV (rest := []) (st1 := []) C hR (k_X8_putTerms C.2.2 ha k_x1 E6) Y_X8_putTerms YV_X8_putTerms Lk_RX8_34 ha ⟨_, _, rfl, by decide⟩ rfl hl.1 ⟨Nat.le_of_ble_eq_true rfl, Nat.le_of_ble_eq_true rfl⟩ rfl (Nat.le_of_ble_eq_true rfl) ⟨Nat.zero_le _, Nat.zero_le _⟩ rfl dX8_putFirst_19 (fun H locs hR => ?_)
  refine lv_aload_n hx hb dX8_putFirst_22 rfl (lv_at hl 2 rfl) ?_
  refine fr_geti C hR k_x1 Fg_RX8_19 rfl dX8_putFirst_23 ?_
  refine lv_iload_n hx hb dX8_putFirst_26 rfl (lv_at hl 0 rfl) ?_
  refine lv_icmp_gt (tgt := 38) hx hb dX8_putFirst_27 (by decide) (fun c7 => ?_) (fun c7 => ?_)
  · rw [if_pos c7] at hsp
    refine lv_aload_n hx hb dX8_putFirst_38 rfl (lv_at hl 1 rfl) ?_
    refine lv_bipush (v := 126) hx hb dX8_putFirst_39 (by decide) ?_
    obtain ⟨h8, E9, hsp⟩ := fr_b1 hsp
    refine fq_callV (rest := []) (st1 := []) C hR (k_X8_putSign C.2.2 ha E9) Y_X8_putSign YV_X8_putSign Lk_RX8_30 ha ⟨_, _, rfl, by decide⟩ rfl hl.1 ⟨Nat.le_of_ble_eq_true rfl, Nat.le_of_ble_eq_true rfl⟩ rfl (Nat.le_of_ble_eq_true rfl) ⟨Nat.zero_le _, Nat.zero_le _⟩ rfl dX8_putFirst_41 (fun H locs hR => ?_)
    refine lv_aload_n hx hb dX8_putFirst_44 rfl (lv_at hl 1 rfl) ?_
    refine lv_bipush (v := 93) hx hb dX8_putFirst_45 (by decide) ?_
    obtain ⟨h10, E11, hsp⟩ := fr_b1 hsp
    refine fq_callV (rest := []) (st1 := []) C hR (k_X8_putSign C.2.2 ha E11) Y_X8_putSign YV_X8_putSign Lk_RX8_30 ha ⟨_, _, rfl, by decide⟩ rfl hl.1 ⟨Nat.le_of_ble_eq_true rfl, Nat.le_of_ble_eq_true rfl⟩ rfl (Nat.le_of_ble_eq_true rfl) ⟨Nat.zero_le _, Nat.zero_le _⟩ rfl dX8_putFirst_47 (fun H locs hR => ?_)
    exact fr_vret C hr hlocks hR (fr_s1 hsp) dX8_putFirst_50
  · rw [if_neg c7] at hsp
    refine lv_aload_n hx hb dX8_putFirst_30 rfl (lv_at hl 2 rfl) ?_
    refine fr_geti C hR k_x1 Fg_RX8_38 rfl dX8_putFirst_31 ?_
    refine lv_iconst (v := 1) hx hb dX8_putFirst_34 (by decide) ?_
    refine lv_icmp_eq (tgt := 44) hx hb dX8_putFirst_35 (by decide) (fun c12 => ?_) (fun c12 => ?_)
    · rw [if_pos c12] at hsp
      refine lv_aload_n hx hb dX8_putFirst_44 rfl (lv_at hl 1 rfl) ?_
      refine lv_bipush (v := 93) hx hb dX8_putFirst_45 (by decide) ?_
      obtain ⟨h13, E14, hsp⟩ := fr_b1 hsp
      refine fq_callV (rest := []) (st1 := []) C hR (k_X8_putSign C.2.2 ha E14) Y_X8_putSign YV_X8_putSign Lk_RX8_30 ha ⟨_, _, rfl, by decide⟩ rfl hl.1 ⟨Nat.le_of_ble_eq_true rfl, Nat.le_of_ble_eq_true rfl⟩ rfl (Nat.le_of_ble_eq_true rfl) ⟨Nat.zero_le _, Nat.zero_le _⟩ rfl dX8_putFirst_47 (fun H locs hR => ?_)
      exact fr_vret C hr hlocks hR (fr_s1 hsp) dX8_putFirst_50
    · rw [if_neg c12] at hsp
      refine lv_aload_n hx hb dX8_putFirst_38 rfl (lv_at hl 1 rfl) ?_
      refine lv_bipush (v := 126) hx hb dX8_putFirst_39 (by decide) ?_
      obtain ⟨h15, E16, hsp⟩ := fr_b1 hsp
      refine fq_callV (rest := []) (st1 := []) C hR (k_X8_putSign C.2.2 ha E16) Y_X8_putSign YV_X8_putSign Lk_RX8_30 ha ⟨_, _, rfl, by decide⟩ rfl hl.1 ⟨Nat.le_of_ble_eq_true rfl, Nat.le_of_ble_eq_true rfl⟩ rfl (Nat.le_of_ble_eq_true rfl) ⟨Nat.zero_le _, Nat.zero_le _⟩ rfl dX8_putFirst_41 (fun H locs hR => ?_)
      refine lv_aload_n hx hb dX8_putFirst_44 rfl (lv_at hl 1 rfl) ?_
      refine lv_bipush (v := 93) hx hb dX8_putFirst_45 (by decide) ?_
      obtain ⟨h17, E18, hsp⟩ := fr_b1 hsp
      refine fq_callV (rest := []) (st1 := []) C hR (k_X8_putSign C.2.2 ha E18) Y_X8_putSign YV_X8_putSign Lk_RX8_30 ha ⟨_, _, rfl, by decide⟩ rfl hl.1 ⟨Nat.le_of_ble_eq_true rfl, Nat.le_of_ble_eq_true rfl⟩ rfl (Nat.le_of_ble_eq_true rfl) ⟨Nat.zero_le _, Nat.zero_le _⟩ rfl dX8_putFirst_47 (fun H locs hR => ?_)
      exact fr_vret C hr hlocks hR (fr_s1 hsp) dX8_putFirst_50

/-! TermRows$Saying.putReturning(LTermRows$Row;II)V -/
def z_X8_putReturning (S : fh_S) (h : fh_H) (a : Nat) (x1 : Nat) (x2 : Int32) (x3 : Int32) : Option fh_H :=
    fh_b1 (z_X8_putSign S h a (91 : Int32)) (fun h1 => fh_b1 (z_X8_putTerms S h1 a x1 (0 : Int32) x2) (fun h3 => fh_b1 (z_X8_putMarkAhead S h3 a x2) (fun h5 => fh_b1 (z_X8_putSign S h5 a (40 : Int32)) (fun h7 => fh_b1 (z_X6_termAt S h7 x1 x2) (fun r9 => fh_b1 (z_X8_putNumber S h7 a r9) (fun h11 => fh_b1 (z_X8_putTerms S h11 a x1 (x2 + (1 : Int32)) (x2 + x3)) (fun h13 => fh_b1 (z_X8_putSign S h13 a (41 : Int32)) (fun h15 => fh_b1 (z_X8_putSign S h15 a (93 : Int32)) (fun h17 => some h17)))))))))
set_option maxHeartbeats 4000000 in
set_option maxRecDepth 100000 in
theorem k_X8_putReturning {l : Launch} {S : fh_S} {g : fh_G} {h h' : fh_H} (hj : fh_inj S g) {a : Nat} {x1 : Nat} {x2 : Int32} {x3 : Int32} (ha : fh_kq S a 8 = true) (k_x1 : fh_kq S x1 6 = true) (hsp : z_X8_putReturning S h a x1 x2 x3 = some h') : fh_M l yX8_putReturning cX8_putReturning 4 none (fh_rm 4) S g [.ref (g.2.2 a), .ref (g.2.2 x1), .int x2, .int x3] h none h' := by
  unfold z_X8_putReturning at hsp
  refine fr_head (own := RX8) (by decide) rfl hj (Nat.le_of_ble_eq_true rfl) ?_
  intro p e s m below meth c ls C hr hlocks hR hl
  have hl : lv_has ls 4 [(0, .ref (g.2.2 a)), (1, .ref (g.2.2 x1)), (2, .int x2), (3, .int x3)] := hl
  have hx := C.1.1
  have hb := C.1.2.1
  refine lv_aload_n hx hb dX8_putReturning_0 rfl (lv_at hl 0 rfl) ?_
  refine lv_bipush (v := 91) hx hb dX8_putReturning_1 (by decide) ?_
  obtain ⟨h1, E2, hsp⟩ := fr_b1 hsp
  refine fq_callV (rest := []) (st1 := []) C hR (k_X8_putSign C.2.2 ha E2) Y_X8_putSign YV_X8_putSign Lk_RX8_30 ha ⟨_, _, rfl, by decide⟩ rfl hl.1 ⟨Nat.le_of_ble_eq_true rfl, Nat.le_of_ble_eq_true rfl⟩ rfl (Nat.le_of_ble_eq_true rfl) ⟨Nat.zero_le _, Nat.zero_le _⟩ rfl dX8_putReturning_3 (fun H locs hR => ?_)
  refine lv_aload_n hx hb dX8_putReturning_6 rfl (lv_at hl 0 rfl) ?_
  refine lv_aload_n hx hb dX8_putReturning_7 rfl (lv_at hl 1 rfl) ?_
  refine lv_iconst (v := 0) hx hb dX8_putReturning_8 (by decide) ?_
  refine lv_iload_n hx hb dX8_putReturning_9 rfl (lv_at hl 2 rfl) ?_
  obtain ⟨h3, E4, hsp⟩ := fr_b1 hsp
  refine fq_callV (rest := []) (st1 := []) C hR (k_X8_putTerms C.2.2 ha k_x1 E4) Y_X8_putTerms YV_X8_putTerms Lk_RX8_34 ha ⟨_, _, rfl, by decide⟩ rfl hl.1 ⟨Nat.le_of_ble_eq_true rfl, Nat.le_of_ble_eq_true rfl⟩ rfl (Nat.le_of_ble_eq_true rfl) ⟨Nat.zero_le _, Nat.zero_le _⟩ rfl dX8_putReturning_10 (fun H locs hR => ?_)
  refine lv_aload_n hx hb dX8_putReturning_13 rfl (lv_at hl 0 rfl) ?_
  refine lv_iload_n hx hb dX8_putReturning_14 rfl (lv_at hl 2 rfl) ?_
  obtain ⟨h5, E6, hsp⟩ := fr_b1 hsp
  refine fq_callV (rest := []) (st1 := []) C hR (k_X8_putMarkAhead C.2.2 ha E6) Y_X8_putMarkAhead YV_X8_putMarkAhead Lk_RX8_41 ha ⟨_, _, rfl, by decide⟩ rfl hl.1 ⟨Nat.le_of_ble_eq_true rfl, Nat.le_of_ble_eq_true rfl⟩ rfl (Nat.le_of_ble_eq_true rfl) ⟨Nat.zero_le _, Nat.zero_le _⟩ rfl dX8_putReturning_15 (fun H locs hR => ?_)
  refine lv_aload_n hx hb dX8_putReturning_18 rfl (lv_at hl 0 rfl) ?_
  refine lv_bipush (v := 40) hx hb dX8_putReturning_19 (by decide) ?_
  obtain ⟨h7, E8, hsp⟩ := fr_b1 hsp
  refine fq_callV (rest := []) (st1 := []) C hR (k_X8_putSign C.2.2 ha E8) Y_X8_putSign YV_X8_putSign Lk_RX8_30 ha ⟨_, _, rfl, by decide⟩ rfl hl.1 ⟨Nat.le_of_ble_eq_true rfl, Nat.le_of_ble_eq_true rfl⟩ rfl (Nat.le_of_ble_eq_true rfl) ⟨Nat.zero_le _, Nat.zero_le _⟩ rfl dX8_putReturning_21 (fun H locs hR => ?_)
  refine lv_aload_n hx hb dX8_putReturning_24 rfl (lv_at hl 0 rfl) ?_
  refine lv_aload_n hx hb dX8_putReturning_25 rfl (lv_at hl 1 rfl) ?_
  refine lv_iload_n hx hb dX8_putReturning_26 rfl (lv_at hl 2 rfl) ?_
  obtain ⟨r9, E10, hsp⟩ := fr_b1 hsp
  refine fq_callV (rest := [.ref (g.2.2 a)]) (st1 := [.int r9, .ref (g.2.2 a)]) C hR (k_X6_termAt C.2.2 k_x1 E10) Y_X6_termAt YV_X6_termAt Lk_RX8_45 k_x1 ⟨_, _, rfl, by decide⟩ rfl hl.1 ⟨Nat.le_of_ble_eq_true rfl, Nat.le_of_ble_eq_true rfl⟩ rfl (Nat.le_of_ble_eq_true rfl) ⟨Nat.zero_le _, Nat.zero_le _⟩ rfl dX8_putReturning_27 (fun H locs hR => ?_)
  obtain ⟨h11, E12, hsp⟩ := fr_b1 hsp
  refine fq_callV (rest := []) (st1 := []) C hR (k_X8_putNumber C.2.2 ha E12) Y_X8_putNumber YV_X8_putNumber Lk_RX8_49 ha ⟨_, _, rfl, by decide⟩ rfl hl.1 ⟨Nat.le_of_ble_eq_true rfl, Nat.le_of_ble_eq_true rfl⟩ rfl (Nat.le_of_ble_eq_true rfl) ⟨Nat.zero_le _, Nat.zero_le _⟩ rfl dX8_putReturning_30 (fun H locs hR => ?_)
  refine lv_aload_n hx hb dX8_putReturning_33 rfl (lv_at hl 0 rfl) ?_
  refine lv_aload_n hx hb dX8_putReturning_34 rfl (lv_at hl 1 rfl) ?_
  refine lv_iload_n hx hb dX8_putReturning_35 rfl (lv_at hl 2 rfl) ?_
  refine lv_iconst (v := 1) hx hb dX8_putReturning_36 (by decide) ?_
  refine lv_iadd hx hb dX8_putReturning_37 ?_
  refine lv_iload_n hx hb dX8_putReturning_38 rfl (lv_at hl 2 rfl) ?_
  refine lv_iload_n hx hb dX8_putReturning_39 rfl (lv_at hl 3 rfl) ?_
  refine lv_iadd hx hb dX8_putReturning_40 ?_
  obtain ⟨h13, E14, hsp⟩ := fr_b1 hsp
  refine fq_callV (rest := []) (st1 := []) C hR (k_X8_putTerms C.2.2 ha k_x1 E14) Y_X8_putTerms YV_X8_putTerms Lk_RX8_34 ha ⟨_, _, rfl, by decide⟩ rfl hl.1 ⟨Nat.le_of_ble_eq_true rfl, Nat.le_of_ble_eq_true rfl⟩ rfl (Nat.le_of_ble_eq_true rfl) ⟨Nat.zero_le _, Nat.zero_le _⟩ rfl dX8_putReturning_41 (fun H locs hR => ?_)
  refine lv_aload_n hx hb dX8_putReturning_44 rfl (lv_at hl 0 rfl) ?_
  refine lv_bipush (v := 41) hx hb dX8_putReturning_45 (by decide) ?_
  obtain ⟨h15, E16, hsp⟩ := fr_b1 hsp
  refine fq_callV (rest := []) (st1 := []) C hR (k_X8_putSign C.2.2 ha E16) Y_X8_putSign YV_X8_putSign Lk_RX8_30 ha ⟨_, _, rfl, by decide⟩ rfl hl.1 ⟨Nat.le_of_ble_eq_true rfl, Nat.le_of_ble_eq_true rfl⟩ rfl (Nat.le_of_ble_eq_true rfl) ⟨Nat.zero_le _, Nat.zero_le _⟩ rfl dX8_putReturning_47 (fun H locs hR => ?_)
  refine lv_aload_n hx hb dX8_putReturning_50 rfl (lv_at hl 0 rfl) ?_
  refine lv_bipush (v := 93) hx hb dX8_putReturning_51 (by decide) ?_
  obtain ⟨h17, E18, hsp⟩ := fr_b1 hsp
  refine fq_callV (rest := []) (st1 := []) C hR (k_X8_putSign C.2.2 ha E18) Y_X8_putSign YV_X8_putSign Lk_RX8_30 ha ⟨_, _, rfl, by decide⟩ rfl hl.1 ⟨Nat.le_of_ble_eq_true rfl, Nat.le_of_ble_eq_true rfl⟩ rfl (Nat.le_of_ble_eq_true rfl) ⟨Nat.zero_le _, Nat.zero_le _⟩ rfl dX8_putReturning_53 (fun H locs hR => ?_)
  exact fr_vret C hr hlocks hR (fr_s1 hsp) dX8_putReturning_56

/-! TermRows.undo()I -/
def z_X11_undo (S : fh_S) (h : fh_H) (a : Nat) : Option (Int32 × fh_H) :=
    fh_b1 (h.2.2 a 2) (fun j1 => fh_ck (fh_kq S j1 1) (fh_b2 (z_X1_takeBack S h j1) (fun r4 h5 => fh_nn r4 (some ((-1 : Int32), h5)) (fun j7 => fh_ck (fh_kq S j7 6) (fh_b1 (z_X11_markStale S h5 a j7) (fun h9 => fh_b1 (h9.2.2 a 2) (fun j11 => fh_ck (fh_kq S j11 1) (some ((h9.1 j11 3), h9)))))))))
set_option maxHeartbeats 4000000 in
set_option maxRecDepth 100000 in
theorem k_X11_undo {l : Launch} {S : fh_S} {g : fh_G} {h h' : fh_H} (hj : fh_inj S g) {a : Nat} {r : Int32} (ha : fh_kq S a 11 = true) (hsp : z_X11_undo S h a = some (r, h')) : fh_M l yX11_undo cX11_undo 2 (some .int) (fh_rm 4) S g [.ref (g.2.2 a)] h (some (.int r)) h' := by
  unfold z_X11_undo at hsp
  refine fr_head (own := RX11) (by decide) rfl hj (Nat.le_of_ble_eq_true rfl) ?_
  intro p e s m below meth c ls C hr hlocks hR hl
  have hl : lv_has ls 2 [(0, .ref (g.2.2 a))] := hl
  have hx := C.1.1
  have hb := C.1.2.1
  refine lv_aload_n hx hb dX11_undo_0 rfl (lv_at hl 0 rfl) ?_
  obtain ⟨j1, hv2, hsp⟩ := fr_b1 hsp
  refine fr_getr C hR ha Fg_RX11_25 rfl hv2 dX11_undo_1 ?_
  obtain ⟨hk3, hsp⟩ := fr_ck hsp
  obtain ⟨r4, h5, E6, hsp⟩ := fr_b2 hsp
  refine fq_callV (rest := []) (st1 := [va_rf (Option.map g.2.2 r4)]) C hR (k_X1_takeBack C.2.2 hk3 E6) Y_X1_takeBack YV_X1_takeBack Lk_RX11_145 hk3 ⟨_, _, rfl, by decide⟩ rfl hl.1 ⟨Nat.le_of_ble_eq_true rfl, Nat.le_of_ble_eq_true rfl⟩ rfl (Nat.le_of_ble_eq_true rfl) ⟨Nat.zero_le _, Nat.zero_le _⟩ rfl dX11_undo_4 (fun H locs hR => ?_)
  rcases r4 with _ | j7
  · have hsp := fr_nnN hsp
    refine W.eq (g2 := F0 m 7 ls [.null]) rfl ?_
    refine lv_astore_nN (lv' := [(1, .null), (0, .ref (g.2.2 a))]) hx hb dX11_undo_7 rfl hl (by decide) rfl (fun ls hl => ?_)
    refine lv_aload_nN hx hb dX11_undo_8 rfl (lv_at hl 0 rfl) ?_
    refine lv_ifnonnullN hx hb dX11_undo_9 ?_
    refine lv_iconst (v := -1) hx hb dX11_undo_12 (by decide) ?_
    obtain ⟨e1, e2⟩ := fr_s2 hsp
    exact fr_iret C hr hlocks hR e1 e2 dX11_undo_13
  · have hsp := fr_nnS hsp
    refine W.eq (g2 := F0 m 7 ls [.ref (g.2.2 j7)]) rfl ?_
    refine lv_astore_n (lv' := [(1, .ref (g.2.2 j7)), (0, .ref (g.2.2 a))]) hx hb dX11_undo_7 rfl hl (by decide) rfl (fun ls hl => ?_)
    refine lv_aload_n hx hb dX11_undo_8 rfl (lv_at hl 0 rfl) ?_
    refine lv_ifnonnull (tgt := 14) hx hb dX11_undo_9 (by decide) ?_
    refine lv_aload_n hx hb dX11_undo_14 rfl (lv_at hl 1 rfl) ?_
    refine lv_aload_n hx hb dX11_undo_15 rfl (lv_at hl 0 rfl) ?_
    obtain ⟨hk8, hsp⟩ := fr_ck hsp
    obtain ⟨h9, E10, hsp⟩ := fr_b1 hsp
    refine fq_callV (rest := []) (st1 := []) C hR (k_X11_markStale C.2.2 ha hk8 E10) Y_X11_markStale YV_X11_markStale Lk_RX11_149 ha ⟨_, _, rfl, by decide⟩ rfl hl.1 ⟨Nat.le_of_ble_eq_true rfl, Nat.le_of_ble_eq_true rfl⟩ rfl (Nat.le_of_ble_eq_true rfl) ⟨Nat.zero_le _, Nat.zero_le _⟩ rfl dX11_undo_16 (fun H locs hR => ?_)
    refine lv_aload_n hx hb dX11_undo_19 rfl (lv_at hl 1 rfl) ?_
    obtain ⟨j11, hv12, hsp⟩ := fr_b1 hsp
    refine fr_getr C hR ha Fg_RX11_25 rfl hv12 dX11_undo_20 ?_
    obtain ⟨hk13, hsp⟩ := fr_ck hsp
    refine fr_geti C hR hk13 Fg_RX11_153 rfl dX11_undo_23 ?_
    obtain ⟨e1, e2⟩ := fr_s2 hsp
    exact fr_iret C hr hlocks hR e1 e2 dX11_undo_26

/-! TermRows.act(LTermRows$Row;)LTermRows$Made; -/
def z_X11_act (S : fh_S) (h : fh_H) (a : Nat) (x1 : Nat) : Option ((Option Nat) × fh_H) :=
    fh_b1 (h.2.2 a 2) (fun j1 => fh_ck (fh_kq S j1 1) (fh_b1 (z_X1_keep S h j1 x1) (fun h4 => fh_b1 (z_X11_markStale S h4 a x1) (fun h6 => fh_nn (h6.2.2 x1 4) (some (none, h6)) (fun j8 => some ((some j8), h6))))))
set_option maxHeartbeats 4000000 in
set_option maxRecDepth 100000 in
theorem k_X11_act {l : Launch} {S : fh_S} {g : fh_G} {h h' : fh_H} (hj : fh_inj S g) {a : Nat} {x1 : Nat} {r : Option Nat} (ha : fh_kq S a 11 = true) (k_x1 : fh_kq S x1 6 = true) (hsp : z_X11_act S h a x1 = some (r, h')) : fh_M l yX11_act cX11_act 2 (some (.object "TermRows$Made")) (fh_rm 4) S g [.ref (g.2.2 a), .ref (g.2.2 x1)] h (some (va_rf (r.map g.2.2))) h' := by
  unfold z_X11_act at hsp
  refine fr_head (own := RX11) (by decide) rfl hj (Nat.le_of_ble_eq_true rfl) ?_
  intro p e s m below meth c ls C hr hlocks hR hl
  have hl : lv_has ls 2 [(0, .ref (g.2.2 a)), (1, .ref (g.2.2 x1))] := hl
  have hx := C.1.1
  have hb := C.1.2.1
  refine lv_aload_n hx hb dX11_act_0 rfl (lv_at hl 0 rfl) ?_
  obtain ⟨j1, hv2, hsp⟩ := fr_b1 hsp
  refine fr_getr C hR ha Fg_RX11_25 rfl hv2 dX11_act_1 ?_
  refine lv_aload_n hx hb dX11_act_4 rfl (lv_at hl 1 rfl) ?_
  obtain ⟨hk3, hsp⟩ := fr_ck hsp
  obtain ⟨h4, E5, hsp⟩ := fr_b1 hsp
  refine fq_callV (rest := []) (st1 := []) C hR (k_X1_keep C.2.2 hk3 k_x1 E5) Y_X1_keep YV_X1_keep Lk_RX11_398 hk3 ⟨_, _, rfl, by decide⟩ rfl hl.1 ⟨Nat.le_of_ble_eq_true rfl, Nat.le_of_ble_eq_true rfl⟩ rfl (Nat.le_of_ble_eq_true rfl) ⟨Nat.zero_le _, Nat.zero_le _⟩ rfl dX11_act_5 (fun H locs hR => ?_)
  refine lv_aload_n hx hb dX11_act_8 rfl (lv_at hl 0 rfl) ?_
  refine lv_aload_n hx hb dX11_act_9 rfl (lv_at hl 1 rfl) ?_
  obtain ⟨h6, E7, hsp⟩ := fr_b1 hsp
  refine fq_callV (rest := []) (st1 := []) C hR (k_X11_markStale C.2.2 ha k_x1 E7) Y_X11_markStale YV_X11_markStale Lk_RX11_149 ha ⟨_, _, rfl, by decide⟩ rfl hl.1 ⟨Nat.le_of_ble_eq_true rfl, Nat.le_of_ble_eq_true rfl⟩ rfl (Nat.le_of_ble_eq_true rfl) ⟨Nat.zero_le _, Nat.zero_le _⟩ rfl dX11_act_10 (fun H locs hR => ?_)
  refine lv_aload_n hx hb dX11_act_13 rfl (lv_at hl 1 rfl) ?_
  rcases hv9 : (h6.2.2 x1 4) with _ | j8
  · rw [hv9] at hsp; have hsp := fr_nnN hsp
    refine fr_getn C hR k_x1 Fg_RX11_168 rfl hv9 dX11_act_14 ?_
    obtain ⟨e1, e2⟩ := fr_s2 hsp
    exact fr_nret C hr hlocks hR e1 e2 dX11_act_17
  · rw [hv9] at hsp; have hsp := fr_nnS hsp
    refine fr_getr C hR k_x1 Fg_RX11_168 rfl hv9 dX11_act_14 ?_
    obtain ⟨e1, e2⟩ := fr_s2 hsp
    exact fr_aret C hr hlocks hR e1 e2 dX11_act_17

/-! TermRows$RowText.parse()V -/
def z_X7_parse_b121 (S : fh_S) (a : Nat) (h : fh_H) : Option fh_H :=
    fh_b1 (h.2.2 a 0) (fun j1 => fh_ck (fh_kq S j1 10) (fh_b1 (z_X10_expect S h j1 (93 : Int32)) (fun h4 => fh_b1 (h4.2.2 a 0) (fun j6 => fh_ck (fh_kq S j6 10) (fh_b1 (z_X10_expect S h4 j6 (257 : Int32)) (fun h9 => some h9))))))
def z_X7_parse_b54 (S : fh_S) (a : Nat) : Nat → fh_H → Int32 → Option fh_H
  | 0, _, _ => none
  | n + 1, h, y3 =>
    if (200 : Int32) ≤ y3 then (z_X7_parse_b121 S a h) else (if (h.1 a 2) = (-1 : Int32) then (fh_b2 (z_X7_takeMark S h a) (fun r3 h4 => if r3 = 0 then (z_X7_parse_b121 S a h4) else (fh_b1 (h4.2.2 a 0) (fun j7 => fh_ck (fh_kq S j7 10) (fh_b2 (z_X10_take S h4 j7 (40 : Int32)) (fun r10 h11 => if r10 = 0 then (fh_b1 (h11.2.2 a 0) (fun j14 => fh_ck (fh_kq S j14 10) (fh_b2 (z_X10_takeFigures S h11 j14 (1 : Int32)) (fun r17 h18 => fh_b1 (z_X7_keep S h18 a r17) (fun h20 => fh_let (y3 + 1) (fun v22 => z_X7_parse_b54 S a n h20 v22)))))) else (fh_let (fh_sI h11 a 2 (h11.1 a 3)) (fun h23 => fh_b1 (z_X7_parseBrackets S h23 a) (fun h24 => fh_let (y3 + 1) (fun v26 => z_X7_parse_b54 S a n h24 v26)))))))))) else (z_X7_parse_b121 S a h))
def z_X7_parse (S : fh_S) (h : fh_H) (a : Nat) : Option fh_H :=
    fh_let (fh_sI h a 3 (0 : Int32)) (fun h1 => fh_let (fh_sI h1 a 2 (-1 : Int32)) (fun h2 => fh_b1 (h2.2.2 a 0) (fun j3 => fh_ck (fh_kq S j3 10) (fh_b1 (z_X10_expect S h2 j3 (91 : Int32)) (fun h6 => fh_b1 (h6.2.2 a 0) (fun j8 => fh_ck (fh_kq S j8 10) (fh_b2 (z_X10_take S h6 j8 (45 : Int32)) (fun r11 h12 => fh_b1 (h12.2.2 a 0) (fun j14 => fh_ck (fh_kq S j14 10) (fh_b2 (z_X10_takeFigures S h12 j14 (0 : Int32)) (fun r17 h18 => if r11 = 0 then (fh_b1 (z_X7_keep S h18 a r17) (fun h21 => z_X7_parse_b54 S a 20000 h21 (0 : Int32))) else (fh_b1 (z_X7_keep S h18 a (-r17)) (fun h23 => z_X7_parse_b54 S a 20000 h23 (0 : Int32))))))))))))))
set_option maxHeartbeats 4000000 in
set_option maxRecDepth 100000 in
theorem k_X7_parse {l : Launch} {S : fh_S} {g : fh_G} {h h' : fh_H} (hj : fh_inj S g) {a : Nat} (ha : fh_kq S a 7 = true) (hsp : z_X7_parse S h a = some h') : fh_M l yX7_parse cX7_parse 4 none (fh_rm 5) S g [.ref (g.2.2 a)] h none h' := by
  unfold z_X7_parse at hsp
  refine fr_head (own := RX7) (by decide) rfl hj (Nat.le_of_ble_eq_true rfl) ?_
  intro p e s m below meth c ls C hr hlocks hR hl
  have hl : lv_has ls 4 [(0, .ref (g.2.2 a))] := hl
  have hx := C.1.1
  have hb := C.1.2.1
  have hb_121 : ∀ (h : fh_H) (H : Heap) (locs : List Loc) (ls : Array Slot), z_X7_parse_b121 S a h = some h' → fh_R S g s.heap h H locs → lv_has ls 4 [(0, .ref (g.2.2 a))] → fh_Wk p l e 5 s m [.ref (g.2.2 a)] below meth c S g none h' H locs (F0 m 121 ls []) := by
    intro h  H locs ls hsp hR hl
    unfold z_X7_parse_b121 at hsp
    refine lv_aload_n hx hb dX7_parse_121 rfl (lv_at hl 0 rfl) ?_
    obtain ⟨j1, hv2, hsp⟩ := fr_b1 hsp
    refine fr_getr C hR ha Fg_RX7_15 rfl hv2 dX7_parse_122 ?_
    refine lv_bipush (v := 93) hx hb dX7_parse_125 (by decide) ?_
    obtain ⟨hk3, hsp⟩ := fr_ck hsp
    obtain ⟨h4, E5, hsp⟩ := fr_b1 hsp
    refine fq_callV (rest := []) (st1 := []) C hR (k_X10_expect C.2.2 hk3 E5) Y_X10_expect YV_X10_expect Lk_RX7_26 hk3 ⟨_, _, rfl, by decide⟩ rfl hl.1 ⟨Nat.le_of_ble_eq_true rfl, Nat.le_of_ble_eq_true rfl⟩ rfl (Nat.le_of_ble_eq_true rfl) ⟨Nat.zero_le _, Nat.zero_le _⟩ rfl dX7_parse_127 (fun H locs hR => ?_)
    refine lv_aload_n hx hb dX7_parse_130 rfl (lv_at hl 0 rfl) ?_
    obtain ⟨j6, hv7, hsp⟩ := fr_b1 hsp
    refine fr_getr C hR ha Fg_RX7_15 rfl hv7 dX7_parse_131 ?_
    refine lv_sipush (v := 257) hx hb dX7_parse_134 (by decide) ?_
    obtain ⟨hk8, hsp⟩ := fr_ck hsp
    obtain ⟨h9, E10, hsp⟩ := fr_b1 hsp
    refine fq_callV (rest := []) (st1 := []) C hR (k_X10_expect C.2.2 hk8 E10) Y_X10_expect YV_X10_expect Lk_RX7_26 hk8 ⟨_, _, rfl, by decide⟩ rfl hl.1 ⟨Nat.le_of_ble_eq_true rfl, Nat.le_of_ble_eq_true rfl⟩ rfl (Nat.le_of_ble_eq_true rfl) ⟨Nat.zero_le _, Nat.zero_le _⟩ rfl dX7_parse_137 (fun H locs hR => ?_)
    exact fr_vret C hr hlocks hR (fr_s1 hsp) dX7_parse_140
  have hb_54 : ∀ (n : Nat) (h : fh_H) (y3 : Int32) (H : Heap) (locs : List Loc) (ls : Array Slot), z_X7_parse_b54 S a n h y3 = some h' → fh_R S g s.heap h H locs → lv_has ls 4 [(0, .ref (g.2.2 a)), (3, .int y3)] → fh_Wk p l e 5 s m [.ref (g.2.2 a)] below meth c S g none h' H locs (F0 m 54 ls []) := by
    intro n
    induction n with
    | zero => intro h y3 H locs ls hsp; cases hsp
    | succ n ih =>
      intro h y3 H locs ls hsp hR hl
      rw [z_X7_parse_b54] at hsp
      refine lv_iload_n hx hb dX7_parse_54 rfl (lv_at hl 1 rfl) ?_
      refine lv_sipush (v := 200) hx hb dX7_parse_55 (by decide) ?_
      refine lv_icmp_ge (tgt := 121) hx hb dX7_parse_58 (by decide) (fun c1 => ?_) (fun c1 => ?_)
      · rw [if_pos c1] at hsp
        exact hb_121 h _ _ _ hsp hR (lv_sub hl [0] rfl)
      · rw [if_neg c1] at hsp
        refine lv_aload_n hx hb dX7_parse_61 rfl (lv_at hl 0 rfl) ?_
        refine fr_geti C hR ha Fg_RX7_23 rfl dX7_parse_62 ?_
        refine lv_iconst (v := -1) hx hb dX7_parse_65 (by decide) ?_
        refine lv_icmp_ne (tgt := 121) hx hb dX7_parse_66 (by decide) (fun c2 => ?_) (fun c2 => ?_)
        · rw [if_neg c2] at hsp
          exact hb_121 h _ _ _ hsp hR (lv_sub hl [0] rfl)
        · rw [if_pos c2] at hsp
          refine lv_aload_n hx hb dX7_parse_69 rfl (lv_at hl 0 rfl) ?_
          obtain ⟨r3, h4, E5, hsp⟩ := fr_b2 hsp
          refine fq_callV (rest := []) (st1 := [.int r3]) C hR (k_X7_takeMark C.2.2 ha E5) Y_X7_takeMark YV_X7_takeMark Lk_RX7_43 ha ⟨_, _, rfl, by decide⟩ rfl hl.1 ⟨Nat.le_of_ble_eq_true rfl, Nat.le_of_ble_eq_true rfl⟩ rfl (Nat.le_of_ble_eq_true rfl) ⟨Nat.zero_le _, Nat.zero_le _⟩ rfl dX7_parse_70 (fun H locs hR => ?_)
          refine lv_if_eq (tgt := 121) hx hb dX7_parse_73 (by decide) (fun c6 => ?_) (fun c6 => ?_)
          · rw [if_pos c6] at hsp
            exact hb_121 h4 _ _ _ hsp hR (lv_sub hl [0] rfl)
          · rw [if_neg c6] at hsp
            refine lv_aload_n hx hb dX7_parse_76 rfl (lv_at hl 0 rfl) ?_
            obtain ⟨j7, hv8, hsp⟩ := fr_b1 hsp
            refine fr_getr C hR ha Fg_RX7_15 rfl hv8 dX7_parse_77 ?_
            refine lv_bipush (v := 40) hx hb dX7_parse_80 (by decide) ?_
            obtain ⟨hk9, hsp⟩ := fr_ck hsp
            obtain ⟨r10, h11, E12, hsp⟩ := fr_b2 hsp
            refine fq_callV (rest := []) (st1 := [.int r10]) C hR (k_X10_take C.2.2 hk9 E12) Y_X10_take YV_X10_take Lk_RX7_32 hk9 ⟨_, _, rfl, by decide⟩ rfl hl.1 ⟨Nat.le_of_ble_eq_true rfl, Nat.le_of_ble_eq_true rfl⟩ rfl (Nat.le_of_ble_eq_true rfl) ⟨Nat.zero_le _, Nat.zero_le _⟩ rfl dX7_parse_82 (fun H locs hR => ?_)
            refine lv_if_eq (tgt := 103) hx hb dX7_parse_85 (by decide) (fun c13 => ?_) (fun c13 => ?_)
            · rw [if_pos c13] at hsp
              refine lv_aload_n hx hb dX7_parse_103 rfl (lv_at hl 0 rfl) ?_
              refine lv_aload_n hx hb dX7_parse_104 rfl (lv_at hl 0 rfl) ?_
              obtain ⟨j14, hv15, hsp⟩ := fr_b1 hsp
              refine fr_getr C hR ha Fg_RX7_15 rfl hv15 dX7_parse_105 ?_
              refine lv_iconst (v := 1) hx hb dX7_parse_108 (by decide) ?_
              obtain ⟨hk16, hsp⟩ := fr_ck hsp
              obtain ⟨r17, h18, E19, hsp⟩ := fr_b2 hsp
              refine fq_callV (rest := [.ref (g.2.2 a)]) (st1 := [.int r17, .ref (g.2.2 a)]) C hR (k_X10_takeFigures C.2.2 hk16 E19) Y_X10_takeFigures YV_X10_takeFigures Lk_RX7_36 hk16 ⟨_, _, rfl, by decide⟩ rfl hl.1 ⟨Nat.le_of_ble_eq_true rfl, Nat.le_of_ble_eq_true rfl⟩ rfl (Nat.le_of_ble_eq_true rfl) ⟨Nat.zero_le _, Nat.zero_le _⟩ rfl dX7_parse_109 (fun H locs hR => ?_)
              obtain ⟨h20, E21, hsp⟩ := fr_b1 hsp
              refine fq_callV (rest := []) (st1 := []) C hR (k_X7_keep C.2.2 ha E21) Y_X7_keep YV_X7_keep Lk_RX7_40 ha ⟨_, _, rfl, by decide⟩ rfl hl.1 ⟨Nat.le_of_ble_eq_true rfl, Nat.le_of_ble_eq_true rfl⟩ rfl (Nat.le_of_ble_eq_true rfl) ⟨Nat.zero_le _, Nat.zero_le _⟩ rfl dX7_parse_112 (fun H locs hR => ?_)
              obtain ⟨v22, ev22⟩ : ∃ z : Int32, z = y3 + 1 := ⟨_, rfl⟩
              have hsp := fr_let ev22 hsp
              refine lv_iinc (v := v22) (lv' := [(3, .int v22), (0, .ref (g.2.2 a))]) hx hb dX7_parse_115 hl (k := 1) rfl (by rw [ev22]; rfl) (by decide) rfl (fun ls hl => ?_)
              refine lv_goto (tgt := 54) hx hb dX7_parse_118 (by decide) ?_
              exact ih h20 v22 _ _ _ hsp hR (lv_sub hl [1, 0] rfl)
            · rw [if_neg c13] at hsp
              refine lv_aload_n hx hb dX7_parse_88 rfl (lv_at hl 0 rfl) ?_
              refine lv_aload_n hx hb dX7_parse_89 rfl (lv_at hl 0 rfl) ?_
              refine fr_geti C hR ha Fg_RX7_19 rfl dX7_parse_90 ?_
              refine fr_puti C hR ha Fp_RX7_23 rfl dX7_parse_93 (fun H locs hR => ?_)
              obtain ⟨h23, eh23⟩ : ∃ z, z = fh_sI h11 a 2 (h11.1 a 3) := ⟨_, rfl⟩
              rw [← eh23] at hR
              have hsp := fr_let eh23 hsp
              refine lv_aload_n hx hb dX7_parse_96 rfl (lv_at hl 0 rfl) ?_
              obtain ⟨h24, E25, hsp⟩ := fr_b1 hsp
              refine fq_callV (rest := []) (st1 := []) C hR (k_X7_parseBrackets C.2.2 ha E25) Y_X7_parseBrackets YV_X7_parseBrackets Lk_RX7_47 ha ⟨_, _, rfl, by decide⟩ rfl hl.1 ⟨Nat.le_of_ble_eq_true rfl, Nat.le_of_ble_eq_true rfl⟩ rfl (Nat.le_of_ble_eq_true rfl) ⟨Nat.zero_le _, Nat.zero_le _⟩ rfl dX7_parse_97 (fun H locs hR => ?_)
              refine lv_goto (tgt := 115) hx hb dX7_parse_100 (by decide) ?_
              obtain ⟨v26, ev26⟩ : ∃ z : Int32, z = y3 + 1 := ⟨_, rfl⟩
              have hsp := fr_let ev26 hsp
              refine lv_iinc (v := v26) (lv' := [(3, .int v26), (0, .ref (g.2.2 a))]) hx hb dX7_parse_115 hl (k := 1) rfl (by rw [ev26]; rfl) (by decide) rfl (fun ls hl => ?_)
              refine lv_goto (tgt := 54) hx hb dX7_parse_118 (by decide) ?_
              exact ih h24 v26 _ _ _ hsp hR (lv_sub hl [1, 0] rfl)
  refine lv_aload_n hx hb dX7_parse_0 rfl (lv_at hl 0 rfl) ?_
  refine lv_iconst (v := 0) hx hb dX7_parse_1 (by decide) ?_
  refine fr_puti C hR ha Fp_RX7_19 rfl dX7_parse_2 (fun H locs hR => ?_)
  obtain ⟨h1, eh1⟩ : ∃ z, z = fh_sI h a 3 (0 : Int32) := ⟨_, rfl⟩
  rw [← eh1] at hR
  have hsp := fr_let eh1 hsp
  refine lv_aload_n hx hb dX7_parse_5 rfl (lv_at hl 0 rfl) ?_
  refine lv_iconst (v := -1) hx hb dX7_parse_6 (by decide) ?_
  refine fr_puti C hR ha Fp_RX7_23 rfl dX7_parse_7 (fun H locs hR => ?_)
  obtain ⟨h2, eh2⟩ : ∃ z, z = fh_sI h1 a 2 (-1 : Int32) := ⟨_, rfl⟩
  rw [← eh2] at hR
  have hsp := fr_let eh2 hsp
  refine lv_aload_n hx hb dX7_parse_10 rfl (lv_at hl 0 rfl) ?_
  obtain ⟨j3, hv4, hsp⟩ := fr_b1 hsp
  refine fr_getr C hR ha Fg_RX7_15 rfl hv4 dX7_parse_11 ?_
  refine lv_bipush (v := 91) hx hb dX7_parse_14 (by decide) ?_
  obtain ⟨hk5, hsp⟩ := fr_ck hsp
  obtain ⟨h6, E7, hsp⟩ := fr_b1 hsp
  refine fq_callV (rest := []) (st1 := []) C hR (k_X10_expect C.2.2 hk5 E7) Y_X10_expect YV_X10_expect Lk_RX7_26 hk5 ⟨_, _, rfl, by decide⟩ rfl hl.1 ⟨Nat.le_of_ble_eq_true rfl, Nat.le_of_ble_eq_true rfl⟩ rfl (Nat.le_of_ble_eq_true rfl) ⟨Nat.zero_le _, Nat.zero_le _⟩ rfl dX7_parse_16 (fun H locs hR => ?_)
  refine lv_aload_n hx hb dX7_parse_19 rfl (lv_at hl 0 rfl) ?_
  obtain ⟨j8, hv9, hsp⟩ := fr_b1 hsp
  refine fr_getr C hR ha Fg_RX7_15 rfl hv9 dX7_parse_20 ?_
  refine lv_bipush (v := 45) hx hb dX7_parse_23 (by decide) ?_
  obtain ⟨hk10, hsp⟩ := fr_ck hsp
  obtain ⟨r11, h12, E13, hsp⟩ := fr_b2 hsp
  refine fq_callV (rest := []) (st1 := [.int r11]) C hR (k_X10_take C.2.2 hk10 E13) Y_X10_take YV_X10_take Lk_RX7_32 hk10 ⟨_, _, rfl, by decide⟩ rfl hl.1 ⟨Nat.le_of_ble_eq_true rfl, Nat.le_of_ble_eq_true rfl⟩ rfl (Nat.le_of_ble_eq_true rfl) ⟨Nat.zero_le _, Nat.zero_le _⟩ rfl dX7_parse_25 (fun H locs hR => ?_)
  refine lv_istore_n (lv' := [(1, .int r11), (0, .ref (g.2.2 a))]) hx hb dX7_parse_28 rfl hl (by decide) rfl (fun ls hl => ?_)
  refine lv_aload_n hx hb dX7_parse_29 rfl (lv_at hl 1 rfl) ?_
  obtain ⟨j14, hv15, hsp⟩ := fr_b1 hsp
  refine fr_getr C hR ha Fg_RX7_15 rfl hv15 dX7_parse_30 ?_
  refine lv_iconst (v := 0) hx hb dX7_parse_33 (by decide) ?_
  obtain ⟨hk16, hsp⟩ := fr_ck hsp
  obtain ⟨r17, h18, E19, hsp⟩ := fr_b2 hsp
  refine fq_callV (rest := []) (st1 := [.int r17]) C hR (k_X10_takeFigures C.2.2 hk16 E19) Y_X10_takeFigures YV_X10_takeFigures Lk_RX7_36 hk16 ⟨_, _, rfl, by decide⟩ rfl hl.1 ⟨Nat.le_of_ble_eq_true rfl, Nat.le_of_ble_eq_true rfl⟩ rfl (Nat.le_of_ble_eq_true rfl) ⟨Nat.zero_le _, Nat.zero_le _⟩ rfl dX7_parse_34 (fun H locs hR => ?_)
  refine lv_istore_n (lv' := [(2, .int r17), (1, .int r11), (0, .ref (g.2.2 a))]) hx hb dX7_parse_37 rfl hl (by decide) rfl (fun ls hl => ?_)
  refine lv_aload_n hx hb dX7_parse_38 rfl (lv_at hl 2 rfl) ?_
  refine lv_iload_n hx hb dX7_parse_39 rfl (lv_at hl 1 rfl) ?_
  refine lv_if_eq (tgt := 48) hx hb dX7_parse_40 (by decide) (fun c20 => ?_) (fun c20 => ?_)
  · rw [if_pos c20] at hsp
    refine lv_iload_n hx hb dX7_parse_48 rfl (lv_at hl 0 rfl) ?_
    obtain ⟨h21, E22, hsp⟩ := fr_b1 hsp
    refine fq_callV (rest := []) (st1 := []) C hR (k_X7_keep C.2.2 ha E22) Y_X7_keep YV_X7_keep Lk_RX7_40 ha ⟨_, _, rfl, by decide⟩ rfl hl.1 ⟨Nat.le_of_ble_eq_true rfl, Nat.le_of_ble_eq_true rfl⟩ rfl (Nat.le_of_ble_eq_true rfl) ⟨Nat.zero_le _, Nat.zero_le _⟩ rfl dX7_parse_49 (fun H locs hR => ?_)
    refine lv_iconst (v := 0) hx hb dX7_parse_52 (by decide) ?_
    refine lv_istore_n (lv' := [(3, .int (0 : Int32)), (2, .int r17), (1, .int r11), (0, .ref (g.2.2 a))]) hx hb dX7_parse_53 rfl hl (by decide) rfl (fun ls hl => ?_)
    exact hb_54 20000 h21 (0 : Int32) _ _ _ hsp hR (lv_sub hl [3, 0] rfl)
  · rw [if_neg c20] at hsp
    refine lv_iload_n hx hb dX7_parse_43 rfl (lv_at hl 0 rfl) ?_
    refine lv_ineg hx hb dX7_parse_44 ?_
    refine lv_goto (tgt := 49) hx hb dX7_parse_45 (by decide) ?_
    obtain ⟨h23, E24, hsp⟩ := fr_b1 hsp
    refine fq_callV (rest := []) (st1 := []) C hR (k_X7_keep C.2.2 ha E24) Y_X7_keep YV_X7_keep Lk_RX7_40 ha ⟨_, _, rfl, by decide⟩ rfl hl.1 ⟨Nat.le_of_ble_eq_true rfl, Nat.le_of_ble_eq_true rfl⟩ rfl (Nat.le_of_ble_eq_true rfl) ⟨Nat.zero_le _, Nat.zero_le _⟩ rfl dX7_parse_49 (fun H locs hR => ?_)
    refine lv_iconst (v := 0) hx hb dX7_parse_52 (by decide) ?_
    refine lv_istore_n (lv' := [(3, .int (0 : Int32)), (2, .int r17), (1, .int r11), (0, .ref (g.2.2 a))]) hx hb dX7_parse_53 rfl hl (by decide) rfl (fun ls hl => ?_)
    exact hb_54 20000 h23 (0 : Int32) _ _ _ hsp hR (lv_sub hl [3, 0] rfl)

/-! TermRows.fraction(III)Z -/
def z_X11_fraction (S : fh_S) (h : fh_H) (a : Nat) (x1 : Int32) (x2 : Int32) (x3 : Int32) : Option (Int32 × fh_H) :=
    fh_b1 (z_X11_find S h a x1) (fun r1 => fh_nn r1 (some ((0 : Int32), h)) (fun j3 => fh_b1 (z_X11_within x2 (9999 : Int32)) (fun r4 => if r4 = 0 then (some ((0 : Int32), h)) else (if x3 < (1 : Int32) then (some ((0 : Int32), h)) else (if x3 ≤ (9999 : Int32) then (fh_ck (fh_kq S j3 6) (fh_b2 (z_X11_act S h a j3) (fun r10 h11 => fh_b1 r10 (fun j13 => fh_ck (fh_kq S j13 3) (fh_b1 (z_X3_become S h11 j13 (0 : Int32) (0 : Int32) (0 : Int32) x2 x3 (0 : Int32) (0 : Int32)) (fun h15 => some ((1 : Int32), h15))))))) else (some ((0 : Int32), h)))))))
set_option maxHeartbeats 4000000 in
set_option maxRecDepth 100000 in
theorem k_X11_fraction {l : Launch} {S : fh_S} {g : fh_G} {h h' : fh_H} (hj : fh_inj S g) {a : Nat} {x1 : Int32} {x2 : Int32} {x3 : Int32} {r : Int32} (ha : fh_kq S a 11 = true) (hsp : z_X11_fraction S h a x1 x2 x3 = some (r, h')) : fh_M l yX11_fraction cX11_fraction 5 (some .boolean) (fh_rm 5) S g [.ref (g.2.2 a), .int x1, .int x2, .int x3] h (some (.int r)) h' := by
  unfold z_X11_fraction at hsp
  refine fr_head (own := RX11) (by decide) rfl hj (Nat.le_of_ble_eq_true rfl) ?_
  intro p e s m below meth c ls C hr hlocks hR hl
  have hl : lv_has ls 5 [(0, .ref (g.2.2 a)), (1, .int x1), (2, .int x2), (3, .int x3)] := hl
  have hx := C.1.1
  have hb := C.1.2.1
  refine lv_aload_n hx hb dX11_fraction_0 rfl (lv_at hl 0 rfl) ?_
  refine lv_iload_n hx hb dX11_fraction_1 rfl (lv_at hl 1 rfl) ?_
  obtain ⟨r1, E2, hsp⟩ := fr_b1 hsp
  refine fq_callV (rest := []) (st1 := [va_rf (Option.map g.2.2 r1)]) C hR (k_X11_find C.2.2 ha E2) Y_X11_find YV_X11_find Lk_RX11_87 ha ⟨_, _, rfl, by decide⟩ rfl hl.1 ⟨Nat.le_of_ble_eq_true rfl, Nat.le_of_ble_eq_true rfl⟩ rfl (Nat.le_of_ble_eq_true rfl) ⟨Nat.zero_le _, Nat.zero_le _⟩ rfl dX11_fraction_2 (fun H locs hR => ?_)
  rcases r1 with _ | j3
  · have hsp := fr_nnN hsp
    refine W.eq (g2 := F0 m 5 ls [.null]) rfl ?_
    refine lv_astoreN (lv' := [(4, .null), (0, .ref (g.2.2 a)), (1, .int x1), (2, .int x2), (3, .int x3)]) hx hb dX11_fraction_5 hl (by decide) rfl (fun ls hl => ?_)
    refine lv_aloadN hx hb dX11_fraction_7 (lv_at hl 0 rfl) ?_
    refine lv_ifnullN (tgt := 34) hx hb dX11_fraction_9 (by decide) ?_
    refine lv_iconst (v := 0) hx hb dX11_fraction_34 (by decide) ?_
    obtain ⟨e1, e2⟩ := fr_s2 hsp
    exact fr_zret C hr hlocks hR (Or.inl rfl) e1 e2 dX11_fraction_35
  · have hsp := fr_nnS hsp
    refine W.eq (g2 := F0 m 5 ls [.ref (g.2.2 j3)]) rfl ?_
    refine lv_astore (lv' := [(4, .ref (g.2.2 j3)), (0, .ref (g.2.2 a)), (1, .int x1), (2, .int x2), (3, .int x3)]) hx hb dX11_fraction_5 hl (by decide) rfl (fun ls hl => ?_)
    refine lv_aload hx hb dX11_fraction_7 (lv_at hl 0 rfl) ?_
    refine lv_ifnull hx hb dX11_fraction_9 ?_
    refine lv_iload_n hx hb dX11_fraction_12 rfl (lv_at hl 3 rfl) ?_
    refine lv_sipush (v := 9999) hx hb dX11_fraction_13 (by decide) ?_
    obtain ⟨r4, E5, hsp⟩ := fr_b1 hsp
    refine fq_callS (rest := []) (st1 := [.int r4]) C hR (k_X11_within C.2.2 E5) Y_X11_within YS_X11_within Lk_RX11_137 rfl hl.1 ⟨Nat.le_of_ble_eq_true rfl, Nat.le_of_ble_eq_true rfl⟩ rfl (Nat.le_of_ble_eq_true rfl) ⟨Nat.zero_le _, Nat.zero_le _⟩ rfl dX11_fraction_16 (fun H locs hR => ?_)
    refine lv_if_eq (tgt := 34) hx hb dX11_fraction_19 (by decide) (fun c6 => ?_) (fun c6 => ?_)
    · rw [if_pos c6] at hsp
      refine lv_iconst (v := 0) hx hb dX11_fraction_34 (by decide) ?_
      obtain ⟨e1, e2⟩ := fr_s2 hsp
      exact fr_zret C hr hlocks hR (Or.inl rfl) e1 e2 dX11_fraction_35
    · rw [if_neg c6] at hsp
      refine lv_iload_n hx hb dX11_fraction_22 rfl (lv_at hl 4 rfl) ?_
      refine lv_iconst (v := 1) hx hb dX11_fraction_23 (by decide) ?_
      refine lv_icmp_lt (tgt := 34) hx hb dX11_fraction_24 (by decide) (fun c7 => ?_) (fun c7 => ?_)
      · rw [if_pos c7] at hsp
        refine lv_iconst (v := 0) hx hb dX11_fraction_34 (by decide) ?_
        obtain ⟨e1, e2⟩ := fr_s2 hsp
        exact fr_zret C hr hlocks hR (Or.inl rfl) e1 e2 dX11_fraction_35
      · rw [if_neg c7] at hsp
        refine lv_iload_n hx hb dX11_fraction_27 rfl (lv_at hl 4 rfl) ?_
        refine lv_sipush (v := 9999) hx hb dX11_fraction_28 (by decide) ?_
        refine lv_icmp_le (tgt := 36) hx hb dX11_fraction_31 (by decide) (fun c8 => ?_) (fun c8 => ?_)
        · rw [if_pos c8] at hsp
          refine lv_aload_n hx hb dX11_fraction_36 rfl (lv_at hl 1 rfl) ?_
          refine lv_aload hx hb dX11_fraction_37 (lv_at hl 0 rfl) ?_
          obtain ⟨hk9, hsp⟩ := fr_ck hsp
          obtain ⟨r10, h11, E12, hsp⟩ := fr_b2 hsp
          refine fq_callV (rest := []) (st1 := [va_rf (Option.map g.2.2 r10)]) C hR (k_X11_act C.2.2 ha hk9 E12) Y_X11_act YV_X11_act Lk_RX11_110 ha ⟨_, _, rfl, by decide⟩ rfl hl.1 ⟨Nat.le_of_ble_eq_true rfl, Nat.le_of_ble_eq_true rfl⟩ rfl (Nat.le_of_ble_eq_true rfl) ⟨Nat.zero_le _, Nat.zero_le _⟩ rfl dX11_fraction_39 (fun H locs hR => ?_)
          obtain ⟨j13, rfl, hsp⟩ := fr_b1 hsp
          refine W.eq (g2 := F0 m 42 ls [.ref (g.2.2 j13)]) rfl ?_
          refine lv_iconst (v := 0) hx hb dX11_fraction_42 (by decide) ?_
          refine lv_iconst (v := 0) hx hb dX11_fraction_43 (by decide) ?_
          refine lv_iconst (v := 0) hx hb dX11_fraction_44 (by decide) ?_
          refine lv_iload_n hx hb dX11_fraction_45 rfl (lv_at hl 3 rfl) ?_
          refine lv_iload_n hx hb dX11_fraction_46 rfl (lv_at hl 4 rfl) ?_
          refine lv_iconst (v := 0) hx hb dX11_fraction_47 (by decide) ?_
          refine lv_iconst (v := 0) hx hb dX11_fraction_48 (by decide) ?_
          obtain ⟨hk14, hsp⟩ := fr_ck hsp
          obtain ⟨h15, E16, hsp⟩ := fr_b1 hsp
          refine fq_callV (rest := []) (st1 := []) C hR (k_X3_become C.2.2 hk14 E16) Y_X3_become YV_X3_become Lk_RX11_114 hk14 ⟨_, _, rfl, by decide⟩ rfl hl.1 ⟨Nat.le_of_ble_eq_true rfl, Nat.le_of_ble_eq_true rfl⟩ rfl (Nat.le_of_ble_eq_true rfl) ⟨Nat.zero_le _, Nat.zero_le _⟩ rfl dX11_fraction_49 (fun H locs hR => ?_)
          refine lv_iconst (v := 1) hx hb dX11_fraction_52 (by decide) ?_
          obtain ⟨e1, e2⟩ := fr_s2 hsp
          exact fr_zret C hr hlocks hR (Or.inr rfl) e1 e2 dX11_fraction_53
        · rw [if_neg c8] at hsp
          refine lv_iconst (v := 0) hx hb dX11_fraction_34 (by decide) ?_
          obtain ⟨e1, e2⟩ := fr_s2 hsp
          exact fr_zret C hr hlocks hR (Or.inl rfl) e1 e2 dX11_fraction_35

/-! TermRows.root(IIII)Z -/
def z_X11_root (S : fh_S) (h : fh_H) (a : Nat) (x1 : Int32) (x2 : Int32) (x3 : Int32) (x4 : Int32) : Option (Int32 × fh_H) :=
    fh_b1 (z_X11_find S h a x1) (fun r1 => fh_nn r1 (some ((0 : Int32), h)) (fun j3 => fh_b1 (z_X11_within x2 (999 : Int32)) (fun r4 => if r4 = 0 then (some ((0 : Int32), h)) else (if x3 < 0 then (some ((0 : Int32), h)) else (if x3 ≤ (9999 : Int32) then (if x4 = 0 then (some ((0 : Int32), h)) else (fh_b1 (z_X11_within x4 (99 : Int32)) (fun r10 => if r10 = 0 then (some ((0 : Int32), h)) else (fh_ck (fh_kq S j3 6) (fh_b2 (z_X11_act S h a j3) (fun r14 h15 => fh_b1 r14 (fun j17 => fh_ck (fh_kq S j17 3) (fh_b1 (z_X3_become S h15 j17 (1 : Int32) (0 : Int32) (0 : Int32) x2 x3 x4 (0 : Int32)) (fun h19 => some ((1 : Int32), h19)))))))))) else (some ((0 : Int32), h)))))))
set_option maxHeartbeats 4000000 in
set_option maxRecDepth 100000 in
theorem k_X11_root {l : Launch} {S : fh_S} {g : fh_G} {h h' : fh_H} (hj : fh_inj S g) {a : Nat} {x1 : Int32} {x2 : Int32} {x3 : Int32} {x4 : Int32} {r : Int32} (ha : fh_kq S a 11 = true) (hsp : z_X11_root S h a x1 x2 x3 x4 = some (r, h')) : fh_M l yX11_root cX11_root 6 (some .boolean) (fh_rm 5) S g [.ref (g.2.2 a), .int x1, .int x2, .int x3, .int x4] h (some (.int r)) h' := by
  unfold z_X11_root at hsp
  refine fr_head (own := RX11) (by decide) rfl hj (Nat.le_of_ble_eq_true rfl) ?_
  intro p e s m below meth c ls C hr hlocks hR hl
  have hl : lv_has ls 6 [(0, .ref (g.2.2 a)), (1, .int x1), (2, .int x2), (3, .int x3), (4, .int x4)] := hl
  have hx := C.1.1
  have hb := C.1.2.1
  refine lv_aload_n hx hb dX11_root_0 rfl (lv_at hl 0 rfl) ?_
  refine lv_iload_n hx hb dX11_root_1 rfl (lv_at hl 1 rfl) ?_
  obtain ⟨r1, E2, hsp⟩ := fr_b1 hsp
  refine fq_callV (rest := []) (st1 := [va_rf (Option.map g.2.2 r1)]) C hR (k_X11_find C.2.2 ha E2) Y_X11_find YV_X11_find Lk_RX11_87 ha ⟨_, _, rfl, by decide⟩ rfl hl.1 ⟨Nat.le_of_ble_eq_true rfl, Nat.le_of_ble_eq_true rfl⟩ rfl (Nat.le_of_ble_eq_true rfl) ⟨Nat.zero_le _, Nat.zero_le _⟩ rfl dX11_root_2 (fun H locs hR => ?_)
  rcases r1 with _ | j3
  · have hsp := fr_nnN hsp
    refine W.eq (g2 := F0 m 5 ls [.null]) rfl ?_
    refine lv_astoreN (lv' := [(5, .null), (0, .ref (g.2.2 a)), (1, .int x1), (2, .int x2), (3, .int x3), (4, .int x4)]) hx hb dX11_root_5 hl (by decide) rfl (fun ls hl => ?_)
    refine lv_aloadN hx hb dX11_root_7 (lv_at hl 0 rfl) ?_
    refine lv_ifnullN (tgt := 33) hx hb dX11_root_9 (by decide) ?_
    refine lv_iconst (v := 0) hx hb dX11_root_33 (by decide) ?_
    obtain ⟨e1, e2⟩ := fr_s2 hsp
    exact fr_zret C hr hlocks hR (Or.inl rfl) e1 e2 dX11_root_34
  · have hsp := fr_nnS hsp
    refine W.eq (g2 := F0 m 5 ls [.ref (g.2.2 j3)]) rfl ?_
    refine lv_astore (lv' := [(5, .ref (g.2.2 j3)), (0, .ref (g.2.2 a)), (1, .int x1), (2, .int x2), (3, .int x3), (4, .int x4)]) hx hb dX11_root_5 hl (by decide) rfl (fun ls hl => ?_)
    refine lv_aload hx hb dX11_root_7 (lv_at hl 0 rfl) ?_
    refine lv_ifnull hx hb dX11_root_9 ?_
    refine lv_iload_n hx hb dX11_root_12 rfl (lv_at hl 3 rfl) ?_
    refine lv_sipush (v := 999) hx hb dX11_root_13 (by decide) ?_
    obtain ⟨r4, E5, hsp⟩ := fr_b1 hsp
    refine fq_callS (rest := []) (st1 := [.int r4]) C hR (k_X11_within C.2.2 E5) Y_X11_within YS_X11_within Lk_RX11_137 rfl hl.1 ⟨Nat.le_of_ble_eq_true rfl, Nat.le_of_ble_eq_true rfl⟩ rfl (Nat.le_of_ble_eq_true rfl) ⟨Nat.zero_le _, Nat.zero_le _⟩ rfl dX11_root_16 (fun H locs hR => ?_)
    refine lv_if_eq (tgt := 33) hx hb dX11_root_19 (by decide) (fun c6 => ?_) (fun c6 => ?_)
    · rw [if_pos c6] at hsp
      refine lv_iconst (v := 0) hx hb dX11_root_33 (by decide) ?_
      obtain ⟨e1, e2⟩ := fr_s2 hsp
      exact fr_zret C hr hlocks hR (Or.inl rfl) e1 e2 dX11_root_34
    · rw [if_neg c6] at hsp
      refine lv_iload_n hx hb dX11_root_22 rfl (lv_at hl 4 rfl) ?_
      refine lv_if_lt (tgt := 33) hx hb dX11_root_23 (by decide) (fun c7 => ?_) (fun c7 => ?_)
      · rw [if_pos c7] at hsp
        refine lv_iconst (v := 0) hx hb dX11_root_33 (by decide) ?_
        obtain ⟨e1, e2⟩ := fr_s2 hsp
        exact fr_zret C hr hlocks hR (Or.inl rfl) e1 e2 dX11_root_34
      · rw [if_neg c7] at hsp
        refine lv_iload_n hx hb dX11_root_26 rfl (lv_at hl 4 rfl) ?_
        refine lv_sipush (v := 9999) hx hb dX11_root_27 (by decide) ?_
        refine lv_icmp_le (tgt := 35) hx hb dX11_root_30 (by decide) (fun c8 => ?_) (fun c8 => ?_)
        · rw [if_pos c8] at hsp
          refine lv_iload hx hb dX11_root_35 (lv_at hl 5 rfl) ?_
          refine lv_if_eq (tgt := 50) hx hb dX11_root_37 (by decide) (fun c9 => ?_) (fun c9 => ?_)
          · rw [if_pos c9] at hsp
            refine lv_iconst (v := 0) hx hb dX11_root_50 (by decide) ?_
            obtain ⟨e1, e2⟩ := fr_s2 hsp
            exact fr_zret C hr hlocks hR (Or.inl rfl) e1 e2 dX11_root_51
          · rw [if_neg c9] at hsp
            refine lv_iload hx hb dX11_root_40 (lv_at hl 5 rfl) ?_
            refine lv_bipush (v := 99) hx hb dX11_root_42 (by decide) ?_
            obtain ⟨r10, E11, hsp⟩ := fr_b1 hsp
            refine fq_callS (rest := []) (st1 := [.int r10]) C hR (k_X11_within C.2.2 E11) Y_X11_within YS_X11_within Lk_RX11_137 rfl hl.1 ⟨Nat.le_of_ble_eq_true rfl, Nat.le_of_ble_eq_true rfl⟩ rfl (Nat.le_of_ble_eq_true rfl) ⟨Nat.zero_le _, Nat.zero_le _⟩ rfl dX11_root_44 (fun H locs hR => ?_)
            refine lv_if_ne (tgt := 52) hx hb dX11_root_47 (by decide) (fun c12 => ?_) (fun c12 => ?_)
            · rw [if_neg c12] at hsp
              refine lv_aload_n hx hb dX11_root_52 rfl (lv_at hl 1 rfl) ?_
              refine lv_aload hx hb dX11_root_53 (lv_at hl 0 rfl) ?_
              obtain ⟨hk13, hsp⟩ := fr_ck hsp
              obtain ⟨r14, h15, E16, hsp⟩ := fr_b2 hsp
              refine fq_callV (rest := []) (st1 := [va_rf (Option.map g.2.2 r14)]) C hR (k_X11_act C.2.2 ha hk13 E16) Y_X11_act YV_X11_act Lk_RX11_110 ha ⟨_, _, rfl, by decide⟩ rfl hl.1 ⟨Nat.le_of_ble_eq_true rfl, Nat.le_of_ble_eq_true rfl⟩ rfl (Nat.le_of_ble_eq_true rfl) ⟨Nat.zero_le _, Nat.zero_le _⟩ rfl dX11_root_55 (fun H locs hR => ?_)
              obtain ⟨j17, rfl, hsp⟩ := fr_b1 hsp
              refine W.eq (g2 := F0 m 58 ls [.ref (g.2.2 j17)]) rfl ?_
              refine lv_iconst (v := 1) hx hb dX11_root_58 (by decide) ?_
              refine lv_iconst (v := 0) hx hb dX11_root_59 (by decide) ?_
              refine lv_iconst (v := 0) hx hb dX11_root_60 (by decide) ?_
              refine lv_iload_n hx hb dX11_root_61 rfl (lv_at hl 3 rfl) ?_
              refine lv_iload_n hx hb dX11_root_62 rfl (lv_at hl 4 rfl) ?_
              refine lv_iload hx hb dX11_root_63 (lv_at hl 5 rfl) ?_
              refine lv_iconst (v := 0) hx hb dX11_root_65 (by decide) ?_
              obtain ⟨hk18, hsp⟩ := fr_ck hsp
              obtain ⟨h19, E20, hsp⟩ := fr_b1 hsp
              refine fq_callV (rest := []) (st1 := []) C hR (k_X3_become C.2.2 hk18 E20) Y_X3_become YV_X3_become Lk_RX11_114 hk18 ⟨_, _, rfl, by decide⟩ rfl hl.1 ⟨Nat.le_of_ble_eq_true rfl, Nat.le_of_ble_eq_true rfl⟩ rfl (Nat.le_of_ble_eq_true rfl) ⟨Nat.zero_le _, Nat.zero_le _⟩ rfl dX11_root_66 (fun H locs hR => ?_)
              refine lv_iconst (v := 1) hx hb dX11_root_69 (by decide) ?_
              obtain ⟨e1, e2⟩ := fr_s2 hsp
              exact fr_zret C hr hlocks hR (Or.inr rfl) e1 e2 dX11_root_70
            · rw [if_pos c12] at hsp
              refine lv_iconst (v := 0) hx hb dX11_root_50 (by decide) ?_
              obtain ⟨e1, e2⟩ := fr_s2 hsp
              exact fr_zret C hr hlocks hR (Or.inl rfl) e1 e2 dX11_root_51
        · rw [if_neg c8] at hsp
          refine lv_iconst (v := 0) hx hb dX11_root_33 (by decide) ?_
          obtain ⟨e1, e2⟩ := fr_s2 hsp
          exact fr_zret C hr hlocks hR (Or.inl rfl) e1 e2 dX11_root_34

/-! TermRows.single(IIIIII)Z -/
def z_X11_single (S : fh_S) (h : fh_H) (a : Nat) (x1 : Int32) (x2 : Int32) (x3 : Int32) (x4 : Int32) (x5 : Int32) (x6 : Int32) : Option (Int32 × fh_H) :=
    fh_b1 (z_X11_find S h a x1) (fun r1 => fh_nn r1 (some ((0 : Int32), h)) (fun j3 => fh_b1 (z_X11_find S h a x2) (fun r4 => fh_nn r4 (some ((0 : Int32), h)) (fun j6 => if x1 ≤ x2 then (some ((0 : Int32), h)) else (fh_b1 (z_X11_fitsSingle x3 x4 x5 x6) (fun r8 => if r8 = 0 then (some ((0 : Int32), h)) else (fh_ck (fh_kq S j3 6) (fh_b2 (z_X11_act S h a j3) (fun r12 h13 => fh_b1 r12 (fun j15 => fh_ck (fh_kq S j15 3) (fh_b1 (z_X3_become S h13 j15 (3 : Int32) x2 x2 x3 x4 x5 x6) (fun h17 => some ((1 : Int32), h17)))))))))))))
set_option maxHeartbeats 4000000 in
set_option maxRecDepth 100000 in
theorem k_X11_single {l : Launch} {S : fh_S} {g : fh_G} {h h' : fh_H} (hj : fh_inj S g) {a : Nat} {x1 : Int32} {x2 : Int32} {x3 : Int32} {x4 : Int32} {x5 : Int32} {x6 : Int32} {r : Int32} (ha : fh_kq S a 11 = true) (hsp : z_X11_single S h a x1 x2 x3 x4 x5 x6 = some (r, h')) : fh_M l yX11_single cX11_single 8 (some .boolean) (fh_rm 5) S g [.ref (g.2.2 a), .int x1, .int x2, .int x3, .int x4, .int x5, .int x6] h (some (.int r)) h' := by
  unfold z_X11_single at hsp
  refine fr_head (own := RX11) (by decide) rfl hj (Nat.le_of_ble_eq_true rfl) ?_
  intro p e s m below meth c ls C hr hlocks hR hl
  have hl : lv_has ls 8 [(0, .ref (g.2.2 a)), (1, .int x1), (2, .int x2), (3, .int x3), (4, .int x4), (5, .int x5), (6, .int x6)] := hl
  have hx := C.1.1
  have hb := C.1.2.1
  refine lv_aload_n hx hb dX11_single_0 rfl (lv_at hl 0 rfl) ?_
  refine lv_iload_n hx hb dX11_single_1 rfl (lv_at hl 1 rfl) ?_
  obtain ⟨r1, E2, hsp⟩ := fr_b1 hsp
  refine fq_callV (rest := []) (st1 := [va_rf (Option.map g.2.2 r1)]) C hR (k_X11_find C.2.2 ha E2) Y_X11_find YV_X11_find Lk_RX11_87 ha ⟨_, _, rfl, by decide⟩ rfl hl.1 ⟨Nat.le_of_ble_eq_true rfl, Nat.le_of_ble_eq_true rfl⟩ rfl (Nat.le_of_ble_eq_true rfl) ⟨Nat.zero_le _, Nat.zero_le _⟩ rfl dX11_single_2 (fun H locs hR => ?_)
  rcases r1 with _ | j3
  · have hsp := fr_nnN hsp
    refine W.eq (g2 := F0 m 5 ls [.null]) rfl ?_
    refine lv_astoreN (lv' := [(7, .null), (0, .ref (g.2.2 a)), (1, .int x1), (2, .int x2), (3, .int x3), (4, .int x4), (5, .int x5), (6, .int x6)]) hx hb dX11_single_5 hl (by decide) rfl (fun ls hl => ?_)
    refine lv_aloadN hx hb dX11_single_7 (lv_at hl 0 rfl) ?_
    refine lv_ifnullN (tgt := 38) hx hb dX11_single_9 (by decide) ?_
    refine lv_iconst (v := 0) hx hb dX11_single_38 (by decide) ?_
    obtain ⟨e1, e2⟩ := fr_s2 hsp
    exact fr_zret C hr hlocks hR (Or.inl rfl) e1 e2 dX11_single_39
  · have hsp := fr_nnS hsp
    refine W.eq (g2 := F0 m 5 ls [.ref (g.2.2 j3)]) rfl ?_
    refine lv_astore (lv' := [(7, .ref (g.2.2 j3)), (0, .ref (g.2.2 a)), (1, .int x1), (2, .int x2), (3, .int x3), (4, .int x4), (5, .int x5), (6, .int x6)]) hx hb dX11_single_5 hl (by decide) rfl (fun ls hl => ?_)
    refine lv_aload hx hb dX11_single_7 (lv_at hl 0 rfl) ?_
    refine lv_ifnull hx hb dX11_single_9 ?_
    refine lv_aload_n hx hb dX11_single_12 rfl (lv_at hl 1 rfl) ?_
    refine lv_iload_n hx hb dX11_single_13 rfl (lv_at hl 3 rfl) ?_
    obtain ⟨r4, E5, hsp⟩ := fr_b1 hsp
    refine fq_callV (rest := []) (st1 := [va_rf (Option.map g.2.2 r4)]) C hR (k_X11_find C.2.2 ha E5) Y_X11_find YV_X11_find Lk_RX11_87 ha ⟨_, _, rfl, by decide⟩ rfl hl.1 ⟨Nat.le_of_ble_eq_true rfl, Nat.le_of_ble_eq_true rfl⟩ rfl (Nat.le_of_ble_eq_true rfl) ⟨Nat.zero_le _, Nat.zero_le _⟩ rfl dX11_single_14 (fun H locs hR => ?_)
    rcases r4 with _ | j6
    · have hsp := fr_nnN hsp
      refine W.eq (g2 := F0 m 17 ls [.null]) rfl ?_
      refine lv_ifnullN (tgt := 38) hx hb dX11_single_17 (by decide) ?_
      refine lv_iconst (v := 0) hx hb dX11_single_38 (by decide) ?_
      obtain ⟨e1, e2⟩ := fr_s2 hsp
      exact fr_zret C hr hlocks hR (Or.inl rfl) e1 e2 dX11_single_39
    · have hsp := fr_nnS hsp
      refine W.eq (g2 := F0 m 17 ls [.ref (g.2.2 j6)]) rfl ?_
      refine lv_ifnull hx hb dX11_single_17 ?_
      refine lv_iload_n hx hb dX11_single_20 rfl (lv_at hl 3 rfl) ?_
      refine lv_iload_n hx hb dX11_single_21 rfl (lv_at hl 2 rfl) ?_
      refine lv_icmp_ge (tgt := 38) hx hb dX11_single_22 (by decide) (fun c7 => ?_) (fun c7 => ?_)
      · rw [if_pos c7] at hsp
        refine lv_iconst (v := 0) hx hb dX11_single_38 (by decide) ?_
        obtain ⟨e1, e2⟩ := fr_s2 hsp
        exact fr_zret C hr hlocks hR (Or.inl rfl) e1 e2 dX11_single_39
      · rw [if_neg c7] at hsp
        refine lv_iload_n hx hb dX11_single_25 rfl (lv_at hl 4 rfl) ?_
        refine lv_iload hx hb dX11_single_26 (lv_at hl 5 rfl) ?_
        refine lv_iload hx hb dX11_single_28 (lv_at hl 6 rfl) ?_
        refine lv_iload hx hb dX11_single_30 (lv_at hl 7 rfl) ?_
        obtain ⟨r8, E9, hsp⟩ := fr_b1 hsp
        refine fq_callS (rest := []) (st1 := [.int r8]) C hR (k_X11_fitsSingle C.2.2 E9) Y_X11_fitsSingle YS_X11_fitsSingle Lk_RX11_141 rfl hl.1 ⟨Nat.le_of_ble_eq_true rfl, Nat.le_of_ble_eq_true rfl⟩ rfl (Nat.le_of_ble_eq_true rfl) ⟨Nat.zero_le _, Nat.zero_le _⟩ rfl dX11_single_32 (fun H locs hR => ?_)
        refine lv_if_ne (tgt := 40) hx hb dX11_single_35 (by decide) (fun c10 => ?_) (fun c10 => ?_)
        · rw [if_neg c10] at hsp
          refine lv_aload_n hx hb dX11_single_40 rfl (lv_at hl 1 rfl) ?_
          refine lv_aload hx hb dX11_single_41 (lv_at hl 0 rfl) ?_
          obtain ⟨hk11, hsp⟩ := fr_ck hsp
          obtain ⟨r12, h13, E14, hsp⟩ := fr_b2 hsp
          refine fq_callV (rest := []) (st1 := [va_rf (Option.map g.2.2 r12)]) C hR (k_X11_act C.2.2 ha hk11 E14) Y_X11_act YV_X11_act Lk_RX11_110 ha ⟨_, _, rfl, by decide⟩ rfl hl.1 ⟨Nat.le_of_ble_eq_true rfl, Nat.le_of_ble_eq_true rfl⟩ rfl (Nat.le_of_ble_eq_true rfl) ⟨Nat.zero_le _, Nat.zero_le _⟩ rfl dX11_single_43 (fun H locs hR => ?_)
          obtain ⟨j15, rfl, hsp⟩ := fr_b1 hsp
          refine W.eq (g2 := F0 m 46 ls [.ref (g.2.2 j15)]) rfl ?_
          refine lv_iconst (v := 3) hx hb dX11_single_46 (by decide) ?_
          refine lv_iload_n hx hb dX11_single_47 rfl (lv_at hl 3 rfl) ?_
          refine lv_iload_n hx hb dX11_single_48 rfl (lv_at hl 3 rfl) ?_
          refine lv_iload_n hx hb dX11_single_49 rfl (lv_at hl 4 rfl) ?_
          refine lv_iload hx hb dX11_single_50 (lv_at hl 5 rfl) ?_
          refine lv_iload hx hb dX11_single_52 (lv_at hl 6 rfl) ?_
          refine lv_iload hx hb dX11_single_54 (lv_at hl 7 rfl) ?_
          obtain ⟨hk16, hsp⟩ := fr_ck hsp
          obtain ⟨h17, E18, hsp⟩ := fr_b1 hsp
          refine fq_callV (rest := []) (st1 := []) C hR (k_X3_become C.2.2 hk16 E18) Y_X3_become YV_X3_become Lk_RX11_114 hk16 ⟨_, _, rfl, by decide⟩ rfl hl.1 ⟨Nat.le_of_ble_eq_true rfl, Nat.le_of_ble_eq_true rfl⟩ rfl (Nat.le_of_ble_eq_true rfl) ⟨Nat.zero_le _, Nat.zero_le _⟩ rfl dX11_single_56 (fun H locs hR => ?_)
          refine lv_iconst (v := 1) hx hb dX11_single_59 (by decide) ?_
          obtain ⟨e1, e2⟩ := fr_s2 hsp
          exact fr_zret C hr hlocks hR (Or.inr rfl) e1 e2 dX11_single_60
        · rw [if_pos c10] at hsp
          refine lv_iconst (v := 0) hx hb dX11_single_38 (by decide) ?_
          obtain ⟨e1, e2⟩ := fr_s2 hsp
          exact fr_zret C hr hlocks hR (Or.inl rfl) e1 e2 dX11_single_39

/-! TermRows.join(IIII)Z -/
def z_X11_join (S : fh_S) (h : fh_H) (a : Nat) (x1 : Int32) (x2 : Int32) (x3 : Int32) (x4 : Int32) : Option (Int32 × fh_H) :=
    fh_b1 (z_X11_find S h a x1) (fun r1 => fh_nn r1 (some ((0 : Int32), h)) (fun j3 => fh_b1 (z_X11_find S h a x3) (fun r4 => fh_nn r4 (some ((0 : Int32), h)) (fun j6 => fh_b1 (z_X11_find S h a x4) (fun r7 => fh_nn r7 (some ((0 : Int32), h)) (fun j9 => if x2 < 0 then (some ((0 : Int32), h)) else (if (3 : Int32) < x2 then (some ((0 : Int32), h)) else (if x1 ≤ x3 then (some ((0 : Int32), h)) else (if x4 < x1 then (fh_ck (fh_kq S j3 6) (fh_b2 (z_X11_act S h a j3) (fun r15 h16 => fh_b1 r15 (fun j18 => fh_ck (fh_kq S j18 3) (fh_b1 (z_X3_become S h16 j18 (4 : Int32) x3 x4 x2 (0 : Int32) (0 : Int32) (0 : Int32)) (fun h20 => some ((1 : Int32), h20))))))) else (some ((0 : Int32), h)))))))))))
set_option maxHeartbeats 4000000 in
set_option maxRecDepth 100000 in
theorem k_X11_join {l : Launch} {S : fh_S} {g : fh_G} {h h' : fh_H} (hj : fh_inj S g) {a : Nat} {x1 : Int32} {x2 : Int32} {x3 : Int32} {x4 : Int32} {r : Int32} (ha : fh_kq S a 11 = true) (hsp : z_X11_join S h a x1 x2 x3 x4 = some (r, h')) : fh_M l yX11_join cX11_join 6 (some .boolean) (fh_rm 5) S g [.ref (g.2.2 a), .int x1, .int x2, .int x3, .int x4] h (some (.int r)) h' := by
  unfold z_X11_join at hsp
  refine fr_head (own := RX11) (by decide) rfl hj (Nat.le_of_ble_eq_true rfl) ?_
  intro p e s m below meth c ls C hr hlocks hR hl
  have hl : lv_has ls 6 [(0, .ref (g.2.2 a)), (1, .int x1), (2, .int x2), (3, .int x3), (4, .int x4)] := hl
  have hx := C.1.1
  have hb := C.1.2.1
  refine lv_aload_n hx hb dX11_join_0 rfl (lv_at hl 0 rfl) ?_
  refine lv_iload_n hx hb dX11_join_1 rfl (lv_at hl 1 rfl) ?_
  obtain ⟨r1, E2, hsp⟩ := fr_b1 hsp
  refine fq_callV (rest := []) (st1 := [va_rf (Option.map g.2.2 r1)]) C hR (k_X11_find C.2.2 ha E2) Y_X11_find YV_X11_find Lk_RX11_87 ha ⟨_, _, rfl, by decide⟩ rfl hl.1 ⟨Nat.le_of_ble_eq_true rfl, Nat.le_of_ble_eq_true rfl⟩ rfl (Nat.le_of_ble_eq_true rfl) ⟨Nat.zero_le _, Nat.zero_le _⟩ rfl dX11_join_2 (fun H locs hR => ?_)
  rcases r1 with _ | j3
  · have hsp := fr_nnN hsp
    refine W.eq (g2 := F0 m 5 ls [.null]) rfl ?_
    refine lv_astoreN (lv' := [(5, .null), (0, .ref (g.2.2 a)), (1, .int x1), (2, .int x2), (3, .int x3), (4, .int x4)]) hx hb dX11_join_5 hl (by decide) rfl (fun ls hl => ?_)
    refine lv_aloadN hx hb dX11_join_7 (lv_at hl 0 rfl) ?_
    refine lv_ifnullN (tgt := 29) hx hb dX11_join_9 (by decide) ?_
    refine lv_iconst (v := 0) hx hb dX11_join_29 (by decide) ?_
    obtain ⟨e1, e2⟩ := fr_s2 hsp
    exact fr_zret C hr hlocks hR (Or.inl rfl) e1 e2 dX11_join_30
  · have hsp := fr_nnS hsp
    refine W.eq (g2 := F0 m 5 ls [.ref (g.2.2 j3)]) rfl ?_
    refine lv_astore (lv' := [(5, .ref (g.2.2 j3)), (0, .ref (g.2.2 a)), (1, .int x1), (2, .int x2), (3, .int x3), (4, .int x4)]) hx hb dX11_join_5 hl (by decide) rfl (fun ls hl => ?_)
    refine lv_aload hx hb dX11_join_7 (lv_at hl 0 rfl) ?_
    refine lv_ifnull hx hb dX11_join_9 ?_
    refine lv_aload_n hx hb dX11_join_12 rfl (lv_at hl 1 rfl) ?_
    refine lv_iload_n hx hb dX11_join_13 rfl (lv_at hl 4 rfl) ?_
    obtain ⟨r4, E5, hsp⟩ := fr_b1 hsp
    refine fq_callV (rest := []) (st1 := [va_rf (Option.map g.2.2 r4)]) C hR (k_X11_find C.2.2 ha E5) Y_X11_find YV_X11_find Lk_RX11_87 ha ⟨_, _, rfl, by decide⟩ rfl hl.1 ⟨Nat.le_of_ble_eq_true rfl, Nat.le_of_ble_eq_true rfl⟩ rfl (Nat.le_of_ble_eq_true rfl) ⟨Nat.zero_le _, Nat.zero_le _⟩ rfl dX11_join_14 (fun H locs hR => ?_)
    rcases r4 with _ | j6
    · have hsp := fr_nnN hsp
      refine W.eq (g2 := F0 m 17 ls [.null]) rfl ?_
      refine lv_ifnullN (tgt := 29) hx hb dX11_join_17 (by decide) ?_
      refine lv_iconst (v := 0) hx hb dX11_join_29 (by decide) ?_
      obtain ⟨e1, e2⟩ := fr_s2 hsp
      exact fr_zret C hr hlocks hR (Or.inl rfl) e1 e2 dX11_join_30
    · have hsp := fr_nnS hsp
      refine W.eq (g2 := F0 m 17 ls [.ref (g.2.2 j6)]) rfl ?_
      refine lv_ifnull hx hb dX11_join_17 ?_
      refine lv_aload_n hx hb dX11_join_20 rfl (lv_at hl 1 rfl) ?_
      refine lv_iload hx hb dX11_join_21 (lv_at hl 5 rfl) ?_
      obtain ⟨r7, E8, hsp⟩ := fr_b1 hsp
      refine fq_callV (rest := []) (st1 := [va_rf (Option.map g.2.2 r7)]) C hR (k_X11_find C.2.2 ha E8) Y_X11_find YV_X11_find Lk_RX11_87 ha ⟨_, _, rfl, by decide⟩ rfl hl.1 ⟨Nat.le_of_ble_eq_true rfl, Nat.le_of_ble_eq_true rfl⟩ rfl (Nat.le_of_ble_eq_true rfl) ⟨Nat.zero_le _, Nat.zero_le _⟩ rfl dX11_join_23 (fun H locs hR => ?_)
      rcases r7 with _ | j9
      · have hsp := fr_nnN hsp
        refine W.eq (g2 := F0 m 26 ls [.null]) rfl ?_
        refine lv_ifnonnullN hx hb dX11_join_26 ?_
        refine lv_iconst (v := 0) hx hb dX11_join_29 (by decide) ?_
        obtain ⟨e1, e2⟩ := fr_s2 hsp
        exact fr_zret C hr hlocks hR (Or.inl rfl) e1 e2 dX11_join_30
      · have hsp := fr_nnS hsp
        refine W.eq (g2 := F0 m 26 ls [.ref (g.2.2 j9)]) rfl ?_
        refine lv_ifnonnull (tgt := 31) hx hb dX11_join_26 (by decide) ?_
        refine lv_iload_n hx hb dX11_join_31 rfl (lv_at hl 3 rfl) ?_
        refine lv_if_lt (tgt := 51) hx hb dX11_join_32 (by decide) (fun c10 => ?_) (fun c10 => ?_)
        · rw [if_pos c10] at hsp
          refine lv_iconst (v := 0) hx hb dX11_join_51 (by decide) ?_
          obtain ⟨e1, e2⟩ := fr_s2 hsp
          exact fr_zret C hr hlocks hR (Or.inl rfl) e1 e2 dX11_join_52
        · rw [if_neg c10] at hsp
          refine lv_iload_n hx hb dX11_join_35 rfl (lv_at hl 3 rfl) ?_
          refine lv_iconst (v := 3) hx hb dX11_join_36 (by decide) ?_
          refine lv_icmp_gt (tgt := 51) hx hb dX11_join_37 (by decide) (fun c11 => ?_) (fun c11 => ?_)
          · rw [if_pos c11] at hsp
            refine lv_iconst (v := 0) hx hb dX11_join_51 (by decide) ?_
            obtain ⟨e1, e2⟩ := fr_s2 hsp
            exact fr_zret C hr hlocks hR (Or.inl rfl) e1 e2 dX11_join_52
          · rw [if_neg c11] at hsp
            refine lv_iload_n hx hb dX11_join_40 rfl (lv_at hl 4 rfl) ?_
            refine lv_iload_n hx hb dX11_join_41 rfl (lv_at hl 2 rfl) ?_
            refine lv_icmp_ge (tgt := 51) hx hb dX11_join_42 (by decide) (fun c12 => ?_) (fun c12 => ?_)
            · rw [if_pos c12] at hsp
              refine lv_iconst (v := 0) hx hb dX11_join_51 (by decide) ?_
              obtain ⟨e1, e2⟩ := fr_s2 hsp
              exact fr_zret C hr hlocks hR (Or.inl rfl) e1 e2 dX11_join_52
            · rw [if_neg c12] at hsp
              refine lv_iload hx hb dX11_join_45 (lv_at hl 5 rfl) ?_
              refine lv_iload_n hx hb dX11_join_47 rfl (lv_at hl 2 rfl) ?_
              refine lv_icmp_lt (tgt := 53) hx hb dX11_join_48 (by decide) (fun c13 => ?_) (fun c13 => ?_)
              · rw [if_pos c13] at hsp
                refine lv_aload_n hx hb dX11_join_53 rfl (lv_at hl 1 rfl) ?_
                refine lv_aload hx hb dX11_join_54 (lv_at hl 0 rfl) ?_
                obtain ⟨hk14, hsp⟩ := fr_ck hsp
                obtain ⟨r15, h16, E17, hsp⟩ := fr_b2 hsp
                refine fq_callV (rest := []) (st1 := [va_rf (Option.map g.2.2 r15)]) C hR (k_X11_act C.2.2 ha hk14 E17) Y_X11_act YV_X11_act Lk_RX11_110 ha ⟨_, _, rfl, by decide⟩ rfl hl.1 ⟨Nat.le_of_ble_eq_true rfl, Nat.le_of_ble_eq_true rfl⟩ rfl (Nat.le_of_ble_eq_true rfl) ⟨Nat.zero_le _, Nat.zero_le _⟩ rfl dX11_join_56 (fun H locs hR => ?_)
                obtain ⟨j18, rfl, hsp⟩ := fr_b1 hsp
                refine W.eq (g2 := F0 m 59 ls [.ref (g.2.2 j18)]) rfl ?_
                refine lv_iconst (v := 4) hx hb dX11_join_59 (by decide) ?_
                refine lv_iload_n hx hb dX11_join_60 rfl (lv_at hl 4 rfl) ?_
                refine lv_iload hx hb dX11_join_61 (lv_at hl 5 rfl) ?_
                refine lv_iload_n hx hb dX11_join_63 rfl (lv_at hl 3 rfl) ?_
                refine lv_iconst (v := 0) hx hb dX11_join_64 (by decide) ?_
                refine lv_iconst (v := 0) hx hb dX11_join_65 (by decide) ?_
                refine lv_iconst (v := 0) hx hb dX11_join_66 (by decide) ?_
                obtain ⟨hk19, hsp⟩ := fr_ck hsp
                obtain ⟨h20, E21, hsp⟩ := fr_b1 hsp
                refine fq_callV (rest := []) (st1 := []) C hR (k_X3_become C.2.2 hk19 E21) Y_X3_become YV_X3_become Lk_RX11_114 hk19 ⟨_, _, rfl, by decide⟩ rfl hl.1 ⟨Nat.le_of_ble_eq_true rfl, Nat.le_of_ble_eq_true rfl⟩ rfl (Nat.le_of_ble_eq_true rfl) ⟨Nat.zero_le _, Nat.zero_le _⟩ rfl dX11_join_67 (fun H locs hR => ?_)
                refine lv_iconst (v := 1) hx hb dX11_join_70 (by decide) ?_
                obtain ⟨e1, e2⟩ := fr_s2 hsp
                exact fr_zret C hr hlocks hR (Or.inr rfl) e1 e2 dX11_join_71
              · rw [if_neg c13] at hsp
                refine lv_iconst (v := 0) hx hb dX11_join_51 (by decide) ?_
                obtain ⟨e1, e2⟩ := fr_s2 hsp
                exact fr_zret C hr hlocks hR (Or.inl rfl) e1 e2 dX11_join_52

/-! TermRows.reckon(LTermRows$Row;)V -/
def z_X11_reckon (S : fh_S) (h : fh_H) (a : Nat) (x1 : Nat) : Option fh_H :=
    fh_b1 (h.2.2 x1 4) (fun j1 => fh_b1 (z_X6_clear S h x1) (fun h3 => fh_ck (fh_kq S j1 3) (fh_let ((h3.1 j1 0)) (fun v6 => if v6 = 0 then (fh_b1 (z_X6_divide S h3 x1 (Int32.toInt64 (h3.1 j1 3)) (Int32.toInt64 (h3.1 j1 4))) (fun h8 => some h8)) else (if v6 = 1 then (fh_b1 (z_X11_reckonRoot S h3 a x1) (fun h11 => some h11)) else (if v6 = 2 then (fh_b1 (z_X6_copyTold S h3 x1 j1) (fun h14 => some h14)) else (if v6 = 3 then (fh_b1 (h3.2.2 a 3) (fun j17 => fh_b1 (z_X11_find S h3 a (h3.1 j1 1)) (fun r19 => fh_nn r19 (fh_ck (fh_kq S j17 5) (fh_b1 (z_X5_startSingle S h3 j17 none (h3.1 j1 3) (h3.1 j1 4) (h3.1 j1 5) (h3.1 j1 6)) (fun h23 => fh_b1 (h23.2.2 a 3) (fun j25 => fh_ck (fh_kq S j25 5) (fh_b1 (z_X5_run S h23 j25 x1 (60 : Int32)) (fun h28 => some h28)))))) (fun j21 => fh_ck (fh_kq S j17 5) (fh_b1 (z_X5_startSingle S h3 j17 (some j21) (h3.1 j1 3) (h3.1 j1 4) (h3.1 j1 5) (h3.1 j1 6)) (fun h31 => fh_b1 (h31.2.2 a 3) (fun j33 => fh_ck (fh_kq S j33 5) (fh_b1 (z_X5_run S h31 j33 x1 (60 : Int32)) (fun h36 => some h36))))))))) else (fh_b1 (h3.2.2 a 3) (fun j38 => fh_b1 (z_X11_find S h3 a (h3.1 j1 1)) (fun r40 => fh_nn r40 (fh_b1 (z_X11_find S h3 a (h3.1 j1 2)) (fun r43 => fh_nn r43 (fh_ck (fh_kq S j38 5) (fh_b1 (z_X5_startDouble S h3 j38 (h3.1 j1 3) none none) (fun h47 => fh_b1 (h47.2.2 a 3) (fun j49 => fh_ck (fh_kq S j49 5) (fh_b1 (z_X5_run S h47 j49 x1 (60 : Int32)) (fun h52 => some h52)))))) (fun j45 => fh_ck (fh_kq S j38 5) (fh_b1 (z_X5_startDouble S h3 j38 (h3.1 j1 3) none (some j45)) (fun h55 => fh_b1 (h55.2.2 a 3) (fun j57 => fh_ck (fh_kq S j57 5) (fh_b1 (z_X5_run S h55 j57 x1 (60 : Int32)) (fun h60 => some h60)))))))) (fun j42 => fh_b1 (z_X11_find S h3 a (h3.1 j1 2)) (fun r62 => fh_nn r62 (fh_ck (fh_kq S j38 5) (fh_b1 (z_X5_startDouble S h3 j38 (h3.1 j1 3) (some j42) none) (fun h66 => fh_b1 (h66.2.2 a 3) (fun j68 => fh_ck (fh_kq S j68 5) (fh_b1 (z_X5_run S h66 j68 x1 (60 : Int32)) (fun h71 => some h71)))))) (fun j64 => fh_ck (fh_kq S j38 5) (fh_b1 (z_X5_startDouble S h3 j38 (h3.1 j1 3) (some j42) (some j64)) (fun h74 => fh_b1 (h74.2.2 a 3) (fun j76 => fh_ck (fh_kq S j76 5) (fh_b1 (z_X5_run S h74 j76 x1 (60 : Int32)) (fun h79 => some h79))))))))))))))))))
set_option maxHeartbeats 4000000 in
set_option maxRecDepth 100000 in
theorem k_X11_reckon {l : Launch} {S : fh_S} {g : fh_G} {h h' : fh_H} (hj : fh_inj S g) {a : Nat} {x1 : Nat} (ha : fh_kq S a 11 = true) (k_x1 : fh_kq S x1 6 = true) (hsp : z_X11_reckon S h a x1 = some h') : fh_M l yX11_reckon cX11_reckon 3 none (fh_rm 5) S g [.ref (g.2.2 a), .ref (g.2.2 x1)] h none h' := by
  unfold z_X11_reckon at hsp
  refine fr_head (own := RX11) (by decide) rfl hj (Nat.le_of_ble_eq_true rfl) ?_
  intro p e s m below meth c ls C hr hlocks hR hl
  have hl : lv_has ls 3 [(0, .ref (g.2.2 a)), (1, .ref (g.2.2 x1))] := hl
  have hx := C.1.1
  have hb := C.1.2.1
  refine lv_aload_n hx hb dX11_reckon_0 rfl (lv_at hl 1 rfl) ?_
  obtain ⟨j1, hv2, hsp⟩ := fr_b1 hsp
  refine fr_getr C hR k_x1 Fg_RX11_168 rfl hv2 dX11_reckon_1 ?_
  refine lv_astore_n (lv' := [(2, .ref (g.2.2 j1)), (0, .ref (g.2.2 a)), (1, .ref (g.2.2 x1))]) hx hb dX11_reckon_4 rfl hl (by decide) rfl (fun ls hl => ?_)
  refine lv_aload_n hx hb dX11_reckon_5 rfl (lv_at hl 2 rfl) ?_
  obtain ⟨h3, E4, hsp⟩ := fr_b1 hsp
  refine fq_callV (rest := []) (st1 := []) C hR (k_X6_clear C.2.2 k_x1 E4) Y_X6_clear YV_X6_clear Lk_RX11_364 k_x1 ⟨_, _, rfl, by decide⟩ rfl hl.1 ⟨Nat.le_of_ble_eq_true rfl, Nat.le_of_ble_eq_true rfl⟩ rfl (Nat.le_of_ble_eq_true rfl) ⟨Nat.zero_le _, Nat.zero_le _⟩ rfl dX11_reckon_6 (fun H locs hR => ?_)
  refine lv_aload_n hx hb dX11_reckon_9 rfl (lv_at hl 0 rfl) ?_
  obtain ⟨hk5, hsp⟩ := fr_ck hsp
  refine fr_geti C hR hk5 Fg_RX11_172 rfl dX11_reckon_10 ?_
  refine lv_topi (fun v6 ev6 => ?_)
  have hsp := fr_let ev6 hsp
  by_cases c7 : v6 = 0
  · rw [if_pos c7] at hsp
    refine lv_tableIn (off := 31) (tgt := 44) hx hb dX11_reckon_13 (by rw [c7]; decide) (by rw [c7]; decide) (by rw [c7]; decide) (by decide) ?_
    refine lv_aload_n hx hb dX11_reckon_44 rfl (lv_at hl 2 rfl) ?_
    refine lv_aload_n hx hb dX11_reckon_45 rfl (lv_at hl 0 rfl) ?_
    refine fr_geti C hR hk5 Fg_RX11_298 rfl dX11_reckon_46 ?_
    refine lv_i2l hx hb dX11_reckon_49 rfl ?_
    refine lv_aload_n hx hb dX11_reckon_50 rfl (lv_at hl 0 rfl) ?_
    refine fr_geti C hR hk5 Fg_RX11_287 rfl dX11_reckon_51 ?_
    refine lv_i2l hx hb dX11_reckon_54 rfl ?_
    obtain ⟨h8, E9, hsp⟩ := fr_b1 hsp
    refine fq_callV (rest := []) (st1 := []) C hR (k_X6_divide C.2.2 k_x1 E9) Y_X6_divide YV_X6_divide Lk_RX11_367 k_x1 ⟨_, _, rfl, by decide⟩ rfl hl.1 ⟨Nat.le_of_ble_eq_true rfl, Nat.le_of_ble_eq_true rfl⟩ rfl (Nat.le_of_ble_eq_true rfl) ⟨Nat.zero_le _, Nat.zero_le _⟩ rfl dX11_reckon_55 (fun H locs hR => ?_)
    refine lv_goto (tgt := 158) hx hb dX11_reckon_58 (by decide) ?_
    exact fr_vret C hr hlocks hR (fr_s1 hsp) dX11_reckon_158
  rw [if_neg c7] at hsp
  by_cases c10 : v6 = 1
  · rw [if_pos c10] at hsp
    refine lv_tableIn (off := 48) (tgt := 61) hx hb dX11_reckon_13 (by rw [c10]; decide) (by rw [c10]; decide) (by rw [c10]; decide) (by decide) ?_
    refine lv_aload_n hx hb dX11_reckon_61 rfl (lv_at hl 1 rfl) ?_
    refine lv_aload_n hx hb dX11_reckon_62 rfl (lv_at hl 2 rfl) ?_
    obtain ⟨h11, E12, hsp⟩ := fr_b1 hsp
    refine fq_callV (rest := []) (st1 := []) C hR (k_X11_reckonRoot C.2.2 ha k_x1 E12) Y_X11_reckonRoot YV_X11_reckonRoot Lk_RX11_371 ha ⟨_, _, rfl, by decide⟩ rfl hl.1 ⟨Nat.le_of_ble_eq_true rfl, Nat.le_of_ble_eq_true rfl⟩ rfl (Nat.le_of_ble_eq_true rfl) ⟨Nat.zero_le _, Nat.zero_le _⟩ rfl dX11_reckon_63 (fun H locs hR => ?_)
    refine lv_goto (tgt := 158) hx hb dX11_reckon_66 (by decide) ?_
    exact fr_vret C hr hlocks hR (fr_s1 hsp) dX11_reckon_158
  rw [if_neg c10] at hsp
  by_cases c13 : v6 = 2
  · rw [if_pos c13] at hsp
    refine lv_tableIn (off := 56) (tgt := 69) hx hb dX11_reckon_13 (by rw [c13]; decide) (by rw [c13]; decide) (by rw [c13]; decide) (by decide) ?_
    refine lv_aload_n hx hb dX11_reckon_69 rfl (lv_at hl 2 rfl) ?_
    refine lv_aload_n hx hb dX11_reckon_70 rfl (lv_at hl 0 rfl) ?_
    obtain ⟨h14, E15, hsp⟩ := fr_b1 hsp
    refine fq_callV (rest := []) (st1 := []) C hR (k_X6_copyTold C.2.2 k_x1 hk5 E15) Y_X6_copyTold YV_X6_copyTold Lk_RX11_374 k_x1 ⟨_, _, rfl, by decide⟩ rfl hl.1 ⟨Nat.le_of_ble_eq_true rfl, Nat.le_of_ble_eq_true rfl⟩ rfl (Nat.le_of_ble_eq_true rfl) ⟨Nat.zero_le _, Nat.zero_le _⟩ rfl dX11_reckon_71 (fun H locs hR => ?_)
    refine lv_goto (tgt := 158) hx hb dX11_reckon_74 (by decide) ?_
    exact fr_vret C hr hlocks hR (fr_s1 hsp) dX11_reckon_158
  rw [if_neg c13] at hsp
  by_cases c16 : v6 = 3
  · rw [if_pos c16] at hsp
    refine lv_tableIn (off := 64) (tgt := 77) hx hb dX11_reckon_13 (by rw [c16]; decide) (by rw [c16]; decide) (by rw [c16]; decide) (by decide) ?_
    refine lv_aload_n hx hb dX11_reckon_77 rfl (lv_at hl 1 rfl) ?_
    obtain ⟨j17, hv18, hsp⟩ := fr_b1 hsp
    refine fr_getr C hR ha Fg_RX11_32 rfl hv18 dX11_reckon_78 ?_
    refine lv_aload_n hx hb dX11_reckon_81 rfl (lv_at hl 1 rfl) ?_
    refine lv_aload_n hx hb dX11_reckon_82 rfl (lv_at hl 0 rfl) ?_
    refine fr_geti C hR hk5 Fg_RX11_377 rfl dX11_reckon_83 ?_
    obtain ⟨r19, E20, hsp⟩ := fr_b1 hsp
    refine fq_callV (rest := [.ref (g.2.2 j17)]) (st1 := [va_rf (Option.map g.2.2 r19), .ref (g.2.2 j17)]) C hR (k_X11_find C.2.2 ha E20) Y_X11_find YV_X11_find Lk_RX11_87 ha ⟨_, _, rfl, by decide⟩ rfl hl.1 ⟨Nat.le_of_ble_eq_true rfl, Nat.le_of_ble_eq_true rfl⟩ rfl (Nat.le_of_ble_eq_true rfl) ⟨Nat.zero_le _, Nat.zero_le _⟩ rfl dX11_reckon_86 (fun H locs hR => ?_)
    rcases r19 with _ | j21
    · have hsp := fr_nnN hsp
      refine W.eq (g2 := F0 m 89 ls [.null, .ref (g.2.2 j17)]) rfl ?_
      refine lv_aload_n hx hb dX11_reckon_89 rfl (lv_at hl 0 rfl) ?_
      refine fr_geti C hR hk5 Fg_RX11_298 rfl dX11_reckon_90 ?_
      refine lv_aload_n hx hb dX11_reckon_93 rfl (lv_at hl 0 rfl) ?_
      refine fr_geti C hR hk5 Fg_RX11_287 rfl dX11_reckon_94 ?_
      refine lv_aload_n hx hb dX11_reckon_97 rfl (lv_at hl 0 rfl) ?_
      refine fr_geti C hR hk5 Fg_RX11_301 rfl dX11_reckon_98 ?_
      refine lv_aload_n hx hb dX11_reckon_101 rfl (lv_at hl 0 rfl) ?_
      refine fr_geti C hR hk5 Fg_RX11_380 rfl dX11_reckon_102 ?_
      obtain ⟨hk22, hsp⟩ := fr_ck hsp
      obtain ⟨h23, E24, hsp⟩ := fr_b1 hsp
      refine fq_callV (rest := []) (st1 := []) C hR (k_X5_startSingle C.2.2 hk22 E24) Y_X5_startSingle YV_X5_startSingle Lk_RX11_276 hk22 ⟨_, _, rfl, by decide⟩ rfl hl.1 ⟨Nat.le_of_ble_eq_true rfl, Nat.le_of_ble_eq_true rfl⟩ rfl (Nat.le_of_ble_eq_true rfl) ⟨Nat.zero_le _, Nat.zero_le _⟩ rfl dX11_reckon_105 (fun H locs hR => ?_)
      refine lv_aload_n hx hb dX11_reckon_108 rfl (lv_at hl 1 rfl) ?_
      obtain ⟨j25, hv26, hsp⟩ := fr_b1 hsp
      refine fr_getr C hR ha Fg_RX11_32 rfl hv26 dX11_reckon_109 ?_
      refine lv_aload_n hx hb dX11_reckon_112 rfl (lv_at hl 2 rfl) ?_
      refine lv_bipush (v := 60) hx hb dX11_reckon_113 (by decide) ?_
      obtain ⟨hk27, hsp⟩ := fr_ck hsp
      obtain ⟨h28, E29, hsp⟩ := fr_b1 hsp
      refine fq_callV (rest := []) (st1 := []) C hR (k_X5_run C.2.2 hk27 k_x1 E29) Y_X5_run YV_X5_run Lk_RX11_383 hk27 ⟨_, _, rfl, by decide⟩ rfl hl.1 ⟨Nat.le_of_ble_eq_true rfl, Nat.le_of_ble_eq_true rfl⟩ rfl (Nat.le_of_ble_eq_true rfl) ⟨Nat.zero_le _, Nat.zero_le _⟩ rfl dX11_reckon_115 (fun H locs hR => ?_)
      refine lv_goto (tgt := 158) hx hb dX11_reckon_118 (by decide) ?_
      exact fr_vret C hr hlocks hR (fr_s1 hsp) dX11_reckon_158
    · have hsp := fr_nnS hsp
      refine W.eq (g2 := F0 m 89 ls [.ref (g.2.2 j21), .ref (g.2.2 j17)]) rfl ?_
      refine lv_aload_n hx hb dX11_reckon_89 rfl (lv_at hl 0 rfl) ?_
      refine fr_geti C hR hk5 Fg_RX11_298 rfl dX11_reckon_90 ?_
      refine lv_aload_n hx hb dX11_reckon_93 rfl (lv_at hl 0 rfl) ?_
      refine fr_geti C hR hk5 Fg_RX11_287 rfl dX11_reckon_94 ?_
      refine lv_aload_n hx hb dX11_reckon_97 rfl (lv_at hl 0 rfl) ?_
      refine fr_geti C hR hk5 Fg_RX11_301 rfl dX11_reckon_98 ?_
      refine lv_aload_n hx hb dX11_reckon_101 rfl (lv_at hl 0 rfl) ?_
      refine fr_geti C hR hk5 Fg_RX11_380 rfl dX11_reckon_102 ?_
      obtain ⟨hk30, hsp⟩ := fr_ck hsp
      obtain ⟨h31, E32, hsp⟩ := fr_b1 hsp
      refine fq_callV (rest := []) (st1 := []) C hR (k_X5_startSingle C.2.2 hk30 E32) Y_X5_startSingle YV_X5_startSingle Lk_RX11_276 hk30 ⟨_, _, rfl, by decide⟩ rfl hl.1 ⟨Nat.le_of_ble_eq_true rfl, Nat.le_of_ble_eq_true rfl⟩ rfl (Nat.le_of_ble_eq_true rfl) ⟨Nat.zero_le _, Nat.zero_le _⟩ rfl dX11_reckon_105 (fun H locs hR => ?_)
      refine lv_aload_n hx hb dX11_reckon_108 rfl (lv_at hl 1 rfl) ?_
      obtain ⟨j33, hv34, hsp⟩ := fr_b1 hsp
      refine fr_getr C hR ha Fg_RX11_32 rfl hv34 dX11_reckon_109 ?_
      refine lv_aload_n hx hb dX11_reckon_112 rfl (lv_at hl 2 rfl) ?_
      refine lv_bipush (v := 60) hx hb dX11_reckon_113 (by decide) ?_
      obtain ⟨hk35, hsp⟩ := fr_ck hsp
      obtain ⟨h36, E37, hsp⟩ := fr_b1 hsp
      refine fq_callV (rest := []) (st1 := []) C hR (k_X5_run C.2.2 hk35 k_x1 E37) Y_X5_run YV_X5_run Lk_RX11_383 hk35 ⟨_, _, rfl, by decide⟩ rfl hl.1 ⟨Nat.le_of_ble_eq_true rfl, Nat.le_of_ble_eq_true rfl⟩ rfl (Nat.le_of_ble_eq_true rfl) ⟨Nat.zero_le _, Nat.zero_le _⟩ rfl dX11_reckon_115 (fun H locs hR => ?_)
      refine lv_goto (tgt := 158) hx hb dX11_reckon_118 (by decide) ?_
      exact fr_vret C hr hlocks hR (fr_s1 hsp) dX11_reckon_158
  rw [if_neg c16] at hsp
  refine lv_tableOut (tgt := 121) hx hb dX11_reckon_13 (fr_tout 0 4 (fun j hj => by match j, hj with | 0, _ => exact c7 | 1, _ => exact c10 | 2, _ => exact c13 | 3, _ => exact c16 | (k + 4), hk => omega) (by decide) (by decide)) (by decide) ?_
  refine lv_aload_n hx hb dX11_reckon_121 rfl (lv_at hl 1 rfl) ?_
  obtain ⟨j38, hv39, hsp⟩ := fr_b1 hsp
  refine fr_getr C hR ha Fg_RX11_32 rfl hv39 dX11_reckon_122 ?_
  refine lv_aload_n hx hb dX11_reckon_125 rfl (lv_at hl 0 rfl) ?_
  refine fr_geti C hR hk5 Fg_RX11_298 rfl dX11_reckon_126 ?_
  refine lv_aload_n hx hb dX11_reckon_129 rfl (lv_at hl 1 rfl) ?_
  refine lv_aload_n hx hb dX11_reckon_130 rfl (lv_at hl 0 rfl) ?_
  refine fr_geti C hR hk5 Fg_RX11_377 rfl dX11_reckon_131 ?_
  obtain ⟨r40, E41, hsp⟩ := fr_b1 hsp
  refine fq_callV (rest := [.int (h3.1 j1 3), .ref (g.2.2 j38)]) (st1 := [va_rf (Option.map g.2.2 r40), .int (h3.1 j1 3), .ref (g.2.2 j38)]) C hR (k_X11_find C.2.2 ha E41) Y_X11_find YV_X11_find Lk_RX11_87 ha ⟨_, _, rfl, by decide⟩ rfl hl.1 ⟨Nat.le_of_ble_eq_true rfl, Nat.le_of_ble_eq_true rfl⟩ rfl (Nat.le_of_ble_eq_true rfl) ⟨Nat.zero_le _, Nat.zero_le _⟩ rfl dX11_reckon_134 (fun H locs hR => ?_)
  rcases r40 with _ | j42
  · have hsp := fr_nnN hsp
    refine W.eq (g2 := F0 m 137 ls [.null, .int (h3.1 j1 3), .ref (g.2.2 j38)]) rfl ?_
    refine lv_aload_n hx hb dX11_reckon_137 rfl (lv_at hl 1 rfl) ?_
    refine lv_aload_n hx hb dX11_reckon_138 rfl (lv_at hl 0 rfl) ?_
    refine fr_geti C hR hk5 Fg_RX11_386 rfl dX11_reckon_139 ?_
    obtain ⟨r43, E44, hsp⟩ := fr_b1 hsp
    refine fq_callV (rest := [.null, .int (h3.1 j1 3), .ref (g.2.2 j38)]) (st1 := [va_rf (Option.map g.2.2 r43), .null, .int (h3.1 j1 3), .ref (g.2.2 j38)]) C hR (k_X11_find C.2.2 ha E44) Y_X11_find YV_X11_find Lk_RX11_87 ha ⟨_, _, rfl, by decide⟩ rfl hl.1 ⟨Nat.le_of_ble_eq_true rfl, Nat.le_of_ble_eq_true rfl⟩ rfl (Nat.le_of_ble_eq_true rfl) ⟨Nat.zero_le _, Nat.zero_le _⟩ rfl dX11_reckon_142 (fun H locs hR => ?_)
    rcases r43 with _ | j45
    · have hsp := fr_nnN hsp
      refine W.eq (g2 := F0 m 145 ls [.null, .null, .int (h3.1 j1 3), .ref (g.2.2 j38)]) rfl ?_
      obtain ⟨hk46, hsp⟩ := fr_ck hsp
      obtain ⟨h47, E48, hsp⟩ := fr_b1 hsp
      refine fq_callV (rest := []) (st1 := []) C hR (k_X5_startDouble C.2.2 hk46 E48) Y_X5_startDouble YV_X5_startDouble Lk_RX11_389 hk46 ⟨_, _, rfl, by decide⟩ rfl hl.1 ⟨Nat.le_of_ble_eq_true rfl, Nat.le_of_ble_eq_true rfl⟩ rfl (Nat.le_of_ble_eq_true rfl) ⟨Nat.zero_le _, Nat.zero_le _⟩ rfl dX11_reckon_145 (fun H locs hR => ?_)
      refine lv_aload_n hx hb dX11_reckon_148 rfl (lv_at hl 1 rfl) ?_
      obtain ⟨j49, hv50, hsp⟩ := fr_b1 hsp
      refine fr_getr C hR ha Fg_RX11_32 rfl hv50 dX11_reckon_149 ?_
      refine lv_aload_n hx hb dX11_reckon_152 rfl (lv_at hl 2 rfl) ?_
      refine lv_bipush (v := 60) hx hb dX11_reckon_153 (by decide) ?_
      obtain ⟨hk51, hsp⟩ := fr_ck hsp
      obtain ⟨h52, E53, hsp⟩ := fr_b1 hsp
      refine fq_callV (rest := []) (st1 := []) C hR (k_X5_run C.2.2 hk51 k_x1 E53) Y_X5_run YV_X5_run Lk_RX11_383 hk51 ⟨_, _, rfl, by decide⟩ rfl hl.1 ⟨Nat.le_of_ble_eq_true rfl, Nat.le_of_ble_eq_true rfl⟩ rfl (Nat.le_of_ble_eq_true rfl) ⟨Nat.zero_le _, Nat.zero_le _⟩ rfl dX11_reckon_155 (fun H locs hR => ?_)
      exact fr_vret C hr hlocks hR (fr_s1 hsp) dX11_reckon_158
    · have hsp := fr_nnS hsp
      refine W.eq (g2 := F0 m 145 ls [.ref (g.2.2 j45), .null, .int (h3.1 j1 3), .ref (g.2.2 j38)]) rfl ?_
      obtain ⟨hk54, hsp⟩ := fr_ck hsp
      obtain ⟨h55, E56, hsp⟩ := fr_b1 hsp
      refine fq_callV (rest := []) (st1 := []) C hR (k_X5_startDouble C.2.2 hk54 E56) Y_X5_startDouble YV_X5_startDouble Lk_RX11_389 hk54 ⟨_, _, rfl, by decide⟩ rfl hl.1 ⟨Nat.le_of_ble_eq_true rfl, Nat.le_of_ble_eq_true rfl⟩ rfl (Nat.le_of_ble_eq_true rfl) ⟨Nat.zero_le _, Nat.zero_le _⟩ rfl dX11_reckon_145 (fun H locs hR => ?_)
      refine lv_aload_n hx hb dX11_reckon_148 rfl (lv_at hl 1 rfl) ?_
      obtain ⟨j57, hv58, hsp⟩ := fr_b1 hsp
      refine fr_getr C hR ha Fg_RX11_32 rfl hv58 dX11_reckon_149 ?_
      refine lv_aload_n hx hb dX11_reckon_152 rfl (lv_at hl 2 rfl) ?_
      refine lv_bipush (v := 60) hx hb dX11_reckon_153 (by decide) ?_
      obtain ⟨hk59, hsp⟩ := fr_ck hsp
      obtain ⟨h60, E61, hsp⟩ := fr_b1 hsp
      refine fq_callV (rest := []) (st1 := []) C hR (k_X5_run C.2.2 hk59 k_x1 E61) Y_X5_run YV_X5_run Lk_RX11_383 hk59 ⟨_, _, rfl, by decide⟩ rfl hl.1 ⟨Nat.le_of_ble_eq_true rfl, Nat.le_of_ble_eq_true rfl⟩ rfl (Nat.le_of_ble_eq_true rfl) ⟨Nat.zero_le _, Nat.zero_le _⟩ rfl dX11_reckon_155 (fun H locs hR => ?_)
      exact fr_vret C hr hlocks hR (fr_s1 hsp) dX11_reckon_158
  · have hsp := fr_nnS hsp
    refine W.eq (g2 := F0 m 137 ls [.ref (g.2.2 j42), .int (h3.1 j1 3), .ref (g.2.2 j38)]) rfl ?_
    refine lv_aload_n hx hb dX11_reckon_137 rfl (lv_at hl 1 rfl) ?_
    refine lv_aload_n hx hb dX11_reckon_138 rfl (lv_at hl 0 rfl) ?_
    refine fr_geti C hR hk5 Fg_RX11_386 rfl dX11_reckon_139 ?_
    obtain ⟨r62, E63, hsp⟩ := fr_b1 hsp
    refine fq_callV (rest := [.ref (g.2.2 j42), .int (h3.1 j1 3), .ref (g.2.2 j38)]) (st1 := [va_rf (Option.map g.2.2 r62), .ref (g.2.2 j42), .int (h3.1 j1 3), .ref (g.2.2 j38)]) C hR (k_X11_find C.2.2 ha E63) Y_X11_find YV_X11_find Lk_RX11_87 ha ⟨_, _, rfl, by decide⟩ rfl hl.1 ⟨Nat.le_of_ble_eq_true rfl, Nat.le_of_ble_eq_true rfl⟩ rfl (Nat.le_of_ble_eq_true rfl) ⟨Nat.zero_le _, Nat.zero_le _⟩ rfl dX11_reckon_142 (fun H locs hR => ?_)
    rcases r62 with _ | j64
    · have hsp := fr_nnN hsp
      refine W.eq (g2 := F0 m 145 ls [.null, .ref (g.2.2 j42), .int (h3.1 j1 3), .ref (g.2.2 j38)]) rfl ?_
      obtain ⟨hk65, hsp⟩ := fr_ck hsp
      obtain ⟨h66, E67, hsp⟩ := fr_b1 hsp
      refine fq_callV (rest := []) (st1 := []) C hR (k_X5_startDouble C.2.2 hk65 E67) Y_X5_startDouble YV_X5_startDouble Lk_RX11_389 hk65 ⟨_, _, rfl, by decide⟩ rfl hl.1 ⟨Nat.le_of_ble_eq_true rfl, Nat.le_of_ble_eq_true rfl⟩ rfl (Nat.le_of_ble_eq_true rfl) ⟨Nat.zero_le _, Nat.zero_le _⟩ rfl dX11_reckon_145 (fun H locs hR => ?_)
      refine lv_aload_n hx hb dX11_reckon_148 rfl (lv_at hl 1 rfl) ?_
      obtain ⟨j68, hv69, hsp⟩ := fr_b1 hsp
      refine fr_getr C hR ha Fg_RX11_32 rfl hv69 dX11_reckon_149 ?_
      refine lv_aload_n hx hb dX11_reckon_152 rfl (lv_at hl 2 rfl) ?_
      refine lv_bipush (v := 60) hx hb dX11_reckon_153 (by decide) ?_
      obtain ⟨hk70, hsp⟩ := fr_ck hsp
      obtain ⟨h71, E72, hsp⟩ := fr_b1 hsp
      refine fq_callV (rest := []) (st1 := []) C hR (k_X5_run C.2.2 hk70 k_x1 E72) Y_X5_run YV_X5_run Lk_RX11_383 hk70 ⟨_, _, rfl, by decide⟩ rfl hl.1 ⟨Nat.le_of_ble_eq_true rfl, Nat.le_of_ble_eq_true rfl⟩ rfl (Nat.le_of_ble_eq_true rfl) ⟨Nat.zero_le _, Nat.zero_le _⟩ rfl dX11_reckon_155 (fun H locs hR => ?_)
      exact fr_vret C hr hlocks hR (fr_s1 hsp) dX11_reckon_158
    · have hsp := fr_nnS hsp
      refine W.eq (g2 := F0 m 145 ls [.ref (g.2.2 j64), .ref (g.2.2 j42), .int (h3.1 j1 3), .ref (g.2.2 j38)]) rfl ?_
      obtain ⟨hk73, hsp⟩ := fr_ck hsp
      obtain ⟨h74, E75, hsp⟩ := fr_b1 hsp
      refine fq_callV (rest := []) (st1 := []) C hR (k_X5_startDouble C.2.2 hk73 E75) Y_X5_startDouble YV_X5_startDouble Lk_RX11_389 hk73 ⟨_, _, rfl, by decide⟩ rfl hl.1 ⟨Nat.le_of_ble_eq_true rfl, Nat.le_of_ble_eq_true rfl⟩ rfl (Nat.le_of_ble_eq_true rfl) ⟨Nat.zero_le _, Nat.zero_le _⟩ rfl dX11_reckon_145 (fun H locs hR => ?_)
      refine lv_aload_n hx hb dX11_reckon_148 rfl (lv_at hl 1 rfl) ?_
      obtain ⟨j76, hv77, hsp⟩ := fr_b1 hsp
      refine fr_getr C hR ha Fg_RX11_32 rfl hv77 dX11_reckon_149 ?_
      refine lv_aload_n hx hb dX11_reckon_152 rfl (lv_at hl 2 rfl) ?_
      refine lv_bipush (v := 60) hx hb dX11_reckon_153 (by decide) ?_
      obtain ⟨hk78, hsp⟩ := fr_ck hsp
      obtain ⟨h79, E80, hsp⟩ := fr_b1 hsp
      refine fq_callV (rest := []) (st1 := []) C hR (k_X5_run C.2.2 hk78 k_x1 E80) Y_X5_run YV_X5_run Lk_RX11_383 hk78 ⟨_, _, rfl, by decide⟩ rfl hl.1 ⟨Nat.le_of_ble_eq_true rfl, Nat.le_of_ble_eq_true rfl⟩ rfl (Nat.le_of_ble_eq_true rfl) ⟨Nat.zero_le _, Nat.zero_le _⟩ rfl dX11_reckon_155 (fun H locs hR => ?_)
      exact fr_vret C hr hlocks hR (fr_s1 hsp) dX11_reckon_158

/-! TermRows.triedTerm(I)I -/
def z_X11_triedTerm (S : fh_S) (h : fh_H) (a : Nat) (x1 : Int32) : Option (Int32 × fh_H) :=
    fh_b1 (h.2.2 a 1) (fun j1 => fh_ck (fh_kq S j1 6) (fh_b1 (z_X6_clear S h j1) (fun h4 => fh_b1 (h4.2.2 a 3) (fun j6 => fh_b1 (h4.2.2 a 1) (fun j8 => fh_ck (fh_kq S j6 5) (fh_ck (fh_kq S j8 6) (fh_b1 (z_X5_run S h4 j6 j8 (x1 + (1 : Int32))) (fun h12 => fh_b1 (h12.2.2 a 1) (fun j14 => fh_ck (fh_kq S j14 6) (fh_b1 (z_X6_knows S h12 j14 x1) (fun r17 => if r17 = 0 then (some ((-1000000000 : Int32), h12)) else (fh_b1 (z_X6_termAt S h12 j14 x1) (fun r20 => some (r20, h12))))))))))))))
set_option maxHeartbeats 4000000 in
set_option maxRecDepth 100000 in
theorem k_X11_triedTerm {l : Launch} {S : fh_S} {g : fh_G} {h h' : fh_H} (hj : fh_inj S g) {a : Nat} {x1 : Int32} {r : Int32} (ha : fh_kq S a 11 = true) (hsp : z_X11_triedTerm S h a x1 = some (r, h')) : fh_M l yX11_triedTerm cX11_triedTerm 2 (some .int) (fh_rm 5) S g [.ref (g.2.2 a), .int x1] h (some (.int r)) h' := by
  unfold z_X11_triedTerm at hsp
  refine fr_head (own := RX11) (by decide) rfl hj (Nat.le_of_ble_eq_true rfl) ?_
  intro p e s m below meth c ls C hr hlocks hR hl
  have hl : lv_has ls 2 [(0, .ref (g.2.2 a)), (1, .int x1)] := hl
  have hx := C.1.1
  have hb := C.1.2.1
  refine lv_aload_n hx hb dX11_triedTerm_0 rfl (lv_at hl 0 rfl) ?_
  obtain ⟨j1, hv2, hsp⟩ := fr_b1 hsp
  refine fr_getr C hR ha Fg_RX11_18 rfl hv2 dX11_triedTerm_1 ?_
  obtain ⟨hk3, hsp⟩ := fr_ck hsp
  obtain ⟨h4, E5, hsp⟩ := fr_b1 hsp
  refine fq_callV (rest := []) (st1 := []) C hR (k_X6_clear C.2.2 hk3 E5) Y_X6_clear YV_X6_clear Lk_RX11_364 hk3 ⟨_, _, rfl, by decide⟩ rfl hl.1 ⟨Nat.le_of_ble_eq_true rfl, Nat.le_of_ble_eq_true rfl⟩ rfl (Nat.le_of_ble_eq_true rfl) ⟨Nat.zero_le _, Nat.zero_le _⟩ rfl dX11_triedTerm_4 (fun H locs hR => ?_)
  refine lv_aload_n hx hb dX11_triedTerm_7 rfl (lv_at hl 0 rfl) ?_
  obtain ⟨j6, hv7, hsp⟩ := fr_b1 hsp
  refine fr_getr C hR ha Fg_RX11_32 rfl hv7 dX11_triedTerm_8 ?_
  refine lv_aload_n hx hb dX11_triedTerm_11 rfl (lv_at hl 0 rfl) ?_
  obtain ⟨j8, hv9, hsp⟩ := fr_b1 hsp
  refine fr_getr C hR ha Fg_RX11_18 rfl hv9 dX11_triedTerm_12 ?_
  refine lv_iload_n hx hb dX11_triedTerm_15 rfl (lv_at hl 1 rfl) ?_
  refine lv_iconst (v := 1) hx hb dX11_triedTerm_16 (by decide) ?_
  refine lv_iadd hx hb dX11_triedTerm_17 ?_
  obtain ⟨hk10, hsp⟩ := fr_ck hsp
  obtain ⟨hk11, hsp⟩ := fr_ck hsp
  obtain ⟨h12, E13, hsp⟩ := fr_b1 hsp
  refine fq_callV (rest := []) (st1 := []) C hR (k_X5_run C.2.2 hk10 hk11 E13) Y_X5_run YV_X5_run Lk_RX11_383 hk10 ⟨_, _, rfl, by decide⟩ rfl hl.1 ⟨Nat.le_of_ble_eq_true rfl, Nat.le_of_ble_eq_true rfl⟩ rfl (Nat.le_of_ble_eq_true rfl) ⟨Nat.zero_le _, Nat.zero_le _⟩ rfl dX11_triedTerm_18 (fun H locs hR => ?_)
  refine lv_aload_n hx hb dX11_triedTerm_21 rfl (lv_at hl 0 rfl) ?_
  obtain ⟨j14, hv15, hsp⟩ := fr_b1 hsp
  refine fr_getr C hR ha Fg_RX11_18 rfl hv15 dX11_triedTerm_22 ?_
  refine lv_iload_n hx hb dX11_triedTerm_25 rfl (lv_at hl 1 rfl) ?_
  obtain ⟨hk16, hsp⟩ := fr_ck hsp
  obtain ⟨r17, E18, hsp⟩ := fr_b1 hsp
  refine fq_callV (rest := []) (st1 := [.int r17]) C hR (k_X6_knows C.2.2 hk16 E18) Y_X6_knows YV_X6_knows Lk_RX11_257 hk16 ⟨_, _, rfl, by decide⟩ rfl hl.1 ⟨Nat.le_of_ble_eq_true rfl, Nat.le_of_ble_eq_true rfl⟩ rfl (Nat.le_of_ble_eq_true rfl) ⟨Nat.zero_le _, Nat.zero_le _⟩ rfl dX11_triedTerm_26 (fun H locs hR => ?_)
  refine lv_if_eq (tgt := 43) hx hb dX11_triedTerm_29 (by decide) (fun c19 => ?_) (fun c19 => ?_)
  · rw [if_pos c19] at hsp
    refine lv_ldcw hx hb C.1.2.2.2.1 (C.1.2.2.2.2 _ Kc_RX11_397) dX11_triedTerm_43 ?_
    obtain ⟨e1, e2⟩ := fr_s2 hsp
    exact fr_iret C hr hlocks hR e1 e2 dX11_triedTerm_46
  · rw [if_neg c19] at hsp
    refine lv_aload_n hx hb dX11_triedTerm_32 rfl (lv_at hl 0 rfl) ?_
    refine fr_getr C hR ha Fg_RX11_18 rfl hv15 dX11_triedTerm_33 ?_
    refine lv_iload_n hx hb dX11_triedTerm_36 rfl (lv_at hl 1 rfl) ?_
    obtain ⟨r20, E21, hsp⟩ := fr_b1 hsp
    refine fq_callV (rest := []) (st1 := [.int r20]) C hR (k_X6_termAt C.2.2 hk16 E21) Y_X6_termAt YV_X6_termAt Lk_RX11_200 hk16 ⟨_, _, rfl, by decide⟩ rfl hl.1 ⟨Nat.le_of_ble_eq_true rfl, Nat.le_of_ble_eq_true rfl⟩ rfl (Nat.le_of_ble_eq_true rfl) ⟨Nat.zero_le _, Nat.zero_le _⟩ rfl dX11_triedTerm_37 (fun H locs hR => ?_)
    refine lv_goto (tgt := 46) hx hb dX11_triedTerm_40 (by decide) ?_
    obtain ⟨e1, e2⟩ := fr_s2 hsp
    exact fr_iret C hr hlocks hR e1 e2 dX11_triedTerm_46
