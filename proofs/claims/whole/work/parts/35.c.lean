/-! TermRows$Question.parseTest(I)J -/
def z_X4_parseTest_b11 (S : fh_S) (a : Nat) (PF : fh_H → Nat → Int32 → Option (Int64 × fh_H)) : Nat → fh_H → Int32 → Int64 → Int64 → Int32 → Option (Int64 × fh_H)
  | 0, _, _, _, _, _ => none
  | n + 1, h, y1, y2, y4, y6 =>
    if (200 : Int32) ≤ y6 then (some (y2, h)) else (fh_b2 (PF h a y1) (fun r2 h3 => fh_let ((y4 &&& r2)) (fun v5 => fh_b1 (h3.2.2 a 0) (fun j6 => fh_ck (fh_kq S j6 10) (fh_b2 (z_X10_take S h3 j6 (261 : Int32)) (fun r9 h10 => if r9 = 0 then (fh_let ((y2 ||| v5)) (fun v13 => fh_let ((h10.2.1 a 2)) (fun v14 => fh_b1 (h10.2.2 a 0) (fun j15 => fh_ck (fh_kq S j15 10) (fh_b2 (z_X10_take S h10 j15 (260 : Int32)) (fun r18 h19 => if r18 = 0 then (some (v13, h19)) else (fh_let (y6 + 1) (fun v22 => z_X4_parseTest_b11 S a PF n h19 y1 v13 v14 v22)))))))) else (fh_let (y6 + 1) (fun v23 => z_X4_parseTest_b11 S a PF n h10 y1 y2 v5 v23))))))))
def z_X4_parseTest (S : fh_S) (PF : fh_H → Nat → Int32 → Option (Int64 × fh_H)) (h : fh_H) (a : Nat) (x1 : Int32) : Option (Int64 × fh_H) :=
    fh_let ((h.2.1 a 2)) (fun v1 => z_X4_parseTest_b11 S a PF 20000 h x1 (0 : Int64) v1 (0 : Int32))
set_option maxHeartbeats 4000000 in
set_option maxRecDepth 100000 in
theorem k_X4_parseTest {l : Launch} {S : fh_S} {g : fh_G} {h h' : fh_H} (hj : fh_inj S g) {d : Nat} {PF : fh_H → Nat → Int32 → Option (Int64 × fh_H)} (hd : 5 ≤ d) (hPF : ∀ {h h' : fh_H} {b : Nat} {w1 : Int32} {r : Int64}, fh_kq S b 4 = true → PF h b w1 = some (r, h') → fh_M l yX4_parseFact cX4_parseFact 5 (some .long) (fh_rm d) S g [.ref (g.2.2 b), .int w1] h (some (.long r)) h') {a : Nat} {x1 : Int32} {r : Int64} (ha : fh_kq S a 4 = true) (hsp : z_X4_parseTest S PF h a x1 = some (r, h')) : fh_M l yX4_parseTest cX4_parseTest 7 (some .long) (fh_rm (d + 1)) S g [.ref (g.2.2 a), .int x1] h (some (.long r)) h' := by
  unfold z_X4_parseTest at hsp
  refine fr_head (own := RX4) (by decide) rfl hj (Nat.le_of_ble_eq_true rfl) ?_
  intro p e s m below meth c ls C hr hlocks hR hl
  have hl : lv_has ls 7 [(0, .ref (g.2.2 a)), (1, .int x1)] := hl
  have hx := C.1.1
  have hb := C.1.2.1
  have hb_11 : ∀ (n : Nat) (h : fh_H) (y1 : Int32) (y2 : Int64) (y4 : Int64) (y6 : Int32) (H : Heap) (locs : List Loc) (ls : Array Slot), z_X4_parseTest_b11 S a PF n h y1 y2 y4 y6 = some (r, h') → fh_R S g s.heap h H locs → lv_has ls 7 [(0, .ref (g.2.2 a)), (1, .int y1), (2, .long y2), (4, .long y4), (6, .int y6)] → fh_Wk p l e (d + 1) s m [.ref (g.2.2 a), .int x1] below meth c S g (some (.long r)) h' H locs (F0 m 11 ls []) := by
    intro n
    induction n with
    | zero => intro h y1 y2 y4 y6 H locs ls hsp; cases hsp
    | succ n ih =>
      intro h y1 y2 y4 y6 H locs ls hsp hR hl
      rw [z_X4_parseTest_b11] at hsp
      refine lv_iload hx hb dX4_parseTest_11 (lv_at hl 4 rfl) ?_
      refine lv_sipush (v := 200) hx hb dX4_parseTest_13 (by decide) ?_
      refine lv_icmp_ge (tgt := 78) hx hb dX4_parseTest_16 (by decide) (fun c1 => ?_) (fun c1 => ?_)
      · rw [if_pos c1] at hsp
        refine lv_lload_n hx hb dX4_parseTest_78 rfl (lv_at hl 2 rfl) ?_
        obtain ⟨e1, e2⟩ := fr_s2 hsp
        exact fr_lret C hr hlocks hR e1 e2 dX4_parseTest_79
      · rw [if_neg c1] at hsp
        refine lv_lload hx hb dX4_parseTest_19 (lv_at hl 3 rfl) ?_
        refine lv_aload_n hx hb dX4_parseTest_21 rfl (lv_at hl 0 rfl) ?_
        refine lv_iload_n hx hb dX4_parseTest_22 rfl (lv_at hl 1 rfl) ?_
        obtain ⟨r2, h3, E4, hsp⟩ := fr_b2 hsp
        refine fq_callV (rest := [.long y4]) (st1 := [.long r2, .long y4]) C hR (hPF ha E4) Y_X4_parseFact YV_X4_parseFact Lk_RX4_62 ha ⟨_, _, rfl, by decide⟩ rfl hl.1 ⟨by simp only [fh_rm]; omega, by simp only [fh_rm]; omega⟩ rfl (Nat.le_of_ble_eq_true rfl) ⟨Nat.zero_le _, Nat.zero_le _⟩ rfl dX4_parseTest_23 (fun H locs hR => ?_)
        refine lv_land hx hb dX4_parseTest_26 ?_
        refine lv_topl (fun v5 ev5 => ?_)
        have hsp := fr_let ev5 hsp
        refine lv_lstore (lv' := [(4, .long v5), (0, .ref (g.2.2 a)), (1, .int y1), (2, .long y2), (6, .int y6)]) hx hb dX4_parseTest_27 hl (by decide) rfl (fun ls hl => ?_)
        refine lv_aload_n hx hb dX4_parseTest_29 rfl (lv_at hl 1 rfl) ?_
        obtain ⟨j6, hv7, hsp⟩ := fr_b1 hsp
        refine fr_getr C hR ha Fg_RX4_9 rfl hv7 dX4_parseTest_30 ?_
        refine lv_sipush (v := 261) hx hb dX4_parseTest_33 (by decide) ?_
        obtain ⟨hk8, hsp⟩ := fr_ck hsp
        obtain ⟨r9, h10, E11, hsp⟩ := fr_b2 hsp
        refine fq_callV (rest := []) (st1 := [.int r9]) C hR (k_X10_take C.2.2 hk8 E11) Y_X10_take YV_X10_take Lk_RX4_37 hk8 ⟨_, _, rfl, by decide⟩ rfl hl.1 ⟨by simp only [fh_rm]; omega, by simp only [fh_rm]; omega⟩ rfl (Nat.le_of_ble_eq_true rfl) ⟨Nat.zero_le _, Nat.zero_le _⟩ rfl dX4_parseTest_36 (fun H locs hR => ?_)
        refine lv_if_eq (tgt := 45) hx hb dX4_parseTest_39 (by decide) (fun c12 => ?_) (fun c12 => ?_)
        · rw [if_pos c12] at hsp
          refine lv_lload_n hx hb dX4_parseTest_45 rfl (lv_at hl 3 rfl) ?_
          refine lv_lload hx hb dX4_parseTest_46 (lv_at hl 0 rfl) ?_
          refine lv_lor hx hb dX4_parseTest_48 ?_
          refine lv_topl (fun v13 ev13 => ?_)
          have hsp := fr_let ev13 hsp
          refine lv_lstore_n (lv' := [(2, .long v13), (4, .long v5), (0, .ref (g.2.2 a)), (1, .int y1), (6, .int y6)]) hx hb dX4_parseTest_49 rfl hl (by decide) rfl (fun ls hl => ?_)
          refine lv_aload_n hx hb dX4_parseTest_50 rfl (lv_at hl 2 rfl) ?_
          refine fr_getj C hR ha Fg_RX4_31 rfl dX4_parseTest_51 ?_
          refine lv_topl (fun v14 ev14 => ?_)
          have hsp := fr_let ev14 hsp
          refine lv_lstore (lv' := [(4, .long v14), (2, .long v13), (0, .ref (g.2.2 a)), (1, .int y1), (6, .int y6)]) hx hb dX4_parseTest_54 hl (by decide) rfl (fun ls hl => ?_)
          refine lv_aload_n hx hb dX4_parseTest_56 rfl (lv_at hl 2 rfl) ?_
          obtain ⟨j15, hv16, hsp⟩ := fr_b1 hsp
          refine fr_getr C hR ha Fg_RX4_9 rfl hv16 dX4_parseTest_57 ?_
          refine lv_sipush (v := 260) hx hb dX4_parseTest_60 (by decide) ?_
          obtain ⟨hk17, hsp⟩ := fr_ck hsp
          obtain ⟨r18, h19, E20, hsp⟩ := fr_b2 hsp
          refine fq_callV (rest := []) (st1 := [.int r18]) C hR (k_X10_take C.2.2 hk17 E20) Y_X10_take YV_X10_take Lk_RX4_37 hk17 ⟨_, _, rfl, by decide⟩ rfl hl.1 ⟨by simp only [fh_rm]; omega, by simp only [fh_rm]; omega⟩ rfl (Nat.le_of_ble_eq_true rfl) ⟨Nat.zero_le _, Nat.zero_le _⟩ rfl dX4_parseTest_63 (fun H locs hR => ?_)
          refine lv_if_ne (tgt := 72) hx hb dX4_parseTest_66 (by decide) (fun c21 => ?_) (fun c21 => ?_)
          · rw [if_neg c21] at hsp
            obtain ⟨v22, ev22⟩ : ∃ z : Int32, z = y6 + 1 := ⟨_, rfl⟩
            have hsp := fr_let ev22 hsp
            refine lv_iinc (v := v22) (lv' := [(6, .int v22), (4, .long v14), (2, .long v13), (0, .ref (g.2.2 a)), (1, .int y1)]) hx hb dX4_parseTest_72 hl (k := 4) rfl (by rw [ev22]; rfl) (by decide) rfl (fun ls hl => ?_)
            refine lv_goto (tgt := 11) hx hb dX4_parseTest_75 (by decide) ?_
            exact ih h19 y1 v13 v14 v22 _ _ _ hsp hR (lv_sub hl [3, 4, 2, 1, 0] rfl)
          · rw [if_pos c21] at hsp
            refine lv_goto (tgt := 78) hx hb dX4_parseTest_69 (by decide) ?_
            refine lv_lload_n hx hb dX4_parseTest_78 rfl (lv_at hl 1 rfl) ?_
            obtain ⟨e1, e2⟩ := fr_s2 hsp
            exact fr_lret C hr hlocks hR e1 e2 dX4_parseTest_79
        · rw [if_neg c12] at hsp
          refine lv_goto (tgt := 72) hx hb dX4_parseTest_42 (by decide) ?_
          obtain ⟨v23, ev23⟩ : ∃ z : Int32, z = y6 + 1 := ⟨_, rfl⟩
          have hsp := fr_let ev23 hsp
          refine lv_iinc (v := v23) (lv' := [(6, .int v23), (4, .long v5), (0, .ref (g.2.2 a)), (1, .int y1), (2, .long y2)]) hx hb dX4_parseTest_72 hl (k := 4) rfl (by rw [ev23]; rfl) (by decide) rfl (fun ls hl => ?_)
          refine lv_goto (tgt := 11) hx hb dX4_parseTest_75 (by decide) ?_
          exact ih h10 y1 y2 v5 v23 _ _ _ hsp hR (lv_sub hl [2, 3, 4, 1, 0] rfl)
  refine lv_lconst (v := 0) hx hb dX4_parseTest_0 (by decide) ?_
  refine lv_lstore_n (lv' := [(2, .long (0 : Int64)), (0, .ref (g.2.2 a)), (1, .int x1)]) hx hb dX4_parseTest_1 rfl hl (by decide) rfl (fun ls hl => ?_)
  refine lv_aload_n hx hb dX4_parseTest_2 rfl (lv_at hl 1 rfl) ?_
  refine fr_getj C hR ha Fg_RX4_31 rfl dX4_parseTest_3 ?_
  refine lv_topl (fun v1 ev1 => ?_)
  have hsp := fr_let ev1 hsp
  refine lv_lstore (lv' := [(4, .long v1), (2, .long (0 : Int64)), (0, .ref (g.2.2 a)), (1, .int x1)]) hx hb dX4_parseTest_6 hl (by decide) rfl (fun ls hl => ?_)
  refine lv_iconst (v := 0) hx hb dX4_parseTest_8 (by decide) ?_
  refine lv_istore (lv' := [(6, .int (0 : Int32)), (4, .long v1), (2, .long (0 : Int64)), (0, .ref (g.2.2 a)), (1, .int x1)]) hx hb dX4_parseTest_9 hl (by decide) rfl (fun ls hl => ?_)
  exact hb_11 20000 h x1 (0 : Int64) v1 (0 : Int32) _ _ _ hsp hR (lv_sub hl [3, 4, 2, 1, 0] rfl)

/-! TermRows$Question.parseFact(I)J -/
def z_X4_parseFact_b32 (S : fh_S) (a : Nat) (PF : fh_H → Nat → Int32 → Option (Int64 × fh_H)) (h : fh_H) (y1 : Int32) : Option (Int64 × fh_H) :=
    if y1 < (6 : Int32) then (fh_b1 (h.2.2 a 0) (fun j2 => fh_ck (fh_kq S j2 10) (fh_b2 (z_X10_take S h j2 (262 : Int32)) (fun r5 h6 => if r5 = 0 then (fh_b1 (h6.2.2 a 0) (fun j9 => fh_ck (fh_kq S j9 10) (fh_b1 (z_X10_expect S h6 j9 (123 : Int32)) (fun h12 => fh_b2 (z_X4_parseTest S PF h12 a (y1 + (1 : Int32))) (fun r14 h15 => fh_b1 (h15.2.2 a 0) (fun j17 => fh_ck (fh_kq S j17 10) (fh_b1 (z_X10_expect S h15 j17 (125 : Int32)) (fun h20 => some (r14, h20))))))))) else (fh_b2 (PF h6 a (y1 + (1 : Int32))) (fun r22 h23 => some (((h6.2.1 a 2) &&& (r22 ^^^ (-1 : Int64))), h23))))))) else (fh_b1 (h.2.2 a 0) (fun j25 => fh_ck (fh_kq S j25 10) (fh_b1 (z_X10_fail S h j25 (3 : Int32)) (fun h28 => some ((0 : Int64), h28)))))
def z_X4_parseFact_F (S : fh_S) (PF : fh_H → Nat → Int32 → Option (Int64 × fh_H)) (h : fh_H) (a : Nat) (x1 : Int32) : Option (Int64 × fh_H) :=
    fh_b1 (h.2.2 a 0) (fun j1 => fh_ck (fh_kq S j1 10) (fh_b1 (z_X10_isNext S h j1 (262 : Int32)) (fun r4 => if r4 = 0 then (fh_b1 (z_X10_isNext S h j1 (123 : Int32)) (fun r7 => if r7 = 0 then (fh_b2 (z_X4_parseComparison S h a) (fun r10 h11 => some (r10, h11))) else (z_X4_parseFact_b32 S a PF h x1))) else (z_X4_parseFact_b32 S a PF h x1))))
set_option maxHeartbeats 4000000 in
set_option maxRecDepth 100000 in
theorem k_X4_parseFact_F {l : Launch} {S : fh_S} {g : fh_G} {h h' : fh_H} (hj : fh_inj S g) {d : Nat} {PF : fh_H → Nat → Int32 → Option (Int64 × fh_H)} (hd : 5 ≤ d) (hPF : ∀ {h h' : fh_H} {b : Nat} {w1 : Int32} {r : Int64}, fh_kq S b 4 = true → PF h b w1 = some (r, h') → fh_M l yX4_parseFact cX4_parseFact 5 (some .long) (fh_rm d) S g [.ref (g.2.2 b), .int w1] h (some (.long r)) h') {a : Nat} {x1 : Int32} {r : Int64} (ha : fh_kq S a 4 = true) (hsp : z_X4_parseFact_F S PF h a x1 = some (r, h')) : fh_M l yX4_parseFact cX4_parseFact 5 (some .long) (fh_rm (d + 2)) S g [.ref (g.2.2 a), .int x1] h (some (.long r)) h' := by
  unfold z_X4_parseFact_F at hsp
  refine fr_head (own := RX4) (by decide) rfl hj (Nat.le_of_ble_eq_true rfl) ?_
  intro p e s m below meth c ls C hr hlocks hR hl
  have hl : lv_has ls 5 [(0, .ref (g.2.2 a)), (1, .int x1)] := hl
  have hx := C.1.1
  have hb := C.1.2.1
  have hb_32 : ∀ (h : fh_H) (y1 : Int32) (H : Heap) (locs : List Loc) (ls : Array Slot), z_X4_parseFact_b32 S a PF h y1 = some (r, h') → fh_R S g s.heap h H locs → lv_has ls 5 [(0, .ref (g.2.2 a)), (1, .int y1)] → fh_Wk p l e (d + 2) s m [.ref (g.2.2 a), .int x1] below meth c S g (some (.long r)) h' H locs (F0 m 32 ls []) := by
    intro h y1 H locs ls hsp hR hl
    unfold z_X4_parseFact_b32 at hsp
    refine lv_iload_n hx hb dX4_parseFact_32 rfl (lv_at hl 1 rfl) ?_
    refine lv_bipush (v := 6) hx hb dX4_parseFact_33 (by decide) ?_
    refine lv_icmp_lt (tgt := 48) hx hb dX4_parseFact_35 (by decide) (fun c1 => ?_) (fun c1 => ?_)
    · rw [if_pos c1] at hsp
      refine lv_aload_n hx hb dX4_parseFact_48 rfl (lv_at hl 0 rfl) ?_
      obtain ⟨j2, hv3, hsp⟩ := fr_b1 hsp
      refine fr_getr C hR ha Fg_RX4_9 rfl hv3 dX4_parseFact_49 ?_
      refine lv_sipush (v := 262) hx hb dX4_parseFact_52 (by decide) ?_
      obtain ⟨hk4, hsp⟩ := fr_ck hsp
      obtain ⟨r5, h6, E7, hsp⟩ := fr_b2 hsp
      refine fq_callV (rest := []) (st1 := [.int r5]) C hR (k_X10_take C.2.2 hk4 E7) Y_X10_take YV_X10_take Lk_RX4_37 hk4 ⟨_, _, rfl, by decide⟩ rfl hl.1 ⟨by simp only [fh_rm]; omega, by simp only [fh_rm]; omega⟩ rfl (Nat.le_of_ble_eq_true rfl) ⟨Nat.zero_le _, Nat.zero_le _⟩ rfl dX4_parseFact_55 (fun H locs hR => ?_)
      refine lv_if_eq (tgt := 78) hx hb dX4_parseFact_58 (by decide) (fun c8 => ?_) (fun c8 => ?_)
      · rw [if_pos c8] at hsp
        refine lv_aload_n hx hb dX4_parseFact_78 rfl (lv_at hl 0 rfl) ?_
        obtain ⟨j9, hv10, hsp⟩ := fr_b1 hsp
        refine fr_getr C hR ha Fg_RX4_9 rfl hv10 dX4_parseFact_79 ?_
        refine lv_bipush (v := 123) hx hb dX4_parseFact_82 (by decide) ?_
        obtain ⟨hk11, hsp⟩ := fr_ck hsp
        obtain ⟨h12, E13, hsp⟩ := fr_b1 hsp
        refine fq_callV (rest := []) (st1 := []) C hR (k_X10_expect C.2.2 hk11 E13) Y_X10_expect YV_X10_expect Lk_RX4_41 hk11 ⟨_, _, rfl, by decide⟩ rfl hl.1 ⟨by simp only [fh_rm]; omega, by simp only [fh_rm]; omega⟩ rfl (Nat.le_of_ble_eq_true rfl) ⟨Nat.zero_le _, Nat.zero_le _⟩ rfl dX4_parseFact_84 (fun H locs hR => ?_)
        refine lv_aload_n hx hb dX4_parseFact_87 rfl (lv_at hl 0 rfl) ?_
        refine lv_iload_n hx hb dX4_parseFact_88 rfl (lv_at hl 1 rfl) ?_
        refine lv_iconst (v := 1) hx hb dX4_parseFact_89 (by decide) ?_
        refine lv_iadd hx hb dX4_parseFact_90 ?_
        obtain ⟨r14, h15, E16, hsp⟩ := fr_b2 hsp
        refine fq_callV (rest := []) (st1 := [.long r14]) C hR (k_X4_parseTest C.2.2 hd hPF ha E16) Y_X4_parseTest YV_X4_parseTest Lk_RX4_45 ha ⟨_, _, rfl, by decide⟩ rfl hl.1 ⟨by simp only [fh_rm]; omega, by simp only [fh_rm]; omega⟩ rfl (Nat.le_of_ble_eq_true rfl) ⟨Nat.zero_le _, Nat.zero_le _⟩ rfl dX4_parseFact_91 (fun H locs hR => ?_)
        refine lv_lstore_n (lv' := [(3, .long r14), (0, .ref (g.2.2 a)), (1, .int y1)]) hx hb dX4_parseFact_94 rfl hl (by decide) rfl (fun ls hl => ?_)
        refine lv_aload_n hx hb dX4_parseFact_95 rfl (lv_at hl 1 rfl) ?_
        obtain ⟨j17, hv18, hsp⟩ := fr_b1 hsp
        refine fr_getr C hR ha Fg_RX4_9 rfl hv18 dX4_parseFact_96 ?_
        refine lv_bipush (v := 125) hx hb dX4_parseFact_99 (by decide) ?_
        obtain ⟨hk19, hsp⟩ := fr_ck hsp
        obtain ⟨h20, E21, hsp⟩ := fr_b1 hsp
        refine fq_callV (rest := []) (st1 := []) C hR (k_X10_expect C.2.2 hk19 E21) Y_X10_expect YV_X10_expect Lk_RX4_41 hk19 ⟨_, _, rfl, by decide⟩ rfl hl.1 ⟨by simp only [fh_rm]; omega, by simp only [fh_rm]; omega⟩ rfl (Nat.le_of_ble_eq_true rfl) ⟨Nat.zero_le _, Nat.zero_le _⟩ rfl dX4_parseFact_101 (fun H locs hR => ?_)
        refine lv_lload_n hx hb dX4_parseFact_104 rfl (lv_at hl 0 rfl) ?_
        obtain ⟨e1, e2⟩ := fr_s2 hsp
        exact fr_lret C hr hlocks hR e1 e2 dX4_parseFact_105
      · rw [if_neg c8] at hsp
        refine lv_aload_n hx hb dX4_parseFact_61 rfl (lv_at hl 0 rfl) ?_
        refine fr_getj C hR ha Fg_RX4_31 rfl dX4_parseFact_62 ?_
        refine lv_aload_n hx hb dX4_parseFact_65 rfl (lv_at hl 0 rfl) ?_
        refine lv_iload_n hx hb dX4_parseFact_66 rfl (lv_at hl 1 rfl) ?_
        refine lv_iconst (v := 1) hx hb dX4_parseFact_67 (by decide) ?_
        refine lv_iadd hx hb dX4_parseFact_68 ?_
        obtain ⟨r22, h23, E24, hsp⟩ := fr_b2 hsp
        refine fq_callV (rest := [.long (h6.2.1 a 2)]) (st1 := [.long r22, .long (h6.2.1 a 2)]) C hR (hPF ha E24) Y_X4_parseFact YV_X4_parseFact Lk_RX4_62 ha ⟨_, _, rfl, by decide⟩ rfl hl.1 ⟨by simp only [fh_rm]; omega, by simp only [fh_rm]; omega⟩ rfl (Nat.le_of_ble_eq_true rfl) ⟨Nat.zero_le _, Nat.zero_le _⟩ rfl dX4_parseFact_69 (fun H locs hR => ?_)
        refine lv_ldc2 hx hb C.1.2.2.2.1 (C.1.2.2.2.2 _ Kc_RX4_75) dX4_parseFact_72 ?_
        refine lv_lxor hx hb dX4_parseFact_75 ?_
        refine lv_land hx hb dX4_parseFact_76 ?_
        obtain ⟨e1, e2⟩ := fr_s2 hsp
        exact fr_lret C hr hlocks hR e1 e2 dX4_parseFact_77
    · rw [if_neg c1] at hsp
      refine lv_aload_n hx hb dX4_parseFact_38 rfl (lv_at hl 0 rfl) ?_
      obtain ⟨j25, hv26, hsp⟩ := fr_b1 hsp
      refine fr_getr C hR ha Fg_RX4_9 rfl hv26 dX4_parseFact_39 ?_
      refine lv_iconst (v := 3) hx hb dX4_parseFact_42 (by decide) ?_
      obtain ⟨hk27, hsp⟩ := fr_ck hsp
      obtain ⟨h28, E29, hsp⟩ := fr_b1 hsp
      refine fq_callV (rest := []) (st1 := []) C hR (k_X10_fail C.2.2 hk27 E29) Y_X10_fail YV_X10_fail Lk_RX4_72 hk27 ⟨_, _, rfl, by decide⟩ rfl hl.1 ⟨by simp only [fh_rm]; omega, by simp only [fh_rm]; omega⟩ rfl (Nat.le_of_ble_eq_true rfl) ⟨Nat.zero_le _, Nat.zero_le _⟩ rfl dX4_parseFact_43 (fun H locs hR => ?_)
      refine lv_lconst (v := 0) hx hb dX4_parseFact_46 (by decide) ?_
      obtain ⟨e1, e2⟩ := fr_s2 hsp
      exact fr_lret C hr hlocks hR e1 e2 dX4_parseFact_47
  refine lv_aload_n hx hb dX4_parseFact_0 rfl (lv_at hl 0 rfl) ?_
  obtain ⟨j1, hv2, hsp⟩ := fr_b1 hsp
  refine fr_getr C hR ha Fg_RX4_9 rfl hv2 dX4_parseFact_1 ?_
  refine lv_sipush (v := 262) hx hb dX4_parseFact_4 (by decide) ?_
  obtain ⟨hk3, hsp⟩ := fr_ck hsp
  obtain ⟨r4, E5, hsp⟩ := fr_b1 hsp
  refine fq_callV (rest := []) (st1 := [.int r4]) C hR (k_X10_isNext C.2.2 hk3 E5) Y_X10_isNext YV_X10_isNext Lk_RX4_65 hk3 ⟨_, _, rfl, by decide⟩ rfl hl.1 ⟨by simp only [fh_rm]; omega, by simp only [fh_rm]; omega⟩ rfl (Nat.le_of_ble_eq_true rfl) ⟨Nat.zero_le _, Nat.zero_le _⟩ rfl dX4_parseFact_7 (fun H locs hR => ?_)
  refine lv_istore_n (lv' := [(2, .int r4), (0, .ref (g.2.2 a)), (1, .int x1)]) hx hb dX4_parseFact_10 rfl hl (by decide) rfl (fun ls hl => ?_)
  refine lv_iload_n hx hb dX4_parseFact_11 rfl (lv_at hl 0 rfl) ?_
  refine lv_if_ne (tgt := 32) hx hb dX4_parseFact_12 (by decide) (fun c6 => ?_) (fun c6 => ?_)
  · rw [if_neg c6] at hsp
    exact hb_32 h x1 _ _ _ hsp hR (lv_sub hl [1, 2] rfl)
  · rw [if_pos c6] at hsp
    refine lv_aload_n hx hb dX4_parseFact_15 rfl (lv_at hl 1 rfl) ?_
    refine fr_getr C hR ha Fg_RX4_9 rfl hv2 dX4_parseFact_16 ?_
    refine lv_bipush (v := 123) hx hb dX4_parseFact_19 (by decide) ?_
    obtain ⟨r7, E8, hsp⟩ := fr_b1 hsp
    refine fq_callV (rest := []) (st1 := [.int r7]) C hR (k_X10_isNext C.2.2 hk3 E8) Y_X10_isNext YV_X10_isNext Lk_RX4_65 hk3 ⟨_, _, rfl, by decide⟩ rfl hl.1 ⟨by simp only [fh_rm]; omega, by simp only [fh_rm]; omega⟩ rfl (Nat.le_of_ble_eq_true rfl) ⟨Nat.zero_le _, Nat.zero_le _⟩ rfl dX4_parseFact_21 (fun H locs hR => ?_)
    refine lv_if_ne (tgt := 32) hx hb dX4_parseFact_24 (by decide) (fun c9 => ?_) (fun c9 => ?_)
    · rw [if_neg c9] at hsp
      exact hb_32 h x1 _ _ _ hsp hR (lv_sub hl [1, 2] rfl)
    · rw [if_pos c9] at hsp
      refine lv_aload_n hx hb dX4_parseFact_27 rfl (lv_at hl 1 rfl) ?_
      obtain ⟨r10, h11, E12, hsp⟩ := fr_b2 hsp
      refine fq_callV (rest := []) (st1 := [.long r10]) C hR (k_X4_parseComparison C.2.2 ha E12) Y_X4_parseComparison YV_X4_parseComparison Lk_RX4_68 ha ⟨_, _, rfl, by decide⟩ rfl hl.1 ⟨by simp only [fh_rm]; omega, by simp only [fh_rm]; omega⟩ rfl (Nat.le_of_ble_eq_true rfl) ⟨Nat.zero_le _, Nat.zero_le _⟩ rfl dX4_parseFact_28 (fun H locs hR => ?_)
      obtain ⟨e1, e2⟩ := fr_s2 hsp
      exact fr_lret C hr hlocks hR e1 e2 dX4_parseFact_31
def z_X4_parseFact (S : fh_S) : Nat → fh_H → Nat → Int32 → Option (Int64 × fh_H)
  | 0, _, _, _ => none
  | n + 1, h, a, x1 => z_X4_parseFact_F S (z_X4_parseFact S n) h a x1
theorem k_X4_parseFact {l : Launch} {S : fh_S} {g : fh_G} (hj : fh_inj S g) : ∀ (n : Nat) {h h' : fh_H} {a : Nat} {x1 : Int32} {r : Int64}, fh_kq S a 4 = true → z_X4_parseFact S n h a x1 = some (r, h') → fh_M l yX4_parseFact cX4_parseFact 5 (some .long) (fh_rm (5 + 2 * n)) S g [.ref (g.2.2 a), .int x1] h (some (.long r)) h' := by
  intro n
  induction n with
  | zero => intro h h' a x1 r ha hsp; cases hsp
  | succ n ih =>
    intro h h' a x1 r ha hsp
    rw [z_X4_parseFact] at hsp
    have q := k_X4_parseFact_F hj (d := 5 + 2 * n) (PF := z_X4_parseFact S n) (Nat.le_add_right _ _) (fun ha E => ih ha E) ha hsp
    rw [show 5 + 2 * (n + 1) = 5 + 2 * n + 2 by omega]
    exact q

/-! TermRows$Question.answer(LTermRows$Row;)I -/
def z_X4_answer_b47 (S : fh_S) (a : Nat) (h : fh_H) (y2 : Int32) : Option (Int32 × fh_H) :=
    fh_b2 (z_X4_parseTest S (z_X4_parseFact S 40) h a (0 : Int32)) (fun r1 h2 => fh_b1 (h2.2.2 a 0) (fun j4 => fh_ck (fh_kq S j4 10) (fh_b1 (z_X10_expect S h2 j4 (257 : Int32)) (fun h7 => fh_b1 (h7.2.2 a 0) (fun j9 => fh_ck (fh_kq S j9 10) (if (h7.1 j9 7) = 0 then (if y2 = 0 then (fh_b1 (z_X4_firstPlace r1) (fun r14 => some (r14, h7))) else (fh_b1 (z_J13_bitCount_95d88 r1) (fun r16 => some (r16, h7)))) else (some (((-1000000000 : Int32) - (h7.1 j9 7)), h7))))))))
def z_X4_answer (S : fh_S) (h : fh_H) (a : Nat) (x1 : Nat) : Option (Int32 × fh_H) :=
    fh_let (fh_sR h a 1 (some x1)) (fun h1 => fh_b1 (z_J9_min_7cf53 (h1.1 x1 6) (60 : Int32)) (fun r2 => fh_let (fh_sJ h1 a 2 (((1 : Int64) <<< (Int32.toInt64 r2 &&& 63)) - (1 : Int64))) (fun h4 => fh_b1 (h4.2.2 a 0) (fun j5 => fh_ck (fh_kq S j5 10) (fh_b2 (z_X10_take S h4 j5 (258 : Int32)) (fun r8 h9 => if r8 = 0 then (fh_b1 (h9.2.2 a 0) (fun j12 => fh_ck (fh_kq S j12 10) (fh_b1 (z_X10_expect S h9 j12 (259 : Int32)) (fun h15 => z_X4_answer_b47 S a h15 r8)))) else (z_X4_answer_b47 S a h9 r8)))))))
set_option maxHeartbeats 4000000 in
set_option maxRecDepth 100000 in
theorem k_X4_answer {l : Launch} {S : fh_S} {g : fh_G} {h h' : fh_H} (hj : fh_inj S g) {a : Nat} {x1 : Nat} {r : Int32} (ha : fh_kq S a 4 = true) (k_x1 : fh_kq S x1 6 = true) (hsp : z_X4_answer S h a x1 = some (r, h')) : fh_M l yX4_answer cX4_answer 5 (some .int) (fh_rm 87) S g [.ref (g.2.2 a), .ref (g.2.2 x1)] h (some (.int r)) h' := by
  unfold z_X4_answer at hsp
  refine fr_head (own := RX4) (by decide) rfl hj (Nat.le_of_ble_eq_true rfl) ?_
  intro p e s m below meth c ls C hr hlocks hR hl
  have hl : lv_has ls 5 [(0, .ref (g.2.2 a)), (1, .ref (g.2.2 x1))] := hl
  have hx := C.1.1
  have hb := C.1.2.1
  have hb_47 : ∀ (h : fh_H) (y2 : Int32) (H : Heap) (locs : List Loc) (ls : Array Slot), z_X4_answer_b47 S a h y2 = some (r, h') → fh_R S g s.heap h H locs → lv_has ls 5 [(0, .ref (g.2.2 a)), (2, .int y2)] → fh_Wk p l e 87 s m [.ref (g.2.2 a), .ref (g.2.2 x1)] below meth c S g (some (.int r)) h' H locs (F0 m 47 ls []) := by
    intro h y2 H locs ls hsp hR hl
    unfold z_X4_answer_b47 at hsp
    refine lv_aload_n hx hb dX4_answer_47 rfl (lv_at hl 0 rfl) ?_
    refine lv_iconst (v := 0) hx hb dX4_answer_48 (by decide) ?_
    obtain ⟨r1, h2, E3, hsp⟩ := fr_b2 hsp
    refine fq_callV (rest := []) (st1 := [.long r1]) C hR (k_X4_parseTest C.2.2 (Nat.le_add_right 5 (2 * 40)) (fun ha E => k_X4_parseFact C.2.2 40 ha E) ha E3) Y_X4_parseTest YV_X4_parseTest Lk_RX4_45 ha ⟨_, _, rfl, by decide⟩ rfl hl.1 ⟨Nat.le_of_ble_eq_true rfl, Nat.le_of_ble_eq_true rfl⟩ rfl (Nat.le_of_ble_eq_true rfl) ⟨Nat.zero_le _, Nat.zero_le _⟩ rfl dX4_answer_49 (fun H locs hR => ?_)
    refine lv_lstore_n (lv' := [(3, .long r1), (0, .ref (g.2.2 a)), (2, .int y2)]) hx hb dX4_answer_52 rfl hl (by decide) rfl (fun ls hl => ?_)
    refine lv_aload_n hx hb dX4_answer_53 rfl (lv_at hl 1 rfl) ?_
    obtain ⟨j4, hv5, hsp⟩ := fr_b1 hsp
    refine fr_getr C hR ha Fg_RX4_9 rfl hv5 dX4_answer_54 ?_
    refine lv_sipush (v := 257) hx hb dX4_answer_57 (by decide) ?_
    obtain ⟨hk6, hsp⟩ := fr_ck hsp
    obtain ⟨h7, E8, hsp⟩ := fr_b1 hsp
    refine fq_callV (rest := []) (st1 := []) C hR (k_X10_expect C.2.2 hk6 E8) Y_X10_expect YV_X10_expect Lk_RX4_41 hk6 ⟨_, _, rfl, by decide⟩ rfl hl.1 ⟨Nat.le_of_ble_eq_true rfl, Nat.le_of_ble_eq_true rfl⟩ rfl (Nat.le_of_ble_eq_true rfl) ⟨Nat.zero_le _, Nat.zero_le _⟩ rfl dX4_answer_60 (fun H locs hR => ?_)
    refine lv_aload_n hx hb dX4_answer_63 rfl (lv_at hl 1 rfl) ?_
    obtain ⟨j9, hv10, hsp⟩ := fr_b1 hsp
    refine fr_getr C hR ha Fg_RX4_9 rfl hv10 dX4_answer_64 ?_
    obtain ⟨hk11, hsp⟩ := fr_ck hsp
    refine fr_geti C hR hk11 Fg_RX4_49 rfl dX4_answer_67 ?_
    refine lv_if_eq (tgt := 84) hx hb dX4_answer_70 (by decide) (fun c12 => ?_) (fun c12 => ?_)
    · rw [if_pos c12] at hsp
      refine lv_iload_n hx hb dX4_answer_84 rfl (lv_at hl 2 rfl) ?_
      refine lv_if_eq (tgt := 95) hx hb dX4_answer_85 (by decide) (fun c13 => ?_) (fun c13 => ?_)
      · rw [if_pos c13] at hsp
        refine lv_lload_n hx hb dX4_answer_95 rfl (lv_at hl 0 rfl) ?_
        obtain ⟨r14, E15, hsp⟩ := fr_b1 hsp
        refine fq_callS (rest := []) (st1 := [.int r14]) C hR (k_X4_firstPlace C.2.2 E15) Y_X4_firstPlace YS_X4_firstPlace Lk_RX4_59 rfl hl.1 ⟨Nat.le_of_ble_eq_true rfl, Nat.le_of_ble_eq_true rfl⟩ rfl (Nat.le_of_ble_eq_true rfl) ⟨Nat.zero_le _, Nat.zero_le _⟩ rfl dX4_answer_96 (fun H locs hR => ?_)
        obtain ⟨e1, e2⟩ := fr_s2 hsp
        exact fr_iret C hr hlocks hR e1 e2 dX4_answer_99
      · rw [if_neg c13] at hsp
        refine lv_lload_n hx hb dX4_answer_88 rfl (lv_at hl 0 rfl) ?_
        obtain ⟨r16, E17, hsp⟩ := fr_b1 hsp
        refine fq_callS (rest := []) (st1 := [.int r16]) C hR (k_J13_bitCount_95d88 C.2.2 E17) Y_J13_bitCount_95d88 YS_J13_bitCount_95d88 Lk_RX4_53 rfl hl.1 ⟨Nat.le_of_ble_eq_true rfl, Nat.le_of_ble_eq_true rfl⟩ rfl (Nat.le_of_ble_eq_true rfl) ⟨Nat.zero_le _, Nat.zero_le _⟩ rfl dX4_answer_89 (fun H locs hR => ?_)
        refine lv_goto (tgt := 99) hx hb dX4_answer_92 (by decide) ?_
        obtain ⟨e1, e2⟩ := fr_s2 hsp
        exact fr_iret C hr hlocks hR e1 e2 dX4_answer_99
    · rw [if_neg c12] at hsp
      refine lv_ldc hx hb C.1.2.2.2.1 (C.1.2.2.2.2 _ Kc_RX4_52) dX4_answer_73 ?_
      refine lv_aload_n hx hb dX4_answer_75 rfl (lv_at hl 1 rfl) ?_
      refine fr_getr C hR ha Fg_RX4_9 rfl hv10 dX4_answer_76 ?_
      refine fr_geti C hR hk11 Fg_RX4_49 rfl dX4_answer_79 ?_
      refine lv_isub hx hb dX4_answer_82 ?_
      obtain ⟨e1, e2⟩ := fr_s2 hsp
      exact fr_iret C hr hlocks hR e1 e2 dX4_answer_83
  refine lv_aload_n hx hb dX4_answer_0 rfl (lv_at hl 0 rfl) ?_
  refine lv_aload_n hx hb dX4_answer_1 rfl (lv_at hl 1 rfl) ?_
  refine fr_putr C hR ha Fp_RX4_15 rfl rfl rfl dX4_answer_2 (fun H locs hR => ?_)
  obtain ⟨h1, eh1⟩ : ∃ z, z = fh_sR h a 1 (some x1) := ⟨_, rfl⟩
  rw [← eh1] at hR
  have hsp := fr_let eh1 hsp
  refine lv_aload_n hx hb dX4_answer_5 rfl (lv_at hl 0 rfl) ?_
  refine lv_lconst (v := 1) hx hb dX4_answer_6 (by decide) ?_
  refine lv_aload_n hx hb dX4_answer_7 rfl (lv_at hl 1 rfl) ?_
  refine fr_geti C hR k_x1 Fg_RX4_19 rfl dX4_answer_8 ?_
  refine lv_bipush (v := 60) hx hb dX4_answer_11 (by decide) ?_
  obtain ⟨r2, E3, hsp⟩ := fr_b1 hsp
  refine fq_callS (rest := [.long (1 : Int64), .ref (g.2.2 a)]) (st1 := [.int r2, .long (1 : Int64), .ref (g.2.2 a)]) C hR (k_J9_min_7cf53 C.2.2 E3) Y_J9_min_7cf53 YS_J9_min_7cf53 Lk_RX4_25 rfl hl.1 ⟨Nat.le_of_ble_eq_true rfl, Nat.le_of_ble_eq_true rfl⟩ rfl (Nat.le_of_ble_eq_true rfl) ⟨Nat.zero_le _, Nat.zero_le _⟩ rfl dX4_answer_13 (fun H locs hR => ?_)
  refine lv_lshl hx hb dX4_answer_16 rfl ?_
  refine lv_lconst (v := 1) hx hb dX4_answer_17 (by decide) ?_
  refine lv_lsub hx hb dX4_answer_18 ?_
  refine fr_putj C hR ha Fp_RX4_31 rfl dX4_answer_19 (fun H locs hR => ?_)
  obtain ⟨h4, eh4⟩ : ∃ z, z = fh_sJ h1 a 2 (((1 : Int64) <<< (Int32.toInt64 r2 &&& 63)) - (1 : Int64)) := ⟨_, rfl⟩
  rw [← eh4] at hR
  have hsp := fr_let eh4 hsp
  refine lv_aload_n hx hb dX4_answer_22 rfl (lv_at hl 0 rfl) ?_
  obtain ⟨j5, hv6, hsp⟩ := fr_b1 hsp
  refine fr_getr C hR ha Fg_RX4_9 rfl hv6 dX4_answer_23 ?_
  refine lv_sipush (v := 258) hx hb dX4_answer_26 (by decide) ?_
  obtain ⟨hk7, hsp⟩ := fr_ck hsp
  obtain ⟨r8, h9, E10, hsp⟩ := fr_b2 hsp
  refine fq_callV (rest := []) (st1 := [.int r8]) C hR (k_X10_take C.2.2 hk7 E10) Y_X10_take YV_X10_take Lk_RX4_37 hk7 ⟨_, _, rfl, by decide⟩ rfl hl.1 ⟨Nat.le_of_ble_eq_true rfl, Nat.le_of_ble_eq_true rfl⟩ rfl (Nat.le_of_ble_eq_true rfl) ⟨Nat.zero_le _, Nat.zero_le _⟩ rfl dX4_answer_29 (fun H locs hR => ?_)
  refine lv_istore_n (lv' := [(2, .int r8), (0, .ref (g.2.2 a)), (1, .ref (g.2.2 x1))]) hx hb dX4_answer_32 rfl hl (by decide) rfl (fun ls hl => ?_)
  refine lv_iload_n hx hb dX4_answer_33 rfl (lv_at hl 0 rfl) ?_
  refine lv_if_ne (tgt := 47) hx hb dX4_answer_34 (by decide) (fun c11 => ?_) (fun c11 => ?_)
  · rw [if_neg c11] at hsp
    exact hb_47 h9 r8 _ _ _ hsp hR (lv_sub hl [1, 0] rfl)
  · rw [if_pos c11] at hsp
    refine lv_aload_n hx hb dX4_answer_37 rfl (lv_at hl 1 rfl) ?_
    obtain ⟨j12, hv13, hsp⟩ := fr_b1 hsp
    refine fr_getr C hR ha Fg_RX4_9 rfl hv13 dX4_answer_38 ?_
    refine lv_sipush (v := 259) hx hb dX4_answer_41 (by decide) ?_
    obtain ⟨hk14, hsp⟩ := fr_ck hsp
    obtain ⟨h15, E16, hsp⟩ := fr_b1 hsp
    refine fq_callV (rest := []) (st1 := []) C hR (k_X10_expect C.2.2 hk14 E16) Y_X10_expect YV_X10_expect Lk_RX4_41 hk14 ⟨_, _, rfl, by decide⟩ rfl hl.1 ⟨Nat.le_of_ble_eq_true rfl, Nat.le_of_ble_eq_true rfl⟩ rfl (Nat.le_of_ble_eq_true rfl) ⟨Nat.zero_le _, Nat.zero_le _⟩ rfl dX4_answer_44 (fun H locs hR => ?_)
    exact hb_47 h15 r8 _ _ _ hsp hR (lv_sub hl [1, 0] rfl)
