/-! TermRowsModel.writesSign(I)V -/
def z_X12_writesSign (S : fh_S) (h : fh_H) (a : Nat) (x1 : Int32) : Option fh_H :=
    if x1 ≤ 0 then (some h) else (if x1 = (1 : Int32) then (fh_b1 (z_X12_writes S h a (59 : Int32)) (fun h5 => some h5)) else (fh_b1 (z_X12_writes S h a (44 : Int32)) (fun h3 => some h3)))
set_option maxHeartbeats 4000000 in
set_option maxRecDepth 100000 in
theorem k_X12_writesSign {l : Launch} {S : fh_S} {g : fh_G} {h h' : fh_H} (hj : fh_inj S g) {a : Nat} {x1 : Int32} (ha : fh_kq S a 12 = true) (hsp : z_X12_writesSign S h a x1 = some h') : fh_M l yX12_writesSign cX12_writesSign 2 none (fh_rm 2) S g [.ref (g.2.2 a), .int x1] h none h' := by
  unfold z_X12_writesSign at hsp
  refine fr_head (own := RX12) (by decide) rfl hj (Nat.le_of_ble_eq_true rfl) ?_
  intro p e s m below meth c ls C hr hlocks hR hl
  have hl : lv_has ls 2 [(0, .ref (g.2.2 a)), (1, .int x1)] := hl
  have hx := C.1.1
  have hb := C.1.2.1
  refine lv_iload_n hx hb dX12_writesSign_0 rfl (lv_at hl 1 rfl) ?_
  refine lv_if_le (tgt := 20) hx hb dX12_writesSign_1 (by decide) (fun c1 => ?_) (fun c1 => ?_)
  · rw [if_pos c1] at hsp
    exact fr_vret C hr hlocks hR (fr_s1 hsp) dX12_writesSign_20
  · rw [if_neg c1] at hsp
    refine lv_aload_n hx hb dX12_writesSign_4 rfl (lv_at hl 0 rfl) ?_
    refine lv_iload_n hx hb dX12_writesSign_5 rfl (lv_at hl 1 rfl) ?_
    refine lv_iconst (v := 1) hx hb dX12_writesSign_6 (by decide) ?_
    refine lv_icmp_ne (tgt := 15) hx hb dX12_writesSign_7 (by decide) (fun c2 => ?_) (fun c2 => ?_)
    · rw [if_neg c2] at hsp
      refine lv_bipush (v := 44) hx hb dX12_writesSign_15 (by decide) ?_
      obtain ⟨h3, E4, hsp⟩ := fr_b1 hsp
      refine fq_callV (rest := []) (st1 := []) C hR (k_X12_writes C.2.2 ha E4) Y_X12_writes YV_X12_writes Lk_RX12_364 ha ⟨_, _, rfl, by decide⟩ rfl hl.1 ⟨Nat.le_of_ble_eq_true rfl, Nat.le_of_ble_eq_true rfl⟩ rfl (Nat.le_of_ble_eq_true rfl) ⟨Nat.zero_le _, Nat.zero_le _⟩ rfl dX12_writesSign_17 (fun H locs hR => ?_)
      exact fr_vret C hr hlocks hR (fr_s1 hsp) dX12_writesSign_20
    · rw [if_pos c2] at hsp
      refine lv_bipush (v := 59) hx hb dX12_writesSign_10 (by decide) ?_
      refine lv_goto (tgt := 17) hx hb dX12_writesSign_12 (by decide) ?_
      obtain ⟨h5, E6, hsp⟩ := fr_b1 hsp
      refine fq_callV (rest := []) (st1 := []) C hR (k_X12_writes C.2.2 ha E6) Y_X12_writes YV_X12_writes Lk_RX12_364 ha ⟨_, _, rfl, by decide⟩ rfl hl.1 ⟨Nat.le_of_ble_eq_true rfl, Nat.le_of_ble_eq_true rfl⟩ rfl (Nat.le_of_ble_eq_true rfl) ⟨Nat.zero_le _, Nat.zero_le _⟩ rfl dX12_writesSign_17 (fun H locs hR => ?_)
      exact fr_vret C hr hlocks hR (fr_s1 hsp) dX12_writesSign_20

/-! TermRowsModel.said(I)I -/
def z_X12_said (S : fh_S) (h : fh_H) (a : Nat) (x1 : Int32) : Option (Int32 × fh_H) :=
    fh_let (fh_sI h a 3 (0 : Int32)) (fun h1 => fh_b1 (z_X12_isIn (Int32.toInt64 x1) (0 : Int64) (Int32.toInt64 ((h1.1 a 32) - (1 : Int32)))) (fun r2 => if r2 = 0 then (some ((-1 : Int32), h1)) else (fh_b1 (h1.2.2 a 31) (fun j5 => fh_ck (fh_kq S j5 13) (fh_ck (fh_in x1 (S.2.2 j5)) (some ((h1.1 j5 (Int32.toNatClampNeg x1)), h1)))))))
set_option maxHeartbeats 4000000 in
set_option maxRecDepth 100000 in
theorem k_X12_said {l : Launch} {S : fh_S} {g : fh_G} {h h' : fh_H} (hj : fh_inj S g) {a : Nat} {x1 : Int32} {r : Int32} (ha : fh_kq S a 12 = true) (hsp : z_X12_said S h a x1 = some (r, h')) : fh_M l yX12_said cX12_said 2 (some .int) (fh_rm 2) S g [.ref (g.2.2 a), .int x1] h (some (.int r)) h' := by
  unfold z_X12_said at hsp
  refine fr_head (own := RX12) (by decide) rfl hj (Nat.le_of_ble_eq_true rfl) ?_
  intro p e s m below meth c ls C hr hlocks hR hl
  have hl : lv_has ls 2 [(0, .ref (g.2.2 a)), (1, .int x1)] := hl
  have hx := C.1.1
  have hb := C.1.2.1
  refine lv_aload_n hx hb dX12_said_0 rfl (lv_at hl 0 rfl) ?_
  refine lv_iconst (v := 0) hx hb dX12_said_1 (by decide) ?_
  refine fr_puti C hR ha Fp_RX12_73 rfl dX12_said_2 (fun H locs hR => ?_)
  obtain ⟨h1, eh1⟩ : ∃ z, z = fh_sI h a 3 (0 : Int32) := ⟨_, rfl⟩
  rw [← eh1] at hR
  have hsp := fr_let eh1 hsp
  refine lv_iload_n hx hb dX12_said_5 rfl (lv_at hl 1 rfl) ?_
  refine lv_i2l hx hb dX12_said_6 rfl ?_
  refine lv_lconst (v := 0) hx hb dX12_said_7 (by decide) ?_
  refine lv_aload_n hx hb dX12_said_8 rfl (lv_at hl 0 rfl) ?_
  refine fr_geti C hR ha Fg_RX12_361 rfl dX12_said_9 ?_
  refine lv_iconst (v := 1) hx hb dX12_said_12 (by decide) ?_
  refine lv_isub hx hb dX12_said_13 ?_
  refine lv_i2l hx hb dX12_said_14 rfl ?_
  obtain ⟨r2, E3, hsp⟩ := fr_b1 hsp
  refine fq_callS (rest := []) (st1 := [.int r2]) C hR (k_X12_isIn C.2.2 E3) Y_X12_isIn YS_X12_isIn Lk_RX12_78 rfl hl.1 ⟨Nat.le_of_ble_eq_true rfl, Nat.le_of_ble_eq_true rfl⟩ rfl (Nat.le_of_ble_eq_true rfl) ⟨Nat.zero_le _, Nat.zero_le _⟩ rfl dX12_said_15 (fun H locs hR => ?_)
  refine lv_if_eq (tgt := 30) hx hb dX12_said_18 (by decide) (fun c4 => ?_) (fun c4 => ?_)
  · rw [if_pos c4] at hsp
    refine lv_iconst (v := -1) hx hb dX12_said_30 (by decide) ?_
    obtain ⟨e1, e2⟩ := fr_s2 hsp
    exact fr_iret C hr hlocks hR e1 e2 dX12_said_31
  · rw [if_neg c4] at hsp
    refine lv_aload_n hx hb dX12_said_21 rfl (lv_at hl 0 rfl) ?_
    obtain ⟨j5, hv6, hsp⟩ := fr_b1 hsp
    refine fr_getr C hR ha Fg_RX12_53 rfl hv6 dX12_said_22 ?_
    refine lv_iload_n hx hb dX12_said_25 rfl (lv_at hl 1 rfl) ?_
    obtain ⟨hk7, hsp⟩ := fr_ck hsp
    obtain ⟨hi8, hsp⟩ := fr_ck hsp
    refine fr_iald C hR hk7 hi8 dX12_said_26 ?_
    refine lv_goto (tgt := 31) hx hb dX12_said_27 (by decide) ?_
    obtain ⟨e1, e2⟩ := fr_s2 hsp
    exact fr_iret C hr hlocks hR e1 e2 dX12_said_31

/-! TermRowsModel.step()V -/
def z_X12_step_b118 (S : fh_S) (a : Nat) : Nat → fh_H → Option fh_H
  | 0, _ => none
  | n + 1, h =>
    fh_b1 (z_X12_byteAt S h a (h.1 a 37)) (fun r1 => fh_b1 (z_X12_isFigure r1) (fun r3 => if r3 = 0 then (fh_let (fh_sI h a 38 (2 : Int32)) (fun h6 => fh_let (fh_sI h6 a 40 (h6.1 a 37)) (fun h7 => some h7))) else (fh_let (fh_sI h a 37 ((h.1 a 37) + (1 : Int32))) (fun h8 => z_X12_step_b118 S a n h8))))
def z_X12_step_b76 (S : fh_S) (a : Nat) : Nat → fh_H → Option fh_H
  | 0, _ => none
  | n + 1, h =>
    fh_b1 (z_X12_byteAt S h a (h.1 a 37)) (fun r1 => fh_b1 (z_X12_isSmall r1) (fun r3 => if r3 = 0 then (fh_let (fh_sI h a 38 (1 : Int32)) (fun h6 => fh_let (fh_sI h6 a 40 (h6.1 a 37)) (fun h7 => some h7))) else (fh_let (fh_sI h a 37 ((h.1 a 37) + (1 : Int32))) (fun h8 => z_X12_step_b76 S a n h8))))
def z_X12_step_b0 (S : fh_S) (a : Nat) : Nat → fh_H → Option fh_H
  | 0, _ => none
  | n + 1, h =>
    fh_b1 (z_X12_byteAt S h a (h.1 a 37)) (fun r1 => if r1 = (32 : Int32) then (fh_let (fh_sI h a 37 ((h.1 a 37) + (1 : Int32))) (fun h4 => z_X12_step_b0 S a n h4)) else (fh_b1 (z_X12_byteAt S h a (h.1 a 37)) (fun r5 => if r5 = (10 : Int32) then (fh_let (fh_sI h a 37 ((h.1 a 37) + (1 : Int32))) (fun h23 => z_X12_step_b0 S a n h23)) else (fh_let (fh_sI h a 39 (h.1 a 37)) (fun h8 => fh_b1 (z_X12_byteAt S h8 a (h8.1 a 37)) (fun r9 => if r9 = (-1 : Int32) then (fh_let (fh_sI h8 a 38 (0 : Int32)) (fun h21 => fh_let (fh_sI h21 a 40 (h21.1 a 37)) (fun h22 => some h22))) else (fh_b1 (z_X12_isSmall r9) (fun r12 => if r12 = 0 then (fh_b1 (z_X12_isFigure r9) (fun r15 => if r15 = 0 then (fh_let (fh_sI h8 a 37 ((h8.1 a 37) + (1 : Int32))) (fun h18 => fh_let (fh_sI h18 a 38 (3 : Int32)) (fun h19 => fh_let (fh_sI h19 a 40 (h19.1 a 37)) (fun h20 => some h20)))) else (z_X12_step_b118 S a 20000 h8))) else (z_X12_step_b76 S a 20000 h8)))))))))
def z_X12_step (S : fh_S) (h : fh_H) (a : Nat) : Option fh_H :=
    fh_b1 (z_X12_byteAt S h a (h.1 a 37)) (fun r1 => if r1 = (32 : Int32) then (fh_let (fh_sI h a 37 ((h.1 a 37) + (1 : Int32))) (fun h4 => z_X12_step_b0 S a 20000 h4)) else (fh_b1 (z_X12_byteAt S h a (h.1 a 37)) (fun r5 => if r5 = (10 : Int32) then (fh_let (fh_sI h a 37 ((h.1 a 37) + (1 : Int32))) (fun h23 => z_X12_step_b0 S a 20000 h23)) else (fh_let (fh_sI h a 39 (h.1 a 37)) (fun h8 => fh_b1 (z_X12_byteAt S h8 a (h8.1 a 37)) (fun r9 => if r9 = (-1 : Int32) then (fh_let (fh_sI h8 a 38 (0 : Int32)) (fun h21 => fh_let (fh_sI h21 a 40 (h21.1 a 37)) (fun h22 => some h22))) else (fh_b1 (z_X12_isSmall r9) (fun r12 => if r12 = 0 then (fh_b1 (z_X12_isFigure r9) (fun r15 => if r15 = 0 then (fh_let (fh_sI h8 a 37 ((h8.1 a 37) + (1 : Int32))) (fun h18 => fh_let (fh_sI h18 a 38 (3 : Int32)) (fun h19 => fh_let (fh_sI h19 a 40 (h19.1 a 37)) (fun h20 => some h20)))) else (z_X12_step_b118 S a 20000 h8))) else (z_X12_step_b76 S a 20000 h8)))))))))
set_option maxHeartbeats 4000000 in
set_option maxRecDepth 100000 in
theorem k_X12_step {l : Launch} {S : fh_S} {g : fh_G} {h h' : fh_H} (hj : fh_inj S g) {a : Nat} (ha : fh_kq S a 12 = true) (hsp : z_X12_step S h a = some h') : fh_M l yX12_step cX12_step 2 none (fh_rm 2) S g [.ref (g.2.2 a)] h none h' := by
  unfold z_X12_step at hsp
  refine fr_head (own := RX12) (by decide) rfl hj (Nat.le_of_ble_eq_true rfl) ?_
  intro p e s m below meth c ls C hr hlocks hR hl
  have hl : lv_has ls 2 [(0, .ref (g.2.2 a))] := hl
  have hx := C.1.1
  have hb := C.1.2.1
  have hb_118 : ∀ (n : Nat) (h : fh_H) (H : Heap) (locs : List Loc) (ls : Array Slot), z_X12_step_b118 S a n h = some h' → fh_R S g s.heap h H locs → lv_has ls 2 [(0, .ref (g.2.2 a))] → fh_Wk p l e 2 s m [.ref (g.2.2 a)] below meth c S g none h' H locs (F0 m 118 ls []) := by
    intro n
    induction n with
    | zero => intro h  H locs ls hsp; cases hsp
    | succ n ih =>
      intro h  H locs ls hsp hR hl
      rw [z_X12_step_b118] at hsp
      refine lv_aload_n hx hb dX12_step_118 rfl (lv_at hl 0 rfl) ?_
      refine lv_aload_n hx hb dX12_step_119 rfl (lv_at hl 0 rfl) ?_
      refine fr_geti C hR ha Fg_RX12_389 rfl dX12_step_120 ?_
      obtain ⟨r1, E2, hsp⟩ := fr_b1 hsp
      refine fq_callV (rest := []) (st1 := [.int r1]) C hR (k_X12_byteAt C.2.2 ha E2) Y_X12_byteAt YV_X12_byteAt Lk_RX12_392 ha ⟨_, _, rfl, by decide⟩ rfl hl.1 ⟨Nat.le_of_ble_eq_true rfl, Nat.le_of_ble_eq_true rfl⟩ rfl (Nat.le_of_ble_eq_true rfl) ⟨Nat.zero_le _, Nat.zero_le _⟩ rfl dX12_step_123 (fun H locs hR => ?_)
      obtain ⟨r3, E4, hsp⟩ := fr_b1 hsp
      refine fq_callS (rest := []) (st1 := [.int r3]) C hR (k_X12_isFigure C.2.2 E4) Y_X12_isFigure YS_X12_isFigure Lk_RX12_404 rfl hl.1 ⟨Nat.le_of_ble_eq_true rfl, Nat.le_of_ble_eq_true rfl⟩ rfl (Nat.le_of_ble_eq_true rfl) ⟨Nat.zero_le _, Nat.zero_le _⟩ rfl dX12_step_126 (fun H locs hR => ?_)
      refine lv_if_eq (tgt := 145) hx hb dX12_step_129 (by decide) (fun c5 => ?_) (fun c5 => ?_)
      · rw [if_pos c5] at hsp
        refine lv_aload_n hx hb dX12_step_145 rfl (lv_at hl 0 rfl) ?_
        refine lv_iconst (v := 2) hx hb dX12_step_146 (by decide) ?_
        refine fr_puti C hR ha Fp_RX12_398 rfl dX12_step_147 (fun H locs hR => ?_)
        obtain ⟨h6, eh6⟩ : ∃ z, z = fh_sI h a 38 (2 : Int32) := ⟨_, rfl⟩
        rw [← eh6] at hR
        have hsp := fr_let eh6 hsp
        refine lv_goto (tgt := 168) hx hb dX12_step_150 (by decide) ?_
        refine lv_aload_n hx hb dX12_step_168 rfl (lv_at hl 0 rfl) ?_
        refine lv_aload_n hx hb dX12_step_169 rfl (lv_at hl 0 rfl) ?_
        refine fr_geti C hR ha Fg_RX12_389 rfl dX12_step_170 ?_
        refine fr_puti C hR ha Fp_RX12_407 rfl dX12_step_173 (fun H locs hR => ?_)
        obtain ⟨h7, eh7⟩ : ∃ z, z = fh_sI h6 a 40 (h6.1 a 37) := ⟨_, rfl⟩
        rw [← eh7] at hR
        have hsp := fr_let eh7 hsp
        exact fr_vret C hr hlocks hR (fr_s1 hsp) dX12_step_176
      · rw [if_neg c5] at hsp
        refine lv_aload_n hx hb dX12_step_132 rfl (lv_at hl 0 rfl) ?_
        refine lv_dup hx hb dX12_step_133 rfl ?_
        refine fr_geti C hR ha Fg_RX12_389 rfl dX12_step_134 ?_
        refine lv_iconst (v := 1) hx hb dX12_step_137 (by decide) ?_
        refine lv_iadd hx hb dX12_step_138 ?_
        refine fr_puti C hR ha Fp_RX12_389 rfl dX12_step_139 (fun H locs hR => ?_)
        obtain ⟨h8, eh8⟩ : ∃ z, z = fh_sI h a 37 ((h.1 a 37) + (1 : Int32)) := ⟨_, rfl⟩
        rw [← eh8] at hR
        have hsp := fr_let eh8 hsp
        refine lv_goto (tgt := 118) hx hb dX12_step_142 (by decide) ?_
        exact ih h8 _ _ _ hsp hR (lv_sub hl [0] rfl)
  have hb_76 : ∀ (n : Nat) (h : fh_H) (H : Heap) (locs : List Loc) (ls : Array Slot), z_X12_step_b76 S a n h = some h' → fh_R S g s.heap h H locs → lv_has ls 2 [(0, .ref (g.2.2 a))] → fh_Wk p l e 2 s m [.ref (g.2.2 a)] below meth c S g none h' H locs (F0 m 76 ls []) := by
    intro n
    induction n with
    | zero => intro h  H locs ls hsp; cases hsp
    | succ n ih =>
      intro h  H locs ls hsp hR hl
      rw [z_X12_step_b76] at hsp
      refine lv_aload_n hx hb dX12_step_76 rfl (lv_at hl 0 rfl) ?_
      refine lv_aload_n hx hb dX12_step_77 rfl (lv_at hl 0 rfl) ?_
      refine fr_geti C hR ha Fg_RX12_389 rfl dX12_step_78 ?_
      obtain ⟨r1, E2, hsp⟩ := fr_b1 hsp
      refine fq_callV (rest := []) (st1 := [.int r1]) C hR (k_X12_byteAt C.2.2 ha E2) Y_X12_byteAt YV_X12_byteAt Lk_RX12_392 ha ⟨_, _, rfl, by decide⟩ rfl hl.1 ⟨Nat.le_of_ble_eq_true rfl, Nat.le_of_ble_eq_true rfl⟩ rfl (Nat.le_of_ble_eq_true rfl) ⟨Nat.zero_le _, Nat.zero_le _⟩ rfl dX12_step_81 (fun H locs hR => ?_)
      obtain ⟨r3, E4, hsp⟩ := fr_b1 hsp
      refine fq_callS (rest := []) (st1 := [.int r3]) C hR (k_X12_isSmall C.2.2 E4) Y_X12_isSmall YS_X12_isSmall Lk_RX12_401 rfl hl.1 ⟨Nat.le_of_ble_eq_true rfl, Nat.le_of_ble_eq_true rfl⟩ rfl (Nat.le_of_ble_eq_true rfl) ⟨Nat.zero_le _, Nat.zero_le _⟩ rfl dX12_step_84 (fun H locs hR => ?_)
      refine lv_if_eq (tgt := 103) hx hb dX12_step_87 (by decide) (fun c5 => ?_) (fun c5 => ?_)
      · rw [if_pos c5] at hsp
        refine lv_aload_n hx hb dX12_step_103 rfl (lv_at hl 0 rfl) ?_
        refine lv_iconst (v := 1) hx hb dX12_step_104 (by decide) ?_
        refine fr_puti C hR ha Fp_RX12_398 rfl dX12_step_105 (fun H locs hR => ?_)
        obtain ⟨h6, eh6⟩ : ∃ z, z = fh_sI h a 38 (1 : Int32) := ⟨_, rfl⟩
        rw [← eh6] at hR
        have hsp := fr_let eh6 hsp
        refine lv_goto (tgt := 168) hx hb dX12_step_108 (by decide) ?_
        refine lv_aload_n hx hb dX12_step_168 rfl (lv_at hl 0 rfl) ?_
        refine lv_aload_n hx hb dX12_step_169 rfl (lv_at hl 0 rfl) ?_
        refine fr_geti C hR ha Fg_RX12_389 rfl dX12_step_170 ?_
        refine fr_puti C hR ha Fp_RX12_407 rfl dX12_step_173 (fun H locs hR => ?_)
        obtain ⟨h7, eh7⟩ : ∃ z, z = fh_sI h6 a 40 (h6.1 a 37) := ⟨_, rfl⟩
        rw [← eh7] at hR
        have hsp := fr_let eh7 hsp
        exact fr_vret C hr hlocks hR (fr_s1 hsp) dX12_step_176
      · rw [if_neg c5] at hsp
        refine lv_aload_n hx hb dX12_step_90 rfl (lv_at hl 0 rfl) ?_
        refine lv_dup hx hb dX12_step_91 rfl ?_
        refine fr_geti C hR ha Fg_RX12_389 rfl dX12_step_92 ?_
        refine lv_iconst (v := 1) hx hb dX12_step_95 (by decide) ?_
        refine lv_iadd hx hb dX12_step_96 ?_
        refine fr_puti C hR ha Fp_RX12_389 rfl dX12_step_97 (fun H locs hR => ?_)
        obtain ⟨h8, eh8⟩ : ∃ z, z = fh_sI h a 37 ((h.1 a 37) + (1 : Int32)) := ⟨_, rfl⟩
        rw [← eh8] at hR
        have hsp := fr_let eh8 hsp
        refine lv_goto (tgt := 76) hx hb dX12_step_100 (by decide) ?_
        exact ih h8 _ _ _ hsp hR (lv_sub hl [0] rfl)
  have hb_0 : ∀ (n : Nat) (h : fh_H) (H : Heap) (locs : List Loc) (ls : Array Slot), z_X12_step_b0 S a n h = some h' → fh_R S g s.heap h H locs → lv_has ls 2 [(0, .ref (g.2.2 a))] → fh_Wk p l e 2 s m [.ref (g.2.2 a)] below meth c S g none h' H locs (F0 m 0 ls []) := by
    intro n
    induction n with
    | zero => intro h  H locs ls hsp; cases hsp
    | succ n ih =>
      intro h  H locs ls hsp hR hl
      rw [z_X12_step_b0] at hsp
      refine lv_aload_n hx hb dX12_step_0 rfl (lv_at hl 0 rfl) ?_
      refine lv_aload_n hx hb dX12_step_1 rfl (lv_at hl 0 rfl) ?_
      refine fr_geti C hR ha Fg_RX12_389 rfl dX12_step_2 ?_
      obtain ⟨r1, E2, hsp⟩ := fr_b1 hsp
      refine fq_callV (rest := []) (st1 := [.int r1]) C hR (k_X12_byteAt C.2.2 ha E2) Y_X12_byteAt YV_X12_byteAt Lk_RX12_392 ha ⟨_, _, rfl, by decide⟩ rfl hl.1 ⟨Nat.le_of_ble_eq_true rfl, Nat.le_of_ble_eq_true rfl⟩ rfl (Nat.le_of_ble_eq_true rfl) ⟨Nat.zero_le _, Nat.zero_le _⟩ rfl dX12_step_5 (fun H locs hR => ?_)
      refine lv_bipush (v := 32) hx hb dX12_step_8 (by decide) ?_
      refine lv_icmp_eq (tgt := 26) hx hb dX12_step_10 (by decide) (fun c3 => ?_) (fun c3 => ?_)
      · rw [if_pos c3] at hsp
        refine lv_aload_n hx hb dX12_step_26 rfl (lv_at hl 0 rfl) ?_
        refine lv_dup hx hb dX12_step_27 rfl ?_
        refine fr_geti C hR ha Fg_RX12_389 rfl dX12_step_28 ?_
        refine lv_iconst (v := 1) hx hb dX12_step_31 (by decide) ?_
        refine lv_iadd hx hb dX12_step_32 ?_
        refine fr_puti C hR ha Fp_RX12_389 rfl dX12_step_33 (fun H locs hR => ?_)
        obtain ⟨h4, eh4⟩ : ∃ z, z = fh_sI h a 37 ((h.1 a 37) + (1 : Int32)) := ⟨_, rfl⟩
        rw [← eh4] at hR
        have hsp := fr_let eh4 hsp
        refine lv_goto (tgt := 0) hx hb dX12_step_36 (by decide) ?_
        exact ih h4 _ _ _ hsp hR (lv_sub hl [0] rfl)
      · rw [if_neg c3] at hsp
        refine lv_aload_n hx hb dX12_step_13 rfl (lv_at hl 0 rfl) ?_
        refine lv_aload_n hx hb dX12_step_14 rfl (lv_at hl 0 rfl) ?_
        refine fr_geti C hR ha Fg_RX12_389 rfl dX12_step_15 ?_
        obtain ⟨r5, E6, hsp⟩ := fr_b1 hsp
        refine fq_callV (rest := []) (st1 := [.int r5]) C hR (k_X12_byteAt C.2.2 ha E6) Y_X12_byteAt YV_X12_byteAt Lk_RX12_392 ha ⟨_, _, rfl, by decide⟩ rfl hl.1 ⟨Nat.le_of_ble_eq_true rfl, Nat.le_of_ble_eq_true rfl⟩ rfl (Nat.le_of_ble_eq_true rfl) ⟨Nat.zero_le _, Nat.zero_le _⟩ rfl dX12_step_18 (fun H locs hR => ?_)
        refine lv_bipush (v := 10) hx hb dX12_step_21 (by decide) ?_
        refine lv_icmp_ne (tgt := 39) hx hb dX12_step_23 (by decide) (fun c7 => ?_) (fun c7 => ?_)
        · rw [if_neg c7] at hsp
          refine lv_aload_n hx hb dX12_step_39 rfl (lv_at hl 0 rfl) ?_
          refine lv_aload_n hx hb dX12_step_40 rfl (lv_at hl 0 rfl) ?_
          refine fr_geti C hR ha Fg_RX12_389 rfl dX12_step_41 ?_
          refine fr_puti C hR ha Fp_RX12_395 rfl dX12_step_44 (fun H locs hR => ?_)
          obtain ⟨h8, eh8⟩ : ∃ z, z = fh_sI h a 39 (h.1 a 37) := ⟨_, rfl⟩
          rw [← eh8] at hR
          have hsp := fr_let eh8 hsp
          refine lv_aload_n hx hb dX12_step_47 rfl (lv_at hl 0 rfl) ?_
          refine lv_aload_n hx hb dX12_step_48 rfl (lv_at hl 0 rfl) ?_
          refine fr_geti C hR ha Fg_RX12_389 rfl dX12_step_49 ?_
          obtain ⟨r9, E10, hsp⟩ := fr_b1 hsp
          refine fq_callV (rest := []) (st1 := [.int r9]) C hR (k_X12_byteAt C.2.2 ha E10) Y_X12_byteAt YV_X12_byteAt Lk_RX12_392 ha ⟨_, _, rfl, by decide⟩ rfl hl.1 ⟨Nat.le_of_ble_eq_true rfl, Nat.le_of_ble_eq_true rfl⟩ rfl (Nat.le_of_ble_eq_true rfl) ⟨Nat.zero_le _, Nat.zero_le _⟩ rfl dX12_step_52 (fun H locs hR => ?_)
          refine lv_istore_n (lv' := [(1, .int r9), (0, .ref (g.2.2 a))]) hx hb dX12_step_55 rfl hl (by decide) rfl (fun ls hl => ?_)
          refine lv_iload_n hx hb dX12_step_56 rfl (lv_at hl 0 rfl) ?_
          refine lv_iconst (v := -1) hx hb dX12_step_57 (by decide) ?_
          refine lv_icmp_ne (tgt := 69) hx hb dX12_step_58 (by decide) (fun c11 => ?_) (fun c11 => ?_)
          · rw [if_neg c11] at hsp
            refine lv_iload_n hx hb dX12_step_69 rfl (lv_at hl 0 rfl) ?_
            obtain ⟨r12, E13, hsp⟩ := fr_b1 hsp
            refine fq_callS (rest := []) (st1 := [.int r12]) C hR (k_X12_isSmall C.2.2 E13) Y_X12_isSmall YS_X12_isSmall Lk_RX12_401 rfl hl.1 ⟨Nat.le_of_ble_eq_true rfl, Nat.le_of_ble_eq_true rfl⟩ rfl (Nat.le_of_ble_eq_true rfl) ⟨Nat.zero_le _, Nat.zero_le _⟩ rfl dX12_step_70 (fun H locs hR => ?_)
            refine lv_if_eq (tgt := 111) hx hb dX12_step_73 (by decide) (fun c14 => ?_) (fun c14 => ?_)
            · rw [if_pos c14] at hsp
              refine lv_iload_n hx hb dX12_step_111 rfl (lv_at hl 0 rfl) ?_
              obtain ⟨r15, E16, hsp⟩ := fr_b1 hsp
              refine fq_callS (rest := []) (st1 := [.int r15]) C hR (k_X12_isFigure C.2.2 E16) Y_X12_isFigure YS_X12_isFigure Lk_RX12_404 rfl hl.1 ⟨Nat.le_of_ble_eq_true rfl, Nat.le_of_ble_eq_true rfl⟩ rfl (Nat.le_of_ble_eq_true rfl) ⟨Nat.zero_le _, Nat.zero_le _⟩ rfl dX12_step_112 (fun H locs hR => ?_)
              refine lv_if_eq (tgt := 153) hx hb dX12_step_115 (by decide) (fun c17 => ?_) (fun c17 => ?_)
              · rw [if_pos c17] at hsp
                refine lv_aload_n hx hb dX12_step_153 rfl (lv_at hl 1 rfl) ?_
                refine lv_dup hx hb dX12_step_154 rfl ?_
                refine fr_geti C hR ha Fg_RX12_389 rfl dX12_step_155 ?_
                refine lv_iconst (v := 1) hx hb dX12_step_158 (by decide) ?_
                refine lv_iadd hx hb dX12_step_159 ?_
                refine fr_puti C hR ha Fp_RX12_389 rfl dX12_step_160 (fun H locs hR => ?_)
                obtain ⟨h18, eh18⟩ : ∃ z, z = fh_sI h8 a 37 ((h8.1 a 37) + (1 : Int32)) := ⟨_, rfl⟩
                rw [← eh18] at hR
                have hsp := fr_let eh18 hsp
                refine lv_aload_n hx hb dX12_step_163 rfl (lv_at hl 1 rfl) ?_
                refine lv_iconst (v := 3) hx hb dX12_step_164 (by decide) ?_
                refine fr_puti C hR ha Fp_RX12_398 rfl dX12_step_165 (fun H locs hR => ?_)
                obtain ⟨h19, eh19⟩ : ∃ z, z = fh_sI h18 a 38 (3 : Int32) := ⟨_, rfl⟩
                rw [← eh19] at hR
                have hsp := fr_let eh19 hsp
                refine lv_aload_n hx hb dX12_step_168 rfl (lv_at hl 1 rfl) ?_
                refine lv_aload_n hx hb dX12_step_169 rfl (lv_at hl 1 rfl) ?_
                refine fr_geti C hR ha Fg_RX12_389 rfl dX12_step_170 ?_
                refine fr_puti C hR ha Fp_RX12_407 rfl dX12_step_173 (fun H locs hR => ?_)
                obtain ⟨h20, eh20⟩ : ∃ z, z = fh_sI h19 a 40 (h19.1 a 37) := ⟨_, rfl⟩
                rw [← eh20] at hR
                have hsp := fr_let eh20 hsp
                exact fr_vret C hr hlocks hR (fr_s1 hsp) dX12_step_176
              · rw [if_neg c17] at hsp
                exact hb_118 20000 h8 _ _ _ hsp hR (lv_sub hl [1] rfl)
            · rw [if_neg c14] at hsp
              exact hb_76 20000 h8 _ _ _ hsp hR (lv_sub hl [1] rfl)
          · rw [if_pos c11] at hsp
            refine lv_aload_n hx hb dX12_step_61 rfl (lv_at hl 1 rfl) ?_
            refine lv_iconst (v := 0) hx hb dX12_step_62 (by decide) ?_
            refine fr_puti C hR ha Fp_RX12_398 rfl dX12_step_63 (fun H locs hR => ?_)
            obtain ⟨h21, eh21⟩ : ∃ z, z = fh_sI h8 a 38 (0 : Int32) := ⟨_, rfl⟩
            rw [← eh21] at hR
            have hsp := fr_let eh21 hsp
            refine lv_goto (tgt := 168) hx hb dX12_step_66 (by decide) ?_
            refine lv_aload_n hx hb dX12_step_168 rfl (lv_at hl 1 rfl) ?_
            refine lv_aload_n hx hb dX12_step_169 rfl (lv_at hl 1 rfl) ?_
            refine fr_geti C hR ha Fg_RX12_389 rfl dX12_step_170 ?_
            refine fr_puti C hR ha Fp_RX12_407 rfl dX12_step_173 (fun H locs hR => ?_)
            obtain ⟨h22, eh22⟩ : ∃ z, z = fh_sI h21 a 40 (h21.1 a 37) := ⟨_, rfl⟩
            rw [← eh22] at hR
            have hsp := fr_let eh22 hsp
            exact fr_vret C hr hlocks hR (fr_s1 hsp) dX12_step_176
        · rw [if_pos c7] at hsp
          refine lv_aload_n hx hb dX12_step_26 rfl (lv_at hl 0 rfl) ?_
          refine lv_dup hx hb dX12_step_27 rfl ?_
          refine fr_geti C hR ha Fg_RX12_389 rfl dX12_step_28 ?_
          refine lv_iconst (v := 1) hx hb dX12_step_31 (by decide) ?_
          refine lv_iadd hx hb dX12_step_32 ?_
          refine fr_puti C hR ha Fp_RX12_389 rfl dX12_step_33 (fun H locs hR => ?_)
          obtain ⟨h23, eh23⟩ : ∃ z, z = fh_sI h a 37 ((h.1 a 37) + (1 : Int32)) := ⟨_, rfl⟩
          rw [← eh23] at hR
          have hsp := fr_let eh23 hsp
          refine lv_goto (tgt := 0) hx hb dX12_step_36 (by decide) ?_
          exact ih h23 _ _ _ hsp hR (lv_sub hl [0] rfl)
  refine lv_aload_n hx hb dX12_step_0 rfl (lv_at hl 0 rfl) ?_
  refine lv_aload_n hx hb dX12_step_1 rfl (lv_at hl 0 rfl) ?_
  refine fr_geti C hR ha Fg_RX12_389 rfl dX12_step_2 ?_
  obtain ⟨r1, E2, hsp⟩ := fr_b1 hsp
  refine fq_callV (rest := []) (st1 := [.int r1]) C hR (k_X12_byteAt C.2.2 ha E2) Y_X12_byteAt YV_X12_byteAt Lk_RX12_392 ha ⟨_, _, rfl, by decide⟩ rfl hl.1 ⟨Nat.le_of_ble_eq_true rfl, Nat.le_of_ble_eq_true rfl⟩ rfl (Nat.le_of_ble_eq_true rfl) ⟨Nat.zero_le _, Nat.zero_le _⟩ rfl dX12_step_5 (fun H locs hR => ?_)
  refine lv_bipush (v := 32) hx hb dX12_step_8 (by decide) ?_
  refine lv_icmp_eq (tgt := 26) hx hb dX12_step_10 (by decide) (fun c3 => ?_) (fun c3 => ?_)
  · rw [if_pos c3] at hsp
    refine lv_aload_n hx hb dX12_step_26 rfl (lv_at hl 0 rfl) ?_
    refine lv_dup hx hb dX12_step_27 rfl ?_
    refine fr_geti C hR ha Fg_RX12_389 rfl dX12_step_28 ?_
    refine lv_iconst (v := 1) hx hb dX12_step_31 (by decide) ?_
    refine lv_iadd hx hb dX12_step_32 ?_
    refine fr_puti C hR ha Fp_RX12_389 rfl dX12_step_33 (fun H locs hR => ?_)
    obtain ⟨h4, eh4⟩ : ∃ z, z = fh_sI h a 37 ((h.1 a 37) + (1 : Int32)) := ⟨_, rfl⟩
    rw [← eh4] at hR
    have hsp := fr_let eh4 hsp
    refine lv_goto (tgt := 0) hx hb dX12_step_36 (by decide) ?_
    exact hb_0 20000 h4 _ _ _ hsp hR (lv_sub hl [0] rfl)
  · rw [if_neg c3] at hsp
    refine lv_aload_n hx hb dX12_step_13 rfl (lv_at hl 0 rfl) ?_
    refine lv_aload_n hx hb dX12_step_14 rfl (lv_at hl 0 rfl) ?_
    refine fr_geti C hR ha Fg_RX12_389 rfl dX12_step_15 ?_
    obtain ⟨r5, E6, hsp⟩ := fr_b1 hsp
    refine fq_callV (rest := []) (st1 := [.int r5]) C hR (k_X12_byteAt C.2.2 ha E6) Y_X12_byteAt YV_X12_byteAt Lk_RX12_392 ha ⟨_, _, rfl, by decide⟩ rfl hl.1 ⟨Nat.le_of_ble_eq_true rfl, Nat.le_of_ble_eq_true rfl⟩ rfl (Nat.le_of_ble_eq_true rfl) ⟨Nat.zero_le _, Nat.zero_le _⟩ rfl dX12_step_18 (fun H locs hR => ?_)
    refine lv_bipush (v := 10) hx hb dX12_step_21 (by decide) ?_
    refine lv_icmp_ne (tgt := 39) hx hb dX12_step_23 (by decide) (fun c7 => ?_) (fun c7 => ?_)
    · rw [if_neg c7] at hsp
      refine lv_aload_n hx hb dX12_step_39 rfl (lv_at hl 0 rfl) ?_
      refine lv_aload_n hx hb dX12_step_40 rfl (lv_at hl 0 rfl) ?_
      refine fr_geti C hR ha Fg_RX12_389 rfl dX12_step_41 ?_
      refine fr_puti C hR ha Fp_RX12_395 rfl dX12_step_44 (fun H locs hR => ?_)
      obtain ⟨h8, eh8⟩ : ∃ z, z = fh_sI h a 39 (h.1 a 37) := ⟨_, rfl⟩
      rw [← eh8] at hR
      have hsp := fr_let eh8 hsp
      refine lv_aload_n hx hb dX12_step_47 rfl (lv_at hl 0 rfl) ?_
      refine lv_aload_n hx hb dX12_step_48 rfl (lv_at hl 0 rfl) ?_
      refine fr_geti C hR ha Fg_RX12_389 rfl dX12_step_49 ?_
      obtain ⟨r9, E10, hsp⟩ := fr_b1 hsp
      refine fq_callV (rest := []) (st1 := [.int r9]) C hR (k_X12_byteAt C.2.2 ha E10) Y_X12_byteAt YV_X12_byteAt Lk_RX12_392 ha ⟨_, _, rfl, by decide⟩ rfl hl.1 ⟨Nat.le_of_ble_eq_true rfl, Nat.le_of_ble_eq_true rfl⟩ rfl (Nat.le_of_ble_eq_true rfl) ⟨Nat.zero_le _, Nat.zero_le _⟩ rfl dX12_step_52 (fun H locs hR => ?_)
      refine lv_istore_n (lv' := [(1, .int r9), (0, .ref (g.2.2 a))]) hx hb dX12_step_55 rfl hl (by decide) rfl (fun ls hl => ?_)
      refine lv_iload_n hx hb dX12_step_56 rfl (lv_at hl 0 rfl) ?_
      refine lv_iconst (v := -1) hx hb dX12_step_57 (by decide) ?_
      refine lv_icmp_ne (tgt := 69) hx hb dX12_step_58 (by decide) (fun c11 => ?_) (fun c11 => ?_)
      · rw [if_neg c11] at hsp
        refine lv_iload_n hx hb dX12_step_69 rfl (lv_at hl 0 rfl) ?_
        obtain ⟨r12, E13, hsp⟩ := fr_b1 hsp
        refine fq_callS (rest := []) (st1 := [.int r12]) C hR (k_X12_isSmall C.2.2 E13) Y_X12_isSmall YS_X12_isSmall Lk_RX12_401 rfl hl.1 ⟨Nat.le_of_ble_eq_true rfl, Nat.le_of_ble_eq_true rfl⟩ rfl (Nat.le_of_ble_eq_true rfl) ⟨Nat.zero_le _, Nat.zero_le _⟩ rfl dX12_step_70 (fun H locs hR => ?_)
        refine lv_if_eq (tgt := 111) hx hb dX12_step_73 (by decide) (fun c14 => ?_) (fun c14 => ?_)
        · rw [if_pos c14] at hsp
          refine lv_iload_n hx hb dX12_step_111 rfl (lv_at hl 0 rfl) ?_
          obtain ⟨r15, E16, hsp⟩ := fr_b1 hsp
          refine fq_callS (rest := []) (st1 := [.int r15]) C hR (k_X12_isFigure C.2.2 E16) Y_X12_isFigure YS_X12_isFigure Lk_RX12_404 rfl hl.1 ⟨Nat.le_of_ble_eq_true rfl, Nat.le_of_ble_eq_true rfl⟩ rfl (Nat.le_of_ble_eq_true rfl) ⟨Nat.zero_le _, Nat.zero_le _⟩ rfl dX12_step_112 (fun H locs hR => ?_)
          refine lv_if_eq (tgt := 153) hx hb dX12_step_115 (by decide) (fun c17 => ?_) (fun c17 => ?_)
          · rw [if_pos c17] at hsp
            refine lv_aload_n hx hb dX12_step_153 rfl (lv_at hl 1 rfl) ?_
            refine lv_dup hx hb dX12_step_154 rfl ?_
            refine fr_geti C hR ha Fg_RX12_389 rfl dX12_step_155 ?_
            refine lv_iconst (v := 1) hx hb dX12_step_158 (by decide) ?_
            refine lv_iadd hx hb dX12_step_159 ?_
            refine fr_puti C hR ha Fp_RX12_389 rfl dX12_step_160 (fun H locs hR => ?_)
            obtain ⟨h18, eh18⟩ : ∃ z, z = fh_sI h8 a 37 ((h8.1 a 37) + (1 : Int32)) := ⟨_, rfl⟩
            rw [← eh18] at hR
            have hsp := fr_let eh18 hsp
            refine lv_aload_n hx hb dX12_step_163 rfl (lv_at hl 1 rfl) ?_
            refine lv_iconst (v := 3) hx hb dX12_step_164 (by decide) ?_
            refine fr_puti C hR ha Fp_RX12_398 rfl dX12_step_165 (fun H locs hR => ?_)
            obtain ⟨h19, eh19⟩ : ∃ z, z = fh_sI h18 a 38 (3 : Int32) := ⟨_, rfl⟩
            rw [← eh19] at hR
            have hsp := fr_let eh19 hsp
            refine lv_aload_n hx hb dX12_step_168 rfl (lv_at hl 1 rfl) ?_
            refine lv_aload_n hx hb dX12_step_169 rfl (lv_at hl 1 rfl) ?_
            refine fr_geti C hR ha Fg_RX12_389 rfl dX12_step_170 ?_
            refine fr_puti C hR ha Fp_RX12_407 rfl dX12_step_173 (fun H locs hR => ?_)
            obtain ⟨h20, eh20⟩ : ∃ z, z = fh_sI h19 a 40 (h19.1 a 37) := ⟨_, rfl⟩
            rw [← eh20] at hR
            have hsp := fr_let eh20 hsp
            exact fr_vret C hr hlocks hR (fr_s1 hsp) dX12_step_176
          · rw [if_neg c17] at hsp
            exact hb_118 20000 h8 _ _ _ hsp hR (lv_sub hl [1] rfl)
        · rw [if_neg c14] at hsp
          exact hb_76 20000 h8 _ _ _ hsp hR (lv_sub hl [1] rfl)
      · rw [if_pos c11] at hsp
        refine lv_aload_n hx hb dX12_step_61 rfl (lv_at hl 1 rfl) ?_
        refine lv_iconst (v := 0) hx hb dX12_step_62 (by decide) ?_
        refine fr_puti C hR ha Fp_RX12_398 rfl dX12_step_63 (fun H locs hR => ?_)
        obtain ⟨h21, eh21⟩ : ∃ z, z = fh_sI h8 a 38 (0 : Int32) := ⟨_, rfl⟩
        rw [← eh21] at hR
        have hsp := fr_let eh21 hsp
        refine lv_goto (tgt := 168) hx hb dX12_step_66 (by decide) ?_
        refine lv_aload_n hx hb dX12_step_168 rfl (lv_at hl 1 rfl) ?_
        refine lv_aload_n hx hb dX12_step_169 rfl (lv_at hl 1 rfl) ?_
        refine fr_geti C hR ha Fg_RX12_389 rfl dX12_step_170 ?_
        refine fr_puti C hR ha Fp_RX12_407 rfl dX12_step_173 (fun H locs hR => ?_)
        obtain ⟨h22, eh22⟩ : ∃ z, z = fh_sI h21 a 40 (h21.1 a 37) := ⟨_, rfl⟩
        rw [← eh22] at hR
        have hsp := fr_let eh22 hsp
        exact fr_vret C hr hlocks hR (fr_s1 hsp) dX12_step_176
    · rw [if_pos c7] at hsp
      refine lv_aload_n hx hb dX12_step_26 rfl (lv_at hl 0 rfl) ?_
      refine lv_dup hx hb dX12_step_27 rfl ?_
      refine fr_geti C hR ha Fg_RX12_389 rfl dX12_step_28 ?_
      refine lv_iconst (v := 1) hx hb dX12_step_31 (by decide) ?_
      refine lv_iadd hx hb dX12_step_32 ?_
      refine fr_puti C hR ha Fp_RX12_389 rfl dX12_step_33 (fun H locs hR => ?_)
      obtain ⟨h23, eh23⟩ : ∃ z, z = fh_sI h a 37 ((h.1 a 37) + (1 : Int32)) := ⟨_, rfl⟩
      rw [← eh23] at hR
      have hsp := fr_let eh23 hsp
      refine lv_goto (tgt := 0) hx hb dX12_step_36 (by decide) ?_
      exact hb_0 20000 h23 _ _ _ hsp hR (lv_sub hl [0] rfl)

/-! TermRowsModel.isNext()Z -/
def z_X12_isNext (S : fh_S) (h : fh_H) (a : Nat) : Option Int32 :=
    fh_b1 (z_X12_isSign S h a (59 : Int32)) (fun r1 => if r1 = 0 then (fh_b1 (z_X12_isSign S h a (44 : Int32)) (fun r4 => if r4 = 0 then (some (0 : Int32)) else (some (1 : Int32)))) else (some (1 : Int32)))
set_option maxHeartbeats 4000000 in
set_option maxRecDepth 100000 in
theorem k_X12_isNext {l : Launch} {S : fh_S} {g : fh_G} {h : fh_H} (hj : fh_inj S g) {a : Nat} {r : Int32} (ha : fh_kq S a 12 = true) (hsp : z_X12_isNext S h a = some r) : fh_M l yX12_isNext cX12_isNext 1 (some .boolean) (fh_rm 2) S g [.ref (g.2.2 a)] h (some (.int r)) h := by
  unfold z_X12_isNext at hsp
  refine fr_head (own := RX12) (by decide) rfl hj (Nat.le_of_ble_eq_true rfl) ?_
  intro p e s m below meth c ls C hr hlocks hR hl
  have hl : lv_has ls 1 [(0, .ref (g.2.2 a))] := hl
  have hx := C.1.1
  have hb := C.1.2.1
  refine lv_aload_n hx hb dX12_isNext_0 rfl (lv_at hl 0 rfl) ?_
  refine lv_bipush (v := 59) hx hb dX12_isNext_1 (by decide) ?_
  obtain ⟨r1, E2, hsp⟩ := fr_b1 hsp
  refine fq_callV (rest := []) (st1 := [.int r1]) C hR (k_X12_isSign C.2.2 ha E2) Y_X12_isSign YV_X12_isSign Lk_RX12_431 ha ⟨_, _, rfl, by decide⟩ rfl hl.1 ⟨Nat.le_of_ble_eq_true rfl, Nat.le_of_ble_eq_true rfl⟩ rfl (Nat.le_of_ble_eq_true rfl) ⟨Nat.zero_le _, Nat.zero_le _⟩ rfl dX12_isNext_3 (fun H locs hR => ?_)
  refine lv_if_ne (tgt := 18) hx hb dX12_isNext_6 (by decide) (fun c3 => ?_) (fun c3 => ?_)
  · rw [if_neg c3] at hsp
    refine lv_iconst (v := 1) hx hb dX12_isNext_18 (by decide) ?_
    refine lv_goto (tgt := 23) hx hb dX12_isNext_19 (by decide) ?_
    have e1 := fr_s1 hsp
    exact fr_zret C hr hlocks hR (Or.inr rfl) e1 rfl dX12_isNext_23
  · rw [if_pos c3] at hsp
    refine lv_aload_n hx hb dX12_isNext_9 rfl (lv_at hl 0 rfl) ?_
    refine lv_bipush (v := 44) hx hb dX12_isNext_10 (by decide) ?_
    obtain ⟨r4, E5, hsp⟩ := fr_b1 hsp
    refine fq_callV (rest := []) (st1 := [.int r4]) C hR (k_X12_isSign C.2.2 ha E5) Y_X12_isSign YV_X12_isSign Lk_RX12_431 ha ⟨_, _, rfl, by decide⟩ rfl hl.1 ⟨Nat.le_of_ble_eq_true rfl, Nat.le_of_ble_eq_true rfl⟩ rfl (Nat.le_of_ble_eq_true rfl) ⟨Nat.zero_le _, Nat.zero_le _⟩ rfl dX12_isNext_12 (fun H locs hR => ?_)
    refine lv_if_eq (tgt := 22) hx hb dX12_isNext_15 (by decide) (fun c6 => ?_) (fun c6 => ?_)
    · rw [if_pos c6] at hsp
      refine lv_iconst (v := 0) hx hb dX12_isNext_22 (by decide) ?_
      have e1 := fr_s1 hsp
      exact fr_zret C hr hlocks hR (Or.inl rfl) e1 rfl dX12_isNext_23
    · rw [if_neg c6] at hsp
      refine lv_iconst (v := 1) hx hb dX12_isNext_18 (by decide) ?_
      refine lv_goto (tgt := 23) hx hb dX12_isNext_19 (by decide) ?_
      have e1 := fr_s1 hsp
      exact fr_zret C hr hlocks hR (Or.inr rfl) e1 rfl dX12_isNext_23

/-! TermRowsModel.layStates(I)V -/
def z_X12_layStates_b81 (S : fh_S) (a : Nat) : Nat → fh_H → Int64 → Int64 → Int64 → Int32 → Option fh_H
  | 0, _, _, _, _, _ => none
  | n + 1, h, y2, y4, y6, y8 =>
    if (60 : Int32) ≤ y8 then (some h) else (fh_b1 (h.2.2 a 10) (fun j2 => fh_ck (fh_kq S j2 14) (fh_ck (fh_in y8 (S.2.2 j2)) (fh_let (fh_sJ h j2 (Int32.toNatClampNeg y8) y2) (fun h6 => fh_b1 (h6.2.2 a 11) (fun j7 => fh_ck (fh_kq S j7 14) (fh_ck (fh_in y8 (S.2.2 j7)) (fh_let (fh_sJ h6 j7 (Int32.toNatClampNeg y8) y6) (fun h11 => fh_b1 (z_X12_floorOf y2 (h11.2.1 a 12) y6) (fun r12 => fh_let (((r12 * y6) - y2)) (fun v14 => fh_ck (decide (¬ y6 = 0)) (fh_let (((y4 - (v14 * v14)) / y6)) (fun v16 => fh_let (y8 + 1) (fun v17 => z_X12_layStates_b81 S a n h11 v14 y4 v16 v17))))))))))))))
def z_X12_layStates (S : fh_S) (h : fh_H) (a : Nat) (x1 : Int32) : Option fh_H :=
    fh_b1 (z_X12_of1 S h a x1 (1 : Int32)) (fun r1 => fh_let ((Int32.toInt64 r1)) (fun v3 => fh_b1 (z_X12_of1 S h a x1 (2 : Int32)) (fun r4 => fh_let ((Int32.toInt64 r4)) (fun v6 => fh_b1 (z_X12_of1 S h a x1 (3 : Int32)) (fun r7 => fh_let ((Int32.toInt64 r7)) (fun v9 => fh_ck (decide (¬ v9 = 0)) (if ((v6 - (v3 * v3)) - (v6 - (v3 * v3)) / v9 * v9) = (0 : Int64) then (fh_b1 (z_X12_rootOf v6) (fun r12 => fh_let (fh_sJ h a 12 r12) (fun h14 => z_X12_layStates_b81 S a 20000 h14 v3 v6 v9 (0 : Int32)))) else (fh_b1 (z_J9_abs_067f4 v9) (fun r15 => fh_let ((v3 * r15)) (fun v17 => fh_let ((v6 * (r15 * r15))) (fun v18 => fh_let ((v9 * r15)) (fun v19 => fh_b1 (z_X12_rootOf v18) (fun r20 => fh_let (fh_sJ h a 12 r20) (fun h22 => z_X12_layStates_b81 S a 20000 h22 v17 v18 v19 (0 : Int32)))))))))))))))
set_option maxHeartbeats 4000000 in
set_option maxRecDepth 100000 in
theorem k_X12_layStates {l : Launch} {S : fh_S} {g : fh_G} {h h' : fh_H} (hj : fh_inj S g) {a : Nat} {x1 : Int32} (ha : fh_kq S a 12 = true) (hsp : z_X12_layStates S h a x1 = some h') : fh_M l yX12_layStates cX12_layStates 11 none (fh_rm 3) S g [.ref (g.2.2 a), .int x1] h none h' := by
  unfold z_X12_layStates at hsp
  refine fr_head (own := RX12) (by decide) rfl hj (Nat.le_of_ble_eq_true rfl) ?_
  intro p e s m below meth c ls C hr hlocks hR hl
  have hl : lv_has ls 11 [(0, .ref (g.2.2 a)), (1, .int x1)] := hl
  have hx := C.1.1
  have hb := C.1.2.1
  have hb_81 : ∀ (n : Nat) (h : fh_H) (y2 : Int64) (y4 : Int64) (y6 : Int64) (y8 : Int32) (H : Heap) (locs : List Loc) (ls : Array Slot), z_X12_layStates_b81 S a n h y2 y4 y6 y8 = some h' → fh_R S g s.heap h H locs → lv_has ls 11 [(0, .ref (g.2.2 a)), (2, .long y2), (4, .long y4), (6, .long y6), (8, .int y8)] → fh_Wk p l e 3 s m [.ref (g.2.2 a), .int x1] below meth c S g none h' H locs (F0 m 81 ls []) := by
    intro n
    induction n with
    | zero => intro h y2 y4 y6 y8 H locs ls hsp; cases hsp
    | succ n ih =>
      intro h y2 y4 y6 y8 H locs ls hsp hR hl
      rw [z_X12_layStates_b81] at hsp
      refine lv_iload hx hb dX12_layStates_81 (lv_at hl 4 rfl) ?_
      refine lv_bipush (v := 60) hx hb dX12_layStates_83 (by decide) ?_
      refine lv_icmp_ge (tgt := 142) hx hb dX12_layStates_85 (by decide) (fun c1 => ?_) (fun c1 => ?_)
      · rw [if_pos c1] at hsp
        exact fr_vret C hr hlocks hR (fr_s1 hsp) dX12_layStates_142
      · rw [if_neg c1] at hsp
        refine lv_aload_n hx hb dX12_layStates_88 rfl (lv_at hl 0 rfl) ?_
        obtain ⟨j2, hv3, hsp⟩ := fr_b1 hsp
        refine fr_getr C hR ha Fg_RX12_34 rfl hv3 dX12_layStates_89 ?_
        refine lv_iload hx hb dX12_layStates_92 (lv_at hl 4 rfl) ?_
        refine lv_lload_n hx hb dX12_layStates_94 rfl (lv_at hl 1 rfl) ?_
        obtain ⟨hk4, hsp⟩ := fr_ck hsp
        obtain ⟨hi5, hsp⟩ := fr_ck hsp
        refine fr_last C hR hk4 hi5 dX12_layStates_95 (fun H locs hR => ?_)
        obtain ⟨h6, eh6⟩ : ∃ z, z = fh_sJ h j2 (Int32.toNatClampNeg y8) y2 := ⟨_, rfl⟩
        rw [← eh6] at hR
        have hsp := fr_let eh6 hsp
        refine lv_aload_n hx hb dX12_layStates_96 rfl (lv_at hl 0 rfl) ?_
        obtain ⟨j7, hv8, hsp⟩ := fr_b1 hsp
        refine fr_getr C hR ha Fg_RX12_38 rfl hv8 dX12_layStates_97 ?_
        refine lv_iload hx hb dX12_layStates_100 (lv_at hl 4 rfl) ?_
        refine lv_lload hx hb dX12_layStates_102 (lv_at hl 3 rfl) ?_
        obtain ⟨hk9, hsp⟩ := fr_ck hsp
        obtain ⟨hi10, hsp⟩ := fr_ck hsp
        refine fr_last C hR hk9 hi10 dX12_layStates_104 (fun H locs hR => ?_)
        obtain ⟨h11, eh11⟩ : ∃ z, z = fh_sJ h6 j7 (Int32.toNatClampNeg y8) y6 := ⟨_, rfl⟩
        rw [← eh11] at hR
        have hsp := fr_let eh11 hsp
        refine lv_lload_n hx hb dX12_layStates_105 rfl (lv_at hl 1 rfl) ?_
        refine lv_aload_n hx hb dX12_layStates_106 rfl (lv_at hl 0 rfl) ?_
        refine fr_getj C hR ha Fg_RX12_124 rfl dX12_layStates_107 ?_
        refine lv_lload hx hb dX12_layStates_110 (lv_at hl 3 rfl) ?_
        obtain ⟨r12, E13, hsp⟩ := fr_b1 hsp
        refine fq_callS (rest := []) (st1 := [.long r12]) C hR (k_X12_floorOf C.2.2 E13) Y_X12_floorOf YS_X12_floorOf Lk_RX12_128 rfl hl.1 ⟨Nat.le_of_ble_eq_true rfl, Nat.le_of_ble_eq_true rfl⟩ rfl (Nat.le_of_ble_eq_true rfl) ⟨Nat.zero_le _, Nat.zero_le _⟩ rfl dX12_layStates_112 (fun H locs hR => ?_)
        refine lv_lstore (lv' := [(9, .long r12), (0, .ref (g.2.2 a)), (2, .long y2), (4, .long y4), (6, .long y6), (8, .int y8)]) hx hb dX12_layStates_115 hl (by decide) rfl (fun ls hl => ?_)
        refine lv_lload hx hb dX12_layStates_117 (lv_at hl 0 rfl) ?_
        refine lv_lload hx hb dX12_layStates_119 (lv_at hl 4 rfl) ?_
        refine lv_lmul hx hb dX12_layStates_121 ?_
        refine lv_lload_n hx hb dX12_layStates_122 rfl (lv_at hl 2 rfl) ?_
        refine lv_lsub hx hb dX12_layStates_123 ?_
        refine lv_topl (fun v14 ev14 => ?_)
        have hsp := fr_let ev14 hsp
        refine lv_lstore_n (lv' := [(2, .long v14), (9, .long r12), (0, .ref (g.2.2 a)), (4, .long y4), (6, .long y6), (8, .int y8)]) hx hb dX12_layStates_124 rfl hl (by decide) rfl (fun ls hl => ?_)
        refine lv_lload hx hb dX12_layStates_125 (lv_at hl 3 rfl) ?_
        refine lv_lload_n hx hb dX12_layStates_127 rfl (lv_at hl 0 rfl) ?_
        refine lv_lload_n hx hb dX12_layStates_128 rfl (lv_at hl 0 rfl) ?_
        refine lv_lmul hx hb dX12_layStates_129 ?_
        refine lv_lsub hx hb dX12_layStates_130 ?_
        refine lv_lload hx hb dX12_layStates_131 (lv_at hl 4 rfl) ?_
        obtain ⟨hz15, hsp⟩ := fr_ck hsp
        refine lv_ldiv hx hb dX12_layStates_133 (of_decide_eq_true hz15) ?_
        refine lv_topl (fun v16 ev16 => ?_)
        have hsp := fr_let ev16 hsp
        refine lv_lstore (lv' := [(6, .long v16), (2, .long v14), (9, .long r12), (0, .ref (g.2.2 a)), (4, .long y4), (8, .int y8)]) hx hb dX12_layStates_134 hl (by decide) rfl (fun ls hl => ?_)
        obtain ⟨v17, ev17⟩ : ∃ z : Int32, z = y8 + 1 := ⟨_, rfl⟩
        have hsp := fr_let ev17 hsp
        refine lv_iinc (v := v17) (lv' := [(8, .int v17), (6, .long v16), (2, .long v14), (9, .long r12), (0, .ref (g.2.2 a)), (4, .long y4)]) hx hb dX12_layStates_136 hl (k := 5) rfl (by rw [ev17]; rfl) (by decide) rfl (fun ls hl => ?_)
        refine lv_goto (tgt := 81) hx hb dX12_layStates_139 (by decide) ?_
        exact ih h11 v14 y4 v16 v17 _ _ _ hsp hR (lv_sub hl [4, 2, 5, 1, 0] rfl)
  refine lv_aload_n hx hb dX12_layStates_0 rfl (lv_at hl 0 rfl) ?_
  refine lv_iload_n hx hb dX12_layStates_1 rfl (lv_at hl 1 rfl) ?_
  refine lv_iconst (v := 1) hx hb dX12_layStates_2 (by decide) ?_
  obtain ⟨r1, E2, hsp⟩ := fr_b1 hsp
  refine fq_callV (rest := []) (st1 := [.int r1]) C hR (k_X12_of1 C.2.2 ha E2) Y_X12_of1 YV_X12_of1 Lk_RX12_86 ha ⟨_, _, rfl, by decide⟩ rfl hl.1 ⟨Nat.le_of_ble_eq_true rfl, Nat.le_of_ble_eq_true rfl⟩ rfl (Nat.le_of_ble_eq_true rfl) ⟨Nat.zero_le _, Nat.zero_le _⟩ rfl dX12_layStates_3 (fun H locs hR => ?_)
  refine lv_i2l hx hb dX12_layStates_6 rfl ?_
  refine lv_topl (fun v3 ev3 => ?_)
  have hsp := fr_let ev3 hsp
  refine lv_lstore_n (lv' := [(2, .long v3), (0, .ref (g.2.2 a)), (1, .int x1)]) hx hb dX12_layStates_7 rfl hl (by decide) rfl (fun ls hl => ?_)
  refine lv_aload_n hx hb dX12_layStates_8 rfl (lv_at hl 1 rfl) ?_
  refine lv_iload_n hx hb dX12_layStates_9 rfl (lv_at hl 2 rfl) ?_
  refine lv_iconst (v := 2) hx hb dX12_layStates_10 (by decide) ?_
  obtain ⟨r4, E5, hsp⟩ := fr_b1 hsp
  refine fq_callV (rest := []) (st1 := [.int r4]) C hR (k_X12_of1 C.2.2 ha E5) Y_X12_of1 YV_X12_of1 Lk_RX12_86 ha ⟨_, _, rfl, by decide⟩ rfl hl.1 ⟨Nat.le_of_ble_eq_true rfl, Nat.le_of_ble_eq_true rfl⟩ rfl (Nat.le_of_ble_eq_true rfl) ⟨Nat.zero_le _, Nat.zero_le _⟩ rfl dX12_layStates_11 (fun H locs hR => ?_)
  refine lv_i2l hx hb dX12_layStates_14 rfl ?_
  refine lv_topl (fun v6 ev6 => ?_)
  have hsp := fr_let ev6 hsp
  refine lv_lstore (lv' := [(4, .long v6), (2, .long v3), (0, .ref (g.2.2 a)), (1, .int x1)]) hx hb dX12_layStates_15 hl (by decide) rfl (fun ls hl => ?_)
  refine lv_aload_n hx hb dX12_layStates_17 rfl (lv_at hl 2 rfl) ?_
  refine lv_iload_n hx hb dX12_layStates_18 rfl (lv_at hl 3 rfl) ?_
  refine lv_iconst (v := 3) hx hb dX12_layStates_19 (by decide) ?_
  obtain ⟨r7, E8, hsp⟩ := fr_b1 hsp
  refine fq_callV (rest := []) (st1 := [.int r7]) C hR (k_X12_of1 C.2.2 ha E8) Y_X12_of1 YV_X12_of1 Lk_RX12_86 ha ⟨_, _, rfl, by decide⟩ rfl hl.1 ⟨Nat.le_of_ble_eq_true rfl, Nat.le_of_ble_eq_true rfl⟩ rfl (Nat.le_of_ble_eq_true rfl) ⟨Nat.zero_le _, Nat.zero_le _⟩ rfl dX12_layStates_20 (fun H locs hR => ?_)
  refine lv_i2l hx hb dX12_layStates_23 rfl ?_
  refine lv_topl (fun v9 ev9 => ?_)
  have hsp := fr_let ev9 hsp
  refine lv_lstore (lv' := [(6, .long v9), (4, .long v6), (2, .long v3), (0, .ref (g.2.2 a)), (1, .int x1)]) hx hb dX12_layStates_24 hl (by decide) rfl (fun ls hl => ?_)
  refine lv_lload hx hb dX12_layStates_26 (lv_at hl 1 rfl) ?_
  refine lv_lload_n hx hb dX12_layStates_28 rfl (lv_at hl 2 rfl) ?_
  refine lv_lload_n hx hb dX12_layStates_29 rfl (lv_at hl 2 rfl) ?_
  refine lv_lmul hx hb dX12_layStates_30 ?_
  refine lv_lsub hx hb dX12_layStates_31 ?_
  refine lv_lload hx hb dX12_layStates_32 (lv_at hl 0 rfl) ?_
  obtain ⟨hz10, hsp⟩ := fr_ck hsp
  refine lv_lrem hx hb dX12_layStates_34 (of_decide_eq_true hz10) ?_
  refine lv_lconst (v := 0) hx hb dX12_layStates_35 (by decide) ?_
  refine fr_lc_eq (tgt := 69) hx hb dX12_layStates_36 dX12_layStates_37 (by decide) (fun c11 => ?_) (fun c11 => ?_)
  · rw [if_pos c11] at hsp
    refine lv_aload_n hx hb dX12_layStates_69 rfl (lv_at hl 3 rfl) ?_
    refine lv_lload hx hb dX12_layStates_70 (lv_at hl 1 rfl) ?_
    obtain ⟨r12, E13, hsp⟩ := fr_b1 hsp
    refine fq_callS (rest := [.ref (g.2.2 a)]) (st1 := [.long r12, .ref (g.2.2 a)]) C hR (k_X12_rootOf C.2.2 E13) Y_X12_rootOf YS_X12_rootOf Lk_RX12_117 rfl hl.1 ⟨Nat.le_of_ble_eq_true rfl, Nat.le_of_ble_eq_true rfl⟩ rfl (Nat.le_of_ble_eq_true rfl) ⟨Nat.zero_le _, Nat.zero_le _⟩ rfl dX12_layStates_72 (fun H locs hR => ?_)
    refine fr_putj C hR ha Fp_RX12_124 rfl dX12_layStates_75 (fun H locs hR => ?_)
    obtain ⟨h14, eh14⟩ : ∃ z, z = fh_sJ h a 12 r12 := ⟨_, rfl⟩
    rw [← eh14] at hR
    have hsp := fr_let eh14 hsp
    refine lv_iconst (v := 0) hx hb dX12_layStates_78 (by decide) ?_
    refine lv_istore (lv' := [(8, .int (0 : Int32)), (6, .long v9), (4, .long v6), (2, .long v3), (0, .ref (g.2.2 a)), (1, .int x1)]) hx hb dX12_layStates_79 hl (by decide) rfl (fun ls hl => ?_)
    exact hb_81 20000 h14 v3 v6 v9 (0 : Int32) _ _ _ hsp hR (lv_sub hl [4, 3, 2, 1, 0] rfl)
  · rw [if_neg c11] at hsp
    refine lv_lload hx hb dX12_layStates_40 (lv_at hl 0 rfl) ?_
    obtain ⟨r15, E16, hsp⟩ := fr_b1 hsp
    refine fq_callS (rest := []) (st1 := [.long r15]) C hR (k_J9_abs_067f4 C.2.2 E16) Y_J9_abs_067f4 YS_J9_abs_067f4 Lk_RX12_121 rfl hl.1 ⟨Nat.le_of_ble_eq_true rfl, Nat.le_of_ble_eq_true rfl⟩ rfl (Nat.le_of_ble_eq_true rfl) ⟨Nat.zero_le _, Nat.zero_le _⟩ rfl dX12_layStates_42 (fun H locs hR => ?_)
    refine lv_lstore (lv' := [(8, .long r15), (6, .long v9), (4, .long v6), (2, .long v3), (0, .ref (g.2.2 a)), (1, .int x1)]) hx hb dX12_layStates_45 hl (by decide) rfl (fun ls hl => ?_)
    refine lv_lload_n hx hb dX12_layStates_47 rfl (lv_at hl 3 rfl) ?_
    refine lv_lload hx hb dX12_layStates_48 (lv_at hl 0 rfl) ?_
    refine lv_lmul hx hb dX12_layStates_50 ?_
    refine lv_topl (fun v17 ev17 => ?_)
    have hsp := fr_let ev17 hsp
    refine lv_lstore_n (lv' := [(2, .long v17), (8, .long r15), (6, .long v9), (4, .long v6), (0, .ref (g.2.2 a)), (1, .int x1)]) hx hb dX12_layStates_51 rfl hl (by decide) rfl (fun ls hl => ?_)
    refine lv_lload hx hb dX12_layStates_52 (lv_at hl 3 rfl) ?_
    refine lv_lload hx hb dX12_layStates_54 (lv_at hl 1 rfl) ?_
    refine lv_lload hx hb dX12_layStates_56 (lv_at hl 1 rfl) ?_
    refine lv_lmul hx hb dX12_layStates_58 ?_
    refine lv_lmul hx hb dX12_layStates_59 ?_
    refine lv_topl (fun v18 ev18 => ?_)
    have hsp := fr_let ev18 hsp
    refine lv_lstore (lv' := [(4, .long v18), (2, .long v17), (8, .long r15), (6, .long v9), (0, .ref (g.2.2 a)), (1, .int x1)]) hx hb dX12_layStates_60 hl (by decide) rfl (fun ls hl => ?_)
    refine lv_lload hx hb dX12_layStates_62 (lv_at hl 3 rfl) ?_
    refine lv_lload hx hb dX12_layStates_64 (lv_at hl 2 rfl) ?_
    refine lv_lmul hx hb dX12_layStates_66 ?_
    refine lv_topl (fun v19 ev19 => ?_)
    have hsp := fr_let ev19 hsp
    refine lv_lstore (lv' := [(6, .long v19), (4, .long v18), (2, .long v17), (8, .long r15), (0, .ref (g.2.2 a)), (1, .int x1)]) hx hb dX12_layStates_67 hl (by decide) rfl (fun ls hl => ?_)
    refine lv_aload_n hx hb dX12_layStates_69 rfl (lv_at hl 4 rfl) ?_
    refine lv_lload hx hb dX12_layStates_70 (lv_at hl 1 rfl) ?_
    obtain ⟨r20, E21, hsp⟩ := fr_b1 hsp
    refine fq_callS (rest := [.ref (g.2.2 a)]) (st1 := [.long r20, .ref (g.2.2 a)]) C hR (k_X12_rootOf C.2.2 E21) Y_X12_rootOf YS_X12_rootOf Lk_RX12_117 rfl hl.1 ⟨Nat.le_of_ble_eq_true rfl, Nat.le_of_ble_eq_true rfl⟩ rfl (Nat.le_of_ble_eq_true rfl) ⟨Nat.zero_le _, Nat.zero_le _⟩ rfl dX12_layStates_72 (fun H locs hR => ?_)
    refine fr_putj C hR ha Fp_RX12_124 rfl dX12_layStates_75 (fun H locs hR => ?_)
    obtain ⟨h22, eh22⟩ : ∃ z, z = fh_sJ h a 12 r20 := ⟨_, rfl⟩
    rw [← eh22] at hR
    have hsp := fr_let eh22 hsp
    refine lv_iconst (v := 0) hx hb dX12_layStates_78 (by decide) ?_
    refine lv_istore (lv' := [(8, .int (0 : Int32)), (6, .long v19), (4, .long v18), (2, .long v17), (0, .ref (g.2.2 a)), (1, .int x1)]) hx hb dX12_layStates_79 hl (by decide) rfl (fun ls hl => ?_)
    exact hb_81 20000 h22 v17 v18 v19 (0 : Int32) _ _ _ hsp hR (lv_sub hl [4, 3, 2, 1, 0] rfl)

/-! TermRowsModel.letsOut(J)Z -/
def z_X12_letsOut_b25 (S : fh_S) (a : Nat) : Nat → fh_H → Int64 → Int32 → Option (Int32 × fh_H)
  | 0, _, _, _ => none
  | n + 1, h, y1, y3 =>
    if (4 : Int32) ≤ y3 then (if (h.1 a 16) = 0 then (fh_b1 (z_X12_takesThen S h a) (fun h3 => fh_let (fh_sI h3 a 24 (0 : Int32)) (fun h5 => some ((1 : Int32), h5)))) else (some ((0 : Int32), h))) else (fh_b1 (h.2.2 a 14) (fun j6 => fh_b1 (h.2.2 a 13) (fun j8 => fh_ck (fh_kq S j8 14) (fh_ck (fh_in (y3 + (4 : Int32)) (S.2.2 j8)) (fh_ck (fh_kq S j6 14) (fh_ck (fh_in y3 (S.2.2 j6)) (fh_let (fh_sJ h j6 (Int32.toNatClampNeg y3) (h.2.1 j8 (Int32.toNatClampNeg (y3 + (4 : Int32))))) (fun h14 => fh_b1 (h14.2.2 a 14) (fun j15 => fh_b1 (h14.2.2 a 13) (fun j17 => fh_ck (fh_kq S j17 14) (fh_ck (fh_in (y3 + (4 : Int32)) (S.2.2 j17)) (fh_ck (fh_in y3 (S.2.2 j17)) (fh_b2 (z_X12_timesAnd S h14 a (-(h14.2.1 j17 (Int32.toNatClampNeg (y3 + (4 : Int32))))) y1 (h14.2.1 j17 (Int32.toNatClampNeg y3))) (fun r22 h23 => fh_ck (fh_kq S j15 14) (fh_ck (fh_in (y3 + (4 : Int32)) (S.2.2 j15)) (fh_let (fh_sJ h23 j15 (Int32.toNatClampNeg (y3 + (4 : Int32))) r22) (fun h27 => fh_let (y3 + 1) (fun v28 => z_X12_letsOut_b25 S a n h27 y1 v28))))))))))))))))))
def z_X12_letsOut (S : fh_S) (h : fh_H) (a : Nat) (x1 : Int64) : Option (Int32 × fh_H) :=
    if (1000000000 : Int64) < x1 then (some ((0 : Int32), h)) else (if (-1000000000 : Int64) ≤ x1 then (fh_let (fh_sI h a 16 (0 : Int32)) (fun h3 => z_X12_letsOut_b25 S a 20000 h3 x1 (0 : Int32))) else (some ((0 : Int32), h)))
set_option maxHeartbeats 4000000 in
set_option maxRecDepth 100000 in
theorem k_X12_letsOut {l : Launch} {S : fh_S} {g : fh_G} {h h' : fh_H} (hj : fh_inj S g) {a : Nat} {x1 : Int64} {r : Int32} (ha : fh_kq S a 12 = true) (hsp : z_X12_letsOut S h a x1 = some (r, h')) : fh_M l yX12_letsOut cX12_letsOut 4 (some .boolean) (fh_rm 3) S g [.ref (g.2.2 a), .long x1] h (some (.int r)) h' := by
  unfold z_X12_letsOut at hsp
  refine fr_head (own := RX12) (by decide) rfl hj (Nat.le_of_ble_eq_true rfl) ?_
  intro p e s m below meth c ls C hr hlocks hR hl
  have hl : lv_has ls 4 [(0, .ref (g.2.2 a)), (1, .long x1)] := hl
  have hx := C.1.1
  have hb := C.1.2.1
  have hb_25 : ∀ (n : Nat) (h : fh_H) (y1 : Int64) (y3 : Int32) (H : Heap) (locs : List Loc) (ls : Array Slot), z_X12_letsOut_b25 S a n h y1 y3 = some (r, h') → fh_R S g s.heap h H locs → lv_has ls 4 [(0, .ref (g.2.2 a)), (1, .long y1), (3, .int y3)] → fh_Wk p l e 3 s m [.ref (g.2.2 a), .long x1] below meth c S g (some (.int r)) h' H locs (F0 m 25 ls []) := by
    intro n
    induction n with
    | zero => intro h y1 y3 H locs ls hsp; cases hsp
    | succ n ih =>
      intro h y1 y3 H locs ls hsp hR hl
      rw [z_X12_letsOut_b25] at hsp
      refine lv_iload_n hx hb dX12_letsOut_25 rfl (lv_at hl 2 rfl) ?_
      refine lv_iconst (v := 4) hx hb dX12_letsOut_26 (by decide) ?_
      refine lv_icmp_ge (tgt := 78) hx hb dX12_letsOut_27 (by decide) (fun c1 => ?_) (fun c1 => ?_)
      · rw [if_pos c1] at hsp
        refine lv_aload_n hx hb dX12_letsOut_78 rfl (lv_at hl 0 rfl) ?_
        refine fr_geti C hR ha Fg_RX12_141 rfl dX12_letsOut_79 ?_
        refine lv_if_eq (tgt := 87) hx hb dX12_letsOut_82 (by decide) (fun c2 => ?_) (fun c2 => ?_)
        · rw [if_pos c2] at hsp
          refine lv_aload_n hx hb dX12_letsOut_87 rfl (lv_at hl 0 rfl) ?_
          obtain ⟨h3, E4, hsp⟩ := fr_b1 hsp
          refine fq_callV (rest := []) (st1 := []) C hR (k_X12_takesThen C.2.2 ha E4) Y_X12_takesThen YV_X12_takesThen Lk_RX12_207 ha ⟨_, _, rfl, by decide⟩ rfl hl.1 ⟨Nat.le_of_ble_eq_true rfl, Nat.le_of_ble_eq_true rfl⟩ rfl (Nat.le_of_ble_eq_true rfl) ⟨Nat.zero_le _, Nat.zero_le _⟩ rfl dX12_letsOut_88 (fun H locs hR => ?_)
          refine lv_aload_n hx hb dX12_letsOut_91 rfl (lv_at hl 0 rfl) ?_
          refine lv_iconst (v := 0) hx hb dX12_letsOut_92 (by decide) ?_
          refine fr_puti C hR ha Fp_RX12_173 rfl dX12_letsOut_93 (fun H locs hR => ?_)
          obtain ⟨h5, eh5⟩ : ∃ z, z = fh_sI h3 a 24 (0 : Int32) := ⟨_, rfl⟩
          rw [← eh5] at hR
          have hsp := fr_let eh5 hsp
          refine lv_iconst (v := 1) hx hb dX12_letsOut_96 (by decide) ?_
          obtain ⟨e1, e2⟩ := fr_s2 hsp
          exact fr_zret C hr hlocks hR (Or.inr rfl) e1 e2 dX12_letsOut_97
        · rw [if_neg c2] at hsp
          refine lv_iconst (v := 0) hx hb dX12_letsOut_85 (by decide) ?_
          obtain ⟨e1, e2⟩ := fr_s2 hsp
          exact fr_zret C hr hlocks hR (Or.inl rfl) e1 e2 dX12_letsOut_86
      · rw [if_neg c1] at hsp
        refine lv_aload_n hx hb dX12_letsOut_30 rfl (lv_at hl 0 rfl) ?_
        obtain ⟨j6, hv7, hsp⟩ := fr_b1 hsp
        refine fr_getr C hR ha Fg_RX12_44 rfl hv7 dX12_letsOut_31 ?_
        refine lv_iload_n hx hb dX12_letsOut_34 rfl (lv_at hl 2 rfl) ?_
        refine lv_aload_n hx hb dX12_letsOut_35 rfl (lv_at hl 0 rfl) ?_
        obtain ⟨j8, hv9, hsp⟩ := fr_b1 hsp
        refine fr_getr C hR ha Fg_RX12_41 rfl hv9 dX12_letsOut_36 ?_
        refine lv_iload_n hx hb dX12_letsOut_39 rfl (lv_at hl 2 rfl) ?_
        refine lv_iconst (v := 4) hx hb dX12_letsOut_40 (by decide) ?_
        refine lv_iadd hx hb dX12_letsOut_41 ?_
        obtain ⟨hk10, hsp⟩ := fr_ck hsp
        obtain ⟨hi11, hsp⟩ := fr_ck hsp
        refine fr_lald C hR hk10 hi11 dX12_letsOut_42 ?_
        obtain ⟨hk12, hsp⟩ := fr_ck hsp
        obtain ⟨hi13, hsp⟩ := fr_ck hsp
        refine fr_last C hR hk12 hi13 dX12_letsOut_43 (fun H locs hR => ?_)
        obtain ⟨h14, eh14⟩ : ∃ z, z = fh_sJ h j6 (Int32.toNatClampNeg y3) (h.2.1 j8 (Int32.toNatClampNeg (y3 + (4 : Int32)))) := ⟨_, rfl⟩
        rw [← eh14] at hR
        have hsp := fr_let eh14 hsp
        refine lv_aload_n hx hb dX12_letsOut_44 rfl (lv_at hl 0 rfl) ?_
        obtain ⟨j15, hv16, hsp⟩ := fr_b1 hsp
        refine fr_getr C hR ha Fg_RX12_44 rfl hv16 dX12_letsOut_45 ?_
        refine lv_iload_n hx hb dX12_letsOut_48 rfl (lv_at hl 2 rfl) ?_
        refine lv_iconst (v := 4) hx hb dX12_letsOut_49 (by decide) ?_
        refine lv_iadd hx hb dX12_letsOut_50 ?_
        refine lv_aload_n hx hb dX12_letsOut_51 rfl (lv_at hl 0 rfl) ?_
        refine lv_aload_n hx hb dX12_letsOut_52 rfl (lv_at hl 0 rfl) ?_
        obtain ⟨j17, hv18, hsp⟩ := fr_b1 hsp
        refine fr_getr C hR ha Fg_RX12_41 rfl hv18 dX12_letsOut_53 ?_
        refine lv_iload_n hx hb dX12_letsOut_56 rfl (lv_at hl 2 rfl) ?_
        refine lv_iconst (v := 4) hx hb dX12_letsOut_57 (by decide) ?_
        refine lv_iadd hx hb dX12_letsOut_58 ?_
        obtain ⟨hk19, hsp⟩ := fr_ck hsp
        obtain ⟨hi20, hsp⟩ := fr_ck hsp
        refine fr_lald C hR hk19 hi20 dX12_letsOut_59 ?_
        refine lv_lneg hx hb dX12_letsOut_60 ?_
        refine lv_lload_n hx hb dX12_letsOut_61 rfl (lv_at hl 1 rfl) ?_
        refine lv_aload_n hx hb dX12_letsOut_62 rfl (lv_at hl 0 rfl) ?_
        refine fr_getr C hR ha Fg_RX12_41 rfl hv18 dX12_letsOut_63 ?_
        refine lv_iload_n hx hb dX12_letsOut_66 rfl (lv_at hl 2 rfl) ?_
        obtain ⟨hi21, hsp⟩ := fr_ck hsp
        refine fr_lald C hR hk19 hi21 dX12_letsOut_67 ?_
        obtain ⟨r22, h23, E24, hsp⟩ := fr_b2 hsp
        refine fq_callV (rest := [.int (y3 + (4 : Int32)), .ref (g.2.2 j15)]) (st1 := [.long r22, .int (y3 + (4 : Int32)), .ref (g.2.2 j15)]) C hR (k_X12_timesAnd C.2.2 ha E24) Y_X12_timesAnd YV_X12_timesAnd Lk_RX12_204 ha ⟨_, _, rfl, by decide⟩ rfl hl.1 ⟨Nat.le_of_ble_eq_true rfl, Nat.le_of_ble_eq_true rfl⟩ rfl (Nat.le_of_ble_eq_true rfl) ⟨Nat.zero_le _, Nat.zero_le _⟩ rfl dX12_letsOut_68 (fun H locs hR => ?_)
        obtain ⟨hk25, hsp⟩ := fr_ck hsp
        obtain ⟨hi26, hsp⟩ := fr_ck hsp
        refine fr_last C hR hk25 hi26 dX12_letsOut_71 (fun H locs hR => ?_)
        obtain ⟨h27, eh27⟩ : ∃ z, z = fh_sJ h23 j15 (Int32.toNatClampNeg (y3 + (4 : Int32))) r22 := ⟨_, rfl⟩
        rw [← eh27] at hR
        have hsp := fr_let eh27 hsp
        obtain ⟨v28, ev28⟩ : ∃ z : Int32, z = y3 + 1 := ⟨_, rfl⟩
        have hsp := fr_let ev28 hsp
        refine lv_iinc (v := v28) (lv' := [(3, .int v28), (0, .ref (g.2.2 a)), (1, .long y1)]) hx hb dX12_letsOut_72 hl (k := 2) rfl (by rw [ev28]; rfl) (by decide) rfl (fun ls hl => ?_)
        refine lv_goto (tgt := 25) hx hb dX12_letsOut_75 (by decide) ?_
        exact ih h27 y1 v28 _ _ _ hsp hR (lv_sub hl [1, 2, 0] rfl)
  refine lv_lload_n hx hb dX12_letsOut_0 rfl (lv_at hl 1 rfl) ?_
  refine lv_ldc2 hx hb C.1.2.2.2.1 (C.1.2.2.2.2 _ Kc_RX12_200) dX12_letsOut_1 ?_
  refine fr_lc_gt (tgt := 16) hx hb dX12_letsOut_4 dX12_letsOut_5 (by decide) (fun c1 => ?_) (fun c1 => ?_)
  · rw [if_pos c1] at hsp
    refine lv_iconst (v := 0) hx hb dX12_letsOut_16 (by decide) ?_
    obtain ⟨e1, e2⟩ := fr_s2 hsp
    exact fr_zret C hr hlocks hR (Or.inl rfl) e1 e2 dX12_letsOut_17
  · rw [if_neg c1] at hsp
    refine lv_lload_n hx hb dX12_letsOut_8 rfl (lv_at hl 1 rfl) ?_
    refine lv_ldc2 hx hb C.1.2.2.2.1 (C.1.2.2.2.2 _ Kc_RX12_202) dX12_letsOut_9 ?_
    refine fr_lc_ge (tgt := 18) hx hb dX12_letsOut_12 dX12_letsOut_13 (by decide) (fun c2 => ?_) (fun c2 => ?_)
    · rw [if_pos c2] at hsp
      refine lv_aload_n hx hb dX12_letsOut_18 rfl (lv_at hl 0 rfl) ?_
      refine lv_iconst (v := 0) hx hb dX12_letsOut_19 (by decide) ?_
      refine fr_putz C hR ha Fp_RX12_141 rfl (Or.inl rfl) dX12_letsOut_20 (fun H locs hR => ?_)
      obtain ⟨h3, eh3⟩ : ∃ z, z = fh_sI h a 16 (0 : Int32) := ⟨_, rfl⟩
      rw [← eh3] at hR
      have hsp := fr_let eh3 hsp
      refine lv_iconst (v := 0) hx hb dX12_letsOut_23 (by decide) ?_
      refine lv_istore_n (lv' := [(3, .int (0 : Int32)), (0, .ref (g.2.2 a)), (1, .long x1)]) hx hb dX12_letsOut_24 rfl hl (by decide) rfl (fun ls hl => ?_)
      exact hb_25 20000 h3 x1 (0 : Int32) _ _ _ hsp hR (lv_sub hl [1, 2, 0] rfl)
    · rw [if_neg c2] at hsp
      refine lv_iconst (v := 0) hx hb dX12_letsOut_16 (by decide) ?_
      obtain ⟨e1, e2⟩ := fr_s2 hsp
      exact fr_zret C hr hlocks hR (Or.inl rfl) e1 e2 dX12_letsOut_17

/-! TermRowsModel.readsSingle(J)V -/
def z_X12_readsSingle_b2 (S : fh_S) (a : Nat) : Nat → fh_H → Int64 → Int32 → Option fh_H
  | 0, _, _, _ => none
  | n + 1, h, y1, y3 =>
    if (8 : Int32) ≤ y3 then (some h) else (fh_b1 (h.2.2 a 14) (fun j2 => fh_b1 (h.2.2 a 13) (fun j4 => fh_ck (fh_kq S j4 14) (fh_ck (fh_in y3 (S.2.2 j4)) (fh_ck (fh_in (y3 + (1 : Int32)) (S.2.2 j4)) (fh_b2 (z_X12_timesAnd S h a (h.2.1 j4 (Int32.toNatClampNeg y3)) y1 (h.2.1 j4 (Int32.toNatClampNeg (y3 + (1 : Int32))))) (fun r9 h10 => fh_ck (fh_kq S j2 14) (fh_ck (fh_in y3 (S.2.2 j2)) (fh_let (fh_sJ h10 j2 (Int32.toNatClampNeg y3) r9) (fun h14 => fh_b1 (h14.2.2 a 14) (fun j15 => fh_b1 (h14.2.2 a 13) (fun j17 => fh_ck (fh_kq S j17 14) (fh_ck (fh_in y3 (S.2.2 j17)) (fh_ck (fh_kq S j15 14) (fh_ck (fh_in (y3 + (1 : Int32)) (S.2.2 j15)) (fh_let (fh_sJ h14 j15 (Int32.toNatClampNeg (y3 + (1 : Int32))) (h14.2.1 j17 (Int32.toNatClampNeg y3))) (fun h23 => fh_b1 (h23.2.2 a 14) (fun j24 => fh_ck (fh_kq S j24 14) (fh_ck (fh_in (y3 + (2 : Int32)) (S.2.2 j24)) (fh_let (fh_sJ h23 j24 (Int32.toNatClampNeg (y3 + (2 : Int32))) (0 : Int64)) (fun h28 => fh_b1 (h28.2.2 a 14) (fun j29 => fh_ck (fh_kq S j29 14) (fh_ck (fh_in (y3 + (3 : Int32)) (S.2.2 j29)) (fh_let (fh_sJ h28 j29 (Int32.toNatClampNeg (y3 + (3 : Int32))) (0 : Int64)) (fun h33 => fh_let (y3 + 4) (fun v34 => z_X12_readsSingle_b2 S a n h33 y1 v34))))))))))))))))))))))))))
def z_X12_readsSingle (S : fh_S) (h : fh_H) (a : Nat) (x1 : Int64) : Option fh_H :=
    z_X12_readsSingle_b2 S a 20000 h x1 (0 : Int32)
set_option maxHeartbeats 4000000 in
set_option maxRecDepth 100000 in
theorem k_X12_readsSingle {l : Launch} {S : fh_S} {g : fh_G} {h h' : fh_H} (hj : fh_inj S g) {a : Nat} {x1 : Int64} (ha : fh_kq S a 12 = true) (hsp : z_X12_readsSingle S h a x1 = some h') : fh_M l yX12_readsSingle cX12_readsSingle 4 none (fh_rm 3) S g [.ref (g.2.2 a), .long x1] h none h' := by
  unfold z_X12_readsSingle at hsp
  refine fr_head (own := RX12) (by decide) rfl hj (Nat.le_of_ble_eq_true rfl) ?_
  intro p e s m below meth c ls C hr hlocks hR hl
  have hl : lv_has ls 4 [(0, .ref (g.2.2 a)), (1, .long x1)] := hl
  have hx := C.1.1
  have hb := C.1.2.1
  have hb_2 : ∀ (n : Nat) (h : fh_H) (y1 : Int64) (y3 : Int32) (H : Heap) (locs : List Loc) (ls : Array Slot), z_X12_readsSingle_b2 S a n h y1 y3 = some h' → fh_R S g s.heap h H locs → lv_has ls 4 [(0, .ref (g.2.2 a)), (1, .long y1), (3, .int y3)] → fh_Wk p l e 3 s m [.ref (g.2.2 a), .long x1] below meth c S g none h' H locs (F0 m 2 ls []) := by
    intro n
    induction n with
    | zero => intro h y1 y3 H locs ls hsp; cases hsp
    | succ n ih =>
      intro h y1 y3 H locs ls hsp hR hl
      rw [z_X12_readsSingle_b2] at hsp
      refine lv_iload_n hx hb dX12_readsSingle_2 rfl (lv_at hl 2 rfl) ?_
      refine lv_bipush (v := 8) hx hb dX12_readsSingle_3 (by decide) ?_
      refine lv_icmp_ge (tgt := 71) hx hb dX12_readsSingle_5 (by decide) (fun c1 => ?_) (fun c1 => ?_)
      · rw [if_pos c1] at hsp
        exact fr_vret C hr hlocks hR (fr_s1 hsp) dX12_readsSingle_71
      · rw [if_neg c1] at hsp
        refine lv_aload_n hx hb dX12_readsSingle_8 rfl (lv_at hl 0 rfl) ?_
        obtain ⟨j2, hv3, hsp⟩ := fr_b1 hsp
        refine fr_getr C hR ha Fg_RX12_44 rfl hv3 dX12_readsSingle_9 ?_
        refine lv_iload_n hx hb dX12_readsSingle_12 rfl (lv_at hl 2 rfl) ?_
        refine lv_aload_n hx hb dX12_readsSingle_13 rfl (lv_at hl 0 rfl) ?_
        refine lv_aload_n hx hb dX12_readsSingle_14 rfl (lv_at hl 0 rfl) ?_
        obtain ⟨j4, hv5, hsp⟩ := fr_b1 hsp
        refine fr_getr C hR ha Fg_RX12_41 rfl hv5 dX12_readsSingle_15 ?_
        refine lv_iload_n hx hb dX12_readsSingle_18 rfl (lv_at hl 2 rfl) ?_
        obtain ⟨hk6, hsp⟩ := fr_ck hsp
        obtain ⟨hi7, hsp⟩ := fr_ck hsp
        refine fr_lald C hR hk6 hi7 dX12_readsSingle_19 ?_
        refine lv_lload_n hx hb dX12_readsSingle_20 rfl (lv_at hl 1 rfl) ?_
        refine lv_aload_n hx hb dX12_readsSingle_21 rfl (lv_at hl 0 rfl) ?_
        refine fr_getr C hR ha Fg_RX12_41 rfl hv5 dX12_readsSingle_22 ?_
        refine lv_iload_n hx hb dX12_readsSingle_25 rfl (lv_at hl 2 rfl) ?_
        refine lv_iconst (v := 1) hx hb dX12_readsSingle_26 (by decide) ?_
        refine lv_iadd hx hb dX12_readsSingle_27 ?_
        obtain ⟨hi8, hsp⟩ := fr_ck hsp
        refine fr_lald C hR hk6 hi8 dX12_readsSingle_28 ?_
        obtain ⟨r9, h10, E11, hsp⟩ := fr_b2 hsp
        refine fq_callV (rest := [.int y3, .ref (g.2.2 j2)]) (st1 := [.long r9, .int y3, .ref (g.2.2 j2)]) C hR (k_X12_timesAnd C.2.2 ha E11) Y_X12_timesAnd YV_X12_timesAnd Lk_RX12_204 ha ⟨_, _, rfl, by decide⟩ rfl hl.1 ⟨Nat.le_of_ble_eq_true rfl, Nat.le_of_ble_eq_true rfl⟩ rfl (Nat.le_of_ble_eq_true rfl) ⟨Nat.zero_le _, Nat.zero_le _⟩ rfl dX12_readsSingle_29 (fun H locs hR => ?_)
        obtain ⟨hk12, hsp⟩ := fr_ck hsp
        obtain ⟨hi13, hsp⟩ := fr_ck hsp
        refine fr_last C hR hk12 hi13 dX12_readsSingle_32 (fun H locs hR => ?_)
        obtain ⟨h14, eh14⟩ : ∃ z, z = fh_sJ h10 j2 (Int32.toNatClampNeg y3) r9 := ⟨_, rfl⟩
        rw [← eh14] at hR
        have hsp := fr_let eh14 hsp
        refine lv_aload_n hx hb dX12_readsSingle_33 rfl (lv_at hl 0 rfl) ?_
        obtain ⟨j15, hv16, hsp⟩ := fr_b1 hsp
        refine fr_getr C hR ha Fg_RX12_44 rfl hv16 dX12_readsSingle_34 ?_
        refine lv_iload_n hx hb dX12_readsSingle_37 rfl (lv_at hl 2 rfl) ?_
        refine lv_iconst (v := 1) hx hb dX12_readsSingle_38 (by decide) ?_
        refine lv_iadd hx hb dX12_readsSingle_39 ?_
        refine lv_aload_n hx hb dX12_readsSingle_40 rfl (lv_at hl 0 rfl) ?_
        obtain ⟨j17, hv18, hsp⟩ := fr_b1 hsp
        refine fr_getr C hR ha Fg_RX12_41 rfl hv18 dX12_readsSingle_41 ?_
        refine lv_iload_n hx hb dX12_readsSingle_44 rfl (lv_at hl 2 rfl) ?_
        obtain ⟨hk19, hsp⟩ := fr_ck hsp
        obtain ⟨hi20, hsp⟩ := fr_ck hsp
        refine fr_lald C hR hk19 hi20 dX12_readsSingle_45 ?_
        obtain ⟨hk21, hsp⟩ := fr_ck hsp
        obtain ⟨hi22, hsp⟩ := fr_ck hsp
        refine fr_last C hR hk21 hi22 dX12_readsSingle_46 (fun H locs hR => ?_)
        obtain ⟨h23, eh23⟩ : ∃ z, z = fh_sJ h14 j15 (Int32.toNatClampNeg (y3 + (1 : Int32))) (h14.2.1 j17 (Int32.toNatClampNeg y3)) := ⟨_, rfl⟩
        rw [← eh23] at hR
        have hsp := fr_let eh23 hsp
        refine lv_aload_n hx hb dX12_readsSingle_47 rfl (lv_at hl 0 rfl) ?_
        obtain ⟨j24, hv25, hsp⟩ := fr_b1 hsp
        refine fr_getr C hR ha Fg_RX12_44 rfl hv25 dX12_readsSingle_48 ?_
        refine lv_iload_n hx hb dX12_readsSingle_51 rfl (lv_at hl 2 rfl) ?_
        refine lv_iconst (v := 2) hx hb dX12_readsSingle_52 (by decide) ?_
        refine lv_iadd hx hb dX12_readsSingle_53 ?_
        refine lv_lconst (v := 0) hx hb dX12_readsSingle_54 (by decide) ?_
        obtain ⟨hk26, hsp⟩ := fr_ck hsp
        obtain ⟨hi27, hsp⟩ := fr_ck hsp
        refine fr_last C hR hk26 hi27 dX12_readsSingle_55 (fun H locs hR => ?_)
        obtain ⟨h28, eh28⟩ : ∃ z, z = fh_sJ h23 j24 (Int32.toNatClampNeg (y3 + (2 : Int32))) (0 : Int64) := ⟨_, rfl⟩
        rw [← eh28] at hR
        have hsp := fr_let eh28 hsp
        refine lv_aload_n hx hb dX12_readsSingle_56 rfl (lv_at hl 0 rfl) ?_
        obtain ⟨j29, hv30, hsp⟩ := fr_b1 hsp
        refine fr_getr C hR ha Fg_RX12_44 rfl hv30 dX12_readsSingle_57 ?_
        refine lv_iload_n hx hb dX12_readsSingle_60 rfl (lv_at hl 2 rfl) ?_
        refine lv_iconst (v := 3) hx hb dX12_readsSingle_61 (by decide) ?_
        refine lv_iadd hx hb dX12_readsSingle_62 ?_
        refine lv_lconst (v := 0) hx hb dX12_readsSingle_63 (by decide) ?_
        obtain ⟨hk31, hsp⟩ := fr_ck hsp
        obtain ⟨hi32, hsp⟩ := fr_ck hsp
        refine fr_last C hR hk31 hi32 dX12_readsSingle_64 (fun H locs hR => ?_)
        obtain ⟨h33, eh33⟩ : ∃ z, z = fh_sJ h28 j29 (Int32.toNatClampNeg (y3 + (3 : Int32))) (0 : Int64) := ⟨_, rfl⟩
        rw [← eh33] at hR
        have hsp := fr_let eh33 hsp
        obtain ⟨v34, ev34⟩ : ∃ z : Int32, z = y3 + 4 := ⟨_, rfl⟩
        have hsp := fr_let ev34 hsp
        refine lv_iinc (v := v34) (lv' := [(3, .int v34), (0, .ref (g.2.2 a)), (1, .long y1)]) hx hb dX12_readsSingle_65 hl (k := 2) rfl (by rw [ev34]; rfl) (by decide) rfl (fun ls hl => ?_)
        refine lv_goto (tgt := 2) hx hb dX12_readsSingle_68 (by decide) ?_
        exact ih h33 y1 v34 _ _ _ hsp hR (lv_sub hl [1, 2, 0] rfl)
  refine lv_iconst (v := 0) hx hb dX12_readsSingle_0 (by decide) ?_
  refine lv_istore_n (lv' := [(3, .int (0 : Int32)), (0, .ref (g.2.2 a)), (1, .long x1)]) hx hb dX12_readsSingle_1 rfl hl (by decide) rfl (fun ls hl => ?_)
  exact hb_2 20000 h x1 (0 : Int32) _ _ _ hsp hR (lv_sub hl [1, 2, 0] rfl)

/-! TermRowsModel.readsOne(J)V -/
def z_X12_readsOne_b2 (S : fh_S) (a : Nat) : Nat → fh_H → Int64 → Int32 → Option fh_H
  | 0, _, _, _ => none
  | n + 1, h, y1, y3 =>
    if (8 : Int32) ≤ y3 then (some h) else (fh_b1 (h.2.2 a 14) (fun j2 => fh_b1 (h.2.2 a 13) (fun j4 => fh_ck (fh_kq S j4 14) (fh_ck (fh_in y3 (S.2.2 j4)) (fh_ck (fh_in (y3 + (2 : Int32)) (S.2.2 j4)) (fh_b2 (z_X12_timesAnd S h a (h.2.1 j4 (Int32.toNatClampNeg y3)) y1 (h.2.1 j4 (Int32.toNatClampNeg (y3 + (2 : Int32))))) (fun r9 h10 => fh_ck (fh_kq S j2 14) (fh_ck (fh_in y3 (S.2.2 j2)) (fh_let (fh_sJ h10 j2 (Int32.toNatClampNeg y3) r9) (fun h14 => fh_b1 (h14.2.2 a 14) (fun j15 => fh_b1 (h14.2.2 a 13) (fun j17 => fh_ck (fh_kq S j17 14) (fh_ck (fh_in (y3 + (1 : Int32)) (S.2.2 j17)) (fh_ck (fh_in (y3 + (3 : Int32)) (S.2.2 j17)) (fh_b2 (z_X12_timesAnd S h14 a (h14.2.1 j17 (Int32.toNatClampNeg (y3 + (1 : Int32)))) y1 (h14.2.1 j17 (Int32.toNatClampNeg (y3 + (3 : Int32))))) (fun r22 h23 => fh_ck (fh_kq S j15 14) (fh_ck (fh_in (y3 + (1 : Int32)) (S.2.2 j15)) (fh_let (fh_sJ h23 j15 (Int32.toNatClampNeg (y3 + (1 : Int32))) r22) (fun h27 => fh_b1 (h27.2.2 a 14) (fun j28 => fh_b1 (h27.2.2 a 13) (fun j30 => fh_ck (fh_kq S j30 14) (fh_ck (fh_in y3 (S.2.2 j30)) (fh_ck (fh_kq S j28 14) (fh_ck (fh_in (y3 + (2 : Int32)) (S.2.2 j28)) (fh_let (fh_sJ h27 j28 (Int32.toNatClampNeg (y3 + (2 : Int32))) (h27.2.1 j30 (Int32.toNatClampNeg y3))) (fun h36 => fh_b1 (h36.2.2 a 14) (fun j37 => fh_b1 (h36.2.2 a 13) (fun j39 => fh_ck (fh_kq S j39 14) (fh_ck (fh_in (y3 + (1 : Int32)) (S.2.2 j39)) (fh_ck (fh_kq S j37 14) (fh_ck (fh_in (y3 + (3 : Int32)) (S.2.2 j37)) (fh_let (fh_sJ h36 j37 (Int32.toNatClampNeg (y3 + (3 : Int32))) (h36.2.1 j39 (Int32.toNatClampNeg (y3 + (1 : Int32))))) (fun h45 => fh_let (y3 + 4) (fun v46 => z_X12_readsOne_b2 S a n h45 y1 v46))))))))))))))))))))))))))))))))))
def z_X12_readsOne (S : fh_S) (h : fh_H) (a : Nat) (x1 : Int64) : Option fh_H :=
    z_X12_readsOne_b2 S a 20000 h x1 (0 : Int32)
set_option maxHeartbeats 4000000 in
set_option maxRecDepth 100000 in
theorem k_X12_readsOne {l : Launch} {S : fh_S} {g : fh_G} {h h' : fh_H} (hj : fh_inj S g) {a : Nat} {x1 : Int64} (ha : fh_kq S a 12 = true) (hsp : z_X12_readsOne S h a x1 = some h') : fh_M l yX12_readsOne cX12_readsOne 4 none (fh_rm 3) S g [.ref (g.2.2 a), .long x1] h none h' := by
  unfold z_X12_readsOne at hsp
  refine fr_head (own := RX12) (by decide) rfl hj (Nat.le_of_ble_eq_true rfl) ?_
  intro p e s m below meth c ls C hr hlocks hR hl
  have hl : lv_has ls 4 [(0, .ref (g.2.2 a)), (1, .long x1)] := hl
  have hx := C.1.1
  have hb := C.1.2.1
  have hb_2 : ∀ (n : Nat) (h : fh_H) (y1 : Int64) (y3 : Int32) (H : Heap) (locs : List Loc) (ls : Array Slot), z_X12_readsOne_b2 S a n h y1 y3 = some h' → fh_R S g s.heap h H locs → lv_has ls 4 [(0, .ref (g.2.2 a)), (1, .long y1), (3, .int y3)] → fh_Wk p l e 3 s m [.ref (g.2.2 a), .long x1] below meth c S g none h' H locs (F0 m 2 ls []) := by
    intro n
    induction n with
    | zero => intro h y1 y3 H locs ls hsp; cases hsp
    | succ n ih =>
      intro h y1 y3 H locs ls hsp hR hl
      rw [z_X12_readsOne_b2] at hsp
      refine lv_iload_n hx hb dX12_readsOne_2 rfl (lv_at hl 2 rfl) ?_
      refine lv_bipush (v := 8) hx hb dX12_readsOne_3 (by decide) ?_
      refine lv_icmp_ge (tgt := 98) hx hb dX12_readsOne_5 (by decide) (fun c1 => ?_) (fun c1 => ?_)
      · rw [if_pos c1] at hsp
        exact fr_vret C hr hlocks hR (fr_s1 hsp) dX12_readsOne_98
      · rw [if_neg c1] at hsp
        refine lv_aload_n hx hb dX12_readsOne_8 rfl (lv_at hl 0 rfl) ?_
        obtain ⟨j2, hv3, hsp⟩ := fr_b1 hsp
        refine fr_getr C hR ha Fg_RX12_44 rfl hv3 dX12_readsOne_9 ?_
        refine lv_iload_n hx hb dX12_readsOne_12 rfl (lv_at hl 2 rfl) ?_
        refine lv_aload_n hx hb dX12_readsOne_13 rfl (lv_at hl 0 rfl) ?_
        refine lv_aload_n hx hb dX12_readsOne_14 rfl (lv_at hl 0 rfl) ?_
        obtain ⟨j4, hv5, hsp⟩ := fr_b1 hsp
        refine fr_getr C hR ha Fg_RX12_41 rfl hv5 dX12_readsOne_15 ?_
        refine lv_iload_n hx hb dX12_readsOne_18 rfl (lv_at hl 2 rfl) ?_
        obtain ⟨hk6, hsp⟩ := fr_ck hsp
        obtain ⟨hi7, hsp⟩ := fr_ck hsp
        refine fr_lald C hR hk6 hi7 dX12_readsOne_19 ?_
        refine lv_lload_n hx hb dX12_readsOne_20 rfl (lv_at hl 1 rfl) ?_
        refine lv_aload_n hx hb dX12_readsOne_21 rfl (lv_at hl 0 rfl) ?_
        refine fr_getr C hR ha Fg_RX12_41 rfl hv5 dX12_readsOne_22 ?_
        refine lv_iload_n hx hb dX12_readsOne_25 rfl (lv_at hl 2 rfl) ?_
        refine lv_iconst (v := 2) hx hb dX12_readsOne_26 (by decide) ?_
        refine lv_iadd hx hb dX12_readsOne_27 ?_
        obtain ⟨hi8, hsp⟩ := fr_ck hsp
        refine fr_lald C hR hk6 hi8 dX12_readsOne_28 ?_
        obtain ⟨r9, h10, E11, hsp⟩ := fr_b2 hsp
        refine fq_callV (rest := [.int y3, .ref (g.2.2 j2)]) (st1 := [.long r9, .int y3, .ref (g.2.2 j2)]) C hR (k_X12_timesAnd C.2.2 ha E11) Y_X12_timesAnd YV_X12_timesAnd Lk_RX12_204 ha ⟨_, _, rfl, by decide⟩ rfl hl.1 ⟨Nat.le_of_ble_eq_true rfl, Nat.le_of_ble_eq_true rfl⟩ rfl (Nat.le_of_ble_eq_true rfl) ⟨Nat.zero_le _, Nat.zero_le _⟩ rfl dX12_readsOne_29 (fun H locs hR => ?_)
        obtain ⟨hk12, hsp⟩ := fr_ck hsp
        obtain ⟨hi13, hsp⟩ := fr_ck hsp
        refine fr_last C hR hk12 hi13 dX12_readsOne_32 (fun H locs hR => ?_)
        obtain ⟨h14, eh14⟩ : ∃ z, z = fh_sJ h10 j2 (Int32.toNatClampNeg y3) r9 := ⟨_, rfl⟩
        rw [← eh14] at hR
        have hsp := fr_let eh14 hsp
        refine lv_aload_n hx hb dX12_readsOne_33 rfl (lv_at hl 0 rfl) ?_
        obtain ⟨j15, hv16, hsp⟩ := fr_b1 hsp
        refine fr_getr C hR ha Fg_RX12_44 rfl hv16 dX12_readsOne_34 ?_
        refine lv_iload_n hx hb dX12_readsOne_37 rfl (lv_at hl 2 rfl) ?_
        refine lv_iconst (v := 1) hx hb dX12_readsOne_38 (by decide) ?_
        refine lv_iadd hx hb dX12_readsOne_39 ?_
        refine lv_aload_n hx hb dX12_readsOne_40 rfl (lv_at hl 0 rfl) ?_
        refine lv_aload_n hx hb dX12_readsOne_41 rfl (lv_at hl 0 rfl) ?_
        obtain ⟨j17, hv18, hsp⟩ := fr_b1 hsp
        refine fr_getr C hR ha Fg_RX12_41 rfl hv18 dX12_readsOne_42 ?_
        refine lv_iload_n hx hb dX12_readsOne_45 rfl (lv_at hl 2 rfl) ?_
        refine lv_iconst (v := 1) hx hb dX12_readsOne_46 (by decide) ?_
        refine lv_iadd hx hb dX12_readsOne_47 ?_
        obtain ⟨hk19, hsp⟩ := fr_ck hsp
        obtain ⟨hi20, hsp⟩ := fr_ck hsp
        refine fr_lald C hR hk19 hi20 dX12_readsOne_48 ?_
        refine lv_lload_n hx hb dX12_readsOne_49 rfl (lv_at hl 1 rfl) ?_
        refine lv_aload_n hx hb dX12_readsOne_50 rfl (lv_at hl 0 rfl) ?_
        refine fr_getr C hR ha Fg_RX12_41 rfl hv18 dX12_readsOne_51 ?_
        refine lv_iload_n hx hb dX12_readsOne_54 rfl (lv_at hl 2 rfl) ?_
        refine lv_iconst (v := 3) hx hb dX12_readsOne_55 (by decide) ?_
        refine lv_iadd hx hb dX12_readsOne_56 ?_
        obtain ⟨hi21, hsp⟩ := fr_ck hsp
        refine fr_lald C hR hk19 hi21 dX12_readsOne_57 ?_
        obtain ⟨r22, h23, E24, hsp⟩ := fr_b2 hsp
        refine fq_callV (rest := [.int (y3 + (1 : Int32)), .ref (g.2.2 j15)]) (st1 := [.long r22, .int (y3 + (1 : Int32)), .ref (g.2.2 j15)]) C hR (k_X12_timesAnd C.2.2 ha E24) Y_X12_timesAnd YV_X12_timesAnd Lk_RX12_204 ha ⟨_, _, rfl, by decide⟩ rfl hl.1 ⟨Nat.le_of_ble_eq_true rfl, Nat.le_of_ble_eq_true rfl⟩ rfl (Nat.le_of_ble_eq_true rfl) ⟨Nat.zero_le _, Nat.zero_le _⟩ rfl dX12_readsOne_58 (fun H locs hR => ?_)
        obtain ⟨hk25, hsp⟩ := fr_ck hsp
        obtain ⟨hi26, hsp⟩ := fr_ck hsp
        refine fr_last C hR hk25 hi26 dX12_readsOne_61 (fun H locs hR => ?_)
        obtain ⟨h27, eh27⟩ : ∃ z, z = fh_sJ h23 j15 (Int32.toNatClampNeg (y3 + (1 : Int32))) r22 := ⟨_, rfl⟩
        rw [← eh27] at hR
        have hsp := fr_let eh27 hsp
        refine lv_aload_n hx hb dX12_readsOne_62 rfl (lv_at hl 0 rfl) ?_
        obtain ⟨j28, hv29, hsp⟩ := fr_b1 hsp
        refine fr_getr C hR ha Fg_RX12_44 rfl hv29 dX12_readsOne_63 ?_
        refine lv_iload_n hx hb dX12_readsOne_66 rfl (lv_at hl 2 rfl) ?_
        refine lv_iconst (v := 2) hx hb dX12_readsOne_67 (by decide) ?_
        refine lv_iadd hx hb dX12_readsOne_68 ?_
        refine lv_aload_n hx hb dX12_readsOne_69 rfl (lv_at hl 0 rfl) ?_
        obtain ⟨j30, hv31, hsp⟩ := fr_b1 hsp
        refine fr_getr C hR ha Fg_RX12_41 rfl hv31 dX12_readsOne_70 ?_
        refine lv_iload_n hx hb dX12_readsOne_73 rfl (lv_at hl 2 rfl) ?_
        obtain ⟨hk32, hsp⟩ := fr_ck hsp
        obtain ⟨hi33, hsp⟩ := fr_ck hsp
        refine fr_lald C hR hk32 hi33 dX12_readsOne_74 ?_
        obtain ⟨hk34, hsp⟩ := fr_ck hsp
        obtain ⟨hi35, hsp⟩ := fr_ck hsp
        refine fr_last C hR hk34 hi35 dX12_readsOne_75 (fun H locs hR => ?_)
        obtain ⟨h36, eh36⟩ : ∃ z, z = fh_sJ h27 j28 (Int32.toNatClampNeg (y3 + (2 : Int32))) (h27.2.1 j30 (Int32.toNatClampNeg y3)) := ⟨_, rfl⟩
        rw [← eh36] at hR
        have hsp := fr_let eh36 hsp
        refine lv_aload_n hx hb dX12_readsOne_76 rfl (lv_at hl 0 rfl) ?_
        obtain ⟨j37, hv38, hsp⟩ := fr_b1 hsp
        refine fr_getr C hR ha Fg_RX12_44 rfl hv38 dX12_readsOne_77 ?_
        refine lv_iload_n hx hb dX12_readsOne_80 rfl (lv_at hl 2 rfl) ?_
        refine lv_iconst (v := 3) hx hb dX12_readsOne_81 (by decide) ?_
        refine lv_iadd hx hb dX12_readsOne_82 ?_
        refine lv_aload_n hx hb dX12_readsOne_83 rfl (lv_at hl 0 rfl) ?_
        obtain ⟨j39, hv40, hsp⟩ := fr_b1 hsp
        refine fr_getr C hR ha Fg_RX12_41 rfl hv40 dX12_readsOne_84 ?_
        refine lv_iload_n hx hb dX12_readsOne_87 rfl (lv_at hl 2 rfl) ?_
        refine lv_iconst (v := 1) hx hb dX12_readsOne_88 (by decide) ?_
        refine lv_iadd hx hb dX12_readsOne_89 ?_
        obtain ⟨hk41, hsp⟩ := fr_ck hsp
        obtain ⟨hi42, hsp⟩ := fr_ck hsp
        refine fr_lald C hR hk41 hi42 dX12_readsOne_90 ?_
        obtain ⟨hk43, hsp⟩ := fr_ck hsp
        obtain ⟨hi44, hsp⟩ := fr_ck hsp
        refine fr_last C hR hk43 hi44 dX12_readsOne_91 (fun H locs hR => ?_)
        obtain ⟨h45, eh45⟩ : ∃ z, z = fh_sJ h36 j37 (Int32.toNatClampNeg (y3 + (3 : Int32))) (h36.2.1 j39 (Int32.toNatClampNeg (y3 + (1 : Int32)))) := ⟨_, rfl⟩
        rw [← eh45] at hR
        have hsp := fr_let eh45 hsp
        obtain ⟨v46, ev46⟩ : ∃ z : Int32, z = y3 + 4 := ⟨_, rfl⟩
        have hsp := fr_let ev46 hsp
        refine lv_iinc (v := v46) (lv' := [(3, .int v46), (0, .ref (g.2.2 a)), (1, .long y1)]) hx hb dX12_readsOne_92 hl (k := 2) rfl (by rw [ev46]; rfl) (by decide) rfl (fun ls hl => ?_)
        refine lv_goto (tgt := 2) hx hb dX12_readsOne_95 (by decide) ?_
        exact ih h45 y1 v46 _ _ _ hsp hR (lv_sub hl [1, 2, 0] rfl)
  refine lv_iconst (v := 0) hx hb dX12_readsOne_0 (by decide) ?_
  refine lv_istore_n (lv' := [(3, .int (0 : Int32)), (0, .ref (g.2.2 a)), (1, .long x1)]) hx hb dX12_readsOne_1 rfl hl (by decide) rfl (fun ls hl => ?_)
  exact hb_2 20000 h x1 (0 : Int32) _ _ _ hsp hR (lv_sub hl [1, 2, 0] rfl)

/-! TermRowsModel.readsOther(J)V -/
def z_X12_readsOther_b2 (S : fh_S) (a : Nat) : Nat → fh_H → Int64 → Int32 → Option fh_H
  | 0, _, _, _ => none
  | n + 1, h, y1, y3 =>
    if (8 : Int32) ≤ y3 then (some h) else (fh_b1 (h.2.2 a 14) (fun j2 => fh_b1 (h.2.2 a 13) (fun j4 => fh_ck (fh_kq S j4 14) (fh_ck (fh_in y3 (S.2.2 j4)) (fh_ck (fh_in (y3 + (1 : Int32)) (S.2.2 j4)) (fh_b2 (z_X12_timesAnd S h a (h.2.1 j4 (Int32.toNatClampNeg y3)) y1 (h.2.1 j4 (Int32.toNatClampNeg (y3 + (1 : Int32))))) (fun r9 h10 => fh_ck (fh_kq S j2 14) (fh_ck (fh_in y3 (S.2.2 j2)) (fh_let (fh_sJ h10 j2 (Int32.toNatClampNeg y3) r9) (fun h14 => fh_b1 (h14.2.2 a 14) (fun j15 => fh_b1 (h14.2.2 a 13) (fun j17 => fh_ck (fh_kq S j17 14) (fh_ck (fh_in y3 (S.2.2 j17)) (fh_ck (fh_kq S j15 14) (fh_ck (fh_in (y3 + (1 : Int32)) (S.2.2 j15)) (fh_let (fh_sJ h14 j15 (Int32.toNatClampNeg (y3 + (1 : Int32))) (h14.2.1 j17 (Int32.toNatClampNeg y3))) (fun h23 => fh_b1 (h23.2.2 a 14) (fun j24 => fh_b1 (h23.2.2 a 13) (fun j26 => fh_ck (fh_kq S j26 14) (fh_ck (fh_in (y3 + (2 : Int32)) (S.2.2 j26)) (fh_ck (fh_in (y3 + (3 : Int32)) (S.2.2 j26)) (fh_b2 (z_X12_timesAnd S h23 a (h23.2.1 j26 (Int32.toNatClampNeg (y3 + (2 : Int32)))) y1 (h23.2.1 j26 (Int32.toNatClampNeg (y3 + (3 : Int32))))) (fun r31 h32 => fh_ck (fh_kq S j24 14) (fh_ck (fh_in (y3 + (2 : Int32)) (S.2.2 j24)) (fh_let (fh_sJ h32 j24 (Int32.toNatClampNeg (y3 + (2 : Int32))) r31) (fun h36 => fh_b1 (h36.2.2 a 14) (fun j37 => fh_b1 (h36.2.2 a 13) (fun j39 => fh_ck (fh_kq S j39 14) (fh_ck (fh_in (y3 + (2 : Int32)) (S.2.2 j39)) (fh_ck (fh_kq S j37 14) (fh_ck (fh_in (y3 + (3 : Int32)) (S.2.2 j37)) (fh_let (fh_sJ h36 j37 (Int32.toNatClampNeg (y3 + (3 : Int32))) (h36.2.1 j39 (Int32.toNatClampNeg (y3 + (2 : Int32))))) (fun h45 => fh_let (y3 + 4) (fun v46 => z_X12_readsOther_b2 S a n h45 y1 v46))))))))))))))))))))))))))))))))))
def z_X12_readsOther (S : fh_S) (h : fh_H) (a : Nat) (x1 : Int64) : Option fh_H :=
    z_X12_readsOther_b2 S a 20000 h x1 (0 : Int32)
set_option maxHeartbeats 4000000 in
set_option maxRecDepth 100000 in
theorem k_X12_readsOther {l : Launch} {S : fh_S} {g : fh_G} {h h' : fh_H} (hj : fh_inj S g) {a : Nat} {x1 : Int64} (ha : fh_kq S a 12 = true) (hsp : z_X12_readsOther S h a x1 = some h') : fh_M l yX12_readsOther cX12_readsOther 4 none (fh_rm 3) S g [.ref (g.2.2 a), .long x1] h none h' := by
  unfold z_X12_readsOther at hsp
  refine fr_head (own := RX12) (by decide) rfl hj (Nat.le_of_ble_eq_true rfl) ?_
  intro p e s m below meth c ls C hr hlocks hR hl
  have hl : lv_has ls 4 [(0, .ref (g.2.2 a)), (1, .long x1)] := hl
  have hx := C.1.1
  have hb := C.1.2.1
  have hb_2 : ∀ (n : Nat) (h : fh_H) (y1 : Int64) (y3 : Int32) (H : Heap) (locs : List Loc) (ls : Array Slot), z_X12_readsOther_b2 S a n h y1 y3 = some h' → fh_R S g s.heap h H locs → lv_has ls 4 [(0, .ref (g.2.2 a)), (1, .long y1), (3, .int y3)] → fh_Wk p l e 3 s m [.ref (g.2.2 a), .long x1] below meth c S g none h' H locs (F0 m 2 ls []) := by
    intro n
    induction n with
    | zero => intro h y1 y3 H locs ls hsp; cases hsp
    | succ n ih =>
      intro h y1 y3 H locs ls hsp hR hl
      rw [z_X12_readsOther_b2] at hsp
      refine lv_iload_n hx hb dX12_readsOther_2 rfl (lv_at hl 2 rfl) ?_
      refine lv_bipush (v := 8) hx hb dX12_readsOther_3 (by decide) ?_
      refine lv_icmp_ge (tgt := 98) hx hb dX12_readsOther_5 (by decide) (fun c1 => ?_) (fun c1 => ?_)
      · rw [if_pos c1] at hsp
        exact fr_vret C hr hlocks hR (fr_s1 hsp) dX12_readsOther_98
      · rw [if_neg c1] at hsp
        refine lv_aload_n hx hb dX12_readsOther_8 rfl (lv_at hl 0 rfl) ?_
        obtain ⟨j2, hv3, hsp⟩ := fr_b1 hsp
        refine fr_getr C hR ha Fg_RX12_44 rfl hv3 dX12_readsOther_9 ?_
        refine lv_iload_n hx hb dX12_readsOther_12 rfl (lv_at hl 2 rfl) ?_
        refine lv_aload_n hx hb dX12_readsOther_13 rfl (lv_at hl 0 rfl) ?_
        refine lv_aload_n hx hb dX12_readsOther_14 rfl (lv_at hl 0 rfl) ?_
        obtain ⟨j4, hv5, hsp⟩ := fr_b1 hsp
        refine fr_getr C hR ha Fg_RX12_41 rfl hv5 dX12_readsOther_15 ?_
        refine lv_iload_n hx hb dX12_readsOther_18 rfl (lv_at hl 2 rfl) ?_
        obtain ⟨hk6, hsp⟩ := fr_ck hsp
        obtain ⟨hi7, hsp⟩ := fr_ck hsp
        refine fr_lald C hR hk6 hi7 dX12_readsOther_19 ?_
        refine lv_lload_n hx hb dX12_readsOther_20 rfl (lv_at hl 1 rfl) ?_
        refine lv_aload_n hx hb dX12_readsOther_21 rfl (lv_at hl 0 rfl) ?_
        refine fr_getr C hR ha Fg_RX12_41 rfl hv5 dX12_readsOther_22 ?_
        refine lv_iload_n hx hb dX12_readsOther_25 rfl (lv_at hl 2 rfl) ?_
        refine lv_iconst (v := 1) hx hb dX12_readsOther_26 (by decide) ?_
        refine lv_iadd hx hb dX12_readsOther_27 ?_
        obtain ⟨hi8, hsp⟩ := fr_ck hsp
        refine fr_lald C hR hk6 hi8 dX12_readsOther_28 ?_
        obtain ⟨r9, h10, E11, hsp⟩ := fr_b2 hsp
        refine fq_callV (rest := [.int y3, .ref (g.2.2 j2)]) (st1 := [.long r9, .int y3, .ref (g.2.2 j2)]) C hR (k_X12_timesAnd C.2.2 ha E11) Y_X12_timesAnd YV_X12_timesAnd Lk_RX12_204 ha ⟨_, _, rfl, by decide⟩ rfl hl.1 ⟨Nat.le_of_ble_eq_true rfl, Nat.le_of_ble_eq_true rfl⟩ rfl (Nat.le_of_ble_eq_true rfl) ⟨Nat.zero_le _, Nat.zero_le _⟩ rfl dX12_readsOther_29 (fun H locs hR => ?_)
        obtain ⟨hk12, hsp⟩ := fr_ck hsp
        obtain ⟨hi13, hsp⟩ := fr_ck hsp
        refine fr_last C hR hk12 hi13 dX12_readsOther_32 (fun H locs hR => ?_)
        obtain ⟨h14, eh14⟩ : ∃ z, z = fh_sJ h10 j2 (Int32.toNatClampNeg y3) r9 := ⟨_, rfl⟩
        rw [← eh14] at hR
        have hsp := fr_let eh14 hsp
        refine lv_aload_n hx hb dX12_readsOther_33 rfl (lv_at hl 0 rfl) ?_
        obtain ⟨j15, hv16, hsp⟩ := fr_b1 hsp
        refine fr_getr C hR ha Fg_RX12_44 rfl hv16 dX12_readsOther_34 ?_
        refine lv_iload_n hx hb dX12_readsOther_37 rfl (lv_at hl 2 rfl) ?_
        refine lv_iconst (v := 1) hx hb dX12_readsOther_38 (by decide) ?_
        refine lv_iadd hx hb dX12_readsOther_39 ?_
        refine lv_aload_n hx hb dX12_readsOther_40 rfl (lv_at hl 0 rfl) ?_
        obtain ⟨j17, hv18, hsp⟩ := fr_b1 hsp
        refine fr_getr C hR ha Fg_RX12_41 rfl hv18 dX12_readsOther_41 ?_
        refine lv_iload_n hx hb dX12_readsOther_44 rfl (lv_at hl 2 rfl) ?_
        obtain ⟨hk19, hsp⟩ := fr_ck hsp
        obtain ⟨hi20, hsp⟩ := fr_ck hsp
        refine fr_lald C hR hk19 hi20 dX12_readsOther_45 ?_
        obtain ⟨hk21, hsp⟩ := fr_ck hsp
        obtain ⟨hi22, hsp⟩ := fr_ck hsp
        refine fr_last C hR hk21 hi22 dX12_readsOther_46 (fun H locs hR => ?_)
        obtain ⟨h23, eh23⟩ : ∃ z, z = fh_sJ h14 j15 (Int32.toNatClampNeg (y3 + (1 : Int32))) (h14.2.1 j17 (Int32.toNatClampNeg y3)) := ⟨_, rfl⟩
        rw [← eh23] at hR
        have hsp := fr_let eh23 hsp
        refine lv_aload_n hx hb dX12_readsOther_47 rfl (lv_at hl 0 rfl) ?_
        obtain ⟨j24, hv25, hsp⟩ := fr_b1 hsp
        refine fr_getr C hR ha Fg_RX12_44 rfl hv25 dX12_readsOther_48 ?_
        refine lv_iload_n hx hb dX12_readsOther_51 rfl (lv_at hl 2 rfl) ?_
        refine lv_iconst (v := 2) hx hb dX12_readsOther_52 (by decide) ?_
        refine lv_iadd hx hb dX12_readsOther_53 ?_
        refine lv_aload_n hx hb dX12_readsOther_54 rfl (lv_at hl 0 rfl) ?_
        refine lv_aload_n hx hb dX12_readsOther_55 rfl (lv_at hl 0 rfl) ?_
        obtain ⟨j26, hv27, hsp⟩ := fr_b1 hsp
        refine fr_getr C hR ha Fg_RX12_41 rfl hv27 dX12_readsOther_56 ?_
        refine lv_iload_n hx hb dX12_readsOther_59 rfl (lv_at hl 2 rfl) ?_
        refine lv_iconst (v := 2) hx hb dX12_readsOther_60 (by decide) ?_
        refine lv_iadd hx hb dX12_readsOther_61 ?_
        obtain ⟨hk28, hsp⟩ := fr_ck hsp
        obtain ⟨hi29, hsp⟩ := fr_ck hsp
        refine fr_lald C hR hk28 hi29 dX12_readsOther_62 ?_
        refine lv_lload_n hx hb dX12_readsOther_63 rfl (lv_at hl 1 rfl) ?_
        refine lv_aload_n hx hb dX12_readsOther_64 rfl (lv_at hl 0 rfl) ?_
        refine fr_getr C hR ha Fg_RX12_41 rfl hv27 dX12_readsOther_65 ?_
        refine lv_iload_n hx hb dX12_readsOther_68 rfl (lv_at hl 2 rfl) ?_
        refine lv_iconst (v := 3) hx hb dX12_readsOther_69 (by decide) ?_
        refine lv_iadd hx hb dX12_readsOther_70 ?_
        obtain ⟨hi30, hsp⟩ := fr_ck hsp
        refine fr_lald C hR hk28 hi30 dX12_readsOther_71 ?_
        obtain ⟨r31, h32, E33, hsp⟩ := fr_b2 hsp
        refine fq_callV (rest := [.int (y3 + (2 : Int32)), .ref (g.2.2 j24)]) (st1 := [.long r31, .int (y3 + (2 : Int32)), .ref (g.2.2 j24)]) C hR (k_X12_timesAnd C.2.2 ha E33) Y_X12_timesAnd YV_X12_timesAnd Lk_RX12_204 ha ⟨_, _, rfl, by decide⟩ rfl hl.1 ⟨Nat.le_of_ble_eq_true rfl, Nat.le_of_ble_eq_true rfl⟩ rfl (Nat.le_of_ble_eq_true rfl) ⟨Nat.zero_le _, Nat.zero_le _⟩ rfl dX12_readsOther_72 (fun H locs hR => ?_)
        obtain ⟨hk34, hsp⟩ := fr_ck hsp
        obtain ⟨hi35, hsp⟩ := fr_ck hsp
        refine fr_last C hR hk34 hi35 dX12_readsOther_75 (fun H locs hR => ?_)
        obtain ⟨h36, eh36⟩ : ∃ z, z = fh_sJ h32 j24 (Int32.toNatClampNeg (y3 + (2 : Int32))) r31 := ⟨_, rfl⟩
        rw [← eh36] at hR
        have hsp := fr_let eh36 hsp
        refine lv_aload_n hx hb dX12_readsOther_76 rfl (lv_at hl 0 rfl) ?_
        obtain ⟨j37, hv38, hsp⟩ := fr_b1 hsp
        refine fr_getr C hR ha Fg_RX12_44 rfl hv38 dX12_readsOther_77 ?_
        refine lv_iload_n hx hb dX12_readsOther_80 rfl (lv_at hl 2 rfl) ?_
        refine lv_iconst (v := 3) hx hb dX12_readsOther_81 (by decide) ?_
        refine lv_iadd hx hb dX12_readsOther_82 ?_
        refine lv_aload_n hx hb dX12_readsOther_83 rfl (lv_at hl 0 rfl) ?_
        obtain ⟨j39, hv40, hsp⟩ := fr_b1 hsp
        refine fr_getr C hR ha Fg_RX12_41 rfl hv40 dX12_readsOther_84 ?_
        refine lv_iload_n hx hb dX12_readsOther_87 rfl (lv_at hl 2 rfl) ?_
        refine lv_iconst (v := 2) hx hb dX12_readsOther_88 (by decide) ?_
        refine lv_iadd hx hb dX12_readsOther_89 ?_
        obtain ⟨hk41, hsp⟩ := fr_ck hsp
        obtain ⟨hi42, hsp⟩ := fr_ck hsp
        refine fr_lald C hR hk41 hi42 dX12_readsOther_90 ?_
        obtain ⟨hk43, hsp⟩ := fr_ck hsp
        obtain ⟨hi44, hsp⟩ := fr_ck hsp
        refine fr_last C hR hk43 hi44 dX12_readsOther_91 (fun H locs hR => ?_)
        obtain ⟨h45, eh45⟩ : ∃ z, z = fh_sJ h36 j37 (Int32.toNatClampNeg (y3 + (3 : Int32))) (h36.2.1 j39 (Int32.toNatClampNeg (y3 + (2 : Int32)))) := ⟨_, rfl⟩
        rw [← eh45] at hR
        have hsp := fr_let eh45 hsp
        obtain ⟨v46, ev46⟩ : ∃ z : Int32, z = y3 + 4 := ⟨_, rfl⟩
        have hsp := fr_let ev46 hsp
        refine lv_iinc (v := v46) (lv' := [(3, .int v46), (0, .ref (g.2.2 a)), (1, .long y1)]) hx hb dX12_readsOther_92 hl (k := 2) rfl (by rw [ev46]; rfl) (by decide) rfl (fun ls hl => ?_)
        refine lv_goto (tgt := 2) hx hb dX12_readsOther_95 (by decide) ?_
        exact ih h45 y1 v46 _ _ _ hsp hR (lv_sub hl [1, 2, 0] rfl)
  refine lv_iconst (v := 0) hx hb dX12_readsOther_0 (by decide) ?_
  refine lv_istore_n (lv' := [(3, .int (0 : Int32)), (0, .ref (g.2.2 a)), (1, .long x1)]) hx hb dX12_readsOther_1 rfl hl (by decide) rfl (fun ls hl => ?_)
  exact hb_2 20000 h x1 (0 : Int32) _ _ _ hsp hR (lv_sub hl [1, 2, 0] rfl)

/-! TermRowsModel.count(I)I -/
def z_X12_count (S : fh_S) (h : fh_H) (a : Nat) (x1 : Int32) : Option (Int32 × fh_H) :=
    fh_let (fh_sI h a 3 (0 : Int32)) (fun h1 => if x1 = 0 then (some ((h1.1 a 2), h1)) else (if x1 = 1 then (some ((h1.1 a 35), h1)) else (if x1 = 2 then (fh_b1 (z_X12_kindMany S h1 a (x1 + (1 : Int32))) (fun r5 => some (r5, h1))) else (if x1 = 3 then (fh_b1 (z_X12_kindMany S h1 a (x1 + (1 : Int32))) (fun r8 => some (r8, h1))) else (if x1 = 4 then (fh_b1 (z_X12_stopMany S h1 a (x1 - (4 : Int32))) (fun r11 => some (r11, h1))) else (if x1 = 5 then (fh_b1 (z_X12_stopMany S h1 a (x1 - (4 : Int32))) (fun r14 => some (r14, h1))) else (if x1 = 6 then (fh_b1 (z_X12_stopMany S h1 a (x1 - (4 : Int32))) (fun r17 => some (r17, h1))) else (if x1 = 7 then (fh_b1 (z_X12_stopMany S h1 a (x1 - (4 : Int32))) (fun r20 => some (r20, h1))) else (fh_b2 (z_X12_fail S h1 a (1 : Int32)) (fun r22 h23 => some (r22, h23)))))))))))
set_option maxHeartbeats 4000000 in
set_option maxRecDepth 100000 in
theorem k_X12_count {l : Launch} {S : fh_S} {g : fh_G} {h h' : fh_H} (hj : fh_inj S g) {a : Nat} {x1 : Int32} {r : Int32} (ha : fh_kq S a 12 = true) (hsp : z_X12_count S h a x1 = some (r, h')) : fh_M l yX12_count cX12_count 2 (some .int) (fh_rm 3) S g [.ref (g.2.2 a), .int x1] h (some (.int r)) h' := by
  unfold z_X12_count at hsp
  refine fr_head (own := RX12) (by decide) rfl hj (Nat.le_of_ble_eq_true rfl) ?_
  intro p e s m below meth c ls C hr hlocks hR hl
  have hl : lv_has ls 2 [(0, .ref (g.2.2 a)), (1, .int x1)] := hl
  have hx := C.1.1
  have hb := C.1.2.1
  refine lv_aload_n hx hb dX12_count_0 rfl (lv_at hl 0 rfl) ?_
  refine lv_iconst (v := 0) hx hb dX12_count_1 (by decide) ?_
  refine fr_puti C hR ha Fp_RX12_73 rfl dX12_count_2 (fun H locs hR => ?_)
  obtain ⟨h1, eh1⟩ : ∃ z, z = fh_sI h a 3 (0 : Int32) := ⟨_, rfl⟩
  rw [← eh1] at hR
  have hsp := fr_let eh1 hsp
  refine lv_iload_n hx hb dX12_count_5 rfl (lv_at hl 1 rfl) ?_
  by_cases c2 : x1 = 0
  · rw [if_pos c2] at hsp
    refine lv_tableIn (off := 46) (tgt := 52) hx hb dX12_count_6 (by rw [c2]; decide) (by rw [c2]; decide) (by rw [c2]; decide) (by decide) ?_
    refine lv_aload_n hx hb dX12_count_52 rfl (lv_at hl 0 rfl) ?_
    refine fr_geti C hR ha Fg_RX12_258 rfl dX12_count_53 ?_
    obtain ⟨e1, e2⟩ := fr_s2 hsp
    exact fr_iret C hr hlocks hR e1 e2 dX12_count_56
  rw [if_neg c2] at hsp
  by_cases c3 : x1 = 1
  · rw [if_pos c3] at hsp
    refine lv_tableIn (off := 51) (tgt := 57) hx hb dX12_count_6 (by rw [c3]; decide) (by rw [c3]; decide) (by rw [c3]; decide) (by decide) ?_
    refine lv_aload_n hx hb dX12_count_57 rfl (lv_at hl 0 rfl) ?_
    refine fr_geti C hR ha Fg_RX12_289 rfl dX12_count_58 ?_
    obtain ⟨e1, e2⟩ := fr_s2 hsp
    exact fr_iret C hr hlocks hR e1 e2 dX12_count_61
  rw [if_neg c3] at hsp
  by_cases c4 : x1 = 2
  · rw [if_pos c4] at hsp
    refine lv_tableIn (off := 56) (tgt := 62) hx hb dX12_count_6 (by rw [c4]; decide) (by rw [c4]; decide) (by rw [c4]; decide) (by decide) ?_
    refine lv_aload_n hx hb dX12_count_62 rfl (lv_at hl 0 rfl) ?_
    refine lv_iload_n hx hb dX12_count_63 rfl (lv_at hl 1 rfl) ?_
    refine lv_iconst (v := 1) hx hb dX12_count_64 (by decide) ?_
    refine lv_iadd hx hb dX12_count_65 ?_
    obtain ⟨r5, E6, hsp⟩ := fr_b1 hsp
    refine fq_callV (rest := []) (st1 := [.int r5]) C hR (k_X12_kindMany C.2.2 ha E6) Y_X12_kindMany YV_X12_kindMany Lk_RX12_292 ha ⟨_, _, rfl, by decide⟩ rfl hl.1 ⟨Nat.le_of_ble_eq_true rfl, Nat.le_of_ble_eq_true rfl⟩ rfl (Nat.le_of_ble_eq_true rfl) ⟨Nat.zero_le _, Nat.zero_le _⟩ rfl dX12_count_66 (fun H locs hR => ?_)
    obtain ⟨e1, e2⟩ := fr_s2 hsp
    exact fr_iret C hr hlocks hR e1 e2 dX12_count_69
  rw [if_neg c4] at hsp
  by_cases c7 : x1 = 3
  · rw [if_pos c7] at hsp
    refine lv_tableIn (off := 56) (tgt := 62) hx hb dX12_count_6 (by rw [c7]; decide) (by rw [c7]; decide) (by rw [c7]; decide) (by decide) ?_
    refine lv_aload_n hx hb dX12_count_62 rfl (lv_at hl 0 rfl) ?_
    refine lv_iload_n hx hb dX12_count_63 rfl (lv_at hl 1 rfl) ?_
    refine lv_iconst (v := 1) hx hb dX12_count_64 (by decide) ?_
    refine lv_iadd hx hb dX12_count_65 ?_
    obtain ⟨r8, E9, hsp⟩ := fr_b1 hsp
    refine fq_callV (rest := []) (st1 := [.int r8]) C hR (k_X12_kindMany C.2.2 ha E9) Y_X12_kindMany YV_X12_kindMany Lk_RX12_292 ha ⟨_, _, rfl, by decide⟩ rfl hl.1 ⟨Nat.le_of_ble_eq_true rfl, Nat.le_of_ble_eq_true rfl⟩ rfl (Nat.le_of_ble_eq_true rfl) ⟨Nat.zero_le _, Nat.zero_le _⟩ rfl dX12_count_66 (fun H locs hR => ?_)
    obtain ⟨e1, e2⟩ := fr_s2 hsp
    exact fr_iret C hr hlocks hR e1 e2 dX12_count_69
  rw [if_neg c7] at hsp
  by_cases c10 : x1 = 4
  · rw [if_pos c10] at hsp
    refine lv_tableIn (off := 64) (tgt := 70) hx hb dX12_count_6 (by rw [c10]; decide) (by rw [c10]; decide) (by rw [c10]; decide) (by decide) ?_
    refine lv_aload_n hx hb dX12_count_70 rfl (lv_at hl 0 rfl) ?_
    refine lv_iload_n hx hb dX12_count_71 rfl (lv_at hl 1 rfl) ?_
    refine lv_iconst (v := 4) hx hb dX12_count_72 (by decide) ?_
    refine lv_isub hx hb dX12_count_73 ?_
    obtain ⟨r11, E12, hsp⟩ := fr_b1 hsp
    refine fq_callV (rest := []) (st1 := [.int r11]) C hR (k_X12_stopMany C.2.2 ha E12) Y_X12_stopMany YV_X12_stopMany Lk_RX12_296 ha ⟨_, _, rfl, by decide⟩ rfl hl.1 ⟨Nat.le_of_ble_eq_true rfl, Nat.le_of_ble_eq_true rfl⟩ rfl (Nat.le_of_ble_eq_true rfl) ⟨Nat.zero_le _, Nat.zero_le _⟩ rfl dX12_count_74 (fun H locs hR => ?_)
    obtain ⟨e1, e2⟩ := fr_s2 hsp
    exact fr_iret C hr hlocks hR e1 e2 dX12_count_77
  rw [if_neg c10] at hsp
  by_cases c13 : x1 = 5
  · rw [if_pos c13] at hsp
    refine lv_tableIn (off := 64) (tgt := 70) hx hb dX12_count_6 (by rw [c13]; decide) (by rw [c13]; decide) (by rw [c13]; decide) (by decide) ?_
    refine lv_aload_n hx hb dX12_count_70 rfl (lv_at hl 0 rfl) ?_
    refine lv_iload_n hx hb dX12_count_71 rfl (lv_at hl 1 rfl) ?_
    refine lv_iconst (v := 4) hx hb dX12_count_72 (by decide) ?_
    refine lv_isub hx hb dX12_count_73 ?_
    obtain ⟨r14, E15, hsp⟩ := fr_b1 hsp
    refine fq_callV (rest := []) (st1 := [.int r14]) C hR (k_X12_stopMany C.2.2 ha E15) Y_X12_stopMany YV_X12_stopMany Lk_RX12_296 ha ⟨_, _, rfl, by decide⟩ rfl hl.1 ⟨Nat.le_of_ble_eq_true rfl, Nat.le_of_ble_eq_true rfl⟩ rfl (Nat.le_of_ble_eq_true rfl) ⟨Nat.zero_le _, Nat.zero_le _⟩ rfl dX12_count_74 (fun H locs hR => ?_)
    obtain ⟨e1, e2⟩ := fr_s2 hsp
    exact fr_iret C hr hlocks hR e1 e2 dX12_count_77
  rw [if_neg c13] at hsp
  by_cases c16 : x1 = 6
  · rw [if_pos c16] at hsp
    refine lv_tableIn (off := 64) (tgt := 70) hx hb dX12_count_6 (by rw [c16]; decide) (by rw [c16]; decide) (by rw [c16]; decide) (by decide) ?_
    refine lv_aload_n hx hb dX12_count_70 rfl (lv_at hl 0 rfl) ?_
    refine lv_iload_n hx hb dX12_count_71 rfl (lv_at hl 1 rfl) ?_
    refine lv_iconst (v := 4) hx hb dX12_count_72 (by decide) ?_
    refine lv_isub hx hb dX12_count_73 ?_
    obtain ⟨r17, E18, hsp⟩ := fr_b1 hsp
    refine fq_callV (rest := []) (st1 := [.int r17]) C hR (k_X12_stopMany C.2.2 ha E18) Y_X12_stopMany YV_X12_stopMany Lk_RX12_296 ha ⟨_, _, rfl, by decide⟩ rfl hl.1 ⟨Nat.le_of_ble_eq_true rfl, Nat.le_of_ble_eq_true rfl⟩ rfl (Nat.le_of_ble_eq_true rfl) ⟨Nat.zero_le _, Nat.zero_le _⟩ rfl dX12_count_74 (fun H locs hR => ?_)
    obtain ⟨e1, e2⟩ := fr_s2 hsp
    exact fr_iret C hr hlocks hR e1 e2 dX12_count_77
  rw [if_neg c16] at hsp
  by_cases c19 : x1 = 7
  · rw [if_pos c19] at hsp
    refine lv_tableIn (off := 64) (tgt := 70) hx hb dX12_count_6 (by rw [c19]; decide) (by rw [c19]; decide) (by rw [c19]; decide) (by decide) ?_
    refine lv_aload_n hx hb dX12_count_70 rfl (lv_at hl 0 rfl) ?_
    refine lv_iload_n hx hb dX12_count_71 rfl (lv_at hl 1 rfl) ?_
    refine lv_iconst (v := 4) hx hb dX12_count_72 (by decide) ?_
    refine lv_isub hx hb dX12_count_73 ?_
    obtain ⟨r20, E21, hsp⟩ := fr_b1 hsp
    refine fq_callV (rest := []) (st1 := [.int r20]) C hR (k_X12_stopMany C.2.2 ha E21) Y_X12_stopMany YV_X12_stopMany Lk_RX12_296 ha ⟨_, _, rfl, by decide⟩ rfl hl.1 ⟨Nat.le_of_ble_eq_true rfl, Nat.le_of_ble_eq_true rfl⟩ rfl (Nat.le_of_ble_eq_true rfl) ⟨Nat.zero_le _, Nat.zero_le _⟩ rfl dX12_count_74 (fun H locs hR => ?_)
    obtain ⟨e1, e2⟩ := fr_s2 hsp
    exact fr_iret C hr hlocks hR e1 e2 dX12_count_77
  rw [if_neg c19] at hsp
  refine lv_tableOut (tgt := 78) hx hb dX12_count_6 (fr_tout 0 8 (fun j hj => by match j, hj with | 0, _ => exact c2 | 1, _ => exact c3 | 2, _ => exact c4 | 3, _ => exact c7 | 4, _ => exact c10 | 5, _ => exact c13 | 6, _ => exact c16 | 7, _ => exact c19 | (k + 8), hk => omega) (by decide) (by decide)) (by decide) ?_
  refine lv_aload_n hx hb dX12_count_78 rfl (lv_at hl 0 rfl) ?_
  refine lv_iconst (v := 1) hx hb dX12_count_79 (by decide) ?_
  obtain ⟨r22, h23, E24, hsp⟩ := fr_b2 hsp
  refine fq_callV (rest := []) (st1 := [.int r22]) C hR (k_X12_fail C.2.2 ha E24) Y_X12_fail YV_X12_fail Lk_RX12_299 ha ⟨_, _, rfl, by decide⟩ rfl hl.1 ⟨Nat.le_of_ble_eq_true rfl, Nat.le_of_ble_eq_true rfl⟩ rfl (Nat.le_of_ble_eq_true rfl) ⟨Nat.zero_le _, Nat.zero_le _⟩ rfl dX12_count_80 (fun H locs hR => ?_)
  obtain ⟨e1, e2⟩ := fr_s2 hsp
  exact fr_iret C hr hlocks hR e1 e2 dX12_count_83

/-! TermRowsModel.madeOf(I)I -/
def z_X12_madeOf_b4 (S : fh_S) (a : Nat) : Nat → fh_H → Int32 → Int32 → Int32 → Option Int32
  | 0, _, _, _, _ => none
  | n + 1, h, y1, y2, y3 =>
    if (10 : Int32) ≤ y3 then (some y2) else (fh_b1 (z_X12_isMadeOf S h a y3 y1) (fun r2 => if r2 = 0 then (fh_let ((y2 + (0 : Int32))) (fun v5 => fh_let (y3 + 1) (fun v6 => z_X12_madeOf_b4 S a n h y1 v5 v6))) else (fh_let ((y2 + (1 : Int32))) (fun v7 => fh_let (y3 + 1) (fun v8 => z_X12_madeOf_b4 S a n h y1 v7 v8)))))
def z_X12_madeOf (S : fh_S) (h : fh_H) (a : Nat) (x1 : Int32) : Option Int32 :=
    z_X12_madeOf_b4 S a 20000 h x1 (0 : Int32) (0 : Int32)
set_option maxHeartbeats 4000000 in
set_option maxRecDepth 100000 in
theorem k_X12_madeOf {l : Launch} {S : fh_S} {g : fh_G} {h : fh_H} (hj : fh_inj S g) {a : Nat} {x1 : Int32} {r : Int32} (ha : fh_kq S a 12 = true) (hsp : z_X12_madeOf S h a x1 = some r) : fh_M l yX12_madeOf cX12_madeOf 4 (some .int) (fh_rm 3) S g [.ref (g.2.2 a), .int x1] h (some (.int r)) h := by
  unfold z_X12_madeOf at hsp
  refine fr_head (own := RX12) (by decide) rfl hj (Nat.le_of_ble_eq_true rfl) ?_
  intro p e s m below meth c ls C hr hlocks hR hl
  have hl : lv_has ls 4 [(0, .ref (g.2.2 a)), (1, .int x1)] := hl
  have hx := C.1.1
  have hb := C.1.2.1
  have hb_4 : ∀ (n : Nat) (y1 : Int32) (y2 : Int32) (y3 : Int32) (H : Heap) (locs : List Loc) (ls : Array Slot), z_X12_madeOf_b4 S a n h y1 y2 y3 = some r → fh_R S g s.heap h H locs → lv_has ls 4 [(0, .ref (g.2.2 a)), (1, .int y1), (2, .int y2), (3, .int y3)] → fh_Wk p l e 3 s m [.ref (g.2.2 a), .int x1] below meth c S g (some (.int r)) h H locs (F0 m 4 ls []) := by
    intro n
    induction n with
    | zero => intro y1 y2 y3 H locs ls hsp; cases hsp
    | succ n ih =>
      intro y1 y2 y3 H locs ls hsp hR hl
      rw [z_X12_madeOf_b4] at hsp
      refine lv_iload_n hx hb dX12_madeOf_4 rfl (lv_at hl 3 rfl) ?_
      refine lv_bipush (v := 10) hx hb dX12_madeOf_5 (by decide) ?_
      refine lv_icmp_ge (tgt := 33) hx hb dX12_madeOf_7 (by decide) (fun c1 => ?_) (fun c1 => ?_)
      · rw [if_pos c1] at hsp
        refine lv_iload_n hx hb dX12_madeOf_33 rfl (lv_at hl 2 rfl) ?_
        have e1 := fr_s1 hsp
        exact fr_iret C hr hlocks hR e1 rfl dX12_madeOf_34
      · rw [if_neg c1] at hsp
        refine lv_iload_n hx hb dX12_madeOf_10 rfl (lv_at hl 2 rfl) ?_
        refine lv_aload_n hx hb dX12_madeOf_11 rfl (lv_at hl 0 rfl) ?_
        refine lv_iload_n hx hb dX12_madeOf_12 rfl (lv_at hl 3 rfl) ?_
        refine lv_iload_n hx hb dX12_madeOf_13 rfl (lv_at hl 1 rfl) ?_
        obtain ⟨r2, E3, hsp⟩ := fr_b1 hsp
        refine fq_callV (rest := [.int y2]) (st1 := [.int r2, .int y2]) C hR (k_X12_isMadeOf C.2.2 ha E3) Y_X12_isMadeOf YV_X12_isMadeOf Lk_RX12_305 ha ⟨_, _, rfl, by decide⟩ rfl hl.1 ⟨Nat.le_of_ble_eq_true rfl, Nat.le_of_ble_eq_true rfl⟩ rfl (Nat.le_of_ble_eq_true rfl) ⟨Nat.zero_le _, Nat.zero_le _⟩ rfl dX12_madeOf_14 (fun H locs hR => ?_)
        refine lv_if_eq (tgt := 24) hx hb dX12_madeOf_17 (by decide) (fun c4 => ?_) (fun c4 => ?_)
        · rw [if_pos c4] at hsp
          refine lv_iconst (v := 0) hx hb dX12_madeOf_24 (by decide) ?_
          refine lv_iadd hx hb dX12_madeOf_25 ?_
          refine lv_topi (fun v5 ev5 => ?_)
          have hsp := fr_let ev5 hsp
          refine lv_istore_n (lv' := [(2, .int v5), (0, .ref (g.2.2 a)), (1, .int y1), (3, .int y3)]) hx hb dX12_madeOf_26 rfl hl (by decide) rfl (fun ls hl => ?_)
          obtain ⟨v6, ev6⟩ : ∃ z : Int32, z = y3 + 1 := ⟨_, rfl⟩
          have hsp := fr_let ev6 hsp
          refine lv_iinc (v := v6) (lv' := [(3, .int v6), (2, .int v5), (0, .ref (g.2.2 a)), (1, .int y1)]) hx hb dX12_madeOf_27 hl (k := 3) rfl (by rw [ev6]; rfl) (by decide) rfl (fun ls hl => ?_)
          refine lv_goto (tgt := 4) hx hb dX12_madeOf_30 (by decide) ?_
          exact ih y1 v5 v6 _ _ _ hsp hR (lv_sub hl [2, 3, 1, 0] rfl)
        · rw [if_neg c4] at hsp
          refine lv_iconst (v := 1) hx hb dX12_madeOf_20 (by decide) ?_
          refine lv_goto (tgt := 25) hx hb dX12_madeOf_21 (by decide) ?_
          refine lv_iadd hx hb dX12_madeOf_25 ?_
          refine lv_topi (fun v7 ev7 => ?_)
          have hsp := fr_let ev7 hsp
          refine lv_istore_n (lv' := [(2, .int v7), (0, .ref (g.2.2 a)), (1, .int y1), (3, .int y3)]) hx hb dX12_madeOf_26 rfl hl (by decide) rfl (fun ls hl => ?_)
          obtain ⟨v8, ev8⟩ : ∃ z : Int32, z = y3 + 1 := ⟨_, rfl⟩
          have hsp := fr_let ev8 hsp
          refine lv_iinc (v := v8) (lv' := [(3, .int v8), (2, .int v7), (0, .ref (g.2.2 a)), (1, .int y1)]) hx hb dX12_madeOf_27 hl (k := 3) rfl (by rw [ev8]; rfl) (by decide) rfl (fun ls hl => ?_)
          refine lv_goto (tgt := 4) hx hb dX12_madeOf_30 (by decide) ?_
          exact ih y1 v7 v8 _ _ _ hsp hR (lv_sub hl [2, 3, 1, 0] rfl)
  refine lv_iconst (v := 0) hx hb dX12_madeOf_0 (by decide) ?_
  refine lv_istore_n (lv' := [(2, .int (0 : Int32)), (0, .ref (g.2.2 a)), (1, .int x1)]) hx hb dX12_madeOf_1 rfl hl (by decide) rfl (fun ls hl => ?_)
  refine lv_iconst (v := 0) hx hb dX12_madeOf_2 (by decide) ?_
  refine lv_istore_n (lv' := [(3, .int (0 : Int32)), (2, .int (0 : Int32)), (0, .ref (g.2.2 a)), (1, .int x1)]) hx hb dX12_madeOf_3 rfl hl (by decide) rfl (fun ls hl => ?_)
  exact hb_4 20000 x1 (0 : Int32) (0 : Int32) _ _ _ hsp hR (lv_sub hl [2, 3, 1, 0] rfl)

/-! TermRowsModel.term(II)I -/
def z_X12_term (S : fh_S) (h : fh_H) (a : Nat) (x1 : Int32) (x2 : Int32) : Option (Int32 × fh_H) :=
    fh_let (fh_sI h a 3 (0 : Int32)) (fun h1 => fh_b1 (z_X12_isRow x1) (fun r2 => if r2 = 0 then (fh_b2 (z_X12_fail S h1 a (1 : Int32)) (fun r5 h6 => some (r5, h6))) else (fh_b1 (z_X12_isKnown S h1 a x1 x2) (fun r8 => if r8 = 0 then (fh_b2 (z_X12_fail S h1 a (1 : Int32)) (fun r11 h12 => some (r11, h12))) else (fh_b1 (z_X12_termOf S h1 a x1 x2) (fun r14 => some (r14, h1)))))))
set_option maxHeartbeats 4000000 in
set_option maxRecDepth 100000 in
theorem k_X12_term {l : Launch} {S : fh_S} {g : fh_G} {h h' : fh_H} (hj : fh_inj S g) {a : Nat} {x1 : Int32} {x2 : Int32} {r : Int32} (ha : fh_kq S a 12 = true) (hsp : z_X12_term S h a x1 x2 = some (r, h')) : fh_M l yX12_term cX12_term 3 (some .int) (fh_rm 3) S g [.ref (g.2.2 a), .int x1, .int x2] h (some (.int r)) h' := by
  unfold z_X12_term at hsp
  refine fr_head (own := RX12) (by decide) rfl hj (Nat.le_of_ble_eq_true rfl) ?_
  intro p e s m below meth c ls C hr hlocks hR hl
  have hl : lv_has ls 3 [(0, .ref (g.2.2 a)), (1, .int x1), (2, .int x2)] := hl
  have hx := C.1.1
  have hb := C.1.2.1
  refine lv_aload_n hx hb dX12_term_0 rfl (lv_at hl 0 rfl) ?_
  refine lv_iconst (v := 0) hx hb dX12_term_1 (by decide) ?_
  refine fr_puti C hR ha Fp_RX12_73 rfl dX12_term_2 (fun H locs hR => ?_)
  obtain ⟨h1, eh1⟩ : ∃ z, z = fh_sI h a 3 (0 : Int32) := ⟨_, rfl⟩
  rw [← eh1] at hR
  have hsp := fr_let eh1 hsp
  refine lv_iload_n hx hb dX12_term_5 rfl (lv_at hl 1 rfl) ?_
  obtain ⟨r2, E3, hsp⟩ := fr_b1 hsp
  refine fq_callS (rest := []) (st1 := [.int r2]) C hR (k_X12_isRow C.2.2 E3) Y_X12_isRow YS_X12_isRow Lk_RX12_264 rfl hl.1 ⟨Nat.le_of_ble_eq_true rfl, Nat.le_of_ble_eq_true rfl⟩ rfl (Nat.le_of_ble_eq_true rfl) ⟨Nat.zero_le _, Nat.zero_le _⟩ rfl dX12_term_6 (fun H locs hR => ?_)
  refine lv_if_eq (tgt := 30) hx hb dX12_term_9 (by decide) (fun c4 => ?_) (fun c4 => ?_)
  · rw [if_pos c4] at hsp
    refine lv_aload_n hx hb dX12_term_30 rfl (lv_at hl 0 rfl) ?_
    refine lv_iconst (v := 1) hx hb dX12_term_31 (by decide) ?_
    obtain ⟨r5, h6, E7, hsp⟩ := fr_b2 hsp
    refine fq_callV (rest := []) (st1 := [.int r5]) C hR (k_X12_fail C.2.2 ha E7) Y_X12_fail YV_X12_fail Lk_RX12_299 ha ⟨_, _, rfl, by decide⟩ rfl hl.1 ⟨Nat.le_of_ble_eq_true rfl, Nat.le_of_ble_eq_true rfl⟩ rfl (Nat.le_of_ble_eq_true rfl) ⟨Nat.zero_le _, Nat.zero_le _⟩ rfl dX12_term_32 (fun H locs hR => ?_)
    obtain ⟨e1, e2⟩ := fr_s2 hsp
    exact fr_iret C hr hlocks hR e1 e2 dX12_term_35
  · rw [if_neg c4] at hsp
    refine lv_aload_n hx hb dX12_term_12 rfl (lv_at hl 0 rfl) ?_
    refine lv_iload_n hx hb dX12_term_13 rfl (lv_at hl 1 rfl) ?_
    refine lv_iload_n hx hb dX12_term_14 rfl (lv_at hl 2 rfl) ?_
    obtain ⟨r8, E9, hsp⟩ := fr_b1 hsp
    refine fq_callV (rest := []) (st1 := [.int r8]) C hR (k_X12_isKnown C.2.2 ha E9) Y_X12_isKnown YV_X12_isKnown Lk_RX12_320 ha ⟨_, _, rfl, by decide⟩ rfl hl.1 ⟨Nat.le_of_ble_eq_true rfl, Nat.le_of_ble_eq_true rfl⟩ rfl (Nat.le_of_ble_eq_true rfl) ⟨Nat.zero_le _, Nat.zero_le _⟩ rfl dX12_term_15 (fun H locs hR => ?_)
    refine lv_if_eq (tgt := 30) hx hb dX12_term_18 (by decide) (fun c10 => ?_) (fun c10 => ?_)
    · rw [if_pos c10] at hsp
      refine lv_aload_n hx hb dX12_term_30 rfl (lv_at hl 0 rfl) ?_
      refine lv_iconst (v := 1) hx hb dX12_term_31 (by decide) ?_
      obtain ⟨r11, h12, E13, hsp⟩ := fr_b2 hsp
      refine fq_callV (rest := []) (st1 := [.int r11]) C hR (k_X12_fail C.2.2 ha E13) Y_X12_fail YV_X12_fail Lk_RX12_299 ha ⟨_, _, rfl, by decide⟩ rfl hl.1 ⟨Nat.le_of_ble_eq_true rfl, Nat.le_of_ble_eq_true rfl⟩ rfl (Nat.le_of_ble_eq_true rfl) ⟨Nat.zero_le _, Nat.zero_le _⟩ rfl dX12_term_32 (fun H locs hR => ?_)
      obtain ⟨e1, e2⟩ := fr_s2 hsp
      exact fr_iret C hr hlocks hR e1 e2 dX12_term_35
    · rw [if_neg c10] at hsp
      refine lv_aload_n hx hb dX12_term_21 rfl (lv_at hl 0 rfl) ?_
      refine lv_iload_n hx hb dX12_term_22 rfl (lv_at hl 1 rfl) ?_
      refine lv_iload_n hx hb dX12_term_23 rfl (lv_at hl 2 rfl) ?_
      obtain ⟨r14, E15, hsp⟩ := fr_b1 hsp
      refine fq_callV (rest := []) (st1 := [.int r14]) C hR (k_X12_termOf C.2.2 ha E15) Y_X12_termOf YV_X12_termOf Lk_RX12_219 ha ⟨_, _, rfl, by decide⟩ rfl hl.1 ⟨Nat.le_of_ble_eq_true rfl, Nat.le_of_ble_eq_true rfl⟩ rfl (Nat.le_of_ble_eq_true rfl) ⟨Nat.zero_le _, Nat.zero_le _⟩ rfl dX12_term_24 (fun H locs hR => ?_)
      refine lv_goto (tgt := 35) hx hb dX12_term_27 (by decide) ?_
      obtain ⟨e1, e2⟩ := fr_s2 hsp
      exact fr_iret C hr hlocks hR e1 e2 dX12_term_35

/-! TermRowsModel.read(IIZ)I -/
def z_X12_read_b27 (S : fh_S) (a : Nat) (h : fh_H) (y1 : Int32) (y2 : Int32) (y3 : Int32) (t0 : Int32) (t1 : Int32) : Option (Int32 × fh_H) :=
    if t1 < t0 then (fh_b2 (z_X12_fail S h a (1 : Int32)) (fun r2 h3 => some (r2, h3))) else (fh_b1 (z_X12_isKnown S h a y1 y2) (fun r5 => if r5 = 0 then (fh_b2 (z_X12_fail S h a (1 : Int32)) (fun r17 h18 => some (r17, h18))) else (if y3 = 0 then (fh_b1 (h.2.2 a 8) (fun j9 => fh_ck (fh_kq S j9 13) (fh_ck (fh_in (((60 : Int32) * y1) + y2) (S.2.2 j9)) (some ((h.1 j9 (Int32.toNatClampNeg (((60 : Int32) * y1) + y2))), h))))) else (fh_b1 (h.2.2 a 9) (fun j13 => fh_ck (fh_kq S j13 13) (fh_ck (fh_in (((60 : Int32) * y1) + y2) (S.2.2 j13)) (some ((h.1 j13 (Int32.toNatClampNeg (((60 : Int32) * y1) + y2))), h))))))))
def z_X12_read (S : fh_S) (h : fh_H) (a : Nat) (x1 : Int32) (x2 : Int32) (x3 : Int32) : Option (Int32 × fh_H) :=
    fh_let (fh_sI h a 3 (0 : Int32)) (fun h1 => fh_b1 (z_X12_isRow x1) (fun r2 => if r2 = 0 then (fh_b2 (z_X12_fail S h1 a (1 : Int32)) (fun r5 h6 => some (r5, h6))) else (fh_b1 (z_X12_of1 S h1 a x1 (0 : Int32)) (fun r8 => if x3 = 0 then (z_X12_read_b27 S a h1 x1 x2 x3 (3 : Int32) r8) else (z_X12_read_b27 S a h1 x1 x2 x3 (4 : Int32) r8)))))
set_option maxHeartbeats 4000000 in
set_option maxRecDepth 100000 in
theorem k_X12_read {l : Launch} {S : fh_S} {g : fh_G} {h h' : fh_H} (hj : fh_inj S g) {a : Nat} {x1 : Int32} {x2 : Int32} {x3 : Int32} {r : Int32} (ha : fh_kq S a 12 = true) (hsp : z_X12_read S h a x1 x2 x3 = some (r, h')) : fh_M l yX12_read cX12_read 4 (some .int) (fh_rm 3) S g [.ref (g.2.2 a), .int x1, .int x2, .int x3] h (some (.int r)) h' := by
  unfold z_X12_read at hsp
  refine fr_head (own := RX12) (by decide) rfl hj (Nat.le_of_ble_eq_true rfl) ?_
  intro p e s m below meth c ls C hr hlocks hR hl
  have hl : lv_has ls 4 [(0, .ref (g.2.2 a)), (1, .int x1), (2, .int x2), (3, .int x3)] := hl
  have hx := C.1.1
  have hb := C.1.2.1
  have hb_27 : ∀ (h : fh_H) (y1 : Int32) (y2 : Int32) (y3 : Int32) (t0 : Int32) (t1 : Int32) (H : Heap) (locs : List Loc) (ls : Array Slot), z_X12_read_b27 S a h y1 y2 y3 t0 t1 = some (r, h') → fh_R S g s.heap h H locs → lv_has ls 4 [(0, .ref (g.2.2 a)), (1, .int y1), (2, .int y2), (3, .int y3)] → fh_Wk p l e 3 s m [.ref (g.2.2 a), .int x1, .int x2, .int x3] below meth c S g (some (.int r)) h' H locs (F0 m 27 ls [.int t0, .int t1]) := by
    intro h y1 y2 y3 t0 t1 H locs ls hsp hR hl
    unfold z_X12_read_b27 at hsp
    refine lv_icmp_lt (tgt := 39) hx hb dX12_read_27 (by decide) (fun c1 => ?_) (fun c1 => ?_)
    · rw [if_pos c1] at hsp
      refine lv_aload_n hx hb dX12_read_39 rfl (lv_at hl 0 rfl) ?_
      refine lv_iconst (v := 1) hx hb dX12_read_40 (by decide) ?_
      obtain ⟨r2, h3, E4, hsp⟩ := fr_b2 hsp
      refine fq_callV (rest := []) (st1 := [.int r2]) C hR (k_X12_fail C.2.2 ha E4) Y_X12_fail YV_X12_fail Lk_RX12_299 ha ⟨_, _, rfl, by decide⟩ rfl hl.1 ⟨Nat.le_of_ble_eq_true rfl, Nat.le_of_ble_eq_true rfl⟩ rfl (Nat.le_of_ble_eq_true rfl) ⟨Nat.zero_le _, Nat.zero_le _⟩ rfl dX12_read_41 (fun H locs hR => ?_)
      obtain ⟨e1, e2⟩ := fr_s2 hsp
      exact fr_iret C hr hlocks hR e1 e2 dX12_read_44
    · rw [if_neg c1] at hsp
      refine lv_aload_n hx hb dX12_read_30 rfl (lv_at hl 0 rfl) ?_
      refine lv_iload_n hx hb dX12_read_31 rfl (lv_at hl 1 rfl) ?_
      refine lv_iload_n hx hb dX12_read_32 rfl (lv_at hl 2 rfl) ?_
      obtain ⟨r5, E6, hsp⟩ := fr_b1 hsp
      refine fq_callV (rest := []) (st1 := [.int r5]) C hR (k_X12_isKnown C.2.2 ha E6) Y_X12_isKnown YV_X12_isKnown Lk_RX12_320 ha ⟨_, _, rfl, by decide⟩ rfl hl.1 ⟨Nat.le_of_ble_eq_true rfl, Nat.le_of_ble_eq_true rfl⟩ rfl (Nat.le_of_ble_eq_true rfl) ⟨Nat.zero_le _, Nat.zero_le _⟩ rfl dX12_read_33 (fun H locs hR => ?_)
      refine lv_if_ne (tgt := 45) hx hb dX12_read_36 (by decide) (fun c7 => ?_) (fun c7 => ?_)
      · rw [if_neg c7] at hsp
        refine lv_iload_n hx hb dX12_read_45 rfl (lv_at hl 3 rfl) ?_
        refine lv_if_eq (tgt := 63) hx hb dX12_read_46 (by decide) (fun c8 => ?_) (fun c8 => ?_)
        · rw [if_pos c8] at hsp
          refine lv_aload_n hx hb dX12_read_63 rfl (lv_at hl 0 rfl) ?_
          obtain ⟨j9, hv10, hsp⟩ := fr_b1 hsp
          refine fr_getr C hR ha Fg_RX12_28 rfl hv10 dX12_read_64 ?_
          refine lv_bipush (v := 60) hx hb dX12_read_67 (by decide) ?_
          refine lv_iload_n hx hb dX12_read_69 rfl (lv_at hl 1 rfl) ?_
          refine lv_imul hx hb dX12_read_70 ?_
          refine lv_iload_n hx hb dX12_read_71 rfl (lv_at hl 2 rfl) ?_
          refine lv_iadd hx hb dX12_read_72 ?_
          obtain ⟨hk11, hsp⟩ := fr_ck hsp
          obtain ⟨hi12, hsp⟩ := fr_ck hsp
          refine fr_iald C hR hk11 hi12 dX12_read_73 ?_
          obtain ⟨e1, e2⟩ := fr_s2 hsp
          exact fr_iret C hr hlocks hR e1 e2 dX12_read_74
        · rw [if_neg c8] at hsp
          refine lv_aload_n hx hb dX12_read_49 rfl (lv_at hl 0 rfl) ?_
          obtain ⟨j13, hv14, hsp⟩ := fr_b1 hsp
          refine fr_getr C hR ha Fg_RX12_31 rfl hv14 dX12_read_50 ?_
          refine lv_bipush (v := 60) hx hb dX12_read_53 (by decide) ?_
          refine lv_iload_n hx hb dX12_read_55 rfl (lv_at hl 1 rfl) ?_
          refine lv_imul hx hb dX12_read_56 ?_
          refine lv_iload_n hx hb dX12_read_57 rfl (lv_at hl 2 rfl) ?_
          refine lv_iadd hx hb dX12_read_58 ?_
          obtain ⟨hk15, hsp⟩ := fr_ck hsp
          obtain ⟨hi16, hsp⟩ := fr_ck hsp
          refine fr_iald C hR hk15 hi16 dX12_read_59 ?_
          refine lv_goto (tgt := 74) hx hb dX12_read_60 (by decide) ?_
          obtain ⟨e1, e2⟩ := fr_s2 hsp
          exact fr_iret C hr hlocks hR e1 e2 dX12_read_74
      · rw [if_pos c7] at hsp
        refine lv_aload_n hx hb dX12_read_39 rfl (lv_at hl 0 rfl) ?_
        refine lv_iconst (v := 1) hx hb dX12_read_40 (by decide) ?_
        obtain ⟨r17, h18, E19, hsp⟩ := fr_b2 hsp
        refine fq_callV (rest := []) (st1 := [.int r17]) C hR (k_X12_fail C.2.2 ha E19) Y_X12_fail YV_X12_fail Lk_RX12_299 ha ⟨_, _, rfl, by decide⟩ rfl hl.1 ⟨Nat.le_of_ble_eq_true rfl, Nat.le_of_ble_eq_true rfl⟩ rfl (Nat.le_of_ble_eq_true rfl) ⟨Nat.zero_le _, Nat.zero_le _⟩ rfl dX12_read_41 (fun H locs hR => ?_)
        obtain ⟨e1, e2⟩ := fr_s2 hsp
        exact fr_iret C hr hlocks hR e1 e2 dX12_read_44
  refine lv_aload_n hx hb dX12_read_0 rfl (lv_at hl 0 rfl) ?_
  refine lv_iconst (v := 0) hx hb dX12_read_1 (by decide) ?_
  refine fr_puti C hR ha Fp_RX12_73 rfl dX12_read_2 (fun H locs hR => ?_)
  obtain ⟨h1, eh1⟩ : ∃ z, z = fh_sI h a 3 (0 : Int32) := ⟨_, rfl⟩
  rw [← eh1] at hR
  have hsp := fr_let eh1 hsp
  refine lv_iload_n hx hb dX12_read_5 rfl (lv_at hl 1 rfl) ?_
  obtain ⟨r2, E3, hsp⟩ := fr_b1 hsp
  refine fq_callS (rest := []) (st1 := [.int r2]) C hR (k_X12_isRow C.2.2 E3) Y_X12_isRow YS_X12_isRow Lk_RX12_264 rfl hl.1 ⟨Nat.le_of_ble_eq_true rfl, Nat.le_of_ble_eq_true rfl⟩ rfl (Nat.le_of_ble_eq_true rfl) ⟨Nat.zero_le _, Nat.zero_le _⟩ rfl dX12_read_6 (fun H locs hR => ?_)
  refine lv_if_eq (tgt := 39) hx hb dX12_read_9 (by decide) (fun c4 => ?_) (fun c4 => ?_)
  · rw [if_pos c4] at hsp
    refine lv_aload_n hx hb dX12_read_39 rfl (lv_at hl 0 rfl) ?_
    refine lv_iconst (v := 1) hx hb dX12_read_40 (by decide) ?_
    obtain ⟨r5, h6, E7, hsp⟩ := fr_b2 hsp
    refine fq_callV (rest := []) (st1 := [.int r5]) C hR (k_X12_fail C.2.2 ha E7) Y_X12_fail YV_X12_fail Lk_RX12_299 ha ⟨_, _, rfl, by decide⟩ rfl hl.1 ⟨Nat.le_of_ble_eq_true rfl, Nat.le_of_ble_eq_true rfl⟩ rfl (Nat.le_of_ble_eq_true rfl) ⟨Nat.zero_le _, Nat.zero_le _⟩ rfl dX12_read_41 (fun H locs hR => ?_)
    obtain ⟨e1, e2⟩ := fr_s2 hsp
    exact fr_iret C hr hlocks hR e1 e2 dX12_read_44
  · rw [if_neg c4] at hsp
    refine lv_aload_n hx hb dX12_read_12 rfl (lv_at hl 0 rfl) ?_
    refine lv_iload_n hx hb dX12_read_13 rfl (lv_at hl 1 rfl) ?_
    refine lv_iconst (v := 0) hx hb dX12_read_14 (by decide) ?_
    obtain ⟨r8, E9, hsp⟩ := fr_b1 hsp
    refine fq_callV (rest := []) (st1 := [.int r8]) C hR (k_X12_of1 C.2.2 ha E9) Y_X12_of1 YV_X12_of1 Lk_RX12_86 ha ⟨_, _, rfl, by decide⟩ rfl hl.1 ⟨Nat.le_of_ble_eq_true rfl, Nat.le_of_ble_eq_true rfl⟩ rfl (Nat.le_of_ble_eq_true rfl) ⟨Nat.zero_le _, Nat.zero_le _⟩ rfl dX12_read_15 (fun H locs hR => ?_)
    refine lv_iload_n hx hb dX12_read_18 rfl (lv_at hl 3 rfl) ?_
    refine lv_if_eq (tgt := 26) hx hb dX12_read_19 (by decide) (fun c10 => ?_) (fun c10 => ?_)
    · rw [if_pos c10] at hsp
      refine lv_iconst (v := 3) hx hb dX12_read_26 (by decide) ?_
      exact hb_27 h1 x1 x2 x3 (3 : Int32) r8 _ _ _ hsp hR (lv_sub hl [0, 1, 2, 3] rfl)
    · rw [if_neg c10] at hsp
      refine lv_iconst (v := 4) hx hb dX12_read_22 (by decide) ?_
      refine lv_goto (tgt := 27) hx hb dX12_read_23 (by decide) ?_
      exact hb_27 h1 x1 x2 x3 (4 : Int32) r8 _ _ _ hsp hR (lv_sub hl [0, 1, 2, 3] rfl)

/-! TermRowsModel.layConvergents(I)V -/
def z_X12_layConvergents_b141 (S : fh_S) (a : Nat) (K12 : fh_H → Int32 → Int32 → Option fh_H) (h : fh_H) (y1 : Int32) (y2 : Int32) (t0 : Int64) (t1 : Int64) (t2 : Int64) (t3 : Nat) (t4 : Int32) (t5 : Option Nat) : Option fh_H :=
    fh_nn t5 (fh_ck (fh_kq S t3 12) (fh_b2 (z_X12_timesAnd S h t3 t2 t1 t0) (fun r2 h3 => none))) (fun jt5 => fh_ck (fh_kq S t3 12) (fh_b2 (z_X12_timesAnd S h t3 t2 t1 t0) (fun r6 h7 => fh_ck (fh_kq S jt5 14) (fh_ck (fh_in t4 (S.2.2 jt5)) (fh_let (fh_sJ h7 jt5 (Int32.toNatClampNeg t4) r6) (fun h11 => if (h11.1 a 16) = 0 then (fh_let (fh_sI h11 a 28 ((h11.1 a 28) + (1 : Int32))) (fun h13 => fh_let (y2 + 1) (fun v14 => K12 h13 y1 v14))) else (fh_let (fh_sI h11 a 28 ((h11.1 a 28) + (0 : Int32))) (fun h15 => fh_let (y2 + 1) (fun v16 => K12 h15 y1 v16)))))))))
def z_X12_layConvergents_b109 (S : fh_S) (a : Nat) (K12 : fh_H → Int32 → Int32 → Option fh_H) (h : fh_H) (y1 : Int32) (y2 : Int32) (t0 : Int64) (t1 : Nat) (t2 : Int32) (t3 : Option Nat) : Option fh_H :=
    fh_nn t3 (fh_b1 (z_X12_termOf S h a y1 y2) (fun r1 => if y2 = 0 then (z_X12_layConvergents_b141 S a K12 h y1 y2 (1 : Int64) (Int32.toInt64 r1) t0 t1 t2 none) else (if y2 = (1 : Int32) then (z_X12_layConvergents_b141 S a K12 h y1 y2 (0 : Int64) (Int32.toInt64 r1) t0 t1 t2 none) else (fh_b1 (h.2.2 a 27) (fun j5 => fh_ck (fh_kq S j5 14) (fh_ck (fh_in (y2 - (2 : Int32)) (S.2.2 j5)) (z_X12_layConvergents_b141 S a K12 h y1 y2 (h.2.1 j5 (Int32.toNatClampNeg (y2 - (2 : Int32)))) (Int32.toInt64 r1) t0 t1 t2 none))))))) (fun jt3 => fh_b1 (z_X12_termOf S h a y1 y2) (fun r9 => if y2 = 0 then (z_X12_layConvergents_b141 S a K12 h y1 y2 (1 : Int64) (Int32.toInt64 r9) t0 t1 t2 (some jt3)) else (if y2 = (1 : Int32) then (z_X12_layConvergents_b141 S a K12 h y1 y2 (0 : Int64) (Int32.toInt64 r9) t0 t1 t2 (some jt3)) else (fh_b1 (h.2.2 a 27) (fun j13 => fh_ck (fh_kq S j13 14) (fh_ck (fh_in (y2 - (2 : Int32)) (S.2.2 j13)) (z_X12_layConvergents_b141 S a K12 h y1 y2 (h.2.1 j13 (Int32.toNatClampNeg (y2 - (2 : Int32)))) (Int32.toInt64 r9) t0 t1 t2 (some jt3))))))))
def z_X12_layConvergents_b83 (S : fh_S) (a : Nat) (K12 : fh_H → Int32 → Int32 → Option fh_H) (h : fh_H) (y1 : Int32) (y2 : Int32) (t0 : Int64) (t1 : Int64) (t2 : Int64) (t3 : Nat) (t4 : Int32) (t5 : Option Nat) : Option fh_H :=
    fh_nn t5 (fh_ck (fh_kq S t3 12) (fh_b2 (z_X12_timesAnd S h t3 t2 t1 t0) (fun r2 h3 => none))) (fun jt5 => fh_ck (fh_kq S t3 12) (fh_b2 (z_X12_timesAnd S h t3 t2 t1 t0) (fun r6 h7 => fh_ck (fh_kq S jt5 14) (fh_ck (fh_in t4 (S.2.2 jt5)) (fh_let (fh_sJ h7 jt5 (Int32.toNatClampNeg t4) r6) (fun h11 => fh_nn (h11.2.2 a 27) (if y2 = 0 then (z_X12_layConvergents_b109 S a K12 h11 y1 y2 (0 : Int64) a y2 none) else (none)) (fun j12 => if y2 = 0 then (z_X12_layConvergents_b109 S a K12 h11 y1 y2 (0 : Int64) a y2 (some j12)) else (fh_ck (fh_kq S j12 14) (fh_ck (fh_in (y2 - (1 : Int32)) (S.2.2 j12)) (z_X12_layConvergents_b109 S a K12 h11 y1 y2 (h11.2.1 j12 (Int32.toNatClampNeg (y2 - (1 : Int32)))) a y2 (some j12)))))))))))
def z_X12_layConvergents_b51 (S : fh_S) (a : Nat) (K12 : fh_H → Int32 → Int32 → Option fh_H) (h : fh_H) (y1 : Int32) (y2 : Int32) (t0 : Int64) (t1 : Nat) (t2 : Int32) (t3 : Option Nat) : Option fh_H :=
    fh_nn t3 (fh_b1 (z_X12_termOf S h a y1 y2) (fun r1 => if y2 = 0 then (z_X12_layConvergents_b83 S a K12 h y1 y2 (0 : Int64) (Int32.toInt64 r1) t0 t1 t2 none) else (if y2 = (1 : Int32) then (z_X12_layConvergents_b83 S a K12 h y1 y2 (1 : Int64) (Int32.toInt64 r1) t0 t1 t2 none) else (fh_b1 (h.2.2 a 26) (fun j5 => fh_ck (fh_kq S j5 14) (fh_ck (fh_in (y2 - (2 : Int32)) (S.2.2 j5)) (z_X12_layConvergents_b83 S a K12 h y1 y2 (h.2.1 j5 (Int32.toNatClampNeg (y2 - (2 : Int32)))) (Int32.toInt64 r1) t0 t1 t2 none))))))) (fun jt3 => fh_b1 (z_X12_termOf S h a y1 y2) (fun r9 => if y2 = 0 then (z_X12_layConvergents_b83 S a K12 h y1 y2 (0 : Int64) (Int32.toInt64 r9) t0 t1 t2 (some jt3)) else (if y2 = (1 : Int32) then (z_X12_layConvergents_b83 S a K12 h y1 y2 (1 : Int64) (Int32.toInt64 r9) t0 t1 t2 (some jt3)) else (fh_b1 (h.2.2 a 26) (fun j13 => fh_ck (fh_kq S j13 14) (fh_ck (fh_in (y2 - (2 : Int32)) (S.2.2 j13)) (z_X12_layConvergents_b83 S a K12 h y1 y2 (h.2.1 j13 (Int32.toNatClampNeg (y2 - (2 : Int32)))) (Int32.toInt64 r9) t0 t1 t2 (some jt3))))))))
def z_X12_layConvergents_b12 (S : fh_S) (a : Nat) : Nat → fh_H → Int32 → Int32 → Option fh_H
  | 0, _, _, _ => none
  | n + 1, h, y1, y2 =>
    fh_b1 (h.2.2 a 5) (fun j1 => fh_ck (fh_kq S j1 13) (fh_ck (fh_in y1 (S.2.2 j1)) (if (h.1 j1 (Int32.toNatClampNeg y1)) ≤ y2 then (some h) else (if (h.1 a 16) = 0 then (fh_nn (h.2.2 a 26) (if y2 = 0 then (z_X12_layConvergents_b51 S a (z_X12_layConvergents_b12 S a n) h y1 y2 (1 : Int64) a y2 none) else (none)) (fun j7 => if y2 = 0 then (z_X12_layConvergents_b51 S a (z_X12_layConvergents_b12 S a n) h y1 y2 (1 : Int64) a y2 (some j7)) else (fh_ck (fh_kq S j7 14) (fh_ck (fh_in (y2 - (1 : Int32)) (S.2.2 j7)) (z_X12_layConvergents_b51 S a (z_X12_layConvergents_b12 S a n) h y1 y2 (h.2.1 j7 (Int32.toNatClampNeg (y2 - (1 : Int32)))) a y2 (some j7)))))) else (some h)))))
def z_X12_layConvergents (S : fh_S) (h : fh_H) (a : Nat) (x1 : Int32) : Option fh_H :=
    fh_let (fh_sI h a 28 (0 : Int32)) (fun h1 => fh_let (fh_sI h1 a 16 (0 : Int32)) (fun h2 => z_X12_layConvergents_b12 S a 20000 h2 x1 (0 : Int32)))
set_option maxHeartbeats 4000000 in
set_option maxRecDepth 100000 in
theorem k_X12_layConvergents {l : Launch} {S : fh_S} {g : fh_G} {h h' : fh_H} (hj : fh_inj S g) {a : Nat} {x1 : Int32} (ha : fh_kq S a 12 = true) (hsp : z_X12_layConvergents S h a x1 = some h') : fh_M l yX12_layConvergents cX12_layConvergents 3 none (fh_rm 3) S g [.ref (g.2.2 a), .int x1] h none h' := by
  unfold z_X12_layConvergents at hsp
  refine fr_head (own := RX12) (by decide) rfl hj (Nat.le_of_ble_eq_true rfl) ?_
  intro p e s m below meth c ls C hr hlocks hR hl
  have hl : lv_has ls 3 [(0, .ref (g.2.2 a)), (1, .int x1)] := hl
  have hx := C.1.1
  have hb := C.1.2.1
  have hb_141 : ∀ (K12 : fh_H → Int32 → Int32 → Option fh_H) (hK12 : ∀ (h : fh_H) (y1 : Int32) (y2 : Int32) (H : Heap) (locs : List Loc) (ls : Array Slot), K12 h y1 y2 = some h' → fh_R S g s.heap h H locs → lv_has ls 3 [(0, .ref (g.2.2 a)), (1, .int y1), (2, .int y2)] → fh_Wk p l e 3 s m [.ref (g.2.2 a), .int x1] below meth c S g none h' H locs (F0 m 12 ls [])), ∀ (h : fh_H) (y1 : Int32) (y2 : Int32) (t0 : Int64) (t1 : Int64) (t2 : Int64) (t3 : Nat) (t4 : Int32) (t5 : Option Nat) (H : Heap) (locs : List Loc) (ls : Array Slot), z_X12_layConvergents_b141 S a K12 h y1 y2 t0 t1 t2 t3 t4 t5 = some h' → fh_R S g s.heap h H locs → lv_has ls 3 [(0, .ref (g.2.2 a)), (1, .int y1), (2, .int y2)] → fh_Wk p l e 3 s m [.ref (g.2.2 a), .int x1] below meth c S g none h' H locs (F0 m 141 ls [.long t0, .long t1, .long t2, .ref (g.2.2 t3), .int t4, va_rf (Option.map g.2.2 t5)]) := by
    intro K12 hK12 h y1 y2 t0 t1 t2 t3 t4 t5 H locs ls hsp hR hl
    unfold z_X12_layConvergents_b141 at hsp
    rcases t5 with _ | jt5
    · have hsp := fr_nnN hsp
      have hl : lv_has ls 3 [(0, .ref (g.2.2 a)), (1, .int y1), (2, .int y2)] := hl
      refine W.eq (g2 := F0 m 141 ls [.long t0, .long t1, .long t2, .ref (g.2.2 t3), .int t4, .null]) rfl ?_
      obtain ⟨hk1, hsp⟩ := fr_ck hsp
      obtain ⟨r2, h3, E4, hsp⟩ := fr_b2 hsp
      refine fq_callV (rest := [.int t4, .null]) (st1 := [.long r2, .int t4, .null]) C hR (k_X12_timesAnd C.2.2 hk1 E4) Y_X12_timesAnd YV_X12_timesAnd Lk_RX12_204 hk1 ⟨_, _, rfl, by decide⟩ rfl hl.1 ⟨Nat.le_of_ble_eq_true rfl, Nat.le_of_ble_eq_true rfl⟩ rfl (Nat.le_of_ble_eq_true rfl) ⟨Nat.zero_le _, Nat.zero_le _⟩ rfl dX12_layConvergents_141 (fun H locs hR => ?_)
      cases hsp
    · have hsp := fr_nnS hsp
      have hl : lv_has ls 3 [(0, .ref (g.2.2 a)), (1, .int y1), (2, .int y2)] := hl
      refine W.eq (g2 := F0 m 141 ls [.long t0, .long t1, .long t2, .ref (g.2.2 t3), .int t4, .ref (g.2.2 jt5)]) rfl ?_
      obtain ⟨hk5, hsp⟩ := fr_ck hsp
      obtain ⟨r6, h7, E8, hsp⟩ := fr_b2 hsp
      refine fq_callV (rest := [.int t4, .ref (g.2.2 jt5)]) (st1 := [.long r6, .int t4, .ref (g.2.2 jt5)]) C hR (k_X12_timesAnd C.2.2 hk5 E8) Y_X12_timesAnd YV_X12_timesAnd Lk_RX12_204 hk5 ⟨_, _, rfl, by decide⟩ rfl hl.1 ⟨Nat.le_of_ble_eq_true rfl, Nat.le_of_ble_eq_true rfl⟩ rfl (Nat.le_of_ble_eq_true rfl) ⟨Nat.zero_le _, Nat.zero_le _⟩ rfl dX12_layConvergents_141 (fun H locs hR => ?_)
      obtain ⟨hk9, hsp⟩ := fr_ck hsp
      obtain ⟨hi10, hsp⟩ := fr_ck hsp
      refine fr_last C hR hk9 hi10 dX12_layConvergents_144 (fun H locs hR => ?_)
      obtain ⟨h11, eh11⟩ : ∃ z, z = fh_sJ h7 jt5 (Int32.toNatClampNeg t4) r6 := ⟨_, rfl⟩
      rw [← eh11] at hR
      have hsp := fr_let eh11 hsp
      refine lv_aload_n hx hb dX12_layConvergents_145 rfl (lv_at hl 0 rfl) ?_
      refine lv_dup hx hb dX12_layConvergents_146 rfl ?_
      refine fr_geti C hR ha Fg_RX12_323 rfl dX12_layConvergents_147 ?_
      refine lv_aload_n hx hb dX12_layConvergents_150 rfl (lv_at hl 0 rfl) ?_
      refine fr_geti C hR ha Fg_RX12_141 rfl dX12_layConvergents_151 ?_
      refine lv_if_eq (tgt := 161) hx hb dX12_layConvergents_154 (by decide) (fun c12 => ?_) (fun c12 => ?_)
      · rw [if_pos c12] at hsp
        refine lv_iconst (v := 1) hx hb dX12_layConvergents_161 (by decide) ?_
        refine lv_iadd hx hb dX12_layConvergents_162 ?_
        refine fr_puti C hR ha Fp_RX12_323 rfl dX12_layConvergents_163 (fun H locs hR => ?_)
        obtain ⟨h13, eh13⟩ : ∃ z, z = fh_sI h11 a 28 ((h11.1 a 28) + (1 : Int32)) := ⟨_, rfl⟩
        rw [← eh13] at hR
        have hsp := fr_let eh13 hsp
        obtain ⟨v14, ev14⟩ : ∃ z : Int32, z = y2 + 1 := ⟨_, rfl⟩
        have hsp := fr_let ev14 hsp
        refine lv_iinc (v := v14) (lv' := [(2, .int v14), (0, .ref (g.2.2 a)), (1, .int y1)]) hx hb dX12_layConvergents_166 hl (k := 2) rfl (by rw [ev14]; rfl) (by decide) rfl (fun ls hl => ?_)
        refine lv_goto (tgt := 12) hx hb dX12_layConvergents_169 (by decide) ?_
        exact hK12 h13 y1 v14 _ _ _ hsp hR (lv_sub hl [1, 2, 0] rfl)
      · rw [if_neg c12] at hsp
        refine lv_iconst (v := 0) hx hb dX12_layConvergents_157 (by decide) ?_
        refine lv_goto (tgt := 162) hx hb dX12_layConvergents_158 (by decide) ?_
        refine lv_iadd hx hb dX12_layConvergents_162 ?_
        refine fr_puti C hR ha Fp_RX12_323 rfl dX12_layConvergents_163 (fun H locs hR => ?_)
        obtain ⟨h15, eh15⟩ : ∃ z, z = fh_sI h11 a 28 ((h11.1 a 28) + (0 : Int32)) := ⟨_, rfl⟩
        rw [← eh15] at hR
        have hsp := fr_let eh15 hsp
        obtain ⟨v16, ev16⟩ : ∃ z : Int32, z = y2 + 1 := ⟨_, rfl⟩
        have hsp := fr_let ev16 hsp
        refine lv_iinc (v := v16) (lv' := [(2, .int v16), (0, .ref (g.2.2 a)), (1, .int y1)]) hx hb dX12_layConvergents_166 hl (k := 2) rfl (by rw [ev16]; rfl) (by decide) rfl (fun ls hl => ?_)
        refine lv_goto (tgt := 12) hx hb dX12_layConvergents_169 (by decide) ?_
        exact hK12 h15 y1 v16 _ _ _ hsp hR (lv_sub hl [1, 2, 0] rfl)
  have hb_109 : ∀ (K12 : fh_H → Int32 → Int32 → Option fh_H) (hK12 : ∀ (h : fh_H) (y1 : Int32) (y2 : Int32) (H : Heap) (locs : List Loc) (ls : Array Slot), K12 h y1 y2 = some h' → fh_R S g s.heap h H locs → lv_has ls 3 [(0, .ref (g.2.2 a)), (1, .int y1), (2, .int y2)] → fh_Wk p l e 3 s m [.ref (g.2.2 a), .int x1] below meth c S g none h' H locs (F0 m 12 ls [])), ∀ (h : fh_H) (y1 : Int32) (y2 : Int32) (t0 : Int64) (t1 : Nat) (t2 : Int32) (t3 : Option Nat) (H : Heap) (locs : List Loc) (ls : Array Slot), z_X12_layConvergents_b109 S a K12 h y1 y2 t0 t1 t2 t3 = some h' → fh_R S g s.heap h H locs → lv_has ls 3 [(0, .ref (g.2.2 a)), (1, .int y1), (2, .int y2)] → fh_Wk p l e 3 s m [.ref (g.2.2 a), .int x1] below meth c S g none h' H locs (F0 m 109 ls [.long t0, .ref (g.2.2 t1), .int t2, va_rf (Option.map g.2.2 t3)]) := by
    intro K12 hK12 h y1 y2 t0 t1 t2 t3 H locs ls hsp hR hl
    unfold z_X12_layConvergents_b109 at hsp
    rcases t3 with _ | jt3
    · have hsp := fr_nnN hsp
      have hl : lv_has ls 3 [(0, .ref (g.2.2 a)), (1, .int y1), (2, .int y2)] := hl
      refine W.eq (g2 := F0 m 109 ls [.long t0, .ref (g.2.2 t1), .int t2, .null]) rfl ?_
      refine lv_aload_n hx hb dX12_layConvergents_109 rfl (lv_at hl 0 rfl) ?_
      refine lv_iload_n hx hb dX12_layConvergents_110 rfl (lv_at hl 1 rfl) ?_
      refine lv_iload_n hx hb dX12_layConvergents_111 rfl (lv_at hl 2 rfl) ?_
      obtain ⟨r1, E2, hsp⟩ := fr_b1 hsp
      refine fq_callV (rest := [.long t0, .ref (g.2.2 t1), .int t2, .null]) (st1 := [.int r1, .long t0, .ref (g.2.2 t1), .int t2, .null]) C hR (k_X12_termOf C.2.2 ha E2) Y_X12_termOf YV_X12_termOf Lk_RX12_219 ha ⟨_, _, rfl, by decide⟩ rfl hl.1 ⟨Nat.le_of_ble_eq_true rfl, Nat.le_of_ble_eq_true rfl⟩ rfl (Nat.le_of_ble_eq_true rfl) ⟨Nat.zero_le _, Nat.zero_le _⟩ rfl dX12_layConvergents_112 (fun H locs hR => ?_)
      refine lv_i2l hx hb dX12_layConvergents_115 rfl ?_
      refine lv_iload_n hx hb dX12_layConvergents_116 rfl (lv_at hl 2 rfl) ?_
      refine lv_if_ne (tgt := 124) hx hb dX12_layConvergents_117 (by decide) (fun c3 => ?_) (fun c3 => ?_)
      · rw [if_neg c3] at hsp
        refine lv_iload_n hx hb dX12_layConvergents_124 rfl (lv_at hl 2 rfl) ?_
        refine lv_iconst (v := 1) hx hb dX12_layConvergents_125 (by decide) ?_
        refine lv_icmp_ne (tgt := 133) hx hb dX12_layConvergents_126 (by decide) (fun c4 => ?_) (fun c4 => ?_)
        · rw [if_neg c4] at hsp
          refine lv_aload_n hx hb dX12_layConvergents_133 rfl (lv_at hl 0 rfl) ?_
          obtain ⟨j5, hv6, hsp⟩ := fr_b1 hsp
          refine fr_getr C hR ha Fg_RX12_50 rfl hv6 dX12_layConvergents_134 ?_
          refine lv_iload_n hx hb dX12_layConvergents_137 rfl (lv_at hl 2 rfl) ?_
          refine lv_iconst (v := 2) hx hb dX12_layConvergents_138 (by decide) ?_
          refine lv_isub hx hb dX12_layConvergents_139 ?_
          obtain ⟨hk7, hsp⟩ := fr_ck hsp
          obtain ⟨hi8, hsp⟩ := fr_ck hsp
          refine fr_lald C hR hk7 hi8 dX12_layConvergents_140 ?_
          exact hb_141 K12 hK12 h y1 y2 (h.2.1 j5 (Int32.toNatClampNeg (y2 - (2 : Int32)))) (Int32.toInt64 r1) t0 t1 t2 none _ _ _ hsp hR (lv_sub hl [0, 1, 2] rfl)
        · rw [if_pos c4] at hsp
          refine lv_lconst (v := 0) hx hb dX12_layConvergents_129 (by decide) ?_
          refine lv_goto (tgt := 141) hx hb dX12_layConvergents_130 (by decide) ?_
          exact hb_141 K12 hK12 h y1 y2 (0 : Int64) (Int32.toInt64 r1) t0 t1 t2 none _ _ _ hsp hR (lv_sub hl [0, 1, 2] rfl)
      · rw [if_pos c3] at hsp
        refine lv_lconst (v := 1) hx hb dX12_layConvergents_120 (by decide) ?_
        refine lv_goto (tgt := 141) hx hb dX12_layConvergents_121 (by decide) ?_
        exact hb_141 K12 hK12 h y1 y2 (1 : Int64) (Int32.toInt64 r1) t0 t1 t2 none _ _ _ hsp hR (lv_sub hl [0, 1, 2] rfl)
    · have hsp := fr_nnS hsp
      have hl : lv_has ls 3 [(0, .ref (g.2.2 a)), (1, .int y1), (2, .int y2)] := hl
      refine W.eq (g2 := F0 m 109 ls [.long t0, .ref (g.2.2 t1), .int t2, .ref (g.2.2 jt3)]) rfl ?_
      refine lv_aload_n hx hb dX12_layConvergents_109 rfl (lv_at hl 0 rfl) ?_
      refine lv_iload_n hx hb dX12_layConvergents_110 rfl (lv_at hl 1 rfl) ?_
      refine lv_iload_n hx hb dX12_layConvergents_111 rfl (lv_at hl 2 rfl) ?_
      obtain ⟨r9, E10, hsp⟩ := fr_b1 hsp
      refine fq_callV (rest := [.long t0, .ref (g.2.2 t1), .int t2, .ref (g.2.2 jt3)]) (st1 := [.int r9, .long t0, .ref (g.2.2 t1), .int t2, .ref (g.2.2 jt3)]) C hR (k_X12_termOf C.2.2 ha E10) Y_X12_termOf YV_X12_termOf Lk_RX12_219 ha ⟨_, _, rfl, by decide⟩ rfl hl.1 ⟨Nat.le_of_ble_eq_true rfl, Nat.le_of_ble_eq_true rfl⟩ rfl (Nat.le_of_ble_eq_true rfl) ⟨Nat.zero_le _, Nat.zero_le _⟩ rfl dX12_layConvergents_112 (fun H locs hR => ?_)
      refine lv_i2l hx hb dX12_layConvergents_115 rfl ?_
      refine lv_iload_n hx hb dX12_layConvergents_116 rfl (lv_at hl 2 rfl) ?_
      refine lv_if_ne (tgt := 124) hx hb dX12_layConvergents_117 (by decide) (fun c11 => ?_) (fun c11 => ?_)
      · rw [if_neg c11] at hsp
        refine lv_iload_n hx hb dX12_layConvergents_124 rfl (lv_at hl 2 rfl) ?_
        refine lv_iconst (v := 1) hx hb dX12_layConvergents_125 (by decide) ?_
        refine lv_icmp_ne (tgt := 133) hx hb dX12_layConvergents_126 (by decide) (fun c12 => ?_) (fun c12 => ?_)
        · rw [if_neg c12] at hsp
          refine lv_aload_n hx hb dX12_layConvergents_133 rfl (lv_at hl 0 rfl) ?_
          obtain ⟨j13, hv14, hsp⟩ := fr_b1 hsp
          refine fr_getr C hR ha Fg_RX12_50 rfl hv14 dX12_layConvergents_134 ?_
          refine lv_iload_n hx hb dX12_layConvergents_137 rfl (lv_at hl 2 rfl) ?_
          refine lv_iconst (v := 2) hx hb dX12_layConvergents_138 (by decide) ?_
          refine lv_isub hx hb dX12_layConvergents_139 ?_
          obtain ⟨hk15, hsp⟩ := fr_ck hsp
          obtain ⟨hi16, hsp⟩ := fr_ck hsp
          refine fr_lald C hR hk15 hi16 dX12_layConvergents_140 ?_
          exact hb_141 K12 hK12 h y1 y2 (h.2.1 j13 (Int32.toNatClampNeg (y2 - (2 : Int32)))) (Int32.toInt64 r9) t0 t1 t2 (some jt3) _ _ _ hsp hR (lv_sub hl [0, 1, 2] rfl)
        · rw [if_pos c12] at hsp
          refine lv_lconst (v := 0) hx hb dX12_layConvergents_129 (by decide) ?_
          refine lv_goto (tgt := 141) hx hb dX12_layConvergents_130 (by decide) ?_
          exact hb_141 K12 hK12 h y1 y2 (0 : Int64) (Int32.toInt64 r9) t0 t1 t2 (some jt3) _ _ _ hsp hR (lv_sub hl [0, 1, 2] rfl)
      · rw [if_pos c11] at hsp
        refine lv_lconst (v := 1) hx hb dX12_layConvergents_120 (by decide) ?_
        refine lv_goto (tgt := 141) hx hb dX12_layConvergents_121 (by decide) ?_
        exact hb_141 K12 hK12 h y1 y2 (1 : Int64) (Int32.toInt64 r9) t0 t1 t2 (some jt3) _ _ _ hsp hR (lv_sub hl [0, 1, 2] rfl)
  have hb_83 : ∀ (K12 : fh_H → Int32 → Int32 → Option fh_H) (hK12 : ∀ (h : fh_H) (y1 : Int32) (y2 : Int32) (H : Heap) (locs : List Loc) (ls : Array Slot), K12 h y1 y2 = some h' → fh_R S g s.heap h H locs → lv_has ls 3 [(0, .ref (g.2.2 a)), (1, .int y1), (2, .int y2)] → fh_Wk p l e 3 s m [.ref (g.2.2 a), .int x1] below meth c S g none h' H locs (F0 m 12 ls [])), ∀ (h : fh_H) (y1 : Int32) (y2 : Int32) (t0 : Int64) (t1 : Int64) (t2 : Int64) (t3 : Nat) (t4 : Int32) (t5 : Option Nat) (H : Heap) (locs : List Loc) (ls : Array Slot), z_X12_layConvergents_b83 S a K12 h y1 y2 t0 t1 t2 t3 t4 t5 = some h' → fh_R S g s.heap h H locs → lv_has ls 3 [(0, .ref (g.2.2 a)), (1, .int y1), (2, .int y2)] → fh_Wk p l e 3 s m [.ref (g.2.2 a), .int x1] below meth c S g none h' H locs (F0 m 83 ls [.long t0, .long t1, .long t2, .ref (g.2.2 t3), .int t4, va_rf (Option.map g.2.2 t5)]) := by
    intro K12 hK12 h y1 y2 t0 t1 t2 t3 t4 t5 H locs ls hsp hR hl
    unfold z_X12_layConvergents_b83 at hsp
    rcases t5 with _ | jt5
    · have hsp := fr_nnN hsp
      have hl : lv_has ls 3 [(0, .ref (g.2.2 a)), (1, .int y1), (2, .int y2)] := hl
      refine W.eq (g2 := F0 m 83 ls [.long t0, .long t1, .long t2, .ref (g.2.2 t3), .int t4, .null]) rfl ?_
      obtain ⟨hk1, hsp⟩ := fr_ck hsp
      obtain ⟨r2, h3, E4, hsp⟩ := fr_b2 hsp
      refine fq_callV (rest := [.int t4, .null]) (st1 := [.long r2, .int t4, .null]) C hR (k_X12_timesAnd C.2.2 hk1 E4) Y_X12_timesAnd YV_X12_timesAnd Lk_RX12_204 hk1 ⟨_, _, rfl, by decide⟩ rfl hl.1 ⟨Nat.le_of_ble_eq_true rfl, Nat.le_of_ble_eq_true rfl⟩ rfl (Nat.le_of_ble_eq_true rfl) ⟨Nat.zero_le _, Nat.zero_le _⟩ rfl dX12_layConvergents_83 (fun H locs hR => ?_)
      cases hsp
    · have hsp := fr_nnS hsp
      have hl : lv_has ls 3 [(0, .ref (g.2.2 a)), (1, .int y1), (2, .int y2)] := hl
      refine W.eq (g2 := F0 m 83 ls [.long t0, .long t1, .long t2, .ref (g.2.2 t3), .int t4, .ref (g.2.2 jt5)]) rfl ?_
      obtain ⟨hk5, hsp⟩ := fr_ck hsp
      obtain ⟨r6, h7, E8, hsp⟩ := fr_b2 hsp
      refine fq_callV (rest := [.int t4, .ref (g.2.2 jt5)]) (st1 := [.long r6, .int t4, .ref (g.2.2 jt5)]) C hR (k_X12_timesAnd C.2.2 hk5 E8) Y_X12_timesAnd YV_X12_timesAnd Lk_RX12_204 hk5 ⟨_, _, rfl, by decide⟩ rfl hl.1 ⟨Nat.le_of_ble_eq_true rfl, Nat.le_of_ble_eq_true rfl⟩ rfl (Nat.le_of_ble_eq_true rfl) ⟨Nat.zero_le _, Nat.zero_le _⟩ rfl dX12_layConvergents_83 (fun H locs hR => ?_)
      obtain ⟨hk9, hsp⟩ := fr_ck hsp
      obtain ⟨hi10, hsp⟩ := fr_ck hsp
      refine fr_last C hR hk9 hi10 dX12_layConvergents_86 (fun H locs hR => ?_)
      obtain ⟨h11, eh11⟩ : ∃ z, z = fh_sJ h7 jt5 (Int32.toNatClampNeg t4) r6 := ⟨_, rfl⟩
      rw [← eh11] at hR
      have hsp := fr_let eh11 hsp
      refine lv_aload_n hx hb dX12_layConvergents_87 rfl (lv_at hl 0 rfl) ?_
      rcases hv13 : (h11.2.2 a 27) with _ | j12
      · rw [hv13] at hsp; have hsp := fr_nnN hsp
        refine fr_getn C hR ha Fg_RX12_50 rfl hv13 dX12_layConvergents_88 ?_
        refine lv_iload_n hx hb dX12_layConvergents_91 rfl (lv_at hl 2 rfl) ?_
        refine lv_aload_n hx hb dX12_layConvergents_92 rfl (lv_at hl 0 rfl) ?_
        refine lv_iload_n hx hb dX12_layConvergents_93 rfl (lv_at hl 2 rfl) ?_
        refine lv_if_ne (tgt := 101) hx hb dX12_layConvergents_94 (by decide) (fun c14 => ?_) (fun c14 => ?_)
        · rw [if_neg c14] at hsp
          refine lv_aload_n hx hb dX12_layConvergents_101 rfl (lv_at hl 0 rfl) ?_
          refine fr_getn C hR ha Fg_RX12_50 rfl hv13 dX12_layConvergents_102 ?_
          refine lv_iload_n hx hb dX12_layConvergents_105 rfl (lv_at hl 2 rfl) ?_
          refine lv_iconst (v := 1) hx hb dX12_layConvergents_106 (by decide) ?_
          refine lv_isub hx hb dX12_layConvergents_107 ?_
          cases hsp
        · rw [if_pos c14] at hsp
          refine lv_lconst (v := 0) hx hb dX12_layConvergents_97 (by decide) ?_
          refine lv_goto (tgt := 109) hx hb dX12_layConvergents_98 (by decide) ?_
          exact hb_109 K12 hK12 h11 y1 y2 (0 : Int64) a y2 none _ _ _ hsp hR (lv_sub hl [0, 1, 2] rfl)
      · rw [hv13] at hsp; have hsp := fr_nnS hsp
        refine fr_getr C hR ha Fg_RX12_50 rfl hv13 dX12_layConvergents_88 ?_
        refine lv_iload_n hx hb dX12_layConvergents_91 rfl (lv_at hl 2 rfl) ?_
        refine lv_aload_n hx hb dX12_layConvergents_92 rfl (lv_at hl 0 rfl) ?_
        refine lv_iload_n hx hb dX12_layConvergents_93 rfl (lv_at hl 2 rfl) ?_
        refine lv_if_ne (tgt := 101) hx hb dX12_layConvergents_94 (by decide) (fun c15 => ?_) (fun c15 => ?_)
        · rw [if_neg c15] at hsp
          refine lv_aload_n hx hb dX12_layConvergents_101 rfl (lv_at hl 0 rfl) ?_
          refine fr_getr C hR ha Fg_RX12_50 rfl hv13 dX12_layConvergents_102 ?_
          refine lv_iload_n hx hb dX12_layConvergents_105 rfl (lv_at hl 2 rfl) ?_
          refine lv_iconst (v := 1) hx hb dX12_layConvergents_106 (by decide) ?_
          refine lv_isub hx hb dX12_layConvergents_107 ?_
          obtain ⟨hk16, hsp⟩ := fr_ck hsp
          obtain ⟨hi17, hsp⟩ := fr_ck hsp
          refine fr_lald C hR hk16 hi17 dX12_layConvergents_108 ?_
          exact hb_109 K12 hK12 h11 y1 y2 (h11.2.1 j12 (Int32.toNatClampNeg (y2 - (1 : Int32)))) a y2 (some j12) _ _ _ hsp hR (lv_sub hl [0, 1, 2] rfl)
        · rw [if_pos c15] at hsp
          refine lv_lconst (v := 0) hx hb dX12_layConvergents_97 (by decide) ?_
          refine lv_goto (tgt := 109) hx hb dX12_layConvergents_98 (by decide) ?_
          exact hb_109 K12 hK12 h11 y1 y2 (0 : Int64) a y2 (some j12) _ _ _ hsp hR (lv_sub hl [0, 1, 2] rfl)
  have hb_51 : ∀ (K12 : fh_H → Int32 → Int32 → Option fh_H) (hK12 : ∀ (h : fh_H) (y1 : Int32) (y2 : Int32) (H : Heap) (locs : List Loc) (ls : Array Slot), K12 h y1 y2 = some h' → fh_R S g s.heap h H locs → lv_has ls 3 [(0, .ref (g.2.2 a)), (1, .int y1), (2, .int y2)] → fh_Wk p l e 3 s m [.ref (g.2.2 a), .int x1] below meth c S g none h' H locs (F0 m 12 ls [])), ∀ (h : fh_H) (y1 : Int32) (y2 : Int32) (t0 : Int64) (t1 : Nat) (t2 : Int32) (t3 : Option Nat) (H : Heap) (locs : List Loc) (ls : Array Slot), z_X12_layConvergents_b51 S a K12 h y1 y2 t0 t1 t2 t3 = some h' → fh_R S g s.heap h H locs → lv_has ls 3 [(0, .ref (g.2.2 a)), (1, .int y1), (2, .int y2)] → fh_Wk p l e 3 s m [.ref (g.2.2 a), .int x1] below meth c S g none h' H locs (F0 m 51 ls [.long t0, .ref (g.2.2 t1), .int t2, va_rf (Option.map g.2.2 t3)]) := by
    intro K12 hK12 h y1 y2 t0 t1 t2 t3 H locs ls hsp hR hl
    unfold z_X12_layConvergents_b51 at hsp
    rcases t3 with _ | jt3
    · have hsp := fr_nnN hsp
      have hl : lv_has ls 3 [(0, .ref (g.2.2 a)), (1, .int y1), (2, .int y2)] := hl
      refine W.eq (g2 := F0 m 51 ls [.long t0, .ref (g.2.2 t1), .int t2, .null]) rfl ?_
      refine lv_aload_n hx hb dX12_layConvergents_51 rfl (lv_at hl 0 rfl) ?_
      refine lv_iload_n hx hb dX12_layConvergents_52 rfl (lv_at hl 1 rfl) ?_
      refine lv_iload_n hx hb dX12_layConvergents_53 rfl (lv_at hl 2 rfl) ?_
      obtain ⟨r1, E2, hsp⟩ := fr_b1 hsp
      refine fq_callV (rest := [.long t0, .ref (g.2.2 t1), .int t2, .null]) (st1 := [.int r1, .long t0, .ref (g.2.2 t1), .int t2, .null]) C hR (k_X12_termOf C.2.2 ha E2) Y_X12_termOf YV_X12_termOf Lk_RX12_219 ha ⟨_, _, rfl, by decide⟩ rfl hl.1 ⟨Nat.le_of_ble_eq_true rfl, Nat.le_of_ble_eq_true rfl⟩ rfl (Nat.le_of_ble_eq_true rfl) ⟨Nat.zero_le _, Nat.zero_le _⟩ rfl dX12_layConvergents_54 (fun H locs hR => ?_)
      refine lv_i2l hx hb dX12_layConvergents_57 rfl ?_
      refine lv_iload_n hx hb dX12_layConvergents_58 rfl (lv_at hl 2 rfl) ?_
      refine lv_if_ne (tgt := 66) hx hb dX12_layConvergents_59 (by decide) (fun c3 => ?_) (fun c3 => ?_)
      · rw [if_neg c3] at hsp
        refine lv_iload_n hx hb dX12_layConvergents_66 rfl (lv_at hl 2 rfl) ?_
        refine lv_iconst (v := 1) hx hb dX12_layConvergents_67 (by decide) ?_
        refine lv_icmp_ne (tgt := 75) hx hb dX12_layConvergents_68 (by decide) (fun c4 => ?_) (fun c4 => ?_)
        · rw [if_neg c4] at hsp
          refine lv_aload_n hx hb dX12_layConvergents_75 rfl (lv_at hl 0 rfl) ?_
          obtain ⟨j5, hv6, hsp⟩ := fr_b1 hsp
          refine fr_getr C hR ha Fg_RX12_47 rfl hv6 dX12_layConvergents_76 ?_
          refine lv_iload_n hx hb dX12_layConvergents_79 rfl (lv_at hl 2 rfl) ?_
          refine lv_iconst (v := 2) hx hb dX12_layConvergents_80 (by decide) ?_
          refine lv_isub hx hb dX12_layConvergents_81 ?_
          obtain ⟨hk7, hsp⟩ := fr_ck hsp
          obtain ⟨hi8, hsp⟩ := fr_ck hsp
          refine fr_lald C hR hk7 hi8 dX12_layConvergents_82 ?_
          exact hb_83 K12 hK12 h y1 y2 (h.2.1 j5 (Int32.toNatClampNeg (y2 - (2 : Int32)))) (Int32.toInt64 r1) t0 t1 t2 none _ _ _ hsp hR (lv_sub hl [0, 1, 2] rfl)
        · rw [if_pos c4] at hsp
          refine lv_lconst (v := 1) hx hb dX12_layConvergents_71 (by decide) ?_
          refine lv_goto (tgt := 83) hx hb dX12_layConvergents_72 (by decide) ?_
          exact hb_83 K12 hK12 h y1 y2 (1 : Int64) (Int32.toInt64 r1) t0 t1 t2 none _ _ _ hsp hR (lv_sub hl [0, 1, 2] rfl)
      · rw [if_pos c3] at hsp
        refine lv_lconst (v := 0) hx hb dX12_layConvergents_62 (by decide) ?_
        refine lv_goto (tgt := 83) hx hb dX12_layConvergents_63 (by decide) ?_
        exact hb_83 K12 hK12 h y1 y2 (0 : Int64) (Int32.toInt64 r1) t0 t1 t2 none _ _ _ hsp hR (lv_sub hl [0, 1, 2] rfl)
    · have hsp := fr_nnS hsp
      have hl : lv_has ls 3 [(0, .ref (g.2.2 a)), (1, .int y1), (2, .int y2)] := hl
      refine W.eq (g2 := F0 m 51 ls [.long t0, .ref (g.2.2 t1), .int t2, .ref (g.2.2 jt3)]) rfl ?_
      refine lv_aload_n hx hb dX12_layConvergents_51 rfl (lv_at hl 0 rfl) ?_
      refine lv_iload_n hx hb dX12_layConvergents_52 rfl (lv_at hl 1 rfl) ?_
      refine lv_iload_n hx hb dX12_layConvergents_53 rfl (lv_at hl 2 rfl) ?_
      obtain ⟨r9, E10, hsp⟩ := fr_b1 hsp
      refine fq_callV (rest := [.long t0, .ref (g.2.2 t1), .int t2, .ref (g.2.2 jt3)]) (st1 := [.int r9, .long t0, .ref (g.2.2 t1), .int t2, .ref (g.2.2 jt3)]) C hR (k_X12_termOf C.2.2 ha E10) Y_X12_termOf YV_X12_termOf Lk_RX12_219 ha ⟨_, _, rfl, by decide⟩ rfl hl.1 ⟨Nat.le_of_ble_eq_true rfl, Nat.le_of_ble_eq_true rfl⟩ rfl (Nat.le_of_ble_eq_true rfl) ⟨Nat.zero_le _, Nat.zero_le _⟩ rfl dX12_layConvergents_54 (fun H locs hR => ?_)
      refine lv_i2l hx hb dX12_layConvergents_57 rfl ?_
      refine lv_iload_n hx hb dX12_layConvergents_58 rfl (lv_at hl 2 rfl) ?_
      refine lv_if_ne (tgt := 66) hx hb dX12_layConvergents_59 (by decide) (fun c11 => ?_) (fun c11 => ?_)
      · rw [if_neg c11] at hsp
        refine lv_iload_n hx hb dX12_layConvergents_66 rfl (lv_at hl 2 rfl) ?_
        refine lv_iconst (v := 1) hx hb dX12_layConvergents_67 (by decide) ?_
        refine lv_icmp_ne (tgt := 75) hx hb dX12_layConvergents_68 (by decide) (fun c12 => ?_) (fun c12 => ?_)
        · rw [if_neg c12] at hsp
          refine lv_aload_n hx hb dX12_layConvergents_75 rfl (lv_at hl 0 rfl) ?_
          obtain ⟨j13, hv14, hsp⟩ := fr_b1 hsp
          refine fr_getr C hR ha Fg_RX12_47 rfl hv14 dX12_layConvergents_76 ?_
          refine lv_iload_n hx hb dX12_layConvergents_79 rfl (lv_at hl 2 rfl) ?_
          refine lv_iconst (v := 2) hx hb dX12_layConvergents_80 (by decide) ?_
          refine lv_isub hx hb dX12_layConvergents_81 ?_
          obtain ⟨hk15, hsp⟩ := fr_ck hsp
          obtain ⟨hi16, hsp⟩ := fr_ck hsp
          refine fr_lald C hR hk15 hi16 dX12_layConvergents_82 ?_
          exact hb_83 K12 hK12 h y1 y2 (h.2.1 j13 (Int32.toNatClampNeg (y2 - (2 : Int32)))) (Int32.toInt64 r9) t0 t1 t2 (some jt3) _ _ _ hsp hR (lv_sub hl [0, 1, 2] rfl)
        · rw [if_pos c12] at hsp
          refine lv_lconst (v := 1) hx hb dX12_layConvergents_71 (by decide) ?_
          refine lv_goto (tgt := 83) hx hb dX12_layConvergents_72 (by decide) ?_
          exact hb_83 K12 hK12 h y1 y2 (1 : Int64) (Int32.toInt64 r9) t0 t1 t2 (some jt3) _ _ _ hsp hR (lv_sub hl [0, 1, 2] rfl)
      · rw [if_pos c11] at hsp
        refine lv_lconst (v := 0) hx hb dX12_layConvergents_62 (by decide) ?_
        refine lv_goto (tgt := 83) hx hb dX12_layConvergents_63 (by decide) ?_
        exact hb_83 K12 hK12 h y1 y2 (0 : Int64) (Int32.toInt64 r9) t0 t1 t2 (some jt3) _ _ _ hsp hR (lv_sub hl [0, 1, 2] rfl)
  have hb_12 : ∀ (n : Nat) (h : fh_H) (y1 : Int32) (y2 : Int32) (H : Heap) (locs : List Loc) (ls : Array Slot), z_X12_layConvergents_b12 S a n h y1 y2 = some h' → fh_R S g s.heap h H locs → lv_has ls 3 [(0, .ref (g.2.2 a)), (1, .int y1), (2, .int y2)] → fh_Wk p l e 3 s m [.ref (g.2.2 a), .int x1] below meth c S g none h' H locs (F0 m 12 ls []) := by
    intro n
    induction n with
    | zero => intro h y1 y2 H locs ls hsp; cases hsp
    | succ n ih =>
      intro h y1 y2 H locs ls hsp hR hl
      rw [z_X12_layConvergents_b12] at hsp
      refine lv_iload_n hx hb dX12_layConvergents_12 rfl (lv_at hl 2 rfl) ?_
      refine lv_aload_n hx hb dX12_layConvergents_13 rfl (lv_at hl 0 rfl) ?_
      obtain ⟨j1, hv2, hsp⟩ := fr_b1 hsp
      refine fr_getr C hR ha Fg_RX12_19 rfl hv2 dX12_layConvergents_14 ?_
      refine lv_iload_n hx hb dX12_layConvergents_17 rfl (lv_at hl 1 rfl) ?_
      obtain ⟨hk3, hsp⟩ := fr_ck hsp
      obtain ⟨hi4, hsp⟩ := fr_ck hsp
      refine fr_iald C hR hk3 hi4 dX12_layConvergents_18 ?_
      refine lv_icmp_ge (tgt := 172) hx hb dX12_layConvergents_19 (by decide) (fun c5 => ?_) (fun c5 => ?_)
      · rw [if_pos c5] at hsp
        exact fr_vret C hr hlocks hR (fr_s1 hsp) dX12_layConvergents_172
      · rw [if_neg c5] at hsp
        refine lv_aload_n hx hb dX12_layConvergents_22 rfl (lv_at hl 0 rfl) ?_
        refine fr_geti C hR ha Fg_RX12_141 rfl dX12_layConvergents_23 ?_
        refine lv_if_ne (tgt := 172) hx hb dX12_layConvergents_26 (by decide) (fun c6 => ?_) (fun c6 => ?_)
        · rw [if_neg c6] at hsp
          exact fr_vret C hr hlocks hR (fr_s1 hsp) dX12_layConvergents_172
        · rw [if_pos c6] at hsp
          refine lv_aload_n hx hb dX12_layConvergents_29 rfl (lv_at hl 0 rfl) ?_
          rcases hv8 : (h.2.2 a 26) with _ | j7
          · rw [hv8] at hsp; have hsp := fr_nnN hsp
            refine fr_getn C hR ha Fg_RX12_47 rfl hv8 dX12_layConvergents_30 ?_
            refine lv_iload_n hx hb dX12_layConvergents_33 rfl (lv_at hl 2 rfl) ?_
            refine lv_aload_n hx hb dX12_layConvergents_34 rfl (lv_at hl 0 rfl) ?_
            refine lv_iload_n hx hb dX12_layConvergents_35 rfl (lv_at hl 2 rfl) ?_
            refine lv_if_ne (tgt := 43) hx hb dX12_layConvergents_36 (by decide) (fun c9 => ?_) (fun c9 => ?_)
            · rw [if_neg c9] at hsp
              refine lv_aload_n hx hb dX12_layConvergents_43 rfl (lv_at hl 0 rfl) ?_
              refine fr_getn C hR ha Fg_RX12_47 rfl hv8 dX12_layConvergents_44 ?_
              refine lv_iload_n hx hb dX12_layConvergents_47 rfl (lv_at hl 2 rfl) ?_
              refine lv_iconst (v := 1) hx hb dX12_layConvergents_48 (by decide) ?_
              refine lv_isub hx hb dX12_layConvergents_49 ?_
              cases hsp
            · rw [if_pos c9] at hsp
              refine lv_lconst (v := 1) hx hb dX12_layConvergents_39 (by decide) ?_
              refine lv_goto (tgt := 51) hx hb dX12_layConvergents_40 (by decide) ?_
              exact hb_51 (z_X12_layConvergents_b12 S a n) ih h y1 y2 (1 : Int64) a y2 none _ _ _ hsp hR (lv_sub hl [0, 1, 2] rfl)
          · rw [hv8] at hsp; have hsp := fr_nnS hsp
            refine fr_getr C hR ha Fg_RX12_47 rfl hv8 dX12_layConvergents_30 ?_
            refine lv_iload_n hx hb dX12_layConvergents_33 rfl (lv_at hl 2 rfl) ?_
            refine lv_aload_n hx hb dX12_layConvergents_34 rfl (lv_at hl 0 rfl) ?_
            refine lv_iload_n hx hb dX12_layConvergents_35 rfl (lv_at hl 2 rfl) ?_
            refine lv_if_ne (tgt := 43) hx hb dX12_layConvergents_36 (by decide) (fun c10 => ?_) (fun c10 => ?_)
            · rw [if_neg c10] at hsp
              refine lv_aload_n hx hb dX12_layConvergents_43 rfl (lv_at hl 0 rfl) ?_
              refine fr_getr C hR ha Fg_RX12_47 rfl hv8 dX12_layConvergents_44 ?_
              refine lv_iload_n hx hb dX12_layConvergents_47 rfl (lv_at hl 2 rfl) ?_
              refine lv_iconst (v := 1) hx hb dX12_layConvergents_48 (by decide) ?_
              refine lv_isub hx hb dX12_layConvergents_49 ?_
              obtain ⟨hk11, hsp⟩ := fr_ck hsp
              obtain ⟨hi12, hsp⟩ := fr_ck hsp
              refine fr_lald C hR hk11 hi12 dX12_layConvergents_50 ?_
              exact hb_51 (z_X12_layConvergents_b12 S a n) ih h y1 y2 (h.2.1 j7 (Int32.toNatClampNeg (y2 - (1 : Int32)))) a y2 (some j7) _ _ _ hsp hR (lv_sub hl [0, 1, 2] rfl)
            · rw [if_pos c10] at hsp
              refine lv_lconst (v := 1) hx hb dX12_layConvergents_39 (by decide) ?_
              refine lv_goto (tgt := 51) hx hb dX12_layConvergents_40 (by decide) ?_
              exact hb_51 (z_X12_layConvergents_b12 S a n) ih h y1 y2 (1 : Int64) a y2 (some j7) _ _ _ hsp hR (lv_sub hl [0, 1, 2] rfl)
  refine lv_aload_n hx hb dX12_layConvergents_0 rfl (lv_at hl 0 rfl) ?_
  refine lv_iconst (v := 0) hx hb dX12_layConvergents_1 (by decide) ?_
  refine fr_puti C hR ha Fp_RX12_323 rfl dX12_layConvergents_2 (fun H locs hR => ?_)
  obtain ⟨h1, eh1⟩ : ∃ z, z = fh_sI h a 28 (0 : Int32) := ⟨_, rfl⟩
  rw [← eh1] at hR
  have hsp := fr_let eh1 hsp
  refine lv_aload_n hx hb dX12_layConvergents_5 rfl (lv_at hl 0 rfl) ?_
  refine lv_iconst (v := 0) hx hb dX12_layConvergents_6 (by decide) ?_
  refine fr_putz C hR ha Fp_RX12_141 rfl (Or.inl rfl) dX12_layConvergents_7 (fun H locs hR => ?_)
  obtain ⟨h2, eh2⟩ : ∃ z, z = fh_sI h1 a 16 (0 : Int32) := ⟨_, rfl⟩
  rw [← eh2] at hR
  have hsp := fr_let eh2 hsp
  refine lv_iconst (v := 0) hx hb dX12_layConvergents_10 (by decide) ?_
  refine lv_istore_n (lv' := [(2, .int (0 : Int32)), (0, .ref (g.2.2 a)), (1, .int x1)]) hx hb dX12_layConvergents_11 rfl hl (by decide) rfl (fun ls hl => ?_)
  exact hb_12 20000 h2 x1 (0 : Int32) _ _ _ hsp hR (lv_sub hl [1, 2, 0] rfl)

/-! TermRowsModel.alikeTo(II)I -/
def z_X12_alikeTo_b2 (S : fh_S) (a : Nat) : Nat → fh_H → Int32 → Int32 → Int32 → Option Int32
  | 0, _, _, _, _ => none
  | n + 1, h, y1, y2, y3 =>
    fh_b1 (z_X12_isKnown S h a y1 y3) (fun r1 => if r1 = 0 then (some y3) else (fh_b1 (z_X12_isKnown S h a y2 y3) (fun r4 => if r4 = 0 then (some y3) else (fh_b1 (z_X12_termOf S h a y1 y3) (fun r7 => fh_b1 (z_X12_termOf S h a y2 y3) (fun r9 => if r7 = r9 then (fh_let (y3 + 1) (fun v12 => z_X12_alikeTo_b2 S a n h y1 y2 v12)) else (some y3)))))))
def z_X12_alikeTo (S : fh_S) (h : fh_H) (a : Nat) (x1 : Int32) (x2 : Int32) : Option Int32 :=
    z_X12_alikeTo_b2 S a 20000 h x1 x2 (0 : Int32)
set_option maxHeartbeats 4000000 in
set_option maxRecDepth 100000 in
theorem k_X12_alikeTo {l : Launch} {S : fh_S} {g : fh_G} {h : fh_H} (hj : fh_inj S g) {a : Nat} {x1 : Int32} {x2 : Int32} {r : Int32} (ha : fh_kq S a 12 = true) (hsp : z_X12_alikeTo S h a x1 x2 = some r) : fh_M l yX12_alikeTo cX12_alikeTo 4 (some .int) (fh_rm 3) S g [.ref (g.2.2 a), .int x1, .int x2] h (some (.int r)) h := by
  unfold z_X12_alikeTo at hsp
  refine fr_head (own := RX12) (by decide) rfl hj (Nat.le_of_ble_eq_true rfl) ?_
  intro p e s m below meth c ls C hr hlocks hR hl
  have hl : lv_has ls 4 [(0, .ref (g.2.2 a)), (1, .int x1), (2, .int x2)] := hl
  have hx := C.1.1
  have hb := C.1.2.1
  have hb_2 : ∀ (n : Nat) (y1 : Int32) (y2 : Int32) (y3 : Int32) (H : Heap) (locs : List Loc) (ls : Array Slot), z_X12_alikeTo_b2 S a n h y1 y2 y3 = some r → fh_R S g s.heap h H locs → lv_has ls 4 [(0, .ref (g.2.2 a)), (1, .int y1), (2, .int y2), (3, .int y3)] → fh_Wk p l e 3 s m [.ref (g.2.2 a), .int x1, .int x2] below meth c S g (some (.int r)) h H locs (F0 m 2 ls []) := by
    intro n
    induction n with
    | zero => intro y1 y2 y3 H locs ls hsp; cases hsp
    | succ n ih =>
      intro y1 y2 y3 H locs ls hsp hR hl
      rw [z_X12_alikeTo_b2] at hsp
      refine lv_aload_n hx hb dX12_alikeTo_2 rfl (lv_at hl 0 rfl) ?_
      refine lv_iload_n hx hb dX12_alikeTo_3 rfl (lv_at hl 1 rfl) ?_
      refine lv_iload_n hx hb dX12_alikeTo_4 rfl (lv_at hl 3 rfl) ?_
      obtain ⟨r1, E2, hsp⟩ := fr_b1 hsp
      refine fq_callV (rest := []) (st1 := [.int r1]) C hR (k_X12_isKnown C.2.2 ha E2) Y_X12_isKnown YV_X12_isKnown Lk_RX12_320 ha ⟨_, _, rfl, by decide⟩ rfl hl.1 ⟨Nat.le_of_ble_eq_true rfl, Nat.le_of_ble_eq_true rfl⟩ rfl (Nat.le_of_ble_eq_true rfl) ⟨Nat.zero_le _, Nat.zero_le _⟩ rfl dX12_alikeTo_5 (fun H locs hR => ?_)
      refine lv_if_eq (tgt := 41) hx hb dX12_alikeTo_8 (by decide) (fun c3 => ?_) (fun c3 => ?_)
      · rw [if_pos c3] at hsp
        refine lv_iload_n hx hb dX12_alikeTo_41 rfl (lv_at hl 3 rfl) ?_
        have e1 := fr_s1 hsp
        exact fr_iret C hr hlocks hR e1 rfl dX12_alikeTo_42
      · rw [if_neg c3] at hsp
        refine lv_aload_n hx hb dX12_alikeTo_11 rfl (lv_at hl 0 rfl) ?_
        refine lv_iload_n hx hb dX12_alikeTo_12 rfl (lv_at hl 2 rfl) ?_
        refine lv_iload_n hx hb dX12_alikeTo_13 rfl (lv_at hl 3 rfl) ?_
        obtain ⟨r4, E5, hsp⟩ := fr_b1 hsp
        refine fq_callV (rest := []) (st1 := [.int r4]) C hR (k_X12_isKnown C.2.2 ha E5) Y_X12_isKnown YV_X12_isKnown Lk_RX12_320 ha ⟨_, _, rfl, by decide⟩ rfl hl.1 ⟨Nat.le_of_ble_eq_true rfl, Nat.le_of_ble_eq_true rfl⟩ rfl (Nat.le_of_ble_eq_true rfl) ⟨Nat.zero_le _, Nat.zero_le _⟩ rfl dX12_alikeTo_14 (fun H locs hR => ?_)
        refine lv_if_eq (tgt := 41) hx hb dX12_alikeTo_17 (by decide) (fun c6 => ?_) (fun c6 => ?_)
        · rw [if_pos c6] at hsp
          refine lv_iload_n hx hb dX12_alikeTo_41 rfl (lv_at hl 3 rfl) ?_
          have e1 := fr_s1 hsp
          exact fr_iret C hr hlocks hR e1 rfl dX12_alikeTo_42
        · rw [if_neg c6] at hsp
          refine lv_aload_n hx hb dX12_alikeTo_20 rfl (lv_at hl 0 rfl) ?_
          refine lv_iload_n hx hb dX12_alikeTo_21 rfl (lv_at hl 1 rfl) ?_
          refine lv_iload_n hx hb dX12_alikeTo_22 rfl (lv_at hl 3 rfl) ?_
          obtain ⟨r7, E8, hsp⟩ := fr_b1 hsp
          refine fq_callV (rest := []) (st1 := [.int r7]) C hR (k_X12_termOf C.2.2 ha E8) Y_X12_termOf YV_X12_termOf Lk_RX12_219 ha ⟨_, _, rfl, by decide⟩ rfl hl.1 ⟨Nat.le_of_ble_eq_true rfl, Nat.le_of_ble_eq_true rfl⟩ rfl (Nat.le_of_ble_eq_true rfl) ⟨Nat.zero_le _, Nat.zero_le _⟩ rfl dX12_alikeTo_23 (fun H locs hR => ?_)
          refine lv_aload_n hx hb dX12_alikeTo_26 rfl (lv_at hl 0 rfl) ?_
          refine lv_iload_n hx hb dX12_alikeTo_27 rfl (lv_at hl 2 rfl) ?_
          refine lv_iload_n hx hb dX12_alikeTo_28 rfl (lv_at hl 3 rfl) ?_
          obtain ⟨r9, E10, hsp⟩ := fr_b1 hsp
          refine fq_callV (rest := [.int r7]) (st1 := [.int r9, .int r7]) C hR (k_X12_termOf C.2.2 ha E10) Y_X12_termOf YV_X12_termOf Lk_RX12_219 ha ⟨_, _, rfl, by decide⟩ rfl hl.1 ⟨Nat.le_of_ble_eq_true rfl, Nat.le_of_ble_eq_true rfl⟩ rfl (Nat.le_of_ble_eq_true rfl) ⟨Nat.zero_le _, Nat.zero_le _⟩ rfl dX12_alikeTo_29 (fun H locs hR => ?_)
          refine lv_icmp_ne (tgt := 41) hx hb dX12_alikeTo_32 (by decide) (fun c11 => ?_) (fun c11 => ?_)
          · rw [if_neg c11] at hsp
            refine lv_iload_n hx hb dX12_alikeTo_41 rfl (lv_at hl 3 rfl) ?_
            have e1 := fr_s1 hsp
            exact fr_iret C hr hlocks hR e1 rfl dX12_alikeTo_42
          · rw [if_pos c11] at hsp
            obtain ⟨v12, ev12⟩ : ∃ z : Int32, z = y3 + 1 := ⟨_, rfl⟩
            have hsp := fr_let ev12 hsp
            refine lv_iinc (v := v12) (lv' := [(3, .int v12), (0, .ref (g.2.2 a)), (1, .int y1), (2, .int y2)]) hx hb dX12_alikeTo_35 hl (k := 3) rfl (by rw [ev12]; rfl) (by decide) rfl (fun ls hl => ?_)
            refine lv_goto (tgt := 2) hx hb dX12_alikeTo_38 (by decide) ?_
            exact ih y1 y2 v12 _ _ _ hsp hR (lv_sub hl [1, 2, 3, 0] rfl)
  refine lv_iconst (v := 0) hx hb dX12_alikeTo_0 (by decide) ?_
  refine lv_istore_n (lv' := [(3, .int (0 : Int32)), (0, .ref (g.2.2 a)), (1, .int x1), (2, .int x2)]) hx hb dX12_alikeTo_1 rfl hl (by decide) rfl (fun ls hl => ?_)
  exact hb_2 20000 x1 x2 (0 : Int32) _ _ _ hsp hR (lv_sub hl [1, 2, 3, 0] rfl)

/-! TermRowsModel.layAgain(I)V -/
def z_X12_layAgain_b37 (S : fh_S) (a : Nat) (K12 : fh_H → Int32 → Int32 → Option fh_H) : Nat → fh_H → Int32 → Int32 → Int32 → Option fh_H
  | 0, _, _, _, _ => none
  | n + 1, h, y1, y2, y3 =>
    if (60 : Int32) < (y2 + ((2 : Int32) * y3)) then (fh_let (y2 + 1) (fun v2 => K12 h y1 v2)) else (if (h.1 a 29) = (-1 : Int32) then (fh_b1 (z_X12_comesAgain S h a y1 y2 y3) (fun r5 => if r5 = 0 then (fh_let (y3 + 1) (fun v11 => z_X12_layAgain_b37 S a K12 n h y1 y2 v11)) else (fh_let (fh_sI h a 29 y2) (fun h8 => fh_let (fh_sI h8 a 30 y3) (fun h9 => fh_let (y3 + 1) (fun v10 => z_X12_layAgain_b37 S a K12 n h9 y1 y2 v10)))))) else (fh_let (y2 + 1) (fun v4 => K12 h y1 v4)))
def z_X12_layAgain_b12 (S : fh_S) (a : Nat) : Nat → fh_H → Int32 → Int32 → Option fh_H
  | 0, _, _, _ => none
  | n + 1, h, y1, y2 =>
    fh_b1 (h.2.2 a 6) (fun j1 => fh_ck (fh_kq S j1 13) (fh_ck (fh_in y1 (S.2.2 j1)) (if (h.1 j1 (Int32.toNatClampNeg y1)) = 0 then (if (60 : Int32) ≤ y2 then (some h) else (if (h.1 a 29) = (-1 : Int32) then (z_X12_layAgain_b37 S a (z_X12_layAgain_b12 S a n) 20000 h y1 y2 (1 : Int32)) else (some h))) else (some h))))
def z_X12_layAgain (S : fh_S) (h : fh_H) (a : Nat) (x1 : Int32) : Option fh_H :=
    fh_let (fh_sI h a 29 (-1 : Int32)) (fun h1 => fh_let (fh_sI h1 a 30 (-1 : Int32)) (fun h2 => z_X12_layAgain_b12 S a 20000 h2 x1 (0 : Int32)))
set_option maxHeartbeats 4000000 in
set_option maxRecDepth 100000 in
theorem k_X12_layAgain {l : Launch} {S : fh_S} {g : fh_G} {h h' : fh_H} (hj : fh_inj S g) {a : Nat} {x1 : Int32} (ha : fh_kq S a 12 = true) (hsp : z_X12_layAgain S h a x1 = some h') : fh_M l yX12_layAgain cX12_layAgain 4 none (fh_rm 3) S g [.ref (g.2.2 a), .int x1] h none h' := by
  unfold z_X12_layAgain at hsp
  refine fr_head (own := RX12) (by decide) rfl hj (Nat.le_of_ble_eq_true rfl) ?_
  intro p e s m below meth c ls C hr hlocks hR hl
  have hl : lv_has ls 4 [(0, .ref (g.2.2 a)), (1, .int x1)] := hl
  have hx := C.1.1
  have hb := C.1.2.1
  have hb_37 : ∀ (K12 : fh_H → Int32 → Int32 → Option fh_H) (hK12 : ∀ (h : fh_H) (y1 : Int32) (y2 : Int32) (H : Heap) (locs : List Loc) (ls : Array Slot), K12 h y1 y2 = some h' → fh_R S g s.heap h H locs → lv_has ls 4 [(0, .ref (g.2.2 a)), (1, .int y1), (2, .int y2)] → fh_Wk p l e 3 s m [.ref (g.2.2 a), .int x1] below meth c S g none h' H locs (F0 m 12 ls [])) (n : Nat) (h : fh_H) (y1 : Int32) (y2 : Int32) (y3 : Int32) (H : Heap) (locs : List Loc) (ls : Array Slot), z_X12_layAgain_b37 S a K12 n h y1 y2 y3 = some h' → fh_R S g s.heap h H locs → lv_has ls 4 [(0, .ref (g.2.2 a)), (1, .int y1), (2, .int y2), (3, .int y3)] → fh_Wk p l e 3 s m [.ref (g.2.2 a), .int x1] below meth c S g none h' H locs (F0 m 37 ls []) := by
    intro K12 hK12 n
    induction n with
    | zero => intro h y1 y2 y3 H locs ls hsp; cases hsp
    | succ n ih =>
      intro h y1 y2 y3 H locs ls hsp hR hl
      rw [z_X12_layAgain_b37] at hsp
      refine lv_iload_n hx hb dX12_layAgain_37 rfl (lv_at hl 2 rfl) ?_
      refine lv_iconst (v := 2) hx hb dX12_layAgain_38 (by decide) ?_
      refine lv_iload_n hx hb dX12_layAgain_39 rfl (lv_at hl 3 rfl) ?_
      refine lv_imul hx hb dX12_layAgain_40 ?_
      refine lv_iadd hx hb dX12_layAgain_41 ?_
      refine lv_bipush (v := 60) hx hb dX12_layAgain_42 (by decide) ?_
      refine lv_icmp_gt (tgt := 84) hx hb dX12_layAgain_44 (by decide) (fun c1 => ?_) (fun c1 => ?_)
      · rw [if_pos c1] at hsp
        obtain ⟨v2, ev2⟩ : ∃ z : Int32, z = y2 + 1 := ⟨_, rfl⟩
        have hsp := fr_let ev2 hsp
        refine lv_iinc (v := v2) (lv' := [(2, .int v2), (0, .ref (g.2.2 a)), (1, .int y1), (3, .int y3)]) hx hb dX12_layAgain_84 hl (k := 2) rfl (by rw [ev2]; rfl) (by decide) rfl (fun ls hl => ?_)
        refine lv_goto (tgt := 12) hx hb dX12_layAgain_87 (by decide) ?_
        exact hK12 h y1 v2 _ _ _ hsp hR (lv_sub hl [1, 2, 0] rfl)
      · rw [if_neg c1] at hsp
        refine lv_aload_n hx hb dX12_layAgain_47 rfl (lv_at hl 0 rfl) ?_
        refine fr_geti C hR ha Fg_RX12_338 rfl dX12_layAgain_48 ?_
        refine lv_iconst (v := -1) hx hb dX12_layAgain_51 (by decide) ?_
        refine lv_icmp_ne (tgt := 84) hx hb dX12_layAgain_52 (by decide) (fun c3 => ?_) (fun c3 => ?_)
        · rw [if_neg c3] at hsp
          obtain ⟨v4, ev4⟩ : ∃ z : Int32, z = y2 + 1 := ⟨_, rfl⟩
          have hsp := fr_let ev4 hsp
          refine lv_iinc (v := v4) (lv' := [(2, .int v4), (0, .ref (g.2.2 a)), (1, .int y1), (3, .int y3)]) hx hb dX12_layAgain_84 hl (k := 2) rfl (by rw [ev4]; rfl) (by decide) rfl (fun ls hl => ?_)
          refine lv_goto (tgt := 12) hx hb dX12_layAgain_87 (by decide) ?_
          exact hK12 h y1 v4 _ _ _ hsp hR (lv_sub hl [1, 2, 0] rfl)
        · rw [if_pos c3] at hsp
          refine lv_aload_n hx hb dX12_layAgain_55 rfl (lv_at hl 0 rfl) ?_
          refine lv_iload_n hx hb dX12_layAgain_56 rfl (lv_at hl 1 rfl) ?_
          refine lv_iload_n hx hb dX12_layAgain_57 rfl (lv_at hl 2 rfl) ?_
          refine lv_iload_n hx hb dX12_layAgain_58 rfl (lv_at hl 3 rfl) ?_
          obtain ⟨r5, E6, hsp⟩ := fr_b1 hsp
          refine fq_callV (rest := []) (st1 := [.int r5]) C hR (k_X12_comesAgain C.2.2 ha E6) Y_X12_comesAgain YV_X12_comesAgain Lk_RX12_344 ha ⟨_, _, rfl, by decide⟩ rfl hl.1 ⟨Nat.le_of_ble_eq_true rfl, Nat.le_of_ble_eq_true rfl⟩ rfl (Nat.le_of_ble_eq_true rfl) ⟨Nat.zero_le _, Nat.zero_le _⟩ rfl dX12_layAgain_59 (fun H locs hR => ?_)
          refine lv_if_ne (tgt := 68) hx hb dX12_layAgain_62 (by decide) (fun c7 => ?_) (fun c7 => ?_)
          · rw [if_neg c7] at hsp
            refine lv_aload_n hx hb dX12_layAgain_68 rfl (lv_at hl 0 rfl) ?_
            refine lv_iload_n hx hb dX12_layAgain_69 rfl (lv_at hl 2 rfl) ?_
            refine fr_puti C hR ha Fp_RX12_338 rfl dX12_layAgain_70 (fun H locs hR => ?_)
            obtain ⟨h8, eh8⟩ : ∃ z, z = fh_sI h a 29 y2 := ⟨_, rfl⟩
            rw [← eh8] at hR
            have hsp := fr_let eh8 hsp
            refine lv_aload_n hx hb dX12_layAgain_73 rfl (lv_at hl 0 rfl) ?_
            refine lv_iload_n hx hb dX12_layAgain_74 rfl (lv_at hl 3 rfl) ?_
            refine fr_puti C hR ha Fp_RX12_341 rfl dX12_layAgain_75 (fun H locs hR => ?_)
            obtain ⟨h9, eh9⟩ : ∃ z, z = fh_sI h8 a 30 y3 := ⟨_, rfl⟩
            rw [← eh9] at hR
            have hsp := fr_let eh9 hsp
            obtain ⟨v10, ev10⟩ : ∃ z : Int32, z = y3 + 1 := ⟨_, rfl⟩
            have hsp := fr_let ev10 hsp
            refine lv_iinc (v := v10) (lv' := [(3, .int v10), (0, .ref (g.2.2 a)), (1, .int y1), (2, .int y2)]) hx hb dX12_layAgain_78 hl (k := 3) rfl (by rw [ev10]; rfl) (by decide) rfl (fun ls hl => ?_)
            refine lv_goto (tgt := 37) hx hb dX12_layAgain_81 (by decide) ?_
            exact ih h9 y1 y2 v10 _ _ _ hsp hR (lv_sub hl [1, 2, 3, 0] rfl)
          · rw [if_pos c7] at hsp
            refine lv_goto (tgt := 78) hx hb dX12_layAgain_65 (by decide) ?_
            obtain ⟨v11, ev11⟩ : ∃ z : Int32, z = y3 + 1 := ⟨_, rfl⟩
            have hsp := fr_let ev11 hsp
            refine lv_iinc (v := v11) (lv' := [(3, .int v11), (0, .ref (g.2.2 a)), (1, .int y1), (2, .int y2)]) hx hb dX12_layAgain_78 hl (k := 3) rfl (by rw [ev11]; rfl) (by decide) rfl (fun ls hl => ?_)
            refine lv_goto (tgt := 37) hx hb dX12_layAgain_81 (by decide) ?_
            exact ih h y1 y2 v11 _ _ _ hsp hR (lv_sub hl [1, 2, 3, 0] rfl)
  have hb_12 : ∀ (n : Nat) (h : fh_H) (y1 : Int32) (y2 : Int32) (H : Heap) (locs : List Loc) (ls : Array Slot), z_X12_layAgain_b12 S a n h y1 y2 = some h' → fh_R S g s.heap h H locs → lv_has ls 4 [(0, .ref (g.2.2 a)), (1, .int y1), (2, .int y2)] → fh_Wk p l e 3 s m [.ref (g.2.2 a), .int x1] below meth c S g none h' H locs (F0 m 12 ls []) := by
    intro n
    induction n with
    | zero => intro h y1 y2 H locs ls hsp; cases hsp
    | succ n ih =>
      intro h y1 y2 H locs ls hsp hR hl
      rw [z_X12_layAgain_b12] at hsp
      refine lv_aload_n hx hb dX12_layAgain_12 rfl (lv_at hl 0 rfl) ?_
      obtain ⟨j1, hv2, hsp⟩ := fr_b1 hsp
      refine fr_getr C hR ha Fg_RX12_22 rfl hv2 dX12_layAgain_13 ?_
      refine lv_iload_n hx hb dX12_layAgain_16 rfl (lv_at hl 1 rfl) ?_
      obtain ⟨hk3, hsp⟩ := fr_ck hsp
      obtain ⟨hi4, hsp⟩ := fr_ck hsp
      refine fr_iald C hR hk3 hi4 dX12_layAgain_17 ?_
      refine lv_if_ne (tgt := 90) hx hb dX12_layAgain_18 (by decide) (fun c5 => ?_) (fun c5 => ?_)
      · rw [if_neg c5] at hsp
        exact fr_vret C hr hlocks hR (fr_s1 hsp) dX12_layAgain_90
      · rw [if_pos c5] at hsp
        refine lv_iload_n hx hb dX12_layAgain_21 rfl (lv_at hl 2 rfl) ?_
        refine lv_bipush (v := 60) hx hb dX12_layAgain_22 (by decide) ?_
        refine lv_icmp_ge (tgt := 90) hx hb dX12_layAgain_24 (by decide) (fun c6 => ?_) (fun c6 => ?_)
        · rw [if_pos c6] at hsp
          exact fr_vret C hr hlocks hR (fr_s1 hsp) dX12_layAgain_90
        · rw [if_neg c6] at hsp
          refine lv_aload_n hx hb dX12_layAgain_27 rfl (lv_at hl 0 rfl) ?_
          refine fr_geti C hR ha Fg_RX12_338 rfl dX12_layAgain_28 ?_
          refine lv_iconst (v := -1) hx hb dX12_layAgain_31 (by decide) ?_
          refine lv_icmp_ne (tgt := 90) hx hb dX12_layAgain_32 (by decide) (fun c7 => ?_) (fun c7 => ?_)
          · rw [if_neg c7] at hsp
            exact fr_vret C hr hlocks hR (fr_s1 hsp) dX12_layAgain_90
          · rw [if_pos c7] at hsp
            refine lv_iconst (v := 1) hx hb dX12_layAgain_35 (by decide) ?_
            refine lv_istore_n (lv' := [(3, .int (1 : Int32)), (0, .ref (g.2.2 a)), (1, .int y1), (2, .int y2)]) hx hb dX12_layAgain_36 rfl hl (by decide) rfl (fun ls hl => ?_)
            exact hb_37 (z_X12_layAgain_b12 S a n) ih 20000 h y1 y2 (1 : Int32) _ _ _ hsp hR (lv_sub hl [1, 2, 3, 0] rfl)
  refine lv_aload_n hx hb dX12_layAgain_0 rfl (lv_at hl 0 rfl) ?_
  refine lv_iconst (v := -1) hx hb dX12_layAgain_1 (by decide) ?_
  refine fr_puti C hR ha Fp_RX12_338 rfl dX12_layAgain_2 (fun H locs hR => ?_)
  obtain ⟨h1, eh1⟩ : ∃ z, z = fh_sI h a 29 (-1 : Int32) := ⟨_, rfl⟩
  rw [← eh1] at hR
  have hsp := fr_let eh1 hsp
  refine lv_aload_n hx hb dX12_layAgain_5 rfl (lv_at hl 0 rfl) ?_
  refine lv_iconst (v := -1) hx hb dX12_layAgain_6 (by decide) ?_
  refine fr_puti C hR ha Fp_RX12_341 rfl dX12_layAgain_7 (fun H locs hR => ?_)
  obtain ⟨h2, eh2⟩ : ∃ z, z = fh_sI h1 a 30 (-1 : Int32) := ⟨_, rfl⟩
  rw [← eh2] at hR
  have hsp := fr_let eh2 hsp
  refine lv_iconst (v := 0) hx hb dX12_layAgain_10 (by decide) ?_
  refine lv_istore_n (lv' := [(2, .int (0 : Int32)), (0, .ref (g.2.2 a)), (1, .int x1)]) hx hb dX12_layAgain_11 rfl hl (by decide) rfl (fun ls hl => ?_)
  exact hb_12 20000 h2 x1 (0 : Int32) _ _ _ hsp hR (lv_sub hl [1, 2, 0] rfl)

/-! TermRowsModel.tails(III)I -/
def z_X12_tails_b82 (S : fh_S) (a : Nat) (K62 : fh_H → Int32 → Int32 → Int32 → Int32 → Int32 → Option (Int32 × fh_H)) : Nat → fh_H → Int32 → Int32 → Int32 → Int32 → Int32 → Int32 → Option (Int32 × fh_H)
  | 0, _, _, _, _, _, _, _ => none
  | n + 1, h, y1, y2, y3, y4, y5, y6 =>
    if y5 < y6 then (fh_let (y5 + 1) (fun v2 => K62 h y1 y2 y3 y4 v2)) else (if y4 < y6 then (fh_let (y5 + 1) (fun v4 => K62 h y1 y2 y3 y4 v4)) else (fh_b1 (z_X12_areTails S h a y1 y6 y2 (y5 - y6)) (fun r5 => if r5 = 0 then (fh_let (y6 + 1) (fun v8 => z_X12_tails_b82 S a K62 n h y1 y2 y3 y4 y5 v8)) else (if y3 = 0 then (some (y6, h)) else (some ((y5 - y6), h))))))
def z_X12_tails_b62 (S : fh_S) (a : Nat) : Nat → fh_H → Int32 → Int32 → Int32 → Int32 → Int32 → Option (Int32 × fh_H)
  | 0, _, _, _, _, _, _ => none
  | n + 1, h, y1, y2, y3, y4, y5 =>
    if ((2 : Int32) * y4) < y5 then (some ((-1 : Int32), h)) else (fh_b1 (z_J9_max_7cf53 (0 : Int32) (y5 - y4)) (fun r2 => z_X12_tails_b82 S a (z_X12_tails_b62 S a n) 20000 h y1 y2 y3 y4 y5 r2))
def z_X12_tails (S : fh_S) (h : fh_H) (a : Nat) (x1 : Int32) (x2 : Int32) (x3 : Int32) : Option (Int32 × fh_H) :=
    fh_let (fh_sI h a 3 (0 : Int32)) (fun h1 => fh_b1 (z_X12_isRow x1) (fun r2 => if r2 = 0 then (fh_b2 (z_X12_fail S h1 a (1 : Int32)) (fun r5 h6 => some (r5, h6))) else (fh_b1 (z_X12_isRow x2) (fun r8 => if r8 = 0 then (fh_b2 (z_X12_fail S h1 a (1 : Int32)) (fun r11 h12 => some (r11, h12))) else (fh_b1 (z_X12_isIn (Int32.toInt64 x3) (0 : Int64) (1 : Int64)) (fun r14 => if r14 = 0 then (fh_b2 (z_X12_fail S h1 a (1 : Int32)) (fun r24 h25 => some (r24, h25))) else (fh_b1 (h1.2.2 a 6) (fun j17 => fh_ck (fh_kq S j17 13) (fh_ck (fh_in x1 (S.2.2 j17)) (if (h1.1 j17 (Int32.toNatClampNeg x1)) = 0 then (fh_ck (fh_in x2 (S.2.2 j17)) (if (h1.1 j17 (Int32.toNatClampNeg x2)) = 0 then (z_X12_tails_b62 S a 20000 h1 x1 x2 x3 (40 : Int32) (0 : Int32)) else (some ((-1 : Int32), h1)))) else (some ((-1 : Int32), h1))))))))))))
set_option maxHeartbeats 4000000 in
set_option maxRecDepth 100000 in
theorem k_X12_tails {l : Launch} {S : fh_S} {g : fh_G} {h h' : fh_H} (hj : fh_inj S g) {a : Nat} {x1 : Int32} {x2 : Int32} {x3 : Int32} {r : Int32} (ha : fh_kq S a 12 = true) (hsp : z_X12_tails S h a x1 x2 x3 = some (r, h')) : fh_M l yX12_tails cX12_tails 7 (some .int) (fh_rm 3) S g [.ref (g.2.2 a), .int x1, .int x2, .int x3] h (some (.int r)) h' := by
  unfold z_X12_tails at hsp
  refine fr_head (own := RX12) (by decide) rfl hj (Nat.le_of_ble_eq_true rfl) ?_
  intro p e s m below meth c ls C hr hlocks hR hl
  have hl : lv_has ls 7 [(0, .ref (g.2.2 a)), (1, .int x1), (2, .int x2), (3, .int x3)] := hl
  have hx := C.1.1
  have hb := C.1.2.1
  have hb_82 : ∀ (K62 : fh_H → Int32 → Int32 → Int32 → Int32 → Int32 → Option (Int32 × fh_H)) (hK62 : ∀ (h : fh_H) (y1 : Int32) (y2 : Int32) (y3 : Int32) (y4 : Int32) (y5 : Int32) (H : Heap) (locs : List Loc) (ls : Array Slot), K62 h y1 y2 y3 y4 y5 = some (r, h') → fh_R S g s.heap h H locs → lv_has ls 7 [(0, .ref (g.2.2 a)), (1, .int y1), (2, .int y2), (3, .int y3), (4, .int y4), (5, .int y5)] → fh_Wk p l e 3 s m [.ref (g.2.2 a), .int x1, .int x2, .int x3] below meth c S g (some (.int r)) h' H locs (F0 m 62 ls [])) (n : Nat) (h : fh_H) (y1 : Int32) (y2 : Int32) (y3 : Int32) (y4 : Int32) (y5 : Int32) (y6 : Int32) (H : Heap) (locs : List Loc) (ls : Array Slot), z_X12_tails_b82 S a K62 n h y1 y2 y3 y4 y5 y6 = some (r, h') → fh_R S g s.heap h H locs → lv_has ls 7 [(0, .ref (g.2.2 a)), (1, .int y1), (2, .int y2), (3, .int y3), (4, .int y4), (5, .int y5), (6, .int y6)] → fh_Wk p l e 3 s m [.ref (g.2.2 a), .int x1, .int x2, .int x3] below meth c S g (some (.int r)) h' H locs (F0 m 82 ls []) := by
    intro K62 hK62 n
    induction n with
    | zero => intro h y1 y2 y3 y4 y5 y6 H locs ls hsp; cases hsp
    | succ n ih =>
      intro h y1 y2 y3 y4 y5 y6 H locs ls hsp hR hl
      rw [z_X12_tails_b82] at hsp
      refine lv_iload hx hb dX12_tails_82 (lv_at hl 6 rfl) ?_
      refine lv_iload hx hb dX12_tails_84 (lv_at hl 5 rfl) ?_
      refine lv_icmp_gt (tgt := 133) hx hb dX12_tails_86 (by decide) (fun c1 => ?_) (fun c1 => ?_)
      · rw [if_pos c1] at hsp
        obtain ⟨v2, ev2⟩ : ∃ z : Int32, z = y5 + 1 := ⟨_, rfl⟩
        have hsp := fr_let ev2 hsp
        refine lv_iinc (v := v2) (lv' := [(5, .int v2), (0, .ref (g.2.2 a)), (1, .int y1), (2, .int y2), (3, .int y3), (4, .int y4), (6, .int y6)]) hx hb dX12_tails_133 hl (k := 5) rfl (by rw [ev2]; rfl) (by decide) rfl (fun ls hl => ?_)
        refine lv_goto (tgt := 62) hx hb dX12_tails_136 (by decide) ?_
        exact hK62 h y1 y2 y3 y4 v2 _ _ _ hsp hR (lv_sub hl [1, 2, 3, 4, 5, 0] rfl)
      · rw [if_neg c1] at hsp
        refine lv_iload hx hb dX12_tails_89 (lv_at hl 6 rfl) ?_
        refine lv_iload hx hb dX12_tails_91 (lv_at hl 4 rfl) ?_
        refine lv_icmp_gt (tgt := 133) hx hb dX12_tails_93 (by decide) (fun c3 => ?_) (fun c3 => ?_)
        · rw [if_pos c3] at hsp
          obtain ⟨v4, ev4⟩ : ∃ z : Int32, z = y5 + 1 := ⟨_, rfl⟩
          have hsp := fr_let ev4 hsp
          refine lv_iinc (v := v4) (lv' := [(5, .int v4), (0, .ref (g.2.2 a)), (1, .int y1), (2, .int y2), (3, .int y3), (4, .int y4), (6, .int y6)]) hx hb dX12_tails_133 hl (k := 5) rfl (by rw [ev4]; rfl) (by decide) rfl (fun ls hl => ?_)
          refine lv_goto (tgt := 62) hx hb dX12_tails_136 (by decide) ?_
          exact hK62 h y1 y2 y3 y4 v4 _ _ _ hsp hR (lv_sub hl [1, 2, 3, 4, 5, 0] rfl)
        · rw [if_neg c3] at hsp
          refine lv_aload_n hx hb dX12_tails_96 rfl (lv_at hl 0 rfl) ?_
          refine lv_iload_n hx hb dX12_tails_97 rfl (lv_at hl 1 rfl) ?_
          refine lv_iload hx hb dX12_tails_98 (lv_at hl 6 rfl) ?_
          refine lv_iload_n hx hb dX12_tails_100 rfl (lv_at hl 2 rfl) ?_
          refine lv_iload hx hb dX12_tails_101 (lv_at hl 5 rfl) ?_
          refine lv_iload hx hb dX12_tails_103 (lv_at hl 6 rfl) ?_
          refine lv_isub hx hb dX12_tails_105 ?_
          obtain ⟨r5, E6, hsp⟩ := fr_b1 hsp
          refine fq_callV (rest := []) (st1 := [.int r5]) C hR (k_X12_areTails C.2.2 ha E6) Y_X12_areTails YV_X12_areTails Lk_RX12_351 ha ⟨_, _, rfl, by decide⟩ rfl hl.1 ⟨Nat.le_of_ble_eq_true rfl, Nat.le_of_ble_eq_true rfl⟩ rfl (Nat.le_of_ble_eq_true rfl) ⟨Nat.zero_le _, Nat.zero_le _⟩ rfl dX12_tails_106 (fun H locs hR => ?_)
          refine lv_if_eq (tgt := 127) hx hb dX12_tails_109 (by decide) (fun c7 => ?_) (fun c7 => ?_)
          · rw [if_pos c7] at hsp
            obtain ⟨v8, ev8⟩ : ∃ z : Int32, z = y6 + 1 := ⟨_, rfl⟩
            have hsp := fr_let ev8 hsp
            refine lv_iinc (v := v8) (lv' := [(6, .int v8), (0, .ref (g.2.2 a)), (1, .int y1), (2, .int y2), (3, .int y3), (4, .int y4), (5, .int y5)]) hx hb dX12_tails_127 hl (k := 6) rfl (by rw [ev8]; rfl) (by decide) rfl (fun ls hl => ?_)
            refine lv_goto (tgt := 82) hx hb dX12_tails_130 (by decide) ?_
            exact ih h y1 y2 y3 y4 y5 v8 _ _ _ hsp hR (lv_sub hl [1, 2, 3, 4, 5, 6, 0] rfl)
          · rw [if_neg c7] at hsp
            refine lv_iload_n hx hb dX12_tails_112 rfl (lv_at hl 3 rfl) ?_
            refine lv_if_ne (tgt := 121) hx hb dX12_tails_113 (by decide) (fun c9 => ?_) (fun c9 => ?_)
            · rw [if_neg c9] at hsp
              refine lv_iload hx hb dX12_tails_121 (lv_at hl 5 rfl) ?_
              refine lv_iload hx hb dX12_tails_123 (lv_at hl 6 rfl) ?_
              refine lv_isub hx hb dX12_tails_125 ?_
              obtain ⟨e1, e2⟩ := fr_s2 hsp
              exact fr_iret C hr hlocks hR e1 e2 dX12_tails_126
            · rw [if_pos c9] at hsp
              refine lv_iload hx hb dX12_tails_116 (lv_at hl 6 rfl) ?_
              refine lv_goto (tgt := 126) hx hb dX12_tails_118 (by decide) ?_
              obtain ⟨e1, e2⟩ := fr_s2 hsp
              exact fr_iret C hr hlocks hR e1 e2 dX12_tails_126
  have hb_62 : ∀ (n : Nat) (h : fh_H) (y1 : Int32) (y2 : Int32) (y3 : Int32) (y4 : Int32) (y5 : Int32) (H : Heap) (locs : List Loc) (ls : Array Slot), z_X12_tails_b62 S a n h y1 y2 y3 y4 y5 = some (r, h') → fh_R S g s.heap h H locs → lv_has ls 7 [(0, .ref (g.2.2 a)), (1, .int y1), (2, .int y2), (3, .int y3), (4, .int y4), (5, .int y5)] → fh_Wk p l e 3 s m [.ref (g.2.2 a), .int x1, .int x2, .int x3] below meth c S g (some (.int r)) h' H locs (F0 m 62 ls []) := by
    intro n
    induction n with
    | zero => intro h y1 y2 y3 y4 y5 H locs ls hsp; cases hsp
    | succ n ih =>
      intro h y1 y2 y3 y4 y5 H locs ls hsp hR hl
      rw [z_X12_tails_b62] at hsp
      refine lv_iload hx hb dX12_tails_62 (lv_at hl 5 rfl) ?_
      refine lv_iconst (v := 2) hx hb dX12_tails_64 (by decide) ?_
      refine lv_iload hx hb dX12_tails_65 (lv_at hl 4 rfl) ?_
      refine lv_imul hx hb dX12_tails_67 ?_
      refine lv_icmp_gt (tgt := 139) hx hb dX12_tails_68 (by decide) (fun c1 => ?_) (fun c1 => ?_)
      · rw [if_pos c1] at hsp
        refine lv_iconst (v := -1) hx hb dX12_tails_139 (by decide) ?_
        obtain ⟨e1, e2⟩ := fr_s2 hsp
        exact fr_iret C hr hlocks hR e1 e2 dX12_tails_140
      · rw [if_neg c1] at hsp
        refine lv_iconst (v := 0) hx hb dX12_tails_71 (by decide) ?_
        refine lv_iload hx hb dX12_tails_72 (lv_at hl 5 rfl) ?_
        refine lv_iload hx hb dX12_tails_74 (lv_at hl 4 rfl) ?_
        refine lv_isub hx hb dX12_tails_76 ?_
        obtain ⟨r2, E3, hsp⟩ := fr_b1 hsp
        refine fq_callS (rest := []) (st1 := [.int r2]) C hR (k_J9_max_7cf53 C.2.2 E3) Y_J9_max_7cf53 YS_J9_max_7cf53 Lk_RX12_302 rfl hl.1 ⟨Nat.le_of_ble_eq_true rfl, Nat.le_of_ble_eq_true rfl⟩ rfl (Nat.le_of_ble_eq_true rfl) ⟨Nat.zero_le _, Nat.zero_le _⟩ rfl dX12_tails_77 (fun H locs hR => ?_)
        refine lv_istore (lv' := [(6, .int r2), (0, .ref (g.2.2 a)), (1, .int y1), (2, .int y2), (3, .int y3), (4, .int y4), (5, .int y5)]) hx hb dX12_tails_80 hl (by decide) rfl (fun ls hl => ?_)
        exact hb_82 (z_X12_tails_b62 S a n) ih 20000 h y1 y2 y3 y4 y5 r2 _ _ _ hsp hR (lv_sub hl [1, 2, 3, 4, 5, 6, 0] rfl)
  refine lv_aload_n hx hb dX12_tails_0 rfl (lv_at hl 0 rfl) ?_
  refine lv_iconst (v := 0) hx hb dX12_tails_1 (by decide) ?_
  refine fr_puti C hR ha Fp_RX12_73 rfl dX12_tails_2 (fun H locs hR => ?_)
  obtain ⟨h1, eh1⟩ : ∃ z, z = fh_sI h a 3 (0 : Int32) := ⟨_, rfl⟩
  rw [← eh1] at hR
  have hsp := fr_let eh1 hsp
  refine lv_iload_n hx hb dX12_tails_5 rfl (lv_at hl 1 rfl) ?_
  obtain ⟨r2, E3, hsp⟩ := fr_b1 hsp
  refine fq_callS (rest := []) (st1 := [.int r2]) C hR (k_X12_isRow C.2.2 E3) Y_X12_isRow YS_X12_isRow Lk_RX12_264 rfl hl.1 ⟨Nat.le_of_ble_eq_true rfl, Nat.le_of_ble_eq_true rfl⟩ rfl (Nat.le_of_ble_eq_true rfl) ⟨Nat.zero_le _, Nat.zero_le _⟩ rfl dX12_tails_6 (fun H locs hR => ?_)
  refine lv_if_eq (tgt := 29) hx hb dX12_tails_9 (by decide) (fun c4 => ?_) (fun c4 => ?_)
  · rw [if_pos c4] at hsp
    refine lv_aload_n hx hb dX12_tails_29 rfl (lv_at hl 0 rfl) ?_
    refine lv_iconst (v := 1) hx hb dX12_tails_30 (by decide) ?_
    obtain ⟨r5, h6, E7, hsp⟩ := fr_b2 hsp
    refine fq_callV (rest := []) (st1 := [.int r5]) C hR (k_X12_fail C.2.2 ha E7) Y_X12_fail YV_X12_fail Lk_RX12_299 ha ⟨_, _, rfl, by decide⟩ rfl hl.1 ⟨Nat.le_of_ble_eq_true rfl, Nat.le_of_ble_eq_true rfl⟩ rfl (Nat.le_of_ble_eq_true rfl) ⟨Nat.zero_le _, Nat.zero_le _⟩ rfl dX12_tails_31 (fun H locs hR => ?_)
    obtain ⟨e1, e2⟩ := fr_s2 hsp
    exact fr_iret C hr hlocks hR e1 e2 dX12_tails_34
  · rw [if_neg c4] at hsp
    refine lv_iload_n hx hb dX12_tails_12 rfl (lv_at hl 2 rfl) ?_
    obtain ⟨r8, E9, hsp⟩ := fr_b1 hsp
    refine fq_callS (rest := []) (st1 := [.int r8]) C hR (k_X12_isRow C.2.2 E9) Y_X12_isRow YS_X12_isRow Lk_RX12_264 rfl hl.1 ⟨Nat.le_of_ble_eq_true rfl, Nat.le_of_ble_eq_true rfl⟩ rfl (Nat.le_of_ble_eq_true rfl) ⟨Nat.zero_le _, Nat.zero_le _⟩ rfl dX12_tails_13 (fun H locs hR => ?_)
    refine lv_if_eq (tgt := 29) hx hb dX12_tails_16 (by decide) (fun c10 => ?_) (fun c10 => ?_)
    · rw [if_pos c10] at hsp
      refine lv_aload_n hx hb dX12_tails_29 rfl (lv_at hl 0 rfl) ?_
      refine lv_iconst (v := 1) hx hb dX12_tails_30 (by decide) ?_
      obtain ⟨r11, h12, E13, hsp⟩ := fr_b2 hsp
      refine fq_callV (rest := []) (st1 := [.int r11]) C hR (k_X12_fail C.2.2 ha E13) Y_X12_fail YV_X12_fail Lk_RX12_299 ha ⟨_, _, rfl, by decide⟩ rfl hl.1 ⟨Nat.le_of_ble_eq_true rfl, Nat.le_of_ble_eq_true rfl⟩ rfl (Nat.le_of_ble_eq_true rfl) ⟨Nat.zero_le _, Nat.zero_le _⟩ rfl dX12_tails_31 (fun H locs hR => ?_)
      obtain ⟨e1, e2⟩ := fr_s2 hsp
      exact fr_iret C hr hlocks hR e1 e2 dX12_tails_34
    · rw [if_neg c10] at hsp
      refine lv_iload_n hx hb dX12_tails_19 rfl (lv_at hl 3 rfl) ?_
      refine lv_i2l hx hb dX12_tails_20 rfl ?_
      refine lv_lconst (v := 0) hx hb dX12_tails_21 (by decide) ?_
      refine lv_lconst (v := 1) hx hb dX12_tails_22 (by decide) ?_
      obtain ⟨r14, E15, hsp⟩ := fr_b1 hsp
      refine fq_callS (rest := []) (st1 := [.int r14]) C hR (k_X12_isIn C.2.2 E15) Y_X12_isIn YS_X12_isIn Lk_RX12_78 rfl hl.1 ⟨Nat.le_of_ble_eq_true rfl, Nat.le_of_ble_eq_true rfl⟩ rfl (Nat.le_of_ble_eq_true rfl) ⟨Nat.zero_le _, Nat.zero_le _⟩ rfl dX12_tails_23 (fun H locs hR => ?_)
      refine lv_if_ne (tgt := 35) hx hb dX12_tails_26 (by decide) (fun c16 => ?_) (fun c16 => ?_)
      · rw [if_neg c16] at hsp
        refine lv_aload_n hx hb dX12_tails_35 rfl (lv_at hl 0 rfl) ?_
        obtain ⟨j17, hv18, hsp⟩ := fr_b1 hsp
        refine fr_getr C hR ha Fg_RX12_22 rfl hv18 dX12_tails_36 ?_
        refine lv_iload_n hx hb dX12_tails_39 rfl (lv_at hl 1 rfl) ?_
        obtain ⟨hk19, hsp⟩ := fr_ck hsp
        obtain ⟨hi20, hsp⟩ := fr_ck hsp
        refine fr_iald C hR hk19 hi20 dX12_tails_40 ?_
        refine lv_if_ne (tgt := 53) hx hb dX12_tails_41 (by decide) (fun c21 => ?_) (fun c21 => ?_)
        · rw [if_neg c21] at hsp
          refine lv_iconst (v := -1) hx hb dX12_tails_53 (by decide) ?_
          obtain ⟨e1, e2⟩ := fr_s2 hsp
          exact fr_iret C hr hlocks hR e1 e2 dX12_tails_54
        · rw [if_pos c21] at hsp
          refine lv_aload_n hx hb dX12_tails_44 rfl (lv_at hl 0 rfl) ?_
          refine fr_getr C hR ha Fg_RX12_22 rfl hv18 dX12_tails_45 ?_
          refine lv_iload_n hx hb dX12_tails_48 rfl (lv_at hl 2 rfl) ?_
          obtain ⟨hi22, hsp⟩ := fr_ck hsp
          refine fr_iald C hR hk19 hi22 dX12_tails_49 ?_
          refine lv_if_eq (tgt := 55) hx hb dX12_tails_50 (by decide) (fun c23 => ?_) (fun c23 => ?_)
          · rw [if_pos c23] at hsp
            refine lv_bipush (v := 40) hx hb dX12_tails_55 (by decide) ?_
            refine lv_istore (lv' := [(4, .int (40 : Int32)), (0, .ref (g.2.2 a)), (1, .int x1), (2, .int x2), (3, .int x3)]) hx hb dX12_tails_57 hl (by decide) rfl (fun ls hl => ?_)
            refine lv_iconst (v := 0) hx hb dX12_tails_59 (by decide) ?_
            refine lv_istore (lv' := [(5, .int (0 : Int32)), (4, .int (40 : Int32)), (0, .ref (g.2.2 a)), (1, .int x1), (2, .int x2), (3, .int x3)]) hx hb dX12_tails_60 hl (by decide) rfl (fun ls hl => ?_)
            exact hb_62 20000 h1 x1 x2 x3 (40 : Int32) (0 : Int32) _ _ _ hsp hR (lv_sub hl [2, 3, 4, 5, 1, 0] rfl)
          · rw [if_neg c23] at hsp
            refine lv_iconst (v := -1) hx hb dX12_tails_53 (by decide) ?_
            obtain ⟨e1, e2⟩ := fr_s2 hsp
            exact fr_iret C hr hlocks hR e1 e2 dX12_tails_54
      · rw [if_pos c16] at hsp
        refine lv_aload_n hx hb dX12_tails_29 rfl (lv_at hl 0 rfl) ?_
        refine lv_iconst (v := 1) hx hb dX12_tails_30 (by decide) ?_
        obtain ⟨r24, h25, E26, hsp⟩ := fr_b2 hsp
        refine fq_callV (rest := []) (st1 := [.int r24]) C hR (k_X12_fail C.2.2 ha E26) Y_X12_fail YV_X12_fail Lk_RX12_299 ha ⟨_, _, rfl, by decide⟩ rfl hl.1 ⟨Nat.le_of_ble_eq_true rfl, Nat.le_of_ble_eq_true rfl⟩ rfl (Nat.le_of_ble_eq_true rfl) ⟨Nat.zero_le _, Nat.zero_le _⟩ rfl dX12_tails_31 (fun H locs hR => ?_)
        obtain ⟨e1, e2⟩ := fr_s2 hsp
        exact fr_iret C hr hlocks hR e1 e2 dX12_tails_34

/-! TermRowsModel.often(II)I -/
def z_X12_often_b23 (S : fh_S) (a : Nat) : Nat → fh_H → Int32 → Int32 → Int32 → Int32 → Option (Int32 × fh_H)
  | 0, _, _, _, _, _ => none
  | n + 1, h, y1, y2, y3, y4 =>
    fh_b1 (h.2.2 a 5) (fun j1 => fh_ck (fh_kq S j1 13) (fh_ck (fh_in y1 (S.2.2 j1)) (if (h.1 j1 (Int32.toNatClampNeg y1)) ≤ y4 then (some (y3, h)) else (fh_b1 (z_X12_termOf S h a y1 y4) (fun r6 => if r6 = y2 then (fh_let ((y3 + (1 : Int32))) (fun v11 => fh_let (y4 + 1) (fun v12 => z_X12_often_b23 S a n h y1 y2 v11 v12))) else (fh_let ((y3 + (0 : Int32))) (fun v9 => fh_let (y4 + 1) (fun v10 => z_X12_often_b23 S a n h y1 y2 v9 v10))))))))
def z_X12_often (S : fh_S) (h : fh_H) (a : Nat) (x1 : Int32) (x2 : Int32) : Option (Int32 × fh_H) :=
    fh_let (fh_sI h a 3 (0 : Int32)) (fun h1 => fh_b1 (z_X12_isRow x1) (fun r2 => if r2 = 0 then (fh_b2 (z_X12_fail S h1 a (1 : Int32)) (fun r5 h6 => some (r5, h6))) else (z_X12_often_b23 S a 20000 h1 x1 x2 (0 : Int32) (1 : Int32))))
set_option maxHeartbeats 4000000 in
set_option maxRecDepth 100000 in
theorem k_X12_often {l : Launch} {S : fh_S} {g : fh_G} {h h' : fh_H} (hj : fh_inj S g) {a : Nat} {x1 : Int32} {x2 : Int32} {r : Int32} (ha : fh_kq S a 12 = true) (hsp : z_X12_often S h a x1 x2 = some (r, h')) : fh_M l yX12_often cX12_often 5 (some .int) (fh_rm 3) S g [.ref (g.2.2 a), .int x1, .int x2] h (some (.int r)) h' := by
  unfold z_X12_often at hsp
  refine fr_head (own := RX12) (by decide) rfl hj (Nat.le_of_ble_eq_true rfl) ?_
  intro p e s m below meth c ls C hr hlocks hR hl
  have hl : lv_has ls 5 [(0, .ref (g.2.2 a)), (1, .int x1), (2, .int x2)] := hl
  have hx := C.1.1
  have hb := C.1.2.1
  have hb_23 : ∀ (n : Nat) (h : fh_H) (y1 : Int32) (y2 : Int32) (y3 : Int32) (y4 : Int32) (H : Heap) (locs : List Loc) (ls : Array Slot), z_X12_often_b23 S a n h y1 y2 y3 y4 = some (r, h') → fh_R S g s.heap h H locs → lv_has ls 5 [(0, .ref (g.2.2 a)), (1, .int y1), (2, .int y2), (3, .int y3), (4, .int y4)] → fh_Wk p l e 3 s m [.ref (g.2.2 a), .int x1, .int x2] below meth c S g (some (.int r)) h' H locs (F0 m 23 ls []) := by
    intro n
    induction n with
    | zero => intro h y1 y2 y3 y4 H locs ls hsp; cases hsp
    | succ n ih =>
      intro h y1 y2 y3 y4 H locs ls hsp hR hl
      rw [z_X12_often_b23] at hsp
      refine lv_iload hx hb dX12_often_23 (lv_at hl 4 rfl) ?_
      refine lv_aload_n hx hb dX12_often_25 rfl (lv_at hl 0 rfl) ?_
      obtain ⟨j1, hv2, hsp⟩ := fr_b1 hsp
      refine fr_getr C hR ha Fg_RX12_19 rfl hv2 dX12_often_26 ?_
      refine lv_iload_n hx hb dX12_often_29 rfl (lv_at hl 1 rfl) ?_
      obtain ⟨hk3, hsp⟩ := fr_ck hsp
      obtain ⟨hi4, hsp⟩ := fr_ck hsp
      refine fr_iald C hR hk3 hi4 dX12_often_30 ?_
      refine lv_icmp_ge (tgt := 59) hx hb dX12_often_31 (by decide) (fun c5 => ?_) (fun c5 => ?_)
      · rw [if_pos c5] at hsp
        refine lv_iload_n hx hb dX12_often_59 rfl (lv_at hl 3 rfl) ?_
        obtain ⟨e1, e2⟩ := fr_s2 hsp
        exact fr_iret C hr hlocks hR e1 e2 dX12_often_60
      · rw [if_neg c5] at hsp
        refine lv_iload_n hx hb dX12_often_34 rfl (lv_at hl 3 rfl) ?_
        refine lv_aload_n hx hb dX12_often_35 rfl (lv_at hl 0 rfl) ?_
        refine lv_iload_n hx hb dX12_often_36 rfl (lv_at hl 1 rfl) ?_
        refine lv_iload hx hb dX12_often_37 (lv_at hl 4 rfl) ?_
        obtain ⟨r6, E7, hsp⟩ := fr_b1 hsp
        refine fq_callV (rest := [.int y3]) (st1 := [.int r6, .int y3]) C hR (k_X12_termOf C.2.2 ha E7) Y_X12_termOf YV_X12_termOf Lk_RX12_219 ha ⟨_, _, rfl, by decide⟩ rfl hl.1 ⟨Nat.le_of_ble_eq_true rfl, Nat.le_of_ble_eq_true rfl⟩ rfl (Nat.le_of_ble_eq_true rfl) ⟨Nat.zero_le _, Nat.zero_le _⟩ rfl dX12_often_39 (fun H locs hR => ?_)
        refine lv_iload_n hx hb dX12_often_42 rfl (lv_at hl 2 rfl) ?_
        refine lv_icmp_ne (tgt := 50) hx hb dX12_often_43 (by decide) (fun c8 => ?_) (fun c8 => ?_)
        · rw [if_neg c8] at hsp
          refine lv_iconst (v := 0) hx hb dX12_often_50 (by decide) ?_
          refine lv_iadd hx hb dX12_often_51 ?_
          refine lv_topi (fun v9 ev9 => ?_)
          have hsp := fr_let ev9 hsp
          refine lv_istore_n (lv' := [(3, .int v9), (0, .ref (g.2.2 a)), (1, .int y1), (2, .int y2), (4, .int y4)]) hx hb dX12_often_52 rfl hl (by decide) rfl (fun ls hl => ?_)
          obtain ⟨v10, ev10⟩ : ∃ z : Int32, z = y4 + 1 := ⟨_, rfl⟩
          have hsp := fr_let ev10 hsp
          refine lv_iinc (v := v10) (lv' := [(4, .int v10), (3, .int v9), (0, .ref (g.2.2 a)), (1, .int y1), (2, .int y2)]) hx hb dX12_often_53 hl (k := 4) rfl (by rw [ev10]; rfl) (by decide) rfl (fun ls hl => ?_)
          refine lv_goto (tgt := 23) hx hb dX12_often_56 (by decide) ?_
          exact ih h y1 y2 v9 v10 _ _ _ hsp hR (lv_sub hl [2, 3, 4, 1, 0] rfl)
        · rw [if_pos c8] at hsp
          refine lv_iconst (v := 1) hx hb dX12_often_46 (by decide) ?_
          refine lv_goto (tgt := 51) hx hb dX12_often_47 (by decide) ?_
          refine lv_iadd hx hb dX12_often_51 ?_
          refine lv_topi (fun v11 ev11 => ?_)
          have hsp := fr_let ev11 hsp
          refine lv_istore_n (lv' := [(3, .int v11), (0, .ref (g.2.2 a)), (1, .int y1), (2, .int y2), (4, .int y4)]) hx hb dX12_often_52 rfl hl (by decide) rfl (fun ls hl => ?_)
          obtain ⟨v12, ev12⟩ : ∃ z : Int32, z = y4 + 1 := ⟨_, rfl⟩
          have hsp := fr_let ev12 hsp
          refine lv_iinc (v := v12) (lv' := [(4, .int v12), (3, .int v11), (0, .ref (g.2.2 a)), (1, .int y1), (2, .int y2)]) hx hb dX12_often_53 hl (k := 4) rfl (by rw [ev12]; rfl) (by decide) rfl (fun ls hl => ?_)
          refine lv_goto (tgt := 23) hx hb dX12_often_56 (by decide) ?_
          exact ih h y1 y2 v11 v12 _ _ _ hsp hR (lv_sub hl [2, 3, 4, 1, 0] rfl)
  refine lv_aload_n hx hb dX12_often_0 rfl (lv_at hl 0 rfl) ?_
  refine lv_iconst (v := 0) hx hb dX12_often_1 (by decide) ?_
  refine fr_puti C hR ha Fp_RX12_73 rfl dX12_often_2 (fun H locs hR => ?_)
  obtain ⟨h1, eh1⟩ : ∃ z, z = fh_sI h a 3 (0 : Int32) := ⟨_, rfl⟩
  rw [← eh1] at hR
  have hsp := fr_let eh1 hsp
  refine lv_iload_n hx hb dX12_often_5 rfl (lv_at hl 1 rfl) ?_
  obtain ⟨r2, E3, hsp⟩ := fr_b1 hsp
  refine fq_callS (rest := []) (st1 := [.int r2]) C hR (k_X12_isRow C.2.2 E3) Y_X12_isRow YS_X12_isRow Lk_RX12_264 rfl hl.1 ⟨Nat.le_of_ble_eq_true rfl, Nat.le_of_ble_eq_true rfl⟩ rfl (Nat.le_of_ble_eq_true rfl) ⟨Nat.zero_le _, Nat.zero_le _⟩ rfl dX12_often_6 (fun H locs hR => ?_)
  refine lv_if_ne (tgt := 18) hx hb dX12_often_9 (by decide) (fun c4 => ?_) (fun c4 => ?_)
  · rw [if_neg c4] at hsp
    refine lv_iconst (v := 0) hx hb dX12_often_18 (by decide) ?_
    refine lv_istore_n (lv' := [(3, .int (0 : Int32)), (0, .ref (g.2.2 a)), (1, .int x1), (2, .int x2)]) hx hb dX12_often_19 rfl hl (by decide) rfl (fun ls hl => ?_)
    refine lv_iconst (v := 1) hx hb dX12_often_20 (by decide) ?_
    refine lv_istore (lv' := [(4, .int (1 : Int32)), (3, .int (0 : Int32)), (0, .ref (g.2.2 a)), (1, .int x1), (2, .int x2)]) hx hb dX12_often_21 hl (by decide) rfl (fun ls hl => ?_)
    exact hb_23 20000 h1 x1 x2 (0 : Int32) (1 : Int32) _ _ _ hsp hR (lv_sub hl [2, 3, 4, 1, 0] rfl)
  · rw [if_pos c4] at hsp
    refine lv_aload_n hx hb dX12_often_12 rfl (lv_at hl 0 rfl) ?_
    refine lv_iconst (v := 1) hx hb dX12_often_13 (by decide) ?_
    obtain ⟨r5, h6, E7, hsp⟩ := fr_b2 hsp
    refine fq_callV (rest := []) (st1 := [.int r5]) C hR (k_X12_fail C.2.2 ha E7) Y_X12_fail YV_X12_fail Lk_RX12_299 ha ⟨_, _, rfl, by decide⟩ rfl hl.1 ⟨Nat.le_of_ble_eq_true rfl, Nat.le_of_ble_eq_true rfl⟩ rfl (Nat.le_of_ble_eq_true rfl) ⟨Nat.zero_le _, Nat.zero_le _⟩ rfl dX12_often_14 (fun H locs hR => ?_)
    obtain ⟨e1, e2⟩ := fr_s2 hsp
    exact fr_iret C hr hlocks hR e1 e2 dX12_often_17

/-! TermRowsModel.opens(I)V -/
def z_X12_opens (S : fh_S) (h : fh_H) (a : Nat) (x1 : Int32) : Option fh_H :=
    fh_let (fh_sI h a 36 x1) (fun h1 => fh_let (fh_sI h1 a 37 (0 : Int32)) (fun h2 => fh_let (fh_sI h2 a 41 (0 : Int32)) (fun h3 => fh_let (fh_sI h3 a 44 (0 : Int32)) (fun h4 => fh_b1 (z_X12_step S h4 a) (fun h5 => some h5)))))
set_option maxHeartbeats 4000000 in
set_option maxRecDepth 100000 in
theorem k_X12_opens {l : Launch} {S : fh_S} {g : fh_G} {h h' : fh_H} (hj : fh_inj S g) {a : Nat} {x1 : Int32} (ha : fh_kq S a 12 = true) (hsp : z_X12_opens S h a x1 = some h') : fh_M l yX12_opens cX12_opens 2 none (fh_rm 3) S g [.ref (g.2.2 a), .int x1] h none h' := by
  unfold z_X12_opens at hsp
  refine fr_head (own := RX12) (by decide) rfl hj (Nat.le_of_ble_eq_true rfl) ?_
  intro p e s m below meth c ls C hr hlocks hR hl
  have hl : lv_has ls 2 [(0, .ref (g.2.2 a)), (1, .int x1)] := hl
  have hx := C.1.1
  have hb := C.1.2.1
  refine lv_aload_n hx hb dX12_opens_0 rfl (lv_at hl 0 rfl) ?_
  refine lv_iload_n hx hb dX12_opens_1 rfl (lv_at hl 1 rfl) ?_
  refine fr_puti C hR ha Fp_RX12_386 rfl dX12_opens_2 (fun H locs hR => ?_)
  obtain ⟨h1, eh1⟩ : ∃ z, z = fh_sI h a 36 x1 := ⟨_, rfl⟩
  rw [← eh1] at hR
  have hsp := fr_let eh1 hsp
  refine lv_aload_n hx hb dX12_opens_5 rfl (lv_at hl 0 rfl) ?_
  refine lv_iconst (v := 0) hx hb dX12_opens_6 (by decide) ?_
  refine fr_puti C hR ha Fp_RX12_389 rfl dX12_opens_7 (fun H locs hR => ?_)
  obtain ⟨h2, eh2⟩ : ∃ z, z = fh_sI h1 a 37 (0 : Int32) := ⟨_, rfl⟩
  rw [← eh2] at hR
  have hsp := fr_let eh2 hsp
  refine lv_aload_n hx hb dX12_opens_10 rfl (lv_at hl 0 rfl) ?_
  refine lv_iconst (v := 0) hx hb dX12_opens_11 (by decide) ?_
  refine fr_puti C hR ha Fp_RX12_410 rfl dX12_opens_12 (fun H locs hR => ?_)
  obtain ⟨h3, eh3⟩ : ∃ z, z = fh_sI h2 a 41 (0 : Int32) := ⟨_, rfl⟩
  rw [← eh3] at hR
  have hsp := fr_let eh3 hsp
  refine lv_aload_n hx hb dX12_opens_15 rfl (lv_at hl 0 rfl) ?_
  refine lv_iconst (v := 0) hx hb dX12_opens_16 (by decide) ?_
  refine fr_puti C hR ha Fp_RX12_413 rfl dX12_opens_17 (fun H locs hR => ?_)
  obtain ⟨h4, eh4⟩ : ∃ z, z = fh_sI h3 a 44 (0 : Int32) := ⟨_, rfl⟩
  rw [← eh4] at hR
  have hsp := fr_let eh4 hsp
  refine lv_aload_n hx hb dX12_opens_20 rfl (lv_at hl 0 rfl) ?_
  obtain ⟨h5, E6, hsp⟩ := fr_b1 hsp
  refine fq_callV (rest := []) (st1 := []) C hR (k_X12_step C.2.2 ha E6) Y_X12_step YV_X12_step Lk_RX12_416 ha ⟨_, _, rfl, by decide⟩ rfl hl.1 ⟨Nat.le_of_ble_eq_true rfl, Nat.le_of_ble_eq_true rfl⟩ rfl (Nat.le_of_ble_eq_true rfl) ⟨Nat.zero_le _, Nat.zero_le _⟩ rfl dX12_opens_21 (fun H locs hR => ?_)
  exact fr_vret C hr hlocks hR (fr_s1 hsp) dX12_opens_24

/-! TermRowsModel.pass()V -/
def z_X12_pass (S : fh_S) (h : fh_H) (a : Nat) : Option fh_H :=
    if (h.1 a 41) = 0 then (fh_b1 (z_X12_step S h a) (fun h2 => some h2)) else (some h)
set_option maxHeartbeats 4000000 in
set_option maxRecDepth 100000 in
theorem k_X12_pass {l : Launch} {S : fh_S} {g : fh_G} {h h' : fh_H} (hj : fh_inj S g) {a : Nat} (ha : fh_kq S a 12 = true) (hsp : z_X12_pass S h a = some h') : fh_M l yX12_pass cX12_pass 1 none (fh_rm 3) S g [.ref (g.2.2 a)] h none h' := by
  unfold z_X12_pass at hsp
  refine fr_head (own := RX12) (by decide) rfl hj (Nat.le_of_ble_eq_true rfl) ?_
  intro p e s m below meth c ls C hr hlocks hR hl
  have hl : lv_has ls 1 [(0, .ref (g.2.2 a))] := hl
  have hx := C.1.1
  have hb := C.1.2.1
  refine lv_aload_n hx hb dX12_pass_0 rfl (lv_at hl 0 rfl) ?_
  refine fr_geti C hR ha Fg_RX12_410 rfl dX12_pass_1 ?_
  refine lv_if_ne (tgt := 11) hx hb dX12_pass_4 (by decide) (fun c1 => ?_) (fun c1 => ?_)
  · rw [if_neg c1] at hsp
    exact fr_vret C hr hlocks hR (fr_s1 hsp) dX12_pass_11
  · rw [if_pos c1] at hsp
    refine lv_aload_n hx hb dX12_pass_7 rfl (lv_at hl 0 rfl) ?_
    obtain ⟨h2, E3, hsp⟩ := fr_b1 hsp
    refine fq_callV (rest := []) (st1 := []) C hR (k_X12_step C.2.2 ha E3) Y_X12_step YV_X12_step Lk_RX12_416 ha ⟨_, _, rfl, by decide⟩ rfl hl.1 ⟨Nat.le_of_ble_eq_true rfl, Nat.le_of_ble_eq_true rfl⟩ rfl (Nat.le_of_ble_eq_true rfl) ⟨Nat.zero_le _, Nat.zero_le _⟩ rfl dX12_pass_8 (fun H locs hR => ?_)
    exact fr_vret C hr hlocks hR (fr_s1 hsp) dX12_pass_11

/-! TermRowsModel.isRight(II)Z -/
def z_X12_isRight (S : fh_S) (h : fh_H) (a : Nat) (x1 : Int32) (x2 : Int32) : Option Int32 :=
    fh_b1 (z_X12_isRow x1) (fun r1 => if r1 = 0 then (some (0 : Int32)) else (fh_b1 (z_X12_isIn (Int32.toInt64 x2) (0 : Int64) (Int32.toInt64 (h.1 a 35))) (fun r4 => if r4 = 0 then (some (0 : Int32)) else (some (1 : Int32)))))
set_option maxHeartbeats 4000000 in
set_option maxRecDepth 100000 in
theorem k_X12_isRight {l : Launch} {S : fh_S} {g : fh_G} {h : fh_H} (hj : fh_inj S g) {a : Nat} {x1 : Int32} {x2 : Int32} {r : Int32} (ha : fh_kq S a 12 = true) (hsp : z_X12_isRight S h a x1 x2 = some r) : fh_M l yX12_isRight cX12_isRight 3 (some .boolean) (fh_rm 3) S g [.ref (g.2.2 a), .int x1, .int x2] h (some (.int r)) h := by
  unfold z_X12_isRight at hsp
  refine fr_head (own := RX12) (by decide) rfl hj (Nat.le_of_ble_eq_true rfl) ?_
  intro p e s m below meth c ls C hr hlocks hR hl
  have hl : lv_has ls 3 [(0, .ref (g.2.2 a)), (1, .int x1), (2, .int x2)] := hl
  have hx := C.1.1
  have hb := C.1.2.1
  refine lv_iload_n hx hb dX12_isRight_0 rfl (lv_at hl 1 rfl) ?_
  obtain ⟨r1, E2, hsp⟩ := fr_b1 hsp
  refine fq_callS (rest := []) (st1 := [.int r1]) C hR (k_X12_isRow C.2.2 E2) Y_X12_isRow YS_X12_isRow Lk_RX12_264 rfl hl.1 ⟨Nat.le_of_ble_eq_true rfl, Nat.le_of_ble_eq_true rfl⟩ rfl (Nat.le_of_ble_eq_true rfl) ⟨Nat.zero_le _, Nat.zero_le _⟩ rfl dX12_isRight_1 (fun H locs hR => ?_)
  refine lv_if_eq (tgt := 25) hx hb dX12_isRight_4 (by decide) (fun c3 => ?_) (fun c3 => ?_)
  · rw [if_pos c3] at hsp
    refine lv_iconst (v := 0) hx hb dX12_isRight_25 (by decide) ?_
    have e1 := fr_s1 hsp
    exact fr_zret C hr hlocks hR (Or.inl rfl) e1 rfl dX12_isRight_26
  · rw [if_neg c3] at hsp
    refine lv_iload_n hx hb dX12_isRight_7 rfl (lv_at hl 2 rfl) ?_
    refine lv_i2l hx hb dX12_isRight_8 rfl ?_
    refine lv_lconst (v := 0) hx hb dX12_isRight_9 (by decide) ?_
    refine lv_aload_n hx hb dX12_isRight_10 rfl (lv_at hl 0 rfl) ?_
    refine fr_geti C hR ha Fg_RX12_289 rfl dX12_isRight_11 ?_
    refine lv_i2l hx hb dX12_isRight_14 rfl ?_
    obtain ⟨r4, E5, hsp⟩ := fr_b1 hsp
    refine fq_callS (rest := []) (st1 := [.int r4]) C hR (k_X12_isIn C.2.2 E5) Y_X12_isIn YS_X12_isIn Lk_RX12_78 rfl hl.1 ⟨Nat.le_of_ble_eq_true rfl, Nat.le_of_ble_eq_true rfl⟩ rfl (Nat.le_of_ble_eq_true rfl) ⟨Nat.zero_le _, Nat.zero_le _⟩ rfl dX12_isRight_15 (fun H locs hR => ?_)
    refine lv_if_eq (tgt := 25) hx hb dX12_isRight_18 (by decide) (fun c6 => ?_) (fun c6 => ?_)
    · rw [if_pos c6] at hsp
      refine lv_iconst (v := 0) hx hb dX12_isRight_25 (by decide) ?_
      have e1 := fr_s1 hsp
      exact fr_zret C hr hlocks hR (Or.inl rfl) e1 rfl dX12_isRight_26
    · rw [if_neg c6] at hsp
      refine lv_iconst (v := 1) hx hb dX12_isRight_21 (by decide) ?_
      refine lv_goto (tgt := 26) hx hb dX12_isRight_22 (by decide) ?_
      have e1 := fr_s1 hsp
      exact fr_zret C hr hlocks hR (Or.inr rfl) e1 rfl dX12_isRight_26

/-! TermRowsModel.layRoot(I)V -/
def z_X12_layRoot_b48 (S : fh_S) (a : Nat) : Nat → fh_H → Int32 → Int32 → Int32 → Option fh_H
  | 0, _, _, _, _ => none
  | n + 1, h, y1, y2, y3 =>
    if y2 = 0 then (fh_b1 (h.2.2 a 6) (fun j2 => fh_ck (fh_kq S j2 13) (fh_ck (fh_in y1 (S.2.2 j2)) (fh_let (fh_sI h j2 (Int32.toNatClampNeg y1) (0 : Int32)) (fun h6 => some h6))))) else (fh_b1 (h.2.2 a 10) (fun j7 => fh_ck (fh_kq S j7 14) (fh_ck (fh_in y3 (S.2.2 j7)) (fh_b1 (h.2.2 a 11) (fun j11 => fh_ck (fh_kq S j11 14) (fh_ck (fh_in y3 (S.2.2 j11)) (fh_b1 (z_X12_floorOf (h.2.1 j7 (Int32.toNatClampNeg y3)) (h.2.1 a 12) (h.2.1 j11 (Int32.toNatClampNeg y3))) (fun r15 => fh_b2 (z_X12_knows S h a y1 r15) (fun r17 h18 => fh_let (y3 + 1) (fun v20 => z_X12_layRoot_b48 S a n h18 y1 r17 v20))))))))))
def z_X12_layRoot (S : fh_S) (h : fh_H) (a : Nat) (x1 : Int32) : Option fh_H :=
    fh_b1 (z_X12_isSquare S h a x1) (fun r1 => if r1 = 0 then (fh_b1 (z_X12_layStates S h a x1) (fun h4 => z_X12_layRoot_b48 S a 20000 h4 x1 (1 : Int32) (0 : Int32))) else (fh_b1 (z_X12_of1 S h a x1 (1 : Int32)) (fun r6 => fh_b1 (z_X12_of1 S h a x1 (2 : Int32)) (fun r8 => fh_b1 (z_X12_rootOf (Int32.toInt64 r8)) (fun r10 => fh_b1 (z_X12_of1 S h a x1 (3 : Int32)) (fun r12 => fh_b1 (z_X12_divides S h a x1 ((Int32.toInt64 r6) + r10) (Int32.toInt64 r12)) (fun h14 => some h14)))))))
set_option maxHeartbeats 4000000 in
set_option maxRecDepth 100000 in
theorem k_X12_layRoot {l : Launch} {S : fh_S} {g : fh_G} {h h' : fh_H} (hj : fh_inj S g) {a : Nat} {x1 : Int32} (ha : fh_kq S a 12 = true) (hsp : z_X12_layRoot S h a x1 = some h') : fh_M l yX12_layRoot cX12_layRoot 4 none (fh_rm 4) S g [.ref (g.2.2 a), .int x1] h none h' := by
  unfold z_X12_layRoot at hsp
  refine fr_head (own := RX12) (by decide) rfl hj (Nat.le_of_ble_eq_true rfl) ?_
  intro p e s m below meth c ls C hr hlocks hR hl
  have hl : lv_has ls 4 [(0, .ref (g.2.2 a)), (1, .int x1)] := hl
  have hx := C.1.1
  have hb := C.1.2.1
  have hb_48 : ∀ (n : Nat) (h : fh_H) (y1 : Int32) (y2 : Int32) (y3 : Int32) (H : Heap) (locs : List Loc) (ls : Array Slot), z_X12_layRoot_b48 S a n h y1 y2 y3 = some h' → fh_R S g s.heap h H locs → lv_has ls 4 [(0, .ref (g.2.2 a)), (1, .int y1), (2, .int y2), (3, .int y3)] → fh_Wk p l e 4 s m [.ref (g.2.2 a), .int x1] below meth c S g none h' H locs (F0 m 48 ls []) := by
    intro n
    induction n with
    | zero => intro h y1 y2 y3 H locs ls hsp; cases hsp
    | succ n ih =>
      intro h y1 y2 y3 H locs ls hsp hR hl
      rw [z_X12_layRoot_b48] at hsp
      refine lv_iload_n hx hb dX12_layRoot_48 rfl (lv_at hl 2 rfl) ?_
      refine lv_if_eq (tgt := 83) hx hb dX12_layRoot_49 (by decide) (fun c1 => ?_) (fun c1 => ?_)
      · rw [if_pos c1] at hsp
        refine lv_aload_n hx hb dX12_layRoot_83 rfl (lv_at hl 0 rfl) ?_
        obtain ⟨j2, hv3, hsp⟩ := fr_b1 hsp
        refine fr_getr C hR ha Fg_RX12_22 rfl hv3 dX12_layRoot_84 ?_
        refine lv_iload_n hx hb dX12_layRoot_87 rfl (lv_at hl 1 rfl) ?_
        refine lv_iconst (v := 0) hx hb dX12_layRoot_88 (by decide) ?_
        obtain ⟨hk4, hsp⟩ := fr_ck hsp
        obtain ⟨hi5, hsp⟩ := fr_ck hsp
        refine fr_iast C hR hk4 hi5 dX12_layRoot_89 (fun H locs hR => ?_)
        obtain ⟨h6, eh6⟩ : ∃ z, z = fh_sI h j2 (Int32.toNatClampNeg y1) (0 : Int32) := ⟨_, rfl⟩
        rw [← eh6] at hR
        have hsp := fr_let eh6 hsp
        exact fr_vret C hr hlocks hR (fr_s1 hsp) dX12_layRoot_90
      · rw [if_neg c1] at hsp
        refine lv_aload_n hx hb dX12_layRoot_52 rfl (lv_at hl 0 rfl) ?_
        refine lv_iload_n hx hb dX12_layRoot_53 rfl (lv_at hl 1 rfl) ?_
        refine lv_aload_n hx hb dX12_layRoot_54 rfl (lv_at hl 0 rfl) ?_
        obtain ⟨j7, hv8, hsp⟩ := fr_b1 hsp
        refine fr_getr C hR ha Fg_RX12_34 rfl hv8 dX12_layRoot_55 ?_
        refine lv_iload_n hx hb dX12_layRoot_58 rfl (lv_at hl 3 rfl) ?_
        obtain ⟨hk9, hsp⟩ := fr_ck hsp
        obtain ⟨hi10, hsp⟩ := fr_ck hsp
        refine fr_lald C hR hk9 hi10 dX12_layRoot_59 ?_
        refine lv_aload_n hx hb dX12_layRoot_60 rfl (lv_at hl 0 rfl) ?_
        refine fr_getj C hR ha Fg_RX12_124 rfl dX12_layRoot_61 ?_
        refine lv_aload_n hx hb dX12_layRoot_64 rfl (lv_at hl 0 rfl) ?_
        obtain ⟨j11, hv12, hsp⟩ := fr_b1 hsp
        refine fr_getr C hR ha Fg_RX12_38 rfl hv12 dX12_layRoot_65 ?_
        refine lv_iload_n hx hb dX12_layRoot_68 rfl (lv_at hl 3 rfl) ?_
        obtain ⟨hk13, hsp⟩ := fr_ck hsp
        obtain ⟨hi14, hsp⟩ := fr_ck hsp
        refine fr_lald C hR hk13 hi14 dX12_layRoot_69 ?_
        obtain ⟨r15, E16, hsp⟩ := fr_b1 hsp
        refine fq_callS (rest := [.int y1, .ref (g.2.2 a)]) (st1 := [.long r15, .int y1, .ref (g.2.2 a)]) C hR (k_X12_floorOf C.2.2 E16) Y_X12_floorOf YS_X12_floorOf Lk_RX12_128 rfl hl.1 ⟨Nat.le_of_ble_eq_true rfl, Nat.le_of_ble_eq_true rfl⟩ rfl (Nat.le_of_ble_eq_true rfl) ⟨Nat.zero_le _, Nat.zero_le _⟩ rfl dX12_layRoot_70 (fun H locs hR => ?_)
        obtain ⟨r17, h18, E19, hsp⟩ := fr_b2 hsp
        refine fq_callV (rest := []) (st1 := [.int r17]) C hR (k_X12_knows C.2.2 ha E19) Y_X12_knows YV_X12_knows Lk_RX12_109 ha ⟨_, _, rfl, by decide⟩ rfl hl.1 ⟨Nat.le_of_ble_eq_true rfl, Nat.le_of_ble_eq_true rfl⟩ rfl (Nat.le_of_ble_eq_true rfl) ⟨Nat.zero_le _, Nat.zero_le _⟩ rfl dX12_layRoot_73 (fun H locs hR => ?_)
        refine lv_istore_n (lv' := [(2, .int r17), (0, .ref (g.2.2 a)), (1, .int y1), (3, .int y3)]) hx hb dX12_layRoot_76 rfl hl (by decide) rfl (fun ls hl => ?_)
        obtain ⟨v20, ev20⟩ : ∃ z : Int32, z = y3 + 1 := ⟨_, rfl⟩
        have hsp := fr_let ev20 hsp
        refine lv_iinc (v := v20) (lv' := [(3, .int v20), (2, .int r17), (0, .ref (g.2.2 a)), (1, .int y1)]) hx hb dX12_layRoot_77 hl (k := 3) rfl (by rw [ev20]; rfl) (by decide) rfl (fun ls hl => ?_)
        refine lv_goto (tgt := 48) hx hb dX12_layRoot_80 (by decide) ?_
        exact ih h18 y1 r17 v20 _ _ _ hsp hR (lv_sub hl [2, 3, 1, 0] rfl)
  refine lv_aload_n hx hb dX12_layRoot_0 rfl (lv_at hl 0 rfl) ?_
  refine lv_iload_n hx hb dX12_layRoot_1 rfl (lv_at hl 1 rfl) ?_
  obtain ⟨r1, E2, hsp⟩ := fr_b1 hsp
  refine fq_callV (rest := []) (st1 := [.int r1]) C hR (k_X12_isSquare C.2.2 ha E2) Y_X12_isSquare YV_X12_isSquare Lk_RX12_132 ha ⟨_, _, rfl, by decide⟩ rfl hl.1 ⟨Nat.le_of_ble_eq_true rfl, Nat.le_of_ble_eq_true rfl⟩ rfl (Nat.le_of_ble_eq_true rfl) ⟨Nat.zero_le _, Nat.zero_le _⟩ rfl dX12_layRoot_2 (fun H locs hR => ?_)
  refine lv_if_eq (tgt := 39) hx hb dX12_layRoot_5 (by decide) (fun c3 => ?_) (fun c3 => ?_)
  · rw [if_pos c3] at hsp
    refine lv_aload_n hx hb dX12_layRoot_39 rfl (lv_at hl 0 rfl) ?_
    refine lv_iload_n hx hb dX12_layRoot_40 rfl (lv_at hl 1 rfl) ?_
    obtain ⟨h4, E5, hsp⟩ := fr_b1 hsp
    refine fq_callV (rest := []) (st1 := []) C hR (k_X12_layStates C.2.2 ha E5) Y_X12_layStates YV_X12_layStates Lk_RX12_136 ha ⟨_, _, rfl, by decide⟩ rfl hl.1 ⟨Nat.le_of_ble_eq_true rfl, Nat.le_of_ble_eq_true rfl⟩ rfl (Nat.le_of_ble_eq_true rfl) ⟨Nat.zero_le _, Nat.zero_le _⟩ rfl dX12_layRoot_41 (fun H locs hR => ?_)
    refine lv_iconst (v := 1) hx hb dX12_layRoot_44 (by decide) ?_
    refine lv_istore_n (lv' := [(2, .int (1 : Int32)), (0, .ref (g.2.2 a)), (1, .int x1)]) hx hb dX12_layRoot_45 rfl hl (by decide) rfl (fun ls hl => ?_)
    refine lv_iconst (v := 0) hx hb dX12_layRoot_46 (by decide) ?_
    refine lv_istore_n (lv' := [(3, .int (0 : Int32)), (2, .int (1 : Int32)), (0, .ref (g.2.2 a)), (1, .int x1)]) hx hb dX12_layRoot_47 rfl hl (by decide) rfl (fun ls hl => ?_)
    exact hb_48 20000 h4 x1 (1 : Int32) (0 : Int32) _ _ _ hsp hR (lv_sub hl [2, 3, 1, 0] rfl)
  · rw [if_neg c3] at hsp
    refine lv_aload_n hx hb dX12_layRoot_8 rfl (lv_at hl 0 rfl) ?_
    refine lv_iload_n hx hb dX12_layRoot_9 rfl (lv_at hl 1 rfl) ?_
    refine lv_aload_n hx hb dX12_layRoot_10 rfl (lv_at hl 0 rfl) ?_
    refine lv_iload_n hx hb dX12_layRoot_11 rfl (lv_at hl 1 rfl) ?_
    refine lv_iconst (v := 1) hx hb dX12_layRoot_12 (by decide) ?_
    obtain ⟨r6, E7, hsp⟩ := fr_b1 hsp
    refine fq_callV (rest := [.int x1, .ref (g.2.2 a)]) (st1 := [.int r6, .int x1, .ref (g.2.2 a)]) C hR (k_X12_of1 C.2.2 ha E7) Y_X12_of1 YV_X12_of1 Lk_RX12_86 ha ⟨_, _, rfl, by decide⟩ rfl hl.1 ⟨Nat.le_of_ble_eq_true rfl, Nat.le_of_ble_eq_true rfl⟩ rfl (Nat.le_of_ble_eq_true rfl) ⟨Nat.zero_le _, Nat.zero_le _⟩ rfl dX12_layRoot_13 (fun H locs hR => ?_)
    refine lv_i2l hx hb dX12_layRoot_16 rfl ?_
    refine lv_aload_n hx hb dX12_layRoot_17 rfl (lv_at hl 0 rfl) ?_
    refine lv_iload_n hx hb dX12_layRoot_18 rfl (lv_at hl 1 rfl) ?_
    refine lv_iconst (v := 2) hx hb dX12_layRoot_19 (by decide) ?_
    obtain ⟨r8, E9, hsp⟩ := fr_b1 hsp
    refine fq_callV (rest := [.long (Int32.toInt64 r6), .int x1, .ref (g.2.2 a)]) (st1 := [.int r8, .long (Int32.toInt64 r6), .int x1, .ref (g.2.2 a)]) C hR (k_X12_of1 C.2.2 ha E9) Y_X12_of1 YV_X12_of1 Lk_RX12_86 ha ⟨_, _, rfl, by decide⟩ rfl hl.1 ⟨Nat.le_of_ble_eq_true rfl, Nat.le_of_ble_eq_true rfl⟩ rfl (Nat.le_of_ble_eq_true rfl) ⟨Nat.zero_le _, Nat.zero_le _⟩ rfl dX12_layRoot_20 (fun H locs hR => ?_)
    refine lv_i2l hx hb dX12_layRoot_23 rfl ?_
    obtain ⟨r10, E11, hsp⟩ := fr_b1 hsp
    refine fq_callS (rest := [.long (Int32.toInt64 r6), .int x1, .ref (g.2.2 a)]) (st1 := [.long r10, .long (Int32.toInt64 r6), .int x1, .ref (g.2.2 a)]) C hR (k_X12_rootOf C.2.2 E11) Y_X12_rootOf YS_X12_rootOf Lk_RX12_117 rfl hl.1 ⟨Nat.le_of_ble_eq_true rfl, Nat.le_of_ble_eq_true rfl⟩ rfl (Nat.le_of_ble_eq_true rfl) ⟨Nat.zero_le _, Nat.zero_le _⟩ rfl dX12_layRoot_24 (fun H locs hR => ?_)
    refine lv_ladd hx hb dX12_layRoot_27 ?_
    refine lv_aload_n hx hb dX12_layRoot_28 rfl (lv_at hl 0 rfl) ?_
    refine lv_iload_n hx hb dX12_layRoot_29 rfl (lv_at hl 1 rfl) ?_
    refine lv_iconst (v := 3) hx hb dX12_layRoot_30 (by decide) ?_
    obtain ⟨r12, E13, hsp⟩ := fr_b1 hsp
    refine fq_callV (rest := [.long ((Int32.toInt64 r6) + r10), .int x1, .ref (g.2.2 a)]) (st1 := [.int r12, .long ((Int32.toInt64 r6) + r10), .int x1, .ref (g.2.2 a)]) C hR (k_X12_of1 C.2.2 ha E13) Y_X12_of1 YV_X12_of1 Lk_RX12_86 ha ⟨_, _, rfl, by decide⟩ rfl hl.1 ⟨Nat.le_of_ble_eq_true rfl, Nat.le_of_ble_eq_true rfl⟩ rfl (Nat.le_of_ble_eq_true rfl) ⟨Nat.zero_le _, Nat.zero_le _⟩ rfl dX12_layRoot_31 (fun H locs hR => ?_)
    refine lv_i2l hx hb dX12_layRoot_34 rfl ?_
    obtain ⟨h14, E15, hsp⟩ := fr_b1 hsp
    refine fq_callV (rest := []) (st1 := []) C hR (k_X12_divides C.2.2 ha E15) Y_X12_divides YV_X12_divides Lk_RX12_90 ha ⟨_, _, rfl, by decide⟩ rfl hl.1 ⟨Nat.le_of_ble_eq_true rfl, Nat.le_of_ble_eq_true rfl⟩ rfl (Nat.le_of_ble_eq_true rfl) ⟨Nat.zero_le _, Nat.zero_le _⟩ rfl dX12_layRoot_35 (fun H locs hR => ?_)
    exact fr_vret C hr hlocks hR (fr_s1 hsp) dX12_layRoot_38

/-! TermRowsModel.reads()I -/
def z_X12_reads_b173 (S : fh_S) (a : Nat) (h : fh_H) : Option (Int32 × fh_H) :=
    fh_let (fh_sI h a 24 ((h.1 a 24) + (1 : Int32))) (fun h1 => if (h1.1 a 16) = 0 then (fh_b1 (z_X12_takesThen S h1 a) (fun h3 => fh_b1 (z_X12_turns S h3 a) (fun h5 => some ((-1 : Int32), h5)))) else (some ((2 : Int32), h1)))
def z_X12_reads_b143 (S : fh_S) (a : Nat) (h : fh_H) : Option (Int32 × fh_H) :=
    if (h.1 a 19) = 0 then (fh_let (fh_sI h a 22 ((h.1 a 22) + (1 : Int32))) (fun h2 => z_X12_reads_b173 S a h2)) else (fh_let (fh_sI h a 23 ((h.1 a 23) + (1 : Int32))) (fun h3 => z_X12_reads_b173 S a h3))
def z_X12_reads_b48 (S : fh_S) (a : Nat) (h : fh_H) (y1 : Int32) (t0 : Int32) : Option (Int32 × fh_H) :=
    fh_b1 (h.2.2 a 5) (fun j1 => fh_ck (fh_kq S j1 13) (fh_ck (fh_in y1 (S.2.2 j1)) (if t0 = (h.1 j1 (Int32.toNatClampNeg y1)) then (fh_b1 (h.2.2 a 6) (fun j18 => fh_ck (fh_kq S j18 13) (fh_ck (fh_in y1 (S.2.2 j18)) (if (h.1 j18 (Int32.toNatClampNeg y1)) = (1 : Int32) then (if (h.1 a 19) = 0 then (fh_b1 (z_X12_endsOne S h a) (fun h24 => fh_b1 (z_X12_turns S h24 a) (fun h26 => some ((-1 : Int32), h26)))) else (fh_b1 (z_X12_endsOther S h a) (fun h28 => fh_b1 (z_X12_turns S h28 a) (fun h30 => some ((-1 : Int32), h30))))) else (some ((3 : Int32), h)))))) else (fh_let (fh_sI h a 16 (0 : Int32)) (fun h6 => fh_b1 (z_X12_termOf S h6 a y1 t0) (fun r7 => fh_let ((Int32.toInt64 r7)) (fun v9 => if (h6.1 a 15) = 0 then (fh_b1 (z_X12_readsSingle S h6 a v9) (fun h16 => z_X12_reads_b143 S a h16)) else (if (h6.1 a 19) = 0 then (fh_b1 (z_X12_readsOne S h6 a v9) (fun h12 => z_X12_reads_b143 S a h12)) else (fh_b1 (z_X12_readsOther S h6 a v9) (fun h14 => z_X12_reads_b143 S a h14))))))))))
def z_X12_reads_b29 (S : fh_S) (a : Nat) (h : fh_H) (t0 : Int32) : Option (Int32 × fh_H) :=
    if (h.1 a 19) = 0 then (z_X12_reads_b48 S a h t0 (h.1 a 22)) else (z_X12_reads_b48 S a h t0 (h.1 a 23))
def z_X12_reads (S : fh_S) (h : fh_H) (a : Nat) : Option (Int32 × fh_H) :=
    if (h.1 a 24) = (100 : Int32) then (some ((3 : Int32), h)) else (if (h.1 a 19) = 0 then (z_X12_reads_b29 S a h (h.1 a 20)) else (z_X12_reads_b29 S a h (h.1 a 21)))
set_option maxHeartbeats 4000000 in
set_option maxRecDepth 100000 in
theorem k_X12_reads {l : Launch} {S : fh_S} {g : fh_G} {h h' : fh_H} (hj : fh_inj S g) {a : Nat} {r : Int32} (ha : fh_kq S a 12 = true) (hsp : z_X12_reads S h a = some (r, h')) : fh_M l yX12_reads cX12_reads 5 (some .int) (fh_rm 4) S g [.ref (g.2.2 a)] h (some (.int r)) h' := by
  unfold z_X12_reads at hsp
  refine fr_head (own := RX12) (by decide) rfl hj (Nat.le_of_ble_eq_true rfl) ?_
  intro p e s m below meth c ls C hr hlocks hR hl
  have hl : lv_has ls 5 [(0, .ref (g.2.2 a))] := hl
  have hx := C.1.1
  have hb := C.1.2.1
  have hb_173 : ∀ (h : fh_H) (H : Heap) (locs : List Loc) (ls : Array Slot), z_X12_reads_b173 S a h = some (r, h') → fh_R S g s.heap h H locs → lv_has ls 5 [(0, .ref (g.2.2 a))] → fh_Wk p l e 4 s m [.ref (g.2.2 a)] below meth c S g (some (.int r)) h' H locs (F0 m 173 ls []) := by
    intro h  H locs ls hsp hR hl
    unfold z_X12_reads_b173 at hsp
    refine lv_aload_n hx hb dX12_reads_173 rfl (lv_at hl 0 rfl) ?_
    refine lv_dup hx hb dX12_reads_174 rfl ?_
    refine fr_geti C hR ha Fg_RX12_173 rfl dX12_reads_175 ?_
    refine lv_iconst (v := 1) hx hb dX12_reads_178 (by decide) ?_
    refine lv_iadd hx hb dX12_reads_179 ?_
    refine fr_puti C hR ha Fp_RX12_173 rfl dX12_reads_180 (fun H locs hR => ?_)
    obtain ⟨h1, eh1⟩ : ∃ z, z = fh_sI h a 24 ((h.1 a 24) + (1 : Int32)) := ⟨_, rfl⟩
    rw [← eh1] at hR
    have hsp := fr_let eh1 hsp
    refine lv_aload_n hx hb dX12_reads_183 rfl (lv_at hl 0 rfl) ?_
    refine fr_geti C hR ha Fg_RX12_141 rfl dX12_reads_184 ?_
    refine lv_if_eq (tgt := 192) hx hb dX12_reads_187 (by decide) (fun c2 => ?_) (fun c2 => ?_)
    · rw [if_pos c2] at hsp
      refine lv_aload_n hx hb dX12_reads_192 rfl (lv_at hl 0 rfl) ?_
      obtain ⟨h3, E4, hsp⟩ := fr_b1 hsp
      refine fq_callV (rest := []) (st1 := []) C hR (k_X12_takesThen C.2.2 ha E4) Y_X12_takesThen YV_X12_takesThen Lk_RX12_207 ha ⟨_, _, rfl, by decide⟩ rfl hl.1 ⟨Nat.le_of_ble_eq_true rfl, Nat.le_of_ble_eq_true rfl⟩ rfl (Nat.le_of_ble_eq_true rfl) ⟨Nat.zero_le _, Nat.zero_le _⟩ rfl dX12_reads_193 (fun H locs hR => ?_)
      refine lv_aload_n hx hb dX12_reads_196 rfl (lv_at hl 0 rfl) ?_
      obtain ⟨h5, E6, hsp⟩ := fr_b1 hsp
      refine fq_callV (rest := []) (st1 := []) C hR (k_X12_turns C.2.2 ha E6) Y_X12_turns YV_X12_turns Lk_RX12_216 ha ⟨_, _, rfl, by decide⟩ rfl hl.1 ⟨Nat.le_of_ble_eq_true rfl, Nat.le_of_ble_eq_true rfl⟩ rfl (Nat.le_of_ble_eq_true rfl) ⟨Nat.zero_le _, Nat.zero_le _⟩ rfl dX12_reads_197 (fun H locs hR => ?_)
      refine lv_iconst (v := -1) hx hb dX12_reads_200 (by decide) ?_
      obtain ⟨e1, e2⟩ := fr_s2 hsp
      exact fr_iret C hr hlocks hR e1 e2 dX12_reads_201
    · rw [if_neg c2] at hsp
      refine lv_iconst (v := 2) hx hb dX12_reads_190 (by decide) ?_
      obtain ⟨e1, e2⟩ := fr_s2 hsp
      exact fr_iret C hr hlocks hR e1 e2 dX12_reads_191
  have hb_143 : ∀ (h : fh_H) (H : Heap) (locs : List Loc) (ls : Array Slot), z_X12_reads_b143 S a h = some (r, h') → fh_R S g s.heap h H locs → lv_has ls 5 [(0, .ref (g.2.2 a))] → fh_Wk p l e 4 s m [.ref (g.2.2 a)] below meth c S g (some (.int r)) h' H locs (F0 m 143 ls []) := by
    intro h  H locs ls hsp hR hl
    unfold z_X12_reads_b143 at hsp
    refine lv_aload_n hx hb dX12_reads_143 rfl (lv_at hl 0 rfl) ?_
    refine fr_geti C hR ha Fg_RX12_164 rfl dX12_reads_144 ?_
    refine lv_if_eq (tgt := 163) hx hb dX12_reads_147 (by decide) (fun c1 => ?_) (fun c1 => ?_)
    · rw [if_pos c1] at hsp
      refine lv_aload_n hx hb dX12_reads_163 rfl (lv_at hl 0 rfl) ?_
      refine lv_dup hx hb dX12_reads_164 rfl ?_
      refine fr_geti C hR ha Fg_RX12_167 rfl dX12_reads_165 ?_
      refine lv_iconst (v := 1) hx hb dX12_reads_168 (by decide) ?_
      refine lv_iadd hx hb dX12_reads_169 ?_
      refine fr_puti C hR ha Fp_RX12_167 rfl dX12_reads_170 (fun H locs hR => ?_)
      obtain ⟨h2, eh2⟩ : ∃ z, z = fh_sI h a 22 ((h.1 a 22) + (1 : Int32)) := ⟨_, rfl⟩
      rw [← eh2] at hR
      have hsp := fr_let eh2 hsp
      exact hb_173 h2 _ _ _ hsp hR (lv_sub hl [0] rfl)
    · rw [if_neg c1] at hsp
      refine lv_aload_n hx hb dX12_reads_150 rfl (lv_at hl 0 rfl) ?_
      refine lv_dup hx hb dX12_reads_151 rfl ?_
      refine fr_geti C hR ha Fg_RX12_170 rfl dX12_reads_152 ?_
      refine lv_iconst (v := 1) hx hb dX12_reads_155 (by decide) ?_
      refine lv_iadd hx hb dX12_reads_156 ?_
      refine fr_puti C hR ha Fp_RX12_170 rfl dX12_reads_157 (fun H locs hR => ?_)
      obtain ⟨h3, eh3⟩ : ∃ z, z = fh_sI h a 23 ((h.1 a 23) + (1 : Int32)) := ⟨_, rfl⟩
      rw [← eh3] at hR
      have hsp := fr_let eh3 hsp
      refine lv_goto (tgt := 173) hx hb dX12_reads_160 (by decide) ?_
      exact hb_173 h3 _ _ _ hsp hR (lv_sub hl [0] rfl)
  have hb_48 : ∀ (h : fh_H) (y1 : Int32) (t0 : Int32) (H : Heap) (locs : List Loc) (ls : Array Slot), z_X12_reads_b48 S a h y1 t0 = some (r, h') → fh_R S g s.heap h H locs → lv_has ls 5 [(0, .ref (g.2.2 a)), (1, .int y1)] → fh_Wk p l e 4 s m [.ref (g.2.2 a)] below meth c S g (some (.int r)) h' H locs (F0 m 48 ls [.int t0]) := by
    intro h y1 t0 H locs ls hsp hR hl
    unfold z_X12_reads_b48 at hsp
    refine lv_istore_n (lv' := [(2, .int t0), (0, .ref (g.2.2 a)), (1, .int y1)]) hx hb dX12_reads_48 rfl hl (by decide) rfl (fun ls hl => ?_)
    refine lv_iload_n hx hb dX12_reads_49 rfl (lv_at hl 0 rfl) ?_
    refine lv_aload_n hx hb dX12_reads_50 rfl (lv_at hl 1 rfl) ?_
    obtain ⟨j1, hv2, hsp⟩ := fr_b1 hsp
    refine fr_getr C hR ha Fg_RX12_19 rfl hv2 dX12_reads_51 ?_
    refine lv_iload_n hx hb dX12_reads_54 rfl (lv_at hl 2 rfl) ?_
    obtain ⟨hk3, hsp⟩ := fr_ck hsp
    obtain ⟨hi4, hsp⟩ := fr_ck hsp
    refine fr_iald C hR hk3 hi4 dX12_reads_55 ?_
    refine lv_icmp_ne (tgt := 95) hx hb dX12_reads_56 (by decide) (fun c5 => ?_) (fun c5 => ?_)
    · rw [if_neg c5] at hsp
      refine lv_aload_n hx hb dX12_reads_95 rfl (lv_at hl 1 rfl) ?_
      refine lv_iconst (v := 0) hx hb dX12_reads_96 (by decide) ?_
      refine fr_putz C hR ha Fp_RX12_141 rfl (Or.inl rfl) dX12_reads_97 (fun H locs hR => ?_)
      obtain ⟨h6, eh6⟩ : ∃ z, z = fh_sI h a 16 (0 : Int32) := ⟨_, rfl⟩
      rw [← eh6] at hR
      have hsp := fr_let eh6 hsp
      refine lv_aload_n hx hb dX12_reads_100 rfl (lv_at hl 1 rfl) ?_
      refine lv_iload_n hx hb dX12_reads_101 rfl (lv_at hl 2 rfl) ?_
      refine lv_iload_n hx hb dX12_reads_102 rfl (lv_at hl 0 rfl) ?_
      obtain ⟨r7, E8, hsp⟩ := fr_b1 hsp
      refine fq_callV (rest := []) (st1 := [.int r7]) C hR (k_X12_termOf C.2.2 ha E8) Y_X12_termOf YV_X12_termOf Lk_RX12_219 ha ⟨_, _, rfl, by decide⟩ rfl hl.1 ⟨Nat.le_of_ble_eq_true rfl, Nat.le_of_ble_eq_true rfl⟩ rfl (Nat.le_of_ble_eq_true rfl) ⟨Nat.zero_le _, Nat.zero_le _⟩ rfl dX12_reads_103 (fun H locs hR => ?_)
      refine lv_i2l hx hb dX12_reads_106 rfl ?_
      refine lv_topl (fun v9 ev9 => ?_)
      have hsp := fr_let ev9 hsp
      refine lv_lstore_n (lv' := [(3, .long v9), (2, .int t0), (0, .ref (g.2.2 a)), (1, .int y1)]) hx hb dX12_reads_107 rfl hl (by decide) rfl (fun ls hl => ?_)
      refine lv_aload_n hx hb dX12_reads_108 rfl (lv_at hl 2 rfl) ?_
      refine fr_geti C hR ha Fg_RX12_155 rfl dX12_reads_109 ?_
      refine lv_if_ne (tgt := 123) hx hb dX12_reads_112 (by decide) (fun c10 => ?_) (fun c10 => ?_)
      · rw [if_neg c10] at hsp
        refine lv_aload_n hx hb dX12_reads_123 rfl (lv_at hl 2 rfl) ?_
        refine fr_geti C hR ha Fg_RX12_164 rfl dX12_reads_124 ?_
        refine lv_if_eq (tgt := 138) hx hb dX12_reads_127 (by decide) (fun c11 => ?_) (fun c11 => ?_)
        · rw [if_pos c11] at hsp
          refine lv_aload_n hx hb dX12_reads_138 rfl (lv_at hl 2 rfl) ?_
          refine lv_lload_n hx hb dX12_reads_139 rfl (lv_at hl 0 rfl) ?_
          obtain ⟨h12, E13, hsp⟩ := fr_b1 hsp
          refine fq_callV (rest := []) (st1 := []) C hR (k_X12_readsOne C.2.2 ha E13) Y_X12_readsOne YV_X12_readsOne Lk_RX12_229 ha ⟨_, _, rfl, by decide⟩ rfl hl.1 ⟨Nat.le_of_ble_eq_true rfl, Nat.le_of_ble_eq_true rfl⟩ rfl (Nat.le_of_ble_eq_true rfl) ⟨Nat.zero_le _, Nat.zero_le _⟩ rfl dX12_reads_140 (fun H locs hR => ?_)
          exact hb_143 h12 _ _ _ hsp hR (lv_sub hl [2] rfl)
        · rw [if_neg c11] at hsp
          refine lv_aload_n hx hb dX12_reads_130 rfl (lv_at hl 2 rfl) ?_
          refine lv_lload_n hx hb dX12_reads_131 rfl (lv_at hl 0 rfl) ?_
          obtain ⟨h14, E15, hsp⟩ := fr_b1 hsp
          refine fq_callV (rest := []) (st1 := []) C hR (k_X12_readsOther C.2.2 ha E15) Y_X12_readsOther YV_X12_readsOther Lk_RX12_226 ha ⟨_, _, rfl, by decide⟩ rfl hl.1 ⟨Nat.le_of_ble_eq_true rfl, Nat.le_of_ble_eq_true rfl⟩ rfl (Nat.le_of_ble_eq_true rfl) ⟨Nat.zero_le _, Nat.zero_le _⟩ rfl dX12_reads_132 (fun H locs hR => ?_)
          refine lv_goto (tgt := 143) hx hb dX12_reads_135 (by decide) ?_
          exact hb_143 h14 _ _ _ hsp hR (lv_sub hl [2] rfl)
      · rw [if_pos c10] at hsp
        refine lv_aload_n hx hb dX12_reads_115 rfl (lv_at hl 2 rfl) ?_
        refine lv_lload_n hx hb dX12_reads_116 rfl (lv_at hl 0 rfl) ?_
        obtain ⟨h16, E17, hsp⟩ := fr_b1 hsp
        refine fq_callV (rest := []) (st1 := []) C hR (k_X12_readsSingle C.2.2 ha E17) Y_X12_readsSingle YV_X12_readsSingle Lk_RX12_222 ha ⟨_, _, rfl, by decide⟩ rfl hl.1 ⟨Nat.le_of_ble_eq_true rfl, Nat.le_of_ble_eq_true rfl⟩ rfl (Nat.le_of_ble_eq_true rfl) ⟨Nat.zero_le _, Nat.zero_le _⟩ rfl dX12_reads_117 (fun H locs hR => ?_)
        refine lv_goto (tgt := 143) hx hb dX12_reads_120 (by decide) ?_
        exact hb_143 h16 _ _ _ hsp hR (lv_sub hl [2] rfl)
    · rw [if_pos c5] at hsp
      refine lv_aload_n hx hb dX12_reads_59 rfl (lv_at hl 1 rfl) ?_
      obtain ⟨j18, hv19, hsp⟩ := fr_b1 hsp
      refine fr_getr C hR ha Fg_RX12_22 rfl hv19 dX12_reads_60 ?_
      refine lv_iload_n hx hb dX12_reads_63 rfl (lv_at hl 2 rfl) ?_
      obtain ⟨hk20, hsp⟩ := fr_ck hsp
      obtain ⟨hi21, hsp⟩ := fr_ck hsp
      refine fr_iald C hR hk20 hi21 dX12_reads_64 ?_
      refine lv_iconst (v := 1) hx hb dX12_reads_65 (by decide) ?_
      refine lv_icmp_eq (tgt := 71) hx hb dX12_reads_66 (by decide) (fun c22 => ?_) (fun c22 => ?_)
      · rw [if_pos c22] at hsp
        refine lv_aload_n hx hb dX12_reads_71 rfl (lv_at hl 1 rfl) ?_
        refine fr_geti C hR ha Fg_RX12_164 rfl dX12_reads_72 ?_
        refine lv_if_eq (tgt := 85) hx hb dX12_reads_75 (by decide) (fun c23 => ?_) (fun c23 => ?_)
        · rw [if_pos c23] at hsp
          refine lv_aload_n hx hb dX12_reads_85 rfl (lv_at hl 1 rfl) ?_
          obtain ⟨h24, E25, hsp⟩ := fr_b1 hsp
          refine fq_callV (rest := []) (st1 := []) C hR (k_X12_endsOne C.2.2 ha E25) Y_X12_endsOne YV_X12_endsOne Lk_RX12_213 ha ⟨_, _, rfl, by decide⟩ rfl hl.1 ⟨Nat.le_of_ble_eq_true rfl, Nat.le_of_ble_eq_true rfl⟩ rfl (Nat.le_of_ble_eq_true rfl) ⟨Nat.zero_le _, Nat.zero_le _⟩ rfl dX12_reads_86 (fun H locs hR => ?_)
          refine lv_aload_n hx hb dX12_reads_89 rfl (lv_at hl 1 rfl) ?_
          obtain ⟨h26, E27, hsp⟩ := fr_b1 hsp
          refine fq_callV (rest := []) (st1 := []) C hR (k_X12_turns C.2.2 ha E27) Y_X12_turns YV_X12_turns Lk_RX12_216 ha ⟨_, _, rfl, by decide⟩ rfl hl.1 ⟨Nat.le_of_ble_eq_true rfl, Nat.le_of_ble_eq_true rfl⟩ rfl (Nat.le_of_ble_eq_true rfl) ⟨Nat.zero_le _, Nat.zero_le _⟩ rfl dX12_reads_90 (fun H locs hR => ?_)
          refine lv_iconst (v := -1) hx hb dX12_reads_93 (by decide) ?_
          obtain ⟨e1, e2⟩ := fr_s2 hsp
          exact fr_iret C hr hlocks hR e1 e2 dX12_reads_94
        · rw [if_neg c23] at hsp
          refine lv_aload_n hx hb dX12_reads_78 rfl (lv_at hl 1 rfl) ?_
          obtain ⟨h28, E29, hsp⟩ := fr_b1 hsp
          refine fq_callV (rest := []) (st1 := []) C hR (k_X12_endsOther C.2.2 ha E29) Y_X12_endsOther YV_X12_endsOther Lk_RX12_210 ha ⟨_, _, rfl, by decide⟩ rfl hl.1 ⟨Nat.le_of_ble_eq_true rfl, Nat.le_of_ble_eq_true rfl⟩ rfl (Nat.le_of_ble_eq_true rfl) ⟨Nat.zero_le _, Nat.zero_le _⟩ rfl dX12_reads_79 (fun H locs hR => ?_)
          refine lv_goto (tgt := 89) hx hb dX12_reads_82 (by decide) ?_
          refine lv_aload_n hx hb dX12_reads_89 rfl (lv_at hl 1 rfl) ?_
          obtain ⟨h30, E31, hsp⟩ := fr_b1 hsp
          refine fq_callV (rest := []) (st1 := []) C hR (k_X12_turns C.2.2 ha E31) Y_X12_turns YV_X12_turns Lk_RX12_216 ha ⟨_, _, rfl, by decide⟩ rfl hl.1 ⟨Nat.le_of_ble_eq_true rfl, Nat.le_of_ble_eq_true rfl⟩ rfl (Nat.le_of_ble_eq_true rfl) ⟨Nat.zero_le _, Nat.zero_le _⟩ rfl dX12_reads_90 (fun H locs hR => ?_)
          refine lv_iconst (v := -1) hx hb dX12_reads_93 (by decide) ?_
          obtain ⟨e1, e2⟩ := fr_s2 hsp
          exact fr_iret C hr hlocks hR e1 e2 dX12_reads_94
      · rw [if_neg c22] at hsp
        refine lv_iconst (v := 3) hx hb dX12_reads_69 (by decide) ?_
        obtain ⟨e1, e2⟩ := fr_s2 hsp
        exact fr_iret C hr hlocks hR e1 e2 dX12_reads_70
  have hb_29 : ∀ (h : fh_H) (t0 : Int32) (H : Heap) (locs : List Loc) (ls : Array Slot), z_X12_reads_b29 S a h t0 = some (r, h') → fh_R S g s.heap h H locs → lv_has ls 5 [(0, .ref (g.2.2 a))] → fh_Wk p l e 4 s m [.ref (g.2.2 a)] below meth c S g (some (.int r)) h' H locs (F0 m 29 ls [.int t0]) := by
    intro h t0 H locs ls hsp hR hl
    unfold z_X12_reads_b29 at hsp
    refine lv_istore_n (lv' := [(1, .int t0), (0, .ref (g.2.2 a))]) hx hb dX12_reads_29 rfl hl (by decide) rfl (fun ls hl => ?_)
    refine lv_aload_n hx hb dX12_reads_30 rfl (lv_at hl 1 rfl) ?_
    refine fr_geti C hR ha Fg_RX12_164 rfl dX12_reads_31 ?_
    refine lv_if_eq (tgt := 44) hx hb dX12_reads_34 (by decide) (fun c1 => ?_) (fun c1 => ?_)
    · rw [if_pos c1] at hsp
      refine lv_aload_n hx hb dX12_reads_44 rfl (lv_at hl 1 rfl) ?_
      refine fr_geti C hR ha Fg_RX12_167 rfl dX12_reads_45 ?_
      exact hb_48 h t0 (h.1 a 22) _ _ _ hsp hR (lv_sub hl [1, 0] rfl)
    · rw [if_neg c1] at hsp
      refine lv_aload_n hx hb dX12_reads_37 rfl (lv_at hl 1 rfl) ?_
      refine fr_geti C hR ha Fg_RX12_170 rfl dX12_reads_38 ?_
      refine lv_goto (tgt := 48) hx hb dX12_reads_41 (by decide) ?_
      exact hb_48 h t0 (h.1 a 23) _ _ _ hsp hR (lv_sub hl [1, 0] rfl)
  refine lv_aload_n hx hb dX12_reads_0 rfl (lv_at hl 0 rfl) ?_
  refine fr_geti C hR ha Fg_RX12_173 rfl dX12_reads_1 ?_
  refine lv_bipush (v := 100) hx hb dX12_reads_4 (by decide) ?_
  refine lv_icmp_ne (tgt := 11) hx hb dX12_reads_6 (by decide) (fun c1 => ?_) (fun c1 => ?_)
  · rw [if_neg c1] at hsp
    refine lv_aload_n hx hb dX12_reads_11 rfl (lv_at hl 0 rfl) ?_
    refine fr_geti C hR ha Fg_RX12_164 rfl dX12_reads_12 ?_
    refine lv_if_eq (tgt := 25) hx hb dX12_reads_15 (by decide) (fun c2 => ?_) (fun c2 => ?_)
    · rw [if_pos c2] at hsp
      refine lv_aload_n hx hb dX12_reads_25 rfl (lv_at hl 0 rfl) ?_
      refine fr_geti C hR ha Fg_RX12_149 rfl dX12_reads_26 ?_
      exact hb_29 h (h.1 a 20) _ _ _ hsp hR (lv_sub hl [0] rfl)
    · rw [if_neg c2] at hsp
      refine lv_aload_n hx hb dX12_reads_18 rfl (lv_at hl 0 rfl) ?_
      refine fr_geti C hR ha Fg_RX12_152 rfl dX12_reads_19 ?_
      refine lv_goto (tgt := 29) hx hb dX12_reads_22 (by decide) ?_
      exact hb_29 h (h.1 a 21) _ _ _ hsp hR (lv_sub hl [0] rfl)
  · rw [if_pos c1] at hsp
    refine lv_iconst (v := 3) hx hb dX12_reads_9 (by decide) ?_
    obtain ⟨e1, e2⟩ := fr_s2 hsp
    exact fr_iret C hr hlocks hR e1 e2 dX12_reads_10

/-! TermRowsModel.of(II)I -/
def z_X12_of (S : fh_S) (h : fh_H) (a : Nat) (x1 : Int32) (x2 : Int32) : Option (Int32 × fh_H) :=
    fh_let (fh_sI h a 3 (0 : Int32)) (fun h1 => fh_b1 (z_X12_isRow x1) (fun r2 => if r2 = 0 then (fh_b2 (z_X12_fail S h1 a (1 : Int32)) (fun r5 h6 => some (r5, h6))) else (fh_b1 (z_X12_isIn (Int32.toInt64 x2) (0 : Int64) (6 : Int64)) (fun r8 => if r8 = 0 then (fh_b2 (z_X12_fail S h1 a (1 : Int32)) (fun r41 h42 => some (r41, h42))) else (if x2 = 0 then (fh_b1 (z_X12_of1 S h1 a x1 (0 : Int32)) (fun r12 => some (r12, h1))) else (if x2 = 1 then (fh_b1 (h1.2.2 a 5) (fun j15 => fh_ck (fh_kq S j15 13) (fh_ck (fh_in x1 (S.2.2 j15)) (some ((h1.1 j15 (Int32.toNatClampNeg x1)), h1))))) else (if x2 = 2 then (fh_b1 (h1.2.2 a 6) (fun j20 => fh_ck (fh_kq S j20 13) (fh_ck (fh_in x1 (S.2.2 j20)) (some ((h1.1 j20 (Int32.toNatClampNeg x1)), h1))))) else (if x2 = 3 then (fh_b1 (h1.2.2 a 7) (fun j25 => fh_ck (fh_kq S j25 13) (fh_ck (fh_in x1 (S.2.2 j25)) (some ((h1.1 j25 (Int32.toNatClampNeg x1)), h1))))) else (if x2 = 4 then (fh_b1 (z_X12_greatestOf S h1 a x1) (fun r30 => some (r30, h1))) else (if x2 = 5 then (fh_b1 (h1.2.2 a 5) (fun j33 => fh_ck (fh_kq S j33 13) (fh_ck (fh_in x1 (S.2.2 j33)) (fh_b1 (z_X12_sumTo S h1 a x1 ((h1.1 j33 (Int32.toNatClampNeg x1)) - (1 : Int32))) (fun r37 => some ((Int64.toInt32 r37), h1)))))) else (fh_b1 (z_X12_madeOf S h1 a x1) (fun r39 => some (r39, h1)))))))))))))
set_option maxHeartbeats 4000000 in
set_option maxRecDepth 100000 in
theorem k_X12_of {l : Launch} {S : fh_S} {g : fh_G} {h h' : fh_H} (hj : fh_inj S g) {a : Nat} {x1 : Int32} {x2 : Int32} {r : Int32} (ha : fh_kq S a 12 = true) (hsp : z_X12_of S h a x1 x2 = some (r, h')) : fh_M l yX12_of cX12_of 3 (some .int) (fh_rm 4) S g [.ref (g.2.2 a), .int x1, .int x2] h (some (.int r)) h' := by
  unfold z_X12_of at hsp
  refine fr_head (own := RX12) (by decide) rfl hj (Nat.le_of_ble_eq_true rfl) ?_
  intro p e s m below meth c ls C hr hlocks hR hl
  have hl : lv_has ls 3 [(0, .ref (g.2.2 a)), (1, .int x1), (2, .int x2)] := hl
  have hx := C.1.1
  have hb := C.1.2.1
  refine lv_aload_n hx hb dX12_of_0 rfl (lv_at hl 0 rfl) ?_
  refine lv_iconst (v := 0) hx hb dX12_of_1 (by decide) ?_
  refine fr_puti C hR ha Fp_RX12_73 rfl dX12_of_2 (fun H locs hR => ?_)
  obtain ⟨h1, eh1⟩ : ∃ z, z = fh_sI h a 3 (0 : Int32) := ⟨_, rfl⟩
  rw [← eh1] at hR
  have hsp := fr_let eh1 hsp
  refine lv_iload_n hx hb dX12_of_5 rfl (lv_at hl 1 rfl) ?_
  obtain ⟨r2, E3, hsp⟩ := fr_b1 hsp
  refine fq_callS (rest := []) (st1 := [.int r2]) C hR (k_X12_isRow C.2.2 E3) Y_X12_isRow YS_X12_isRow Lk_RX12_264 rfl hl.1 ⟨Nat.le_of_ble_eq_true rfl, Nat.le_of_ble_eq_true rfl⟩ rfl (Nat.le_of_ble_eq_true rfl) ⟨Nat.zero_le _, Nat.zero_le _⟩ rfl dX12_of_6 (fun H locs hR => ?_)
  refine lv_if_eq (tgt := 24) hx hb dX12_of_9 (by decide) (fun c4 => ?_) (fun c4 => ?_)
  · rw [if_pos c4] at hsp
    refine lv_aload_n hx hb dX12_of_24 rfl (lv_at hl 0 rfl) ?_
    refine lv_iconst (v := 1) hx hb dX12_of_25 (by decide) ?_
    obtain ⟨r5, h6, E7, hsp⟩ := fr_b2 hsp
    refine fq_callV (rest := []) (st1 := [.int r5]) C hR (k_X12_fail C.2.2 ha E7) Y_X12_fail YV_X12_fail Lk_RX12_299 ha ⟨_, _, rfl, by decide⟩ rfl hl.1 ⟨Nat.le_of_ble_eq_true rfl, Nat.le_of_ble_eq_true rfl⟩ rfl (Nat.le_of_ble_eq_true rfl) ⟨Nat.zero_le _, Nat.zero_le _⟩ rfl dX12_of_26 (fun H locs hR => ?_)
    obtain ⟨e1, e2⟩ := fr_s2 hsp
    exact fr_iret C hr hlocks hR e1 e2 dX12_of_29
  · rw [if_neg c4] at hsp
    refine lv_iload_n hx hb dX12_of_12 rfl (lv_at hl 2 rfl) ?_
    refine lv_i2l hx hb dX12_of_13 rfl ?_
    refine lv_lconst (v := 0) hx hb dX12_of_14 (by decide) ?_
    refine lv_ldc2 hx hb C.1.2.2.2.1 (C.1.2.2.2.2 _ Kc_RX12_309) dX12_of_15 ?_
    obtain ⟨r8, E9, hsp⟩ := fr_b1 hsp
    refine fq_callS (rest := []) (st1 := [.int r8]) C hR (k_X12_isIn C.2.2 E9) Y_X12_isIn YS_X12_isIn Lk_RX12_78 rfl hl.1 ⟨Nat.le_of_ble_eq_true rfl, Nat.le_of_ble_eq_true rfl⟩ rfl (Nat.le_of_ble_eq_true rfl) ⟨Nat.zero_le _, Nat.zero_le _⟩ rfl dX12_of_18 (fun H locs hR => ?_)
    refine lv_if_ne (tgt := 30) hx hb dX12_of_21 (by decide) (fun c10 => ?_) (fun c10 => ?_)
    · rw [if_neg c10] at hsp
      refine lv_iload_n hx hb dX12_of_30 rfl (lv_at hl 2 rfl) ?_
      by_cases c11 : x2 = 0
      · rw [if_pos c11] at hsp
        refine lv_tableIn (off := 37) (tgt := 68) hx hb dX12_of_31 (by rw [c11]; decide) (by rw [c11]; decide) (by rw [c11]; decide) (by decide) ?_
        refine lv_aload_n hx hb dX12_of_68 rfl (lv_at hl 0 rfl) ?_
        refine lv_iload_n hx hb dX12_of_69 rfl (lv_at hl 1 rfl) ?_
        refine lv_iconst (v := 0) hx hb dX12_of_70 (by decide) ?_
        obtain ⟨r12, E13, hsp⟩ := fr_b1 hsp
        refine fq_callV (rest := []) (st1 := [.int r12]) C hR (k_X12_of1 C.2.2 ha E13) Y_X12_of1 YV_X12_of1 Lk_RX12_86 ha ⟨_, _, rfl, by decide⟩ rfl hl.1 ⟨Nat.le_of_ble_eq_true rfl, Nat.le_of_ble_eq_true rfl⟩ rfl (Nat.le_of_ble_eq_true rfl) ⟨Nat.zero_le _, Nat.zero_le _⟩ rfl dX12_of_71 (fun H locs hR => ?_)
        obtain ⟨e1, e2⟩ := fr_s2 hsp
        exact fr_iret C hr hlocks hR e1 e2 dX12_of_74
      rw [if_neg c11] at hsp
      by_cases c14 : x2 = 1
      · rw [if_pos c14] at hsp
        refine lv_tableIn (off := 44) (tgt := 75) hx hb dX12_of_31 (by rw [c14]; decide) (by rw [c14]; decide) (by rw [c14]; decide) (by decide) ?_
        refine lv_aload_n hx hb dX12_of_75 rfl (lv_at hl 0 rfl) ?_
        obtain ⟨j15, hv16, hsp⟩ := fr_b1 hsp
        refine fr_getr C hR ha Fg_RX12_19 rfl hv16 dX12_of_76 ?_
        refine lv_iload_n hx hb dX12_of_79 rfl (lv_at hl 1 rfl) ?_
        obtain ⟨hk17, hsp⟩ := fr_ck hsp
        obtain ⟨hi18, hsp⟩ := fr_ck hsp
        refine fr_iald C hR hk17 hi18 dX12_of_80 ?_
        obtain ⟨e1, e2⟩ := fr_s2 hsp
        exact fr_iret C hr hlocks hR e1 e2 dX12_of_81
      rw [if_neg c14] at hsp
      by_cases c19 : x2 = 2
      · rw [if_pos c19] at hsp
        refine lv_tableIn (off := 51) (tgt := 82) hx hb dX12_of_31 (by rw [c19]; decide) (by rw [c19]; decide) (by rw [c19]; decide) (by decide) ?_
        refine lv_aload_n hx hb dX12_of_82 rfl (lv_at hl 0 rfl) ?_
        obtain ⟨j20, hv21, hsp⟩ := fr_b1 hsp
        refine fr_getr C hR ha Fg_RX12_22 rfl hv21 dX12_of_83 ?_
        refine lv_iload_n hx hb dX12_of_86 rfl (lv_at hl 1 rfl) ?_
        obtain ⟨hk22, hsp⟩ := fr_ck hsp
        obtain ⟨hi23, hsp⟩ := fr_ck hsp
        refine fr_iald C hR hk22 hi23 dX12_of_87 ?_
        obtain ⟨e1, e2⟩ := fr_s2 hsp
        exact fr_iret C hr hlocks hR e1 e2 dX12_of_88
      rw [if_neg c19] at hsp
      by_cases c24 : x2 = 3
      · rw [if_pos c24] at hsp
        refine lv_tableIn (off := 58) (tgt := 89) hx hb dX12_of_31 (by rw [c24]; decide) (by rw [c24]; decide) (by rw [c24]; decide) (by decide) ?_
        refine lv_aload_n hx hb dX12_of_89 rfl (lv_at hl 0 rfl) ?_
        obtain ⟨j25, hv26, hsp⟩ := fr_b1 hsp
        refine fr_getr C hR ha Fg_RX12_25 rfl hv26 dX12_of_90 ?_
        refine lv_iload_n hx hb dX12_of_93 rfl (lv_at hl 1 rfl) ?_
        obtain ⟨hk27, hsp⟩ := fr_ck hsp
        obtain ⟨hi28, hsp⟩ := fr_ck hsp
        refine fr_iald C hR hk27 hi28 dX12_of_94 ?_
        obtain ⟨e1, e2⟩ := fr_s2 hsp
        exact fr_iret C hr hlocks hR e1 e2 dX12_of_95
      rw [if_neg c24] at hsp
      by_cases c29 : x2 = 4
      · rw [if_pos c29] at hsp
        refine lv_tableIn (off := 65) (tgt := 96) hx hb dX12_of_31 (by rw [c29]; decide) (by rw [c29]; decide) (by rw [c29]; decide) (by decide) ?_
        refine lv_aload_n hx hb dX12_of_96 rfl (lv_at hl 0 rfl) ?_
        refine lv_iload_n hx hb dX12_of_97 rfl (lv_at hl 1 rfl) ?_
        obtain ⟨r30, E31, hsp⟩ := fr_b1 hsp
        refine fq_callV (rest := []) (st1 := [.int r30]) C hR (k_X12_greatestOf C.2.2 ha E31) Y_X12_greatestOf YV_X12_greatestOf Lk_RX12_311 ha ⟨_, _, rfl, by decide⟩ rfl hl.1 ⟨Nat.le_of_ble_eq_true rfl, Nat.le_of_ble_eq_true rfl⟩ rfl (Nat.le_of_ble_eq_true rfl) ⟨Nat.zero_le _, Nat.zero_le _⟩ rfl dX12_of_98 (fun H locs hR => ?_)
        obtain ⟨e1, e2⟩ := fr_s2 hsp
        exact fr_iret C hr hlocks hR e1 e2 dX12_of_101
      rw [if_neg c29] at hsp
      by_cases c32 : x2 = 5
      · rw [if_pos c32] at hsp
        refine lv_tableIn (off := 71) (tgt := 102) hx hb dX12_of_31 (by rw [c32]; decide) (by rw [c32]; decide) (by rw [c32]; decide) (by decide) ?_
        refine lv_aload_n hx hb dX12_of_102 rfl (lv_at hl 0 rfl) ?_
        refine lv_iload_n hx hb dX12_of_103 rfl (lv_at hl 1 rfl) ?_
        refine lv_aload_n hx hb dX12_of_104 rfl (lv_at hl 0 rfl) ?_
        obtain ⟨j33, hv34, hsp⟩ := fr_b1 hsp
        refine fr_getr C hR ha Fg_RX12_19 rfl hv34 dX12_of_105 ?_
        refine lv_iload_n hx hb dX12_of_108 rfl (lv_at hl 1 rfl) ?_
        obtain ⟨hk35, hsp⟩ := fr_ck hsp
        obtain ⟨hi36, hsp⟩ := fr_ck hsp
        refine fr_iald C hR hk35 hi36 dX12_of_109 ?_
        refine lv_iconst (v := 1) hx hb dX12_of_110 (by decide) ?_
        refine lv_isub hx hb dX12_of_111 ?_
        obtain ⟨r37, E38, hsp⟩ := fr_b1 hsp
        refine fq_callV (rest := []) (st1 := [.long r37]) C hR (k_X12_sumTo C.2.2 ha E38) Y_X12_sumTo YV_X12_sumTo Lk_RX12_314 ha ⟨_, _, rfl, by decide⟩ rfl hl.1 ⟨Nat.le_of_ble_eq_true rfl, Nat.le_of_ble_eq_true rfl⟩ rfl (Nat.le_of_ble_eq_true rfl) ⟨Nat.zero_le _, Nat.zero_le _⟩ rfl dX12_of_112 (fun H locs hR => ?_)
        refine lv_l2i hx hb dX12_of_115 rfl ?_
        obtain ⟨e1, e2⟩ := fr_s2 hsp
        exact fr_iret C hr hlocks hR e1 e2 dX12_of_116
      rw [if_neg c32] at hsp
      refine lv_tableOut (tgt := 117) hx hb dX12_of_31 (fr_tout 0 6 (fun j hj => by match j, hj with | 0, _ => exact c11 | 1, _ => exact c14 | 2, _ => exact c19 | 3, _ => exact c24 | 4, _ => exact c29 | 5, _ => exact c32 | (k + 6), hk => omega) (by decide) (by decide)) (by decide) ?_
      refine lv_aload_n hx hb dX12_of_117 rfl (lv_at hl 0 rfl) ?_
      refine lv_iload_n hx hb dX12_of_118 rfl (lv_at hl 1 rfl) ?_
      obtain ⟨r39, E40, hsp⟩ := fr_b1 hsp
      refine fq_callV (rest := []) (st1 := [.int r39]) C hR (k_X12_madeOf C.2.2 ha E40) Y_X12_madeOf YV_X12_madeOf Lk_RX12_317 ha ⟨_, _, rfl, by decide⟩ rfl hl.1 ⟨Nat.le_of_ble_eq_true rfl, Nat.le_of_ble_eq_true rfl⟩ rfl (Nat.le_of_ble_eq_true rfl) ⟨Nat.zero_le _, Nat.zero_le _⟩ rfl dX12_of_119 (fun H locs hR => ?_)
      obtain ⟨e1, e2⟩ := fr_s2 hsp
      exact fr_iret C hr hlocks hR e1 e2 dX12_of_122
    · rw [if_pos c10] at hsp
      refine lv_aload_n hx hb dX12_of_24 rfl (lv_at hl 0 rfl) ?_
      refine lv_iconst (v := 1) hx hb dX12_of_25 (by decide) ?_
      obtain ⟨r41, h42, E43, hsp⟩ := fr_b2 hsp
      refine fq_callV (rest := []) (st1 := [.int r41]) C hR (k_X12_fail C.2.2 ha E43) Y_X12_fail YV_X12_fail Lk_RX12_299 ha ⟨_, _, rfl, by decide⟩ rfl hl.1 ⟨Nat.le_of_ble_eq_true rfl, Nat.le_of_ble_eq_true rfl⟩ rfl (Nat.le_of_ble_eq_true rfl) ⟨Nat.zero_le _, Nat.zero_le _⟩ rfl dX12_of_26 (fun H locs hR => ?_)
      obtain ⟨e1, e2⟩ := fr_s2 hsp
      exact fr_iret C hr hlocks hR e1 e2 dX12_of_29

/-! TermRowsModel.convergent(IIZ)J -/
def z_X12_convergent (S : fh_S) (h : fh_H) (a : Nat) (x1 : Int32) (x2 : Int32) (x3 : Int32) : Option (Int64 × fh_H) :=
    fh_let (fh_sI h a 3 (0 : Int32)) (fun h1 => fh_b1 (z_X12_isRow x1) (fun r2 => if r2 = 0 then (fh_b2 (z_X12_fail S h1 a (1 : Int32)) (fun r5 h6 => some ((Int32.toInt64 r5), h6))) else (fh_b1 (z_X12_isKnown S h1 a x1 x2) (fun r8 => if r8 = 0 then (fh_b2 (z_X12_fail S h1 a (1 : Int32)) (fun r23 h24 => some ((Int32.toInt64 r23), h24))) else (fh_b1 (z_X12_layConvergents S h1 a x1) (fun h11 => if x2 < (h11.1 a 28) then (if x3 = 0 then (fh_b1 (h11.2.2 a 26) (fun j15 => fh_ck (fh_kq S j15 14) (fh_ck (fh_in x2 (S.2.2 j15)) (some ((h11.2.1 j15 (Int32.toNatClampNeg x2)), h11))))) else (fh_b1 (h11.2.2 a 27) (fun j19 => fh_ck (fh_kq S j19 14) (fh_ck (fh_in x2 (S.2.2 j19)) (some ((h11.2.1 j19 (Int32.toNatClampNeg x2)), h11)))))) else (some ((-1 : Int64), h11))))))))
set_option maxHeartbeats 4000000 in
set_option maxRecDepth 100000 in
theorem k_X12_convergent {l : Launch} {S : fh_S} {g : fh_G} {h h' : fh_H} (hj : fh_inj S g) {a : Nat} {x1 : Int32} {x2 : Int32} {x3 : Int32} {r : Int64} (ha : fh_kq S a 12 = true) (hsp : z_X12_convergent S h a x1 x2 x3 = some (r, h')) : fh_M l yX12_convergent cX12_convergent 4 (some .long) (fh_rm 4) S g [.ref (g.2.2 a), .int x1, .int x2, .int x3] h (some (.long r)) h' := by
  unfold z_X12_convergent at hsp
  refine fr_head (own := RX12) (by decide) rfl hj (Nat.le_of_ble_eq_true rfl) ?_
  intro p e s m below meth c ls C hr hlocks hR hl
  have hl : lv_has ls 4 [(0, .ref (g.2.2 a)), (1, .int x1), (2, .int x2), (3, .int x3)] := hl
  have hx := C.1.1
  have hb := C.1.2.1
  refine lv_aload_n hx hb dX12_convergent_0 rfl (lv_at hl 0 rfl) ?_
  refine lv_iconst (v := 0) hx hb dX12_convergent_1 (by decide) ?_
  refine fr_puti C hR ha Fp_RX12_73 rfl dX12_convergent_2 (fun H locs hR => ?_)
  obtain ⟨h1, eh1⟩ : ∃ z, z = fh_sI h a 3 (0 : Int32) := ⟨_, rfl⟩
  rw [← eh1] at hR
  have hsp := fr_let eh1 hsp
  refine lv_iload_n hx hb dX12_convergent_5 rfl (lv_at hl 1 rfl) ?_
  obtain ⟨r2, E3, hsp⟩ := fr_b1 hsp
  refine fq_callS (rest := []) (st1 := [.int r2]) C hR (k_X12_isRow C.2.2 E3) Y_X12_isRow YS_X12_isRow Lk_RX12_264 rfl hl.1 ⟨Nat.le_of_ble_eq_true rfl, Nat.le_of_ble_eq_true rfl⟩ rfl (Nat.le_of_ble_eq_true rfl) ⟨Nat.zero_le _, Nat.zero_le _⟩ rfl dX12_convergent_6 (fun H locs hR => ?_)
  refine lv_if_eq (tgt := 21) hx hb dX12_convergent_9 (by decide) (fun c4 => ?_) (fun c4 => ?_)
  · rw [if_pos c4] at hsp
    refine lv_aload_n hx hb dX12_convergent_21 rfl (lv_at hl 0 rfl) ?_
    refine lv_iconst (v := 1) hx hb dX12_convergent_22 (by decide) ?_
    obtain ⟨r5, h6, E7, hsp⟩ := fr_b2 hsp
    refine fq_callV (rest := []) (st1 := [.int r5]) C hR (k_X12_fail C.2.2 ha E7) Y_X12_fail YV_X12_fail Lk_RX12_299 ha ⟨_, _, rfl, by decide⟩ rfl hl.1 ⟨Nat.le_of_ble_eq_true rfl, Nat.le_of_ble_eq_true rfl⟩ rfl (Nat.le_of_ble_eq_true rfl) ⟨Nat.zero_le _, Nat.zero_le _⟩ rfl dX12_convergent_23 (fun H locs hR => ?_)
    refine lv_i2l hx hb dX12_convergent_26 rfl ?_
    obtain ⟨e1, e2⟩ := fr_s2 hsp
    exact fr_lret C hr hlocks hR e1 e2 dX12_convergent_27
  · rw [if_neg c4] at hsp
    refine lv_aload_n hx hb dX12_convergent_12 rfl (lv_at hl 0 rfl) ?_
    refine lv_iload_n hx hb dX12_convergent_13 rfl (lv_at hl 1 rfl) ?_
    refine lv_iload_n hx hb dX12_convergent_14 rfl (lv_at hl 2 rfl) ?_
    obtain ⟨r8, E9, hsp⟩ := fr_b1 hsp
    refine fq_callV (rest := []) (st1 := [.int r8]) C hR (k_X12_isKnown C.2.2 ha E9) Y_X12_isKnown YV_X12_isKnown Lk_RX12_320 ha ⟨_, _, rfl, by decide⟩ rfl hl.1 ⟨Nat.le_of_ble_eq_true rfl, Nat.le_of_ble_eq_true rfl⟩ rfl (Nat.le_of_ble_eq_true rfl) ⟨Nat.zero_le _, Nat.zero_le _⟩ rfl dX12_convergent_15 (fun H locs hR => ?_)
    refine lv_if_ne (tgt := 28) hx hb dX12_convergent_18 (by decide) (fun c10 => ?_) (fun c10 => ?_)
    · rw [if_neg c10] at hsp
      refine lv_aload_n hx hb dX12_convergent_28 rfl (lv_at hl 0 rfl) ?_
      refine lv_iload_n hx hb dX12_convergent_29 rfl (lv_at hl 1 rfl) ?_
      obtain ⟨h11, E12, hsp⟩ := fr_b1 hsp
      refine fq_callV (rest := []) (st1 := []) C hR (k_X12_layConvergents C.2.2 ha E12) Y_X12_layConvergents YV_X12_layConvergents Lk_RX12_326 ha ⟨_, _, rfl, by decide⟩ rfl hl.1 ⟨Nat.le_of_ble_eq_true rfl, Nat.le_of_ble_eq_true rfl⟩ rfl (Nat.le_of_ble_eq_true rfl) ⟨Nat.zero_le _, Nat.zero_le _⟩ rfl dX12_convergent_30 (fun H locs hR => ?_)
      refine lv_iload_n hx hb dX12_convergent_33 rfl (lv_at hl 2 rfl) ?_
      refine lv_aload_n hx hb dX12_convergent_34 rfl (lv_at hl 0 rfl) ?_
      refine fr_geti C hR ha Fg_RX12_323 rfl dX12_convergent_35 ?_
      refine lv_icmp_lt (tgt := 45) hx hb dX12_convergent_38 (by decide) (fun c13 => ?_) (fun c13 => ?_)
      · rw [if_pos c13] at hsp
        refine lv_iload_n hx hb dX12_convergent_45 rfl (lv_at hl 3 rfl) ?_
        refine lv_if_eq (tgt := 58) hx hb dX12_convergent_46 (by decide) (fun c14 => ?_) (fun c14 => ?_)
        · rw [if_pos c14] at hsp
          refine lv_aload_n hx hb dX12_convergent_58 rfl (lv_at hl 0 rfl) ?_
          obtain ⟨j15, hv16, hsp⟩ := fr_b1 hsp
          refine fr_getr C hR ha Fg_RX12_47 rfl hv16 dX12_convergent_59 ?_
          refine lv_iload_n hx hb dX12_convergent_62 rfl (lv_at hl 2 rfl) ?_
          obtain ⟨hk17, hsp⟩ := fr_ck hsp
          obtain ⟨hi18, hsp⟩ := fr_ck hsp
          refine fr_lald C hR hk17 hi18 dX12_convergent_63 ?_
          obtain ⟨e1, e2⟩ := fr_s2 hsp
          exact fr_lret C hr hlocks hR e1 e2 dX12_convergent_64
        · rw [if_neg c14] at hsp
          refine lv_aload_n hx hb dX12_convergent_49 rfl (lv_at hl 0 rfl) ?_
          obtain ⟨j19, hv20, hsp⟩ := fr_b1 hsp
          refine fr_getr C hR ha Fg_RX12_50 rfl hv20 dX12_convergent_50 ?_
          refine lv_iload_n hx hb dX12_convergent_53 rfl (lv_at hl 2 rfl) ?_
          obtain ⟨hk21, hsp⟩ := fr_ck hsp
          obtain ⟨hi22, hsp⟩ := fr_ck hsp
          refine fr_lald C hR hk21 hi22 dX12_convergent_54 ?_
          refine lv_goto (tgt := 64) hx hb dX12_convergent_55 (by decide) ?_
          obtain ⟨e1, e2⟩ := fr_s2 hsp
          exact fr_lret C hr hlocks hR e1 e2 dX12_convergent_64
      · rw [if_neg c13] at hsp
        refine lv_ldc2 hx hb C.1.2.2.2.1 (C.1.2.2.2.2 _ Kc_RX12_329) dX12_convergent_41 ?_
        obtain ⟨e1, e2⟩ := fr_s2 hsp
        exact fr_lret C hr hlocks hR e1 e2 dX12_convergent_44
    · rw [if_pos c10] at hsp
      refine lv_aload_n hx hb dX12_convergent_21 rfl (lv_at hl 0 rfl) ?_
      refine lv_iconst (v := 1) hx hb dX12_convergent_22 (by decide) ?_
      obtain ⟨r23, h24, E25, hsp⟩ := fr_b2 hsp
      refine fq_callV (rest := []) (st1 := [.int r23]) C hR (k_X12_fail C.2.2 ha E25) Y_X12_fail YV_X12_fail Lk_RX12_299 ha ⟨_, _, rfl, by decide⟩ rfl hl.1 ⟨Nat.le_of_ble_eq_true rfl, Nat.le_of_ble_eq_true rfl⟩ rfl (Nat.le_of_ble_eq_true rfl) ⟨Nat.zero_le _, Nat.zero_le _⟩ rfl dX12_convergent_23 (fun H locs hR => ?_)
      refine lv_i2l hx hb dX12_convergent_26 rfl ?_
      obtain ⟨e1, e2⟩ := fr_s2 hsp
      exact fr_lret C hr hlocks hR e1 e2 dX12_convergent_27
