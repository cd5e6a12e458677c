/-! TermRowsModel.nearest(II)I -/
def z_X12_nearest_b53 (S : fh_S) (a : Nat) : Nat → fh_H → Int32 → Int32 → Int32 → Option (Int32 × fh_H)
  | 0, _, _, _, _ => none
  | n + 1, h, y2, y3, y4 =>
    if (h.1 a 28) ≤ y4 then (some (y3, h)) else (fh_b1 (h.2.2 a 27) (fun j2 => fh_ck (fh_kq S j2 14) (fh_ck (fh_in y4 (S.2.2 j2)) (if (Int32.toInt64 y2) < (h.2.1 j2 (Int32.toNatClampNeg y4)) then (fh_let (y4 + 1) (fun v7 => z_X12_nearest_b53 S a n h y2 y3 v7)) else (fh_let (y4 + 1) (fun v8 => z_X12_nearest_b53 S a n h y2 y4 v8))))))
def z_X12_nearest_b31 (S : fh_S) (a : Nat) (h : fh_H) (y1 : Int32) (y2 : Int32) (t0 : Int32) (t1 : Nat) : Option (Int32 × fh_H) :=
    fh_ck (fh_kq S t1 12) (fh_let (fh_sI h t1 3 t0) (fun h2 => if (h2.1 a 3) ≤ 0 then (fh_b1 (z_X12_layConvergents S h2 a y1) (fun h4 => z_X12_nearest_b53 S a 20000 h4 y2 (0 : Int32) (0 : Int32))) else (some ((0 : Int32), h2))))
def z_X12_nearest (S : fh_S) (h : fh_H) (a : Nat) (x1 : Int32) (x2 : Int32) : Option (Int32 × fh_H) :=
    fh_b1 (z_X12_isRow x1) (fun r1 => if r1 = 0 then (z_X12_nearest_b31 S a h x1 x2 (1 : Int32) a) else (fh_b1 (h.2.2 a 5) (fun j4 => fh_ck (fh_kq S j4 13) (fh_ck (fh_in x1 (S.2.2 j4)) (if (h.1 j4 (Int32.toNatClampNeg x1)) = 0 then (z_X12_nearest_b31 S a h x1 x2 (1 : Int32) a) else (if (1 : Int32) ≤ x2 then (z_X12_nearest_b31 S a h x1 x2 (0 : Int32) a) else (z_X12_nearest_b31 S a h x1 x2 (2 : Int32) a)))))))
set_option maxHeartbeats 4000000 in
set_option maxRecDepth 100000 in
theorem k_X12_nearest {l : Launch} {S : fh_S} {g : fh_G} {h h' : fh_H} (hj : fh_inj S g) {a : Nat} {x1 : Int32} {x2 : Int32} {r : Int32} (ha : fh_kq S a 12 = true) (hsp : z_X12_nearest S h a x1 x2 = some (r, h')) : fh_M l yX12_nearest cX12_nearest 5 (some .int) (fh_rm 4) S g [.ref (g.2.2 a), .int x1, .int x2] h (some (.int r)) h' := by
  unfold z_X12_nearest at hsp
  refine fr_head (own := RX12) (by decide) rfl hj (Nat.le_of_ble_eq_true rfl) ?_
  intro p e s m below meth c ls C hr hlocks hR hl
  have hl : lv_has ls 5 [(0, .ref (g.2.2 a)), (1, .int x1), (2, .int x2)] := hl
  have hx := C.1.1
  have hb := C.1.2.1
  have hb_53 : ∀ (n : Nat) (h : fh_H) (y2 : Int32) (y3 : Int32) (y4 : Int32) (H : Heap) (locs : List Loc) (ls : Array Slot), z_X12_nearest_b53 S a n h y2 y3 y4 = some (r, h') → fh_R S g s.heap h H locs → lv_has ls 5 [(0, .ref (g.2.2 a)), (2, .int y2), (3, .int y3), (4, .int y4)] → fh_Wk p l e 4 s m [.ref (g.2.2 a), .int x1, .int x2] below meth c S g (some (.int r)) h' H locs (F0 m 53 ls []) := by
    intro n
    induction n with
    | zero => intro h y2 y3 y4 H locs ls hsp; cases hsp
    | succ n ih =>
      intro h y2 y3 y4 H locs ls hsp hR hl
      rw [z_X12_nearest_b53] at hsp
      refine lv_iload hx hb dX12_nearest_53 (lv_at hl 3 rfl) ?_
      refine lv_aload_n hx hb dX12_nearest_55 rfl (lv_at hl 0 rfl) ?_
      refine fr_geti C hR ha Fg_RX12_323 rfl dX12_nearest_56 ?_
      refine lv_icmp_ge (tgt := 84) hx hb dX12_nearest_59 (by decide) (fun c1 => ?_) (fun c1 => ?_)
      · rw [if_pos c1] at hsp
        refine lv_iload_n hx hb dX12_nearest_84 rfl (lv_at hl 2 rfl) ?_
        obtain ⟨e1, e2⟩ := fr_s2 hsp
        exact fr_iret C hr hlocks hR e1 e2 dX12_nearest_85
      · rw [if_neg c1] at hsp
        refine lv_aload_n hx hb dX12_nearest_62 rfl (lv_at hl 0 rfl) ?_
        obtain ⟨j2, hv3, hsp⟩ := fr_b1 hsp
        refine fr_getr C hR ha Fg_RX12_50 rfl hv3 dX12_nearest_63 ?_
        refine lv_iload hx hb dX12_nearest_66 (lv_at hl 3 rfl) ?_
        obtain ⟨hk4, hsp⟩ := fr_ck hsp
        obtain ⟨hi5, hsp⟩ := fr_ck hsp
        refine fr_lald C hR hk4 hi5 dX12_nearest_68 ?_
        refine lv_iload_n hx hb dX12_nearest_69 rfl (lv_at hl 1 rfl) ?_
        refine lv_i2l hx hb dX12_nearest_70 rfl ?_
        refine fr_lc_gt (tgt := 78) hx hb dX12_nearest_71 dX12_nearest_72 (by decide) (fun c6 => ?_) (fun c6 => ?_)
        · rw [if_pos c6] at hsp
          obtain ⟨v7, ev7⟩ : ∃ z : Int32, z = y4 + 1 := ⟨_, rfl⟩
          have hsp := fr_let ev7 hsp
          refine lv_iinc (v := v7) (lv' := [(4, .int v7), (0, .ref (g.2.2 a)), (2, .int y2), (3, .int y3)]) hx hb dX12_nearest_78 hl (k := 3) rfl (by rw [ev7]; rfl) (by decide) rfl (fun ls hl => ?_)
          refine lv_goto (tgt := 53) hx hb dX12_nearest_81 (by decide) ?_
          exact ih h y2 y3 v7 _ _ _ hsp hR (lv_sub hl [1, 2, 3, 0] rfl)
        · rw [if_neg c6] at hsp
          refine lv_iload hx hb dX12_nearest_75 (lv_at hl 3 rfl) ?_
          refine lv_istore_n (lv' := [(3, .int y4), (0, .ref (g.2.2 a)), (2, .int y2), (4, .int y4)]) hx hb dX12_nearest_77 rfl hl (by decide) rfl (fun ls hl => ?_)
          obtain ⟨v8, ev8⟩ : ∃ z : Int32, z = y4 + 1 := ⟨_, rfl⟩
          have hsp := fr_let ev8 hsp
          refine lv_iinc (v := v8) (lv' := [(4, .int v8), (3, .int y4), (0, .ref (g.2.2 a)), (2, .int y2)]) hx hb dX12_nearest_78 hl (k := 3) rfl (by rw [ev8]; rfl) (by decide) rfl (fun ls hl => ?_)
          refine lv_goto (tgt := 53) hx hb dX12_nearest_81 (by decide) ?_
          exact ih h y2 y4 v8 _ _ _ hsp hR (lv_sub hl [2, 3, 1, 0] rfl)
  have hb_31 : ∀ (h : fh_H) (y1 : Int32) (y2 : Int32) (t0 : Int32) (t1 : Nat) (H : Heap) (locs : List Loc) (ls : Array Slot), z_X12_nearest_b31 S a h y1 y2 t0 t1 = some (r, h') → fh_R S g s.heap h H locs → lv_has ls 5 [(0, .ref (g.2.2 a)), (1, .int y1), (2, .int y2)] → fh_Wk p l e 4 s m [.ref (g.2.2 a), .int x1, .int x2] below meth c S g (some (.int r)) h' H locs (F0 m 31 ls [.int t0, .ref (g.2.2 t1)]) := by
    intro h y1 y2 t0 t1 H locs ls hsp hR hl
    unfold z_X12_nearest_b31 at hsp
    obtain ⟨hk1, hsp⟩ := fr_ck hsp
    refine fr_puti C hR hk1 Fp_RX12_73 rfl dX12_nearest_31 (fun H locs hR => ?_)
    obtain ⟨h2, eh2⟩ : ∃ z, z = fh_sI h t1 3 t0 := ⟨_, rfl⟩
    rw [← eh2] at hR
    have hsp := fr_let eh2 hsp
    refine lv_aload_n hx hb dX12_nearest_34 rfl (lv_at hl 0 rfl) ?_
    refine fr_geti C hR ha Fg_RX12_73 rfl dX12_nearest_35 ?_
    refine lv_if_le (tgt := 43) hx hb dX12_nearest_38 (by decide) (fun c3 => ?_) (fun c3 => ?_)
    · rw [if_pos c3] at hsp
      refine lv_aload_n hx hb dX12_nearest_43 rfl (lv_at hl 0 rfl) ?_
      refine lv_iload_n hx hb dX12_nearest_44 rfl (lv_at hl 1 rfl) ?_
      obtain ⟨h4, E5, hsp⟩ := fr_b1 hsp
      refine fq_callV (rest := []) (st1 := []) C hR (k_X12_layConvergents C.2.2 ha E5) Y_X12_layConvergents YV_X12_layConvergents Lk_RX12_326 ha ⟨_, _, rfl, by decide⟩ rfl hl.1 ⟨Nat.le_of_ble_eq_true rfl, Nat.le_of_ble_eq_true rfl⟩ rfl (Nat.le_of_ble_eq_true rfl) ⟨Nat.zero_le _, Nat.zero_le _⟩ rfl dX12_nearest_45 (fun H locs hR => ?_)
      refine lv_iconst (v := 0) hx hb dX12_nearest_48 (by decide) ?_
      refine lv_istore_n (lv' := [(3, .int (0 : Int32)), (0, .ref (g.2.2 a)), (1, .int y1), (2, .int y2)]) hx hb dX12_nearest_49 rfl hl (by decide) rfl (fun ls hl => ?_)
      refine lv_iconst (v := 0) hx hb dX12_nearest_50 (by decide) ?_
      refine lv_istore (lv' := [(4, .int (0 : Int32)), (3, .int (0 : Int32)), (0, .ref (g.2.2 a)), (1, .int y1), (2, .int y2)]) hx hb dX12_nearest_51 hl (by decide) rfl (fun ls hl => ?_)
      exact hb_53 20000 h4 y2 (0 : Int32) (0 : Int32) _ _ _ hsp hR (lv_sub hl [2, 4, 1, 0] rfl)
    · rw [if_neg c3] at hsp
      refine lv_iconst (v := 0) hx hb dX12_nearest_41 (by decide) ?_
      obtain ⟨e1, e2⟩ := fr_s2 hsp
      exact fr_iret C hr hlocks hR e1 e2 dX12_nearest_42
  refine lv_aload_n hx hb dX12_nearest_0 rfl (lv_at hl 0 rfl) ?_
  refine lv_iload_n hx hb dX12_nearest_1 rfl (lv_at hl 1 rfl) ?_
  obtain ⟨r1, E2, hsp⟩ := fr_b1 hsp
  refine fq_callS (rest := [.ref (g.2.2 a)]) (st1 := [.int r1, .ref (g.2.2 a)]) C hR (k_X12_isRow C.2.2 E2) Y_X12_isRow YS_X12_isRow Lk_RX12_264 rfl hl.1 ⟨Nat.le_of_ble_eq_true rfl, Nat.le_of_ble_eq_true rfl⟩ rfl (Nat.le_of_ble_eq_true rfl) ⟨Nat.zero_le _, Nat.zero_le _⟩ rfl dX12_nearest_2 (fun H locs hR => ?_)
  refine lv_if_eq (tgt := 17) hx hb dX12_nearest_5 (by decide) (fun c3 => ?_) (fun c3 => ?_)
  · rw [if_pos c3] at hsp
    refine lv_iconst (v := 1) hx hb dX12_nearest_17 (by decide) ?_
    refine lv_goto (tgt := 31) hx hb dX12_nearest_18 (by decide) ?_
    exact hb_31 h x1 x2 (1 : Int32) a _ _ _ hsp hR (lv_sub hl [0, 1, 2] rfl)
  · rw [if_neg c3] at hsp
    refine lv_aload_n hx hb dX12_nearest_8 rfl (lv_at hl 0 rfl) ?_
    obtain ⟨j4, hv5, hsp⟩ := fr_b1 hsp
    refine fr_getr C hR ha Fg_RX12_19 rfl hv5 dX12_nearest_9 ?_
    refine lv_iload_n hx hb dX12_nearest_12 rfl (lv_at hl 1 rfl) ?_
    obtain ⟨hk6, hsp⟩ := fr_ck hsp
    obtain ⟨hi7, hsp⟩ := fr_ck hsp
    refine fr_iald C hR hk6 hi7 dX12_nearest_13 ?_
    refine lv_if_ne (tgt := 21) hx hb dX12_nearest_14 (by decide) (fun c8 => ?_) (fun c8 => ?_)
    · rw [if_neg c8] at hsp
      refine lv_iload_n hx hb dX12_nearest_21 rfl (lv_at hl 2 rfl) ?_
      refine lv_iconst (v := 1) hx hb dX12_nearest_22 (by decide) ?_
      refine lv_icmp_ge (tgt := 30) hx hb dX12_nearest_23 (by decide) (fun c9 => ?_) (fun c9 => ?_)
      · rw [if_pos c9] at hsp
        refine lv_iconst (v := 0) hx hb dX12_nearest_30 (by decide) ?_
        exact hb_31 h x1 x2 (0 : Int32) a _ _ _ hsp hR (lv_sub hl [0, 1, 2] rfl)
      · rw [if_neg c9] at hsp
        refine lv_iconst (v := 2) hx hb dX12_nearest_26 (by decide) ?_
        refine lv_goto (tgt := 31) hx hb dX12_nearest_27 (by decide) ?_
        exact hb_31 h x1 x2 (2 : Int32) a _ _ _ hsp hR (lv_sub hl [0, 1, 2] rfl)
    · rw [if_pos c8] at hsp
      refine lv_iconst (v := 1) hx hb dX12_nearest_17 (by decide) ?_
      refine lv_goto (tgt := 31) hx hb dX12_nearest_18 (by decide) ?_
      exact hb_31 h x1 x2 (1 : Int32) a _ _ _ hsp hR (lv_sub hl [0, 1, 2] rfl)

/-! TermRowsModel.mediant(IIIZ)J -/
def z_X12_mediant (S : fh_S) (h : fh_H) (a : Nat) (x1 : Int32) (x2 : Int32) (x3 : Int32) (x4 : Int32) : Option (Int64 × fh_H) :=
    fh_let (fh_sI h a 3 (0 : Int32)) (fun h1 => fh_b1 (z_X12_isRow x1) (fun r2 => if r2 = 0 then (fh_b2 (z_X12_fail S h1 a (1 : Int32)) (fun r5 h6 => some ((Int32.toInt64 r5), h6))) else (if x2 < 0 then (fh_b2 (z_X12_fail S h1 a (1 : Int32)) (fun r9 h10 => some ((Int32.toInt64 r9), h10))) else (if (60 : Int32) ≤ x2 then (fh_b2 (z_X12_fail S h1 a (1 : Int32)) (fun r13 h14 => some ((Int32.toInt64 r13), h14))) else (fh_b1 (z_X12_isKnown S h1 a x1 (x2 + (2 : Int32))) (fun r16 => if r16 = 0 then (fh_b2 (z_X12_fail S h1 a (1 : Int32)) (fun r19 h20 => some ((Int32.toInt64 r19), h20))) else (fh_b1 (z_X12_termOf S h1 a x1 (x2 + (2 : Int32))) (fun r22 => fh_b1 (z_X12_isIn (Int32.toInt64 x3) (0 : Int64) (Int32.toInt64 r22)) (fun r24 => if r24 = 0 then (fh_b2 (z_X12_fail S h1 a (1 : Int32)) (fun r49 h50 => some ((Int32.toInt64 r49), h50))) else (fh_b1 (z_X12_layConvergents S h1 a x1) (fun h27 => if (x2 + (1 : Int32)) < (h27.1 a 28) then (fh_let (fh_sI h27 a 16 (0 : Int32)) (fun h30 => fh_b1 (h30.2.2 a 26) (fun j31 => fh_ck (fh_kq S j31 14) (fh_ck (fh_in (x2 + (1 : Int32)) (S.2.2 j31)) (fh_ck (fh_in x2 (S.2.2 j31)) (fh_b2 (z_X12_timesAnd S h30 a (h30.2.1 j31 (Int32.toNatClampNeg (x2 + (1 : Int32)))) (Int32.toInt64 x3) (h30.2.1 j31 (Int32.toNatClampNeg x2))) (fun r36 h37 => fh_b1 (h37.2.2 a 27) (fun j39 => fh_ck (fh_kq S j39 14) (fh_ck (fh_in (x2 + (1 : Int32)) (S.2.2 j39)) (fh_ck (fh_in x2 (S.2.2 j39)) (fh_b2 (z_X12_timesAnd S h37 a (h37.2.1 j39 (Int32.toNatClampNeg (x2 + (1 : Int32)))) (Int32.toInt64 x3) (h37.2.1 j39 (Int32.toNatClampNeg x2))) (fun r44 h45 => if (h45.1 a 16) = 0 then (if x4 = 0 then (some (r36, h45)) else (some (r44, h45))) else (some ((-1 : Int64), h45)))))))))))))) else (some ((-1 : Int64), h27)))))))))))))
set_option maxHeartbeats 4000000 in
set_option maxRecDepth 100000 in
theorem k_X12_mediant {l : Launch} {S : fh_S} {g : fh_G} {h h' : fh_H} (hj : fh_inj S g) {a : Nat} {x1 : Int32} {x2 : Int32} {x3 : Int32} {x4 : Int32} {r : Int64} (ha : fh_kq S a 12 = true) (hsp : z_X12_mediant S h a x1 x2 x3 x4 = some (r, h')) : fh_M l yX12_mediant cX12_mediant 9 (some .long) (fh_rm 4) S g [.ref (g.2.2 a), .int x1, .int x2, .int x3, .int x4] h (some (.long r)) h' := by
  unfold z_X12_mediant at hsp
  refine fr_head (own := RX12) (by decide) rfl hj (Nat.le_of_ble_eq_true rfl) ?_
  intro p e s m below meth c ls C hr hlocks hR hl
  have hl : lv_has ls 9 [(0, .ref (g.2.2 a)), (1, .int x1), (2, .int x2), (3, .int x3), (4, .int x4)] := hl
  have hx := C.1.1
  have hb := C.1.2.1
  refine lv_aload_n hx hb dX12_mediant_0 rfl (lv_at hl 0 rfl) ?_
  refine lv_iconst (v := 0) hx hb dX12_mediant_1 (by decide) ?_
  refine fr_puti C hR ha Fp_RX12_73 rfl dX12_mediant_2 (fun H locs hR => ?_)
  obtain ⟨h1, eh1⟩ : ∃ z, z = fh_sI h a 3 (0 : Int32) := ⟨_, rfl⟩
  rw [← eh1] at hR
  have hsp := fr_let eh1 hsp
  refine lv_iload_n hx hb dX12_mediant_5 rfl (lv_at hl 1 rfl) ?_
  obtain ⟨r2, E3, hsp⟩ := fr_b1 hsp
  refine fq_callS (rest := []) (st1 := [.int r2]) C hR (k_X12_isRow C.2.2 E3) Y_X12_isRow YS_X12_isRow Lk_RX12_264 rfl hl.1 ⟨Nat.le_of_ble_eq_true rfl, Nat.le_of_ble_eq_true rfl⟩ rfl (Nat.le_of_ble_eq_true rfl) ⟨Nat.zero_le _, Nat.zero_le _⟩ rfl dX12_mediant_6 (fun H locs hR => ?_)
  refine lv_if_eq (tgt := 51) hx hb dX12_mediant_9 (by decide) (fun c4 => ?_) (fun c4 => ?_)
  · rw [if_pos c4] at hsp
    refine lv_aload_n hx hb dX12_mediant_51 rfl (lv_at hl 0 rfl) ?_
    refine lv_iconst (v := 1) hx hb dX12_mediant_52 (by decide) ?_
    obtain ⟨r5, h6, E7, hsp⟩ := fr_b2 hsp
    refine fq_callV (rest := []) (st1 := [.int r5]) C hR (k_X12_fail C.2.2 ha E7) Y_X12_fail YV_X12_fail Lk_RX12_299 ha ⟨_, _, rfl, by decide⟩ rfl hl.1 ⟨Nat.le_of_ble_eq_true rfl, Nat.le_of_ble_eq_true rfl⟩ rfl (Nat.le_of_ble_eq_true rfl) ⟨Nat.zero_le _, Nat.zero_le _⟩ rfl dX12_mediant_53 (fun H locs hR => ?_)
    refine lv_i2l hx hb dX12_mediant_56 rfl ?_
    obtain ⟨e1, e2⟩ := fr_s2 hsp
    exact fr_lret C hr hlocks hR e1 e2 dX12_mediant_57
  · rw [if_neg c4] at hsp
    refine lv_iload_n hx hb dX12_mediant_12 rfl (lv_at hl 2 rfl) ?_
    refine lv_if_lt (tgt := 51) hx hb dX12_mediant_13 (by decide) (fun c8 => ?_) (fun c8 => ?_)
    · rw [if_pos c8] at hsp
      refine lv_aload_n hx hb dX12_mediant_51 rfl (lv_at hl 0 rfl) ?_
      refine lv_iconst (v := 1) hx hb dX12_mediant_52 (by decide) ?_
      obtain ⟨r9, h10, E11, hsp⟩ := fr_b2 hsp
      refine fq_callV (rest := []) (st1 := [.int r9]) C hR (k_X12_fail C.2.2 ha E11) Y_X12_fail YV_X12_fail Lk_RX12_299 ha ⟨_, _, rfl, by decide⟩ rfl hl.1 ⟨Nat.le_of_ble_eq_true rfl, Nat.le_of_ble_eq_true rfl⟩ rfl (Nat.le_of_ble_eq_true rfl) ⟨Nat.zero_le _, Nat.zero_le _⟩ rfl dX12_mediant_53 (fun H locs hR => ?_)
      refine lv_i2l hx hb dX12_mediant_56 rfl ?_
      obtain ⟨e1, e2⟩ := fr_s2 hsp
      exact fr_lret C hr hlocks hR e1 e2 dX12_mediant_57
    · rw [if_neg c8] at hsp
      refine lv_iload_n hx hb dX12_mediant_16 rfl (lv_at hl 2 rfl) ?_
      refine lv_bipush (v := 60) hx hb dX12_mediant_17 (by decide) ?_
      refine lv_icmp_ge (tgt := 51) hx hb dX12_mediant_19 (by decide) (fun c12 => ?_) (fun c12 => ?_)
      · rw [if_pos c12] at hsp
        refine lv_aload_n hx hb dX12_mediant_51 rfl (lv_at hl 0 rfl) ?_
        refine lv_iconst (v := 1) hx hb dX12_mediant_52 (by decide) ?_
        obtain ⟨r13, h14, E15, hsp⟩ := fr_b2 hsp
        refine fq_callV (rest := []) (st1 := [.int r13]) C hR (k_X12_fail C.2.2 ha E15) Y_X12_fail YV_X12_fail Lk_RX12_299 ha ⟨_, _, rfl, by decide⟩ rfl hl.1 ⟨Nat.le_of_ble_eq_true rfl, Nat.le_of_ble_eq_true rfl⟩ rfl (Nat.le_of_ble_eq_true rfl) ⟨Nat.zero_le _, Nat.zero_le _⟩ rfl dX12_mediant_53 (fun H locs hR => ?_)
        refine lv_i2l hx hb dX12_mediant_56 rfl ?_
        obtain ⟨e1, e2⟩ := fr_s2 hsp
        exact fr_lret C hr hlocks hR e1 e2 dX12_mediant_57
      · rw [if_neg c12] at hsp
        refine lv_aload_n hx hb dX12_mediant_22 rfl (lv_at hl 0 rfl) ?_
        refine lv_iload_n hx hb dX12_mediant_23 rfl (lv_at hl 1 rfl) ?_
        refine lv_iload_n hx hb dX12_mediant_24 rfl (lv_at hl 2 rfl) ?_
        refine lv_iconst (v := 2) hx hb dX12_mediant_25 (by decide) ?_
        refine lv_iadd hx hb dX12_mediant_26 ?_
        obtain ⟨r16, E17, hsp⟩ := fr_b1 hsp
        refine fq_callV (rest := []) (st1 := [.int r16]) C hR (k_X12_isKnown C.2.2 ha E17) Y_X12_isKnown YV_X12_isKnown Lk_RX12_320 ha ⟨_, _, rfl, by decide⟩ rfl hl.1 ⟨Nat.le_of_ble_eq_true rfl, Nat.le_of_ble_eq_true rfl⟩ rfl (Nat.le_of_ble_eq_true rfl) ⟨Nat.zero_le _, Nat.zero_le _⟩ rfl dX12_mediant_27 (fun H locs hR => ?_)
        refine lv_if_eq (tgt := 51) hx hb dX12_mediant_30 (by decide) (fun c18 => ?_) (fun c18 => ?_)
        · rw [if_pos c18] at hsp
          refine lv_aload_n hx hb dX12_mediant_51 rfl (lv_at hl 0 rfl) ?_
          refine lv_iconst (v := 1) hx hb dX12_mediant_52 (by decide) ?_
          obtain ⟨r19, h20, E21, hsp⟩ := fr_b2 hsp
          refine fq_callV (rest := []) (st1 := [.int r19]) C hR (k_X12_fail C.2.2 ha E21) Y_X12_fail YV_X12_fail Lk_RX12_299 ha ⟨_, _, rfl, by decide⟩ rfl hl.1 ⟨Nat.le_of_ble_eq_true rfl, Nat.le_of_ble_eq_true rfl⟩ rfl (Nat.le_of_ble_eq_true rfl) ⟨Nat.zero_le _, Nat.zero_le _⟩ rfl dX12_mediant_53 (fun H locs hR => ?_)
          refine lv_i2l hx hb dX12_mediant_56 rfl ?_
          obtain ⟨e1, e2⟩ := fr_s2 hsp
          exact fr_lret C hr hlocks hR e1 e2 dX12_mediant_57
        · rw [if_neg c18] at hsp
          refine lv_iload_n hx hb dX12_mediant_33 rfl (lv_at hl 3 rfl) ?_
          refine lv_i2l hx hb dX12_mediant_34 rfl ?_
          refine lv_lconst (v := 0) hx hb dX12_mediant_35 (by decide) ?_
          refine lv_aload_n hx hb dX12_mediant_36 rfl (lv_at hl 0 rfl) ?_
          refine lv_iload_n hx hb dX12_mediant_37 rfl (lv_at hl 1 rfl) ?_
          refine lv_iload_n hx hb dX12_mediant_38 rfl (lv_at hl 2 rfl) ?_
          refine lv_iconst (v := 2) hx hb dX12_mediant_39 (by decide) ?_
          refine lv_iadd hx hb dX12_mediant_40 ?_
          obtain ⟨r22, E23, hsp⟩ := fr_b1 hsp
          refine fq_callV (rest := [.long (0 : Int64), .long (Int32.toInt64 x3)]) (st1 := [.int r22, .long (0 : Int64), .long (Int32.toInt64 x3)]) C hR (k_X12_termOf C.2.2 ha E23) Y_X12_termOf YV_X12_termOf Lk_RX12_219 ha ⟨_, _, rfl, by decide⟩ rfl hl.1 ⟨Nat.le_of_ble_eq_true rfl, Nat.le_of_ble_eq_true rfl⟩ rfl (Nat.le_of_ble_eq_true rfl) ⟨Nat.zero_le _, Nat.zero_le _⟩ rfl dX12_mediant_41 (fun H locs hR => ?_)
          refine lv_i2l hx hb dX12_mediant_44 rfl ?_
          obtain ⟨r24, E25, hsp⟩ := fr_b1 hsp
          refine fq_callS (rest := []) (st1 := [.int r24]) C hR (k_X12_isIn C.2.2 E25) Y_X12_isIn YS_X12_isIn Lk_RX12_78 rfl hl.1 ⟨Nat.le_of_ble_eq_true rfl, Nat.le_of_ble_eq_true rfl⟩ rfl (Nat.le_of_ble_eq_true rfl) ⟨Nat.zero_le _, Nat.zero_le _⟩ rfl dX12_mediant_45 (fun H locs hR => ?_)
          refine lv_if_ne (tgt := 58) hx hb dX12_mediant_48 (by decide) (fun c26 => ?_) (fun c26 => ?_)
          · rw [if_neg c26] at hsp
            refine lv_aload_n hx hb dX12_mediant_58 rfl (lv_at hl 0 rfl) ?_
            refine lv_iload_n hx hb dX12_mediant_59 rfl (lv_at hl 1 rfl) ?_
            obtain ⟨h27, E28, hsp⟩ := fr_b1 hsp
            refine fq_callV (rest := []) (st1 := []) C hR (k_X12_layConvergents C.2.2 ha E28) Y_X12_layConvergents YV_X12_layConvergents Lk_RX12_326 ha ⟨_, _, rfl, by decide⟩ rfl hl.1 ⟨Nat.le_of_ble_eq_true rfl, Nat.le_of_ble_eq_true rfl⟩ rfl (Nat.le_of_ble_eq_true rfl) ⟨Nat.zero_le _, Nat.zero_le _⟩ rfl dX12_mediant_60 (fun H locs hR => ?_)
            refine lv_iload_n hx hb dX12_mediant_63 rfl (lv_at hl 2 rfl) ?_
            refine lv_iconst (v := 1) hx hb dX12_mediant_64 (by decide) ?_
            refine lv_iadd hx hb dX12_mediant_65 ?_
            refine lv_aload_n hx hb dX12_mediant_66 rfl (lv_at hl 0 rfl) ?_
            refine fr_geti C hR ha Fg_RX12_323 rfl dX12_mediant_67 ?_
            refine lv_icmp_lt (tgt := 77) hx hb dX12_mediant_70 (by decide) (fun c29 => ?_) (fun c29 => ?_)
            · rw [if_pos c29] at hsp
              refine lv_aload_n hx hb dX12_mediant_77 rfl (lv_at hl 0 rfl) ?_
              refine lv_iconst (v := 0) hx hb dX12_mediant_78 (by decide) ?_
              refine fr_putz C hR ha Fp_RX12_141 rfl (Or.inl rfl) dX12_mediant_79 (fun H locs hR => ?_)
              obtain ⟨h30, eh30⟩ : ∃ z, z = fh_sI h27 a 16 (0 : Int32) := ⟨_, rfl⟩
              rw [← eh30] at hR
              have hsp := fr_let eh30 hsp
              refine lv_aload_n hx hb dX12_mediant_82 rfl (lv_at hl 0 rfl) ?_
              refine lv_aload_n hx hb dX12_mediant_83 rfl (lv_at hl 0 rfl) ?_
              obtain ⟨j31, hv32, hsp⟩ := fr_b1 hsp
              refine fr_getr C hR ha Fg_RX12_47 rfl hv32 dX12_mediant_84 ?_
              refine lv_iload_n hx hb dX12_mediant_87 rfl (lv_at hl 2 rfl) ?_
              refine lv_iconst (v := 1) hx hb dX12_mediant_88 (by decide) ?_
              refine lv_iadd hx hb dX12_mediant_89 ?_
              obtain ⟨hk33, hsp⟩ := fr_ck hsp
              obtain ⟨hi34, hsp⟩ := fr_ck hsp
              refine fr_lald C hR hk33 hi34 dX12_mediant_90 ?_
              refine lv_iload_n hx hb dX12_mediant_91 rfl (lv_at hl 3 rfl) ?_
              refine lv_i2l hx hb dX12_mediant_92 rfl ?_
              refine lv_aload_n hx hb dX12_mediant_93 rfl (lv_at hl 0 rfl) ?_
              refine fr_getr C hR ha Fg_RX12_47 rfl hv32 dX12_mediant_94 ?_
              refine lv_iload_n hx hb dX12_mediant_97 rfl (lv_at hl 2 rfl) ?_
              obtain ⟨hi35, hsp⟩ := fr_ck hsp
              refine fr_lald C hR hk33 hi35 dX12_mediant_98 ?_
              obtain ⟨r36, h37, E38, hsp⟩ := fr_b2 hsp
              refine fq_callV (rest := []) (st1 := [.long r36]) C hR (k_X12_timesAnd C.2.2 ha E38) Y_X12_timesAnd YV_X12_timesAnd Lk_RX12_204 ha ⟨_, _, rfl, by decide⟩ rfl hl.1 ⟨Nat.le_of_ble_eq_true rfl, Nat.le_of_ble_eq_true rfl⟩ rfl (Nat.le_of_ble_eq_true rfl) ⟨Nat.zero_le _, Nat.zero_le _⟩ rfl dX12_mediant_99 (fun H locs hR => ?_)
              refine lv_lstore (lv' := [(5, .long r36), (0, .ref (g.2.2 a)), (1, .int x1), (2, .int x2), (3, .int x3), (4, .int x4)]) hx hb dX12_mediant_102 hl (by decide) rfl (fun ls hl => ?_)
              refine lv_aload_n hx hb dX12_mediant_104 rfl (lv_at hl 1 rfl) ?_
              refine lv_aload_n hx hb dX12_mediant_105 rfl (lv_at hl 1 rfl) ?_
              obtain ⟨j39, hv40, hsp⟩ := fr_b1 hsp
              refine fr_getr C hR ha Fg_RX12_50 rfl hv40 dX12_mediant_106 ?_
              refine lv_iload_n hx hb dX12_mediant_109 rfl (lv_at hl 3 rfl) ?_
              refine lv_iconst (v := 1) hx hb dX12_mediant_110 (by decide) ?_
              refine lv_iadd hx hb dX12_mediant_111 ?_
              obtain ⟨hk41, hsp⟩ := fr_ck hsp
              obtain ⟨hi42, hsp⟩ := fr_ck hsp
              refine fr_lald C hR hk41 hi42 dX12_mediant_112 ?_
              refine lv_iload_n hx hb dX12_mediant_113 rfl (lv_at hl 4 rfl) ?_
              refine lv_i2l hx hb dX12_mediant_114 rfl ?_
              refine lv_aload_n hx hb dX12_mediant_115 rfl (lv_at hl 1 rfl) ?_
              refine fr_getr C hR ha Fg_RX12_50 rfl hv40 dX12_mediant_116 ?_
              refine lv_iload_n hx hb dX12_mediant_119 rfl (lv_at hl 3 rfl) ?_
              obtain ⟨hi43, hsp⟩ := fr_ck hsp
              refine fr_lald C hR hk41 hi43 dX12_mediant_120 ?_
              obtain ⟨r44, h45, E46, hsp⟩ := fr_b2 hsp
              refine fq_callV (rest := []) (st1 := [.long r44]) C hR (k_X12_timesAnd C.2.2 ha E46) Y_X12_timesAnd YV_X12_timesAnd Lk_RX12_204 ha ⟨_, _, rfl, by decide⟩ rfl hl.1 ⟨Nat.le_of_ble_eq_true rfl, Nat.le_of_ble_eq_true rfl⟩ rfl (Nat.le_of_ble_eq_true rfl) ⟨Nat.zero_le _, Nat.zero_le _⟩ rfl dX12_mediant_121 (fun H locs hR => ?_)
              refine lv_lstore (lv' := [(7, .long r44), (5, .long r36), (0, .ref (g.2.2 a)), (1, .int x1), (2, .int x2), (3, .int x3), (4, .int x4)]) hx hb dX12_mediant_124 hl (by decide) rfl (fun ls hl => ?_)
              refine lv_aload_n hx hb dX12_mediant_126 rfl (lv_at hl 2 rfl) ?_
              refine fr_geti C hR ha Fg_RX12_141 rfl dX12_mediant_127 ?_
              refine lv_if_eq (tgt := 137) hx hb dX12_mediant_130 (by decide) (fun c47 => ?_) (fun c47 => ?_)
              · rw [if_pos c47] at hsp
                refine lv_iload hx hb dX12_mediant_137 (lv_at hl 6 rfl) ?_
                refine lv_if_eq (tgt := 147) hx hb dX12_mediant_139 (by decide) (fun c48 => ?_) (fun c48 => ?_)
                · rw [if_pos c48] at hsp
                  refine lv_lload hx hb dX12_mediant_147 (lv_at hl 1 rfl) ?_
                  obtain ⟨e1, e2⟩ := fr_s2 hsp
                  exact fr_lret C hr hlocks hR e1 e2 dX12_mediant_149
                · rw [if_neg c48] at hsp
                  refine lv_lload hx hb dX12_mediant_142 (lv_at hl 0 rfl) ?_
                  refine lv_goto (tgt := 149) hx hb dX12_mediant_144 (by decide) ?_
                  obtain ⟨e1, e2⟩ := fr_s2 hsp
                  exact fr_lret C hr hlocks hR e1 e2 dX12_mediant_149
              · rw [if_neg c47] at hsp
                refine lv_ldc2 hx hb C.1.2.2.2.1 (C.1.2.2.2.2 _ Kc_RX12_329) dX12_mediant_133 ?_
                obtain ⟨e1, e2⟩ := fr_s2 hsp
                exact fr_lret C hr hlocks hR e1 e2 dX12_mediant_136
            · rw [if_neg c29] at hsp
              refine lv_ldc2 hx hb C.1.2.2.2.1 (C.1.2.2.2.2 _ Kc_RX12_329) dX12_mediant_73 ?_
              obtain ⟨e1, e2⟩ := fr_s2 hsp
              exact fr_lret C hr hlocks hR e1 e2 dX12_mediant_76
          · rw [if_pos c26] at hsp
            refine lv_aload_n hx hb dX12_mediant_51 rfl (lv_at hl 0 rfl) ?_
            refine lv_iconst (v := 1) hx hb dX12_mediant_52 (by decide) ?_
            obtain ⟨r49, h50, E51, hsp⟩ := fr_b2 hsp
            refine fq_callV (rest := []) (st1 := [.int r49]) C hR (k_X12_fail C.2.2 ha E51) Y_X12_fail YV_X12_fail Lk_RX12_299 ha ⟨_, _, rfl, by decide⟩ rfl hl.1 ⟨Nat.le_of_ble_eq_true rfl, Nat.le_of_ble_eq_true rfl⟩ rfl (Nat.le_of_ble_eq_true rfl) ⟨Nat.zero_le _, Nat.zero_le _⟩ rfl dX12_mediant_53 (fun H locs hR => ?_)
            refine lv_i2l hx hb dX12_mediant_56 rfl ?_
            obtain ⟨e1, e2⟩ := fr_s2 hsp
            exact fr_lret C hr hlocks hR e1 e2 dX12_mediant_57

/-! TermRowsModel.compare(II)I -/
def z_X12_compare_b116 (S : fh_S) (a : Nat) (h : fh_H) (y3 : Int32) (y4 : Int32) (y5 : Int32) : Option (Int32 × fh_H) :=
    if y4 = 0 then (if y5 = 0 then (some ((0 : Int32), h)) else (fh_b1 (z_X12_byPlace y3 y4) (fun r5 => some (r5, h)))) else (fh_b1 (z_X12_byPlace y3 y4) (fun r2 => some (r2, h)))
def z_X12_compare_b98 (S : fh_S) (a : Nat) (h : fh_H) (y2 : Int32) (y3 : Int32) (y4 : Int32) (y5 : Int32) : Option (Int32 × fh_H) :=
    if y5 = 0 then (fh_b1 (h.2.2 a 6) (fun j2 => fh_ck (fh_kq S j2 13) (fh_ck (fh_in y2 (S.2.2 j2)) (if (h.1 j2 (Int32.toNatClampNeg y2)) = (1 : Int32) then (z_X12_compare_b116 S a h y3 y4 y5) else (some ((-2 : Int32), h)))))) else (z_X12_compare_b116 S a h y3 y4 y5)
def z_X12_compare_b83 (S : fh_S) (a : Nat) (h : fh_H) (y1 : Int32) (y2 : Int32) (y3 : Int32) (y4 : Int32) (y5 : Int32) : Option (Int32 × fh_H) :=
    if y4 = 0 then (fh_b1 (h.2.2 a 6) (fun j2 => fh_ck (fh_kq S j2 13) (fh_ck (fh_in y1 (S.2.2 j2)) (if (h.1 j2 (Int32.toNatClampNeg y1)) = (1 : Int32) then (z_X12_compare_b98 S a h y2 y3 y4 y5) else (some ((-2 : Int32), h)))))) else (z_X12_compare_b98 S a h y2 y3 y4 y5)
def z_X12_compare (S : fh_S) (h : fh_H) (a : Nat) (x1 : Int32) (x2 : Int32) : Option (Int32 × fh_H) :=
    fh_let (fh_sI h a 3 (0 : Int32)) (fun h1 => fh_b1 (z_X12_isRow x1) (fun r2 => if r2 = 0 then (fh_b2 (z_X12_fail S h1 a (1 : Int32)) (fun r5 h6 => some (r5, h6))) else (fh_b1 (z_X12_isRow x2) (fun r8 => if r8 = 0 then (fh_b2 (z_X12_fail S h1 a (1 : Int32)) (fun r28 h29 => some (r28, h29))) else (fh_b1 (z_X12_alikeTo S h1 a x1 x2) (fun r11 => fh_b1 (z_X12_isKnown S h1 a x1 r11) (fun r13 => fh_b1 (z_X12_isKnown S h1 a x2 r11) (fun r15 => if r13 = 0 then (z_X12_compare_b83 S a h1 x1 x2 r11 r13 r15) else (if r15 = 0 then (z_X12_compare_b83 S a h1 x1 x2 r11 r13 r15) else (fh_b1 (z_X12_termOf S h1 a x1 r11) (fun r19 => fh_b1 (z_X12_termOf S h1 a x2 r11) (fun r21 => if r21 ≤ r19 then (fh_b1 (z_X12_byPlace r11 (0 : Int32)) (fun r24 => some (r24, h1))) else (fh_b1 (z_X12_byPlace r11 (1 : Int32)) (fun r26 => some (r26, h1)))))))))))))))
set_option maxHeartbeats 4000000 in
set_option maxRecDepth 100000 in
theorem k_X12_compare {l : Launch} {S : fh_S} {g : fh_G} {h h' : fh_H} (hj : fh_inj S g) {a : Nat} {x1 : Int32} {x2 : Int32} {r : Int32} (ha : fh_kq S a 12 = true) (hsp : z_X12_compare S h a x1 x2 = some (r, h')) : fh_M l yX12_compare cX12_compare 6 (some .int) (fh_rm 4) S g [.ref (g.2.2 a), .int x1, .int x2] h (some (.int r)) h' := by
  unfold z_X12_compare at hsp
  refine fr_head (own := RX12) (by decide) rfl hj (Nat.le_of_ble_eq_true rfl) ?_
  intro p e s m below meth c ls C hr hlocks hR hl
  have hl : lv_has ls 6 [(0, .ref (g.2.2 a)), (1, .int x1), (2, .int x2)] := hl
  have hx := C.1.1
  have hb := C.1.2.1
  have hb_116 : ∀ (h : fh_H) (y3 : Int32) (y4 : Int32) (y5 : Int32) (H : Heap) (locs : List Loc) (ls : Array Slot), z_X12_compare_b116 S a h y3 y4 y5 = some (r, h') → fh_R S g s.heap h H locs → lv_has ls 6 [(3, .int y3), (4, .int y4), (5, .int y5)] → fh_Wk p l e 4 s m [.ref (g.2.2 a), .int x1, .int x2] below meth c S g (some (.int r)) h' H locs (F0 m 116 ls []) := by
    intro h y3 y4 y5 H locs ls hsp hR hl
    unfold z_X12_compare_b116 at hsp
    refine lv_iload hx hb dX12_compare_116 (lv_at hl 1 rfl) ?_
    refine lv_if_ne (tgt := 130) hx hb dX12_compare_118 (by decide) (fun c1 => ?_) (fun c1 => ?_)
    · rw [if_neg c1] at hsp
      refine lv_iload_n hx hb dX12_compare_130 rfl (lv_at hl 0 rfl) ?_
      refine lv_iload hx hb dX12_compare_131 (lv_at hl 1 rfl) ?_
      obtain ⟨r2, E3, hsp⟩ := fr_b1 hsp
      refine fq_callS (rest := []) (st1 := [.int r2]) C hR (k_X12_byPlace C.2.2 E3) Y_X12_byPlace YS_X12_byPlace Lk_RX12_334 rfl hl.1 ⟨Nat.le_of_ble_eq_true rfl, Nat.le_of_ble_eq_true rfl⟩ rfl (Nat.le_of_ble_eq_true rfl) ⟨Nat.zero_le _, Nat.zero_le _⟩ rfl dX12_compare_133 (fun H locs hR => ?_)
      obtain ⟨e1, e2⟩ := fr_s2 hsp
      exact fr_iret C hr hlocks hR e1 e2 dX12_compare_136
    · rw [if_pos c1] at hsp
      refine lv_iload hx hb dX12_compare_121 (lv_at hl 2 rfl) ?_
      refine lv_if_ne (tgt := 130) hx hb dX12_compare_123 (by decide) (fun c4 => ?_) (fun c4 => ?_)
      · rw [if_neg c4] at hsp
        refine lv_iload_n hx hb dX12_compare_130 rfl (lv_at hl 0 rfl) ?_
        refine lv_iload hx hb dX12_compare_131 (lv_at hl 1 rfl) ?_
        obtain ⟨r5, E6, hsp⟩ := fr_b1 hsp
        refine fq_callS (rest := []) (st1 := [.int r5]) C hR (k_X12_byPlace C.2.2 E6) Y_X12_byPlace YS_X12_byPlace Lk_RX12_334 rfl hl.1 ⟨Nat.le_of_ble_eq_true rfl, Nat.le_of_ble_eq_true rfl⟩ rfl (Nat.le_of_ble_eq_true rfl) ⟨Nat.zero_le _, Nat.zero_le _⟩ rfl dX12_compare_133 (fun H locs hR => ?_)
        obtain ⟨e1, e2⟩ := fr_s2 hsp
        exact fr_iret C hr hlocks hR e1 e2 dX12_compare_136
      · rw [if_pos c4] at hsp
        refine lv_iconst (v := 0) hx hb dX12_compare_126 (by decide) ?_
        refine lv_goto (tgt := 136) hx hb dX12_compare_127 (by decide) ?_
        obtain ⟨e1, e2⟩ := fr_s2 hsp
        exact fr_iret C hr hlocks hR e1 e2 dX12_compare_136
  have hb_98 : ∀ (h : fh_H) (y2 : Int32) (y3 : Int32) (y4 : Int32) (y5 : Int32) (H : Heap) (locs : List Loc) (ls : Array Slot), z_X12_compare_b98 S a h y2 y3 y4 y5 = some (r, h') → fh_R S g s.heap h H locs → lv_has ls 6 [(0, .ref (g.2.2 a)), (2, .int y2), (3, .int y3), (4, .int y4), (5, .int y5)] → fh_Wk p l e 4 s m [.ref (g.2.2 a), .int x1, .int x2] below meth c S g (some (.int r)) h' H locs (F0 m 98 ls []) := by
    intro h y2 y3 y4 y5 H locs ls hsp hR hl
    unfold z_X12_compare_b98 at hsp
    refine lv_iload hx hb dX12_compare_98 (lv_at hl 4 rfl) ?_
    refine lv_if_ne (tgt := 116) hx hb dX12_compare_100 (by decide) (fun c1 => ?_) (fun c1 => ?_)
    · rw [if_neg c1] at hsp
      exact hb_116 h y3 y4 y5 _ _ _ hsp hR (lv_sub hl [2, 3, 4] rfl)
    · rw [if_pos c1] at hsp
      refine lv_aload_n hx hb dX12_compare_103 rfl (lv_at hl 0 rfl) ?_
      obtain ⟨j2, hv3, hsp⟩ := fr_b1 hsp
      refine fr_getr C hR ha Fg_RX12_22 rfl hv3 dX12_compare_104 ?_
      refine lv_iload_n hx hb dX12_compare_107 rfl (lv_at hl 1 rfl) ?_
      obtain ⟨hk4, hsp⟩ := fr_ck hsp
      obtain ⟨hi5, hsp⟩ := fr_ck hsp
      refine fr_iald C hR hk4 hi5 dX12_compare_108 ?_
      refine lv_iconst (v := 1) hx hb dX12_compare_109 (by decide) ?_
      refine lv_icmp_eq (tgt := 116) hx hb dX12_compare_110 (by decide) (fun c6 => ?_) (fun c6 => ?_)
      · rw [if_pos c6] at hsp
        exact hb_116 h y3 y4 y5 _ _ _ hsp hR (lv_sub hl [2, 3, 4] rfl)
      · rw [if_neg c6] at hsp
        refine lv_bipush (v := -2) hx hb dX12_compare_113 (by decide) ?_
        obtain ⟨e1, e2⟩ := fr_s2 hsp
        exact fr_iret C hr hlocks hR e1 e2 dX12_compare_115
  have hb_83 : ∀ (h : fh_H) (y1 : Int32) (y2 : Int32) (y3 : Int32) (y4 : Int32) (y5 : Int32) (H : Heap) (locs : List Loc) (ls : Array Slot), z_X12_compare_b83 S a h y1 y2 y3 y4 y5 = some (r, h') → fh_R S g s.heap h H locs → lv_has ls 6 [(0, .ref (g.2.2 a)), (1, .int y1), (2, .int y2), (3, .int y3), (4, .int y4), (5, .int y5)] → fh_Wk p l e 4 s m [.ref (g.2.2 a), .int x1, .int x2] below meth c S g (some (.int r)) h' H locs (F0 m 83 ls []) := by
    intro h y1 y2 y3 y4 y5 H locs ls hsp hR hl
    unfold z_X12_compare_b83 at hsp
    refine lv_iload hx hb dX12_compare_83 (lv_at hl 4 rfl) ?_
    refine lv_if_ne (tgt := 98) hx hb dX12_compare_85 (by decide) (fun c1 => ?_) (fun c1 => ?_)
    · rw [if_neg c1] at hsp
      exact hb_98 h y2 y3 y4 y5 _ _ _ hsp hR (lv_sub hl [0, 2, 3, 4, 5] rfl)
    · rw [if_pos c1] at hsp
      refine lv_aload_n hx hb dX12_compare_88 rfl (lv_at hl 0 rfl) ?_
      obtain ⟨j2, hv3, hsp⟩ := fr_b1 hsp
      refine fr_getr C hR ha Fg_RX12_22 rfl hv3 dX12_compare_89 ?_
      refine lv_iload_n hx hb dX12_compare_92 rfl (lv_at hl 1 rfl) ?_
      obtain ⟨hk4, hsp⟩ := fr_ck hsp
      obtain ⟨hi5, hsp⟩ := fr_ck hsp
      refine fr_iald C hR hk4 hi5 dX12_compare_93 ?_
      refine lv_iconst (v := 1) hx hb dX12_compare_94 (by decide) ?_
      refine lv_icmp_ne (tgt := 113) hx hb dX12_compare_95 (by decide) (fun c6 => ?_) (fun c6 => ?_)
      · rw [if_neg c6] at hsp
        refine lv_bipush (v := -2) hx hb dX12_compare_113 (by decide) ?_
        obtain ⟨e1, e2⟩ := fr_s2 hsp
        exact fr_iret C hr hlocks hR e1 e2 dX12_compare_115
      · rw [if_pos c6] at hsp
        exact hb_98 h y2 y3 y4 y5 _ _ _ hsp hR (lv_sub hl [0, 2, 3, 4, 5] rfl)
  refine lv_aload_n hx hb dX12_compare_0 rfl (lv_at hl 0 rfl) ?_
  refine lv_iconst (v := 0) hx hb dX12_compare_1 (by decide) ?_
  refine fr_puti C hR ha Fp_RX12_73 rfl dX12_compare_2 (fun H locs hR => ?_)
  obtain ⟨h1, eh1⟩ : ∃ z, z = fh_sI h a 3 (0 : Int32) := ⟨_, rfl⟩
  rw [← eh1] at hR
  have hsp := fr_let eh1 hsp
  refine lv_iload_n hx hb dX12_compare_5 rfl (lv_at hl 1 rfl) ?_
  obtain ⟨r2, E3, hsp⟩ := fr_b1 hsp
  refine fq_callS (rest := []) (st1 := [.int r2]) C hR (k_X12_isRow C.2.2 E3) Y_X12_isRow YS_X12_isRow Lk_RX12_264 rfl hl.1 ⟨Nat.le_of_ble_eq_true rfl, Nat.le_of_ble_eq_true rfl⟩ rfl (Nat.le_of_ble_eq_true rfl) ⟨Nat.zero_le _, Nat.zero_le _⟩ rfl dX12_compare_6 (fun H locs hR => ?_)
  refine lv_if_eq (tgt := 19) hx hb dX12_compare_9 (by decide) (fun c4 => ?_) (fun c4 => ?_)
  · rw [if_pos c4] at hsp
    refine lv_aload_n hx hb dX12_compare_19 rfl (lv_at hl 0 rfl) ?_
    refine lv_iconst (v := 1) hx hb dX12_compare_20 (by decide) ?_
    obtain ⟨r5, h6, E7, hsp⟩ := fr_b2 hsp
    refine fq_callV (rest := []) (st1 := [.int r5]) C hR (k_X12_fail C.2.2 ha E7) Y_X12_fail YV_X12_fail Lk_RX12_299 ha ⟨_, _, rfl, by decide⟩ rfl hl.1 ⟨Nat.le_of_ble_eq_true rfl, Nat.le_of_ble_eq_true rfl⟩ rfl (Nat.le_of_ble_eq_true rfl) ⟨Nat.zero_le _, Nat.zero_le _⟩ rfl dX12_compare_21 (fun H locs hR => ?_)
    obtain ⟨e1, e2⟩ := fr_s2 hsp
    exact fr_iret C hr hlocks hR e1 e2 dX12_compare_24
  · rw [if_neg c4] at hsp
    refine lv_iload_n hx hb dX12_compare_12 rfl (lv_at hl 2 rfl) ?_
    obtain ⟨r8, E9, hsp⟩ := fr_b1 hsp
    refine fq_callS (rest := []) (st1 := [.int r8]) C hR (k_X12_isRow C.2.2 E9) Y_X12_isRow YS_X12_isRow Lk_RX12_264 rfl hl.1 ⟨Nat.le_of_ble_eq_true rfl, Nat.le_of_ble_eq_true rfl⟩ rfl (Nat.le_of_ble_eq_true rfl) ⟨Nat.zero_le _, Nat.zero_le _⟩ rfl dX12_compare_13 (fun H locs hR => ?_)
    refine lv_if_ne (tgt := 25) hx hb dX12_compare_16 (by decide) (fun c10 => ?_) (fun c10 => ?_)
    · rw [if_neg c10] at hsp
      refine lv_aload_n hx hb dX12_compare_25 rfl (lv_at hl 0 rfl) ?_
      refine lv_iload_n hx hb dX12_compare_26 rfl (lv_at hl 1 rfl) ?_
      refine lv_iload_n hx hb dX12_compare_27 rfl (lv_at hl 2 rfl) ?_
      obtain ⟨r11, E12, hsp⟩ := fr_b1 hsp
      refine fq_callV (rest := []) (st1 := [.int r11]) C hR (k_X12_alikeTo C.2.2 ha E12) Y_X12_alikeTo YV_X12_alikeTo Lk_RX12_331 ha ⟨_, _, rfl, by decide⟩ rfl hl.1 ⟨Nat.le_of_ble_eq_true rfl, Nat.le_of_ble_eq_true rfl⟩ rfl (Nat.le_of_ble_eq_true rfl) ⟨Nat.zero_le _, Nat.zero_le _⟩ rfl dX12_compare_28 (fun H locs hR => ?_)
      refine lv_istore_n (lv' := [(3, .int r11), (0, .ref (g.2.2 a)), (1, .int x1), (2, .int x2)]) hx hb dX12_compare_31 rfl hl (by decide) rfl (fun ls hl => ?_)
      refine lv_aload_n hx hb dX12_compare_32 rfl (lv_at hl 1 rfl) ?_
      refine lv_iload_n hx hb dX12_compare_33 rfl (lv_at hl 2 rfl) ?_
      refine lv_iload_n hx hb dX12_compare_34 rfl (lv_at hl 0 rfl) ?_
      obtain ⟨r13, E14, hsp⟩ := fr_b1 hsp
      refine fq_callV (rest := []) (st1 := [.int r13]) C hR (k_X12_isKnown C.2.2 ha E14) Y_X12_isKnown YV_X12_isKnown Lk_RX12_320 ha ⟨_, _, rfl, by decide⟩ rfl hl.1 ⟨Nat.le_of_ble_eq_true rfl, Nat.le_of_ble_eq_true rfl⟩ rfl (Nat.le_of_ble_eq_true rfl) ⟨Nat.zero_le _, Nat.zero_le _⟩ rfl dX12_compare_35 (fun H locs hR => ?_)
      refine lv_istore (lv' := [(4, .int r13), (3, .int r11), (0, .ref (g.2.2 a)), (1, .int x1), (2, .int x2)]) hx hb dX12_compare_38 hl (by decide) rfl (fun ls hl => ?_)
      refine lv_aload_n hx hb dX12_compare_40 rfl (lv_at hl 2 rfl) ?_
      refine lv_iload_n hx hb dX12_compare_41 rfl (lv_at hl 4 rfl) ?_
      refine lv_iload_n hx hb dX12_compare_42 rfl (lv_at hl 1 rfl) ?_
      obtain ⟨r15, E16, hsp⟩ := fr_b1 hsp
      refine fq_callV (rest := []) (st1 := [.int r15]) C hR (k_X12_isKnown C.2.2 ha E16) Y_X12_isKnown YV_X12_isKnown Lk_RX12_320 ha ⟨_, _, rfl, by decide⟩ rfl hl.1 ⟨Nat.le_of_ble_eq_true rfl, Nat.le_of_ble_eq_true rfl⟩ rfl (Nat.le_of_ble_eq_true rfl) ⟨Nat.zero_le _, Nat.zero_le _⟩ rfl dX12_compare_43 (fun H locs hR => ?_)
      refine lv_istore (lv' := [(5, .int r15), (4, .int r13), (3, .int r11), (0, .ref (g.2.2 a)), (1, .int x1), (2, .int x2)]) hx hb dX12_compare_46 hl (by decide) rfl (fun ls hl => ?_)
      refine lv_iload hx hb dX12_compare_48 (lv_at hl 1 rfl) ?_
      refine lv_if_eq (tgt := 83) hx hb dX12_compare_50 (by decide) (fun c17 => ?_) (fun c17 => ?_)
      · rw [if_pos c17] at hsp
        exact hb_83 h1 x1 x2 r11 r13 r15 _ _ _ hsp hR (lv_sub hl [3, 4, 5, 2, 1, 0] rfl)
      · rw [if_neg c17] at hsp
        refine lv_iload hx hb dX12_compare_53 (lv_at hl 0 rfl) ?_
        refine lv_if_eq (tgt := 83) hx hb dX12_compare_55 (by decide) (fun c18 => ?_) (fun c18 => ?_)
        · rw [if_pos c18] at hsp
          exact hb_83 h1 x1 x2 r11 r13 r15 _ _ _ hsp hR (lv_sub hl [3, 4, 5, 2, 1, 0] rfl)
        · rw [if_neg c18] at hsp
          refine lv_iload_n hx hb dX12_compare_58 rfl (lv_at hl 2 rfl) ?_
          refine lv_aload_n hx hb dX12_compare_59 rfl (lv_at hl 3 rfl) ?_
          refine lv_iload_n hx hb dX12_compare_60 rfl (lv_at hl 4 rfl) ?_
          refine lv_iload_n hx hb dX12_compare_61 rfl (lv_at hl 2 rfl) ?_
          obtain ⟨r19, E20, hsp⟩ := fr_b1 hsp
          refine fq_callV (rest := [.int r11]) (st1 := [.int r19, .int r11]) C hR (k_X12_termOf C.2.2 ha E20) Y_X12_termOf YV_X12_termOf Lk_RX12_219 ha ⟨_, _, rfl, by decide⟩ rfl hl.1 ⟨Nat.le_of_ble_eq_true rfl, Nat.le_of_ble_eq_true rfl⟩ rfl (Nat.le_of_ble_eq_true rfl) ⟨Nat.zero_le _, Nat.zero_le _⟩ rfl dX12_compare_62 (fun H locs hR => ?_)
          refine lv_aload_n hx hb dX12_compare_65 rfl (lv_at hl 3 rfl) ?_
          refine lv_iload_n hx hb dX12_compare_66 rfl (lv_at hl 5 rfl) ?_
          refine lv_iload_n hx hb dX12_compare_67 rfl (lv_at hl 2 rfl) ?_
          obtain ⟨r21, E22, hsp⟩ := fr_b1 hsp
          refine fq_callV (rest := [.int r19, .int r11]) (st1 := [.int r21, .int r19, .int r11]) C hR (k_X12_termOf C.2.2 ha E22) Y_X12_termOf YV_X12_termOf Lk_RX12_219 ha ⟨_, _, rfl, by decide⟩ rfl hl.1 ⟨Nat.le_of_ble_eq_true rfl, Nat.le_of_ble_eq_true rfl⟩ rfl (Nat.le_of_ble_eq_true rfl) ⟨Nat.zero_le _, Nat.zero_le _⟩ rfl dX12_compare_68 (fun H locs hR => ?_)
          refine lv_icmp_ge (tgt := 78) hx hb dX12_compare_71 (by decide) (fun c23 => ?_) (fun c23 => ?_)
          · rw [if_pos c23] at hsp
            refine lv_iconst (v := 0) hx hb dX12_compare_78 (by decide) ?_
            obtain ⟨r24, E25, hsp⟩ := fr_b1 hsp
            refine fq_callS (rest := []) (st1 := [.int r24]) C hR (k_X12_byPlace C.2.2 E25) Y_X12_byPlace YS_X12_byPlace Lk_RX12_334 rfl hl.1 ⟨Nat.le_of_ble_eq_true rfl, Nat.le_of_ble_eq_true rfl⟩ rfl (Nat.le_of_ble_eq_true rfl) ⟨Nat.zero_le _, Nat.zero_le _⟩ rfl dX12_compare_79 (fun H locs hR => ?_)
            obtain ⟨e1, e2⟩ := fr_s2 hsp
            exact fr_iret C hr hlocks hR e1 e2 dX12_compare_82
          · rw [if_neg c23] at hsp
            refine lv_iconst (v := 1) hx hb dX12_compare_74 (by decide) ?_
            refine lv_goto (tgt := 79) hx hb dX12_compare_75 (by decide) ?_
            obtain ⟨r26, E27, hsp⟩ := fr_b1 hsp
            refine fq_callS (rest := []) (st1 := [.int r26]) C hR (k_X12_byPlace C.2.2 E27) Y_X12_byPlace YS_X12_byPlace Lk_RX12_334 rfl hl.1 ⟨Nat.le_of_ble_eq_true rfl, Nat.le_of_ble_eq_true rfl⟩ rfl (Nat.le_of_ble_eq_true rfl) ⟨Nat.zero_le _, Nat.zero_le _⟩ rfl dX12_compare_79 (fun H locs hR => ?_)
            obtain ⟨e1, e2⟩ := fr_s2 hsp
            exact fr_iret C hr hlocks hR e1 e2 dX12_compare_82
    · rw [if_pos c10] at hsp
      refine lv_aload_n hx hb dX12_compare_19 rfl (lv_at hl 0 rfl) ?_
      refine lv_iconst (v := 1) hx hb dX12_compare_20 (by decide) ?_
      obtain ⟨r28, h29, E30, hsp⟩ := fr_b2 hsp
      refine fq_callV (rest := []) (st1 := [.int r28]) C hR (k_X12_fail C.2.2 ha E30) Y_X12_fail YV_X12_fail Lk_RX12_299 ha ⟨_, _, rfl, by decide⟩ rfl hl.1 ⟨Nat.le_of_ble_eq_true rfl, Nat.le_of_ble_eq_true rfl⟩ rfl (Nat.le_of_ble_eq_true rfl) ⟨Nat.zero_le _, Nat.zero_le _⟩ rfl dX12_compare_21 (fun H locs hR => ?_)
      obtain ⟨e1, e2⟩ := fr_s2 hsp
      exact fr_iret C hr hlocks hR e1 e2 dX12_compare_24

/-! TermRowsModel.alike(II)I -/
def z_X12_alike (S : fh_S) (h : fh_H) (a : Nat) (x1 : Int32) (x2 : Int32) : Option (Int32 × fh_H) :=
    fh_let (fh_sI h a 3 (0 : Int32)) (fun h1 => fh_b1 (z_X12_isRow x1) (fun r2 => if r2 = 0 then (fh_b2 (z_X12_fail S h1 a (1 : Int32)) (fun r5 h6 => some (r5, h6))) else (fh_b1 (z_X12_isRow x2) (fun r8 => if r8 = 0 then (fh_b2 (z_X12_fail S h1 a (1 : Int32)) (fun r11 h12 => some (r11, h12))) else (fh_b1 (z_X12_alikeTo S h1 a x1 x2) (fun r14 => some (r14, h1)))))))
set_option maxHeartbeats 4000000 in
set_option maxRecDepth 100000 in
theorem k_X12_alike {l : Launch} {S : fh_S} {g : fh_G} {h h' : fh_H} (hj : fh_inj S g) {a : Nat} {x1 : Int32} {x2 : Int32} {r : Int32} (ha : fh_kq S a 12 = true) (hsp : z_X12_alike S h a x1 x2 = some (r, h')) : fh_M l yX12_alike cX12_alike 3 (some .int) (fh_rm 4) S g [.ref (g.2.2 a), .int x1, .int x2] h (some (.int r)) h' := by
  unfold z_X12_alike at hsp
  refine fr_head (own := RX12) (by decide) rfl hj (Nat.le_of_ble_eq_true rfl) ?_
  intro p e s m below meth c ls C hr hlocks hR hl
  have hl : lv_has ls 3 [(0, .ref (g.2.2 a)), (1, .int x1), (2, .int x2)] := hl
  have hx := C.1.1
  have hb := C.1.2.1
  refine lv_aload_n hx hb dX12_alike_0 rfl (lv_at hl 0 rfl) ?_
  refine lv_iconst (v := 0) hx hb dX12_alike_1 (by decide) ?_
  refine fr_puti C hR ha Fp_RX12_73 rfl dX12_alike_2 (fun H locs hR => ?_)
  obtain ⟨h1, eh1⟩ : ∃ z, z = fh_sI h a 3 (0 : Int32) := ⟨_, rfl⟩
  rw [← eh1] at hR
  have hsp := fr_let eh1 hsp
  refine lv_iload_n hx hb dX12_alike_5 rfl (lv_at hl 1 rfl) ?_
  obtain ⟨r2, E3, hsp⟩ := fr_b1 hsp
  refine fq_callS (rest := []) (st1 := [.int r2]) C hR (k_X12_isRow C.2.2 E3) Y_X12_isRow YS_X12_isRow Lk_RX12_264 rfl hl.1 ⟨Nat.le_of_ble_eq_true rfl, Nat.le_of_ble_eq_true rfl⟩ rfl (Nat.le_of_ble_eq_true rfl) ⟨Nat.zero_le _, Nat.zero_le _⟩ rfl dX12_alike_6 (fun H locs hR => ?_)
  refine lv_if_eq (tgt := 28) hx hb dX12_alike_9 (by decide) (fun c4 => ?_) (fun c4 => ?_)
  · rw [if_pos c4] at hsp
    refine lv_aload_n hx hb dX12_alike_28 rfl (lv_at hl 0 rfl) ?_
    refine lv_iconst (v := 1) hx hb dX12_alike_29 (by decide) ?_
    obtain ⟨r5, h6, E7, hsp⟩ := fr_b2 hsp
    refine fq_callV (rest := []) (st1 := [.int r5]) C hR (k_X12_fail C.2.2 ha E7) Y_X12_fail YV_X12_fail Lk_RX12_299 ha ⟨_, _, rfl, by decide⟩ rfl hl.1 ⟨Nat.le_of_ble_eq_true rfl, Nat.le_of_ble_eq_true rfl⟩ rfl (Nat.le_of_ble_eq_true rfl) ⟨Nat.zero_le _, Nat.zero_le _⟩ rfl dX12_alike_30 (fun H locs hR => ?_)
    obtain ⟨e1, e2⟩ := fr_s2 hsp
    exact fr_iret C hr hlocks hR e1 e2 dX12_alike_33
  · rw [if_neg c4] at hsp
    refine lv_iload_n hx hb dX12_alike_12 rfl (lv_at hl 2 rfl) ?_
    obtain ⟨r8, E9, hsp⟩ := fr_b1 hsp
    refine fq_callS (rest := []) (st1 := [.int r8]) C hR (k_X12_isRow C.2.2 E9) Y_X12_isRow YS_X12_isRow Lk_RX12_264 rfl hl.1 ⟨Nat.le_of_ble_eq_true rfl, Nat.le_of_ble_eq_true rfl⟩ rfl (Nat.le_of_ble_eq_true rfl) ⟨Nat.zero_le _, Nat.zero_le _⟩ rfl dX12_alike_13 (fun H locs hR => ?_)
    refine lv_if_eq (tgt := 28) hx hb dX12_alike_16 (by decide) (fun c10 => ?_) (fun c10 => ?_)
    · rw [if_pos c10] at hsp
      refine lv_aload_n hx hb dX12_alike_28 rfl (lv_at hl 0 rfl) ?_
      refine lv_iconst (v := 1) hx hb dX12_alike_29 (by decide) ?_
      obtain ⟨r11, h12, E13, hsp⟩ := fr_b2 hsp
      refine fq_callV (rest := []) (st1 := [.int r11]) C hR (k_X12_fail C.2.2 ha E13) Y_X12_fail YV_X12_fail Lk_RX12_299 ha ⟨_, _, rfl, by decide⟩ rfl hl.1 ⟨Nat.le_of_ble_eq_true rfl, Nat.le_of_ble_eq_true rfl⟩ rfl (Nat.le_of_ble_eq_true rfl) ⟨Nat.zero_le _, Nat.zero_le _⟩ rfl dX12_alike_30 (fun H locs hR => ?_)
      obtain ⟨e1, e2⟩ := fr_s2 hsp
      exact fr_iret C hr hlocks hR e1 e2 dX12_alike_33
    · rw [if_neg c10] at hsp
      refine lv_aload_n hx hb dX12_alike_19 rfl (lv_at hl 0 rfl) ?_
      refine lv_iload_n hx hb dX12_alike_20 rfl (lv_at hl 1 rfl) ?_
      refine lv_iload_n hx hb dX12_alike_21 rfl (lv_at hl 2 rfl) ?_
      obtain ⟨r14, E15, hsp⟩ := fr_b1 hsp
      refine fq_callV (rest := []) (st1 := [.int r14]) C hR (k_X12_alikeTo C.2.2 ha E15) Y_X12_alikeTo YV_X12_alikeTo Lk_RX12_331 ha ⟨_, _, rfl, by decide⟩ rfl hl.1 ⟨Nat.le_of_ble_eq_true rfl, Nat.le_of_ble_eq_true rfl⟩ rfl (Nat.le_of_ble_eq_true rfl) ⟨Nat.zero_le _, Nat.zero_le _⟩ rfl dX12_alike_22 (fun H locs hR => ?_)
      refine lv_goto (tgt := 33) hx hb dX12_alike_25 (by decide) ?_
      obtain ⟨e1, e2⟩ := fr_s2 hsp
      exact fr_iret C hr hlocks hR e1 e2 dX12_alike_33

/-! TermRowsModel.again(II)I -/
def z_X12_again (S : fh_S) (h : fh_H) (a : Nat) (x1 : Int32) (x2 : Int32) : Option (Int32 × fh_H) :=
    fh_let (fh_sI h a 3 (0 : Int32)) (fun h1 => fh_b1 (z_X12_isRow x1) (fun r2 => if r2 = 0 then (fh_b2 (z_X12_fail S h1 a (1 : Int32)) (fun r5 h6 => some (r5, h6))) else (fh_b1 (z_X12_isIn (Int32.toInt64 x2) (0 : Int64) (1 : Int64)) (fun r8 => if r8 = 0 then (fh_b2 (z_X12_fail S h1 a (1 : Int32)) (fun r14 h15 => some (r14, h15))) else (fh_b1 (z_X12_layAgain S h1 a x1) (fun h11 => if x2 = 0 then (some ((h11.1 a 29), h11)) else (some ((h11.1 a 30), h11))))))))
set_option maxHeartbeats 4000000 in
set_option maxRecDepth 100000 in
theorem k_X12_again {l : Launch} {S : fh_S} {g : fh_G} {h h' : fh_H} (hj : fh_inj S g) {a : Nat} {x1 : Int32} {x2 : Int32} {r : Int32} (ha : fh_kq S a 12 = true) (hsp : z_X12_again S h a x1 x2 = some (r, h')) : fh_M l yX12_again cX12_again 3 (some .int) (fh_rm 4) S g [.ref (g.2.2 a), .int x1, .int x2] h (some (.int r)) h' := by
  unfold z_X12_again at hsp
  refine fr_head (own := RX12) (by decide) rfl hj (Nat.le_of_ble_eq_true rfl) ?_
  intro p e s m below meth c ls C hr hlocks hR hl
  have hl : lv_has ls 3 [(0, .ref (g.2.2 a)), (1, .int x1), (2, .int x2)] := hl
  have hx := C.1.1
  have hb := C.1.2.1
  refine lv_aload_n hx hb dX12_again_0 rfl (lv_at hl 0 rfl) ?_
  refine lv_iconst (v := 0) hx hb dX12_again_1 (by decide) ?_
  refine fr_puti C hR ha Fp_RX12_73 rfl dX12_again_2 (fun H locs hR => ?_)
  obtain ⟨h1, eh1⟩ : ∃ z, z = fh_sI h a 3 (0 : Int32) := ⟨_, rfl⟩
  rw [← eh1] at hR
  have hsp := fr_let eh1 hsp
  refine lv_iload_n hx hb dX12_again_5 rfl (lv_at hl 1 rfl) ?_
  obtain ⟨r2, E3, hsp⟩ := fr_b1 hsp
  refine fq_callS (rest := []) (st1 := [.int r2]) C hR (k_X12_isRow C.2.2 E3) Y_X12_isRow YS_X12_isRow Lk_RX12_264 rfl hl.1 ⟨Nat.le_of_ble_eq_true rfl, Nat.le_of_ble_eq_true rfl⟩ rfl (Nat.le_of_ble_eq_true rfl) ⟨Nat.zero_le _, Nat.zero_le _⟩ rfl dX12_again_6 (fun H locs hR => ?_)
  refine lv_if_eq (tgt := 22) hx hb dX12_again_9 (by decide) (fun c4 => ?_) (fun c4 => ?_)
  · rw [if_pos c4] at hsp
    refine lv_aload_n hx hb dX12_again_22 rfl (lv_at hl 0 rfl) ?_
    refine lv_iconst (v := 1) hx hb dX12_again_23 (by decide) ?_
    obtain ⟨r5, h6, E7, hsp⟩ := fr_b2 hsp
    refine fq_callV (rest := []) (st1 := [.int r5]) C hR (k_X12_fail C.2.2 ha E7) Y_X12_fail YV_X12_fail Lk_RX12_299 ha ⟨_, _, rfl, by decide⟩ rfl hl.1 ⟨Nat.le_of_ble_eq_true rfl, Nat.le_of_ble_eq_true rfl⟩ rfl (Nat.le_of_ble_eq_true rfl) ⟨Nat.zero_le _, Nat.zero_le _⟩ rfl dX12_again_24 (fun H locs hR => ?_)
    obtain ⟨e1, e2⟩ := fr_s2 hsp
    exact fr_iret C hr hlocks hR e1 e2 dX12_again_27
  · rw [if_neg c4] at hsp
    refine lv_iload_n hx hb dX12_again_12 rfl (lv_at hl 2 rfl) ?_
    refine lv_i2l hx hb dX12_again_13 rfl ?_
    refine lv_lconst (v := 0) hx hb dX12_again_14 (by decide) ?_
    refine lv_lconst (v := 1) hx hb dX12_again_15 (by decide) ?_
    obtain ⟨r8, E9, hsp⟩ := fr_b1 hsp
    refine fq_callS (rest := []) (st1 := [.int r8]) C hR (k_X12_isIn C.2.2 E9) Y_X12_isIn YS_X12_isIn Lk_RX12_78 rfl hl.1 ⟨Nat.le_of_ble_eq_true rfl, Nat.le_of_ble_eq_true rfl⟩ rfl (Nat.le_of_ble_eq_true rfl) ⟨Nat.zero_le _, Nat.zero_le _⟩ rfl dX12_again_16 (fun H locs hR => ?_)
    refine lv_if_ne (tgt := 28) hx hb dX12_again_19 (by decide) (fun c10 => ?_) (fun c10 => ?_)
    · rw [if_neg c10] at hsp
      refine lv_aload_n hx hb dX12_again_28 rfl (lv_at hl 0 rfl) ?_
      refine lv_iload_n hx hb dX12_again_29 rfl (lv_at hl 1 rfl) ?_
      obtain ⟨h11, E12, hsp⟩ := fr_b1 hsp
      refine fq_callV (rest := []) (st1 := []) C hR (k_X12_layAgain C.2.2 ha E12) Y_X12_layAgain YV_X12_layAgain Lk_RX12_348 ha ⟨_, _, rfl, by decide⟩ rfl hl.1 ⟨Nat.le_of_ble_eq_true rfl, Nat.le_of_ble_eq_true rfl⟩ rfl (Nat.le_of_ble_eq_true rfl) ⟨Nat.zero_le _, Nat.zero_le _⟩ rfl dX12_again_30 (fun H locs hR => ?_)
      refine lv_iload_n hx hb dX12_again_33 rfl (lv_at hl 2 rfl) ?_
      refine lv_if_ne (tgt := 44) hx hb dX12_again_34 (by decide) (fun c13 => ?_) (fun c13 => ?_)
      · rw [if_neg c13] at hsp
        refine lv_aload_n hx hb dX12_again_44 rfl (lv_at hl 0 rfl) ?_
        refine fr_geti C hR ha Fg_RX12_341 rfl dX12_again_45 ?_
        obtain ⟨e1, e2⟩ := fr_s2 hsp
        exact fr_iret C hr hlocks hR e1 e2 dX12_again_48
      · rw [if_pos c13] at hsp
        refine lv_aload_n hx hb dX12_again_37 rfl (lv_at hl 0 rfl) ?_
        refine fr_geti C hR ha Fg_RX12_338 rfl dX12_again_38 ?_
        refine lv_goto (tgt := 48) hx hb dX12_again_41 (by decide) ?_
        obtain ⟨e1, e2⟩ := fr_s2 hsp
        exact fr_iret C hr hlocks hR e1 e2 dX12_again_48
    · rw [if_pos c10] at hsp
      refine lv_aload_n hx hb dX12_again_22 rfl (lv_at hl 0 rfl) ?_
      refine lv_iconst (v := 1) hx hb dX12_again_23 (by decide) ?_
      obtain ⟨r14, h15, E16, hsp⟩ := fr_b2 hsp
      refine fq_callV (rest := []) (st1 := [.int r14]) C hR (k_X12_fail C.2.2 ha E16) Y_X12_fail YV_X12_fail Lk_RX12_299 ha ⟨_, _, rfl, by decide⟩ rfl hl.1 ⟨Nat.le_of_ble_eq_true rfl, Nat.le_of_ble_eq_true rfl⟩ rfl (Nat.le_of_ble_eq_true rfl) ⟨Nat.zero_le _, Nat.zero_le _⟩ rfl dX12_again_24 (fun H locs hR => ?_)
      obtain ⟨e1, e2⟩ := fr_s2 hsp
      exact fr_iret C hr hlocks hR e1 e2 dX12_again_27

/-! TermRowsModel.left(III)I -/
def z_X12_left (S : fh_S) (h : fh_H) (a : Nat) (x1 : Int32) (x2 : Int32) (x3 : Int32) : Option (Int32 × fh_H) :=
    fh_let (fh_sI h a 3 (0 : Int32)) (fun h1 => fh_b1 (z_X12_isRow x1) (fun r2 => if r2 = 0 then (fh_b2 (z_X12_fail S h1 a (1 : Int32)) (fun r5 h6 => some (r5, h6))) else (fh_b1 (z_X12_of1 S h1 a x1 (0 : Int32)) (fun r8 => if r8 = (1 : Int32) then (fh_b1 (z_X12_isSquare S h1 a x1) (fun r14 => if r14 = 0 then (fh_b1 (z_X12_isIn (Int32.toInt64 x2) (0 : Int64) (59 : Int64)) (fun r20 => if r20 = 0 then (fh_b2 (z_X12_fail S h1 a (1 : Int32)) (fun r23 h24 => some (r23, h24))) else (fh_b1 (z_X12_isIn (Int32.toInt64 x3) (0 : Int64) (1 : Int64)) (fun r26 => if r26 = 0 then (fh_b2 (z_X12_fail S h1 a (1 : Int32)) (fun r40 h41 => some (r40, h41))) else (fh_b1 (z_X12_layStates S h1 a x1) (fun h29 => if x3 = 0 then (fh_b1 (h29.2.2 a 10) (fun j36 => fh_ck (fh_kq S j36 14) (fh_ck (fh_in x2 (S.2.2 j36)) (some ((Int64.toInt32 (h29.2.1 j36 (Int32.toNatClampNeg x2))), h29))))) else (fh_b1 (h29.2.2 a 11) (fun j32 => fh_ck (fh_kq S j32 14) (fh_ck (fh_in x2 (S.2.2 j32)) (some ((Int64.toInt32 (h29.2.1 j32 (Int32.toNatClampNeg x2))), h29))))))))))) else (fh_b2 (z_X12_fail S h1 a (1 : Int32)) (fun r17 h18 => some (r17, h18))))) else (fh_b2 (z_X12_fail S h1 a (1 : Int32)) (fun r11 h12 => some (r11, h12)))))))
set_option maxHeartbeats 4000000 in
set_option maxRecDepth 100000 in
theorem k_X12_left {l : Launch} {S : fh_S} {g : fh_G} {h h' : fh_H} (hj : fh_inj S g) {a : Nat} {x1 : Int32} {x2 : Int32} {x3 : Int32} {r : Int32} (ha : fh_kq S a 12 = true) (hsp : z_X12_left S h a x1 x2 x3 = some (r, h')) : fh_M l yX12_left cX12_left 4 (some .int) (fh_rm 4) S g [.ref (g.2.2 a), .int x1, .int x2, .int x3] h (some (.int r)) h' := by
  unfold z_X12_left at hsp
  refine fr_head (own := RX12) (by decide) rfl hj (Nat.le_of_ble_eq_true rfl) ?_
  intro p e s m below meth c ls C hr hlocks hR hl
  have hl : lv_has ls 4 [(0, .ref (g.2.2 a)), (1, .int x1), (2, .int x2), (3, .int x3)] := hl
  have hx := C.1.1
  have hb := C.1.2.1
  refine lv_aload_n hx hb dX12_left_0 rfl (lv_at hl 0 rfl) ?_
  refine lv_iconst (v := 0) hx hb dX12_left_1 (by decide) ?_
  refine fr_puti C hR ha Fp_RX12_73 rfl dX12_left_2 (fun H locs hR => ?_)
  obtain ⟨h1, eh1⟩ : ∃ z, z = fh_sI h a 3 (0 : Int32) := ⟨_, rfl⟩
  rw [← eh1] at hR
  have hsp := fr_let eh1 hsp
  refine lv_iload_n hx hb dX12_left_5 rfl (lv_at hl 1 rfl) ?_
  obtain ⟨r2, E3, hsp⟩ := fr_b1 hsp
  refine fq_callS (rest := []) (st1 := [.int r2]) C hR (k_X12_isRow C.2.2 E3) Y_X12_isRow YS_X12_isRow Lk_RX12_264 rfl hl.1 ⟨Nat.le_of_ble_eq_true rfl, Nat.le_of_ble_eq_true rfl⟩ rfl (Nat.le_of_ble_eq_true rfl) ⟨Nat.zero_le _, Nat.zero_le _⟩ rfl dX12_left_6 (fun H locs hR => ?_)
  refine lv_if_eq (tgt := 52) hx hb dX12_left_9 (by decide) (fun c4 => ?_) (fun c4 => ?_)
  · rw [if_pos c4] at hsp
    refine lv_aload_n hx hb dX12_left_52 rfl (lv_at hl 0 rfl) ?_
    refine lv_iconst (v := 1) hx hb dX12_left_53 (by decide) ?_
    obtain ⟨r5, h6, E7, hsp⟩ := fr_b2 hsp
    refine fq_callV (rest := []) (st1 := [.int r5]) C hR (k_X12_fail C.2.2 ha E7) Y_X12_fail YV_X12_fail Lk_RX12_299 ha ⟨_, _, rfl, by decide⟩ rfl hl.1 ⟨Nat.le_of_ble_eq_true rfl, Nat.le_of_ble_eq_true rfl⟩ rfl (Nat.le_of_ble_eq_true rfl) ⟨Nat.zero_le _, Nat.zero_le _⟩ rfl dX12_left_54 (fun H locs hR => ?_)
    obtain ⟨e1, e2⟩ := fr_s2 hsp
    exact fr_iret C hr hlocks hR e1 e2 dX12_left_57
  · rw [if_neg c4] at hsp
    refine lv_aload_n hx hb dX12_left_12 rfl (lv_at hl 0 rfl) ?_
    refine lv_iload_n hx hb dX12_left_13 rfl (lv_at hl 1 rfl) ?_
    refine lv_iconst (v := 0) hx hb dX12_left_14 (by decide) ?_
    obtain ⟨r8, E9, hsp⟩ := fr_b1 hsp
    refine fq_callV (rest := []) (st1 := [.int r8]) C hR (k_X12_of1 C.2.2 ha E9) Y_X12_of1 YV_X12_of1 Lk_RX12_86 ha ⟨_, _, rfl, by decide⟩ rfl hl.1 ⟨Nat.le_of_ble_eq_true rfl, Nat.le_of_ble_eq_true rfl⟩ rfl (Nat.le_of_ble_eq_true rfl) ⟨Nat.zero_le _, Nat.zero_le _⟩ rfl dX12_left_15 (fun H locs hR => ?_)
    refine lv_iconst (v := 1) hx hb dX12_left_18 (by decide) ?_
    refine lv_icmp_ne (tgt := 52) hx hb dX12_left_19 (by decide) (fun c10 => ?_) (fun c10 => ?_)
    · rw [if_neg c10] at hsp
      refine lv_aload_n hx hb dX12_left_52 rfl (lv_at hl 0 rfl) ?_
      refine lv_iconst (v := 1) hx hb dX12_left_53 (by decide) ?_
      obtain ⟨r11, h12, E13, hsp⟩ := fr_b2 hsp
      refine fq_callV (rest := []) (st1 := [.int r11]) C hR (k_X12_fail C.2.2 ha E13) Y_X12_fail YV_X12_fail Lk_RX12_299 ha ⟨_, _, rfl, by decide⟩ rfl hl.1 ⟨Nat.le_of_ble_eq_true rfl, Nat.le_of_ble_eq_true rfl⟩ rfl (Nat.le_of_ble_eq_true rfl) ⟨Nat.zero_le _, Nat.zero_le _⟩ rfl dX12_left_54 (fun H locs hR => ?_)
      obtain ⟨e1, e2⟩ := fr_s2 hsp
      exact fr_iret C hr hlocks hR e1 e2 dX12_left_57
    · rw [if_pos c10] at hsp
      refine lv_aload_n hx hb dX12_left_22 rfl (lv_at hl 0 rfl) ?_
      refine lv_iload_n hx hb dX12_left_23 rfl (lv_at hl 1 rfl) ?_
      obtain ⟨r14, E15, hsp⟩ := fr_b1 hsp
      refine fq_callV (rest := []) (st1 := [.int r14]) C hR (k_X12_isSquare C.2.2 ha E15) Y_X12_isSquare YV_X12_isSquare Lk_RX12_132 ha ⟨_, _, rfl, by decide⟩ rfl hl.1 ⟨Nat.le_of_ble_eq_true rfl, Nat.le_of_ble_eq_true rfl⟩ rfl (Nat.le_of_ble_eq_true rfl) ⟨Nat.zero_le _, Nat.zero_le _⟩ rfl dX12_left_24 (fun H locs hR => ?_)
      refine lv_if_ne (tgt := 52) hx hb dX12_left_27 (by decide) (fun c16 => ?_) (fun c16 => ?_)
      · rw [if_neg c16] at hsp
        refine lv_aload_n hx hb dX12_left_52 rfl (lv_at hl 0 rfl) ?_
        refine lv_iconst (v := 1) hx hb dX12_left_53 (by decide) ?_
        obtain ⟨r17, h18, E19, hsp⟩ := fr_b2 hsp
        refine fq_callV (rest := []) (st1 := [.int r17]) C hR (k_X12_fail C.2.2 ha E19) Y_X12_fail YV_X12_fail Lk_RX12_299 ha ⟨_, _, rfl, by decide⟩ rfl hl.1 ⟨Nat.le_of_ble_eq_true rfl, Nat.le_of_ble_eq_true rfl⟩ rfl (Nat.le_of_ble_eq_true rfl) ⟨Nat.zero_le _, Nat.zero_le _⟩ rfl dX12_left_54 (fun H locs hR => ?_)
        obtain ⟨e1, e2⟩ := fr_s2 hsp
        exact fr_iret C hr hlocks hR e1 e2 dX12_left_57
      · rw [if_pos c16] at hsp
        refine lv_iload_n hx hb dX12_left_30 rfl (lv_at hl 2 rfl) ?_
        refine lv_i2l hx hb dX12_left_31 rfl ?_
        refine lv_lconst (v := 0) hx hb dX12_left_32 (by decide) ?_
        refine lv_ldc2 hx hb C.1.2.2.2.1 (C.1.2.2.2.2 _ Kc_RX12_359) dX12_left_33 ?_
        obtain ⟨r20, E21, hsp⟩ := fr_b1 hsp
        refine fq_callS (rest := []) (st1 := [.int r20]) C hR (k_X12_isIn C.2.2 E21) Y_X12_isIn YS_X12_isIn Lk_RX12_78 rfl hl.1 ⟨Nat.le_of_ble_eq_true rfl, Nat.le_of_ble_eq_true rfl⟩ rfl (Nat.le_of_ble_eq_true rfl) ⟨Nat.zero_le _, Nat.zero_le _⟩ rfl dX12_left_36 (fun H locs hR => ?_)
        refine lv_if_eq (tgt := 52) hx hb dX12_left_39 (by decide) (fun c22 => ?_) (fun c22 => ?_)
        · rw [if_pos c22] at hsp
          refine lv_aload_n hx hb dX12_left_52 rfl (lv_at hl 0 rfl) ?_
          refine lv_iconst (v := 1) hx hb dX12_left_53 (by decide) ?_
          obtain ⟨r23, h24, E25, hsp⟩ := fr_b2 hsp
          refine fq_callV (rest := []) (st1 := [.int r23]) C hR (k_X12_fail C.2.2 ha E25) Y_X12_fail YV_X12_fail Lk_RX12_299 ha ⟨_, _, rfl, by decide⟩ rfl hl.1 ⟨Nat.le_of_ble_eq_true rfl, Nat.le_of_ble_eq_true rfl⟩ rfl (Nat.le_of_ble_eq_true rfl) ⟨Nat.zero_le _, Nat.zero_le _⟩ rfl dX12_left_54 (fun H locs hR => ?_)
          obtain ⟨e1, e2⟩ := fr_s2 hsp
          exact fr_iret C hr hlocks hR e1 e2 dX12_left_57
        · rw [if_neg c22] at hsp
          refine lv_iload_n hx hb dX12_left_42 rfl (lv_at hl 3 rfl) ?_
          refine lv_i2l hx hb dX12_left_43 rfl ?_
          refine lv_lconst (v := 0) hx hb dX12_left_44 (by decide) ?_
          refine lv_lconst (v := 1) hx hb dX12_left_45 (by decide) ?_
          obtain ⟨r26, E27, hsp⟩ := fr_b1 hsp
          refine fq_callS (rest := []) (st1 := [.int r26]) C hR (k_X12_isIn C.2.2 E27) Y_X12_isIn YS_X12_isIn Lk_RX12_78 rfl hl.1 ⟨Nat.le_of_ble_eq_true rfl, Nat.le_of_ble_eq_true rfl⟩ rfl (Nat.le_of_ble_eq_true rfl) ⟨Nat.zero_le _, Nat.zero_le _⟩ rfl dX12_left_46 (fun H locs hR => ?_)
          refine lv_if_ne (tgt := 58) hx hb dX12_left_49 (by decide) (fun c28 => ?_) (fun c28 => ?_)
          · rw [if_neg c28] at hsp
            refine lv_aload_n hx hb dX12_left_58 rfl (lv_at hl 0 rfl) ?_
            refine lv_iload_n hx hb dX12_left_59 rfl (lv_at hl 1 rfl) ?_
            obtain ⟨h29, E30, hsp⟩ := fr_b1 hsp
            refine fq_callV (rest := []) (st1 := []) C hR (k_X12_layStates C.2.2 ha E30) Y_X12_layStates YV_X12_layStates Lk_RX12_136 ha ⟨_, _, rfl, by decide⟩ rfl hl.1 ⟨Nat.le_of_ble_eq_true rfl, Nat.le_of_ble_eq_true rfl⟩ rfl (Nat.le_of_ble_eq_true rfl) ⟨Nat.zero_le _, Nat.zero_le _⟩ rfl dX12_left_60 (fun H locs hR => ?_)
            refine lv_iload_n hx hb dX12_left_63 rfl (lv_at hl 3 rfl) ?_
            refine lv_if_ne (tgt := 76) hx hb dX12_left_64 (by decide) (fun c31 => ?_) (fun c31 => ?_)
            · rw [if_neg c31] at hsp
              refine lv_aload_n hx hb dX12_left_76 rfl (lv_at hl 0 rfl) ?_
              obtain ⟨j32, hv33, hsp⟩ := fr_b1 hsp
              refine fr_getr C hR ha Fg_RX12_38 rfl hv33 dX12_left_77 ?_
              refine lv_iload_n hx hb dX12_left_80 rfl (lv_at hl 2 rfl) ?_
              obtain ⟨hk34, hsp⟩ := fr_ck hsp
              obtain ⟨hi35, hsp⟩ := fr_ck hsp
              refine fr_lald C hR hk34 hi35 dX12_left_81 ?_
              refine lv_l2i hx hb dX12_left_82 rfl ?_
              obtain ⟨e1, e2⟩ := fr_s2 hsp
              exact fr_iret C hr hlocks hR e1 e2 dX12_left_83
            · rw [if_pos c31] at hsp
              refine lv_aload_n hx hb dX12_left_67 rfl (lv_at hl 0 rfl) ?_
              obtain ⟨j36, hv37, hsp⟩ := fr_b1 hsp
              refine fr_getr C hR ha Fg_RX12_34 rfl hv37 dX12_left_68 ?_
              refine lv_iload_n hx hb dX12_left_71 rfl (lv_at hl 2 rfl) ?_
              obtain ⟨hk38, hsp⟩ := fr_ck hsp
              obtain ⟨hi39, hsp⟩ := fr_ck hsp
              refine fr_lald C hR hk38 hi39 dX12_left_72 ?_
              refine lv_goto (tgt := 82) hx hb dX12_left_73 (by decide) ?_
              refine lv_l2i hx hb dX12_left_82 rfl ?_
              obtain ⟨e1, e2⟩ := fr_s2 hsp
              exact fr_iret C hr hlocks hR e1 e2 dX12_left_83
          · rw [if_pos c28] at hsp
            refine lv_aload_n hx hb dX12_left_52 rfl (lv_at hl 0 rfl) ?_
            refine lv_iconst (v := 1) hx hb dX12_left_53 (by decide) ?_
            obtain ⟨r40, h41, E42, hsp⟩ := fr_b2 hsp
            refine fq_callV (rest := []) (st1 := [.int r40]) C hR (k_X12_fail C.2.2 ha E42) Y_X12_fail YV_X12_fail Lk_RX12_299 ha ⟨_, _, rfl, by decide⟩ rfl hl.1 ⟨Nat.le_of_ble_eq_true rfl, Nat.le_of_ble_eq_true rfl⟩ rfl (Nat.le_of_ble_eq_true rfl) ⟨Nat.zero_le _, Nat.zero_le _⟩ rfl dX12_left_54 (fun H locs hR => ?_)
            obtain ⟨e1, e2⟩ := fr_s2 hsp
            exact fr_iret C hr hlocks hR e1 e2 dX12_left_57

/-! TermRowsModel.must(I)V -/
def z_X12_must (S : fh_S) (h : fh_H) (a : Nat) (x1 : Int32) : Option fh_H :=
    fh_b1 (z_X12_isSign S h a x1) (fun r1 => if r1 = 0 then (fh_b1 (z_X12_wrong S h a (1 : Int32)) (fun h6 => fh_b1 (z_X12_pass S h6 a) (fun h8 => some h8))) else (fh_b1 (z_X12_pass S h a) (fun h4 => some h4)))
set_option maxHeartbeats 4000000 in
set_option maxRecDepth 100000 in
theorem k_X12_must {l : Launch} {S : fh_S} {g : fh_G} {h h' : fh_H} (hj : fh_inj S g) {a : Nat} {x1 : Int32} (ha : fh_kq S a 12 = true) (hsp : z_X12_must S h a x1 = some h') : fh_M l yX12_must cX12_must 2 none (fh_rm 4) S g [.ref (g.2.2 a), .int x1] h none h' := by
  unfold z_X12_must at hsp
  refine fr_head (own := RX12) (by decide) rfl hj (Nat.le_of_ble_eq_true rfl) ?_
  intro p e s m below meth c ls C hr hlocks hR hl
  have hl : lv_has ls 2 [(0, .ref (g.2.2 a)), (1, .int x1)] := hl
  have hx := C.1.1
  have hb := C.1.2.1
  refine lv_aload_n hx hb dX12_must_0 rfl (lv_at hl 0 rfl) ?_
  refine lv_iload_n hx hb dX12_must_1 rfl (lv_at hl 1 rfl) ?_
  obtain ⟨r1, E2, hsp⟩ := fr_b1 hsp
  refine fq_callV (rest := []) (st1 := [.int r1]) C hR (k_X12_isSign C.2.2 ha E2) Y_X12_isSign YV_X12_isSign Lk_RX12_431 ha ⟨_, _, rfl, by decide⟩ rfl hl.1 ⟨Nat.le_of_ble_eq_true rfl, Nat.le_of_ble_eq_true rfl⟩ rfl (Nat.le_of_ble_eq_true rfl) ⟨Nat.zero_le _, Nat.zero_le _⟩ rfl dX12_must_2 (fun H locs hR => ?_)
  refine lv_if_ne (tgt := 13) hx hb dX12_must_5 (by decide) (fun c3 => ?_) (fun c3 => ?_)
  · rw [if_neg c3] at hsp
    refine lv_aload_n hx hb dX12_must_13 rfl (lv_at hl 0 rfl) ?_
    obtain ⟨h4, E5, hsp⟩ := fr_b1 hsp
    refine fq_callV (rest := []) (st1 := []) C hR (k_X12_pass C.2.2 ha E5) Y_X12_pass YV_X12_pass Lk_RX12_437 ha ⟨_, _, rfl, by decide⟩ rfl hl.1 ⟨Nat.le_of_ble_eq_true rfl, Nat.le_of_ble_eq_true rfl⟩ rfl (Nat.le_of_ble_eq_true rfl) ⟨Nat.zero_le _, Nat.zero_le _⟩ rfl dX12_must_14 (fun H locs hR => ?_)
    exact fr_vret C hr hlocks hR (fr_s1 hsp) dX12_must_17
  · rw [if_pos c3] at hsp
    refine lv_aload_n hx hb dX12_must_8 rfl (lv_at hl 0 rfl) ?_
    refine lv_iconst (v := 1) hx hb dX12_must_9 (by decide) ?_
    obtain ⟨h6, E7, hsp⟩ := fr_b1 hsp
    refine fq_callV (rest := []) (st1 := []) C hR (k_X12_wrong C.2.2 ha E7) Y_X12_wrong YV_X12_wrong Lk_RX12_434 ha ⟨_, _, rfl, by decide⟩ rfl hl.1 ⟨Nat.le_of_ble_eq_true rfl, Nat.le_of_ble_eq_true rfl⟩ rfl (Nat.le_of_ble_eq_true rfl) ⟨Nat.zero_le _, Nat.zero_le _⟩ rfl dX12_must_10 (fun H locs hR => ?_)
    refine lv_aload_n hx hb dX12_must_13 rfl (lv_at hl 0 rfl) ?_
    obtain ⟨h8, E9, hsp⟩ := fr_b1 hsp
    refine fq_callV (rest := []) (st1 := []) C hR (k_X12_pass C.2.2 ha E9) Y_X12_pass YV_X12_pass Lk_RX12_437 ha ⟨_, _, rfl, by decide⟩ rfl hl.1 ⟨Nat.le_of_ble_eq_true rfl, Nat.le_of_ble_eq_true rfl⟩ rfl (Nat.le_of_ble_eq_true rfl) ⟨Nat.zero_le _, Nat.zero_le _⟩ rfl dX12_must_14 (fun H locs hR => ?_)
    exact fr_vret C hr hlocks hR (fr_s1 hsp) dX12_must_17

/-! TermRowsModel.number(II)I -/
def z_X12_number_b72 (S : fh_S) (a : Nat) (h : fh_H) (y1 : Int32) (y2 : Int32) (y3 : Int32) : Option (Int32 × fh_H) :=
    if (h.1 a 41) = 0 then (fh_b1 (z_X12_isIn (Int32.toInt64 y3) (Int32.toInt64 y1) (Int32.toInt64 y2)) (fun r4 => if r4 = 0 then (fh_b1 (z_X12_wrong S h a (2 : Int32)) (fun h9 => fh_b1 (z_X12_pass S h9 a) (fun h11 => some (y3, h11)))) else (fh_b1 (z_X12_pass S h a) (fun h7 => some (y3, h7))))) else (fh_b1 (z_X12_pass S h a) (fun h2 => some (y3, h2)))
def z_X12_number_b28 (S : fh_S) (a : Nat) : Nat → fh_H → Int32 → Int32 → Int32 → Int32 → Option (Int32 × fh_H)
  | 0, _, _, _, _, _ => none
  | n + 1, h, y1, y2, y3, y4 =>
    if (h.1 a 41) = 0 then (if (h.1 a 40) ≤ y4 then (z_X12_number_b72 S a h y1 y2 y3) else (fh_b1 (h.2.2 a 33) (fun j3 => fh_ck (fh_kq S j3 13) (fh_ck (fh_in y4 (S.2.2 j3)) (fh_b1 (z_J9_min_7cf53 (1000000 : Int32) ((((10 : Int32) * y3) + (h.1 j3 (Int32.toNatClampNeg y4))) - (48 : Int32))) (fun r7 => fh_let (y4 + 1) (fun v9 => z_X12_number_b28 S a n h y1 y2 r7 v9))))))) else (z_X12_number_b72 S a h y1 y2 y3)
def z_X12_number (S : fh_S) (h : fh_H) (a : Nat) (x1 : Int32) (x2 : Int32) : Option (Int32 × fh_H) :=
    if (h.1 a 41) = 0 then (if (h.1 a 38) = (2 : Int32) then (fh_let ((h.1 a 39)) (fun v4 => z_X12_number_b28 S a 20000 h x1 x2 (0 : Int32) v4)) else (fh_b1 (z_X12_wrong S h a (1 : Int32)) (fun h5 => fh_let ((h5.1 a 39)) (fun v7 => z_X12_number_b28 S a 20000 h5 x1 x2 (0 : Int32) v7)))) else (fh_let ((h.1 a 39)) (fun v2 => z_X12_number_b28 S a 20000 h x1 x2 (0 : Int32) v2))
set_option maxHeartbeats 4000000 in
set_option maxRecDepth 100000 in
theorem k_X12_number {l : Launch} {S : fh_S} {g : fh_G} {h h' : fh_H} (hj : fh_inj S g) {a : Nat} {x1 : Int32} {x2 : Int32} {r : Int32} (ha : fh_kq S a 12 = true) (hsp : z_X12_number S h a x1 x2 = some (r, h')) : fh_M l yX12_number cX12_number 5 (some .int) (fh_rm 4) S g [.ref (g.2.2 a), .int x1, .int x2] h (some (.int r)) h' := by
  unfold z_X12_number at hsp
  refine fr_head (own := RX12) (by decide) rfl hj (Nat.le_of_ble_eq_true rfl) ?_
  intro p e s m below meth c ls C hr hlocks hR hl
  have hl : lv_has ls 5 [(0, .ref (g.2.2 a)), (1, .int x1), (2, .int x2)] := hl
  have hx := C.1.1
  have hb := C.1.2.1
  have hb_72 : ∀ (h : fh_H) (y1 : Int32) (y2 : Int32) (y3 : Int32) (H : Heap) (locs : List Loc) (ls : Array Slot), z_X12_number_b72 S a h y1 y2 y3 = some (r, h') → fh_R S g s.heap h H locs → lv_has ls 5 [(0, .ref (g.2.2 a)), (1, .int y1), (2, .int y2), (3, .int y3)] → fh_Wk p l e 4 s m [.ref (g.2.2 a), .int x1, .int x2] below meth c S g (some (.int r)) h' H locs (F0 m 72 ls []) := by
    intro h y1 y2 y3 H locs ls hsp hR hl
    unfold z_X12_number_b72 at hsp
    refine lv_aload_n hx hb dX12_number_72 rfl (lv_at hl 0 rfl) ?_
    refine fr_geti C hR ha Fg_RX12_410 rfl dX12_number_73 ?_
    refine lv_if_ne (tgt := 96) hx hb dX12_number_76 (by decide) (fun c1 => ?_) (fun c1 => ?_)
    · rw [if_neg c1] at hsp
      refine lv_aload_n hx hb dX12_number_96 rfl (lv_at hl 0 rfl) ?_
      obtain ⟨h2, E3, hsp⟩ := fr_b1 hsp
      refine fq_callV (rest := []) (st1 := []) C hR (k_X12_pass C.2.2 ha E3) Y_X12_pass YV_X12_pass Lk_RX12_437 ha ⟨_, _, rfl, by decide⟩ rfl hl.1 ⟨Nat.le_of_ble_eq_true rfl, Nat.le_of_ble_eq_true rfl⟩ rfl (Nat.le_of_ble_eq_true rfl) ⟨Nat.zero_le _, Nat.zero_le _⟩ rfl dX12_number_97 (fun H locs hR => ?_)
      refine lv_iload_n hx hb dX12_number_100 rfl (lv_at hl 3 rfl) ?_
      obtain ⟨e1, e2⟩ := fr_s2 hsp
      exact fr_iret C hr hlocks hR e1 e2 dX12_number_101
    · rw [if_pos c1] at hsp
      refine lv_iload_n hx hb dX12_number_79 rfl (lv_at hl 3 rfl) ?_
      refine lv_i2l hx hb dX12_number_80 rfl ?_
      refine lv_iload_n hx hb dX12_number_81 rfl (lv_at hl 1 rfl) ?_
      refine lv_i2l hx hb dX12_number_82 rfl ?_
      refine lv_iload_n hx hb dX12_number_83 rfl (lv_at hl 2 rfl) ?_
      refine lv_i2l hx hb dX12_number_84 rfl ?_
      obtain ⟨r4, E5, hsp⟩ := fr_b1 hsp
      refine fq_callS (rest := []) (st1 := [.int r4]) C hR (k_X12_isIn C.2.2 E5) Y_X12_isIn YS_X12_isIn Lk_RX12_78 rfl hl.1 ⟨Nat.le_of_ble_eq_true rfl, Nat.le_of_ble_eq_true rfl⟩ rfl (Nat.le_of_ble_eq_true rfl) ⟨Nat.zero_le _, Nat.zero_le _⟩ rfl dX12_number_85 (fun H locs hR => ?_)
      refine lv_if_ne (tgt := 96) hx hb dX12_number_88 (by decide) (fun c6 => ?_) (fun c6 => ?_)
      · rw [if_neg c6] at hsp
        refine lv_aload_n hx hb dX12_number_96 rfl (lv_at hl 0 rfl) ?_
        obtain ⟨h7, E8, hsp⟩ := fr_b1 hsp
        refine fq_callV (rest := []) (st1 := []) C hR (k_X12_pass C.2.2 ha E8) Y_X12_pass YV_X12_pass Lk_RX12_437 ha ⟨_, _, rfl, by decide⟩ rfl hl.1 ⟨Nat.le_of_ble_eq_true rfl, Nat.le_of_ble_eq_true rfl⟩ rfl (Nat.le_of_ble_eq_true rfl) ⟨Nat.zero_le _, Nat.zero_le _⟩ rfl dX12_number_97 (fun H locs hR => ?_)
        refine lv_iload_n hx hb dX12_number_100 rfl (lv_at hl 3 rfl) ?_
        obtain ⟨e1, e2⟩ := fr_s2 hsp
        exact fr_iret C hr hlocks hR e1 e2 dX12_number_101
      · rw [if_pos c6] at hsp
        refine lv_aload_n hx hb dX12_number_91 rfl (lv_at hl 0 rfl) ?_
        refine lv_iconst (v := 2) hx hb dX12_number_92 (by decide) ?_
        obtain ⟨h9, E10, hsp⟩ := fr_b1 hsp
        refine fq_callV (rest := []) (st1 := []) C hR (k_X12_wrong C.2.2 ha E10) Y_X12_wrong YV_X12_wrong Lk_RX12_434 ha ⟨_, _, rfl, by decide⟩ rfl hl.1 ⟨Nat.le_of_ble_eq_true rfl, Nat.le_of_ble_eq_true rfl⟩ rfl (Nat.le_of_ble_eq_true rfl) ⟨Nat.zero_le _, Nat.zero_le _⟩ rfl dX12_number_93 (fun H locs hR => ?_)
        refine lv_aload_n hx hb dX12_number_96 rfl (lv_at hl 0 rfl) ?_
        obtain ⟨h11, E12, hsp⟩ := fr_b1 hsp
        refine fq_callV (rest := []) (st1 := []) C hR (k_X12_pass C.2.2 ha E12) Y_X12_pass YV_X12_pass Lk_RX12_437 ha ⟨_, _, rfl, by decide⟩ rfl hl.1 ⟨Nat.le_of_ble_eq_true rfl, Nat.le_of_ble_eq_true rfl⟩ rfl (Nat.le_of_ble_eq_true rfl) ⟨Nat.zero_le _, Nat.zero_le _⟩ rfl dX12_number_97 (fun H locs hR => ?_)
        refine lv_iload_n hx hb dX12_number_100 rfl (lv_at hl 3 rfl) ?_
        obtain ⟨e1, e2⟩ := fr_s2 hsp
        exact fr_iret C hr hlocks hR e1 e2 dX12_number_101
  have hb_28 : ∀ (n : Nat) (h : fh_H) (y1 : Int32) (y2 : Int32) (y3 : Int32) (y4 : Int32) (H : Heap) (locs : List Loc) (ls : Array Slot), z_X12_number_b28 S a n h y1 y2 y3 y4 = some (r, h') → fh_R S g s.heap h H locs → lv_has ls 5 [(0, .ref (g.2.2 a)), (1, .int y1), (2, .int y2), (3, .int y3), (4, .int y4)] → fh_Wk p l e 4 s m [.ref (g.2.2 a), .int x1, .int x2] below meth c S g (some (.int r)) h' H locs (F0 m 28 ls []) := by
    intro n
    induction n with
    | zero => intro h y1 y2 y3 y4 H locs ls hsp; cases hsp
    | succ n ih =>
      intro h y1 y2 y3 y4 H locs ls hsp hR hl
      rw [z_X12_number_b28] at hsp
      refine lv_aload_n hx hb dX12_number_28 rfl (lv_at hl 0 rfl) ?_
      refine fr_geti C hR ha Fg_RX12_410 rfl dX12_number_29 ?_
      refine lv_if_ne (tgt := 72) hx hb dX12_number_32 (by decide) (fun c1 => ?_) (fun c1 => ?_)
      · rw [if_neg c1] at hsp
        exact hb_72 h y1 y2 y3 _ _ _ hsp hR (lv_sub hl [0, 1, 2, 3] rfl)
      · rw [if_pos c1] at hsp
        refine lv_iload hx hb dX12_number_35 (lv_at hl 4 rfl) ?_
        refine lv_aload_n hx hb dX12_number_37 rfl (lv_at hl 0 rfl) ?_
        refine fr_geti C hR ha Fg_RX12_407 rfl dX12_number_38 ?_
        refine lv_icmp_ge (tgt := 72) hx hb dX12_number_41 (by decide) (fun c2 => ?_) (fun c2 => ?_)
        · rw [if_pos c2] at hsp
          exact hb_72 h y1 y2 y3 _ _ _ hsp hR (lv_sub hl [0, 1, 2, 3] rfl)
        · rw [if_neg c2] at hsp
          refine lv_ldcw hx hb C.1.2.2.2.1 (C.1.2.2.2.2 _ Kc_RX12_440) dX12_number_44 ?_
          refine lv_bipush (v := 10) hx hb dX12_number_47 (by decide) ?_
          refine lv_iload_n hx hb dX12_number_49 rfl (lv_at hl 3 rfl) ?_
          refine lv_imul hx hb dX12_number_50 ?_
          refine lv_aload_n hx hb dX12_number_51 rfl (lv_at hl 0 rfl) ?_
          obtain ⟨j3, hv4, hsp⟩ := fr_b1 hsp
          refine fr_getr C hR ha Fg_RX12_56 rfl hv4 dX12_number_52 ?_
          refine lv_iload hx hb dX12_number_55 (lv_at hl 4 rfl) ?_
          obtain ⟨hk5, hsp⟩ := fr_ck hsp
          obtain ⟨hi6, hsp⟩ := fr_ck hsp
          refine fr_iald C hR hk5 hi6 dX12_number_57 ?_
          refine lv_iadd hx hb dX12_number_58 ?_
          refine lv_bipush (v := 48) hx hb dX12_number_59 (by decide) ?_
          refine lv_isub hx hb dX12_number_61 ?_
          obtain ⟨r7, E8, hsp⟩ := fr_b1 hsp
          refine fq_callS (rest := []) (st1 := [.int r7]) C hR (k_J9_min_7cf53 C.2.2 E8) Y_J9_min_7cf53 YS_J9_min_7cf53 Lk_RX12_383 rfl hl.1 ⟨Nat.le_of_ble_eq_true rfl, Nat.le_of_ble_eq_true rfl⟩ rfl (Nat.le_of_ble_eq_true rfl) ⟨Nat.zero_le _, Nat.zero_le _⟩ rfl dX12_number_62 (fun H locs hR => ?_)
          refine lv_istore_n (lv' := [(3, .int r7), (0, .ref (g.2.2 a)), (1, .int y1), (2, .int y2), (4, .int y4)]) hx hb dX12_number_65 rfl hl (by decide) rfl (fun ls hl => ?_)
          obtain ⟨v9, ev9⟩ : ∃ z : Int32, z = y4 + 1 := ⟨_, rfl⟩
          have hsp := fr_let ev9 hsp
          refine lv_iinc (v := v9) (lv' := [(4, .int v9), (3, .int r7), (0, .ref (g.2.2 a)), (1, .int y1), (2, .int y2)]) hx hb dX12_number_66 hl (k := 4) rfl (by rw [ev9]; rfl) (by decide) rfl (fun ls hl => ?_)
          refine lv_goto (tgt := 28) hx hb dX12_number_69 (by decide) ?_
          exact ih h y1 y2 r7 v9 _ _ _ hsp hR (lv_sub hl [2, 3, 4, 1, 0] rfl)
  refine lv_aload_n hx hb dX12_number_0 rfl (lv_at hl 0 rfl) ?_
  refine fr_geti C hR ha Fg_RX12_410 rfl dX12_number_1 ?_
  refine lv_if_ne (tgt := 20) hx hb dX12_number_4 (by decide) (fun c1 => ?_) (fun c1 => ?_)
  · rw [if_neg c1] at hsp
    refine lv_iconst (v := 0) hx hb dX12_number_20 (by decide) ?_
    refine lv_istore_n (lv' := [(3, .int (0 : Int32)), (0, .ref (g.2.2 a)), (1, .int x1), (2, .int x2)]) hx hb dX12_number_21 rfl hl (by decide) rfl (fun ls hl => ?_)
    refine lv_aload_n hx hb dX12_number_22 rfl (lv_at hl 1 rfl) ?_
    refine fr_geti C hR ha Fg_RX12_395 rfl dX12_number_23 ?_
    refine lv_topi (fun v2 ev2 => ?_)
    have hsp := fr_let ev2 hsp
    refine lv_istore (lv' := [(4, .int v2), (3, .int (0 : Int32)), (0, .ref (g.2.2 a)), (1, .int x1), (2, .int x2)]) hx hb dX12_number_26 hl (by decide) rfl (fun ls hl => ?_)
    exact hb_28 20000 h x1 x2 (0 : Int32) v2 _ _ _ hsp hR (lv_sub hl [2, 3, 4, 1, 0] rfl)
  · rw [if_pos c1] at hsp
    refine lv_aload_n hx hb dX12_number_7 rfl (lv_at hl 0 rfl) ?_
    refine fr_geti C hR ha Fg_RX12_398 rfl dX12_number_8 ?_
    refine lv_iconst (v := 2) hx hb dX12_number_11 (by decide) ?_
    refine lv_icmp_eq (tgt := 20) hx hb dX12_number_12 (by decide) (fun c3 => ?_) (fun c3 => ?_)
    · rw [if_pos c3] at hsp
      refine lv_iconst (v := 0) hx hb dX12_number_20 (by decide) ?_
      refine lv_istore_n (lv' := [(3, .int (0 : Int32)), (0, .ref (g.2.2 a)), (1, .int x1), (2, .int x2)]) hx hb dX12_number_21 rfl hl (by decide) rfl (fun ls hl => ?_)
      refine lv_aload_n hx hb dX12_number_22 rfl (lv_at hl 1 rfl) ?_
      refine fr_geti C hR ha Fg_RX12_395 rfl dX12_number_23 ?_
      refine lv_topi (fun v4 ev4 => ?_)
      have hsp := fr_let ev4 hsp
      refine lv_istore (lv' := [(4, .int v4), (3, .int (0 : Int32)), (0, .ref (g.2.2 a)), (1, .int x1), (2, .int x2)]) hx hb dX12_number_26 hl (by decide) rfl (fun ls hl => ?_)
      exact hb_28 20000 h x1 x2 (0 : Int32) v4 _ _ _ hsp hR (lv_sub hl [2, 3, 4, 1, 0] rfl)
    · rw [if_neg c3] at hsp
      refine lv_aload_n hx hb dX12_number_15 rfl (lv_at hl 0 rfl) ?_
      refine lv_iconst (v := 1) hx hb dX12_number_16 (by decide) ?_
      obtain ⟨h5, E6, hsp⟩ := fr_b1 hsp
      refine fq_callV (rest := []) (st1 := []) C hR (k_X12_wrong C.2.2 ha E6) Y_X12_wrong YV_X12_wrong Lk_RX12_434 ha ⟨_, _, rfl, by decide⟩ rfl hl.1 ⟨Nat.le_of_ble_eq_true rfl, Nat.le_of_ble_eq_true rfl⟩ rfl (Nat.le_of_ble_eq_true rfl) ⟨Nat.zero_le _, Nat.zero_le _⟩ rfl dX12_number_17 (fun H locs hR => ?_)
      refine lv_iconst (v := 0) hx hb dX12_number_20 (by decide) ?_
      refine lv_istore_n (lv' := [(3, .int (0 : Int32)), (0, .ref (g.2.2 a)), (1, .int x1), (2, .int x2)]) hx hb dX12_number_21 rfl hl (by decide) rfl (fun ls hl => ?_)
      refine lv_aload_n hx hb dX12_number_22 rfl (lv_at hl 1 rfl) ?_
      refine fr_geti C hR ha Fg_RX12_395 rfl dX12_number_23 ?_
      refine lv_topi (fun v7 ev7 => ?_)
      have hsp := fr_let ev7 hsp
      refine lv_istore (lv' := [(4, .int v7), (3, .int (0 : Int32)), (0, .ref (g.2.2 a)), (1, .int x1), (2, .int x2)]) hx hb dX12_number_26 hl (by decide) rfl (fun ls hl => ?_)
      exact hb_28 20000 h5 x1 x2 (0 : Int32) v7 _ _ _ hsp hR (lv_sub hl [2, 3, 4, 1, 0] rfl)

/-! TermRowsModel.goesIn()V -/
def z_X12_goesIn_b21 (S : fh_S) (a : Nat) (h : fh_H) : Option fh_H :=
    fh_let (fh_sI h a 44 ((h.1 a 44) + (1 : Int32))) (fun h1 => fh_b1 (z_X12_pass S h1 a) (fun h2 => some h2))
def z_X12_goesIn (S : fh_S) (h : fh_H) (a : Nat) : Option fh_H :=
    if (h.1 a 41) = 0 then (if (h.1 a 44) = (6 : Int32) then (fh_b1 (z_X12_wrong S h a (3 : Int32)) (fun h3 => z_X12_goesIn_b21 S a h3)) else (z_X12_goesIn_b21 S a h)) else (z_X12_goesIn_b21 S a h)
set_option maxHeartbeats 4000000 in
set_option maxRecDepth 100000 in
theorem k_X12_goesIn {l : Launch} {S : fh_S} {g : fh_G} {h h' : fh_H} (hj : fh_inj S g) {a : Nat} (ha : fh_kq S a 12 = true) (hsp : z_X12_goesIn S h a = some h') : fh_M l yX12_goesIn cX12_goesIn 1 none (fh_rm 4) S g [.ref (g.2.2 a)] h none h' := by
  unfold z_X12_goesIn at hsp
  refine fr_head (own := RX12) (by decide) rfl hj (Nat.le_of_ble_eq_true rfl) ?_
  intro p e s m below meth c ls C hr hlocks hR hl
  have hl : lv_has ls 1 [(0, .ref (g.2.2 a))] := hl
  have hx := C.1.1
  have hb := C.1.2.1
  have hb_21 : ∀ (h : fh_H) (H : Heap) (locs : List Loc) (ls : Array Slot), z_X12_goesIn_b21 S a h = some h' → fh_R S g s.heap h H locs → lv_has ls 1 [(0, .ref (g.2.2 a))] → fh_Wk p l e 4 s m [.ref (g.2.2 a)] below meth c S g none h' H locs (F0 m 21 ls []) := by
    intro h  H locs ls hsp hR hl
    unfold z_X12_goesIn_b21 at hsp
    refine lv_aload_n hx hb dX12_goesIn_21 rfl (lv_at hl 0 rfl) ?_
    refine lv_dup hx hb dX12_goesIn_22 rfl ?_
    refine fr_geti C hR ha Fg_RX12_413 rfl dX12_goesIn_23 ?_
    refine lv_iconst (v := 1) hx hb dX12_goesIn_26 (by decide) ?_
    refine lv_iadd hx hb dX12_goesIn_27 ?_
    refine fr_puti C hR ha Fp_RX12_413 rfl dX12_goesIn_28 (fun H locs hR => ?_)
    obtain ⟨h1, eh1⟩ : ∃ z, z = fh_sI h a 44 ((h.1 a 44) + (1 : Int32)) := ⟨_, rfl⟩
    rw [← eh1] at hR
    have hsp := fr_let eh1 hsp
    refine lv_aload_n hx hb dX12_goesIn_31 rfl (lv_at hl 0 rfl) ?_
    obtain ⟨h2, E3, hsp⟩ := fr_b1 hsp
    refine fq_callV (rest := []) (st1 := []) C hR (k_X12_pass C.2.2 ha E3) Y_X12_pass YV_X12_pass Lk_RX12_437 ha ⟨_, _, rfl, by decide⟩ rfl hl.1 ⟨Nat.le_of_ble_eq_true rfl, Nat.le_of_ble_eq_true rfl⟩ rfl (Nat.le_of_ble_eq_true rfl) ⟨Nat.zero_le _, Nat.zero_le _⟩ rfl dX12_goesIn_32 (fun H locs hR => ?_)
    exact fr_vret C hr hlocks hR (fr_s1 hsp) dX12_goesIn_35
  refine lv_aload_n hx hb dX12_goesIn_0 rfl (lv_at hl 0 rfl) ?_
  refine fr_geti C hR ha Fg_RX12_410 rfl dX12_goesIn_1 ?_
  refine lv_if_ne (tgt := 21) hx hb dX12_goesIn_4 (by decide) (fun c1 => ?_) (fun c1 => ?_)
  · rw [if_neg c1] at hsp
    exact hb_21 h _ _ _ hsp hR (lv_sub hl [0] rfl)
  · rw [if_pos c1] at hsp
    refine lv_aload_n hx hb dX12_goesIn_7 rfl (lv_at hl 0 rfl) ?_
    refine fr_geti C hR ha Fg_RX12_413 rfl dX12_goesIn_8 ?_
    refine lv_bipush (v := 6) hx hb dX12_goesIn_11 (by decide) ?_
    refine lv_icmp_ne (tgt := 21) hx hb dX12_goesIn_13 (by decide) (fun c2 => ?_) (fun c2 => ?_)
    · rw [if_neg c2] at hsp
      exact hb_21 h _ _ _ hsp hR (lv_sub hl [0] rfl)
    · rw [if_pos c2] at hsp
      refine lv_aload_n hx hb dX12_goesIn_16 rfl (lv_at hl 0 rfl) ?_
      refine lv_iconst (v := 3) hx hb dX12_goesIn_17 (by decide) ?_
      obtain ⟨h3, E4, hsp⟩ := fr_b1 hsp
      refine fq_callV (rest := []) (st1 := []) C hR (k_X12_wrong C.2.2 ha E4) Y_X12_wrong YV_X12_wrong Lk_RX12_434 ha ⟨_, _, rfl, by decide⟩ rfl hl.1 ⟨Nat.le_of_ble_eq_true rfl, Nat.le_of_ble_eq_true rfl⟩ rfl (Nat.le_of_ble_eq_true rfl) ⟨Nat.zero_le _, Nat.zero_le _⟩ rfl dX12_goesIn_18 (fun H locs hR => ?_)
      exact hb_21 h3 _ _ _ hsp hR (lv_sub hl [0] rfl)

/-! TermRowsModel.goesToNext()I -/
def z_X12_goesToNext_b0 (S : fh_S) (a : Nat) : Nat → fh_H → Option (Int32 × fh_H)
  | 0, _ => none
  | n + 1, h =>
    fh_b1 (z_X12_hasEnded S h a) (fun r1 => if r1 = 0 then (fh_b1 (z_X12_isSure S h a) (fun r4 => if r4 = 0 then (fh_b2 (z_X12_reads S h a) (fun r7 h8 => if r7 = (-1 : Int32) then (z_X12_goesToNext_b0 S a n h8) else (some (r7, h8)))) else (fh_b1 (h.2.2 a 13) (fun j11 => fh_ck (fh_kq S j11 14) (fh_ck (fh_in (0 : Int32) (S.2.2 j11)) (fh_ck (fh_in (4 : Int32) (S.2.2 j11)) (fh_b1 (z_J9_floorDiv_f86c9 (h.2.1 j11 (Int32.toNatClampNeg (0 : Int32))) (h.2.1 j11 (Int32.toNatClampNeg (4 : Int32)))) (fun r16 => fh_let (fh_sJ h a 25 r16) (fun h18 => fh_b2 (z_X12_letsOut S h18 a (h18.2.1 a 25)) (fun r19 h20 => if r19 = 0 then (some ((2 : Int32), h20)) else (some ((-1 : Int32), h20)))))))))))) else (some ((1 : Int32), h)))
def z_X12_goesToNext (S : fh_S) (h : fh_H) (a : Nat) : Option (Int32 × fh_H) :=
    fh_b1 (z_X12_hasEnded S h a) (fun r1 => if r1 = 0 then (fh_b1 (z_X12_isSure S h a) (fun r4 => if r4 = 0 then (fh_b2 (z_X12_reads S h a) (fun r7 h8 => if r7 = (-1 : Int32) then (z_X12_goesToNext_b0 S a 20000 h8) else (some (r7, h8)))) else (fh_b1 (h.2.2 a 13) (fun j11 => fh_ck (fh_kq S j11 14) (fh_ck (fh_in (0 : Int32) (S.2.2 j11)) (fh_ck (fh_in (4 : Int32) (S.2.2 j11)) (fh_b1 (z_J9_floorDiv_f86c9 (h.2.1 j11 (Int32.toNatClampNeg (0 : Int32))) (h.2.1 j11 (Int32.toNatClampNeg (4 : Int32)))) (fun r16 => fh_let (fh_sJ h a 25 r16) (fun h18 => fh_b2 (z_X12_letsOut S h18 a (h18.2.1 a 25)) (fun r19 h20 => if r19 = 0 then (some ((2 : Int32), h20)) else (some ((-1 : Int32), h20)))))))))))) else (some ((1 : Int32), h)))
set_option maxHeartbeats 4000000 in
set_option maxRecDepth 100000 in
theorem k_X12_goesToNext {l : Launch} {S : fh_S} {g : fh_G} {h h' : fh_H} (hj : fh_inj S g) {a : Nat} {r : Int32} (ha : fh_kq S a 12 = true) (hsp : z_X12_goesToNext S h a = some (r, h')) : fh_M l yX12_goesToNext cX12_goesToNext 2 (some .int) (fh_rm 5) S g [.ref (g.2.2 a)] h (some (.int r)) h' := by
  unfold z_X12_goesToNext at hsp
  refine fr_head (own := RX12) (by decide) rfl hj (Nat.le_of_ble_eq_true rfl) ?_
  intro p e s m below meth c ls C hr hlocks hR hl
  have hl : lv_has ls 2 [(0, .ref (g.2.2 a))] := hl
  have hx := C.1.1
  have hb := C.1.2.1
  have hb_0 : ∀ (n : Nat) (h : fh_H) (H : Heap) (locs : List Loc) (ls : Array Slot), z_X12_goesToNext_b0 S a n h = some (r, h') → fh_R S g s.heap h H locs → lv_has ls 2 [(0, .ref (g.2.2 a))] → fh_Wk p l e 5 s m [.ref (g.2.2 a)] below meth c S g (some (.int r)) h' H locs (F0 m 0 ls []) := by
    intro n
    induction n with
    | zero => intro h  H locs ls hsp; cases hsp
    | succ n ih =>
      intro h  H locs ls hsp hR hl
      rw [z_X12_goesToNext_b0] at hsp
      refine lv_aload_n hx hb dX12_goesToNext_0 rfl (lv_at hl 0 rfl) ?_
      obtain ⟨r1, E2, hsp⟩ := fr_b1 hsp
      refine fq_callV (rest := []) (st1 := [.int r1]) C hR (k_X12_hasEnded C.2.2 ha E2) Y_X12_hasEnded YV_X12_hasEnded Lk_RX12_232 ha ⟨_, _, rfl, by decide⟩ rfl hl.1 ⟨Nat.le_of_ble_eq_true rfl, Nat.le_of_ble_eq_true rfl⟩ rfl (Nat.le_of_ble_eq_true rfl) ⟨Nat.zero_le _, Nat.zero_le _⟩ rfl dX12_goesToNext_1 (fun H locs hR => ?_)
      refine lv_if_eq (tgt := 9) hx hb dX12_goesToNext_4 (by decide) (fun c3 => ?_) (fun c3 => ?_)
      · rw [if_pos c3] at hsp
        refine lv_aload_n hx hb dX12_goesToNext_9 rfl (lv_at hl 0 rfl) ?_
        obtain ⟨r4, E5, hsp⟩ := fr_b1 hsp
        refine fq_callV (rest := []) (st1 := [.int r4]) C hR (k_X12_isSure C.2.2 ha E5) Y_X12_isSure YV_X12_isSure Lk_RX12_235 ha ⟨_, _, rfl, by decide⟩ rfl hl.1 ⟨Nat.le_of_ble_eq_true rfl, Nat.le_of_ble_eq_true rfl⟩ rfl (Nat.le_of_ble_eq_true rfl) ⟨Nat.zero_le _, Nat.zero_le _⟩ rfl dX12_goesToNext_10 (fun H locs hR => ?_)
        refine lv_if_eq (tgt := 52) hx hb dX12_goesToNext_13 (by decide) (fun c6 => ?_) (fun c6 => ?_)
        · rw [if_pos c6] at hsp
          refine lv_aload_n hx hb dX12_goesToNext_52 rfl (lv_at hl 0 rfl) ?_
          obtain ⟨r7, h8, E9, hsp⟩ := fr_b2 hsp
          refine fq_callV (rest := []) (st1 := [.int r7]) C hR (k_X12_reads C.2.2 ha E9) Y_X12_reads YV_X12_reads Lk_RX12_245 ha ⟨_, _, rfl, by decide⟩ rfl hl.1 ⟨Nat.le_of_ble_eq_true rfl, Nat.le_of_ble_eq_true rfl⟩ rfl (Nat.le_of_ble_eq_true rfl) ⟨Nat.zero_le _, Nat.zero_le _⟩ rfl dX12_goesToNext_53 (fun H locs hR => ?_)
          refine lv_istore_n (lv' := [(1, .int r7), (0, .ref (g.2.2 a))]) hx hb dX12_goesToNext_56 rfl hl (by decide) rfl (fun ls hl => ?_)
          refine lv_iload_n hx hb dX12_goesToNext_57 rfl (lv_at hl 0 rfl) ?_
          refine lv_iconst (v := -1) hx hb dX12_goesToNext_58 (by decide) ?_
          refine lv_icmp_eq (tgt := 64) hx hb dX12_goesToNext_59 (by decide) (fun c10 => ?_) (fun c10 => ?_)
          · rw [if_pos c10] at hsp
            refine lv_goto (tgt := 0) hx hb dX12_goesToNext_64 (by decide) ?_
            exact ih h8 _ _ _ hsp hR (lv_sub hl [1] rfl)
          · rw [if_neg c10] at hsp
            refine lv_iload_n hx hb dX12_goesToNext_62 rfl (lv_at hl 0 rfl) ?_
            obtain ⟨e1, e2⟩ := fr_s2 hsp
            exact fr_iret C hr hlocks hR e1 e2 dX12_goesToNext_63
        · rw [if_neg c6] at hsp
          refine lv_aload_n hx hb dX12_goesToNext_16 rfl (lv_at hl 0 rfl) ?_
          refine lv_aload_n hx hb dX12_goesToNext_17 rfl (lv_at hl 0 rfl) ?_
          obtain ⟨j11, hv12, hsp⟩ := fr_b1 hsp
          refine fr_getr C hR ha Fg_RX12_41 rfl hv12 dX12_goesToNext_18 ?_
          refine lv_iconst (v := 0) hx hb dX12_goesToNext_21 (by decide) ?_
          obtain ⟨hk13, hsp⟩ := fr_ck hsp
          obtain ⟨hi14, hsp⟩ := fr_ck hsp
          refine fr_lald C hR hk13 hi14 dX12_goesToNext_22 ?_
          refine lv_aload_n hx hb dX12_goesToNext_23 rfl (lv_at hl 0 rfl) ?_
          refine fr_getr C hR ha Fg_RX12_41 rfl hv12 dX12_goesToNext_24 ?_
          refine lv_iconst (v := 4) hx hb dX12_goesToNext_27 (by decide) ?_
          obtain ⟨hi15, hsp⟩ := fr_ck hsp
          refine fr_lald C hR hk13 hi15 dX12_goesToNext_28 ?_
          obtain ⟨r16, E17, hsp⟩ := fr_b1 hsp
          refine fq_callS (rest := [.ref (g.2.2 a)]) (st1 := [.long r16, .ref (g.2.2 a)]) C hR (k_J9_floorDiv_f86c9 C.2.2 E17) Y_J9_floorDiv_f86c9 YS_J9_floorDiv_f86c9 Lk_RX12_103 rfl hl.1 ⟨Nat.le_of_ble_eq_true rfl, Nat.le_of_ble_eq_true rfl⟩ rfl (Nat.le_of_ble_eq_true rfl) ⟨Nat.zero_le _, Nat.zero_le _⟩ rfl dX12_goesToNext_29 (fun H locs hR => ?_)
          refine fr_putj C hR ha Fp_RX12_238 rfl dX12_goesToNext_32 (fun H locs hR => ?_)
          obtain ⟨h18, eh18⟩ : ∃ z, z = fh_sJ h a 25 r16 := ⟨_, rfl⟩
          rw [← eh18] at hR
          have hsp := fr_let eh18 hsp
          refine lv_aload_n hx hb dX12_goesToNext_35 rfl (lv_at hl 0 rfl) ?_
          refine lv_aload_n hx hb dX12_goesToNext_36 rfl (lv_at hl 0 rfl) ?_
          refine fr_getj C hR ha Fg_RX12_238 rfl dX12_goesToNext_37 ?_
          obtain ⟨r19, h20, E21, hsp⟩ := fr_b2 hsp
          refine fq_callV (rest := []) (st1 := [.int r19]) C hR (k_X12_letsOut C.2.2 ha E21) Y_X12_letsOut YV_X12_letsOut Lk_RX12_241 ha ⟨_, _, rfl, by decide⟩ rfl hl.1 ⟨Nat.le_of_ble_eq_true rfl, Nat.le_of_ble_eq_true rfl⟩ rfl (Nat.le_of_ble_eq_true rfl) ⟨Nat.zero_le _, Nat.zero_le _⟩ rfl dX12_goesToNext_40 (fun H locs hR => ?_)
          refine lv_if_eq (tgt := 50) hx hb dX12_goesToNext_43 (by decide) (fun c22 => ?_) (fun c22 => ?_)
          · rw [if_pos c22] at hsp
            refine lv_iconst (v := 2) hx hb dX12_goesToNext_50 (by decide) ?_
            obtain ⟨e1, e2⟩ := fr_s2 hsp
            exact fr_iret C hr hlocks hR e1 e2 dX12_goesToNext_51
          · rw [if_neg c22] at hsp
            refine lv_iconst (v := -1) hx hb dX12_goesToNext_46 (by decide) ?_
            refine lv_goto (tgt := 51) hx hb dX12_goesToNext_47 (by decide) ?_
            obtain ⟨e1, e2⟩ := fr_s2 hsp
            exact fr_iret C hr hlocks hR e1 e2 dX12_goesToNext_51
      · rw [if_neg c3] at hsp
        refine lv_iconst (v := 1) hx hb dX12_goesToNext_7 (by decide) ?_
        obtain ⟨e1, e2⟩ := fr_s2 hsp
        exact fr_iret C hr hlocks hR e1 e2 dX12_goesToNext_8
  refine lv_aload_n hx hb dX12_goesToNext_0 rfl (lv_at hl 0 rfl) ?_
  obtain ⟨r1, E2, hsp⟩ := fr_b1 hsp
  refine fq_callV (rest := []) (st1 := [.int r1]) C hR (k_X12_hasEnded C.2.2 ha E2) Y_X12_hasEnded YV_X12_hasEnded Lk_RX12_232 ha ⟨_, _, rfl, by decide⟩ rfl hl.1 ⟨Nat.le_of_ble_eq_true rfl, Nat.le_of_ble_eq_true rfl⟩ rfl (Nat.le_of_ble_eq_true rfl) ⟨Nat.zero_le _, Nat.zero_le _⟩ rfl dX12_goesToNext_1 (fun H locs hR => ?_)
  refine lv_if_eq (tgt := 9) hx hb dX12_goesToNext_4 (by decide) (fun c3 => ?_) (fun c3 => ?_)
  · rw [if_pos c3] at hsp
    refine lv_aload_n hx hb dX12_goesToNext_9 rfl (lv_at hl 0 rfl) ?_
    obtain ⟨r4, E5, hsp⟩ := fr_b1 hsp
    refine fq_callV (rest := []) (st1 := [.int r4]) C hR (k_X12_isSure C.2.2 ha E5) Y_X12_isSure YV_X12_isSure Lk_RX12_235 ha ⟨_, _, rfl, by decide⟩ rfl hl.1 ⟨Nat.le_of_ble_eq_true rfl, Nat.le_of_ble_eq_true rfl⟩ rfl (Nat.le_of_ble_eq_true rfl) ⟨Nat.zero_le _, Nat.zero_le _⟩ rfl dX12_goesToNext_10 (fun H locs hR => ?_)
    refine lv_if_eq (tgt := 52) hx hb dX12_goesToNext_13 (by decide) (fun c6 => ?_) (fun c6 => ?_)
    · rw [if_pos c6] at hsp
      refine lv_aload_n hx hb dX12_goesToNext_52 rfl (lv_at hl 0 rfl) ?_
      obtain ⟨r7, h8, E9, hsp⟩ := fr_b2 hsp
      refine fq_callV (rest := []) (st1 := [.int r7]) C hR (k_X12_reads C.2.2 ha E9) Y_X12_reads YV_X12_reads Lk_RX12_245 ha ⟨_, _, rfl, by decide⟩ rfl hl.1 ⟨Nat.le_of_ble_eq_true rfl, Nat.le_of_ble_eq_true rfl⟩ rfl (Nat.le_of_ble_eq_true rfl) ⟨Nat.zero_le _, Nat.zero_le _⟩ rfl dX12_goesToNext_53 (fun H locs hR => ?_)
      refine lv_istore_n (lv' := [(1, .int r7), (0, .ref (g.2.2 a))]) hx hb dX12_goesToNext_56 rfl hl (by decide) rfl (fun ls hl => ?_)
      refine lv_iload_n hx hb dX12_goesToNext_57 rfl (lv_at hl 0 rfl) ?_
      refine lv_iconst (v := -1) hx hb dX12_goesToNext_58 (by decide) ?_
      refine lv_icmp_eq (tgt := 64) hx hb dX12_goesToNext_59 (by decide) (fun c10 => ?_) (fun c10 => ?_)
      · rw [if_pos c10] at hsp
        refine lv_goto (tgt := 0) hx hb dX12_goesToNext_64 (by decide) ?_
        exact hb_0 20000 h8 _ _ _ hsp hR (lv_sub hl [1] rfl)
      · rw [if_neg c10] at hsp
        refine lv_iload_n hx hb dX12_goesToNext_62 rfl (lv_at hl 0 rfl) ?_
        obtain ⟨e1, e2⟩ := fr_s2 hsp
        exact fr_iret C hr hlocks hR e1 e2 dX12_goesToNext_63
    · rw [if_neg c6] at hsp
      refine lv_aload_n hx hb dX12_goesToNext_16 rfl (lv_at hl 0 rfl) ?_
      refine lv_aload_n hx hb dX12_goesToNext_17 rfl (lv_at hl 0 rfl) ?_
      obtain ⟨j11, hv12, hsp⟩ := fr_b1 hsp
      refine fr_getr C hR ha Fg_RX12_41 rfl hv12 dX12_goesToNext_18 ?_
      refine lv_iconst (v := 0) hx hb dX12_goesToNext_21 (by decide) ?_
      obtain ⟨hk13, hsp⟩ := fr_ck hsp
      obtain ⟨hi14, hsp⟩ := fr_ck hsp
      refine fr_lald C hR hk13 hi14 dX12_goesToNext_22 ?_
      refine lv_aload_n hx hb dX12_goesToNext_23 rfl (lv_at hl 0 rfl) ?_
      refine fr_getr C hR ha Fg_RX12_41 rfl hv12 dX12_goesToNext_24 ?_
      refine lv_iconst (v := 4) hx hb dX12_goesToNext_27 (by decide) ?_
      obtain ⟨hi15, hsp⟩ := fr_ck hsp
      refine fr_lald C hR hk13 hi15 dX12_goesToNext_28 ?_
      obtain ⟨r16, E17, hsp⟩ := fr_b1 hsp
      refine fq_callS (rest := [.ref (g.2.2 a)]) (st1 := [.long r16, .ref (g.2.2 a)]) C hR (k_J9_floorDiv_f86c9 C.2.2 E17) Y_J9_floorDiv_f86c9 YS_J9_floorDiv_f86c9 Lk_RX12_103 rfl hl.1 ⟨Nat.le_of_ble_eq_true rfl, Nat.le_of_ble_eq_true rfl⟩ rfl (Nat.le_of_ble_eq_true rfl) ⟨Nat.zero_le _, Nat.zero_le _⟩ rfl dX12_goesToNext_29 (fun H locs hR => ?_)
      refine fr_putj C hR ha Fp_RX12_238 rfl dX12_goesToNext_32 (fun H locs hR => ?_)
      obtain ⟨h18, eh18⟩ : ∃ z, z = fh_sJ h a 25 r16 := ⟨_, rfl⟩
      rw [← eh18] at hR
      have hsp := fr_let eh18 hsp
      refine lv_aload_n hx hb dX12_goesToNext_35 rfl (lv_at hl 0 rfl) ?_
      refine lv_aload_n hx hb dX12_goesToNext_36 rfl (lv_at hl 0 rfl) ?_
      refine fr_getj C hR ha Fg_RX12_238 rfl dX12_goesToNext_37 ?_
      obtain ⟨r19, h20, E21, hsp⟩ := fr_b2 hsp
      refine fq_callV (rest := []) (st1 := [.int r19]) C hR (k_X12_letsOut C.2.2 ha E21) Y_X12_letsOut YV_X12_letsOut Lk_RX12_241 ha ⟨_, _, rfl, by decide⟩ rfl hl.1 ⟨Nat.le_of_ble_eq_true rfl, Nat.le_of_ble_eq_true rfl⟩ rfl (Nat.le_of_ble_eq_true rfl) ⟨Nat.zero_le _, Nat.zero_le _⟩ rfl dX12_goesToNext_40 (fun H locs hR => ?_)
      refine lv_if_eq (tgt := 50) hx hb dX12_goesToNext_43 (by decide) (fun c22 => ?_) (fun c22 => ?_)
      · rw [if_pos c22] at hsp
        refine lv_iconst (v := 2) hx hb dX12_goesToNext_50 (by decide) ?_
        obtain ⟨e1, e2⟩ := fr_s2 hsp
        exact fr_iret C hr hlocks hR e1 e2 dX12_goesToNext_51
      · rw [if_neg c22] at hsp
        refine lv_iconst (v := -1) hx hb dX12_goesToNext_46 (by decide) ?_
        refine lv_goto (tgt := 51) hx hb dX12_goesToNext_47 (by decide) ?_
        obtain ⟨e1, e2⟩ := fr_s2 hsp
        exact fr_iret C hr hlocks hR e1 e2 dX12_goesToNext_51
  · rw [if_neg c3] at hsp
    refine lv_iconst (v := 1) hx hb dX12_goesToNext_7 (by decide) ?_
    obtain ⟨e1, e2⟩ := fr_s2 hsp
    exact fr_iret C hr hlocks hR e1 e2 dX12_goesToNext_8

/-! TermRowsModel.readAgainOnes()V -/
def z_X12_readAgainOnes_b21 (S : fh_S) (a : Nat) : Nat → fh_H → Option fh_H
  | 0, _ => none
  | n + 1, h =>
    fh_b1 (z_X12_isNext S h a) (fun r1 => if r1 = 0 then (fh_b1 (z_X12_must S h a (41 : Int32)) (fun h4 => some h4)) else (fh_b1 (z_X12_pass S h a) (fun h6 => fh_b2 (z_X12_number S h6 a (1 : Int32) (9999 : Int32)) (fun r8 h9 => fh_b1 (z_X12_keepsTerm S h9 a r8) (fun h11 => z_X12_readAgainOnes_b21 S a n h11)))))
def z_X12_readAgainOnes (S : fh_S) (h : fh_H) (a : Nat) : Option fh_H :=
    fh_b1 (z_X12_pass S h a) (fun h1 => fh_let (fh_sI h1 a 44 (1 : Int32)) (fun h3 => fh_b2 (z_X12_number S h3 a (1 : Int32) (9999 : Int32)) (fun r4 h5 => fh_b1 (z_X12_keepsTerm S h5 a r4) (fun h7 => z_X12_readAgainOnes_b21 S a 20000 h7))))
set_option maxHeartbeats 4000000 in
set_option maxRecDepth 100000 in
theorem k_X12_readAgainOnes {l : Launch} {S : fh_S} {g : fh_G} {h h' : fh_H} (hj : fh_inj S g) {a : Nat} (ha : fh_kq S a 12 = true) (hsp : z_X12_readAgainOnes S h a = some h') : fh_M l yX12_readAgainOnes cX12_readAgainOnes 1 none (fh_rm 5) S g [.ref (g.2.2 a)] h none h' := by
  unfold z_X12_readAgainOnes at hsp
  refine fr_head (own := RX12) (by decide) rfl hj (Nat.le_of_ble_eq_true rfl) ?_
  intro p e s m below meth c ls C hr hlocks hR hl
  have hl : lv_has ls 1 [(0, .ref (g.2.2 a))] := hl
  have hx := C.1.1
  have hb := C.1.2.1
  have hb_21 : ∀ (n : Nat) (h : fh_H) (H : Heap) (locs : List Loc) (ls : Array Slot), z_X12_readAgainOnes_b21 S a n h = some h' → fh_R S g s.heap h H locs → lv_has ls 1 [(0, .ref (g.2.2 a))] → fh_Wk p l e 5 s m [.ref (g.2.2 a)] below meth c S g none h' H locs (F0 m 21 ls []) := by
    intro n
    induction n with
    | zero => intro h  H locs ls hsp; cases hsp
    | succ n ih =>
      intro h  H locs ls hsp hR hl
      rw [z_X12_readAgainOnes_b21] at hsp
      refine lv_aload_n hx hb dX12_readAgainOnes_21 rfl (lv_at hl 0 rfl) ?_
      obtain ⟨r1, E2, hsp⟩ := fr_b1 hsp
      refine fq_callV (rest := []) (st1 := [.int r1]) C hR (k_X12_isNext C.2.2 ha E2) Y_X12_isNext YV_X12_isNext Lk_RX12_456 ha ⟨_, _, rfl, by decide⟩ rfl hl.1 ⟨Nat.le_of_ble_eq_true rfl, Nat.le_of_ble_eq_true rfl⟩ rfl (Nat.le_of_ble_eq_true rfl) ⟨Nat.zero_le _, Nat.zero_le _⟩ rfl dX12_readAgainOnes_22 (fun H locs hR => ?_)
      refine lv_if_eq (tgt := 47) hx hb dX12_readAgainOnes_25 (by decide) (fun c3 => ?_) (fun c3 => ?_)
      · rw [if_pos c3] at hsp
        refine lv_aload_n hx hb dX12_readAgainOnes_47 rfl (lv_at hl 0 rfl) ?_
        refine lv_bipush (v := 41) hx hb dX12_readAgainOnes_48 (by decide) ?_
        obtain ⟨h4, E5, hsp⟩ := fr_b1 hsp
        refine fq_callV (rest := []) (st1 := []) C hR (k_X12_must C.2.2 ha E5) Y_X12_must YV_X12_must Lk_RX12_447 ha ⟨_, _, rfl, by decide⟩ rfl hl.1 ⟨Nat.le_of_ble_eq_true rfl, Nat.le_of_ble_eq_true rfl⟩ rfl (Nat.le_of_ble_eq_true rfl) ⟨Nat.zero_le _, Nat.zero_le _⟩ rfl dX12_readAgainOnes_50 (fun H locs hR => ?_)
        exact fr_vret C hr hlocks hR (fr_s1 hsp) dX12_readAgainOnes_53
      · rw [if_neg c3] at hsp
        refine lv_aload_n hx hb dX12_readAgainOnes_28 rfl (lv_at hl 0 rfl) ?_
        obtain ⟨h6, E7, hsp⟩ := fr_b1 hsp
        refine fq_callV (rest := []) (st1 := []) C hR (k_X12_pass C.2.2 ha E7) Y_X12_pass YV_X12_pass Lk_RX12_437 ha ⟨_, _, rfl, by decide⟩ rfl hl.1 ⟨Nat.le_of_ble_eq_true rfl, Nat.le_of_ble_eq_true rfl⟩ rfl (Nat.le_of_ble_eq_true rfl) ⟨Nat.zero_le _, Nat.zero_le _⟩ rfl dX12_readAgainOnes_29 (fun H locs hR => ?_)
        refine lv_aload_n hx hb dX12_readAgainOnes_32 rfl (lv_at hl 0 rfl) ?_
        refine lv_aload_n hx hb dX12_readAgainOnes_33 rfl (lv_at hl 0 rfl) ?_
        refine lv_iconst (v := 1) hx hb dX12_readAgainOnes_34 (by decide) ?_
        refine lv_sipush (v := 9999) hx hb dX12_readAgainOnes_35 (by decide) ?_
        obtain ⟨r8, h9, E10, hsp⟩ := fr_b2 hsp
        refine fq_callV (rest := [.ref (g.2.2 a)]) (st1 := [.int r8, .ref (g.2.2 a)]) C hR (k_X12_number C.2.2 ha E10) Y_X12_number YV_X12_number Lk_RX12_450 ha ⟨_, _, rfl, by decide⟩ rfl hl.1 ⟨Nat.le_of_ble_eq_true rfl, Nat.le_of_ble_eq_true rfl⟩ rfl (Nat.le_of_ble_eq_true rfl) ⟨Nat.zero_le _, Nat.zero_le _⟩ rfl dX12_readAgainOnes_38 (fun H locs hR => ?_)
        obtain ⟨h11, E12, hsp⟩ := fr_b1 hsp
        refine fq_callV (rest := []) (st1 := []) C hR (k_X12_keepsTerm C.2.2 ha E12) Y_X12_keepsTerm YV_X12_keepsTerm Lk_RX12_453 ha ⟨_, _, rfl, by decide⟩ rfl hl.1 ⟨Nat.le_of_ble_eq_true rfl, Nat.le_of_ble_eq_true rfl⟩ rfl (Nat.le_of_ble_eq_true rfl) ⟨Nat.zero_le _, Nat.zero_le _⟩ rfl dX12_readAgainOnes_41 (fun H locs hR => ?_)
        refine lv_goto (tgt := 21) hx hb dX12_readAgainOnes_44 (by decide) ?_
        exact ih h11 _ _ _ hsp hR (lv_sub hl [0] rfl)
  refine lv_aload_n hx hb dX12_readAgainOnes_0 rfl (lv_at hl 0 rfl) ?_
  obtain ⟨h1, E2, hsp⟩ := fr_b1 hsp
  refine fq_callV (rest := []) (st1 := []) C hR (k_X12_pass C.2.2 ha E2) Y_X12_pass YV_X12_pass Lk_RX12_437 ha ⟨_, _, rfl, by decide⟩ rfl hl.1 ⟨Nat.le_of_ble_eq_true rfl, Nat.le_of_ble_eq_true rfl⟩ rfl (Nat.le_of_ble_eq_true rfl) ⟨Nat.zero_le _, Nat.zero_le _⟩ rfl dX12_readAgainOnes_1 (fun H locs hR => ?_)
  refine lv_aload_n hx hb dX12_readAgainOnes_4 rfl (lv_at hl 0 rfl) ?_
  refine lv_iconst (v := 1) hx hb dX12_readAgainOnes_5 (by decide) ?_
  refine fr_puti C hR ha Fp_RX12_413 rfl dX12_readAgainOnes_6 (fun H locs hR => ?_)
  obtain ⟨h3, eh3⟩ : ∃ z, z = fh_sI h1 a 44 (1 : Int32) := ⟨_, rfl⟩
  rw [← eh3] at hR
  have hsp := fr_let eh3 hsp
  refine lv_aload_n hx hb dX12_readAgainOnes_9 rfl (lv_at hl 0 rfl) ?_
  refine lv_aload_n hx hb dX12_readAgainOnes_10 rfl (lv_at hl 0 rfl) ?_
  refine lv_iconst (v := 1) hx hb dX12_readAgainOnes_11 (by decide) ?_
  refine lv_sipush (v := 9999) hx hb dX12_readAgainOnes_12 (by decide) ?_
  obtain ⟨r4, h5, E6, hsp⟩ := fr_b2 hsp
  refine fq_callV (rest := [.ref (g.2.2 a)]) (st1 := [.int r4, .ref (g.2.2 a)]) C hR (k_X12_number C.2.2 ha E6) Y_X12_number YV_X12_number Lk_RX12_450 ha ⟨_, _, rfl, by decide⟩ rfl hl.1 ⟨Nat.le_of_ble_eq_true rfl, Nat.le_of_ble_eq_true rfl⟩ rfl (Nat.le_of_ble_eq_true rfl) ⟨Nat.zero_le _, Nat.zero_le _⟩ rfl dX12_readAgainOnes_15 (fun H locs hR => ?_)
  obtain ⟨h7, E8, hsp⟩ := fr_b1 hsp
  refine fq_callV (rest := []) (st1 := []) C hR (k_X12_keepsTerm C.2.2 ha E8) Y_X12_keepsTerm YV_X12_keepsTerm Lk_RX12_453 ha ⟨_, _, rfl, by decide⟩ rfl hl.1 ⟨Nat.le_of_ble_eq_true rfl, Nat.le_of_ble_eq_true rfl⟩ rfl (Nat.le_of_ble_eq_true rfl) ⟨Nat.zero_le _, Nat.zero_le _⟩ rfl dX12_readAgainOnes_18 (fun H locs hR => ?_)
  exact hb_21 20000 h7 _ _ _ hsp hR (lv_sub hl [0] rfl)

/-! TermRowsModel.layMade(I)V -/
def z_X12_layMade_b156 (S : fh_S) (a : Nat) (h : fh_H) (y1 : Int32) : Option fh_H :=
    fh_b1 (h.2.2 a 7) (fun j1 => fh_ck (fh_kq S j1 13) (fh_ck (fh_in y1 (S.2.2 j1)) (fh_let (fh_sI h j1 (Int32.toNatClampNeg y1) ((h.1 a 22) + (h.1 a 23))) (fun h5 => some h5))))
def z_X12_layMade_b79 (S : fh_S) (a : Nat) : Nat → fh_H → Int32 → Int32 → Option fh_H
  | 0, _, _, _ => none
  | n + 1, h, y1, y2 =>
    if y2 = 0 then (z_X12_layMade_b156 S a h y1) else (fh_b2 (z_X12_goesToNext S h a) (fun r2 h3 => if r2 = (-1 : Int32) then (fh_b1 (h3.2.2 a 8) (fun j6 => fh_b1 (h3.2.2 a 5) (fun j8 => fh_ck (fh_kq S j8 13) (fh_ck (fh_in y1 (S.2.2 j8)) (fh_ck (fh_kq S j6 13) (fh_ck (fh_in (((60 : Int32) * y1) + (h3.1 j8 (Int32.toNatClampNeg y1))) (S.2.2 j6)) (fh_let (fh_sI h3 j6 (Int32.toNatClampNeg (((60 : Int32) * y1) + (h3.1 j8 (Int32.toNatClampNeg y1)))) (h3.1 a 22)) (fun h14 => fh_b1 (h14.2.2 a 9) (fun j15 => fh_b1 (h14.2.2 a 5) (fun j17 => fh_ck (fh_kq S j17 13) (fh_ck (fh_in y1 (S.2.2 j17)) (fh_ck (fh_kq S j15 13) (fh_ck (fh_in (((60 : Int32) * y1) + (h14.1 j17 (Int32.toNatClampNeg y1))) (S.2.2 j15)) (fh_let (fh_sI h14 j15 (Int32.toNatClampNeg (((60 : Int32) * y1) + (h14.1 j17 (Int32.toNatClampNeg y1)))) (h14.1 a 23)) (fun h23 => fh_b2 (z_X12_knows S h23 a y1 (h23.2.1 a 25)) (fun r24 h25 => z_X12_layMade_b79 S a n h25 y1 r24)))))))))))))))) else (fh_b1 (h3.2.2 a 6) (fun j27 => fh_ck (fh_kq S j27 13) (fh_ck (fh_in y1 (S.2.2 j27)) (fh_let (fh_sI h3 j27 (Int32.toNatClampNeg y1) r2) (fun h31 => z_X12_layMade_b156 S a h31 y1)))))))
def z_X12_layMade (S : fh_S) (h : fh_H) (a : Nat) (x1 : Int32) : Option fh_H :=
    fh_b1 (z_X12_of1 S h a x1 (0 : Int32)) (fun r1 => if r1 = (3 : Int32) then (fh_b1 (z_X12_of1 S h a x1 (5 : Int32)) (fun r17 => fh_b1 (z_X12_of1 S h a x1 (1 : Int32)) (fun r19 => fh_b1 (z_X12_of1 S h a x1 (2 : Int32)) (fun r21 => fh_b1 (z_X12_of1 S h a x1 (3 : Int32)) (fun r23 => fh_b1 (z_X12_of1 S h a x1 (4 : Int32)) (fun r25 => fh_b1 (z_X12_beginsSingle S h a r17 r19 r21 r23 r25) (fun h27 => fh_b1 (h27.2.2 a 6) (fun j29 => fh_ck (fh_kq S j29 13) (fh_ck (fh_in x1 (S.2.2 j29)) (fh_let (fh_sI h27 j29 (Int32.toNatClampNeg x1) (0 : Int32)) (fun h33 => z_X12_layMade_b79 S a 20000 h33 x1 (1 : Int32)))))))))))) else (fh_b1 (z_X12_of1 S h a x1 (1 : Int32)) (fun r4 => fh_b1 (z_X12_of1 S h a x1 (5 : Int32)) (fun r6 => fh_b1 (z_X12_of1 S h a x1 (6 : Int32)) (fun r8 => fh_b1 (z_X12_beginsDouble S h a r4 r6 r8) (fun h10 => fh_b1 (h10.2.2 a 6) (fun j12 => fh_ck (fh_kq S j12 13) (fh_ck (fh_in x1 (S.2.2 j12)) (fh_let (fh_sI h10 j12 (Int32.toNatClampNeg x1) (0 : Int32)) (fun h16 => z_X12_layMade_b79 S a 20000 h16 x1 (1 : Int32)))))))))))
set_option maxHeartbeats 4000000 in
set_option maxRecDepth 100000 in
theorem k_X12_layMade {l : Launch} {S : fh_S} {g : fh_G} {h h' : fh_H} (hj : fh_inj S g) {a : Nat} {x1 : Int32} (ha : fh_kq S a 12 = true) (hsp : z_X12_layMade S h a x1 = some h') : fh_M l yX12_layMade cX12_layMade 4 none (fh_rm 6) S g [.ref (g.2.2 a), .int x1] h none h' := by
  unfold z_X12_layMade at hsp
  refine fr_head (own := RX12) (by decide) rfl hj (Nat.le_of_ble_eq_true rfl) ?_
  intro p e s m below meth c ls C hr hlocks hR hl
  have hl : lv_has ls 4 [(0, .ref (g.2.2 a)), (1, .int x1)] := hl
  have hx := C.1.1
  have hb := C.1.2.1
  have hb_156 : ∀ (h : fh_H) (y1 : Int32) (H : Heap) (locs : List Loc) (ls : Array Slot), z_X12_layMade_b156 S a h y1 = some h' → fh_R S g s.heap h H locs → lv_has ls 4 [(0, .ref (g.2.2 a)), (1, .int y1)] → fh_Wk p l e 6 s m [.ref (g.2.2 a), .int x1] below meth c S g none h' H locs (F0 m 156 ls []) := by
    intro h y1 H locs ls hsp hR hl
    unfold z_X12_layMade_b156 at hsp
    refine lv_aload_n hx hb dX12_layMade_156 rfl (lv_at hl 0 rfl) ?_
    obtain ⟨j1, hv2, hsp⟩ := fr_b1 hsp
    refine fr_getr C hR ha Fg_RX12_25 rfl hv2 dX12_layMade_157 ?_
    refine lv_iload_n hx hb dX12_layMade_160 rfl (lv_at hl 1 rfl) ?_
    refine lv_aload_n hx hb dX12_layMade_161 rfl (lv_at hl 0 rfl) ?_
    refine fr_geti C hR ha Fg_RX12_167 rfl dX12_layMade_162 ?_
    refine lv_aload_n hx hb dX12_layMade_165 rfl (lv_at hl 0 rfl) ?_
    refine fr_geti C hR ha Fg_RX12_170 rfl dX12_layMade_166 ?_
    refine lv_iadd hx hb dX12_layMade_169 ?_
    obtain ⟨hk3, hsp⟩ := fr_ck hsp
    obtain ⟨hi4, hsp⟩ := fr_ck hsp
    refine fr_iast C hR hk3 hi4 dX12_layMade_170 (fun H locs hR => ?_)
    obtain ⟨h5, eh5⟩ : ∃ z, z = fh_sI h j1 (Int32.toNatClampNeg y1) ((h.1 a 22) + (h.1 a 23)) := ⟨_, rfl⟩
    rw [← eh5] at hR
    have hsp := fr_let eh5 hsp
    exact fr_vret C hr hlocks hR (fr_s1 hsp) dX12_layMade_171
  have hb_79 : ∀ (n : Nat) (h : fh_H) (y1 : Int32) (y2 : Int32) (H : Heap) (locs : List Loc) (ls : Array Slot), z_X12_layMade_b79 S a n h y1 y2 = some h' → fh_R S g s.heap h H locs → lv_has ls 4 [(0, .ref (g.2.2 a)), (1, .int y1), (2, .int y2)] → fh_Wk p l e 6 s m [.ref (g.2.2 a), .int x1] below meth c S g none h' H locs (F0 m 79 ls []) := by
    intro n
    induction n with
    | zero => intro h y1 y2 H locs ls hsp; cases hsp
    | succ n ih =>
      intro h y1 y2 H locs ls hsp hR hl
      rw [z_X12_layMade_b79] at hsp
      refine lv_iload_n hx hb dX12_layMade_79 rfl (lv_at hl 2 rfl) ?_
      refine lv_if_eq (tgt := 156) hx hb dX12_layMade_80 (by decide) (fun c1 => ?_) (fun c1 => ?_)
      · rw [if_pos c1] at hsp
        exact hb_156 h y1 _ _ _ hsp hR (lv_sub hl [0, 1] rfl)
      · rw [if_neg c1] at hsp
        refine lv_aload_n hx hb dX12_layMade_83 rfl (lv_at hl 0 rfl) ?_
        obtain ⟨r2, h3, E4, hsp⟩ := fr_b2 hsp
        refine fq_callV (rest := []) (st1 := [.int r2]) C hR (k_X12_goesToNext C.2.2 ha E4) Y_X12_goesToNext YV_X12_goesToNext Lk_RX12_255 ha ⟨_, _, rfl, by decide⟩ rfl hl.1 ⟨Nat.le_of_ble_eq_true rfl, Nat.le_of_ble_eq_true rfl⟩ rfl (Nat.le_of_ble_eq_true rfl) ⟨Nat.zero_le _, Nat.zero_le _⟩ rfl dX12_layMade_84 (fun H locs hR => ?_)
        refine lv_istore_n (lv' := [(3, .int r2), (0, .ref (g.2.2 a)), (1, .int y1), (2, .int y2)]) hx hb dX12_layMade_87 rfl hl (by decide) rfl (fun ls hl => ?_)
        refine lv_iload_n hx hb dX12_layMade_88 rfl (lv_at hl 0 rfl) ?_
        refine lv_iconst (v := -1) hx hb dX12_layMade_89 (by decide) ?_
        refine lv_icmp_eq (tgt := 103) hx hb dX12_layMade_90 (by decide) (fun c5 => ?_) (fun c5 => ?_)
        · rw [if_pos c5] at hsp
          refine lv_aload_n hx hb dX12_layMade_103 rfl (lv_at hl 1 rfl) ?_
          obtain ⟨j6, hv7, hsp⟩ := fr_b1 hsp
          refine fr_getr C hR ha Fg_RX12_28 rfl hv7 dX12_layMade_104 ?_
          refine lv_bipush (v := 60) hx hb dX12_layMade_107 (by decide) ?_
          refine lv_iload_n hx hb dX12_layMade_109 rfl (lv_at hl 2 rfl) ?_
          refine lv_imul hx hb dX12_layMade_110 ?_
          refine lv_aload_n hx hb dX12_layMade_111 rfl (lv_at hl 1 rfl) ?_
          obtain ⟨j8, hv9, hsp⟩ := fr_b1 hsp
          refine fr_getr C hR ha Fg_RX12_19 rfl hv9 dX12_layMade_112 ?_
          refine lv_iload_n hx hb dX12_layMade_115 rfl (lv_at hl 2 rfl) ?_
          obtain ⟨hk10, hsp⟩ := fr_ck hsp
          obtain ⟨hi11, hsp⟩ := fr_ck hsp
          refine fr_iald C hR hk10 hi11 dX12_layMade_116 ?_
          refine lv_iadd hx hb dX12_layMade_117 ?_
          refine lv_aload_n hx hb dX12_layMade_118 rfl (lv_at hl 1 rfl) ?_
          refine fr_geti C hR ha Fg_RX12_167 rfl dX12_layMade_119 ?_
          obtain ⟨hk12, hsp⟩ := fr_ck hsp
          obtain ⟨hi13, hsp⟩ := fr_ck hsp
          refine fr_iast C hR hk12 hi13 dX12_layMade_122 (fun H locs hR => ?_)
          obtain ⟨h14, eh14⟩ : ∃ z, z = fh_sI h3 j6 (Int32.toNatClampNeg (((60 : Int32) * y1) + (h3.1 j8 (Int32.toNatClampNeg y1)))) (h3.1 a 22) := ⟨_, rfl⟩
          rw [← eh14] at hR
          have hsp := fr_let eh14 hsp
          refine lv_aload_n hx hb dX12_layMade_123 rfl (lv_at hl 1 rfl) ?_
          obtain ⟨j15, hv16, hsp⟩ := fr_b1 hsp
          refine fr_getr C hR ha Fg_RX12_31 rfl hv16 dX12_layMade_124 ?_
          refine lv_bipush (v := 60) hx hb dX12_layMade_127 (by decide) ?_
          refine lv_iload_n hx hb dX12_layMade_129 rfl (lv_at hl 2 rfl) ?_
          refine lv_imul hx hb dX12_layMade_130 ?_
          refine lv_aload_n hx hb dX12_layMade_131 rfl (lv_at hl 1 rfl) ?_
          obtain ⟨j17, hv18, hsp⟩ := fr_b1 hsp
          refine fr_getr C hR ha Fg_RX12_19 rfl hv18 dX12_layMade_132 ?_
          refine lv_iload_n hx hb dX12_layMade_135 rfl (lv_at hl 2 rfl) ?_
          obtain ⟨hk19, hsp⟩ := fr_ck hsp
          obtain ⟨hi20, hsp⟩ := fr_ck hsp
          refine fr_iald C hR hk19 hi20 dX12_layMade_136 ?_
          refine lv_iadd hx hb dX12_layMade_137 ?_
          refine lv_aload_n hx hb dX12_layMade_138 rfl (lv_at hl 1 rfl) ?_
          refine fr_geti C hR ha Fg_RX12_170 rfl dX12_layMade_139 ?_
          obtain ⟨hk21, hsp⟩ := fr_ck hsp
          obtain ⟨hi22, hsp⟩ := fr_ck hsp
          refine fr_iast C hR hk21 hi22 dX12_layMade_142 (fun H locs hR => ?_)
          obtain ⟨h23, eh23⟩ : ∃ z, z = fh_sI h14 j15 (Int32.toNatClampNeg (((60 : Int32) * y1) + (h14.1 j17 (Int32.toNatClampNeg y1)))) (h14.1 a 23) := ⟨_, rfl⟩
          rw [← eh23] at hR
          have hsp := fr_let eh23 hsp
          refine lv_aload_n hx hb dX12_layMade_143 rfl (lv_at hl 1 rfl) ?_
          refine lv_iload_n hx hb dX12_layMade_144 rfl (lv_at hl 2 rfl) ?_
          refine lv_aload_n hx hb dX12_layMade_145 rfl (lv_at hl 1 rfl) ?_
          refine fr_getj C hR ha Fg_RX12_238 rfl dX12_layMade_146 ?_
          obtain ⟨r24, h25, E26, hsp⟩ := fr_b2 hsp
          refine fq_callV (rest := []) (st1 := [.int r24]) C hR (k_X12_knows C.2.2 ha E26) Y_X12_knows YV_X12_knows Lk_RX12_109 ha ⟨_, _, rfl, by decide⟩ rfl hl.1 ⟨Nat.le_of_ble_eq_true rfl, Nat.le_of_ble_eq_true rfl⟩ rfl (Nat.le_of_ble_eq_true rfl) ⟨Nat.zero_le _, Nat.zero_le _⟩ rfl dX12_layMade_149 (fun H locs hR => ?_)
          refine lv_istore_n (lv' := [(2, .int r24), (3, .int r2), (0, .ref (g.2.2 a)), (1, .int y1)]) hx hb dX12_layMade_152 rfl hl (by decide) rfl (fun ls hl => ?_)
          refine lv_goto (tgt := 79) hx hb dX12_layMade_153 (by decide) ?_
          exact ih h25 y1 r24 _ _ _ hsp hR (lv_sub hl [2, 3, 0] rfl)
        · rw [if_neg c5] at hsp
          refine lv_aload_n hx hb dX12_layMade_93 rfl (lv_at hl 1 rfl) ?_
          obtain ⟨j27, hv28, hsp⟩ := fr_b1 hsp
          refine fr_getr C hR ha Fg_RX12_22 rfl hv28 dX12_layMade_94 ?_
          refine lv_iload_n hx hb dX12_layMade_97 rfl (lv_at hl 2 rfl) ?_
          refine lv_iload_n hx hb dX12_layMade_98 rfl (lv_at hl 0 rfl) ?_
          obtain ⟨hk29, hsp⟩ := fr_ck hsp
          obtain ⟨hi30, hsp⟩ := fr_ck hsp
          refine fr_iast C hR hk29 hi30 dX12_layMade_99 (fun H locs hR => ?_)
          obtain ⟨h31, eh31⟩ : ∃ z, z = fh_sI h3 j27 (Int32.toNatClampNeg y1) r2 := ⟨_, rfl⟩
          rw [← eh31] at hR
          have hsp := fr_let eh31 hsp
          refine lv_goto (tgt := 156) hx hb dX12_layMade_100 (by decide) ?_
          exact hb_156 h31 y1 _ _ _ hsp hR (lv_sub hl [1, 2] rfl)
  refine lv_aload_n hx hb dX12_layMade_0 rfl (lv_at hl 0 rfl) ?_
  refine lv_iload_n hx hb dX12_layMade_1 rfl (lv_at hl 1 rfl) ?_
  refine lv_iconst (v := 0) hx hb dX12_layMade_2 (by decide) ?_
  obtain ⟨r1, E2, hsp⟩ := fr_b1 hsp
  refine fq_callV (rest := []) (st1 := [.int r1]) C hR (k_X12_of1 C.2.2 ha E2) Y_X12_of1 YV_X12_of1 Lk_RX12_86 ha ⟨_, _, rfl, by decide⟩ rfl hl.1 ⟨Nat.le_of_ble_eq_true rfl, Nat.le_of_ble_eq_true rfl⟩ rfl (Nat.le_of_ble_eq_true rfl) ⟨Nat.zero_le _, Nat.zero_le _⟩ rfl dX12_layMade_3 (fun H locs hR => ?_)
  refine lv_iconst (v := 3) hx hb dX12_layMade_6 (by decide) ?_
  refine lv_icmp_ne (tgt := 47) hx hb dX12_layMade_7 (by decide) (fun c3 => ?_) (fun c3 => ?_)
  · rw [if_neg c3] at hsp
    refine lv_aload_n hx hb dX12_layMade_47 rfl (lv_at hl 0 rfl) ?_
    refine lv_aload_n hx hb dX12_layMade_48 rfl (lv_at hl 0 rfl) ?_
    refine lv_iload_n hx hb dX12_layMade_49 rfl (lv_at hl 1 rfl) ?_
    refine lv_iconst (v := 1) hx hb dX12_layMade_50 (by decide) ?_
    obtain ⟨r4, E5, hsp⟩ := fr_b1 hsp
    refine fq_callV (rest := [.ref (g.2.2 a)]) (st1 := [.int r4, .ref (g.2.2 a)]) C hR (k_X12_of1 C.2.2 ha E5) Y_X12_of1 YV_X12_of1 Lk_RX12_86 ha ⟨_, _, rfl, by decide⟩ rfl hl.1 ⟨Nat.le_of_ble_eq_true rfl, Nat.le_of_ble_eq_true rfl⟩ rfl (Nat.le_of_ble_eq_true rfl) ⟨Nat.zero_le _, Nat.zero_le _⟩ rfl dX12_layMade_51 (fun H locs hR => ?_)
    refine lv_aload_n hx hb dX12_layMade_54 rfl (lv_at hl 0 rfl) ?_
    refine lv_iload_n hx hb dX12_layMade_55 rfl (lv_at hl 1 rfl) ?_
    refine lv_iconst (v := 5) hx hb dX12_layMade_56 (by decide) ?_
    obtain ⟨r6, E7, hsp⟩ := fr_b1 hsp
    refine fq_callV (rest := [.int r4, .ref (g.2.2 a)]) (st1 := [.int r6, .int r4, .ref (g.2.2 a)]) C hR (k_X12_of1 C.2.2 ha E7) Y_X12_of1 YV_X12_of1 Lk_RX12_86 ha ⟨_, _, rfl, by decide⟩ rfl hl.1 ⟨Nat.le_of_ble_eq_true rfl, Nat.le_of_ble_eq_true rfl⟩ rfl (Nat.le_of_ble_eq_true rfl) ⟨Nat.zero_le _, Nat.zero_le _⟩ rfl dX12_layMade_57 (fun H locs hR => ?_)
    refine lv_aload_n hx hb dX12_layMade_60 rfl (lv_at hl 0 rfl) ?_
    refine lv_iload_n hx hb dX12_layMade_61 rfl (lv_at hl 1 rfl) ?_
    refine lv_bipush (v := 6) hx hb dX12_layMade_62 (by decide) ?_
    obtain ⟨r8, E9, hsp⟩ := fr_b1 hsp
    refine fq_callV (rest := [.int r6, .int r4, .ref (g.2.2 a)]) (st1 := [.int r8, .int r6, .int r4, .ref (g.2.2 a)]) C hR (k_X12_of1 C.2.2 ha E9) Y_X12_of1 YV_X12_of1 Lk_RX12_86 ha ⟨_, _, rfl, by decide⟩ rfl hl.1 ⟨Nat.le_of_ble_eq_true rfl, Nat.le_of_ble_eq_true rfl⟩ rfl (Nat.le_of_ble_eq_true rfl) ⟨Nat.zero_le _, Nat.zero_le _⟩ rfl dX12_layMade_64 (fun H locs hR => ?_)
    obtain ⟨h10, E11, hsp⟩ := fr_b1 hsp
    refine fq_callV (rest := []) (st1 := []) C hR (k_X12_beginsDouble C.2.2 ha E11) Y_X12_beginsDouble YV_X12_beginsDouble Lk_RX12_252 ha ⟨_, _, rfl, by decide⟩ rfl hl.1 ⟨Nat.le_of_ble_eq_true rfl, Nat.le_of_ble_eq_true rfl⟩ rfl (Nat.le_of_ble_eq_true rfl) ⟨Nat.zero_le _, Nat.zero_le _⟩ rfl dX12_layMade_67 (fun H locs hR => ?_)
    refine lv_iconst (v := 1) hx hb dX12_layMade_70 (by decide) ?_
    refine lv_istore_n (lv' := [(2, .int (1 : Int32)), (0, .ref (g.2.2 a)), (1, .int x1)]) hx hb dX12_layMade_71 rfl hl (by decide) rfl (fun ls hl => ?_)
    refine lv_aload_n hx hb dX12_layMade_72 rfl (lv_at hl 1 rfl) ?_
    obtain ⟨j12, hv13, hsp⟩ := fr_b1 hsp
    refine fr_getr C hR ha Fg_RX12_22 rfl hv13 dX12_layMade_73 ?_
    refine lv_iload_n hx hb dX12_layMade_76 rfl (lv_at hl 2 rfl) ?_
    refine lv_iconst (v := 0) hx hb dX12_layMade_77 (by decide) ?_
    obtain ⟨hk14, hsp⟩ := fr_ck hsp
    obtain ⟨hi15, hsp⟩ := fr_ck hsp
    refine fr_iast C hR hk14 hi15 dX12_layMade_78 (fun H locs hR => ?_)
    obtain ⟨h16, eh16⟩ : ∃ z, z = fh_sI h10 j12 (Int32.toNatClampNeg x1) (0 : Int32) := ⟨_, rfl⟩
    rw [← eh16] at hR
    have hsp := fr_let eh16 hsp
    exact hb_79 20000 h16 x1 (1 : Int32) _ _ _ hsp hR (lv_sub hl [1, 2, 0] rfl)
  · rw [if_pos c3] at hsp
    refine lv_aload_n hx hb dX12_layMade_10 rfl (lv_at hl 0 rfl) ?_
    refine lv_aload_n hx hb dX12_layMade_11 rfl (lv_at hl 0 rfl) ?_
    refine lv_iload_n hx hb dX12_layMade_12 rfl (lv_at hl 1 rfl) ?_
    refine lv_iconst (v := 5) hx hb dX12_layMade_13 (by decide) ?_
    obtain ⟨r17, E18, hsp⟩ := fr_b1 hsp
    refine fq_callV (rest := [.ref (g.2.2 a)]) (st1 := [.int r17, .ref (g.2.2 a)]) C hR (k_X12_of1 C.2.2 ha E18) Y_X12_of1 YV_X12_of1 Lk_RX12_86 ha ⟨_, _, rfl, by decide⟩ rfl hl.1 ⟨Nat.le_of_ble_eq_true rfl, Nat.le_of_ble_eq_true rfl⟩ rfl (Nat.le_of_ble_eq_true rfl) ⟨Nat.zero_le _, Nat.zero_le _⟩ rfl dX12_layMade_14 (fun H locs hR => ?_)
    refine lv_aload_n hx hb dX12_layMade_17 rfl (lv_at hl 0 rfl) ?_
    refine lv_iload_n hx hb dX12_layMade_18 rfl (lv_at hl 1 rfl) ?_
    refine lv_iconst (v := 1) hx hb dX12_layMade_19 (by decide) ?_
    obtain ⟨r19, E20, hsp⟩ := fr_b1 hsp
    refine fq_callV (rest := [.int r17, .ref (g.2.2 a)]) (st1 := [.int r19, .int r17, .ref (g.2.2 a)]) C hR (k_X12_of1 C.2.2 ha E20) Y_X12_of1 YV_X12_of1 Lk_RX12_86 ha ⟨_, _, rfl, by decide⟩ rfl hl.1 ⟨Nat.le_of_ble_eq_true rfl, Nat.le_of_ble_eq_true rfl⟩ rfl (Nat.le_of_ble_eq_true rfl) ⟨Nat.zero_le _, Nat.zero_le _⟩ rfl dX12_layMade_20 (fun H locs hR => ?_)
    refine lv_aload_n hx hb dX12_layMade_23 rfl (lv_at hl 0 rfl) ?_
    refine lv_iload_n hx hb dX12_layMade_24 rfl (lv_at hl 1 rfl) ?_
    refine lv_iconst (v := 2) hx hb dX12_layMade_25 (by decide) ?_
    obtain ⟨r21, E22, hsp⟩ := fr_b1 hsp
    refine fq_callV (rest := [.int r19, .int r17, .ref (g.2.2 a)]) (st1 := [.int r21, .int r19, .int r17, .ref (g.2.2 a)]) C hR (k_X12_of1 C.2.2 ha E22) Y_X12_of1 YV_X12_of1 Lk_RX12_86 ha ⟨_, _, rfl, by decide⟩ rfl hl.1 ⟨Nat.le_of_ble_eq_true rfl, Nat.le_of_ble_eq_true rfl⟩ rfl (Nat.le_of_ble_eq_true rfl) ⟨Nat.zero_le _, Nat.zero_le _⟩ rfl dX12_layMade_26 (fun H locs hR => ?_)
    refine lv_aload_n hx hb dX12_layMade_29 rfl (lv_at hl 0 rfl) ?_
    refine lv_iload_n hx hb dX12_layMade_30 rfl (lv_at hl 1 rfl) ?_
    refine lv_iconst (v := 3) hx hb dX12_layMade_31 (by decide) ?_
    obtain ⟨r23, E24, hsp⟩ := fr_b1 hsp
    refine fq_callV (rest := [.int r21, .int r19, .int r17, .ref (g.2.2 a)]) (st1 := [.int r23, .int r21, .int r19, .int r17, .ref (g.2.2 a)]) C hR (k_X12_of1 C.2.2 ha E24) Y_X12_of1 YV_X12_of1 Lk_RX12_86 ha ⟨_, _, rfl, by decide⟩ rfl hl.1 ⟨Nat.le_of_ble_eq_true rfl, Nat.le_of_ble_eq_true rfl⟩ rfl (Nat.le_of_ble_eq_true rfl) ⟨Nat.zero_le _, Nat.zero_le _⟩ rfl dX12_layMade_32 (fun H locs hR => ?_)
    refine lv_aload_n hx hb dX12_layMade_35 rfl (lv_at hl 0 rfl) ?_
    refine lv_iload_n hx hb dX12_layMade_36 rfl (lv_at hl 1 rfl) ?_
    refine lv_iconst (v := 4) hx hb dX12_layMade_37 (by decide) ?_
    obtain ⟨r25, E26, hsp⟩ := fr_b1 hsp
    refine fq_callV (rest := [.int r23, .int r21, .int r19, .int r17, .ref (g.2.2 a)]) (st1 := [.int r25, .int r23, .int r21, .int r19, .int r17, .ref (g.2.2 a)]) C hR (k_X12_of1 C.2.2 ha E26) Y_X12_of1 YV_X12_of1 Lk_RX12_86 ha ⟨_, _, rfl, by decide⟩ rfl hl.1 ⟨Nat.le_of_ble_eq_true rfl, Nat.le_of_ble_eq_true rfl⟩ rfl (Nat.le_of_ble_eq_true rfl) ⟨Nat.zero_le _, Nat.zero_le _⟩ rfl dX12_layMade_38 (fun H locs hR => ?_)
    obtain ⟨h27, E28, hsp⟩ := fr_b1 hsp
    refine fq_callV (rest := []) (st1 := []) C hR (k_X12_beginsSingle C.2.2 ha E28) Y_X12_beginsSingle YV_X12_beginsSingle Lk_RX12_248 ha ⟨_, _, rfl, by decide⟩ rfl hl.1 ⟨Nat.le_of_ble_eq_true rfl, Nat.le_of_ble_eq_true rfl⟩ rfl (Nat.le_of_ble_eq_true rfl) ⟨Nat.zero_le _, Nat.zero_le _⟩ rfl dX12_layMade_41 (fun H locs hR => ?_)
    refine lv_goto (tgt := 70) hx hb dX12_layMade_44 (by decide) ?_
    refine lv_iconst (v := 1) hx hb dX12_layMade_70 (by decide) ?_
    refine lv_istore_n (lv' := [(2, .int (1 : Int32)), (0, .ref (g.2.2 a)), (1, .int x1)]) hx hb dX12_layMade_71 rfl hl (by decide) rfl (fun ls hl => ?_)
    refine lv_aload_n hx hb dX12_layMade_72 rfl (lv_at hl 1 rfl) ?_
    obtain ⟨j29, hv30, hsp⟩ := fr_b1 hsp
    refine fr_getr C hR ha Fg_RX12_22 rfl hv30 dX12_layMade_73 ?_
    refine lv_iload_n hx hb dX12_layMade_76 rfl (lv_at hl 2 rfl) ?_
    refine lv_iconst (v := 0) hx hb dX12_layMade_77 (by decide) ?_
    obtain ⟨hk31, hsp⟩ := fr_ck hsp
    obtain ⟨hi32, hsp⟩ := fr_ck hsp
    refine fr_iast C hR hk31 hi32 dX12_layMade_78 (fun H locs hR => ?_)
    obtain ⟨h33, eh33⟩ : ∃ z, z = fh_sI h27 j29 (Int32.toNatClampNeg x1) (0 : Int32) := ⟨_, rfl⟩
    rw [← eh33] at hR
    have hsp := fr_let eh33 hsp
    exact hb_79 20000 h33 x1 (1 : Int32) _ _ _ hsp hR (lv_sub hl [1, 2, 0] rfl)

/-! TermRowsModel.toldBySingle(IIIIII)I -/
def z_X12_toldBySingle_b15 (S : fh_S) (a : Nat) : Nat → fh_H → Int32 → Int32 → Option (Int32 × fh_H)
  | 0, _, _, _ => none
  | n + 1, h, y2, y7 =>
    if y2 < y7 then (some ((Int64.toInt32 (h.2.1 a 25)), h)) else (fh_b2 (z_X12_goesToNext S h a) (fun r2 h3 => if r2 = (-1 : Int32) then (fh_let (y7 + 1) (fun v6 => z_X12_toldBySingle_b15 S a n h3 y2 v6)) else (some ((-1000000000 : Int32), h3))))
def z_X12_toldBySingle (S : fh_S) (h : fh_H) (a : Nat) (x1 : Int32) (x2 : Int32) (x3 : Int32) (x4 : Int32) (x5 : Int32) (x6 : Int32) : Option (Int32 × fh_H) :=
    fh_b1 (z_X12_beginsSingle S h a x1 x3 x4 x5 x6) (fun h1 => z_X12_toldBySingle_b15 S a 20000 h1 x2 (0 : Int32))
set_option maxHeartbeats 4000000 in
set_option maxRecDepth 100000 in
theorem k_X12_toldBySingle {l : Launch} {S : fh_S} {g : fh_G} {h h' : fh_H} (hj : fh_inj S g) {a : Nat} {x1 : Int32} {x2 : Int32} {x3 : Int32} {x4 : Int32} {x5 : Int32} {x6 : Int32} {r : Int32} (ha : fh_kq S a 12 = true) (hsp : z_X12_toldBySingle S h a x1 x2 x3 x4 x5 x6 = some (r, h')) : fh_M l yX12_toldBySingle cX12_toldBySingle 8 (some .int) (fh_rm 6) S g [.ref (g.2.2 a), .int x1, .int x2, .int x3, .int x4, .int x5, .int x6] h (some (.int r)) h' := by
  unfold z_X12_toldBySingle at hsp
  refine fr_head (own := RX12) (by decide) rfl hj (Nat.le_of_ble_eq_true rfl) ?_
  intro p e s m below meth c ls C hr hlocks hR hl
  have hl : lv_has ls 8 [(0, .ref (g.2.2 a)), (1, .int x1), (2, .int x2), (3, .int x3), (4, .int x4), (5, .int x5), (6, .int x6)] := hl
  have hx := C.1.1
  have hb := C.1.2.1
  have hb_15 : ∀ (n : Nat) (h : fh_H) (y2 : Int32) (y7 : Int32) (H : Heap) (locs : List Loc) (ls : Array Slot), z_X12_toldBySingle_b15 S a n h y2 y7 = some (r, h') → fh_R S g s.heap h H locs → lv_has ls 8 [(0, .ref (g.2.2 a)), (2, .int y2), (7, .int y7)] → fh_Wk p l e 6 s m [.ref (g.2.2 a), .int x1, .int x2, .int x3, .int x4, .int x5, .int x6] below meth c S g (some (.int r)) h' H locs (F0 m 15 ls []) := by
    intro n
    induction n with
    | zero => intro h y2 y7 H locs ls hsp; cases hsp
    | succ n ih =>
      intro h y2 y7 H locs ls hsp hR hl
      rw [z_X12_toldBySingle_b15] at hsp
      refine lv_iload hx hb dX12_toldBySingle_15 (lv_at hl 2 rfl) ?_
      refine lv_iload_n hx hb dX12_toldBySingle_17 rfl (lv_at hl 1 rfl) ?_
      refine lv_icmp_gt (tgt := 39) hx hb dX12_toldBySingle_18 (by decide) (fun c1 => ?_) (fun c1 => ?_)
      · rw [if_pos c1] at hsp
        refine lv_aload_n hx hb dX12_toldBySingle_39 rfl (lv_at hl 0 rfl) ?_
        refine fr_getj C hR ha Fg_RX12_238 rfl dX12_toldBySingle_40 ?_
        refine lv_l2i hx hb dX12_toldBySingle_43 rfl ?_
        obtain ⟨e1, e2⟩ := fr_s2 hsp
        exact fr_iret C hr hlocks hR e1 e2 dX12_toldBySingle_44
      · rw [if_neg c1] at hsp
        refine lv_aload_n hx hb dX12_toldBySingle_21 rfl (lv_at hl 0 rfl) ?_
        obtain ⟨r2, h3, E4, hsp⟩ := fr_b2 hsp
        refine fq_callV (rest := []) (st1 := [.int r2]) C hR (k_X12_goesToNext C.2.2 ha E4) Y_X12_goesToNext YV_X12_goesToNext Lk_RX12_255 ha ⟨_, _, rfl, by decide⟩ rfl hl.1 ⟨Nat.le_of_ble_eq_true rfl, Nat.le_of_ble_eq_true rfl⟩ rfl (Nat.le_of_ble_eq_true rfl) ⟨Nat.zero_le _, Nat.zero_le _⟩ rfl dX12_toldBySingle_22 (fun H locs hR => ?_)
        refine lv_iconst (v := -1) hx hb dX12_toldBySingle_25 (by decide) ?_
        refine lv_icmp_eq (tgt := 33) hx hb dX12_toldBySingle_26 (by decide) (fun c5 => ?_) (fun c5 => ?_)
        · rw [if_pos c5] at hsp
          obtain ⟨v6, ev6⟩ : ∃ z : Int32, z = y7 + 1 := ⟨_, rfl⟩
          have hsp := fr_let ev6 hsp
          refine lv_iinc (v := v6) (lv' := [(7, .int v6), (0, .ref (g.2.2 a)), (2, .int y2)]) hx hb dX12_toldBySingle_33 hl (k := 2) rfl (by rw [ev6]; rfl) (by decide) rfl (fun ls hl => ?_)
          refine lv_goto (tgt := 15) hx hb dX12_toldBySingle_36 (by decide) ?_
          exact ih h3 y2 v6 _ _ _ hsp hR (lv_sub hl [1, 2, 0] rfl)
        · rw [if_neg c5] at hsp
          refine lv_ldcw hx hb C.1.2.2.2.1 (C.1.2.2.2.2 _ Kc_RX12_354) dX12_toldBySingle_29 ?_
          obtain ⟨e1, e2⟩ := fr_s2 hsp
          exact fr_iret C hr hlocks hR e1 e2 dX12_toldBySingle_32
  refine lv_aload_n hx hb dX12_toldBySingle_0 rfl (lv_at hl 0 rfl) ?_
  refine lv_iload_n hx hb dX12_toldBySingle_1 rfl (lv_at hl 1 rfl) ?_
  refine lv_iload_n hx hb dX12_toldBySingle_2 rfl (lv_at hl 3 rfl) ?_
  refine lv_iload hx hb dX12_toldBySingle_3 (lv_at hl 4 rfl) ?_
  refine lv_iload hx hb dX12_toldBySingle_5 (lv_at hl 5 rfl) ?_
  refine lv_iload hx hb dX12_toldBySingle_7 (lv_at hl 6 rfl) ?_
  obtain ⟨h1, E2, hsp⟩ := fr_b1 hsp
  refine fq_callV (rest := []) (st1 := []) C hR (k_X12_beginsSingle C.2.2 ha E2) Y_X12_beginsSingle YV_X12_beginsSingle Lk_RX12_248 ha ⟨_, _, rfl, by decide⟩ rfl hl.1 ⟨Nat.le_of_ble_eq_true rfl, Nat.le_of_ble_eq_true rfl⟩ rfl (Nat.le_of_ble_eq_true rfl) ⟨Nat.zero_le _, Nat.zero_le _⟩ rfl dX12_toldBySingle_9 (fun H locs hR => ?_)
  refine lv_iconst (v := 0) hx hb dX12_toldBySingle_12 (by decide) ?_
  refine lv_istore (lv' := [(7, .int (0 : Int32)), (0, .ref (g.2.2 a)), (1, .int x1), (2, .int x2), (3, .int x3), (4, .int x4), (5, .int x5), (6, .int x6)]) hx hb dX12_toldBySingle_13 hl (by decide) rfl (fun ls hl => ?_)
  exact hb_15 20000 h1 x2 (0 : Int32) _ _ _ hsp hR (lv_sub hl [1, 3, 0] rfl)

/-! TermRowsModel.readTold()V -/
def z_X12_readTold_b103 (S : fh_S) (a : Nat) (h : fh_H) : Option fh_H :=
    fh_b1 (z_X12_must S h a (93 : Int32)) (fun h1 => if (h1.1 a 41) = 0 then (if (h1.1 a 38) = 0 then (some h1) else (fh_b1 (z_X12_wrong S h1 a (1 : Int32)) (fun h5 => some h5))) else (some h1))
def z_X12_readTold_b54 (S : fh_S) (a : Nat) : Nat → fh_H → Option fh_H
  | 0, _ => none
  | n + 1, h =>
    fh_b1 (z_X12_isNext S h a) (fun r1 => if r1 = 0 then (z_X12_readTold_b103 S a h) else (if (h.1 a 44) = 0 then (fh_b1 (z_X12_pass S h a) (fun h5 => fh_b1 (z_X12_isSign S h5 a (40 : Int32)) (fun r7 => if r7 = 0 then (fh_b2 (z_X12_number S h5 a (1 : Int32) (9999 : Int32)) (fun r10 h11 => fh_b1 (z_X12_keepsTerm S h11 a r10) (fun h13 => z_X12_readTold_b54 S a n h13))) else (fh_b1 (z_X12_readAgainOnes S h5 a) (fun h15 => z_X12_readTold_b54 S a n h15))))) else (z_X12_readTold_b103 S a h)))
def z_X12_readTold_b31 (S : fh_S) (a : Nat) (h : fh_H) (y1 : Int32) : Option fh_H :=
    fh_b2 (z_X12_number S h a (0 : Int32) (9999 : Int32)) (fun r1 h2 => if y1 = 0 then (fh_b1 (z_X12_keepsTerm S h2 a r1) (fun h5 => z_X12_readTold_b54 S a 20000 h5)) else (fh_b1 (z_X12_keepsTerm S h2 a (-r1)) (fun h7 => z_X12_readTold_b54 S a 20000 h7)))
def z_X12_readTold (S : fh_S) (h : fh_H) (a : Nat) : Option fh_H :=
    fh_let (fh_sI h a 45 (0 : Int32)) (fun h1 => fh_let (fh_sI h1 a 46 (0 : Int32)) (fun h2 => fh_b1 (z_X12_must S h2 a (91 : Int32)) (fun h3 => fh_b1 (z_X12_isSign S h3 a (45 : Int32)) (fun r5 => if r5 = 0 then (z_X12_readTold_b31 S a h3 r5) else (fh_b1 (z_X12_pass S h3 a) (fun h8 => z_X12_readTold_b31 S a h8 r5))))))
set_option maxHeartbeats 4000000 in
set_option maxRecDepth 100000 in
theorem k_X12_readTold {l : Launch} {S : fh_S} {g : fh_G} {h h' : fh_H} (hj : fh_inj S g) {a : Nat} (ha : fh_kq S a 12 = true) (hsp : z_X12_readTold S h a = some h') : fh_M l yX12_readTold cX12_readTold 3 none (fh_rm 6) S g [.ref (g.2.2 a)] h none h' := by
  unfold z_X12_readTold at hsp
  refine fr_head (own := RX12) (by decide) rfl hj (Nat.le_of_ble_eq_true rfl) ?_
  intro p e s m below meth c ls C hr hlocks hR hl
  have hl : lv_has ls 3 [(0, .ref (g.2.2 a))] := hl
  have hx := C.1.1
  have hb := C.1.2.1
  have hb_103 : ∀ (h : fh_H) (H : Heap) (locs : List Loc) (ls : Array Slot), z_X12_readTold_b103 S a h = some h' → fh_R S g s.heap h H locs → lv_has ls 3 [(0, .ref (g.2.2 a))] → fh_Wk p l e 6 s m [.ref (g.2.2 a)] below meth c S g none h' H locs (F0 m 103 ls []) := by
    intro h  H locs ls hsp hR hl
    unfold z_X12_readTold_b103 at hsp
    refine lv_aload_n hx hb dX12_readTold_103 rfl (lv_at hl 0 rfl) ?_
    refine lv_bipush (v := 93) hx hb dX12_readTold_104 (by decide) ?_
    obtain ⟨h1, E2, hsp⟩ := fr_b1 hsp
    refine fq_callV (rest := []) (st1 := []) C hR (k_X12_must C.2.2 ha E2) Y_X12_must YV_X12_must Lk_RX12_447 ha ⟨_, _, rfl, by decide⟩ rfl hl.1 ⟨Nat.le_of_ble_eq_true rfl, Nat.le_of_ble_eq_true rfl⟩ rfl (Nat.le_of_ble_eq_true rfl) ⟨Nat.zero_le _, Nat.zero_le _⟩ rfl dX12_readTold_106 (fun H locs hR => ?_)
    refine lv_aload_n hx hb dX12_readTold_109 rfl (lv_at hl 0 rfl) ?_
    refine fr_geti C hR ha Fg_RX12_410 rfl dX12_readTold_110 ?_
    refine lv_if_ne (tgt := 128) hx hb dX12_readTold_113 (by decide) (fun c3 => ?_) (fun c3 => ?_)
    · rw [if_neg c3] at hsp
      exact fr_vret C hr hlocks hR (fr_s1 hsp) dX12_readTold_128
    · rw [if_pos c3] at hsp
      refine lv_aload_n hx hb dX12_readTold_116 rfl (lv_at hl 0 rfl) ?_
      refine fr_geti C hR ha Fg_RX12_398 rfl dX12_readTold_117 ?_
      refine lv_if_eq (tgt := 128) hx hb dX12_readTold_120 (by decide) (fun c4 => ?_) (fun c4 => ?_)
      · rw [if_pos c4] at hsp
        exact fr_vret C hr hlocks hR (fr_s1 hsp) dX12_readTold_128
      · rw [if_neg c4] at hsp
        refine lv_aload_n hx hb dX12_readTold_123 rfl (lv_at hl 0 rfl) ?_
        refine lv_iconst (v := 1) hx hb dX12_readTold_124 (by decide) ?_
        obtain ⟨h5, E6, hsp⟩ := fr_b1 hsp
        refine fq_callV (rest := []) (st1 := []) C hR (k_X12_wrong C.2.2 ha E6) Y_X12_wrong YV_X12_wrong Lk_RX12_434 ha ⟨_, _, rfl, by decide⟩ rfl hl.1 ⟨Nat.le_of_ble_eq_true rfl, Nat.le_of_ble_eq_true rfl⟩ rfl (Nat.le_of_ble_eq_true rfl) ⟨Nat.zero_le _, Nat.zero_le _⟩ rfl dX12_readTold_125 (fun H locs hR => ?_)
        exact fr_vret C hr hlocks hR (fr_s1 hsp) dX12_readTold_128
  have hb_54 : ∀ (n : Nat) (h : fh_H) (H : Heap) (locs : List Loc) (ls : Array Slot), z_X12_readTold_b54 S a n h = some h' → fh_R S g s.heap h H locs → lv_has ls 3 [(0, .ref (g.2.2 a))] → fh_Wk p l e 6 s m [.ref (g.2.2 a)] below meth c S g none h' H locs (F0 m 54 ls []) := by
    intro n
    induction n with
    | zero => intro h  H locs ls hsp; cases hsp
    | succ n ih =>
      intro h  H locs ls hsp hR hl
      rw [z_X12_readTold_b54] at hsp
      refine lv_aload_n hx hb dX12_readTold_54 rfl (lv_at hl 0 rfl) ?_
      obtain ⟨r1, E2, hsp⟩ := fr_b1 hsp
      refine fq_callV (rest := []) (st1 := [.int r1]) C hR (k_X12_isNext C.2.2 ha E2) Y_X12_isNext YV_X12_isNext Lk_RX12_456 ha ⟨_, _, rfl, by decide⟩ rfl hl.1 ⟨Nat.le_of_ble_eq_true rfl, Nat.le_of_ble_eq_true rfl⟩ rfl (Nat.le_of_ble_eq_true rfl) ⟨Nat.zero_le _, Nat.zero_le _⟩ rfl dX12_readTold_55 (fun H locs hR => ?_)
      refine lv_if_eq (tgt := 103) hx hb dX12_readTold_58 (by decide) (fun c3 => ?_) (fun c3 => ?_)
      · rw [if_pos c3] at hsp
        exact hb_103 h _ _ _ hsp hR (lv_sub hl [0] rfl)
      · rw [if_neg c3] at hsp
        refine lv_aload_n hx hb dX12_readTold_61 rfl (lv_at hl 0 rfl) ?_
        refine fr_geti C hR ha Fg_RX12_413 rfl dX12_readTold_62 ?_
        refine lv_if_ne (tgt := 103) hx hb dX12_readTold_65 (by decide) (fun c4 => ?_) (fun c4 => ?_)
        · rw [if_neg c4] at hsp
          exact hb_103 h _ _ _ hsp hR (lv_sub hl [0] rfl)
        · rw [if_pos c4] at hsp
          refine lv_aload_n hx hb dX12_readTold_68 rfl (lv_at hl 0 rfl) ?_
          obtain ⟨h5, E6, hsp⟩ := fr_b1 hsp
          refine fq_callV (rest := []) (st1 := []) C hR (k_X12_pass C.2.2 ha E6) Y_X12_pass YV_X12_pass Lk_RX12_437 ha ⟨_, _, rfl, by decide⟩ rfl hl.1 ⟨Nat.le_of_ble_eq_true rfl, Nat.le_of_ble_eq_true rfl⟩ rfl (Nat.le_of_ble_eq_true rfl) ⟨Nat.zero_le _, Nat.zero_le _⟩ rfl dX12_readTold_69 (fun H locs hR => ?_)
          refine lv_aload_n hx hb dX12_readTold_72 rfl (lv_at hl 0 rfl) ?_
          refine lv_bipush (v := 40) hx hb dX12_readTold_73 (by decide) ?_
          obtain ⟨r7, E8, hsp⟩ := fr_b1 hsp
          refine fq_callV (rest := []) (st1 := [.int r7]) C hR (k_X12_isSign C.2.2 ha E8) Y_X12_isSign YV_X12_isSign Lk_RX12_431 ha ⟨_, _, rfl, by decide⟩ rfl hl.1 ⟨Nat.le_of_ble_eq_true rfl, Nat.le_of_ble_eq_true rfl⟩ rfl (Nat.le_of_ble_eq_true rfl) ⟨Nat.zero_le _, Nat.zero_le _⟩ rfl dX12_readTold_75 (fun H locs hR => ?_)
          refine lv_if_eq (tgt := 88) hx hb dX12_readTold_78 (by decide) (fun c9 => ?_) (fun c9 => ?_)
          · rw [if_pos c9] at hsp
            refine lv_aload_n hx hb dX12_readTold_88 rfl (lv_at hl 0 rfl) ?_
            refine lv_aload_n hx hb dX12_readTold_89 rfl (lv_at hl 0 rfl) ?_
            refine lv_iconst (v := 1) hx hb dX12_readTold_90 (by decide) ?_
            refine lv_sipush (v := 9999) hx hb dX12_readTold_91 (by decide) ?_
            obtain ⟨r10, h11, E12, hsp⟩ := fr_b2 hsp
            refine fq_callV (rest := [.ref (g.2.2 a)]) (st1 := [.int r10, .ref (g.2.2 a)]) C hR (k_X12_number C.2.2 ha E12) Y_X12_number YV_X12_number Lk_RX12_450 ha ⟨_, _, rfl, by decide⟩ rfl hl.1 ⟨Nat.le_of_ble_eq_true rfl, Nat.le_of_ble_eq_true rfl⟩ rfl (Nat.le_of_ble_eq_true rfl) ⟨Nat.zero_le _, Nat.zero_le _⟩ rfl dX12_readTold_94 (fun H locs hR => ?_)
            obtain ⟨h13, E14, hsp⟩ := fr_b1 hsp
            refine fq_callV (rest := []) (st1 := []) C hR (k_X12_keepsTerm C.2.2 ha E14) Y_X12_keepsTerm YV_X12_keepsTerm Lk_RX12_453 ha ⟨_, _, rfl, by decide⟩ rfl hl.1 ⟨Nat.le_of_ble_eq_true rfl, Nat.le_of_ble_eq_true rfl⟩ rfl (Nat.le_of_ble_eq_true rfl) ⟨Nat.zero_le _, Nat.zero_le _⟩ rfl dX12_readTold_97 (fun H locs hR => ?_)
            refine lv_goto (tgt := 54) hx hb dX12_readTold_100 (by decide) ?_
            exact ih h13 _ _ _ hsp hR (lv_sub hl [0] rfl)
          · rw [if_neg c9] at hsp
            refine lv_aload_n hx hb dX12_readTold_81 rfl (lv_at hl 0 rfl) ?_
            obtain ⟨h15, E16, hsp⟩ := fr_b1 hsp
            refine fq_callV (rest := []) (st1 := []) C hR (k_X12_readAgainOnes C.2.2 ha E16) Y_X12_readAgainOnes YV_X12_readAgainOnes Lk_RX12_459 ha ⟨_, _, rfl, by decide⟩ rfl hl.1 ⟨Nat.le_of_ble_eq_true rfl, Nat.le_of_ble_eq_true rfl⟩ rfl (Nat.le_of_ble_eq_true rfl) ⟨Nat.zero_le _, Nat.zero_le _⟩ rfl dX12_readTold_82 (fun H locs hR => ?_)
            refine lv_goto (tgt := 54) hx hb dX12_readTold_85 (by decide) ?_
            exact ih h15 _ _ _ hsp hR (lv_sub hl [0] rfl)
  have hb_31 : ∀ (h : fh_H) (y1 : Int32) (H : Heap) (locs : List Loc) (ls : Array Slot), z_X12_readTold_b31 S a h y1 = some h' → fh_R S g s.heap h H locs → lv_has ls 3 [(0, .ref (g.2.2 a)), (1, .int y1)] → fh_Wk p l e 6 s m [.ref (g.2.2 a)] below meth c S g none h' H locs (F0 m 31 ls []) := by
    intro h y1 H locs ls hsp hR hl
    unfold z_X12_readTold_b31 at hsp
    refine lv_aload_n hx hb dX12_readTold_31 rfl (lv_at hl 0 rfl) ?_
    refine lv_iconst (v := 0) hx hb dX12_readTold_32 (by decide) ?_
    refine lv_sipush (v := 9999) hx hb dX12_readTold_33 (by decide) ?_
    obtain ⟨r1, h2, E3, hsp⟩ := fr_b2 hsp
    refine fq_callV (rest := []) (st1 := [.int r1]) C hR (k_X12_number C.2.2 ha E3) Y_X12_number YV_X12_number Lk_RX12_450 ha ⟨_, _, rfl, by decide⟩ rfl hl.1 ⟨Nat.le_of_ble_eq_true rfl, Nat.le_of_ble_eq_true rfl⟩ rfl (Nat.le_of_ble_eq_true rfl) ⟨Nat.zero_le _, Nat.zero_le _⟩ rfl dX12_readTold_36 (fun H locs hR => ?_)
    refine lv_istore_n (lv' := [(2, .int r1), (0, .ref (g.2.2 a)), (1, .int y1)]) hx hb dX12_readTold_39 rfl hl (by decide) rfl (fun ls hl => ?_)
    refine lv_aload_n hx hb dX12_readTold_40 rfl (lv_at hl 1 rfl) ?_
    refine lv_iload_n hx hb dX12_readTold_41 rfl (lv_at hl 2 rfl) ?_
    refine lv_if_eq (tgt := 50) hx hb dX12_readTold_42 (by decide) (fun c4 => ?_) (fun c4 => ?_)
    · rw [if_pos c4] at hsp
      refine lv_iload_n hx hb dX12_readTold_50 rfl (lv_at hl 0 rfl) ?_
      obtain ⟨h5, E6, hsp⟩ := fr_b1 hsp
      refine fq_callV (rest := []) (st1 := []) C hR (k_X12_keepsTerm C.2.2 ha E6) Y_X12_keepsTerm YV_X12_keepsTerm Lk_RX12_453 ha ⟨_, _, rfl, by decide⟩ rfl hl.1 ⟨Nat.le_of_ble_eq_true rfl, Nat.le_of_ble_eq_true rfl⟩ rfl (Nat.le_of_ble_eq_true rfl) ⟨Nat.zero_le _, Nat.zero_le _⟩ rfl dX12_readTold_51 (fun H locs hR => ?_)
      exact hb_54 20000 h5 _ _ _ hsp hR (lv_sub hl [1] rfl)
    · rw [if_neg c4] at hsp
      refine lv_iload_n hx hb dX12_readTold_45 rfl (lv_at hl 0 rfl) ?_
      refine lv_ineg hx hb dX12_readTold_46 ?_
      refine lv_goto (tgt := 51) hx hb dX12_readTold_47 (by decide) ?_
      obtain ⟨h7, E8, hsp⟩ := fr_b1 hsp
      refine fq_callV (rest := []) (st1 := []) C hR (k_X12_keepsTerm C.2.2 ha E8) Y_X12_keepsTerm YV_X12_keepsTerm Lk_RX12_453 ha ⟨_, _, rfl, by decide⟩ rfl hl.1 ⟨Nat.le_of_ble_eq_true rfl, Nat.le_of_ble_eq_true rfl⟩ rfl (Nat.le_of_ble_eq_true rfl) ⟨Nat.zero_le _, Nat.zero_le _⟩ rfl dX12_readTold_51 (fun H locs hR => ?_)
      exact hb_54 20000 h7 _ _ _ hsp hR (lv_sub hl [1] rfl)
  refine lv_aload_n hx hb dX12_readTold_0 rfl (lv_at hl 0 rfl) ?_
  refine lv_iconst (v := 0) hx hb dX12_readTold_1 (by decide) ?_
  refine fr_puti C hR ha Fp_RX12_441 rfl dX12_readTold_2 (fun H locs hR => ?_)
  obtain ⟨h1, eh1⟩ : ∃ z, z = fh_sI h a 45 (0 : Int32) := ⟨_, rfl⟩
  rw [← eh1] at hR
  have hsp := fr_let eh1 hsp
  refine lv_aload_n hx hb dX12_readTold_5 rfl (lv_at hl 0 rfl) ?_
  refine lv_iconst (v := 0) hx hb dX12_readTold_6 (by decide) ?_
  refine fr_puti C hR ha Fp_RX12_444 rfl dX12_readTold_7 (fun H locs hR => ?_)
  obtain ⟨h2, eh2⟩ : ∃ z, z = fh_sI h1 a 46 (0 : Int32) := ⟨_, rfl⟩
  rw [← eh2] at hR
  have hsp := fr_let eh2 hsp
  refine lv_aload_n hx hb dX12_readTold_10 rfl (lv_at hl 0 rfl) ?_
  refine lv_bipush (v := 91) hx hb dX12_readTold_11 (by decide) ?_
  obtain ⟨h3, E4, hsp⟩ := fr_b1 hsp
  refine fq_callV (rest := []) (st1 := []) C hR (k_X12_must C.2.2 ha E4) Y_X12_must YV_X12_must Lk_RX12_447 ha ⟨_, _, rfl, by decide⟩ rfl hl.1 ⟨Nat.le_of_ble_eq_true rfl, Nat.le_of_ble_eq_true rfl⟩ rfl (Nat.le_of_ble_eq_true rfl) ⟨Nat.zero_le _, Nat.zero_le _⟩ rfl dX12_readTold_13 (fun H locs hR => ?_)
  refine lv_aload_n hx hb dX12_readTold_16 rfl (lv_at hl 0 rfl) ?_
  refine lv_bipush (v := 45) hx hb dX12_readTold_17 (by decide) ?_
  obtain ⟨r5, E6, hsp⟩ := fr_b1 hsp
  refine fq_callV (rest := []) (st1 := [.int r5]) C hR (k_X12_isSign C.2.2 ha E6) Y_X12_isSign YV_X12_isSign Lk_RX12_431 ha ⟨_, _, rfl, by decide⟩ rfl hl.1 ⟨Nat.le_of_ble_eq_true rfl, Nat.le_of_ble_eq_true rfl⟩ rfl (Nat.le_of_ble_eq_true rfl) ⟨Nat.zero_le _, Nat.zero_le _⟩ rfl dX12_readTold_19 (fun H locs hR => ?_)
  refine lv_istore_n (lv' := [(1, .int r5), (0, .ref (g.2.2 a))]) hx hb dX12_readTold_22 rfl hl (by decide) rfl (fun ls hl => ?_)
  refine lv_iload_n hx hb dX12_readTold_23 rfl (lv_at hl 0 rfl) ?_
  refine lv_if_eq (tgt := 31) hx hb dX12_readTold_24 (by decide) (fun c7 => ?_) (fun c7 => ?_)
  · rw [if_pos c7] at hsp
    exact hb_31 h3 r5 _ _ _ hsp hR (lv_sub hl [1, 0] rfl)
  · rw [if_neg c7] at hsp
    refine lv_aload_n hx hb dX12_readTold_27 rfl (lv_at hl 1 rfl) ?_
    obtain ⟨h8, E9, hsp⟩ := fr_b1 hsp
    refine fq_callV (rest := []) (st1 := []) C hR (k_X12_pass C.2.2 ha E9) Y_X12_pass YV_X12_pass Lk_RX12_437 ha ⟨_, _, rfl, by decide⟩ rfl hl.1 ⟨Nat.le_of_ble_eq_true rfl, Nat.le_of_ble_eq_true rfl⟩ rfl (Nat.le_of_ble_eq_true rfl) ⟨Nat.zero_le _, Nat.zero_le _⟩ rfl dX12_readTold_28 (fun H locs hR => ?_)
    exact hb_31 h8 r5 _ _ _ hsp hR (lv_sub hl [1, 0] rfl)

/-! TermRowsModel.lay(I)V -/
def z_X12_lay (S : fh_S) (h : fh_H) (a : Nat) (x1 : Int32) : Option fh_H :=
    fh_b1 (z_X12_of1 S h a x1 (0 : Int32)) (fun r1 => if r1 = 0 then (fh_b1 (z_X12_of1 S h a x1 (1 : Int32)) (fun r4 => fh_b1 (z_X12_of1 S h a x1 (2 : Int32)) (fun r6 => fh_b1 (z_X12_divides S h a x1 (Int32.toInt64 r4) (Int32.toInt64 r6)) (fun h8 => some h8)))) else (if r1 = 1 then (fh_b1 (z_X12_layRoot S h a x1) (fun h11 => some h11)) else (if r1 = 2 then (fh_b1 (z_X12_layTold S h a x1) (fun h14 => some h14)) else (fh_b1 (z_X12_layMade S h a x1) (fun h16 => some h16)))))
set_option maxHeartbeats 4000000 in
set_option maxRecDepth 100000 in
theorem k_X12_lay {l : Launch} {S : fh_S} {g : fh_G} {h h' : fh_H} (hj : fh_inj S g) {a : Nat} {x1 : Int32} (ha : fh_kq S a 12 = true) (hsp : z_X12_lay S h a x1 = some h') : fh_M l yX12_lay cX12_lay 2 none (fh_rm 7) S g [.ref (g.2.2 a), .int x1] h none h' := by
  unfold z_X12_lay at hsp
  refine fr_head (own := RX12) (by decide) rfl hj (Nat.le_of_ble_eq_true rfl) ?_
  intro p e s m below meth c ls C hr hlocks hR hl
  have hl : lv_has ls 2 [(0, .ref (g.2.2 a)), (1, .int x1)] := hl
  have hx := C.1.1
  have hb := C.1.2.1
  refine lv_aload_n hx hb dX12_lay_0 rfl (lv_at hl 0 rfl) ?_
  refine lv_iload_n hx hb dX12_lay_1 rfl (lv_at hl 1 rfl) ?_
  refine lv_iconst (v := 0) hx hb dX12_lay_2 (by decide) ?_
  obtain ⟨r1, E2, hsp⟩ := fr_b1 hsp
  refine fq_callV (rest := []) (st1 := [.int r1]) C hR (k_X12_of1 C.2.2 ha E2) Y_X12_of1 YV_X12_of1 Lk_RX12_86 ha ⟨_, _, rfl, by decide⟩ rfl hl.1 ⟨Nat.le_of_ble_eq_true rfl, Nat.le_of_ble_eq_true rfl⟩ rfl (Nat.le_of_ble_eq_true rfl) ⟨Nat.zero_le _, Nat.zero_le _⟩ rfl dX12_lay_3 (fun H locs hR => ?_)
  by_cases c3 : r1 = 0
  · rw [if_pos c3] at hsp
    refine lv_tableIn (off := 26) (tgt := 32) hx hb dX12_lay_6 (by rw [c3]; decide) (by rw [c3]; decide) (by rw [c3]; decide) (by decide) ?_
    refine lv_aload_n hx hb dX12_lay_32 rfl (lv_at hl 0 rfl) ?_
    refine lv_iload_n hx hb dX12_lay_33 rfl (lv_at hl 1 rfl) ?_
    refine lv_aload_n hx hb dX12_lay_34 rfl (lv_at hl 0 rfl) ?_
    refine lv_iload_n hx hb dX12_lay_35 rfl (lv_at hl 1 rfl) ?_
    refine lv_iconst (v := 1) hx hb dX12_lay_36 (by decide) ?_
    obtain ⟨r4, E5, hsp⟩ := fr_b1 hsp
    refine fq_callV (rest := [.int x1, .ref (g.2.2 a)]) (st1 := [.int r4, .int x1, .ref (g.2.2 a)]) C hR (k_X12_of1 C.2.2 ha E5) Y_X12_of1 YV_X12_of1 Lk_RX12_86 ha ⟨_, _, rfl, by decide⟩ rfl hl.1 ⟨Nat.le_of_ble_eq_true rfl, Nat.le_of_ble_eq_true rfl⟩ rfl (Nat.le_of_ble_eq_true rfl) ⟨Nat.zero_le _, Nat.zero_le _⟩ rfl dX12_lay_37 (fun H locs hR => ?_)
    refine lv_i2l hx hb dX12_lay_40 rfl ?_
    refine lv_aload_n hx hb dX12_lay_41 rfl (lv_at hl 0 rfl) ?_
    refine lv_iload_n hx hb dX12_lay_42 rfl (lv_at hl 1 rfl) ?_
    refine lv_iconst (v := 2) hx hb dX12_lay_43 (by decide) ?_
    obtain ⟨r6, E7, hsp⟩ := fr_b1 hsp
    refine fq_callV (rest := [.long (Int32.toInt64 r4), .int x1, .ref (g.2.2 a)]) (st1 := [.int r6, .long (Int32.toInt64 r4), .int x1, .ref (g.2.2 a)]) C hR (k_X12_of1 C.2.2 ha E7) Y_X12_of1 YV_X12_of1 Lk_RX12_86 ha ⟨_, _, rfl, by decide⟩ rfl hl.1 ⟨Nat.le_of_ble_eq_true rfl, Nat.le_of_ble_eq_true rfl⟩ rfl (Nat.le_of_ble_eq_true rfl) ⟨Nat.zero_le _, Nat.zero_le _⟩ rfl dX12_lay_44 (fun H locs hR => ?_)
    refine lv_i2l hx hb dX12_lay_47 rfl ?_
    obtain ⟨h8, E9, hsp⟩ := fr_b1 hsp
    refine fq_callV (rest := []) (st1 := []) C hR (k_X12_divides C.2.2 ha E9) Y_X12_divides YV_X12_divides Lk_RX12_90 ha ⟨_, _, rfl, by decide⟩ rfl hl.1 ⟨Nat.le_of_ble_eq_true rfl, Nat.le_of_ble_eq_true rfl⟩ rfl (Nat.le_of_ble_eq_true rfl) ⟨Nat.zero_le _, Nat.zero_le _⟩ rfl dX12_lay_48 (fun H locs hR => ?_)
    refine lv_goto (tgt := 75) hx hb dX12_lay_51 (by decide) ?_
    exact fr_vret C hr hlocks hR (fr_s1 hsp) dX12_lay_75
  rw [if_neg c3] at hsp
  by_cases c10 : r1 = 1
  · rw [if_pos c10] at hsp
    refine lv_tableIn (off := 48) (tgt := 54) hx hb dX12_lay_6 (by rw [c10]; decide) (by rw [c10]; decide) (by rw [c10]; decide) (by decide) ?_
    refine lv_aload_n hx hb dX12_lay_54 rfl (lv_at hl 0 rfl) ?_
    refine lv_iload_n hx hb dX12_lay_55 rfl (lv_at hl 1 rfl) ?_
    obtain ⟨h11, E12, hsp⟩ := fr_b1 hsp
    refine fq_callV (rest := []) (st1 := []) C hR (k_X12_layRoot C.2.2 ha E12) Y_X12_layRoot YV_X12_layRoot Lk_RX12_94 ha ⟨_, _, rfl, by decide⟩ rfl hl.1 ⟨Nat.le_of_ble_eq_true rfl, Nat.le_of_ble_eq_true rfl⟩ rfl (Nat.le_of_ble_eq_true rfl) ⟨Nat.zero_le _, Nat.zero_le _⟩ rfl dX12_lay_56 (fun H locs hR => ?_)
    refine lv_goto (tgt := 75) hx hb dX12_lay_59 (by decide) ?_
    exact fr_vret C hr hlocks hR (fr_s1 hsp) dX12_lay_75
  rw [if_neg c10] at hsp
  by_cases c13 : r1 = 2
  · rw [if_pos c13] at hsp
    refine lv_tableIn (off := 56) (tgt := 62) hx hb dX12_lay_6 (by rw [c13]; decide) (by rw [c13]; decide) (by rw [c13]; decide) (by decide) ?_
    refine lv_aload_n hx hb dX12_lay_62 rfl (lv_at hl 0 rfl) ?_
    refine lv_iload_n hx hb dX12_lay_63 rfl (lv_at hl 1 rfl) ?_
    obtain ⟨h14, E15, hsp⟩ := fr_b1 hsp
    refine fq_callV (rest := []) (st1 := []) C hR (k_X12_layTold C.2.2 ha E15) Y_X12_layTold YV_X12_layTold Lk_RX12_97 ha ⟨_, _, rfl, by decide⟩ rfl hl.1 ⟨Nat.le_of_ble_eq_true rfl, Nat.le_of_ble_eq_true rfl⟩ rfl (Nat.le_of_ble_eq_true rfl) ⟨Nat.zero_le _, Nat.zero_le _⟩ rfl dX12_lay_64 (fun H locs hR => ?_)
    refine lv_goto (tgt := 75) hx hb dX12_lay_67 (by decide) ?_
    exact fr_vret C hr hlocks hR (fr_s1 hsp) dX12_lay_75
  rw [if_neg c13] at hsp
  refine lv_tableOut (tgt := 70) hx hb dX12_lay_6 (fr_tout 0 3 (fun j hj => by match j, hj with | 0, _ => exact c3 | 1, _ => exact c10 | 2, _ => exact c13 | (k + 3), hk => omega) (by decide) (by decide)) (by decide) ?_
  refine lv_aload_n hx hb dX12_lay_70 rfl (lv_at hl 0 rfl) ?_
  refine lv_iload_n hx hb dX12_lay_71 rfl (lv_at hl 1 rfl) ?_
  obtain ⟨h16, E17, hsp⟩ := fr_b1 hsp
  refine fq_callV (rest := []) (st1 := []) C hR (k_X12_layMade C.2.2 ha E17) Y_X12_layMade YV_X12_layMade Lk_RX12_100 ha ⟨_, _, rfl, by decide⟩ rfl hl.1 ⟨Nat.le_of_ble_eq_true rfl, Nat.le_of_ble_eq_true rfl⟩ rfl (Nat.le_of_ble_eq_true rfl) ⟨Nat.zero_le _, Nat.zero_le _⟩ rfl dX12_lay_72 (fun H locs hR => ?_)
  exact fr_vret C hr hlocks hR (fr_s1 hsp) dX12_lay_75

/-! TermRowsModel.floor(II)I -/
def z_X12_floor_b29 (S : fh_S) (a : Nat) (h : fh_H) (y1 : Int32) (y2 : Int32) (t0 : Int32) (t1 : Nat) : Option (Int32 × fh_H) :=
    fh_ck (fh_kq S t1 12) (fh_let (fh_sI h t1 3 t0) (fun h2 => if (h2.1 a 3) ≤ 0 then (fh_b2 (z_X12_toldBySingle S h2 a y1 (0 : Int32) y2 (0 : Int32) (0 : Int32) (1 : Int32)) (fun r4 h5 => some (r4, h5))) else (some ((0 : Int32), h2))))
def z_X12_floor (S : fh_S) (h : fh_H) (a : Nat) (x1 : Int32) (x2 : Int32) : Option (Int32 × fh_H) :=
    fh_b1 (z_X12_isRow x1) (fun r1 => if r1 = 0 then (z_X12_floor_b29 S a h x1 x2 (1 : Int32) a) else (fh_b1 (z_X12_isIn (Int32.toInt64 x2) (1 : Int64) (9999 : Int64)) (fun r4 => if r4 = 0 then (z_X12_floor_b29 S a h x1 x2 (2 : Int32) a) else (z_X12_floor_b29 S a h x1 x2 (0 : Int32) a))))
set_option maxHeartbeats 4000000 in
set_option maxRecDepth 100000 in
theorem k_X12_floor {l : Launch} {S : fh_S} {g : fh_G} {h h' : fh_H} (hj : fh_inj S g) {a : Nat} {x1 : Int32} {x2 : Int32} {r : Int32} (ha : fh_kq S a 12 = true) (hsp : z_X12_floor S h a x1 x2 = some (r, h')) : fh_M l yX12_floor cX12_floor 3 (some .int) (fh_rm 7) S g [.ref (g.2.2 a), .int x1, .int x2] h (some (.int r)) h' := by
  unfold z_X12_floor at hsp
  refine fr_head (own := RX12) (by decide) rfl hj (Nat.le_of_ble_eq_true rfl) ?_
  intro p e s m below meth c ls C hr hlocks hR hl
  have hl : lv_has ls 3 [(0, .ref (g.2.2 a)), (1, .int x1), (2, .int x2)] := hl
  have hx := C.1.1
  have hb := C.1.2.1
  have hb_29 : ∀ (h : fh_H) (y1 : Int32) (y2 : Int32) (t0 : Int32) (t1 : Nat) (H : Heap) (locs : List Loc) (ls : Array Slot), z_X12_floor_b29 S a h y1 y2 t0 t1 = some (r, h') → fh_R S g s.heap h H locs → lv_has ls 3 [(0, .ref (g.2.2 a)), (1, .int y1), (2, .int y2)] → fh_Wk p l e 7 s m [.ref (g.2.2 a), .int x1, .int x2] below meth c S g (some (.int r)) h' H locs (F0 m 29 ls [.int t0, .ref (g.2.2 t1)]) := by
    intro h y1 y2 t0 t1 H locs ls hsp hR hl
    unfold z_X12_floor_b29 at hsp
    obtain ⟨hk1, hsp⟩ := fr_ck hsp
    refine fr_puti C hR hk1 Fp_RX12_73 rfl dX12_floor_29 (fun H locs hR => ?_)
    obtain ⟨h2, eh2⟩ : ∃ z, z = fh_sI h t1 3 t0 := ⟨_, rfl⟩
    rw [← eh2] at hR
    have hsp := fr_let eh2 hsp
    refine lv_aload_n hx hb dX12_floor_32 rfl (lv_at hl 0 rfl) ?_
    refine fr_geti C hR ha Fg_RX12_73 rfl dX12_floor_33 ?_
    refine lv_if_le (tgt := 43) hx hb dX12_floor_36 (by decide) (fun c3 => ?_) (fun c3 => ?_)
    · rw [if_pos c3] at hsp
      refine lv_aload_n hx hb dX12_floor_43 rfl (lv_at hl 0 rfl) ?_
      refine lv_iload_n hx hb dX12_floor_44 rfl (lv_at hl 1 rfl) ?_
      refine lv_iconst (v := 0) hx hb dX12_floor_45 (by decide) ?_
      refine lv_iload_n hx hb dX12_floor_46 rfl (lv_at hl 2 rfl) ?_
      refine lv_iconst (v := 0) hx hb dX12_floor_47 (by decide) ?_
      refine lv_iconst (v := 0) hx hb dX12_floor_48 (by decide) ?_
      refine lv_iconst (v := 1) hx hb dX12_floor_49 (by decide) ?_
      obtain ⟨r4, h5, E6, hsp⟩ := fr_b2 hsp
      refine fq_callV (rest := []) (st1 := [.int r4]) C hR (k_X12_toldBySingle C.2.2 ha E6) Y_X12_toldBySingle YV_X12_toldBySingle Lk_RX12_355 ha ⟨_, _, rfl, by decide⟩ rfl hl.1 ⟨Nat.le_of_ble_eq_true rfl, Nat.le_of_ble_eq_true rfl⟩ rfl (Nat.le_of_ble_eq_true rfl) ⟨Nat.zero_le _, Nat.zero_le _⟩ rfl dX12_floor_50 (fun H locs hR => ?_)
      obtain ⟨e1, e2⟩ := fr_s2 hsp
      exact fr_iret C hr hlocks hR e1 e2 dX12_floor_53
    · rw [if_neg c3] at hsp
      refine lv_iconst (v := 0) hx hb dX12_floor_39 (by decide) ?_
      refine lv_goto (tgt := 53) hx hb dX12_floor_40 (by decide) ?_
      obtain ⟨e1, e2⟩ := fr_s2 hsp
      exact fr_iret C hr hlocks hR e1 e2 dX12_floor_53
  refine lv_aload_n hx hb dX12_floor_0 rfl (lv_at hl 0 rfl) ?_
  refine lv_iload_n hx hb dX12_floor_1 rfl (lv_at hl 1 rfl) ?_
  obtain ⟨r1, E2, hsp⟩ := fr_b1 hsp
  refine fq_callS (rest := [.ref (g.2.2 a)]) (st1 := [.int r1, .ref (g.2.2 a)]) C hR (k_X12_isRow C.2.2 E2) Y_X12_isRow YS_X12_isRow Lk_RX12_264 rfl hl.1 ⟨Nat.le_of_ble_eq_true rfl, Nat.le_of_ble_eq_true rfl⟩ rfl (Nat.le_of_ble_eq_true rfl) ⟨Nat.zero_le _, Nat.zero_le _⟩ rfl dX12_floor_2 (fun H locs hR => ?_)
  refine lv_if_ne (tgt := 12) hx hb dX12_floor_5 (by decide) (fun c3 => ?_) (fun c3 => ?_)
  · rw [if_neg c3] at hsp
    refine lv_iload_n hx hb dX12_floor_12 rfl (lv_at hl 2 rfl) ?_
    refine lv_i2l hx hb dX12_floor_13 rfl ?_
    refine lv_lconst (v := 1) hx hb dX12_floor_14 (by decide) ?_
    refine lv_ldc2 hx hb C.1.2.2.2.1 (C.1.2.2.2.2 _ Kc_RX12_269) dX12_floor_15 ?_
    obtain ⟨r4, E5, hsp⟩ := fr_b1 hsp
    refine fq_callS (rest := [.ref (g.2.2 a)]) (st1 := [.int r4, .ref (g.2.2 a)]) C hR (k_X12_isIn C.2.2 E5) Y_X12_isIn YS_X12_isIn Lk_RX12_78 rfl hl.1 ⟨Nat.le_of_ble_eq_true rfl, Nat.le_of_ble_eq_true rfl⟩ rfl (Nat.le_of_ble_eq_true rfl) ⟨Nat.zero_le _, Nat.zero_le _⟩ rfl dX12_floor_18 (fun H locs hR => ?_)
    refine lv_if_ne (tgt := 28) hx hb dX12_floor_21 (by decide) (fun c6 => ?_) (fun c6 => ?_)
    · rw [if_neg c6] at hsp
      refine lv_iconst (v := 0) hx hb dX12_floor_28 (by decide) ?_
      exact hb_29 h x1 x2 (0 : Int32) a _ _ _ hsp hR (lv_sub hl [0, 1, 2] rfl)
    · rw [if_pos c6] at hsp
      refine lv_iconst (v := 2) hx hb dX12_floor_24 (by decide) ?_
      refine lv_goto (tgt := 29) hx hb dX12_floor_25 (by decide) ?_
      exact hb_29 h x1 x2 (2 : Int32) a _ _ _ hsp hR (lv_sub hl [0, 1, 2] rfl)
  · rw [if_pos c3] at hsp
    refine lv_iconst (v := 1) hx hb dX12_floor_8 (by decide) ?_
    refine lv_goto (tgt := 29) hx hb dX12_floor_9 (by decide) ?_
    exact hb_29 h x1 x2 (1 : Int32) a _ _ _ hsp hR (lv_sub hl [0, 1, 2] rfl)

/-! TermRowsModel.would(IIIIII)I -/
def z_X12_would_b42 (S : fh_S) (a : Nat) (h : fh_H) (y1 : Int32) (y2 : Int32) (y3 : Int32) (y4 : Int32) (y5 : Int32) (y6 : Int32) (t0 : Int32) (t1 : Nat) : Option (Int32 × fh_H) :=
    fh_ck (fh_kq S t1 12) (fh_let (fh_sI h t1 3 t0) (fun h2 => if (h2.1 a 3) ≤ 0 then (fh_b2 (z_X12_toldBySingle S h2 a y1 y2 y3 y4 y5 y6) (fun r4 h5 => some (r4, h5))) else (some ((0 : Int32), h2))))
def z_X12_would (S : fh_S) (h : fh_H) (a : Nat) (x1 : Int32) (x2 : Int32) (x3 : Int32) (x4 : Int32) (x5 : Int32) (x6 : Int32) : Option (Int32 × fh_H) :=
    fh_b1 (z_X12_isRow x1) (fun r1 => if r1 = 0 then (z_X12_would_b42 S a h x1 x2 x3 x4 x5 x6 (1 : Int32) a) else (fh_b1 (z_X12_isIn (Int32.toInt64 x2) (0 : Int64) (59 : Int64)) (fun r4 => if r4 = 0 then (z_X12_would_b42 S a h x1 x2 x3 x4 x5 x6 (1 : Int32) a) else (fh_b1 (z_X12_areSmall x3 x4 x5 x6) (fun r7 => if r7 = 0 then (z_X12_would_b42 S a h x1 x2 x3 x4 x5 x6 (2 : Int32) a) else (z_X12_would_b42 S a h x1 x2 x3 x4 x5 x6 (0 : Int32) a))))))
set_option maxHeartbeats 4000000 in
set_option maxRecDepth 100000 in
theorem k_X12_would {l : Launch} {S : fh_S} {g : fh_G} {h h' : fh_H} (hj : fh_inj S g) {a : Nat} {x1 : Int32} {x2 : Int32} {x3 : Int32} {x4 : Int32} {x5 : Int32} {x6 : Int32} {r : Int32} (ha : fh_kq S a 12 = true) (hsp : z_X12_would S h a x1 x2 x3 x4 x5 x6 = some (r, h')) : fh_M l yX12_would cX12_would 7 (some .int) (fh_rm 7) S g [.ref (g.2.2 a), .int x1, .int x2, .int x3, .int x4, .int x5, .int x6] h (some (.int r)) h' := by
  unfold z_X12_would at hsp
  refine fr_head (own := RX12) (by decide) rfl hj (Nat.le_of_ble_eq_true rfl) ?_
  intro p e s m below meth c ls C hr hlocks hR hl
  have hl : lv_has ls 7 [(0, .ref (g.2.2 a)), (1, .int x1), (2, .int x2), (3, .int x3), (4, .int x4), (5, .int x5), (6, .int x6)] := hl
  have hx := C.1.1
  have hb := C.1.2.1
  have hb_42 : ∀ (h : fh_H) (y1 : Int32) (y2 : Int32) (y3 : Int32) (y4 : Int32) (y5 : Int32) (y6 : Int32) (t0 : Int32) (t1 : Nat) (H : Heap) (locs : List Loc) (ls : Array Slot), z_X12_would_b42 S a h y1 y2 y3 y4 y5 y6 t0 t1 = some (r, h') → fh_R S g s.heap h H locs → lv_has ls 7 [(0, .ref (g.2.2 a)), (1, .int y1), (2, .int y2), (3, .int y3), (4, .int y4), (5, .int y5), (6, .int y6)] → fh_Wk p l e 7 s m [.ref (g.2.2 a), .int x1, .int x2, .int x3, .int x4, .int x5, .int x6] below meth c S g (some (.int r)) h' H locs (F0 m 42 ls [.int t0, .ref (g.2.2 t1)]) := by
    intro h y1 y2 y3 y4 y5 y6 t0 t1 H locs ls hsp hR hl
    unfold z_X12_would_b42 at hsp
    obtain ⟨hk1, hsp⟩ := fr_ck hsp
    refine fr_puti C hR hk1 Fp_RX12_73 rfl dX12_would_42 (fun H locs hR => ?_)
    obtain ⟨h2, eh2⟩ : ∃ z, z = fh_sI h t1 3 t0 := ⟨_, rfl⟩
    rw [← eh2] at hR
    have hsp := fr_let eh2 hsp
    refine lv_aload_n hx hb dX12_would_45 rfl (lv_at hl 0 rfl) ?_
    refine fr_geti C hR ha Fg_RX12_73 rfl dX12_would_46 ?_
    refine lv_if_le (tgt := 56) hx hb dX12_would_49 (by decide) (fun c3 => ?_) (fun c3 => ?_)
    · rw [if_pos c3] at hsp
      refine lv_aload_n hx hb dX12_would_56 rfl (lv_at hl 0 rfl) ?_
      refine lv_iload_n hx hb dX12_would_57 rfl (lv_at hl 1 rfl) ?_
      refine lv_iload_n hx hb dX12_would_58 rfl (lv_at hl 2 rfl) ?_
      refine lv_iload_n hx hb dX12_would_59 rfl (lv_at hl 3 rfl) ?_
      refine lv_iload hx hb dX12_would_60 (lv_at hl 4 rfl) ?_
      refine lv_iload hx hb dX12_would_62 (lv_at hl 5 rfl) ?_
      refine lv_iload hx hb dX12_would_64 (lv_at hl 6 rfl) ?_
      obtain ⟨r4, h5, E6, hsp⟩ := fr_b2 hsp
      refine fq_callV (rest := []) (st1 := [.int r4]) C hR (k_X12_toldBySingle C.2.2 ha E6) Y_X12_toldBySingle YV_X12_toldBySingle Lk_RX12_355 ha ⟨_, _, rfl, by decide⟩ rfl hl.1 ⟨Nat.le_of_ble_eq_true rfl, Nat.le_of_ble_eq_true rfl⟩ rfl (Nat.le_of_ble_eq_true rfl) ⟨Nat.zero_le _, Nat.zero_le _⟩ rfl dX12_would_66 (fun H locs hR => ?_)
      obtain ⟨e1, e2⟩ := fr_s2 hsp
      exact fr_iret C hr hlocks hR e1 e2 dX12_would_69
    · rw [if_neg c3] at hsp
      refine lv_iconst (v := 0) hx hb dX12_would_52 (by decide) ?_
      refine lv_goto (tgt := 69) hx hb dX12_would_53 (by decide) ?_
      obtain ⟨e1, e2⟩ := fr_s2 hsp
      exact fr_iret C hr hlocks hR e1 e2 dX12_would_69
  refine lv_aload_n hx hb dX12_would_0 rfl (lv_at hl 0 rfl) ?_
  refine lv_iload_n hx hb dX12_would_1 rfl (lv_at hl 1 rfl) ?_
  obtain ⟨r1, E2, hsp⟩ := fr_b1 hsp
  refine fq_callS (rest := [.ref (g.2.2 a)]) (st1 := [.int r1, .ref (g.2.2 a)]) C hR (k_X12_isRow C.2.2 E2) Y_X12_isRow YS_X12_isRow Lk_RX12_264 rfl hl.1 ⟨Nat.le_of_ble_eq_true rfl, Nat.le_of_ble_eq_true rfl⟩ rfl (Nat.le_of_ble_eq_true rfl) ⟨Nat.zero_le _, Nat.zero_le _⟩ rfl dX12_would_2 (fun H locs hR => ?_)
  refine lv_if_eq (tgt := 20) hx hb dX12_would_5 (by decide) (fun c3 => ?_) (fun c3 => ?_)
  · rw [if_pos c3] at hsp
    refine lv_iconst (v := 1) hx hb dX12_would_20 (by decide) ?_
    refine lv_goto (tgt := 42) hx hb dX12_would_21 (by decide) ?_
    exact hb_42 h x1 x2 x3 x4 x5 x6 (1 : Int32) a _ _ _ hsp hR (lv_sub hl [0, 1, 2, 3, 4, 5, 6] rfl)
  · rw [if_neg c3] at hsp
    refine lv_iload_n hx hb dX12_would_8 rfl (lv_at hl 2 rfl) ?_
    refine lv_i2l hx hb dX12_would_9 rfl ?_
    refine lv_lconst (v := 0) hx hb dX12_would_10 (by decide) ?_
    refine lv_ldc2 hx hb C.1.2.2.2.1 (C.1.2.2.2.2 _ Kc_RX12_359) dX12_would_11 ?_
    obtain ⟨r4, E5, hsp⟩ := fr_b1 hsp
    refine fq_callS (rest := [.ref (g.2.2 a)]) (st1 := [.int r4, .ref (g.2.2 a)]) C hR (k_X12_isIn C.2.2 E5) Y_X12_isIn YS_X12_isIn Lk_RX12_78 rfl hl.1 ⟨Nat.le_of_ble_eq_true rfl, Nat.le_of_ble_eq_true rfl⟩ rfl (Nat.le_of_ble_eq_true rfl) ⟨Nat.zero_le _, Nat.zero_le _⟩ rfl dX12_would_14 (fun H locs hR => ?_)
    refine lv_if_ne (tgt := 24) hx hb dX12_would_17 (by decide) (fun c6 => ?_) (fun c6 => ?_)
    · rw [if_neg c6] at hsp
      refine lv_iload_n hx hb dX12_would_24 rfl (lv_at hl 3 rfl) ?_
      refine lv_iload hx hb dX12_would_25 (lv_at hl 4 rfl) ?_
      refine lv_iload hx hb dX12_would_27 (lv_at hl 5 rfl) ?_
      refine lv_iload hx hb dX12_would_29 (lv_at hl 6 rfl) ?_
      obtain ⟨r7, E8, hsp⟩ := fr_b1 hsp
      refine fq_callS (rest := [.ref (g.2.2 a)]) (st1 := [.int r7, .ref (g.2.2 a)]) C hR (k_X12_areSmall C.2.2 E8) Y_X12_areSmall YS_X12_areSmall Lk_RX12_283 rfl hl.1 ⟨Nat.le_of_ble_eq_true rfl, Nat.le_of_ble_eq_true rfl⟩ rfl (Nat.le_of_ble_eq_true rfl) ⟨Nat.zero_le _, Nat.zero_le _⟩ rfl dX12_would_31 (fun H locs hR => ?_)
      refine lv_if_ne (tgt := 41) hx hb dX12_would_34 (by decide) (fun c9 => ?_) (fun c9 => ?_)
      · rw [if_neg c9] at hsp
        refine lv_iconst (v := 0) hx hb dX12_would_41 (by decide) ?_
        exact hb_42 h x1 x2 x3 x4 x5 x6 (0 : Int32) a _ _ _ hsp hR (lv_sub hl [0, 1, 2, 3, 4, 5, 6] rfl)
      · rw [if_pos c9] at hsp
        refine lv_iconst (v := 2) hx hb dX12_would_37 (by decide) ?_
        refine lv_goto (tgt := 42) hx hb dX12_would_38 (by decide) ?_
        exact hb_42 h x1 x2 x3 x4 x5 x6 (2 : Int32) a _ _ _ hsp hR (lv_sub hl [0, 1, 2, 3, 4, 5, 6] rfl)
    · rw [if_pos c6] at hsp
      refine lv_iconst (v := 1) hx hb dX12_would_20 (by decide) ?_
      refine lv_goto (tgt := 42) hx hb dX12_would_21 (by decide) ?_
      exact hb_42 h x1 x2 x3 x4 x5 x6 (1 : Int32) a _ _ _ hsp hR (lv_sub hl [0, 1, 2, 3, 4, 5, 6] rfl)

/-! TermRowsModel.layAll()V -/
def z_X12_layAll_b2 (S : fh_S) (a : Nat) : Nat → fh_H → Int32 → Option fh_H
  | 0, _, _ => none
  | n + 1, h, y1 =>
    if (10 : Int32) ≤ y1 then (some h) else (fh_b1 (h.2.2 a 5) (fun j2 => fh_ck (fh_kq S j2 13) (fh_ck (fh_in y1 (S.2.2 j2)) (fh_let (fh_sI h j2 (Int32.toNatClampNeg y1) (0 : Int32)) (fun h6 => fh_b1 (h6.2.2 a 7) (fun j7 => fh_ck (fh_kq S j7 13) (fh_ck (fh_in y1 (S.2.2 j7)) (fh_let (fh_sI h6 j7 (Int32.toNatClampNeg y1) (0 : Int32)) (fun h11 => fh_b1 (z_X12_lay S h11 a y1) (fun h12 => fh_let (y1 + 1) (fun v14 => z_X12_layAll_b2 S a n h12 v14)))))))))))
def z_X12_layAll (S : fh_S) (h : fh_H) (a : Nat) : Option fh_H :=
    z_X12_layAll_b2 S a 20000 h (0 : Int32)
set_option maxHeartbeats 4000000 in
set_option maxRecDepth 100000 in
theorem k_X12_layAll {l : Launch} {S : fh_S} {g : fh_G} {h h' : fh_H} (hj : fh_inj S g) {a : Nat} (ha : fh_kq S a 12 = true) (hsp : z_X12_layAll S h a = some h') : fh_M l yX12_layAll cX12_layAll 2 none (fh_rm 8) S g [.ref (g.2.2 a)] h none h' := by
  unfold z_X12_layAll at hsp
  refine fr_head (own := RX12) (by decide) rfl hj (Nat.le_of_ble_eq_true rfl) ?_
  intro p e s m below meth c ls C hr hlocks hR hl
  have hl : lv_has ls 2 [(0, .ref (g.2.2 a))] := hl
  have hx := C.1.1
  have hb := C.1.2.1
  have hb_2 : ∀ (n : Nat) (h : fh_H) (y1 : Int32) (H : Heap) (locs : List Loc) (ls : Array Slot), z_X12_layAll_b2 S a n h y1 = some h' → fh_R S g s.heap h H locs → lv_has ls 2 [(0, .ref (g.2.2 a)), (1, .int y1)] → fh_Wk p l e 8 s m [.ref (g.2.2 a)] below meth c S g none h' H locs (F0 m 2 ls []) := by
    intro n
    induction n with
    | zero => intro h y1 H locs ls hsp; cases hsp
    | succ n ih =>
      intro h y1 H locs ls hsp hR hl
      rw [z_X12_layAll_b2] at hsp
      refine lv_iload_n hx hb dX12_layAll_2 rfl (lv_at hl 1 rfl) ?_
      refine lv_bipush (v := 10) hx hb dX12_layAll_3 (by decide) ?_
      refine lv_icmp_ge (tgt := 33) hx hb dX12_layAll_5 (by decide) (fun c1 => ?_) (fun c1 => ?_)
      · rw [if_pos c1] at hsp
        exact fr_vret C hr hlocks hR (fr_s1 hsp) dX12_layAll_33
      · rw [if_neg c1] at hsp
        refine lv_aload_n hx hb dX12_layAll_8 rfl (lv_at hl 0 rfl) ?_
        obtain ⟨j2, hv3, hsp⟩ := fr_b1 hsp
        refine fr_getr C hR ha Fg_RX12_19 rfl hv3 dX12_layAll_9 ?_
        refine lv_iload_n hx hb dX12_layAll_12 rfl (lv_at hl 1 rfl) ?_
        refine lv_iconst (v := 0) hx hb dX12_layAll_13 (by decide) ?_
        obtain ⟨hk4, hsp⟩ := fr_ck hsp
        obtain ⟨hi5, hsp⟩ := fr_ck hsp
        refine fr_iast C hR hk4 hi5 dX12_layAll_14 (fun H locs hR => ?_)
        obtain ⟨h6, eh6⟩ : ∃ z, z = fh_sI h j2 (Int32.toNatClampNeg y1) (0 : Int32) := ⟨_, rfl⟩
        rw [← eh6] at hR
        have hsp := fr_let eh6 hsp
        refine lv_aload_n hx hb dX12_layAll_15 rfl (lv_at hl 0 rfl) ?_
        obtain ⟨j7, hv8, hsp⟩ := fr_b1 hsp
        refine fr_getr C hR ha Fg_RX12_25 rfl hv8 dX12_layAll_16 ?_
        refine lv_iload_n hx hb dX12_layAll_19 rfl (lv_at hl 1 rfl) ?_
        refine lv_iconst (v := 0) hx hb dX12_layAll_20 (by decide) ?_
        obtain ⟨hk9, hsp⟩ := fr_ck hsp
        obtain ⟨hi10, hsp⟩ := fr_ck hsp
        refine fr_iast C hR hk9 hi10 dX12_layAll_21 (fun H locs hR => ?_)
        obtain ⟨h11, eh11⟩ : ∃ z, z = fh_sI h6 j7 (Int32.toNatClampNeg y1) (0 : Int32) := ⟨_, rfl⟩
        rw [← eh11] at hR
        have hsp := fr_let eh11 hsp
        refine lv_aload_n hx hb dX12_layAll_22 rfl (lv_at hl 0 rfl) ?_
        refine lv_iload_n hx hb dX12_layAll_23 rfl (lv_at hl 1 rfl) ?_
        obtain ⟨h12, E13, hsp⟩ := fr_b1 hsp
        refine fq_callV (rest := []) (st1 := []) C hR (k_X12_lay C.2.2 ha E13) Y_X12_lay YV_X12_lay Lk_RX12_82 ha ⟨_, _, rfl, by decide⟩ rfl hl.1 ⟨Nat.le_of_ble_eq_true rfl, Nat.le_of_ble_eq_true rfl⟩ rfl (Nat.le_of_ble_eq_true rfl) ⟨Nat.zero_le _, Nat.zero_le _⟩ rfl dX12_layAll_24 (fun H locs hR => ?_)
        obtain ⟨v14, ev14⟩ : ∃ z : Int32, z = y1 + 1 := ⟨_, rfl⟩
        have hsp := fr_let ev14 hsp
        refine lv_iinc (v := v14) (lv' := [(1, .int v14), (0, .ref (g.2.2 a))]) hx hb dX12_layAll_27 hl (k := 1) rfl (by rw [ev14]; rfl) (by decide) rfl (fun ls hl => ?_)
        refine lv_goto (tgt := 2) hx hb dX12_layAll_30 (by decide) ?_
        exact ih h12 v14 _ _ _ hsp hR (lv_sub hl [1, 0] rfl)
  refine lv_iconst (v := 0) hx hb dX12_layAll_0 (by decide) ?_
  refine lv_istore_n (lv' := [(1, .int (0 : Int32)), (0, .ref (g.2.2 a))]) hx hb dX12_layAll_1 rfl hl (by decide) rfl (fun ls hl => ?_)
  exact hb_2 20000 h (0 : Int32) _ _ _ hsp hR (lv_sub hl [1, 0] rfl)

/-! TermRowsModel.undo()I -/
def z_X12_undo_b26 (S : fh_S) (a : Nat) : Nat → fh_H → Int32 → Option (Int32 × fh_H)
  | 0, _, _ => none
  | n + 1, h, y1 =>
    if (1090 : Int32) ≤ y1 then (fh_b1 (z_X12_layAll S h a) (fun h2 => some ((h2.1 a 2), h2))) else (fh_b1 (h.2.2 a 0) (fun j4 => fh_b1 (h.2.2 a 1) (fun j6 => fh_ck (fh_kq S j6 13) (fh_ck (fh_in (((1090 : Int32) * (h.1 a 2)) + y1) (S.2.2 j6)) (fh_ck (fh_kq S j4 13) (fh_ck (fh_in y1 (S.2.2 j4)) (fh_let (fh_sI h j4 (Int32.toNatClampNeg y1) (h.1 j6 (Int32.toNatClampNeg (((1090 : Int32) * (h.1 a 2)) + y1)))) (fun h12 => fh_let (y1 + 1) (fun v13 => z_X12_undo_b26 S a n h12 v13)))))))))
def z_X12_undo (S : fh_S) (h : fh_H) (a : Nat) : Option (Int32 × fh_H) :=
    fh_let (fh_sI h a 3 (0 : Int32)) (fun h1 => if (h1.1 a 2) = 0 then (some ((-1 : Int32), h1)) else (fh_let (fh_sI h1 a 2 ((h1.1 a 2) - (1 : Int32))) (fun h3 => z_X12_undo_b26 S a 20000 h3 (0 : Int32))))
set_option maxHeartbeats 4000000 in
set_option maxRecDepth 100000 in
theorem k_X12_undo {l : Launch} {S : fh_S} {g : fh_G} {h h' : fh_H} (hj : fh_inj S g) {a : Nat} {r : Int32} (ha : fh_kq S a 12 = true) (hsp : z_X12_undo S h a = some (r, h')) : fh_M l yX12_undo cX12_undo 2 (some .int) (fh_rm 9) S g [.ref (g.2.2 a)] h (some (.int r)) h' := by
  unfold z_X12_undo at hsp
  refine fr_head (own := RX12) (by decide) rfl hj (Nat.le_of_ble_eq_true rfl) ?_
  intro p e s m below meth c ls C hr hlocks hR hl
  have hl : lv_has ls 2 [(0, .ref (g.2.2 a))] := hl
  have hx := C.1.1
  have hb := C.1.2.1
  have hb_26 : ∀ (n : Nat) (h : fh_H) (y1 : Int32) (H : Heap) (locs : List Loc) (ls : Array Slot), z_X12_undo_b26 S a n h y1 = some (r, h') → fh_R S g s.heap h H locs → lv_has ls 2 [(0, .ref (g.2.2 a)), (1, .int y1)] → fh_Wk p l e 9 s m [.ref (g.2.2 a)] below meth c S g (some (.int r)) h' H locs (F0 m 26 ls []) := by
    intro n
    induction n with
    | zero => intro h y1 H locs ls hsp; cases hsp
    | succ n ih =>
      intro h y1 H locs ls hsp hR hl
      rw [z_X12_undo_b26] at hsp
      refine lv_iload_n hx hb dX12_undo_26 rfl (lv_at hl 1 rfl) ?_
      refine lv_sipush (v := 1090) hx hb dX12_undo_27 (by decide) ?_
      refine lv_icmp_ge (tgt := 60) hx hb dX12_undo_30 (by decide) (fun c1 => ?_) (fun c1 => ?_)
      · rw [if_pos c1] at hsp
        refine lv_aload_n hx hb dX12_undo_60 rfl (lv_at hl 0 rfl) ?_
        obtain ⟨h2, E3, hsp⟩ := fr_b1 hsp
        refine fq_callV (rest := []) (st1 := []) C hR (k_X12_layAll C.2.2 ha E3) Y_X12_layAll YV_X12_layAll Lk_RX12_70 ha ⟨_, _, rfl, by decide⟩ rfl hl.1 ⟨Nat.le_of_ble_eq_true rfl, Nat.le_of_ble_eq_true rfl⟩ rfl (Nat.le_of_ble_eq_true rfl) ⟨Nat.zero_le _, Nat.zero_le _⟩ rfl dX12_undo_61 (fun H locs hR => ?_)
        refine lv_aload_n hx hb dX12_undo_64 rfl (lv_at hl 0 rfl) ?_
        refine fr_geti C hR ha Fg_RX12_258 rfl dX12_undo_65 ?_
        obtain ⟨e1, e2⟩ := fr_s2 hsp
        exact fr_iret C hr hlocks hR e1 e2 dX12_undo_68
      · rw [if_neg c1] at hsp
        refine lv_aload_n hx hb dX12_undo_33 rfl (lv_at hl 0 rfl) ?_
        obtain ⟨j4, hv5, hsp⟩ := fr_b1 hsp
        refine fr_getr C hR ha Fg_RX12_9 rfl hv5 dX12_undo_34 ?_
        refine lv_iload_n hx hb dX12_undo_37 rfl (lv_at hl 1 rfl) ?_
        refine lv_aload_n hx hb dX12_undo_38 rfl (lv_at hl 0 rfl) ?_
        obtain ⟨j6, hv7, hsp⟩ := fr_b1 hsp
        refine fr_getr C hR ha Fg_RX12_13 rfl hv7 dX12_undo_39 ?_
        refine lv_sipush (v := 1090) hx hb dX12_undo_42 (by decide) ?_
        refine lv_aload_n hx hb dX12_undo_45 rfl (lv_at hl 0 rfl) ?_
        refine fr_geti C hR ha Fg_RX12_258 rfl dX12_undo_46 ?_
        refine lv_imul hx hb dX12_undo_49 ?_
        refine lv_iload_n hx hb dX12_undo_50 rfl (lv_at hl 1 rfl) ?_
        refine lv_iadd hx hb dX12_undo_51 ?_
        obtain ⟨hk8, hsp⟩ := fr_ck hsp
        obtain ⟨hi9, hsp⟩ := fr_ck hsp
        refine fr_iald C hR hk8 hi9 dX12_undo_52 ?_
        obtain ⟨hk10, hsp⟩ := fr_ck hsp
        obtain ⟨hi11, hsp⟩ := fr_ck hsp
        refine fr_iast C hR hk10 hi11 dX12_undo_53 (fun H locs hR => ?_)
        obtain ⟨h12, eh12⟩ : ∃ z, z = fh_sI h j4 (Int32.toNatClampNeg y1) (h.1 j6 (Int32.toNatClampNeg (((1090 : Int32) * (h.1 a 2)) + y1))) := ⟨_, rfl⟩
        rw [← eh12] at hR
        have hsp := fr_let eh12 hsp
        obtain ⟨v13, ev13⟩ : ∃ z : Int32, z = y1 + 1 := ⟨_, rfl⟩
        have hsp := fr_let ev13 hsp
        refine lv_iinc (v := v13) (lv' := [(1, .int v13), (0, .ref (g.2.2 a))]) hx hb dX12_undo_54 hl (k := 1) rfl (by rw [ev13]; rfl) (by decide) rfl (fun ls hl => ?_)
        refine lv_goto (tgt := 26) hx hb dX12_undo_57 (by decide) ?_
        exact ih h12 v13 _ _ _ hsp hR (lv_sub hl [1, 0] rfl)
  refine lv_aload_n hx hb dX12_undo_0 rfl (lv_at hl 0 rfl) ?_
  refine lv_iconst (v := 0) hx hb dX12_undo_1 (by decide) ?_
  refine fr_puti C hR ha Fp_RX12_73 rfl dX12_undo_2 (fun H locs hR => ?_)
  obtain ⟨h1, eh1⟩ : ∃ z, z = fh_sI h a 3 (0 : Int32) := ⟨_, rfl⟩
  rw [← eh1] at hR
  have hsp := fr_let eh1 hsp
  refine lv_aload_n hx hb dX12_undo_5 rfl (lv_at hl 0 rfl) ?_
  refine fr_geti C hR ha Fg_RX12_258 rfl dX12_undo_6 ?_
  refine lv_if_ne (tgt := 14) hx hb dX12_undo_9 (by decide) (fun c2 => ?_) (fun c2 => ?_)
  · rw [if_neg c2] at hsp
    refine lv_aload_n hx hb dX12_undo_14 rfl (lv_at hl 0 rfl) ?_
    refine lv_dup hx hb dX12_undo_15 rfl ?_
    refine fr_geti C hR ha Fg_RX12_258 rfl dX12_undo_16 ?_
    refine lv_iconst (v := 1) hx hb dX12_undo_19 (by decide) ?_
    refine lv_isub hx hb dX12_undo_20 ?_
    refine fr_puti C hR ha Fp_RX12_258 rfl dX12_undo_21 (fun H locs hR => ?_)
    obtain ⟨h3, eh3⟩ : ∃ z, z = fh_sI h1 a 2 ((h1.1 a 2) - (1 : Int32)) := ⟨_, rfl⟩
    rw [← eh3] at hR
    have hsp := fr_let eh3 hsp
    refine lv_iconst (v := 0) hx hb dX12_undo_24 (by decide) ?_
    refine lv_istore_n (lv' := [(1, .int (0 : Int32)), (0, .ref (g.2.2 a))]) hx hb dX12_undo_25 rfl hl (by decide) rfl (fun ls hl => ?_)
    exact hb_26 20000 h3 (0 : Int32) _ _ _ hsp hR (lv_sub hl [1, 0] rfl)
  · rw [if_pos c2] at hsp
    refine lv_iconst (v := -1) hx hb dX12_undo_12 (by decide) ?_
    obtain ⟨e1, e2⟩ := fr_s2 hsp
    exact fr_iret C hr hlocks hR e1 e2 dX12_undo_13

/-! TermRowsModel.fraction(III)Z -/
def z_X12_fraction (S : fh_S) (h : fh_H) (a : Nat) (x1 : Int32) (x2 : Int32) (x3 : Int32) : Option (Int32 × fh_H) :=
    fh_let (fh_sI h a 3 (0 : Int32)) (fun h1 => fh_b1 (z_X12_isRow x1) (fun r2 => if r2 = 0 then (some ((0 : Int32), h1)) else (fh_b1 (z_X12_isIn (Int32.toInt64 x2) (-9999 : Int64) (9999 : Int64)) (fun r5 => if r5 = 0 then (some ((0 : Int32), h1)) else (fh_b1 (z_X12_isIn (Int32.toInt64 x3) (1 : Int64) (9999 : Int64)) (fun r8 => if r8 = 0 then (some ((0 : Int32), h1)) else (fh_b1 (z_X12_become S h1 a x1 (0 : Int32) x2 x3 (0 : Int32) (0 : Int32)) (fun h11 => fh_b1 (z_X12_layAll S h11 a) (fun h13 => some ((1 : Int32), h13))))))))))
set_option maxHeartbeats 4000000 in
set_option maxRecDepth 100000 in
theorem k_X12_fraction {l : Launch} {S : fh_S} {g : fh_G} {h h' : fh_H} (hj : fh_inj S g) {a : Nat} {x1 : Int32} {x2 : Int32} {x3 : Int32} {r : Int32} (ha : fh_kq S a 12 = true) (hsp : z_X12_fraction S h a x1 x2 x3 = some (r, h')) : fh_M l yX12_fraction cX12_fraction 4 (some .boolean) (fh_rm 9) S g [.ref (g.2.2 a), .int x1, .int x2, .int x3] h (some (.int r)) h' := by
  unfold z_X12_fraction at hsp
  refine fr_head (own := RX12) (by decide) rfl hj (Nat.le_of_ble_eq_true rfl) ?_
  intro p e s m below meth c ls C hr hlocks hR hl
  have hl : lv_has ls 4 [(0, .ref (g.2.2 a)), (1, .int x1), (2, .int x2), (3, .int x3)] := hl
  have hx := C.1.1
  have hb := C.1.2.1
  refine lv_aload_n hx hb dX12_fraction_0 rfl (lv_at hl 0 rfl) ?_
  refine lv_iconst (v := 0) hx hb dX12_fraction_1 (by decide) ?_
  refine fr_puti C hR ha Fp_RX12_73 rfl dX12_fraction_2 (fun H locs hR => ?_)
  obtain ⟨h1, eh1⟩ : ∃ z, z = fh_sI h a 3 (0 : Int32) := ⟨_, rfl⟩
  rw [← eh1] at hR
  have hsp := fr_let eh1 hsp
  refine lv_iload_n hx hb dX12_fraction_5 rfl (lv_at hl 1 rfl) ?_
  obtain ⟨r2, E3, hsp⟩ := fr_b1 hsp
  refine fq_callS (rest := []) (st1 := [.int r2]) C hR (k_X12_isRow C.2.2 E3) Y_X12_isRow YS_X12_isRow Lk_RX12_264 rfl hl.1 ⟨Nat.le_of_ble_eq_true rfl, Nat.le_of_ble_eq_true rfl⟩ rfl (Nat.le_of_ble_eq_true rfl) ⟨Nat.zero_le _, Nat.zero_le _⟩ rfl dX12_fraction_6 (fun H locs hR => ?_)
  refine lv_if_eq (tgt := 38) hx hb dX12_fraction_9 (by decide) (fun c4 => ?_) (fun c4 => ?_)
  · rw [if_pos c4] at hsp
    refine lv_iconst (v := 0) hx hb dX12_fraction_38 (by decide) ?_
    obtain ⟨e1, e2⟩ := fr_s2 hsp
    exact fr_zret C hr hlocks hR (Or.inl rfl) e1 e2 dX12_fraction_39
  · rw [if_neg c4] at hsp
    refine lv_iload_n hx hb dX12_fraction_12 rfl (lv_at hl 2 rfl) ?_
    refine lv_i2l hx hb dX12_fraction_13 rfl ?_
    refine lv_ldc2 hx hb C.1.2.2.2.1 (C.1.2.2.2.2 _ Kc_RX12_267) dX12_fraction_14 ?_
    refine lv_ldc2 hx hb C.1.2.2.2.1 (C.1.2.2.2.2 _ Kc_RX12_269) dX12_fraction_17 ?_
    obtain ⟨r5, E6, hsp⟩ := fr_b1 hsp
    refine fq_callS (rest := []) (st1 := [.int r5]) C hR (k_X12_isIn C.2.2 E6) Y_X12_isIn YS_X12_isIn Lk_RX12_78 rfl hl.1 ⟨Nat.le_of_ble_eq_true rfl, Nat.le_of_ble_eq_true rfl⟩ rfl (Nat.le_of_ble_eq_true rfl) ⟨Nat.zero_le _, Nat.zero_le _⟩ rfl dX12_fraction_20 (fun H locs hR => ?_)
    refine lv_if_eq (tgt := 38) hx hb dX12_fraction_23 (by decide) (fun c7 => ?_) (fun c7 => ?_)
    · rw [if_pos c7] at hsp
      refine lv_iconst (v := 0) hx hb dX12_fraction_38 (by decide) ?_
      obtain ⟨e1, e2⟩ := fr_s2 hsp
      exact fr_zret C hr hlocks hR (Or.inl rfl) e1 e2 dX12_fraction_39
    · rw [if_neg c7] at hsp
      refine lv_iload_n hx hb dX12_fraction_26 rfl (lv_at hl 3 rfl) ?_
      refine lv_i2l hx hb dX12_fraction_27 rfl ?_
      refine lv_lconst (v := 1) hx hb dX12_fraction_28 (by decide) ?_
      refine lv_ldc2 hx hb C.1.2.2.2.1 (C.1.2.2.2.2 _ Kc_RX12_269) dX12_fraction_29 ?_
      obtain ⟨r8, E9, hsp⟩ := fr_b1 hsp
      refine fq_callS (rest := []) (st1 := [.int r8]) C hR (k_X12_isIn C.2.2 E9) Y_X12_isIn YS_X12_isIn Lk_RX12_78 rfl hl.1 ⟨Nat.le_of_ble_eq_true rfl, Nat.le_of_ble_eq_true rfl⟩ rfl (Nat.le_of_ble_eq_true rfl) ⟨Nat.zero_le _, Nat.zero_le _⟩ rfl dX12_fraction_32 (fun H locs hR => ?_)
      refine lv_if_ne (tgt := 40) hx hb dX12_fraction_35 (by decide) (fun c10 => ?_) (fun c10 => ?_)
      · rw [if_neg c10] at hsp
        refine lv_aload_n hx hb dX12_fraction_40 rfl (lv_at hl 0 rfl) ?_
        refine lv_iload_n hx hb dX12_fraction_41 rfl (lv_at hl 1 rfl) ?_
        refine lv_iconst (v := 0) hx hb dX12_fraction_42 (by decide) ?_
        refine lv_iload_n hx hb dX12_fraction_43 rfl (lv_at hl 2 rfl) ?_
        refine lv_iload_n hx hb dX12_fraction_44 rfl (lv_at hl 3 rfl) ?_
        refine lv_iconst (v := 0) hx hb dX12_fraction_45 (by decide) ?_
        refine lv_iconst (v := 0) hx hb dX12_fraction_46 (by decide) ?_
        obtain ⟨h11, E12, hsp⟩ := fr_b1 hsp
        refine fq_callV (rest := []) (st1 := []) C hR (k_X12_become C.2.2 ha E12) Y_X12_become YV_X12_become Lk_RX12_271 ha ⟨_, _, rfl, by decide⟩ rfl hl.1 ⟨Nat.le_of_ble_eq_true rfl, Nat.le_of_ble_eq_true rfl⟩ rfl (Nat.le_of_ble_eq_true rfl) ⟨Nat.zero_le _, Nat.zero_le _⟩ rfl dX12_fraction_47 (fun H locs hR => ?_)
        refine lv_aload_n hx hb dX12_fraction_50 rfl (lv_at hl 0 rfl) ?_
        obtain ⟨h13, E14, hsp⟩ := fr_b1 hsp
        refine fq_callV (rest := []) (st1 := []) C hR (k_X12_layAll C.2.2 ha E14) Y_X12_layAll YV_X12_layAll Lk_RX12_70 ha ⟨_, _, rfl, by decide⟩ rfl hl.1 ⟨Nat.le_of_ble_eq_true rfl, Nat.le_of_ble_eq_true rfl⟩ rfl (Nat.le_of_ble_eq_true rfl) ⟨Nat.zero_le _, Nat.zero_le _⟩ rfl dX12_fraction_51 (fun H locs hR => ?_)
        refine lv_iconst (v := 1) hx hb dX12_fraction_54 (by decide) ?_
        obtain ⟨e1, e2⟩ := fr_s2 hsp
        exact fr_zret C hr hlocks hR (Or.inr rfl) e1 e2 dX12_fraction_55
      · rw [if_pos c10] at hsp
        refine lv_iconst (v := 0) hx hb dX12_fraction_38 (by decide) ?_
        obtain ⟨e1, e2⟩ := fr_s2 hsp
        exact fr_zret C hr hlocks hR (Or.inl rfl) e1 e2 dX12_fraction_39

/-! TermRowsModel.root(IIII)Z -/
def z_X12_root (S : fh_S) (h : fh_H) (a : Nat) (x1 : Int32) (x2 : Int32) (x3 : Int32) (x4 : Int32) : Option (Int32 × fh_H) :=
    fh_let (fh_sI h a 3 (0 : Int32)) (fun h1 => fh_b1 (z_X12_isRow x1) (fun r2 => if r2 = 0 then (some ((0 : Int32), h1)) else (fh_b1 (z_X12_isIn (Int32.toInt64 x2) (-999 : Int64) (999 : Int64)) (fun r5 => if r5 = 0 then (some ((0 : Int32), h1)) else (fh_b1 (z_X12_isIn (Int32.toInt64 x3) (0 : Int64) (9999 : Int64)) (fun r8 => if r8 = 0 then (some ((0 : Int32), h1)) else (fh_b1 (z_X12_isIn (Int32.toInt64 x4) (-99 : Int64) (99 : Int64)) (fun r11 => if r11 = 0 then (some ((0 : Int32), h1)) else (if x4 = 0 then (some ((0 : Int32), h1)) else (fh_b1 (z_X12_become S h1 a x1 (1 : Int32) x2 x3 x4 (0 : Int32)) (fun h15 => fh_b1 (z_X12_layAll S h15 a) (fun h17 => some ((1 : Int32), h17)))))))))))))
set_option maxHeartbeats 4000000 in
set_option maxRecDepth 100000 in
theorem k_X12_root {l : Launch} {S : fh_S} {g : fh_G} {h h' : fh_H} (hj : fh_inj S g) {a : Nat} {x1 : Int32} {x2 : Int32} {x3 : Int32} {x4 : Int32} {r : Int32} (ha : fh_kq S a 12 = true) (hsp : z_X12_root S h a x1 x2 x3 x4 = some (r, h')) : fh_M l yX12_root cX12_root 5 (some .boolean) (fh_rm 9) S g [.ref (g.2.2 a), .int x1, .int x2, .int x3, .int x4] h (some (.int r)) h' := by
  unfold z_X12_root at hsp
  refine fr_head (own := RX12) (by decide) rfl hj (Nat.le_of_ble_eq_true rfl) ?_
  intro p e s m below meth c ls C hr hlocks hR hl
  have hl : lv_has ls 5 [(0, .ref (g.2.2 a)), (1, .int x1), (2, .int x2), (3, .int x3), (4, .int x4)] := hl
  have hx := C.1.1
  have hb := C.1.2.1
  refine lv_aload_n hx hb dX12_root_0 rfl (lv_at hl 0 rfl) ?_
  refine lv_iconst (v := 0) hx hb dX12_root_1 (by decide) ?_
  refine fr_puti C hR ha Fp_RX12_73 rfl dX12_root_2 (fun H locs hR => ?_)
  obtain ⟨h1, eh1⟩ : ∃ z, z = fh_sI h a 3 (0 : Int32) := ⟨_, rfl⟩
  rw [← eh1] at hR
  have hsp := fr_let eh1 hsp
  refine lv_iload_n hx hb dX12_root_5 rfl (lv_at hl 1 rfl) ?_
  obtain ⟨r2, E3, hsp⟩ := fr_b1 hsp
  refine fq_callS (rest := []) (st1 := [.int r2]) C hR (k_X12_isRow C.2.2 E3) Y_X12_isRow YS_X12_isRow Lk_RX12_264 rfl hl.1 ⟨Nat.le_of_ble_eq_true rfl, Nat.le_of_ble_eq_true rfl⟩ rfl (Nat.le_of_ble_eq_true rfl) ⟨Nat.zero_le _, Nat.zero_le _⟩ rfl dX12_root_6 (fun H locs hR => ?_)
  refine lv_if_eq (tgt := 58) hx hb dX12_root_9 (by decide) (fun c4 => ?_) (fun c4 => ?_)
  · rw [if_pos c4] at hsp
    refine lv_iconst (v := 0) hx hb dX12_root_58 (by decide) ?_
    obtain ⟨e1, e2⟩ := fr_s2 hsp
    exact fr_zret C hr hlocks hR (Or.inl rfl) e1 e2 dX12_root_59
  · rw [if_neg c4] at hsp
    refine lv_iload_n hx hb dX12_root_12 rfl (lv_at hl 2 rfl) ?_
    refine lv_i2l hx hb dX12_root_13 rfl ?_
    refine lv_ldc2 hx hb C.1.2.2.2.1 (C.1.2.2.2.2 _ Kc_RX12_275) dX12_root_14 ?_
    refine lv_ldc2 hx hb C.1.2.2.2.1 (C.1.2.2.2.2 _ Kc_RX12_277) dX12_root_17 ?_
    obtain ⟨r5, E6, hsp⟩ := fr_b1 hsp
    refine fq_callS (rest := []) (st1 := [.int r5]) C hR (k_X12_isIn C.2.2 E6) Y_X12_isIn YS_X12_isIn Lk_RX12_78 rfl hl.1 ⟨Nat.le_of_ble_eq_true rfl, Nat.le_of_ble_eq_true rfl⟩ rfl (Nat.le_of_ble_eq_true rfl) ⟨Nat.zero_le _, Nat.zero_le _⟩ rfl dX12_root_20 (fun H locs hR => ?_)
    refine lv_if_eq (tgt := 58) hx hb dX12_root_23 (by decide) (fun c7 => ?_) (fun c7 => ?_)
    · rw [if_pos c7] at hsp
      refine lv_iconst (v := 0) hx hb dX12_root_58 (by decide) ?_
      obtain ⟨e1, e2⟩ := fr_s2 hsp
      exact fr_zret C hr hlocks hR (Or.inl rfl) e1 e2 dX12_root_59
    · rw [if_neg c7] at hsp
      refine lv_iload_n hx hb dX12_root_26 rfl (lv_at hl 3 rfl) ?_
      refine lv_i2l hx hb dX12_root_27 rfl ?_
      refine lv_lconst (v := 0) hx hb dX12_root_28 (by decide) ?_
      refine lv_ldc2 hx hb C.1.2.2.2.1 (C.1.2.2.2.2 _ Kc_RX12_269) dX12_root_29 ?_
      obtain ⟨r8, E9, hsp⟩ := fr_b1 hsp
      refine fq_callS (rest := []) (st1 := [.int r8]) C hR (k_X12_isIn C.2.2 E9) Y_X12_isIn YS_X12_isIn Lk_RX12_78 rfl hl.1 ⟨Nat.le_of_ble_eq_true rfl, Nat.le_of_ble_eq_true rfl⟩ rfl (Nat.le_of_ble_eq_true rfl) ⟨Nat.zero_le _, Nat.zero_le _⟩ rfl dX12_root_32 (fun H locs hR => ?_)
      refine lv_if_eq (tgt := 58) hx hb dX12_root_35 (by decide) (fun c10 => ?_) (fun c10 => ?_)
      · rw [if_pos c10] at hsp
        refine lv_iconst (v := 0) hx hb dX12_root_58 (by decide) ?_
        obtain ⟨e1, e2⟩ := fr_s2 hsp
        exact fr_zret C hr hlocks hR (Or.inl rfl) e1 e2 dX12_root_59
      · rw [if_neg c10] at hsp
        refine lv_iload hx hb dX12_root_38 (lv_at hl 4 rfl) ?_
        refine lv_i2l hx hb dX12_root_40 rfl ?_
        refine lv_ldc2 hx hb C.1.2.2.2.1 (C.1.2.2.2.2 _ Kc_RX12_279) dX12_root_41 ?_
        refine lv_ldc2 hx hb C.1.2.2.2.1 (C.1.2.2.2.2 _ Kc_RX12_281) dX12_root_44 ?_
        obtain ⟨r11, E12, hsp⟩ := fr_b1 hsp
        refine fq_callS (rest := []) (st1 := [.int r11]) C hR (k_X12_isIn C.2.2 E12) Y_X12_isIn YS_X12_isIn Lk_RX12_78 rfl hl.1 ⟨Nat.le_of_ble_eq_true rfl, Nat.le_of_ble_eq_true rfl⟩ rfl (Nat.le_of_ble_eq_true rfl) ⟨Nat.zero_le _, Nat.zero_le _⟩ rfl dX12_root_47 (fun H locs hR => ?_)
        refine lv_if_eq (tgt := 58) hx hb dX12_root_50 (by decide) (fun c13 => ?_) (fun c13 => ?_)
        · rw [if_pos c13] at hsp
          refine lv_iconst (v := 0) hx hb dX12_root_58 (by decide) ?_
          obtain ⟨e1, e2⟩ := fr_s2 hsp
          exact fr_zret C hr hlocks hR (Or.inl rfl) e1 e2 dX12_root_59
        · rw [if_neg c13] at hsp
          refine lv_iload hx hb dX12_root_53 (lv_at hl 4 rfl) ?_
          refine lv_if_ne (tgt := 60) hx hb dX12_root_55 (by decide) (fun c14 => ?_) (fun c14 => ?_)
          · rw [if_neg c14] at hsp
            refine lv_aload_n hx hb dX12_root_60 rfl (lv_at hl 0 rfl) ?_
            refine lv_iload_n hx hb dX12_root_61 rfl (lv_at hl 1 rfl) ?_
            refine lv_iconst (v := 1) hx hb dX12_root_62 (by decide) ?_
            refine lv_iload_n hx hb dX12_root_63 rfl (lv_at hl 2 rfl) ?_
            refine lv_iload_n hx hb dX12_root_64 rfl (lv_at hl 3 rfl) ?_
            refine lv_iload hx hb dX12_root_65 (lv_at hl 4 rfl) ?_
            refine lv_iconst (v := 0) hx hb dX12_root_67 (by decide) ?_
            obtain ⟨h15, E16, hsp⟩ := fr_b1 hsp
            refine fq_callV (rest := []) (st1 := []) C hR (k_X12_become C.2.2 ha E16) Y_X12_become YV_X12_become Lk_RX12_271 ha ⟨_, _, rfl, by decide⟩ rfl hl.1 ⟨Nat.le_of_ble_eq_true rfl, Nat.le_of_ble_eq_true rfl⟩ rfl (Nat.le_of_ble_eq_true rfl) ⟨Nat.zero_le _, Nat.zero_le _⟩ rfl dX12_root_68 (fun H locs hR => ?_)
            refine lv_aload_n hx hb dX12_root_71 rfl (lv_at hl 0 rfl) ?_
            obtain ⟨h17, E18, hsp⟩ := fr_b1 hsp
            refine fq_callV (rest := []) (st1 := []) C hR (k_X12_layAll C.2.2 ha E18) Y_X12_layAll YV_X12_layAll Lk_RX12_70 ha ⟨_, _, rfl, by decide⟩ rfl hl.1 ⟨Nat.le_of_ble_eq_true rfl, Nat.le_of_ble_eq_true rfl⟩ rfl (Nat.le_of_ble_eq_true rfl) ⟨Nat.zero_le _, Nat.zero_le _⟩ rfl dX12_root_72 (fun H locs hR => ?_)
            refine lv_iconst (v := 1) hx hb dX12_root_75 (by decide) ?_
            obtain ⟨e1, e2⟩ := fr_s2 hsp
            exact fr_zret C hr hlocks hR (Or.inr rfl) e1 e2 dX12_root_76
          · rw [if_pos c14] at hsp
            refine lv_iconst (v := 0) hx hb dX12_root_58 (by decide) ?_
            obtain ⟨e1, e2⟩ := fr_s2 hsp
            exact fr_zret C hr hlocks hR (Or.inl rfl) e1 e2 dX12_root_59

/-! TermRowsModel.single(IIIIII)Z -/
def z_X12_single (S : fh_S) (h : fh_H) (a : Nat) (x1 : Int32) (x2 : Int32) (x3 : Int32) (x4 : Int32) (x5 : Int32) (x6 : Int32) : Option (Int32 × fh_H) :=
    fh_let (fh_sI h a 3 (0 : Int32)) (fun h1 => fh_b1 (z_X12_isRow x1) (fun r2 => if r2 = 0 then (some ((0 : Int32), h1)) else (fh_b1 (z_X12_isIn (Int32.toInt64 x2) (0 : Int64) (Int32.toInt64 (x1 - (1 : Int32)))) (fun r5 => if r5 = 0 then (some ((0 : Int32), h1)) else (fh_b1 (z_X12_areSmall x3 x4 x5 x6) (fun r8 => if r8 = 0 then (some ((0 : Int32), h1)) else (fh_b1 (z_X12_become S h1 a x1 (3 : Int32) x3 x4 x5 x6) (fun h11 => fh_b1 (z_X12_put S h11 a x1 (5 : Int32) x2) (fun h13 => fh_b1 (z_X12_layAll S h13 a) (fun h15 => some ((1 : Int32), h15)))))))))))
set_option maxHeartbeats 4000000 in
set_option maxRecDepth 100000 in
theorem k_X12_single {l : Launch} {S : fh_S} {g : fh_G} {h h' : fh_H} (hj : fh_inj S g) {a : Nat} {x1 : Int32} {x2 : Int32} {x3 : Int32} {x4 : Int32} {x5 : Int32} {x6 : Int32} {r : Int32} (ha : fh_kq S a 12 = true) (hsp : z_X12_single S h a x1 x2 x3 x4 x5 x6 = some (r, h')) : fh_M l yX12_single cX12_single 7 (some .boolean) (fh_rm 9) S g [.ref (g.2.2 a), .int x1, .int x2, .int x3, .int x4, .int x5, .int x6] h (some (.int r)) h' := by
  unfold z_X12_single at hsp
  refine fr_head (own := RX12) (by decide) rfl hj (Nat.le_of_ble_eq_true rfl) ?_
  intro p e s m below meth c ls C hr hlocks hR hl
  have hl : lv_has ls 7 [(0, .ref (g.2.2 a)), (1, .int x1), (2, .int x2), (3, .int x3), (4, .int x4), (5, .int x5), (6, .int x6)] := hl
  have hx := C.1.1
  have hb := C.1.2.1
  refine lv_aload_n hx hb dX12_single_0 rfl (lv_at hl 0 rfl) ?_
  refine lv_iconst (v := 0) hx hb dX12_single_1 (by decide) ?_
  refine fr_puti C hR ha Fp_RX12_73 rfl dX12_single_2 (fun H locs hR => ?_)
  obtain ⟨h1, eh1⟩ : ∃ z, z = fh_sI h a 3 (0 : Int32) := ⟨_, rfl⟩
  rw [← eh1] at hR
  have hsp := fr_let eh1 hsp
  refine lv_iload_n hx hb dX12_single_5 rfl (lv_at hl 1 rfl) ?_
  obtain ⟨r2, E3, hsp⟩ := fr_b1 hsp
  refine fq_callS (rest := []) (st1 := [.int r2]) C hR (k_X12_isRow C.2.2 E3) Y_X12_isRow YS_X12_isRow Lk_RX12_264 rfl hl.1 ⟨Nat.le_of_ble_eq_true rfl, Nat.le_of_ble_eq_true rfl⟩ rfl (Nat.le_of_ble_eq_true rfl) ⟨Nat.zero_le _, Nat.zero_le _⟩ rfl dX12_single_6 (fun H locs hR => ?_)
  refine lv_if_eq (tgt := 38) hx hb dX12_single_9 (by decide) (fun c4 => ?_) (fun c4 => ?_)
  · rw [if_pos c4] at hsp
    refine lv_iconst (v := 0) hx hb dX12_single_38 (by decide) ?_
    obtain ⟨e1, e2⟩ := fr_s2 hsp
    exact fr_zret C hr hlocks hR (Or.inl rfl) e1 e2 dX12_single_39
  · rw [if_neg c4] at hsp
    refine lv_iload_n hx hb dX12_single_12 rfl (lv_at hl 2 rfl) ?_
    refine lv_i2l hx hb dX12_single_13 rfl ?_
    refine lv_lconst (v := 0) hx hb dX12_single_14 (by decide) ?_
    refine lv_iload_n hx hb dX12_single_15 rfl (lv_at hl 1 rfl) ?_
    refine lv_iconst (v := 1) hx hb dX12_single_16 (by decide) ?_
    refine lv_isub hx hb dX12_single_17 ?_
    refine lv_i2l hx hb dX12_single_18 rfl ?_
    obtain ⟨r5, E6, hsp⟩ := fr_b1 hsp
    refine fq_callS (rest := []) (st1 := [.int r5]) C hR (k_X12_isIn C.2.2 E6) Y_X12_isIn YS_X12_isIn Lk_RX12_78 rfl hl.1 ⟨Nat.le_of_ble_eq_true rfl, Nat.le_of_ble_eq_true rfl⟩ rfl (Nat.le_of_ble_eq_true rfl) ⟨Nat.zero_le _, Nat.zero_le _⟩ rfl dX12_single_19 (fun H locs hR => ?_)
    refine lv_if_eq (tgt := 38) hx hb dX12_single_22 (by decide) (fun c7 => ?_) (fun c7 => ?_)
    · rw [if_pos c7] at hsp
      refine lv_iconst (v := 0) hx hb dX12_single_38 (by decide) ?_
      obtain ⟨e1, e2⟩ := fr_s2 hsp
      exact fr_zret C hr hlocks hR (Or.inl rfl) e1 e2 dX12_single_39
    · rw [if_neg c7] at hsp
      refine lv_iload_n hx hb dX12_single_25 rfl (lv_at hl 3 rfl) ?_
      refine lv_iload hx hb dX12_single_26 (lv_at hl 4 rfl) ?_
      refine lv_iload hx hb dX12_single_28 (lv_at hl 5 rfl) ?_
      refine lv_iload hx hb dX12_single_30 (lv_at hl 6 rfl) ?_
      obtain ⟨r8, E9, hsp⟩ := fr_b1 hsp
      refine fq_callS (rest := []) (st1 := [.int r8]) C hR (k_X12_areSmall C.2.2 E9) Y_X12_areSmall YS_X12_areSmall Lk_RX12_283 rfl hl.1 ⟨Nat.le_of_ble_eq_true rfl, Nat.le_of_ble_eq_true rfl⟩ rfl (Nat.le_of_ble_eq_true rfl) ⟨Nat.zero_le _, Nat.zero_le _⟩ rfl dX12_single_32 (fun H locs hR => ?_)
      refine lv_if_ne (tgt := 40) hx hb dX12_single_35 (by decide) (fun c10 => ?_) (fun c10 => ?_)
      · rw [if_neg c10] at hsp
        refine lv_aload_n hx hb dX12_single_40 rfl (lv_at hl 0 rfl) ?_
        refine lv_iload_n hx hb dX12_single_41 rfl (lv_at hl 1 rfl) ?_
        refine lv_iconst (v := 3) hx hb dX12_single_42 (by decide) ?_
        refine lv_iload_n hx hb dX12_single_43 rfl (lv_at hl 3 rfl) ?_
        refine lv_iload hx hb dX12_single_44 (lv_at hl 4 rfl) ?_
        refine lv_iload hx hb dX12_single_46 (lv_at hl 5 rfl) ?_
        refine lv_iload hx hb dX12_single_48 (lv_at hl 6 rfl) ?_
        obtain ⟨h11, E12, hsp⟩ := fr_b1 hsp
        refine fq_callV (rest := []) (st1 := []) C hR (k_X12_become C.2.2 ha E12) Y_X12_become YV_X12_become Lk_RX12_271 ha ⟨_, _, rfl, by decide⟩ rfl hl.1 ⟨Nat.le_of_ble_eq_true rfl, Nat.le_of_ble_eq_true rfl⟩ rfl (Nat.le_of_ble_eq_true rfl) ⟨Nat.zero_le _, Nat.zero_le _⟩ rfl dX12_single_50 (fun H locs hR => ?_)
        refine lv_aload_n hx hb dX12_single_53 rfl (lv_at hl 0 rfl) ?_
        refine lv_iload_n hx hb dX12_single_54 rfl (lv_at hl 1 rfl) ?_
        refine lv_iconst (v := 5) hx hb dX12_single_55 (by decide) ?_
        refine lv_iload_n hx hb dX12_single_56 rfl (lv_at hl 2 rfl) ?_
        obtain ⟨h13, E14, hsp⟩ := fr_b1 hsp
        refine fq_callV (rest := []) (st1 := []) C hR (k_X12_put C.2.2 ha E14) Y_X12_put YV_X12_put Lk_RX12_66 ha ⟨_, _, rfl, by decide⟩ rfl hl.1 ⟨Nat.le_of_ble_eq_true rfl, Nat.le_of_ble_eq_true rfl⟩ rfl (Nat.le_of_ble_eq_true rfl) ⟨Nat.zero_le _, Nat.zero_le _⟩ rfl dX12_single_57 (fun H locs hR => ?_)
        refine lv_aload_n hx hb dX12_single_60 rfl (lv_at hl 0 rfl) ?_
        obtain ⟨h15, E16, hsp⟩ := fr_b1 hsp
        refine fq_callV (rest := []) (st1 := []) C hR (k_X12_layAll C.2.2 ha E16) Y_X12_layAll YV_X12_layAll Lk_RX12_70 ha ⟨_, _, rfl, by decide⟩ rfl hl.1 ⟨Nat.le_of_ble_eq_true rfl, Nat.le_of_ble_eq_true rfl⟩ rfl (Nat.le_of_ble_eq_true rfl) ⟨Nat.zero_le _, Nat.zero_le _⟩ rfl dX12_single_61 (fun H locs hR => ?_)
        refine lv_iconst (v := 1) hx hb dX12_single_64 (by decide) ?_
        obtain ⟨e1, e2⟩ := fr_s2 hsp
        exact fr_zret C hr hlocks hR (Or.inr rfl) e1 e2 dX12_single_65
      · rw [if_pos c10] at hsp
        refine lv_iconst (v := 0) hx hb dX12_single_38 (by decide) ?_
        obtain ⟨e1, e2⟩ := fr_s2 hsp
        exact fr_zret C hr hlocks hR (Or.inl rfl) e1 e2 dX12_single_39

/-! TermRowsModel.join(IIII)Z -/
def z_X12_join (S : fh_S) (h : fh_H) (a : Nat) (x1 : Int32) (x2 : Int32) (x3 : Int32) (x4 : Int32) : Option (Int32 × fh_H) :=
    fh_let (fh_sI h a 3 (0 : Int32)) (fun h1 => fh_b1 (z_X12_isRow x1) (fun r2 => if r2 = 0 then (some ((0 : Int32), h1)) else (fh_b1 (z_X12_isIn (Int32.toInt64 x2) (0 : Int64) (3 : Int64)) (fun r5 => if r5 = 0 then (some ((0 : Int32), h1)) else (fh_b1 (z_X12_isIn (Int32.toInt64 x3) (0 : Int64) (Int32.toInt64 (x1 - (1 : Int32)))) (fun r8 => if r8 = 0 then (some ((0 : Int32), h1)) else (fh_b1 (z_X12_isIn (Int32.toInt64 x4) (0 : Int64) (Int32.toInt64 (x1 - (1 : Int32)))) (fun r11 => if r11 = 0 then (some ((0 : Int32), h1)) else (fh_b1 (z_X12_become S h1 a x1 (4 : Int32) x2 (0 : Int32) (0 : Int32) (0 : Int32)) (fun h14 => fh_b1 (z_X12_put S h14 a x1 (5 : Int32) x3) (fun h16 => fh_b1 (z_X12_put S h16 a x1 (6 : Int32) x4) (fun h18 => fh_b1 (z_X12_layAll S h18 a) (fun h20 => some ((1 : Int32), h20))))))))))))))
set_option maxHeartbeats 4000000 in
set_option maxRecDepth 100000 in
theorem k_X12_join {l : Launch} {S : fh_S} {g : fh_G} {h h' : fh_H} (hj : fh_inj S g) {a : Nat} {x1 : Int32} {x2 : Int32} {x3 : Int32} {x4 : Int32} {r : Int32} (ha : fh_kq S a 12 = true) (hsp : z_X12_join S h a x1 x2 x3 x4 = some (r, h')) : fh_M l yX12_join cX12_join 5 (some .boolean) (fh_rm 9) S g [.ref (g.2.2 a), .int x1, .int x2, .int x3, .int x4] h (some (.int r)) h' := by
  unfold z_X12_join at hsp
  refine fr_head (own := RX12) (by decide) rfl hj (Nat.le_of_ble_eq_true rfl) ?_
  intro p e s m below meth c ls C hr hlocks hR hl
  have hl : lv_has ls 5 [(0, .ref (g.2.2 a)), (1, .int x1), (2, .int x2), (3, .int x3), (4, .int x4)] := hl
  have hx := C.1.1
  have hb := C.1.2.1
  refine lv_aload_n hx hb dX12_join_0 rfl (lv_at hl 0 rfl) ?_
  refine lv_iconst (v := 0) hx hb dX12_join_1 (by decide) ?_
  refine fr_puti C hR ha Fp_RX12_73 rfl dX12_join_2 (fun H locs hR => ?_)
  obtain ⟨h1, eh1⟩ : ∃ z, z = fh_sI h a 3 (0 : Int32) := ⟨_, rfl⟩
  rw [← eh1] at hR
  have hsp := fr_let eh1 hsp
  refine lv_iload_n hx hb dX12_join_5 rfl (lv_at hl 1 rfl) ?_
  obtain ⟨r2, E3, hsp⟩ := fr_b1 hsp
  refine fq_callS (rest := []) (st1 := [.int r2]) C hR (k_X12_isRow C.2.2 E3) Y_X12_isRow YS_X12_isRow Lk_RX12_264 rfl hl.1 ⟨Nat.le_of_ble_eq_true rfl, Nat.le_of_ble_eq_true rfl⟩ rfl (Nat.le_of_ble_eq_true rfl) ⟨Nat.zero_le _, Nat.zero_le _⟩ rfl dX12_join_6 (fun H locs hR => ?_)
  refine lv_if_eq (tgt := 51) hx hb dX12_join_9 (by decide) (fun c4 => ?_) (fun c4 => ?_)
  · rw [if_pos c4] at hsp
    refine lv_iconst (v := 0) hx hb dX12_join_51 (by decide) ?_
    obtain ⟨e1, e2⟩ := fr_s2 hsp
    exact fr_zret C hr hlocks hR (Or.inl rfl) e1 e2 dX12_join_52
  · rw [if_neg c4] at hsp
    refine lv_iload_n hx hb dX12_join_12 rfl (lv_at hl 2 rfl) ?_
    refine lv_i2l hx hb dX12_join_13 rfl ?_
    refine lv_lconst (v := 0) hx hb dX12_join_14 (by decide) ?_
    refine lv_ldc2 hx hb C.1.2.2.2.1 (C.1.2.2.2.2 _ Kc_RX12_287) dX12_join_15 ?_
    obtain ⟨r5, E6, hsp⟩ := fr_b1 hsp
    refine fq_callS (rest := []) (st1 := [.int r5]) C hR (k_X12_isIn C.2.2 E6) Y_X12_isIn YS_X12_isIn Lk_RX12_78 rfl hl.1 ⟨Nat.le_of_ble_eq_true rfl, Nat.le_of_ble_eq_true rfl⟩ rfl (Nat.le_of_ble_eq_true rfl) ⟨Nat.zero_le _, Nat.zero_le _⟩ rfl dX12_join_18 (fun H locs hR => ?_)
    refine lv_if_eq (tgt := 51) hx hb dX12_join_21 (by decide) (fun c7 => ?_) (fun c7 => ?_)
    · rw [if_pos c7] at hsp
      refine lv_iconst (v := 0) hx hb dX12_join_51 (by decide) ?_
      obtain ⟨e1, e2⟩ := fr_s2 hsp
      exact fr_zret C hr hlocks hR (Or.inl rfl) e1 e2 dX12_join_52
    · rw [if_neg c7] at hsp
      refine lv_iload_n hx hb dX12_join_24 rfl (lv_at hl 3 rfl) ?_
      refine lv_i2l hx hb dX12_join_25 rfl ?_
      refine lv_lconst (v := 0) hx hb dX12_join_26 (by decide) ?_
      refine lv_iload_n hx hb dX12_join_27 rfl (lv_at hl 1 rfl) ?_
      refine lv_iconst (v := 1) hx hb dX12_join_28 (by decide) ?_
      refine lv_isub hx hb dX12_join_29 ?_
      refine lv_i2l hx hb dX12_join_30 rfl ?_
      obtain ⟨r8, E9, hsp⟩ := fr_b1 hsp
      refine fq_callS (rest := []) (st1 := [.int r8]) C hR (k_X12_isIn C.2.2 E9) Y_X12_isIn YS_X12_isIn Lk_RX12_78 rfl hl.1 ⟨Nat.le_of_ble_eq_true rfl, Nat.le_of_ble_eq_true rfl⟩ rfl (Nat.le_of_ble_eq_true rfl) ⟨Nat.zero_le _, Nat.zero_le _⟩ rfl dX12_join_31 (fun H locs hR => ?_)
      refine lv_if_eq (tgt := 51) hx hb dX12_join_34 (by decide) (fun c10 => ?_) (fun c10 => ?_)
      · rw [if_pos c10] at hsp
        refine lv_iconst (v := 0) hx hb dX12_join_51 (by decide) ?_
        obtain ⟨e1, e2⟩ := fr_s2 hsp
        exact fr_zret C hr hlocks hR (Or.inl rfl) e1 e2 dX12_join_52
      · rw [if_neg c10] at hsp
        refine lv_iload hx hb dX12_join_37 (lv_at hl 4 rfl) ?_
        refine lv_i2l hx hb dX12_join_39 rfl ?_
        refine lv_lconst (v := 0) hx hb dX12_join_40 (by decide) ?_
        refine lv_iload_n hx hb dX12_join_41 rfl (lv_at hl 1 rfl) ?_
        refine lv_iconst (v := 1) hx hb dX12_join_42 (by decide) ?_
        refine lv_isub hx hb dX12_join_43 ?_
        refine lv_i2l hx hb dX12_join_44 rfl ?_
        obtain ⟨r11, E12, hsp⟩ := fr_b1 hsp
        refine fq_callS (rest := []) (st1 := [.int r11]) C hR (k_X12_isIn C.2.2 E12) Y_X12_isIn YS_X12_isIn Lk_RX12_78 rfl hl.1 ⟨Nat.le_of_ble_eq_true rfl, Nat.le_of_ble_eq_true rfl⟩ rfl (Nat.le_of_ble_eq_true rfl) ⟨Nat.zero_le _, Nat.zero_le _⟩ rfl dX12_join_45 (fun H locs hR => ?_)
        refine lv_if_ne (tgt := 53) hx hb dX12_join_48 (by decide) (fun c13 => ?_) (fun c13 => ?_)
        · rw [if_neg c13] at hsp
          refine lv_aload_n hx hb dX12_join_53 rfl (lv_at hl 0 rfl) ?_
          refine lv_iload_n hx hb dX12_join_54 rfl (lv_at hl 1 rfl) ?_
          refine lv_iconst (v := 4) hx hb dX12_join_55 (by decide) ?_
          refine lv_iload_n hx hb dX12_join_56 rfl (lv_at hl 2 rfl) ?_
          refine lv_iconst (v := 0) hx hb dX12_join_57 (by decide) ?_
          refine lv_iconst (v := 0) hx hb dX12_join_58 (by decide) ?_
          refine lv_iconst (v := 0) hx hb dX12_join_59 (by decide) ?_
          obtain ⟨h14, E15, hsp⟩ := fr_b1 hsp
          refine fq_callV (rest := []) (st1 := []) C hR (k_X12_become C.2.2 ha E15) Y_X12_become YV_X12_become Lk_RX12_271 ha ⟨_, _, rfl, by decide⟩ rfl hl.1 ⟨Nat.le_of_ble_eq_true rfl, Nat.le_of_ble_eq_true rfl⟩ rfl (Nat.le_of_ble_eq_true rfl) ⟨Nat.zero_le _, Nat.zero_le _⟩ rfl dX12_join_60 (fun H locs hR => ?_)
          refine lv_aload_n hx hb dX12_join_63 rfl (lv_at hl 0 rfl) ?_
          refine lv_iload_n hx hb dX12_join_64 rfl (lv_at hl 1 rfl) ?_
          refine lv_iconst (v := 5) hx hb dX12_join_65 (by decide) ?_
          refine lv_iload_n hx hb dX12_join_66 rfl (lv_at hl 3 rfl) ?_
          obtain ⟨h16, E17, hsp⟩ := fr_b1 hsp
          refine fq_callV (rest := []) (st1 := []) C hR (k_X12_put C.2.2 ha E17) Y_X12_put YV_X12_put Lk_RX12_66 ha ⟨_, _, rfl, by decide⟩ rfl hl.1 ⟨Nat.le_of_ble_eq_true rfl, Nat.le_of_ble_eq_true rfl⟩ rfl (Nat.le_of_ble_eq_true rfl) ⟨Nat.zero_le _, Nat.zero_le _⟩ rfl dX12_join_67 (fun H locs hR => ?_)
          refine lv_aload_n hx hb dX12_join_70 rfl (lv_at hl 0 rfl) ?_
          refine lv_iload_n hx hb dX12_join_71 rfl (lv_at hl 1 rfl) ?_
          refine lv_bipush (v := 6) hx hb dX12_join_72 (by decide) ?_
          refine lv_iload hx hb dX12_join_74 (lv_at hl 4 rfl) ?_
          obtain ⟨h18, E19, hsp⟩ := fr_b1 hsp
          refine fq_callV (rest := []) (st1 := []) C hR (k_X12_put C.2.2 ha E19) Y_X12_put YV_X12_put Lk_RX12_66 ha ⟨_, _, rfl, by decide⟩ rfl hl.1 ⟨Nat.le_of_ble_eq_true rfl, Nat.le_of_ble_eq_true rfl⟩ rfl (Nat.le_of_ble_eq_true rfl) ⟨Nat.zero_le _, Nat.zero_le _⟩ rfl dX12_join_76 (fun H locs hR => ?_)
          refine lv_aload_n hx hb dX12_join_79 rfl (lv_at hl 0 rfl) ?_
          obtain ⟨h20, E21, hsp⟩ := fr_b1 hsp
          refine fq_callV (rest := []) (st1 := []) C hR (k_X12_layAll C.2.2 ha E21) Y_X12_layAll YV_X12_layAll Lk_RX12_70 ha ⟨_, _, rfl, by decide⟩ rfl hl.1 ⟨Nat.le_of_ble_eq_true rfl, Nat.le_of_ble_eq_true rfl⟩ rfl (Nat.le_of_ble_eq_true rfl) ⟨Nat.zero_le _, Nat.zero_le _⟩ rfl dX12_join_80 (fun H locs hR => ?_)
          refine lv_iconst (v := 1) hx hb dX12_join_83 (by decide) ?_
          obtain ⟨e1, e2⟩ := fr_s2 hsp
          exact fr_zret C hr hlocks hR (Or.inr rfl) e1 e2 dX12_join_84
        · rw [if_pos c13] at hsp
          refine lv_iconst (v := 0) hx hb dX12_join_51 (by decide) ?_
          obtain ⟨e1, e2⟩ := fr_s2 hsp
          exact fr_zret C hr hlocks hR (Or.inl rfl) e1 e2 dX12_join_52

/-! TermRowsModel.told(II)I -/
def z_X12_told_b78 (S : fh_S) (a : Nat) : Nat → fh_H → Int32 → Int32 → Option (Int32 × fh_H)
  | 0, _, _, _ => none
  | n + 1, h, y1, y4 =>
    if ((h.1 a 45) + (h.1 a 46)) ≤ y4 then (fh_b1 (z_X12_layAll S h a) (fun h2 => some (((h2.1 a 45) + (h2.1 a 46)), h2))) else (fh_b1 (h.2.2 a 34) (fun j4 => fh_ck (fh_kq S j4 13) (fh_ck (fh_in y4 (S.2.2 j4)) (fh_b1 (z_X12_put S h a y1 ((9 : Int32) + y4) (h.1 j4 (Int32.toNatClampNeg y4))) (fun h8 => fh_let (y4 + 1) (fun v10 => z_X12_told_b78 S a n h8 y1 v10))))))
def z_X12_told (S : fh_S) (h : fh_H) (a : Nat) (x1 : Int32) (x2 : Int32) : Option (Int32 × fh_H) :=
    fh_let (fh_sI h a 3 (0 : Int32)) (fun h1 => fh_b1 (z_X12_isRight S h1 a x1 x2) (fun r2 => if r2 = 0 then (fh_b2 (z_X12_fail S h1 a (1 : Int32)) (fun r19 h20 => some (r19, h20))) else (fh_b1 (z_X12_opens S h1 a x2) (fun h5 => fh_b1 (z_X12_readTold S h5 a) (fun h7 => fh_b2 (z_X12_ends S h7 a) (fun r9 h10 => if r9 = 0 then (fh_b1 (z_X12_become S h10 a x1 (2 : Int32) (0 : Int32) (0 : Int32) (0 : Int32) (0 : Int32)) (fun h13 => fh_b1 (z_X12_put S h13 a x1 (7 : Int32) (h13.1 a 45)) (fun h15 => fh_b1 (z_X12_put S h15 a x1 (8 : Int32) (h15.1 a 46)) (fun h17 => z_X12_told_b78 S a 20000 h17 x1 (0 : Int32))))) else (some (((-10 : Int32) - r9), h10))))))))
set_option maxHeartbeats 4000000 in
set_option maxRecDepth 100000 in
theorem k_X12_told {l : Launch} {S : fh_S} {g : fh_G} {h h' : fh_H} (hj : fh_inj S g) {a : Nat} {x1 : Int32} {x2 : Int32} {r : Int32} (ha : fh_kq S a 12 = true) (hsp : z_X12_told S h a x1 x2 = some (r, h')) : fh_M l yX12_told cX12_told 5 (some .int) (fh_rm 9) S g [.ref (g.2.2 a), .int x1, .int x2] h (some (.int r)) h' := by
  unfold z_X12_told at hsp
  refine fr_head (own := RX12) (by decide) rfl hj (Nat.le_of_ble_eq_true rfl) ?_
  intro p e s m below meth c ls C hr hlocks hR hl
  have hl : lv_has ls 5 [(0, .ref (g.2.2 a)), (1, .int x1), (2, .int x2)] := hl
  have hx := C.1.1
  have hb := C.1.2.1
  have hb_78 : ∀ (n : Nat) (h : fh_H) (y1 : Int32) (y4 : Int32) (H : Heap) (locs : List Loc) (ls : Array Slot), z_X12_told_b78 S a n h y1 y4 = some (r, h') → fh_R S g s.heap h H locs → lv_has ls 5 [(0, .ref (g.2.2 a)), (1, .int y1), (4, .int y4)] → fh_Wk p l e 9 s m [.ref (g.2.2 a), .int x1, .int x2] below meth c S g (some (.int r)) h' H locs (F0 m 78 ls []) := by
    intro n
    induction n with
    | zero => intro h y1 y4 H locs ls hsp; cases hsp
    | succ n ih =>
      intro h y1 y4 H locs ls hsp hR hl
      rw [z_X12_told_b78] at hsp
      refine lv_iload hx hb dX12_told_78 (lv_at hl 2 rfl) ?_
      refine lv_aload_n hx hb dX12_told_80 rfl (lv_at hl 0 rfl) ?_
      refine fr_geti C hR ha Fg_RX12_441 rfl dX12_told_81 ?_
      refine lv_aload_n hx hb dX12_told_84 rfl (lv_at hl 0 rfl) ?_
      refine fr_geti C hR ha Fg_RX12_444 rfl dX12_told_85 ?_
      refine lv_iadd hx hb dX12_told_88 ?_
      refine lv_icmp_ge (tgt := 115) hx hb dX12_told_89 (by decide) (fun c1 => ?_) (fun c1 => ?_)
      · rw [if_pos c1] at hsp
        refine lv_aload_n hx hb dX12_told_115 rfl (lv_at hl 0 rfl) ?_
        obtain ⟨h2, E3, hsp⟩ := fr_b1 hsp
        refine fq_callV (rest := []) (st1 := []) C hR (k_X12_layAll C.2.2 ha E3) Y_X12_layAll YV_X12_layAll Lk_RX12_70 ha ⟨_, _, rfl, by decide⟩ rfl hl.1 ⟨Nat.le_of_ble_eq_true rfl, Nat.le_of_ble_eq_true rfl⟩ rfl (Nat.le_of_ble_eq_true rfl) ⟨Nat.zero_le _, Nat.zero_le _⟩ rfl dX12_told_116 (fun H locs hR => ?_)
        refine lv_aload_n hx hb dX12_told_119 rfl (lv_at hl 0 rfl) ?_
        refine fr_geti C hR ha Fg_RX12_441 rfl dX12_told_120 ?_
        refine lv_aload_n hx hb dX12_told_123 rfl (lv_at hl 0 rfl) ?_
        refine fr_geti C hR ha Fg_RX12_444 rfl dX12_told_124 ?_
        refine lv_iadd hx hb dX12_told_127 ?_
        obtain ⟨e1, e2⟩ := fr_s2 hsp
        exact fr_iret C hr hlocks hR e1 e2 dX12_told_128
      · rw [if_neg c1] at hsp
        refine lv_aload_n hx hb dX12_told_92 rfl (lv_at hl 0 rfl) ?_
        refine lv_iload_n hx hb dX12_told_93 rfl (lv_at hl 1 rfl) ?_
        refine lv_bipush (v := 9) hx hb dX12_told_94 (by decide) ?_
        refine lv_iload hx hb dX12_told_96 (lv_at hl 2 rfl) ?_
        refine lv_iadd hx hb dX12_told_98 ?_
        refine lv_aload_n hx hb dX12_told_99 rfl (lv_at hl 0 rfl) ?_
        obtain ⟨j4, hv5, hsp⟩ := fr_b1 hsp
        refine fr_getr C hR ha Fg_RX12_59 rfl hv5 dX12_told_100 ?_
        refine lv_iload hx hb dX12_told_103 (lv_at hl 2 rfl) ?_
        obtain ⟨hk6, hsp⟩ := fr_ck hsp
        obtain ⟨hi7, hsp⟩ := fr_ck hsp
        refine fr_iald C hR hk6 hi7 dX12_told_105 ?_
        obtain ⟨h8, E9, hsp⟩ := fr_b1 hsp
        refine fq_callV (rest := []) (st1 := []) C hR (k_X12_put C.2.2 ha E9) Y_X12_put YV_X12_put Lk_RX12_66 ha ⟨_, _, rfl, by decide⟩ rfl hl.1 ⟨Nat.le_of_ble_eq_true rfl, Nat.le_of_ble_eq_true rfl⟩ rfl (Nat.le_of_ble_eq_true rfl) ⟨Nat.zero_le _, Nat.zero_le _⟩ rfl dX12_told_106 (fun H locs hR => ?_)
        obtain ⟨v10, ev10⟩ : ∃ z : Int32, z = y4 + 1 := ⟨_, rfl⟩
        have hsp := fr_let ev10 hsp
        refine lv_iinc (v := v10) (lv' := [(4, .int v10), (0, .ref (g.2.2 a)), (1, .int y1)]) hx hb dX12_told_109 hl (k := 2) rfl (by rw [ev10]; rfl) (by decide) rfl (fun ls hl => ?_)
        refine lv_goto (tgt := 78) hx hb dX12_told_112 (by decide) ?_
        exact ih h8 y1 v10 _ _ _ hsp hR (lv_sub hl [1, 2, 0] rfl)
  refine lv_aload_n hx hb dX12_told_0 rfl (lv_at hl 0 rfl) ?_
  refine lv_iconst (v := 0) hx hb dX12_told_1 (by decide) ?_
  refine fr_puti C hR ha Fp_RX12_73 rfl dX12_told_2 (fun H locs hR => ?_)
  obtain ⟨h1, eh1⟩ : ∃ z, z = fh_sI h a 3 (0 : Int32) := ⟨_, rfl⟩
  rw [← eh1] at hR
  have hsp := fr_let eh1 hsp
  refine lv_aload_n hx hb dX12_told_5 rfl (lv_at hl 0 rfl) ?_
  refine lv_iload_n hx hb dX12_told_6 rfl (lv_at hl 1 rfl) ?_
  refine lv_iload_n hx hb dX12_told_7 rfl (lv_at hl 2 rfl) ?_
  obtain ⟨r2, E3, hsp⟩ := fr_b1 hsp
  refine fq_callV (rest := []) (st1 := [.int r2]) C hR (k_X12_isRight C.2.2 ha E3) Y_X12_isRight YV_X12_isRight Lk_RX12_462 ha ⟨_, _, rfl, by decide⟩ rfl hl.1 ⟨Nat.le_of_ble_eq_true rfl, Nat.le_of_ble_eq_true rfl⟩ rfl (Nat.le_of_ble_eq_true rfl) ⟨Nat.zero_le _, Nat.zero_le _⟩ rfl dX12_told_8 (fun H locs hR => ?_)
  refine lv_if_ne (tgt := 20) hx hb dX12_told_11 (by decide) (fun c4 => ?_) (fun c4 => ?_)
  · rw [if_neg c4] at hsp
    refine lv_aload_n hx hb dX12_told_20 rfl (lv_at hl 0 rfl) ?_
    refine lv_iload_n hx hb dX12_told_21 rfl (lv_at hl 2 rfl) ?_
    obtain ⟨h5, E6, hsp⟩ := fr_b1 hsp
    refine fq_callV (rest := []) (st1 := []) C hR (k_X12_opens C.2.2 ha E6) Y_X12_opens YV_X12_opens Lk_RX12_465 ha ⟨_, _, rfl, by decide⟩ rfl hl.1 ⟨Nat.le_of_ble_eq_true rfl, Nat.le_of_ble_eq_true rfl⟩ rfl (Nat.le_of_ble_eq_true rfl) ⟨Nat.zero_le _, Nat.zero_le _⟩ rfl dX12_told_22 (fun H locs hR => ?_)
    refine lv_aload_n hx hb dX12_told_25 rfl (lv_at hl 0 rfl) ?_
    obtain ⟨h7, E8, hsp⟩ := fr_b1 hsp
    refine fq_callV (rest := []) (st1 := []) C hR (k_X12_readTold C.2.2 ha E8) Y_X12_readTold YV_X12_readTold Lk_RX12_468 ha ⟨_, _, rfl, by decide⟩ rfl hl.1 ⟨Nat.le_of_ble_eq_true rfl, Nat.le_of_ble_eq_true rfl⟩ rfl (Nat.le_of_ble_eq_true rfl) ⟨Nat.zero_le _, Nat.zero_le _⟩ rfl dX12_told_26 (fun H locs hR => ?_)
    refine lv_aload_n hx hb dX12_told_29 rfl (lv_at hl 0 rfl) ?_
    obtain ⟨r9, h10, E11, hsp⟩ := fr_b2 hsp
    refine fq_callV (rest := []) (st1 := [.int r9]) C hR (k_X12_ends C.2.2 ha E11) Y_X12_ends YV_X12_ends Lk_RX12_471 ha ⟨_, _, rfl, by decide⟩ rfl hl.1 ⟨Nat.le_of_ble_eq_true rfl, Nat.le_of_ble_eq_true rfl⟩ rfl (Nat.le_of_ble_eq_true rfl) ⟨Nat.zero_le _, Nat.zero_le _⟩ rfl dX12_told_30 (fun H locs hR => ?_)
    refine lv_istore_n (lv' := [(3, .int r9), (0, .ref (g.2.2 a)), (1, .int x1), (2, .int x2)]) hx hb dX12_told_33 rfl hl (by decide) rfl (fun ls hl => ?_)
    refine lv_iload_n hx hb dX12_told_34 rfl (lv_at hl 0 rfl) ?_
    refine lv_if_eq (tgt := 43) hx hb dX12_told_35 (by decide) (fun c12 => ?_) (fun c12 => ?_)
    · rw [if_pos c12] at hsp
      refine lv_aload_n hx hb dX12_told_43 rfl (lv_at hl 1 rfl) ?_
      refine lv_iload_n hx hb dX12_told_44 rfl (lv_at hl 2 rfl) ?_
      refine lv_iconst (v := 2) hx hb dX12_told_45 (by decide) ?_
      refine lv_iconst (v := 0) hx hb dX12_told_46 (by decide) ?_
      refine lv_iconst (v := 0) hx hb dX12_told_47 (by decide) ?_
      refine lv_iconst (v := 0) hx hb dX12_told_48 (by decide) ?_
      refine lv_iconst (v := 0) hx hb dX12_told_49 (by decide) ?_
      obtain ⟨h13, E14, hsp⟩ := fr_b1 hsp
      refine fq_callV (rest := []) (st1 := []) C hR (k_X12_become C.2.2 ha E14) Y_X12_become YV_X12_become Lk_RX12_271 ha ⟨_, _, rfl, by decide⟩ rfl hl.1 ⟨Nat.le_of_ble_eq_true rfl, Nat.le_of_ble_eq_true rfl⟩ rfl (Nat.le_of_ble_eq_true rfl) ⟨Nat.zero_le _, Nat.zero_le _⟩ rfl dX12_told_50 (fun H locs hR => ?_)
      refine lv_aload_n hx hb dX12_told_53 rfl (lv_at hl 1 rfl) ?_
      refine lv_iload_n hx hb dX12_told_54 rfl (lv_at hl 2 rfl) ?_
      refine lv_bipush (v := 7) hx hb dX12_told_55 (by decide) ?_
      refine lv_aload_n hx hb dX12_told_57 rfl (lv_at hl 1 rfl) ?_
      refine fr_geti C hR ha Fg_RX12_441 rfl dX12_told_58 ?_
      obtain ⟨h15, E16, hsp⟩ := fr_b1 hsp
      refine fq_callV (rest := []) (st1 := []) C hR (k_X12_put C.2.2 ha E16) Y_X12_put YV_X12_put Lk_RX12_66 ha ⟨_, _, rfl, by decide⟩ rfl hl.1 ⟨Nat.le_of_ble_eq_true rfl, Nat.le_of_ble_eq_true rfl⟩ rfl (Nat.le_of_ble_eq_true rfl) ⟨Nat.zero_le _, Nat.zero_le _⟩ rfl dX12_told_61 (fun H locs hR => ?_)
      refine lv_aload_n hx hb dX12_told_64 rfl (lv_at hl 1 rfl) ?_
      refine lv_iload_n hx hb dX12_told_65 rfl (lv_at hl 2 rfl) ?_
      refine lv_bipush (v := 8) hx hb dX12_told_66 (by decide) ?_
      refine lv_aload_n hx hb dX12_told_68 rfl (lv_at hl 1 rfl) ?_
      refine fr_geti C hR ha Fg_RX12_444 rfl dX12_told_69 ?_
      obtain ⟨h17, E18, hsp⟩ := fr_b1 hsp
      refine fq_callV (rest := []) (st1 := []) C hR (k_X12_put C.2.2 ha E18) Y_X12_put YV_X12_put Lk_RX12_66 ha ⟨_, _, rfl, by decide⟩ rfl hl.1 ⟨Nat.le_of_ble_eq_true rfl, Nat.le_of_ble_eq_true rfl⟩ rfl (Nat.le_of_ble_eq_true rfl) ⟨Nat.zero_le _, Nat.zero_le _⟩ rfl dX12_told_72 (fun H locs hR => ?_)
      refine lv_iconst (v := 0) hx hb dX12_told_75 (by decide) ?_
      refine lv_istore (lv' := [(4, .int (0 : Int32)), (3, .int r9), (0, .ref (g.2.2 a)), (1, .int x1), (2, .int x2)]) hx hb dX12_told_76 hl (by decide) rfl (fun ls hl => ?_)
      exact hb_78 20000 h17 x1 (0 : Int32) _ _ _ hsp hR (lv_sub hl [2, 3, 0] rfl)
    · rw [if_neg c12] at hsp
      refine lv_bipush (v := -10) hx hb dX12_told_38 (by decide) ?_
      refine lv_iload_n hx hb dX12_told_40 rfl (lv_at hl 0 rfl) ?_
      refine lv_isub hx hb dX12_told_41 ?_
      obtain ⟨e1, e2⟩ := fr_s2 hsp
      exact fr_iret C hr hlocks hR e1 e2 dX12_told_42
  · rw [if_pos c4] at hsp
    refine lv_aload_n hx hb dX12_told_14 rfl (lv_at hl 0 rfl) ?_
    refine lv_iconst (v := 1) hx hb dX12_told_15 (by decide) ?_
    obtain ⟨r19, h20, E21, hsp⟩ := fr_b2 hsp
    refine fq_callV (rest := []) (st1 := [.int r19]) C hR (k_X12_fail C.2.2 ha E21) Y_X12_fail YV_X12_fail Lk_RX12_299 ha ⟨_, _, rfl, by decide⟩ rfl hl.1 ⟨Nat.le_of_ble_eq_true rfl, Nat.le_of_ble_eq_true rfl⟩ rfl (Nat.le_of_ble_eq_true rfl) ⟨Nat.zero_le _, Nat.zero_le _⟩ rfl dX12_told_16 (fun H locs hR => ?_)
    obtain ⟨e1, e2⟩ := fr_s2 hsp
    exact fr_iret C hr hlocks hR e1 e2 dX12_told_19
