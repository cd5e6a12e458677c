/-! TermRowsModel.isWord(Ljava/lang/String;)Z -/
def z_X12_isWord_b39 (S : fh_S) (a : Nat) : Nat → fh_H → Nat → Int32 → Int32 → Option Int32
  | 0, _, _, _, _ => none
  | n + 1, h, x1, y2, y3 =>
    if y2 = 0 then (fh_ck (decide (y2 = 0 ∨ y2 = 1)) (some y2)) else (if (Int32.ofNat (fs_n x1)) ≤ y3 then (fh_ck (decide (y2 = 0 ∨ y2 = 1)) (some y2)) else (fh_ck (fh_in y3 (fs_n x1)) (fh_b1 (h.2.2 a 33) (fun j6 => fh_ck (fh_kq S j6 13) (fh_ck (fh_in ((h.1 a 39) + y3) (S.2.2 j6)) (if (fs_c x1 (Int32.toNatClampNeg y3)) = (h.1 j6 (Int32.toNatClampNeg ((h.1 a 39) + y3))) then (fh_let (y3 + 1) (fun v12 => z_X12_isWord_b39 S a n h x1 (1 : Int32) v12)) else (fh_let (y3 + 1) (fun v11 => z_X12_isWord_b39 S a n h x1 (0 : Int32) v11))))))))
def z_X12_isWord (S : fh_S) (h : fh_H) (a : Nat) (x1 : Nat) : Option Int32 :=
    if (h.1 a 41) = 0 then (if (h.1 a 38) = (1 : Int32) then (if (Int32.ofNat (fs_n x1)) = ((h.1 a 40) - (h.1 a 39)) then (z_X12_isWord_b39 S a 20000 h x1 (1 : Int32) (0 : Int32)) else (z_X12_isWord_b39 S a 20000 h x1 (0 : Int32) (0 : Int32))) else (z_X12_isWord_b39 S a 20000 h x1 (0 : Int32) (0 : Int32))) else (z_X12_isWord_b39 S a 20000 h x1 (0 : Int32) (0 : Int32))
set_option maxHeartbeats 4000000 in
set_option maxRecDepth 100000 in
theorem k_X12_isWord {l : Launch} {S : fh_S} {g : fh_G} {h : fh_H} {z : (Nat → Nat) × (Nat → Nat)} (hj : fh_inj S g) {a : Nat} {x1 : Nat} {r : Int32} (ha : fh_kq S a 12 = true) (hw_x1 : x1 < 10) (hsp : z_X12_isWord S h a x1 = some r) : fx_M l yX12_isWord cX12_isWord 4 (some .boolean) (fh_rm 5) S g z [.ref (g.2.2 a), .ref (z.1 x1)] h (some (.int r)) h := by
  unfold z_X12_isWord at hsp
  refine fz_head (own := RX12) (by decide) rfl hj (Nat.le_of_ble_eq_true rfl) ?_
  intro p e s m below meth c ls C EX hr hlocks hR hl
  have hl : lv_has ls 4 [(0, .ref (g.2.2 a)), (1, .ref (z.1 x1))] := hl
  have hx := C.1.1
  have hb := C.1.2.1
  have hb_39 : ∀ (n : Nat) (y2 : Int32) (y3 : Int32) (H : Heap) (locs : List Loc) (ls : Array Slot), z_X12_isWord_b39 S a n h x1 y2 y3 = some r → fh_R S g s.heap h H locs → lv_has ls 4 [(0, .ref (g.2.2 a)), (1, .ref (z.1 x1)), (2, .int y2), (3, .int y3)] → fh_Wk p l e 5 s m [.ref (g.2.2 a), .ref (z.1 x1)] below meth c S g (some (.int r)) h H locs (F0 m 39 ls []) := by
    intro n
    induction n with
    | zero => intro y2 y3 H locs ls hsp; cases hsp
    | succ n ih =>
      intro y2 y3 H locs ls hsp hR hl
      rw [z_X12_isWord_b39] at hsp
      refine lv_iload_n hx hb dX12_isWord_39 rfl (lv_at hl 2 rfl) ?_
      refine lv_if_eq (tgt := 82) hx hb dX12_isWord_40 (by decide) (fun c1 => ?_) (fun c1 => ?_)
      · rw [if_pos c1] at hsp
        refine lv_iload_n hx hb dX12_isWord_82 rfl (lv_at hl 2 rfl) ?_
        obtain ⟨hz2, hsp⟩ := fr_ck hsp
        have e1 := fr_s1 hsp
        exact fr_zret C hr hlocks hR (of_decide_eq_true hz2) e1 rfl dX12_isWord_83
      · rw [if_neg c1] at hsp
        refine lv_iload_n hx hb dX12_isWord_43 rfl (lv_at hl 3 rfl) ?_
        refine lv_aload_n hx hb dX12_isWord_44 rfl (lv_at hl 1 rfl) ?_
        refine fz_cV (rest := [.int y3]) (st1 := [.int (Int32.ofNat (fs_n x1)), .int y3]) C EX hR (ks_len C.2.2 hw_x1) Y_J0_length_8abf5 YV_J0_length_8abf5 Lk_RX12_422 (fs_rv EX hR.2 hw_x1) rfl hl.1 ⟨Nat.le_of_ble_eq_true rfl, Nat.le_of_ble_eq_true rfl⟩ rfl (Nat.le_of_ble_eq_true rfl) ⟨Nat.le_of_ble_eq_true rfl, Nat.le_of_ble_eq_true rfl⟩ rfl dX12_isWord_45 (fun H locs hR => ?_)
        refine lv_icmp_ge (tgt := 82) hx hb dX12_isWord_48 (by decide) (fun c3 => ?_) (fun c3 => ?_)
        · rw [if_pos c3] at hsp
          refine lv_iload_n hx hb dX12_isWord_82 rfl (lv_at hl 2 rfl) ?_
          obtain ⟨hz4, hsp⟩ := fr_ck hsp
          have e1 := fr_s1 hsp
          exact fr_zret C hr hlocks hR (of_decide_eq_true hz4) e1 rfl dX12_isWord_83
        · rw [if_neg c3] at hsp
          refine lv_aload_n hx hb dX12_isWord_51 rfl (lv_at hl 1 rfl) ?_
          refine lv_iload_n hx hb dX12_isWord_52 rfl (lv_at hl 3 rfl) ?_
          obtain ⟨hi5, hsp⟩ := fr_ck hsp
          refine fz_cV (rest := []) (st1 := [.int (fs_c x1 (Int32.toNatClampNeg y3))]) C EX hR (ks_ch C.2.2 hw_x1 hi5) Y_J0_charAt_5068e YV_J0_charAt_5068e Lk_RX12_427 (fs_rv EX hR.2 hw_x1) rfl hl.1 ⟨Nat.le_of_ble_eq_true rfl, Nat.le_of_ble_eq_true rfl⟩ rfl (Nat.le_of_ble_eq_true rfl) ⟨Nat.le_of_ble_eq_true rfl, Nat.le_of_ble_eq_true rfl⟩ rfl dX12_isWord_53 (fun H locs hR => ?_)
          refine lv_aload_n hx hb dX12_isWord_56 rfl (lv_at hl 0 rfl) ?_
          obtain ⟨j6, hv7, hsp⟩ := fr_b1 hsp
          refine fr_getr C hR ha Fg_RX12_56 rfl hv7 dX12_isWord_57 ?_
          refine lv_aload_n hx hb dX12_isWord_60 rfl (lv_at hl 0 rfl) ?_
          refine fr_geti C hR ha Fg_RX12_395 rfl dX12_isWord_61 ?_
          refine lv_iload_n hx hb dX12_isWord_64 rfl (lv_at hl 3 rfl) ?_
          refine lv_iadd hx hb dX12_isWord_65 ?_
          obtain ⟨hk8, hsp⟩ := fr_ck hsp
          obtain ⟨hi9, hsp⟩ := fr_ck hsp
          refine fr_iald C hR hk8 hi9 dX12_isWord_66 ?_
          refine lv_icmp_ne (tgt := 74) hx hb dX12_isWord_67 (by decide) (fun c10 => ?_) (fun c10 => ?_)
          · rw [if_neg c10] at hsp
            refine lv_iconst (v := 0) hx hb dX12_isWord_74 (by decide) ?_
            refine lv_istore_n (lv' := [(2, .int (0 : Int32)), (0, .ref (g.2.2 a)), (1, .ref (z.1 x1)), (3, .int y3)]) hx hb dX12_isWord_75 rfl hl (by decide) rfl (fun ls hl => ?_)
            obtain ⟨v11, ev11⟩ : ∃ z : Int32, z = y3 + 1 := ⟨_, rfl⟩
            have hsp := fr_let ev11 hsp
            refine lv_iinc (v := v11) (lv' := [(3, .int v11), (2, .int (0 : Int32)), (0, .ref (g.2.2 a)), (1, .ref (z.1 x1))]) hx hb dX12_isWord_76 hl (k := 3) rfl (by rw [ev11]; rfl) (by decide) rfl (fun ls hl => ?_)
            refine lv_goto (tgt := 39) hx hb dX12_isWord_79 (by decide) ?_
            exact ih (0 : Int32) v11 _ _ _ hsp hR (lv_sub hl [2, 3, 1, 0] rfl)
          · rw [if_pos c10] at hsp
            refine lv_iconst (v := 1) hx hb dX12_isWord_70 (by decide) ?_
            refine lv_goto (tgt := 75) hx hb dX12_isWord_71 (by decide) ?_
            refine lv_istore_n (lv' := [(2, .int (1 : Int32)), (0, .ref (g.2.2 a)), (1, .ref (z.1 x1)), (3, .int y3)]) hx hb dX12_isWord_75 rfl hl (by decide) rfl (fun ls hl => ?_)
            obtain ⟨v12, ev12⟩ : ∃ z : Int32, z = y3 + 1 := ⟨_, rfl⟩
            have hsp := fr_let ev12 hsp
            refine lv_iinc (v := v12) (lv' := [(3, .int v12), (2, .int (1 : Int32)), (0, .ref (g.2.2 a)), (1, .ref (z.1 x1))]) hx hb dX12_isWord_76 hl (k := 3) rfl (by rw [ev12]; rfl) (by decide) rfl (fun ls hl => ?_)
            refine lv_goto (tgt := 39) hx hb dX12_isWord_79 (by decide) ?_
            exact ih (1 : Int32) v12 _ _ _ hsp hR (lv_sub hl [2, 3, 1, 0] rfl)
  refine lv_aload_n hx hb dX12_isWord_0 rfl (lv_at hl 0 rfl) ?_
  refine fr_geti C hR ha Fg_RX12_410 rfl dX12_isWord_1 ?_
  refine lv_if_ne (tgt := 35) hx hb dX12_isWord_4 (by decide) (fun c1 => ?_) (fun c1 => ?_)
  · rw [if_neg c1] at hsp
    refine lv_iconst (v := 0) hx hb dX12_isWord_35 (by decide) ?_
    refine lv_istore_n (lv' := [(2, .int (0 : Int32)), (0, .ref (g.2.2 a)), (1, .ref (z.1 x1))]) hx hb dX12_isWord_36 rfl hl (by decide) rfl (fun ls hl => ?_)
    refine lv_iconst (v := 0) hx hb dX12_isWord_37 (by decide) ?_
    refine lv_istore_n (lv' := [(3, .int (0 : Int32)), (2, .int (0 : Int32)), (0, .ref (g.2.2 a)), (1, .ref (z.1 x1))]) hx hb dX12_isWord_38 rfl hl (by decide) rfl (fun ls hl => ?_)
    exact hb_39 20000 (0 : Int32) (0 : Int32) _ _ _ hsp hR (lv_sub hl [2, 3, 1, 0] rfl)
  · rw [if_pos c1] at hsp
    refine lv_aload_n hx hb dX12_isWord_7 rfl (lv_at hl 0 rfl) ?_
    refine fr_geti C hR ha Fg_RX12_398 rfl dX12_isWord_8 ?_
    refine lv_iconst (v := 1) hx hb dX12_isWord_11 (by decide) ?_
    refine lv_icmp_ne (tgt := 35) hx hb dX12_isWord_12 (by decide) (fun c2 => ?_) (fun c2 => ?_)
    · rw [if_neg c2] at hsp
      refine lv_iconst (v := 0) hx hb dX12_isWord_35 (by decide) ?_
      refine lv_istore_n (lv' := [(2, .int (0 : Int32)), (0, .ref (g.2.2 a)), (1, .ref (z.1 x1))]) hx hb dX12_isWord_36 rfl hl (by decide) rfl (fun ls hl => ?_)
      refine lv_iconst (v := 0) hx hb dX12_isWord_37 (by decide) ?_
      refine lv_istore_n (lv' := [(3, .int (0 : Int32)), (2, .int (0 : Int32)), (0, .ref (g.2.2 a)), (1, .ref (z.1 x1))]) hx hb dX12_isWord_38 rfl hl (by decide) rfl (fun ls hl => ?_)
      exact hb_39 20000 (0 : Int32) (0 : Int32) _ _ _ hsp hR (lv_sub hl [2, 3, 1, 0] rfl)
    · rw [if_pos c2] at hsp
      refine lv_aload_n hx hb dX12_isWord_15 rfl (lv_at hl 1 rfl) ?_
      refine fz_cV (rest := []) (st1 := [.int (Int32.ofNat (fs_n x1))]) C EX hR (ks_len C.2.2 hw_x1) Y_J0_length_8abf5 YV_J0_length_8abf5 Lk_RX12_422 (fs_rv EX hR.2 hw_x1) rfl hl.1 ⟨Nat.le_of_ble_eq_true rfl, Nat.le_of_ble_eq_true rfl⟩ rfl (Nat.le_of_ble_eq_true rfl) ⟨Nat.le_of_ble_eq_true rfl, Nat.le_of_ble_eq_true rfl⟩ rfl dX12_isWord_16 (fun H locs hR => ?_)
      refine lv_aload_n hx hb dX12_isWord_19 rfl (lv_at hl 0 rfl) ?_
      refine fr_geti C hR ha Fg_RX12_407 rfl dX12_isWord_20 ?_
      refine lv_aload_n hx hb dX12_isWord_23 rfl (lv_at hl 0 rfl) ?_
      refine fr_geti C hR ha Fg_RX12_395 rfl dX12_isWord_24 ?_
      refine lv_isub hx hb dX12_isWord_27 ?_
      refine lv_icmp_ne (tgt := 35) hx hb dX12_isWord_28 (by decide) (fun c3 => ?_) (fun c3 => ?_)
      · rw [if_neg c3] at hsp
        refine lv_iconst (v := 0) hx hb dX12_isWord_35 (by decide) ?_
        refine lv_istore_n (lv' := [(2, .int (0 : Int32)), (0, .ref (g.2.2 a)), (1, .ref (z.1 x1))]) hx hb dX12_isWord_36 rfl hl (by decide) rfl (fun ls hl => ?_)
        refine lv_iconst (v := 0) hx hb dX12_isWord_37 (by decide) ?_
        refine lv_istore_n (lv' := [(3, .int (0 : Int32)), (2, .int (0 : Int32)), (0, .ref (g.2.2 a)), (1, .ref (z.1 x1))]) hx hb dX12_isWord_38 rfl hl (by decide) rfl (fun ls hl => ?_)
        exact hb_39 20000 (0 : Int32) (0 : Int32) _ _ _ hsp hR (lv_sub hl [2, 3, 1, 0] rfl)
      · rw [if_pos c3] at hsp
        refine lv_iconst (v := 1) hx hb dX12_isWord_31 (by decide) ?_
        refine lv_goto (tgt := 36) hx hb dX12_isWord_32 (by decide) ?_
        refine lv_istore_n (lv' := [(2, .int (1 : Int32)), (0, .ref (g.2.2 a)), (1, .ref (z.1 x1))]) hx hb dX12_isWord_36 rfl hl (by decide) rfl (fun ls hl => ?_)
        refine lv_iconst (v := 0) hx hb dX12_isWord_37 (by decide) ?_
        refine lv_istore_n (lv' := [(3, .int (0 : Int32)), (2, .int (1 : Int32)), (0, .ref (g.2.2 a)), (1, .ref (z.1 x1))]) hx hb dX12_isWord_38 rfl hl (by decide) rfl (fun ls hl => ?_)
        exact hb_39 20000 (1 : Int32) (0 : Int32) _ _ _ hsp hR (lv_sub hl [2, 3, 1, 0] rfl)

/-! TermRows$Tape.spells(Ljava/lang/String;II)Z -/
def z_X10_spells_b15 (S : fh_S) (a : Nat) : Nat → fh_H → Nat → Int32 → Int32 → Option Int32
  | 0, _, _, _, _ => none
  | n + 1, h, x1, y2, y4 =>
    if (Int32.ofNat (fs_n x1)) ≤ y4 then (some (1 : Int32)) else (fh_b1 (z_X10_byteAt S h a (y2 + y4)) (fun r2 => fh_ck (fh_in y4 (fs_n x1)) (if r2 = (fs_c x1 (Int32.toNatClampNeg y4)) then (fh_let (y4 + 1) (fun v6 => z_X10_spells_b15 S a n h x1 y2 v6)) else (some (0 : Int32)))))
def z_X10_spells (S : fh_S) (h : fh_H) (a : Nat) (x1 : Nat) (x2 : Int32) (x3 : Int32) : Option Int32 :=
    if (x3 - x2) = (Int32.ofNat (fs_n x1)) then (z_X10_spells_b15 S a 20000 h x1 x2 (0 : Int32)) else (some (0 : Int32))
set_option maxHeartbeats 4000000 in
set_option maxRecDepth 100000 in
theorem k_X10_spells {l : Launch} {S : fh_S} {g : fh_G} {h : fh_H} {z : (Nat → Nat) × (Nat → Nat)} (hj : fh_inj S g) {a : Nat} {x1 : Nat} {x2 : Int32} {x3 : Int32} {r : Int32} (ha : fh_kq S a 10 = true) (hw_x1 : x1 < 10) (hsp : z_X10_spells S h a x1 x2 x3 = some r) : fx_M l yX10_spells cX10_spells 5 (some .boolean) (fh_rm 5) S g z [.ref (g.2.2 a), .ref (z.1 x1), .int x2, .int x3] h (some (.int r)) h := by
  unfold z_X10_spells at hsp
  refine fz_head (own := RX10) (by decide) rfl hj (Nat.le_of_ble_eq_true rfl) ?_
  intro p e s m below meth c ls C EX hr hlocks hR hl
  have hl : lv_has ls 5 [(0, .ref (g.2.2 a)), (1, .ref (z.1 x1)), (2, .int x2), (3, .int x3)] := hl
  have hx := C.1.1
  have hb := C.1.2.1
  have hb_15 : ∀ (n : Nat) (y2 : Int32) (y4 : Int32) (H : Heap) (locs : List Loc) (ls : Array Slot), z_X10_spells_b15 S a n h x1 y2 y4 = some r → fh_R S g s.heap h H locs → lv_has ls 5 [(0, .ref (g.2.2 a)), (1, .ref (z.1 x1)), (2, .int y2), (4, .int y4)] → fh_Wk p l e 5 s m [.ref (g.2.2 a), .ref (z.1 x1), .int x2, .int x3] below meth c S g (some (.int r)) h H locs (F0 m 15 ls []) := by
    intro n
    induction n with
    | zero => intro y2 y4 H locs ls hsp; cases hsp
    | succ n ih =>
      intro y2 y4 H locs ls hsp hR hl
      rw [z_X10_spells_b15] at hsp
      refine lv_iload hx hb dX10_spells_15 (lv_at hl 3 rfl) ?_
      refine lv_aload_n hx hb dX10_spells_17 rfl (lv_at hl 1 rfl) ?_
      refine fz_cV (rest := [.int y4]) (st1 := [.int (Int32.ofNat (fs_n x1)), .int y4]) C EX hR (ks_len C.2.2 hw_x1) Y_J0_length_8abf5 YV_J0_length_8abf5 Lk_RX10_101 (fs_rv EX hR.2 hw_x1) rfl hl.1 ⟨Nat.le_of_ble_eq_true rfl, Nat.le_of_ble_eq_true rfl⟩ rfl (Nat.le_of_ble_eq_true rfl) ⟨Nat.le_of_ble_eq_true rfl, Nat.le_of_ble_eq_true rfl⟩ rfl dX10_spells_18 (fun H locs hR => ?_)
      refine lv_icmp_ge (tgt := 49) hx hb dX10_spells_21 (by decide) (fun c1 => ?_) (fun c1 => ?_)
      · rw [if_pos c1] at hsp
        refine lv_iconst (v := 1) hx hb dX10_spells_49 (by decide) ?_
        have e1 := fr_s1 hsp
        exact fr_zret C hr hlocks hR (Or.inr rfl) e1 rfl dX10_spells_50
      · rw [if_neg c1] at hsp
        refine lv_aload_n hx hb dX10_spells_24 rfl (lv_at hl 0 rfl) ?_
        refine lv_iload_n hx hb dX10_spells_25 rfl (lv_at hl 2 rfl) ?_
        refine lv_iload hx hb dX10_spells_26 (lv_at hl 3 rfl) ?_
        refine lv_iadd hx hb dX10_spells_28 ?_
        obtain ⟨r2, E3, hsp⟩ := fr_b1 hsp
        refine fq_callV (rest := []) (st1 := [.int r2]) C hR (k_X10_byteAt C.2.2 ha E3) Y_X10_byteAt YV_X10_byteAt Lk_RX10_52 ha ⟨_, _, rfl, by decide⟩ rfl hl.1 ⟨Nat.le_of_ble_eq_true rfl, Nat.le_of_ble_eq_true rfl⟩ rfl (Nat.le_of_ble_eq_true rfl) ⟨Nat.zero_le _, Nat.zero_le _⟩ rfl dX10_spells_29 (fun H locs hR => ?_)
        refine lv_aload_n hx hb dX10_spells_32 rfl (lv_at hl 1 rfl) ?_
        refine lv_iload hx hb dX10_spells_33 (lv_at hl 3 rfl) ?_
        obtain ⟨hi4, hsp⟩ := fr_ck hsp
        refine fz_cV (rest := [.int r2]) (st1 := [.int (fs_c x1 (Int32.toNatClampNeg y4)), .int r2]) C EX hR (ks_ch C.2.2 hw_x1 hi4) Y_J0_charAt_5068e YV_J0_charAt_5068e Lk_RX10_107 (fs_rv EX hR.2 hw_x1) rfl hl.1 ⟨Nat.le_of_ble_eq_true rfl, Nat.le_of_ble_eq_true rfl⟩ rfl (Nat.le_of_ble_eq_true rfl) ⟨Nat.le_of_ble_eq_true rfl, Nat.le_of_ble_eq_true rfl⟩ rfl dX10_spells_35 (fun H locs hR => ?_)
        refine lv_icmp_eq (tgt := 43) hx hb dX10_spells_38 (by decide) (fun c5 => ?_) (fun c5 => ?_)
        · rw [if_pos c5] at hsp
          obtain ⟨v6, ev6⟩ : ∃ z : Int32, z = y4 + 1 := ⟨_, rfl⟩
          have hsp := fr_let ev6 hsp
          refine lv_iinc (v := v6) (lv' := [(4, .int v6), (0, .ref (g.2.2 a)), (1, .ref (z.1 x1)), (2, .int y2)]) hx hb dX10_spells_43 hl (k := 3) rfl (by rw [ev6]; rfl) (by decide) rfl (fun ls hl => ?_)
          refine lv_goto (tgt := 15) hx hb dX10_spells_46 (by decide) ?_
          exact ih y2 v6 _ _ _ hsp hR (lv_sub hl [1, 2, 3, 0] rfl)
        · rw [if_neg c5] at hsp
          refine lv_iconst (v := 0) hx hb dX10_spells_41 (by decide) ?_
          have e1 := fr_s1 hsp
          exact fr_zret C hr hlocks hR (Or.inl rfl) e1 rfl dX10_spells_42
  refine lv_iload_n hx hb dX10_spells_0 rfl (lv_at hl 3 rfl) ?_
  refine lv_iload_n hx hb dX10_spells_1 rfl (lv_at hl 2 rfl) ?_
  refine lv_isub hx hb dX10_spells_2 ?_
  refine lv_aload_n hx hb dX10_spells_3 rfl (lv_at hl 1 rfl) ?_
  refine fz_cV (rest := [.int (x3 - x2)]) (st1 := [.int (Int32.ofNat (fs_n x1)), .int (x3 - x2)]) C EX hR (ks_len C.2.2 hw_x1) Y_J0_length_8abf5 YV_J0_length_8abf5 Lk_RX10_101 (fs_rv EX hR.2 hw_x1) rfl hl.1 ⟨Nat.le_of_ble_eq_true rfl, Nat.le_of_ble_eq_true rfl⟩ rfl (Nat.le_of_ble_eq_true rfl) ⟨Nat.le_of_ble_eq_true rfl, Nat.le_of_ble_eq_true rfl⟩ rfl dX10_spells_4 (fun H locs hR => ?_)
  refine lv_icmp_eq (tgt := 12) hx hb dX10_spells_7 (by decide) (fun c1 => ?_) (fun c1 => ?_)
  · rw [if_pos c1] at hsp
    refine lv_iconst (v := 0) hx hb dX10_spells_12 (by decide) ?_
    refine lv_istore (lv' := [(4, .int (0 : Int32)), (0, .ref (g.2.2 a)), (1, .ref (z.1 x1)), (2, .int x2), (3, .int x3)]) hx hb dX10_spells_13 hl (by decide) rfl (fun ls hl => ?_)
    exact hb_15 20000 x2 (0 : Int32) _ _ _ hsp hR (lv_sub hl [1, 2, 3, 0] rfl)
  · rw [if_neg c1] at hsp
    refine lv_iconst (v := 0) hx hb dX10_spells_10 (by decide) ?_
    have e1 := fr_s1 hsp
    exact fr_zret C hr hlocks hR (Or.inl rfl) e1 rfl dX10_spells_11

/-! TermRows$Tape.wordCode(II)I -/
def z_X10_wordCode (S : fh_S) (h : fh_H) (a : Nat) (x1 : Int32) (x2 : Int32) : Option Int32 :=
    fh_b1 (z_X10_spells S h a 0 x1 x2) (fun r1 => if r1 = 0 then (fh_b1 (z_X10_spells S h a 1 x1 x2) (fun r4 => if r4 = 0 then (fh_b1 (z_X10_spells S h a 2 x1 x2) (fun r7 => if r7 = 0 then (fh_b1 (z_X10_spells S h a 3 x1 x2) (fun r10 => if r10 = 0 then (fh_b1 (z_X10_spells S h a 4 x1 x2) (fun r13 => if r13 = 0 then (fh_b1 (z_X10_spells S h a 5 x1 x2) (fun r16 => if r16 = 0 then (fh_b1 (z_X10_spells S h a 6 x1 x2) (fun r19 => if r19 = 0 then (fh_b1 (z_X10_spells S h a 7 x1 x2) (fun r22 => if r22 = 0 then (fh_b1 (z_X10_spells S h a 8 x1 x2) (fun r25 => if r25 = 0 then (fh_b1 (z_X10_spells S h a 9 x1 x2) (fun r28 => if r28 = 0 then (some (268 : Int32)) else (some (267 : Int32)))) else (some (266 : Int32)))) else (some (265 : Int32)))) else (some (264 : Int32)))) else (some (263 : Int32)))) else (some (262 : Int32)))) else (some (261 : Int32)))) else (some (260 : Int32)))) else (some (259 : Int32)))) else (some (258 : Int32)))
set_option maxHeartbeats 4000000 in
set_option maxRecDepth 100000 in
theorem k_X10_wordCode {l : Launch} {S : fh_S} {g : fh_G} {h : fh_H} {z : (Nat → Nat) × (Nat → Nat)} (hj : fh_inj S g) {a : Nat} {x1 : Int32} {x2 : Int32} {r : Int32} (ha : fh_kq S a 10 = true) (hsp : z_X10_wordCode S h a x1 x2 = some r) : fx_M l yX10_wordCode cX10_wordCode 3 (some .int) (fh_rm 6) S g z [.ref (g.2.2 a), .int x1, .int x2] h (some (.int r)) h := by
  unfold z_X10_wordCode at hsp
  refine fz_head (own := RX10) (by decide) rfl hj (Nat.le_of_ble_eq_true rfl) ?_
  intro p e s m below meth c ls C EX hr hlocks hR hl
  have hl : lv_has ls 3 [(0, .ref (g.2.2 a)), (1, .int x1), (2, .int x2)] := hl
  have hx := C.1.1
  have hb := C.1.2.1
  refine lv_aload_n hx hb dX10_wordCode_0 rfl (lv_at hl 0 rfl) ?_
  refine va_ldcS hx hb C.1.2.2.2.1 (vs_RX10_77 EX) dX10_wordCode_1 ?_
  refine lv_iload_n hx hb dX10_wordCode_3 rfl (lv_at hl 1 rfl) ?_
  refine lv_iload_n hx hb dX10_wordCode_4 rfl (lv_at hl 2 rfl) ?_
  obtain ⟨r1, E2, hsp⟩ := fr_b1 hsp
  refine fz_cV (rest := []) (st1 := [.int r1]) C EX hR (k_X10_spells C.2.2 ha (by decide) E2) Y_X10_spells YV_X10_spells Lk_RX10_79 (fz_rv C hR ha ⟨_, _, rfl, by decide⟩) rfl hl.1 ⟨Nat.le_of_ble_eq_true rfl, Nat.le_of_ble_eq_true rfl⟩ rfl (Nat.le_of_ble_eq_true rfl) ⟨Nat.le_of_ble_eq_true rfl, Nat.le_of_ble_eq_true rfl⟩ rfl dX10_wordCode_5 (fun H locs hR => ?_)
  refine lv_if_eq (tgt := 15) hx hb dX10_wordCode_8 (by decide) (fun c3 => ?_) (fun c3 => ?_)
  · rw [if_pos c3] at hsp
    refine lv_aload_n hx hb dX10_wordCode_15 rfl (lv_at hl 0 rfl) ?_
    refine va_ldcS hx hb C.1.2.2.2.1 (vs_RX10_83 EX) dX10_wordCode_16 ?_
    refine lv_iload_n hx hb dX10_wordCode_18 rfl (lv_at hl 1 rfl) ?_
    refine lv_iload_n hx hb dX10_wordCode_19 rfl (lv_at hl 2 rfl) ?_
    obtain ⟨r4, E5, hsp⟩ := fr_b1 hsp
    refine fz_cV (rest := []) (st1 := [.int r4]) C EX hR (k_X10_spells C.2.2 ha (by decide) E5) Y_X10_spells YV_X10_spells Lk_RX10_79 (fz_rv C hR ha ⟨_, _, rfl, by decide⟩) rfl hl.1 ⟨Nat.le_of_ble_eq_true rfl, Nat.le_of_ble_eq_true rfl⟩ rfl (Nat.le_of_ble_eq_true rfl) ⟨Nat.le_of_ble_eq_true rfl, Nat.le_of_ble_eq_true rfl⟩ rfl dX10_wordCode_20 (fun H locs hR => ?_)
    refine lv_if_eq (tgt := 30) hx hb dX10_wordCode_23 (by decide) (fun c6 => ?_) (fun c6 => ?_)
    · rw [if_pos c6] at hsp
      refine lv_aload_n hx hb dX10_wordCode_30 rfl (lv_at hl 0 rfl) ?_
      refine va_ldcS hx hb C.1.2.2.2.1 (vs_RX10_85 EX) dX10_wordCode_31 ?_
      refine lv_iload_n hx hb dX10_wordCode_33 rfl (lv_at hl 1 rfl) ?_
      refine lv_iload_n hx hb dX10_wordCode_34 rfl (lv_at hl 2 rfl) ?_
      obtain ⟨r7, E8, hsp⟩ := fr_b1 hsp
      refine fz_cV (rest := []) (st1 := [.int r7]) C EX hR (k_X10_spells C.2.2 ha (by decide) E8) Y_X10_spells YV_X10_spells Lk_RX10_79 (fz_rv C hR ha ⟨_, _, rfl, by decide⟩) rfl hl.1 ⟨Nat.le_of_ble_eq_true rfl, Nat.le_of_ble_eq_true rfl⟩ rfl (Nat.le_of_ble_eq_true rfl) ⟨Nat.le_of_ble_eq_true rfl, Nat.le_of_ble_eq_true rfl⟩ rfl dX10_wordCode_35 (fun H locs hR => ?_)
      refine lv_if_eq (tgt := 45) hx hb dX10_wordCode_38 (by decide) (fun c9 => ?_) (fun c9 => ?_)
      · rw [if_pos c9] at hsp
        refine lv_aload_n hx hb dX10_wordCode_45 rfl (lv_at hl 0 rfl) ?_
        refine va_ldcS hx hb C.1.2.2.2.1 (vs_RX10_87 EX) dX10_wordCode_46 ?_
        refine lv_iload_n hx hb dX10_wordCode_48 rfl (lv_at hl 1 rfl) ?_
        refine lv_iload_n hx hb dX10_wordCode_49 rfl (lv_at hl 2 rfl) ?_
        obtain ⟨r10, E11, hsp⟩ := fr_b1 hsp
        refine fz_cV (rest := []) (st1 := [.int r10]) C EX hR (k_X10_spells C.2.2 ha (by decide) E11) Y_X10_spells YV_X10_spells Lk_RX10_79 (fz_rv C hR ha ⟨_, _, rfl, by decide⟩) rfl hl.1 ⟨Nat.le_of_ble_eq_true rfl, Nat.le_of_ble_eq_true rfl⟩ rfl (Nat.le_of_ble_eq_true rfl) ⟨Nat.le_of_ble_eq_true rfl, Nat.le_of_ble_eq_true rfl⟩ rfl dX10_wordCode_50 (fun H locs hR => ?_)
        refine lv_if_eq (tgt := 60) hx hb dX10_wordCode_53 (by decide) (fun c12 => ?_) (fun c12 => ?_)
        · rw [if_pos c12] at hsp
          refine lv_aload_n hx hb dX10_wordCode_60 rfl (lv_at hl 0 rfl) ?_
          refine va_ldcS hx hb C.1.2.2.2.1 (vs_RX10_89 EX) dX10_wordCode_61 ?_
          refine lv_iload_n hx hb dX10_wordCode_63 rfl (lv_at hl 1 rfl) ?_
          refine lv_iload_n hx hb dX10_wordCode_64 rfl (lv_at hl 2 rfl) ?_
          obtain ⟨r13, E14, hsp⟩ := fr_b1 hsp
          refine fz_cV (rest := []) (st1 := [.int r13]) C EX hR (k_X10_spells C.2.2 ha (by decide) E14) Y_X10_spells YV_X10_spells Lk_RX10_79 (fz_rv C hR ha ⟨_, _, rfl, by decide⟩) rfl hl.1 ⟨Nat.le_of_ble_eq_true rfl, Nat.le_of_ble_eq_true rfl⟩ rfl (Nat.le_of_ble_eq_true rfl) ⟨Nat.le_of_ble_eq_true rfl, Nat.le_of_ble_eq_true rfl⟩ rfl dX10_wordCode_65 (fun H locs hR => ?_)
          refine lv_if_eq (tgt := 75) hx hb dX10_wordCode_68 (by decide) (fun c15 => ?_) (fun c15 => ?_)
          · rw [if_pos c15] at hsp
            refine lv_aload_n hx hb dX10_wordCode_75 rfl (lv_at hl 0 rfl) ?_
            refine va_ldcS hx hb C.1.2.2.2.1 (vs_RX10_91 EX) dX10_wordCode_76 ?_
            refine lv_iload_n hx hb dX10_wordCode_78 rfl (lv_at hl 1 rfl) ?_
            refine lv_iload_n hx hb dX10_wordCode_79 rfl (lv_at hl 2 rfl) ?_
            obtain ⟨r16, E17, hsp⟩ := fr_b1 hsp
            refine fz_cV (rest := []) (st1 := [.int r16]) C EX hR (k_X10_spells C.2.2 ha (by decide) E17) Y_X10_spells YV_X10_spells Lk_RX10_79 (fz_rv C hR ha ⟨_, _, rfl, by decide⟩) rfl hl.1 ⟨Nat.le_of_ble_eq_true rfl, Nat.le_of_ble_eq_true rfl⟩ rfl (Nat.le_of_ble_eq_true rfl) ⟨Nat.le_of_ble_eq_true rfl, Nat.le_of_ble_eq_true rfl⟩ rfl dX10_wordCode_80 (fun H locs hR => ?_)
            refine lv_if_eq (tgt := 90) hx hb dX10_wordCode_83 (by decide) (fun c18 => ?_) (fun c18 => ?_)
            · rw [if_pos c18] at hsp
              refine lv_aload_n hx hb dX10_wordCode_90 rfl (lv_at hl 0 rfl) ?_
              refine va_ldcS hx hb C.1.2.2.2.1 (vs_RX10_93 EX) dX10_wordCode_91 ?_
              refine lv_iload_n hx hb dX10_wordCode_93 rfl (lv_at hl 1 rfl) ?_
              refine lv_iload_n hx hb dX10_wordCode_94 rfl (lv_at hl 2 rfl) ?_
              obtain ⟨r19, E20, hsp⟩ := fr_b1 hsp
              refine fz_cV (rest := []) (st1 := [.int r19]) C EX hR (k_X10_spells C.2.2 ha (by decide) E20) Y_X10_spells YV_X10_spells Lk_RX10_79 (fz_rv C hR ha ⟨_, _, rfl, by decide⟩) rfl hl.1 ⟨Nat.le_of_ble_eq_true rfl, Nat.le_of_ble_eq_true rfl⟩ rfl (Nat.le_of_ble_eq_true rfl) ⟨Nat.le_of_ble_eq_true rfl, Nat.le_of_ble_eq_true rfl⟩ rfl dX10_wordCode_95 (fun H locs hR => ?_)
              refine lv_if_eq (tgt := 105) hx hb dX10_wordCode_98 (by decide) (fun c21 => ?_) (fun c21 => ?_)
              · rw [if_pos c21] at hsp
                refine lv_aload_n hx hb dX10_wordCode_105 rfl (lv_at hl 0 rfl) ?_
                refine va_ldcS hx hb C.1.2.2.2.1 (vs_RX10_95 EX) dX10_wordCode_106 ?_
                refine lv_iload_n hx hb dX10_wordCode_108 rfl (lv_at hl 1 rfl) ?_
                refine lv_iload_n hx hb dX10_wordCode_109 rfl (lv_at hl 2 rfl) ?_
                obtain ⟨r22, E23, hsp⟩ := fr_b1 hsp
                refine fz_cV (rest := []) (st1 := [.int r22]) C EX hR (k_X10_spells C.2.2 ha (by decide) E23) Y_X10_spells YV_X10_spells Lk_RX10_79 (fz_rv C hR ha ⟨_, _, rfl, by decide⟩) rfl hl.1 ⟨Nat.le_of_ble_eq_true rfl, Nat.le_of_ble_eq_true rfl⟩ rfl (Nat.le_of_ble_eq_true rfl) ⟨Nat.le_of_ble_eq_true rfl, Nat.le_of_ble_eq_true rfl⟩ rfl dX10_wordCode_110 (fun H locs hR => ?_)
                refine lv_if_eq (tgt := 120) hx hb dX10_wordCode_113 (by decide) (fun c24 => ?_) (fun c24 => ?_)
                · rw [if_pos c24] at hsp
                  refine lv_aload_n hx hb dX10_wordCode_120 rfl (lv_at hl 0 rfl) ?_
                  refine va_ldcS hx hb C.1.2.2.2.1 (vs_RX10_97 EX) dX10_wordCode_121 ?_
                  refine lv_iload_n hx hb dX10_wordCode_123 rfl (lv_at hl 1 rfl) ?_
                  refine lv_iload_n hx hb dX10_wordCode_124 rfl (lv_at hl 2 rfl) ?_
                  obtain ⟨r25, E26, hsp⟩ := fr_b1 hsp
                  refine fz_cV (rest := []) (st1 := [.int r25]) C EX hR (k_X10_spells C.2.2 ha (by decide) E26) Y_X10_spells YV_X10_spells Lk_RX10_79 (fz_rv C hR ha ⟨_, _, rfl, by decide⟩) rfl hl.1 ⟨Nat.le_of_ble_eq_true rfl, Nat.le_of_ble_eq_true rfl⟩ rfl (Nat.le_of_ble_eq_true rfl) ⟨Nat.le_of_ble_eq_true rfl, Nat.le_of_ble_eq_true rfl⟩ rfl dX10_wordCode_125 (fun H locs hR => ?_)
                  refine lv_if_eq (tgt := 135) hx hb dX10_wordCode_128 (by decide) (fun c27 => ?_) (fun c27 => ?_)
                  · rw [if_pos c27] at hsp
                    refine lv_aload_n hx hb dX10_wordCode_135 rfl (lv_at hl 0 rfl) ?_
                    refine va_ldcS hx hb C.1.2.2.2.1 (vs_RX10_99 EX) dX10_wordCode_136 ?_
                    refine lv_iload_n hx hb dX10_wordCode_138 rfl (lv_at hl 1 rfl) ?_
                    refine lv_iload_n hx hb dX10_wordCode_139 rfl (lv_at hl 2 rfl) ?_
                    obtain ⟨r28, E29, hsp⟩ := fr_b1 hsp
                    refine fz_cV (rest := []) (st1 := [.int r28]) C EX hR (k_X10_spells C.2.2 ha (by decide) E29) Y_X10_spells YV_X10_spells Lk_RX10_79 (fz_rv C hR ha ⟨_, _, rfl, by decide⟩) rfl hl.1 ⟨Nat.le_of_ble_eq_true rfl, Nat.le_of_ble_eq_true rfl⟩ rfl (Nat.le_of_ble_eq_true rfl) ⟨Nat.le_of_ble_eq_true rfl, Nat.le_of_ble_eq_true rfl⟩ rfl dX10_wordCode_140 (fun H locs hR => ?_)
                    refine lv_if_eq (tgt := 150) hx hb dX10_wordCode_143 (by decide) (fun c30 => ?_) (fun c30 => ?_)
                    · rw [if_pos c30] at hsp
                      refine lv_sipush (v := 268) hx hb dX10_wordCode_150 (by decide) ?_
                      have e1 := fr_s1 hsp
                      exact fr_iret C hr hlocks hR e1 rfl dX10_wordCode_153
                    · rw [if_neg c30] at hsp
                      refine lv_sipush (v := 267) hx hb dX10_wordCode_146 (by decide) ?_
                      have e1 := fr_s1 hsp
                      exact fr_iret C hr hlocks hR e1 rfl dX10_wordCode_149
                  · rw [if_neg c27] at hsp
                    refine lv_sipush (v := 266) hx hb dX10_wordCode_131 (by decide) ?_
                    have e1 := fr_s1 hsp
                    exact fr_iret C hr hlocks hR e1 rfl dX10_wordCode_134
                · rw [if_neg c24] at hsp
                  refine lv_sipush (v := 265) hx hb dX10_wordCode_116 (by decide) ?_
                  have e1 := fr_s1 hsp
                  exact fr_iret C hr hlocks hR e1 rfl dX10_wordCode_119
              · rw [if_neg c21] at hsp
                refine lv_sipush (v := 264) hx hb dX10_wordCode_101 (by decide) ?_
                have e1 := fr_s1 hsp
                exact fr_iret C hr hlocks hR e1 rfl dX10_wordCode_104
            · rw [if_neg c18] at hsp
              refine lv_sipush (v := 263) hx hb dX10_wordCode_86 (by decide) ?_
              have e1 := fr_s1 hsp
              exact fr_iret C hr hlocks hR e1 rfl dX10_wordCode_89
          · rw [if_neg c15] at hsp
            refine lv_sipush (v := 262) hx hb dX10_wordCode_71 (by decide) ?_
            have e1 := fr_s1 hsp
            exact fr_iret C hr hlocks hR e1 rfl dX10_wordCode_74
        · rw [if_neg c12] at hsp
          refine lv_sipush (v := 261) hx hb dX10_wordCode_56 (by decide) ?_
          have e1 := fr_s1 hsp
          exact fr_iret C hr hlocks hR e1 rfl dX10_wordCode_59
      · rw [if_neg c9] at hsp
        refine lv_sipush (v := 260) hx hb dX10_wordCode_41 (by decide) ?_
        have e1 := fr_s1 hsp
        exact fr_iret C hr hlocks hR e1 rfl dX10_wordCode_44
    · rw [if_neg c6] at hsp
      refine lv_sipush (v := 259) hx hb dX10_wordCode_26 (by decide) ?_
      have e1 := fr_s1 hsp
      exact fr_iret C hr hlocks hR e1 rfl dX10_wordCode_29
  · rw [if_neg c3] at hsp
    refine lv_sipush (v := 258) hx hb dX10_wordCode_11 (by decide) ?_
    have e1 := fr_s1 hsp
    exact fr_iret C hr hlocks hR e1 rfl dX10_wordCode_14

/-! TermRows$Tape.scanWord(II)I -/
def z_X10_scanWord_b26 (S : fh_S) (a : Nat) (h : fh_H) (y1 : Int32) (y3 : Int32) : Option (Int32 × fh_H) :=
    fh_b1 (z_X10_wordCode S h a y1 y3) (fun r1 => fh_b1 (z_X10_addToken S h a r1 (0 : Int32) y1) (fun h3 => some (y3, h3)))
def z_X10_scanWord_b4 (S : fh_S) (a : Nat) : Nat → fh_H → Int32 → Int32 → Int32 → Option (Int32 × fh_H)
  | 0, _, _, _, _ => none
  | n + 1, h, y1, y2, y3 =>
    if y2 ≤ y3 then (z_X10_scanWord_b26 S a h y1 y3) else (fh_b1 (z_X10_byteAt S h a y3) (fun r2 => fh_b1 (z_X10_isLetter r2) (fun r4 => if r4 = 0 then (z_X10_scanWord_b26 S a h y1 y3) else (fh_let (y3 + 1) (fun v7 => z_X10_scanWord_b4 S a n h y1 y2 v7)))))
def z_X10_scanWord (S : fh_S) (h : fh_H) (a : Nat) (x1 : Int32) (x2 : Int32) : Option (Int32 × fh_H) :=
    fh_let ((x1 + (1 : Int32))) (fun v1 => z_X10_scanWord_b4 S a 20000 h x1 x2 v1)
set_option maxHeartbeats 4000000 in
set_option maxRecDepth 100000 in
theorem k_X10_scanWord {l : Launch} {S : fh_S} {g : fh_G} {h h' : fh_H} {z : (Nat → Nat) × (Nat → Nat)} (hj : fh_inj S g) {a : Nat} {x1 : Int32} {x2 : Int32} {r : Int32} (ha : fh_kq S a 10 = true) (hsp : z_X10_scanWord S h a x1 x2 = some (r, h')) : fx_M l yX10_scanWord cX10_scanWord 4 (some .int) (fh_rm 7) S g z [.ref (g.2.2 a), .int x1, .int x2] h (some (.int r)) h' := by
  unfold z_X10_scanWord at hsp
  refine fz_head (own := RX10) (by decide) rfl hj (Nat.le_of_ble_eq_true rfl) ?_
  intro p e s m below meth c ls C EX hr hlocks hR hl
  have hl : lv_has ls 4 [(0, .ref (g.2.2 a)), (1, .int x1), (2, .int x2)] := hl
  have hx := C.1.1
  have hb := C.1.2.1
  have hb_26 : ∀ (h : fh_H) (y1 : Int32) (y3 : Int32) (H : Heap) (locs : List Loc) (ls : Array Slot), z_X10_scanWord_b26 S a h y1 y3 = some (r, h') → fh_R S g s.heap h H locs → lv_has ls 4 [(0, .ref (g.2.2 a)), (1, .int y1), (3, .int y3)] → fh_Wk p l e 7 s m [.ref (g.2.2 a), .int x1, .int x2] below meth c S g (some (.int r)) h' H locs (F0 m 26 ls []) := by
    intro h y1 y3 H locs ls hsp hR hl
    unfold z_X10_scanWord_b26 at hsp
    refine lv_aload_n hx hb dX10_scanWord_26 rfl (lv_at hl 0 rfl) ?_
    refine lv_aload_n hx hb dX10_scanWord_27 rfl (lv_at hl 0 rfl) ?_
    refine lv_iload_n hx hb dX10_scanWord_28 rfl (lv_at hl 1 rfl) ?_
    refine lv_iload_n hx hb dX10_scanWord_29 rfl (lv_at hl 2 rfl) ?_
    obtain ⟨r1, E2, hsp⟩ := fr_b1 hsp
    refine fz_cV (rest := [.ref (g.2.2 a)]) (st1 := [.int r1, .ref (g.2.2 a)]) C EX hR (k_X10_wordCode C.2.2 ha E2) Y_X10_wordCode YV_X10_wordCode Lk_RX10_74 (fz_rv C hR ha ⟨_, _, rfl, by decide⟩) rfl hl.1 ⟨Nat.le_of_ble_eq_true rfl, Nat.le_of_ble_eq_true rfl⟩ rfl (Nat.le_of_ble_eq_true rfl) ⟨Nat.le_of_ble_eq_true rfl, Nat.le_of_ble_eq_true rfl⟩ rfl dX10_scanWord_30 (fun H locs hR => ?_)
    refine lv_iconst (v := 0) hx hb dX10_scanWord_33 (by decide) ?_
    refine lv_iload_n hx hb dX10_scanWord_34 rfl (lv_at hl 1 rfl) ?_
    obtain ⟨h3, E4, hsp⟩ := fr_b1 hsp
    refine fq_callV (rest := []) (st1 := []) C hR (k_X10_addToken C.2.2 ha E4) Y_X10_addToken YV_X10_addToken Lk_RX10_48 ha ⟨_, _, rfl, by decide⟩ rfl hl.1 ⟨Nat.le_of_ble_eq_true rfl, Nat.le_of_ble_eq_true rfl⟩ rfl (Nat.le_of_ble_eq_true rfl) ⟨Nat.zero_le _, Nat.zero_le _⟩ rfl dX10_scanWord_35 (fun H locs hR => ?_)
    refine lv_iload_n hx hb dX10_scanWord_38 rfl (lv_at hl 2 rfl) ?_
    obtain ⟨e1, e2⟩ := fr_s2 hsp
    exact fr_iret C hr hlocks hR e1 e2 dX10_scanWord_39
  have hb_4 : ∀ (n : Nat) (h : fh_H) (y1 : Int32) (y2 : Int32) (y3 : Int32) (H : Heap) (locs : List Loc) (ls : Array Slot), z_X10_scanWord_b4 S a n h y1 y2 y3 = some (r, h') → fh_R S g s.heap h H locs → lv_has ls 4 [(0, .ref (g.2.2 a)), (1, .int y1), (2, .int y2), (3, .int y3)] → fh_Wk p l e 7 s m [.ref (g.2.2 a), .int x1, .int x2] below meth c S g (some (.int r)) h' H locs (F0 m 4 ls []) := by
    intro n
    induction n with
    | zero => intro h y1 y2 y3 H locs ls hsp; cases hsp
    | succ n ih =>
      intro h y1 y2 y3 H locs ls hsp hR hl
      rw [z_X10_scanWord_b4] at hsp
      refine lv_iload_n hx hb dX10_scanWord_4 rfl (lv_at hl 3 rfl) ?_
      refine lv_iload_n hx hb dX10_scanWord_5 rfl (lv_at hl 2 rfl) ?_
      refine lv_icmp_ge (tgt := 26) hx hb dX10_scanWord_6 (by decide) (fun c1 => ?_) (fun c1 => ?_)
      · rw [if_pos c1] at hsp
        exact hb_26 h y1 y3 _ _ _ hsp hR (lv_sub hl [0, 1, 3] rfl)
      · rw [if_neg c1] at hsp
        refine lv_aload_n hx hb dX10_scanWord_9 rfl (lv_at hl 0 rfl) ?_
        refine lv_iload_n hx hb dX10_scanWord_10 rfl (lv_at hl 3 rfl) ?_
        obtain ⟨r2, E3, hsp⟩ := fr_b1 hsp
        refine fq_callV (rest := []) (st1 := [.int r2]) C hR (k_X10_byteAt C.2.2 ha E3) Y_X10_byteAt YV_X10_byteAt Lk_RX10_52 ha ⟨_, _, rfl, by decide⟩ rfl hl.1 ⟨Nat.le_of_ble_eq_true rfl, Nat.le_of_ble_eq_true rfl⟩ rfl (Nat.le_of_ble_eq_true rfl) ⟨Nat.zero_le _, Nat.zero_le _⟩ rfl dX10_scanWord_11 (fun H locs hR => ?_)
        obtain ⟨r4, E5, hsp⟩ := fr_b1 hsp
        refine fq_callS (rest := []) (st1 := [.int r4]) C hR (k_X10_isLetter C.2.2 E5) Y_X10_isLetter YS_X10_isLetter Lk_RX10_63 rfl hl.1 ⟨Nat.le_of_ble_eq_true rfl, Nat.le_of_ble_eq_true rfl⟩ rfl (Nat.le_of_ble_eq_true rfl) ⟨Nat.zero_le _, Nat.zero_le _⟩ rfl dX10_scanWord_14 (fun H locs hR => ?_)
        refine lv_if_eq (tgt := 26) hx hb dX10_scanWord_17 (by decide) (fun c6 => ?_) (fun c6 => ?_)
        · rw [if_pos c6] at hsp
          exact hb_26 h y1 y3 _ _ _ hsp hR (lv_sub hl [0, 1, 3] rfl)
        · rw [if_neg c6] at hsp
          obtain ⟨v7, ev7⟩ : ∃ z : Int32, z = y3 + 1 := ⟨_, rfl⟩
          have hsp := fr_let ev7 hsp
          refine lv_iinc (v := v7) (lv' := [(3, .int v7), (0, .ref (g.2.2 a)), (1, .int y1), (2, .int y2)]) hx hb dX10_scanWord_20 hl (k := 3) rfl (by rw [ev7]; rfl) (by decide) rfl (fun ls hl => ?_)
          refine lv_goto (tgt := 4) hx hb dX10_scanWord_23 (by decide) ?_
          exact ih h y1 y2 v7 _ _ _ hsp hR (lv_sub hl [1, 2, 3, 0] rfl)
  refine lv_iload_n hx hb dX10_scanWord_0 rfl (lv_at hl 1 rfl) ?_
  refine lv_iconst (v := 1) hx hb dX10_scanWord_1 (by decide) ?_
  refine lv_iadd hx hb dX10_scanWord_2 ?_
  refine lv_topi (fun v1 ev1 => ?_)
  have hsp := fr_let ev1 hsp
  refine lv_istore_n (lv' := [(3, .int v1), (0, .ref (g.2.2 a)), (1, .int x1), (2, .int x2)]) hx hb dX10_scanWord_3 rfl hl (by decide) rfl (fun ls hl => ?_)
  exact hb_4 20000 h x1 x2 v1 _ _ _ hsp hR (lv_sub hl [1, 2, 3, 0] rfl)

/-! TermRows$Tape.scanNext(II)I -/
def z_X10_scanNext (S : fh_S) (h : fh_H) (a : Nat) (x1 : Int32) (x2 : Int32) : Option (Int32 × fh_H) :=
    fh_b1 (z_X10_byteAt S h a x1) (fun r1 => fh_b1 (z_X10_isFigure r1) (fun r3 => if r3 = 0 then (fh_b1 (z_X10_isLetter r1) (fun r6 => if r6 = 0 then (if r1 = (32 : Int32) then (some ((x1 + (1 : Int32)), h)) else (if r1 = (10 : Int32) then (some ((x1 + (1 : Int32)), h)) else (fh_b1 (z_X10_addToken S h a r1 (0 : Int32) x1) (fun h11 => some ((x1 + (1 : Int32)), h11))))) else (fh_b2 (z_X10_scanWord S h a x1 x2) (fun r13 h14 => some (r13, h14))))) else (fh_b2 (z_X10_scanFigures S h a x1 x2) (fun r16 h17 => some (r16, h17)))))
set_option maxHeartbeats 4000000 in
set_option maxRecDepth 100000 in
theorem k_X10_scanNext {l : Launch} {S : fh_S} {g : fh_G} {h h' : fh_H} {z : (Nat → Nat) × (Nat → Nat)} (hj : fh_inj S g) {a : Nat} {x1 : Int32} {x2 : Int32} {r : Int32} (ha : fh_kq S a 10 = true) (hsp : z_X10_scanNext S h a x1 x2 = some (r, h')) : fx_M l yX10_scanNext cX10_scanNext 4 (some .int) (fh_rm 8) S g z [.ref (g.2.2 a), .int x1, .int x2] h (some (.int r)) h' := by
  unfold z_X10_scanNext at hsp
  refine fz_head (own := RX10) (by decide) rfl hj (Nat.le_of_ble_eq_true rfl) ?_
  intro p e s m below meth c ls C EX hr hlocks hR hl
  have hl : lv_has ls 4 [(0, .ref (g.2.2 a)), (1, .int x1), (2, .int x2)] := hl
  have hx := C.1.1
  have hb := C.1.2.1
  refine lv_aload_n hx hb dX10_scanNext_0 rfl (lv_at hl 0 rfl) ?_
  refine lv_iload_n hx hb dX10_scanNext_1 rfl (lv_at hl 1 rfl) ?_
  obtain ⟨r1, E2, hsp⟩ := fr_b1 hsp
  refine fq_callV (rest := []) (st1 := [.int r1]) C hR (k_X10_byteAt C.2.2 ha E2) Y_X10_byteAt YV_X10_byteAt Lk_RX10_52 ha ⟨_, _, rfl, by decide⟩ rfl hl.1 ⟨Nat.le_of_ble_eq_true rfl, Nat.le_of_ble_eq_true rfl⟩ rfl (Nat.le_of_ble_eq_true rfl) ⟨Nat.zero_le _, Nat.zero_le _⟩ rfl dX10_scanNext_2 (fun H locs hR => ?_)
  refine lv_istore_n (lv' := [(3, .int r1), (0, .ref (g.2.2 a)), (1, .int x1), (2, .int x2)]) hx hb dX10_scanNext_5 rfl hl (by decide) rfl (fun ls hl => ?_)
  refine lv_iload_n hx hb dX10_scanNext_6 rfl (lv_at hl 0 rfl) ?_
  obtain ⟨r3, E4, hsp⟩ := fr_b1 hsp
  refine fq_callS (rest := []) (st1 := [.int r3]) C hR (k_X10_isFigure C.2.2 E4) Y_X10_isFigure YS_X10_isFigure Lk_RX10_56 rfl hl.1 ⟨Nat.le_of_ble_eq_true rfl, Nat.le_of_ble_eq_true rfl⟩ rfl (Nat.le_of_ble_eq_true rfl) ⟨Nat.zero_le _, Nat.zero_le _⟩ rfl dX10_scanNext_7 (fun H locs hR => ?_)
  refine lv_if_eq (tgt := 20) hx hb dX10_scanNext_10 (by decide) (fun c5 => ?_) (fun c5 => ?_)
  · rw [if_pos c5] at hsp
    refine lv_iload_n hx hb dX10_scanNext_20 rfl (lv_at hl 0 rfl) ?_
    obtain ⟨r6, E7, hsp⟩ := fr_b1 hsp
    refine fq_callS (rest := []) (st1 := [.int r6]) C hR (k_X10_isLetter C.2.2 E7) Y_X10_isLetter YS_X10_isLetter Lk_RX10_63 rfl hl.1 ⟨Nat.le_of_ble_eq_true rfl, Nat.le_of_ble_eq_true rfl⟩ rfl (Nat.le_of_ble_eq_true rfl) ⟨Nat.zero_le _, Nat.zero_le _⟩ rfl dX10_scanNext_21 (fun H locs hR => ?_)
    refine lv_if_eq (tgt := 34) hx hb dX10_scanNext_24 (by decide) (fun c8 => ?_) (fun c8 => ?_)
    · rw [if_pos c8] at hsp
      refine lv_iload_n hx hb dX10_scanNext_34 rfl (lv_at hl 0 rfl) ?_
      refine lv_bipush (v := 32) hx hb dX10_scanNext_35 (by decide) ?_
      refine lv_icmp_eq (tgt := 53) hx hb dX10_scanNext_37 (by decide) (fun c9 => ?_) (fun c9 => ?_)
      · rw [if_pos c9] at hsp
        refine lv_iload_n hx hb dX10_scanNext_53 rfl (lv_at hl 2 rfl) ?_
        refine lv_iconst (v := 1) hx hb dX10_scanNext_54 (by decide) ?_
        refine lv_iadd hx hb dX10_scanNext_55 ?_
        obtain ⟨e1, e2⟩ := fr_s2 hsp
        exact fr_iret C hr hlocks hR e1 e2 dX10_scanNext_56
      · rw [if_neg c9] at hsp
        refine lv_iload_n hx hb dX10_scanNext_40 rfl (lv_at hl 0 rfl) ?_
        refine lv_bipush (v := 10) hx hb dX10_scanNext_41 (by decide) ?_
        refine lv_icmp_eq (tgt := 53) hx hb dX10_scanNext_43 (by decide) (fun c10 => ?_) (fun c10 => ?_)
        · rw [if_pos c10] at hsp
          refine lv_iload_n hx hb dX10_scanNext_53 rfl (lv_at hl 2 rfl) ?_
          refine lv_iconst (v := 1) hx hb dX10_scanNext_54 (by decide) ?_
          refine lv_iadd hx hb dX10_scanNext_55 ?_
          obtain ⟨e1, e2⟩ := fr_s2 hsp
          exact fr_iret C hr hlocks hR e1 e2 dX10_scanNext_56
        · rw [if_neg c10] at hsp
          refine lv_aload_n hx hb dX10_scanNext_46 rfl (lv_at hl 1 rfl) ?_
          refine lv_iload_n hx hb dX10_scanNext_47 rfl (lv_at hl 0 rfl) ?_
          refine lv_iconst (v := 0) hx hb dX10_scanNext_48 (by decide) ?_
          refine lv_iload_n hx hb dX10_scanNext_49 rfl (lv_at hl 2 rfl) ?_
          obtain ⟨h11, E12, hsp⟩ := fr_b1 hsp
          refine fq_callV (rest := []) (st1 := []) C hR (k_X10_addToken C.2.2 ha E12) Y_X10_addToken YV_X10_addToken Lk_RX10_48 ha ⟨_, _, rfl, by decide⟩ rfl hl.1 ⟨Nat.le_of_ble_eq_true rfl, Nat.le_of_ble_eq_true rfl⟩ rfl (Nat.le_of_ble_eq_true rfl) ⟨Nat.zero_le _, Nat.zero_le _⟩ rfl dX10_scanNext_50 (fun H locs hR => ?_)
          refine lv_iload_n hx hb dX10_scanNext_53 rfl (lv_at hl 2 rfl) ?_
          refine lv_iconst (v := 1) hx hb dX10_scanNext_54 (by decide) ?_
          refine lv_iadd hx hb dX10_scanNext_55 ?_
          obtain ⟨e1, e2⟩ := fr_s2 hsp
          exact fr_iret C hr hlocks hR e1 e2 dX10_scanNext_56
    · rw [if_neg c8] at hsp
      refine lv_aload_n hx hb dX10_scanNext_27 rfl (lv_at hl 1 rfl) ?_
      refine lv_iload_n hx hb dX10_scanNext_28 rfl (lv_at hl 2 rfl) ?_
      refine lv_iload_n hx hb dX10_scanNext_29 rfl (lv_at hl 3 rfl) ?_
      obtain ⟨r13, h14, E15, hsp⟩ := fr_b2 hsp
      refine fz_cV (rest := []) (st1 := [.int r13]) C EX hR (k_X10_scanWord C.2.2 ha E15) Y_X10_scanWord YV_X10_scanWord Lk_RX10_66 (fz_rv C hR ha ⟨_, _, rfl, by decide⟩) rfl hl.1 ⟨Nat.le_of_ble_eq_true rfl, Nat.le_of_ble_eq_true rfl⟩ rfl (Nat.le_of_ble_eq_true rfl) ⟨Nat.le_of_ble_eq_true rfl, Nat.le_of_ble_eq_true rfl⟩ rfl dX10_scanNext_30 (fun H locs hR => ?_)
      obtain ⟨e1, e2⟩ := fr_s2 hsp
      exact fr_iret C hr hlocks hR e1 e2 dX10_scanNext_33
  · rw [if_neg c5] at hsp
    refine lv_aload_n hx hb dX10_scanNext_13 rfl (lv_at hl 1 rfl) ?_
    refine lv_iload_n hx hb dX10_scanNext_14 rfl (lv_at hl 2 rfl) ?_
    refine lv_iload_n hx hb dX10_scanNext_15 rfl (lv_at hl 3 rfl) ?_
    obtain ⟨r16, h17, E18, hsp⟩ := fr_b2 hsp
    refine fq_callV (rest := []) (st1 := [.int r16]) C hR (k_X10_scanFigures C.2.2 ha E18) Y_X10_scanFigures YV_X10_scanFigures Lk_RX10_60 ha ⟨_, _, rfl, by decide⟩ rfl hl.1 ⟨Nat.le_of_ble_eq_true rfl, Nat.le_of_ble_eq_true rfl⟩ rfl (Nat.le_of_ble_eq_true rfl) ⟨Nat.zero_le _, Nat.zero_le _⟩ rfl dX10_scanNext_16 (fun H locs hR => ?_)
    obtain ⟨e1, e2⟩ := fr_s2 hsp
    exact fr_iret C hr hlocks hR e1 e2 dX10_scanNext_19

/-! TermRows$Tape.open(I)V -/
def z_X10_open_b24 (S : fh_S) (a : Nat) : Nat → fh_H → Int32 → Int32 → Int32 → Option fh_H
  | 0, _, _, _, _ => none
  | n + 1, h, y1, y2, y3 =>
    if (200 : Int32) ≤ y3 then (fh_b1 (z_X10_addToken S h a (257 : Int32) (0 : Int32) y1) (fun h2 => some h2)) else (if y1 ≤ y2 then (fh_b1 (z_X10_addToken S h a (257 : Int32) (0 : Int32) y1) (fun h5 => some h5)) else (fh_b2 (z_X10_scanNext S h a y2 y1) (fun r7 h8 => fh_let (y3 + 1) (fun v10 => z_X10_open_b24 S a n h8 y1 r7 v10))))
def z_X10_open (S : fh_S) (h : fh_H) (a : Nat) (x1 : Int32) : Option fh_H :=
    fh_let (fh_sI h a 7 (0 : Int32)) (fun h1 => fh_let (fh_sI h1 a 8 (-1 : Int32)) (fun h2 => fh_let (fh_sI h2 a 4 (0 : Int32)) (fun h3 => fh_let (fh_sI h3 a 5 (0 : Int32)) (fun h4 => z_X10_open_b24 S a 20000 h4 x1 (0 : Int32) (0 : Int32)))))
set_option maxHeartbeats 4000000 in
set_option maxRecDepth 100000 in
theorem k_X10_open {l : Launch} {S : fh_S} {g : fh_G} {h h' : fh_H} {z : (Nat → Nat) × (Nat → Nat)} (hj : fh_inj S g) {a : Nat} {x1 : Int32} (ha : fh_kq S a 10 = true) (hsp : z_X10_open S h a x1 = some h') : fx_M l yX10_open cX10_open 4 none (fh_rm 9) S g z [.ref (g.2.2 a), .int x1] h none h' := by
  unfold z_X10_open at hsp
  refine fz_head (own := RX10) (by decide) rfl hj (Nat.le_of_ble_eq_true rfl) ?_
  intro p e s m below meth c ls C EX hr hlocks hR hl
  have hl : lv_has ls 4 [(0, .ref (g.2.2 a)), (1, .int x1)] := hl
  have hx := C.1.1
  have hb := C.1.2.1
  have hb_24 : ∀ (n : Nat) (h : fh_H) (y1 : Int32) (y2 : Int32) (y3 : Int32) (H : Heap) (locs : List Loc) (ls : Array Slot), z_X10_open_b24 S a n h y1 y2 y3 = some h' → fh_R S g s.heap h H locs → lv_has ls 4 [(0, .ref (g.2.2 a)), (1, .int y1), (2, .int y2), (3, .int y3)] → fh_Wk p l e 9 s m [.ref (g.2.2 a), .int x1] below meth c S g none h' H locs (F0 m 24 ls []) := by
    intro n
    induction n with
    | zero => intro h y1 y2 y3 H locs ls hsp; cases hsp
    | succ n ih =>
      intro h y1 y2 y3 H locs ls hsp hR hl
      rw [z_X10_open_b24] at hsp
      refine lv_iload_n hx hb dX10_open_24 rfl (lv_at hl 3 rfl) ?_
      refine lv_sipush (v := 200) hx hb dX10_open_25 (by decide) ?_
      refine lv_icmp_ge (tgt := 49) hx hb dX10_open_28 (by decide) (fun c1 => ?_) (fun c1 => ?_)
      · rw [if_pos c1] at hsp
        refine lv_aload_n hx hb dX10_open_49 rfl (lv_at hl 0 rfl) ?_
        refine lv_sipush (v := 257) hx hb dX10_open_50 (by decide) ?_
        refine lv_iconst (v := 0) hx hb dX10_open_53 (by decide) ?_
        refine lv_iload_n hx hb dX10_open_54 rfl (lv_at hl 1 rfl) ?_
        obtain ⟨h2, E3, hsp⟩ := fr_b1 hsp
        refine fq_callV (rest := []) (st1 := []) C hR (k_X10_addToken C.2.2 ha E3) Y_X10_addToken YV_X10_addToken Lk_RX10_48 ha ⟨_, _, rfl, by decide⟩ rfl hl.1 ⟨Nat.le_of_ble_eq_true rfl, Nat.le_of_ble_eq_true rfl⟩ rfl (Nat.le_of_ble_eq_true rfl) ⟨Nat.zero_le _, Nat.zero_le _⟩ rfl dX10_open_55 (fun H locs hR => ?_)
        exact fr_vret C hr hlocks hR (fr_s1 hsp) dX10_open_58
      · rw [if_neg c1] at hsp
        refine lv_iload_n hx hb dX10_open_31 rfl (lv_at hl 2 rfl) ?_
        refine lv_iload_n hx hb dX10_open_32 rfl (lv_at hl 1 rfl) ?_
        refine lv_icmp_ge (tgt := 49) hx hb dX10_open_33 (by decide) (fun c4 => ?_) (fun c4 => ?_)
        · rw [if_pos c4] at hsp
          refine lv_aload_n hx hb dX10_open_49 rfl (lv_at hl 0 rfl) ?_
          refine lv_sipush (v := 257) hx hb dX10_open_50 (by decide) ?_
          refine lv_iconst (v := 0) hx hb dX10_open_53 (by decide) ?_
          refine lv_iload_n hx hb dX10_open_54 rfl (lv_at hl 1 rfl) ?_
          obtain ⟨h5, E6, hsp⟩ := fr_b1 hsp
          refine fq_callV (rest := []) (st1 := []) C hR (k_X10_addToken C.2.2 ha E6) Y_X10_addToken YV_X10_addToken Lk_RX10_48 ha ⟨_, _, rfl, by decide⟩ rfl hl.1 ⟨Nat.le_of_ble_eq_true rfl, Nat.le_of_ble_eq_true rfl⟩ rfl (Nat.le_of_ble_eq_true rfl) ⟨Nat.zero_le _, Nat.zero_le _⟩ rfl dX10_open_55 (fun H locs hR => ?_)
          exact fr_vret C hr hlocks hR (fr_s1 hsp) dX10_open_58
        · rw [if_neg c4] at hsp
          refine lv_aload_n hx hb dX10_open_36 rfl (lv_at hl 0 rfl) ?_
          refine lv_iload_n hx hb dX10_open_37 rfl (lv_at hl 2 rfl) ?_
          refine lv_iload_n hx hb dX10_open_38 rfl (lv_at hl 1 rfl) ?_
          obtain ⟨r7, h8, E9, hsp⟩ := fr_b2 hsp
          refine fz_cV (rest := []) (st1 := [.int r7]) C EX hR (k_X10_scanNext C.2.2 ha E9) Y_X10_scanNext YV_X10_scanNext Lk_RX10_44 (fz_rv C hR ha ⟨_, _, rfl, by decide⟩) rfl hl.1 ⟨Nat.le_of_ble_eq_true rfl, Nat.le_of_ble_eq_true rfl⟩ rfl (Nat.le_of_ble_eq_true rfl) ⟨Nat.le_of_ble_eq_true rfl, Nat.le_of_ble_eq_true rfl⟩ rfl dX10_open_39 (fun H locs hR => ?_)
          refine lv_istore_n (lv' := [(2, .int r7), (0, .ref (g.2.2 a)), (1, .int y1), (3, .int y3)]) hx hb dX10_open_42 rfl hl (by decide) rfl (fun ls hl => ?_)
          obtain ⟨v10, ev10⟩ : ∃ z : Int32, z = y3 + 1 := ⟨_, rfl⟩
          have hsp := fr_let ev10 hsp
          refine lv_iinc (v := v10) (lv' := [(3, .int v10), (2, .int r7), (0, .ref (g.2.2 a)), (1, .int y1)]) hx hb dX10_open_43 hl (k := 3) rfl (by rw [ev10]; rfl) (by decide) rfl (fun ls hl => ?_)
          refine lv_goto (tgt := 24) hx hb dX10_open_46 (by decide) ?_
          exact ih h8 y1 r7 v10 _ _ _ hsp hR (lv_sub hl [2, 3, 1, 0] rfl)
  refine lv_aload_n hx hb dX10_open_0 rfl (lv_at hl 0 rfl) ?_
  refine lv_iconst (v := 0) hx hb dX10_open_1 (by decide) ?_
  refine fr_puti C hR ha Fp_RX10_35 rfl dX10_open_2 (fun H locs hR => ?_)
  obtain ⟨h1, eh1⟩ : ∃ z, z = fh_sI h a 7 (0 : Int32) := ⟨_, rfl⟩
  rw [← eh1] at hR
  have hsp := fr_let eh1 hsp
  refine lv_aload_n hx hb dX10_open_5 rfl (lv_at hl 0 rfl) ?_
  refine lv_iconst (v := -1) hx hb dX10_open_6 (by decide) ?_
  refine fr_puti C hR ha Fp_RX10_24 rfl dX10_open_7 (fun H locs hR => ?_)
  obtain ⟨h2, eh2⟩ : ∃ z, z = fh_sI h1 a 8 (-1 : Int32) := ⟨_, rfl⟩
  rw [← eh2] at hR
  have hsp := fr_let eh2 hsp
  refine lv_aload_n hx hb dX10_open_10 rfl (lv_at hl 0 rfl) ?_
  refine lv_iconst (v := 0) hx hb dX10_open_11 (by decide) ?_
  refine fr_puti C hR ha Fp_RX10_38 rfl dX10_open_12 (fun H locs hR => ?_)
  obtain ⟨h3, eh3⟩ : ∃ z, z = fh_sI h2 a 4 (0 : Int32) := ⟨_, rfl⟩
  rw [← eh3] at hR
  have hsp := fr_let eh3 hsp
  refine lv_aload_n hx hb dX10_open_15 rfl (lv_at hl 0 rfl) ?_
  refine lv_iconst (v := 0) hx hb dX10_open_16 (by decide) ?_
  refine fr_puti C hR ha Fp_RX10_41 rfl dX10_open_17 (fun H locs hR => ?_)
  obtain ⟨h4, eh4⟩ : ∃ z, z = fh_sI h3 a 5 (0 : Int32) := ⟨_, rfl⟩
  rw [← eh4] at hR
  have hsp := fr_let eh4 hsp
  refine lv_iconst (v := 0) hx hb dX10_open_20 (by decide) ?_
  refine lv_istore_n (lv' := [(2, .int (0 : Int32)), (0, .ref (g.2.2 a)), (1, .int x1)]) hx hb dX10_open_21 rfl hl (by decide) rfl (fun ls hl => ?_)
  refine lv_iconst (v := 0) hx hb dX10_open_22 (by decide) ?_
  refine lv_istore_n (lv' := [(3, .int (0 : Int32)), (2, .int (0 : Int32)), (0, .ref (g.2.2 a)), (1, .int x1)]) hx hb dX10_open_23 rfl hl (by decide) rfl (fun ls hl => ?_)
  exact hb_24 20000 h4 x1 (0 : Int32) (0 : Int32) _ _ _ hsp hR (lv_sub hl [2, 3, 1, 0] rfl)
