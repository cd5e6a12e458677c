/-! TermRowsModel.valueHere()J -/
def z_X12_valueHere_b145 (S : fh_S) (a : Nat) (h : fh_H) (y1 : Int32) : Option (Int64 × fh_H) :=
    if y1 = 0 then (some ((0 : Int64), h)) else (fh_b1 (h.2.2 a 5) (fun j2 => fh_ck (fh_kq S j2 13) (fh_ck (fh_in (h.1 a 47) (S.2.2 j2)) (some ((Int32.toInt64 (((h.1 j2 (Int32.toNatClampNeg (h.1 a 47))) - (1 : Int32)) - (h.1 a 48))), h)))))
def z_X12_valueHere_b13 (S : fh_S) (a : Nat) (h : fh_H) (t0 : Int32) : Option (Int64 × fh_H) :=
    fh_b1 (z_X12_isWord S h a 5) (fun r1 => if r1 = 0 then (fh_b1 (z_X12_isWord S h a 6) (fun r4 => if r4 = 0 then (fh_b1 (z_X12_isWord S h a 7) (fun r7 => if r7 = 0 then (fh_b1 (z_X12_isWord S h a 8) (fun r10 => if r10 = 0 then (fh_b1 (z_X12_isWord S h a 9) (fun r13 => if r13 = 0 then (fh_b1 (z_X12_wrong S h a (1 : Int32)) (fun h16 => z_X12_valueHere_b145 S a h16 t0)) else (z_X12_valueHere_b145 S a h t0))) else (if t0 = 0 then (some ((0 : Int64), h)) else (fh_b1 (z_X12_sumTo S h a (h.1 a 47) (h.1 a 48)) (fun r19 => some (r19, h)))))) else (if (h.1 a 48) ≤ 0 then (some ((0 : Int64), h)) else (fh_b1 (z_X12_termOf S h a (h.1 a 47) ((h.1 a 48) - (1 : Int32))) (fun r22 => some ((Int32.toInt64 r22), h)))))) else (if t0 = 0 then (some ((0 : Int64), h)) else (fh_b1 (z_X12_termOf S h a (h.1 a 47) (h.1 a 48)) (fun r25 => some ((Int32.toInt64 r25), h)))))) else (some ((Int32.toInt64 (h.1 a 48)), h)))
def z_X12_valueHere (S : fh_S) (h : fh_H) (a : Nat) : Option (Int64 × fh_H) :=
    if (h.1 a 48) = (-1 : Int32) then (z_X12_valueHere_b13 S a h (0 : Int32)) else (z_X12_valueHere_b13 S a h (1 : Int32))
set_option maxHeartbeats 4000000 in
set_option maxRecDepth 100000 in
theorem k_X12_valueHere {l : Launch} {S : fh_S} {g : fh_G} {h h' : fh_H} {z : (Nat → Nat) × (Nat → Nat)} (hj : fh_inj S g) {a : Nat} {r : Int64} (ha : fh_kq S a 12 = true) (hsp : z_X12_valueHere S h a = some (r, h')) : fx_M l yX12_valueHere cX12_valueHere 2 (some .long) (fh_rm 6) S g z [.ref (g.2.2 a)] h (some (.long r)) h' := by
  unfold z_X12_valueHere at hsp
  refine fz_head (own := RX12) (by decide) rfl hj (Nat.le_of_ble_eq_true rfl) ?_
  intro p e s m below meth c ls C EX hr hlocks hR hl
  have hl : lv_has ls 2 [(0, .ref (g.2.2 a))] := hl
  have hx := C.1.1
  have hb := C.1.2.1
  have hb_145 : ∀ (h : fh_H) (y1 : Int32) (H : Heap) (locs : List Loc) (ls : Array Slot), z_X12_valueHere_b145 S a h y1 = some (r, h') → fh_R S g s.heap h H locs → lv_has ls 2 [(0, .ref (g.2.2 a)), (1, .int y1)] → fh_Wk p l e 6 s m [.ref (g.2.2 a)] below meth c S g (some (.long r)) h' H locs (F0 m 145 ls []) := by
    intro h y1 H locs ls hsp hR hl
    unfold z_X12_valueHere_b145 at hsp
    refine lv_iload_n hx hb dX12_valueHere_145 rfl (lv_at hl 1 rfl) ?_
    refine lv_if_eq (tgt := 169) hx hb dX12_valueHere_146 (by decide) (fun c1 => ?_) (fun c1 => ?_)
    · rw [if_pos c1] at hsp
      refine lv_lconst (v := 0) hx hb dX12_valueHere_169 (by decide) ?_
      obtain ⟨e1, e2⟩ := fr_s2 hsp
      exact fr_lret C hr hlocks hR e1 e2 dX12_valueHere_170
    · rw [if_neg c1] at hsp
      refine lv_aload_n hx hb dX12_valueHere_149 rfl (lv_at hl 0 rfl) ?_
      obtain ⟨j2, hv3, hsp⟩ := fr_b1 hsp
      refine fr_getr C hR ha Fg_RX12_19 rfl hv3 dX12_valueHere_150 ?_
      refine lv_aload_n hx hb dX12_valueHere_153 rfl (lv_at hl 0 rfl) ?_
      refine fr_geti C hR ha Fg_RX12_484 rfl dX12_valueHere_154 ?_
      obtain ⟨hk4, hsp⟩ := fr_ck hsp
      obtain ⟨hi5, hsp⟩ := fr_ck hsp
      refine fr_iald C hR hk4 hi5 dX12_valueHere_157 ?_
      refine lv_iconst (v := 1) hx hb dX12_valueHere_158 (by decide) ?_
      refine lv_isub hx hb dX12_valueHere_159 ?_
      refine lv_aload_n hx hb dX12_valueHere_160 rfl (lv_at hl 0 rfl) ?_
      refine fr_geti C hR ha Fg_RX12_474 rfl dX12_valueHere_161 ?_
      refine lv_isub hx hb dX12_valueHere_164 ?_
      refine lv_i2l hx hb dX12_valueHere_165 rfl ?_
      refine lv_goto (tgt := 170) hx hb dX12_valueHere_166 (by decide) ?_
      obtain ⟨e1, e2⟩ := fr_s2 hsp
      exact fr_lret C hr hlocks hR e1 e2 dX12_valueHere_170
  have hb_13 : ∀ (h : fh_H) (t0 : Int32) (H : Heap) (locs : List Loc) (ls : Array Slot), z_X12_valueHere_b13 S a h t0 = some (r, h') → fh_R S g s.heap h H locs → lv_has ls 2 [(0, .ref (g.2.2 a))] → fh_Wk p l e 6 s m [.ref (g.2.2 a)] below meth c S g (some (.long r)) h' H locs (F0 m 13 ls [.int t0]) := by
    intro h t0 H locs ls hsp hR hl
    unfold z_X12_valueHere_b13 at hsp
    refine lv_istore_n (lv' := [(1, .int t0), (0, .ref (g.2.2 a))]) hx hb dX12_valueHere_13 rfl hl (by decide) rfl (fun ls hl => ?_)
    refine lv_aload_n hx hb dX12_valueHere_14 rfl (lv_at hl 1 rfl) ?_
    refine fr_ldcwS hx hb C.1.2.2.2.1 (vs_RX12_477 EX) dX12_valueHere_15 ?_
    obtain ⟨r1, E2, hsp⟩ := fr_b1 hsp
    refine fz_cV (rest := []) (st1 := [.int r1]) C EX hR (k_X12_isWord C.2.2 ha (by decide) E2) Y_X12_isWord YV_X12_isWord Lk_RX12_479 (fz_rv C hR ha ⟨_, _, rfl, by decide⟩) rfl hl.1 ⟨Nat.le_of_ble_eq_true rfl, Nat.le_of_ble_eq_true rfl⟩ rfl (Nat.le_of_ble_eq_true rfl) ⟨Nat.le_of_ble_eq_true rfl, Nat.le_of_ble_eq_true rfl⟩ rfl dX12_valueHere_18 (fun H locs hR => ?_)
    refine lv_if_eq (tgt := 30) hx hb dX12_valueHere_21 (by decide) (fun c3 => ?_) (fun c3 => ?_)
    · rw [if_pos c3] at hsp
      refine lv_aload_n hx hb dX12_valueHere_30 rfl (lv_at hl 1 rfl) ?_
      refine fr_ldcwS hx hb C.1.2.2.2.1 (vs_RX12_483 EX) dX12_valueHere_31 ?_
      obtain ⟨r4, E5, hsp⟩ := fr_b1 hsp
      refine fz_cV (rest := []) (st1 := [.int r4]) C EX hR (k_X12_isWord C.2.2 ha (by decide) E5) Y_X12_isWord YV_X12_isWord Lk_RX12_479 (fz_rv C hR ha ⟨_, _, rfl, by decide⟩) rfl hl.1 ⟨Nat.le_of_ble_eq_true rfl, Nat.le_of_ble_eq_true rfl⟩ rfl (Nat.le_of_ble_eq_true rfl) ⟨Nat.le_of_ble_eq_true rfl, Nat.le_of_ble_eq_true rfl⟩ rfl dX12_valueHere_34 (fun H locs hR => ?_)
      refine lv_if_eq (tgt := 62) hx hb dX12_valueHere_37 (by decide) (fun c6 => ?_) (fun c6 => ?_)
      · rw [if_pos c6] at hsp
        refine lv_aload_n hx hb dX12_valueHere_62 rfl (lv_at hl 1 rfl) ?_
        refine fr_ldcwS hx hb C.1.2.2.2.1 (vs_RX12_487 EX) dX12_valueHere_63 ?_
        obtain ⟨r7, E8, hsp⟩ := fr_b1 hsp
        refine fz_cV (rest := []) (st1 := [.int r7]) C EX hR (k_X12_isWord C.2.2 ha (by decide) E8) Y_X12_isWord YV_X12_isWord Lk_RX12_479 (fz_rv C hR ha ⟨_, _, rfl, by decide⟩) rfl hl.1 ⟨Nat.le_of_ble_eq_true rfl, Nat.le_of_ble_eq_true rfl⟩ rfl (Nat.le_of_ble_eq_true rfl) ⟨Nat.le_of_ble_eq_true rfl, Nat.le_of_ble_eq_true rfl⟩ rfl dX12_valueHere_66 (fun H locs hR => ?_)
        refine lv_if_eq (tgt := 99) hx hb dX12_valueHere_69 (by decide) (fun c9 => ?_) (fun c9 => ?_)
        · rw [if_pos c9] at hsp
          refine lv_aload_n hx hb dX12_valueHere_99 rfl (lv_at hl 1 rfl) ?_
          refine fr_ldcwS hx hb C.1.2.2.2.1 (vs_RX12_489 EX) dX12_valueHere_100 ?_
          obtain ⟨r10, E11, hsp⟩ := fr_b1 hsp
          refine fz_cV (rest := []) (st1 := [.int r10]) C EX hR (k_X12_isWord C.2.2 ha (by decide) E11) Y_X12_isWord YV_X12_isWord Lk_RX12_479 (fz_rv C hR ha ⟨_, _, rfl, by decide⟩) rfl hl.1 ⟨Nat.le_of_ble_eq_true rfl, Nat.le_of_ble_eq_true rfl⟩ rfl (Nat.le_of_ble_eq_true rfl) ⟨Nat.le_of_ble_eq_true rfl, Nat.le_of_ble_eq_true rfl⟩ rfl dX12_valueHere_103 (fun H locs hR => ?_)
          refine lv_if_eq (tgt := 130) hx hb dX12_valueHere_106 (by decide) (fun c12 => ?_) (fun c12 => ?_)
          · rw [if_pos c12] at hsp
            refine lv_aload_n hx hb dX12_valueHere_130 rfl (lv_at hl 1 rfl) ?_
            refine fr_ldcwS hx hb C.1.2.2.2.1 (vs_RX12_491 EX) dX12_valueHere_131 ?_
            obtain ⟨r13, E14, hsp⟩ := fr_b1 hsp
            refine fz_cV (rest := []) (st1 := [.int r13]) C EX hR (k_X12_isWord C.2.2 ha (by decide) E14) Y_X12_isWord YV_X12_isWord Lk_RX12_479 (fz_rv C hR ha ⟨_, _, rfl, by decide⟩) rfl hl.1 ⟨Nat.le_of_ble_eq_true rfl, Nat.le_of_ble_eq_true rfl⟩ rfl (Nat.le_of_ble_eq_true rfl) ⟨Nat.le_of_ble_eq_true rfl, Nat.le_of_ble_eq_true rfl⟩ rfl dX12_valueHere_134 (fun H locs hR => ?_)
            refine lv_if_ne (tgt := 145) hx hb dX12_valueHere_137 (by decide) (fun c15 => ?_) (fun c15 => ?_)
            · rw [if_neg c15] at hsp
              exact hb_145 h t0 _ _ _ hsp hR (lv_sub hl [1, 0] rfl)
            · rw [if_pos c15] at hsp
              refine lv_aload_n hx hb dX12_valueHere_140 rfl (lv_at hl 1 rfl) ?_
              refine lv_iconst (v := 1) hx hb dX12_valueHere_141 (by decide) ?_
              obtain ⟨h16, E17, hsp⟩ := fr_b1 hsp
              refine fq_callV (rest := []) (st1 := []) C hR (k_X12_wrong C.2.2 ha E17) Y_X12_wrong YV_X12_wrong Lk_RX12_434 ha ⟨_, _, rfl, by decide⟩ rfl hl.1 ⟨Nat.le_of_ble_eq_true rfl, Nat.le_of_ble_eq_true rfl⟩ rfl (Nat.le_of_ble_eq_true rfl) ⟨Nat.zero_le _, Nat.zero_le _⟩ rfl dX12_valueHere_142 (fun H locs hR => ?_)
              exact hb_145 h16 t0 _ _ _ hsp hR (lv_sub hl [1, 0] rfl)
          · rw [if_neg c12] at hsp
            refine lv_iload_n hx hb dX12_valueHere_109 rfl (lv_at hl 0 rfl) ?_
            refine lv_if_eq (tgt := 128) hx hb dX12_valueHere_110 (by decide) (fun c18 => ?_) (fun c18 => ?_)
            · rw [if_pos c18] at hsp
              refine lv_lconst (v := 0) hx hb dX12_valueHere_128 (by decide) ?_
              obtain ⟨e1, e2⟩ := fr_s2 hsp
              exact fr_lret C hr hlocks hR e1 e2 dX12_valueHere_129
            · rw [if_neg c18] at hsp
              refine lv_aload_n hx hb dX12_valueHere_113 rfl (lv_at hl 1 rfl) ?_
              refine lv_aload_n hx hb dX12_valueHere_114 rfl (lv_at hl 1 rfl) ?_
              refine fr_geti C hR ha Fg_RX12_484 rfl dX12_valueHere_115 ?_
              refine lv_aload_n hx hb dX12_valueHere_118 rfl (lv_at hl 1 rfl) ?_
              refine fr_geti C hR ha Fg_RX12_474 rfl dX12_valueHere_119 ?_
              obtain ⟨r19, E20, hsp⟩ := fr_b1 hsp
              refine fq_callV (rest := []) (st1 := [.long r19]) C hR (k_X12_sumTo C.2.2 ha E20) Y_X12_sumTo YV_X12_sumTo Lk_RX12_314 ha ⟨_, _, rfl, by decide⟩ rfl hl.1 ⟨Nat.le_of_ble_eq_true rfl, Nat.le_of_ble_eq_true rfl⟩ rfl (Nat.le_of_ble_eq_true rfl) ⟨Nat.zero_le _, Nat.zero_le _⟩ rfl dX12_valueHere_122 (fun H locs hR => ?_)
              refine lv_goto (tgt := 129) hx hb dX12_valueHere_125 (by decide) ?_
              obtain ⟨e1, e2⟩ := fr_s2 hsp
              exact fr_lret C hr hlocks hR e1 e2 dX12_valueHere_129
        · rw [if_neg c9] at hsp
          refine lv_aload_n hx hb dX12_valueHere_72 rfl (lv_at hl 1 rfl) ?_
          refine fr_geti C hR ha Fg_RX12_474 rfl dX12_valueHere_73 ?_
          refine lv_if_le (tgt := 97) hx hb dX12_valueHere_76 (by decide) (fun c21 => ?_) (fun c21 => ?_)
          · rw [if_pos c21] at hsp
            refine lv_lconst (v := 0) hx hb dX12_valueHere_97 (by decide) ?_
            obtain ⟨e1, e2⟩ := fr_s2 hsp
            exact fr_lret C hr hlocks hR e1 e2 dX12_valueHere_98
          · rw [if_neg c21] at hsp
            refine lv_aload_n hx hb dX12_valueHere_79 rfl (lv_at hl 1 rfl) ?_
            refine lv_aload_n hx hb dX12_valueHere_80 rfl (lv_at hl 1 rfl) ?_
            refine fr_geti C hR ha Fg_RX12_484 rfl dX12_valueHere_81 ?_
            refine lv_aload_n hx hb dX12_valueHere_84 rfl (lv_at hl 1 rfl) ?_
            refine fr_geti C hR ha Fg_RX12_474 rfl dX12_valueHere_85 ?_
            refine lv_iconst (v := 1) hx hb dX12_valueHere_88 (by decide) ?_
            refine lv_isub hx hb dX12_valueHere_89 ?_
            obtain ⟨r22, E23, hsp⟩ := fr_b1 hsp
            refine fq_callV (rest := []) (st1 := [.int r22]) C hR (k_X12_termOf C.2.2 ha E23) Y_X12_termOf YV_X12_termOf Lk_RX12_219 ha ⟨_, _, rfl, by decide⟩ rfl hl.1 ⟨Nat.le_of_ble_eq_true rfl, Nat.le_of_ble_eq_true rfl⟩ rfl (Nat.le_of_ble_eq_true rfl) ⟨Nat.zero_le _, Nat.zero_le _⟩ rfl dX12_valueHere_90 (fun H locs hR => ?_)
            refine lv_i2l hx hb dX12_valueHere_93 rfl ?_
            refine lv_goto (tgt := 98) hx hb dX12_valueHere_94 (by decide) ?_
            obtain ⟨e1, e2⟩ := fr_s2 hsp
            exact fr_lret C hr hlocks hR e1 e2 dX12_valueHere_98
      · rw [if_neg c6] at hsp
        refine lv_iload_n hx hb dX12_valueHere_40 rfl (lv_at hl 0 rfl) ?_
        refine lv_if_eq (tgt := 60) hx hb dX12_valueHere_41 (by decide) (fun c24 => ?_) (fun c24 => ?_)
        · rw [if_pos c24] at hsp
          refine lv_lconst (v := 0) hx hb dX12_valueHere_60 (by decide) ?_
          obtain ⟨e1, e2⟩ := fr_s2 hsp
          exact fr_lret C hr hlocks hR e1 e2 dX12_valueHere_61
        · rw [if_neg c24] at hsp
          refine lv_aload_n hx hb dX12_valueHere_44 rfl (lv_at hl 1 rfl) ?_
          refine lv_aload_n hx hb dX12_valueHere_45 rfl (lv_at hl 1 rfl) ?_
          refine fr_geti C hR ha Fg_RX12_484 rfl dX12_valueHere_46 ?_
          refine lv_aload_n hx hb dX12_valueHere_49 rfl (lv_at hl 1 rfl) ?_
          refine fr_geti C hR ha Fg_RX12_474 rfl dX12_valueHere_50 ?_
          obtain ⟨r25, E26, hsp⟩ := fr_b1 hsp
          refine fq_callV (rest := []) (st1 := [.int r25]) C hR (k_X12_termOf C.2.2 ha E26) Y_X12_termOf YV_X12_termOf Lk_RX12_219 ha ⟨_, _, rfl, by decide⟩ rfl hl.1 ⟨Nat.le_of_ble_eq_true rfl, Nat.le_of_ble_eq_true rfl⟩ rfl (Nat.le_of_ble_eq_true rfl) ⟨Nat.zero_le _, Nat.zero_le _⟩ rfl dX12_valueHere_53 (fun H locs hR => ?_)
          refine lv_i2l hx hb dX12_valueHere_56 rfl ?_
          refine lv_goto (tgt := 61) hx hb dX12_valueHere_57 (by decide) ?_
          obtain ⟨e1, e2⟩ := fr_s2 hsp
          exact fr_lret C hr hlocks hR e1 e2 dX12_valueHere_61
    · rw [if_neg c3] at hsp
      refine lv_aload_n hx hb dX12_valueHere_24 rfl (lv_at hl 1 rfl) ?_
      refine fr_geti C hR ha Fg_RX12_474 rfl dX12_valueHere_25 ?_
      refine lv_i2l hx hb dX12_valueHere_28 rfl ?_
      obtain ⟨e1, e2⟩ := fr_s2 hsp
      exact fr_lret C hr hlocks hR e1 e2 dX12_valueHere_29
  refine lv_aload_n hx hb dX12_valueHere_0 rfl (lv_at hl 0 rfl) ?_
  refine fr_geti C hR ha Fg_RX12_474 rfl dX12_valueHere_1 ?_
  refine lv_iconst (v := -1) hx hb dX12_valueHere_4 (by decide) ?_
  refine lv_icmp_eq (tgt := 12) hx hb dX12_valueHere_5 (by decide) (fun c1 => ?_) (fun c1 => ?_)
  · rw [if_pos c1] at hsp
    refine lv_iconst (v := 0) hx hb dX12_valueHere_12 (by decide) ?_
    exact hb_13 h (0 : Int32) _ _ _ hsp hR (lv_sub hl [0] rfl)
  · rw [if_neg c1] at hsp
    refine lv_iconst (v := 1) hx hb dX12_valueHere_8 (by decide) ?_
    refine lv_goto (tgt := 13) hx hb dX12_valueHere_9 (by decide) ?_
    exact hb_13 h (1 : Int32) _ _ _ hsp hR (lv_sub hl [0] rfl)

/-! TermRowsModel.readValue()J -/
def z_X12_readValue (S : fh_S) (h : fh_H) (a : Nat) : Option (Int64 × fh_H) :=
    if (h.1 a 41) = 0 then (if (h.1 a 38) = (2 : Int32) then (fh_b2 (z_X12_number S h a (0 : Int32) (9999 : Int32)) (fun r11 h12 => some ((Int32.toInt64 r11), h12))) else (fh_b2 (z_X12_valueHere S h a) (fun r6 h7 => fh_b1 (z_X12_pass S h7 a) (fun h9 => some (r6, h9))))) else (fh_b2 (z_X12_number S h a (0 : Int32) (9999 : Int32)) (fun r2 h3 => some ((Int32.toInt64 r2), h3)))
set_option maxHeartbeats 4000000 in
set_option maxRecDepth 100000 in
theorem k_X12_readValue {l : Launch} {S : fh_S} {g : fh_G} {h h' : fh_H} {z : (Nat → Nat) × (Nat → Nat)} (hj : fh_inj S g) {a : Nat} {r : Int64} (ha : fh_kq S a 12 = true) (hsp : z_X12_readValue S h a = some (r, h')) : fx_M l yX12_readValue cX12_readValue 3 (some .long) (fh_rm 7) S g z [.ref (g.2.2 a)] h (some (.long r)) h' := by
  unfold z_X12_readValue at hsp
  refine fz_head (own := RX12) (by decide) rfl hj (Nat.le_of_ble_eq_true rfl) ?_
  intro p e s m below meth c ls C EX hr hlocks hR hl
  have hl : lv_has ls 3 [(0, .ref (g.2.2 a))] := hl
  have hx := C.1.1
  have hb := C.1.2.1
  refine lv_aload_n hx hb dX12_readValue_0 rfl (lv_at hl 0 rfl) ?_
  refine fr_geti C hR ha Fg_RX12_410 rfl dX12_readValue_1 ?_
  refine lv_if_ne (tgt := 15) hx hb dX12_readValue_4 (by decide) (fun c1 => ?_) (fun c1 => ?_)
  · rw [if_neg c1] at hsp
    refine lv_aload_n hx hb dX12_readValue_15 rfl (lv_at hl 0 rfl) ?_
    refine lv_iconst (v := 0) hx hb dX12_readValue_16 (by decide) ?_
    refine lv_sipush (v := 9999) hx hb dX12_readValue_17 (by decide) ?_
    obtain ⟨r2, h3, E4, hsp⟩ := fr_b2 hsp
    refine fq_callV (rest := []) (st1 := [.int r2]) C hR (k_X12_number C.2.2 ha E4) Y_X12_number YV_X12_number Lk_RX12_450 ha ⟨_, _, rfl, by decide⟩ rfl hl.1 ⟨Nat.le_of_ble_eq_true rfl, Nat.le_of_ble_eq_true rfl⟩ rfl (Nat.le_of_ble_eq_true rfl) ⟨Nat.zero_le _, Nat.zero_le _⟩ rfl dX12_readValue_20 (fun H locs hR => ?_)
    refine lv_i2l hx hb dX12_readValue_23 rfl ?_
    obtain ⟨e1, e2⟩ := fr_s2 hsp
    exact fr_lret C hr hlocks hR e1 e2 dX12_readValue_24
  · rw [if_pos c1] at hsp
    refine lv_aload_n hx hb dX12_readValue_7 rfl (lv_at hl 0 rfl) ?_
    refine fr_geti C hR ha Fg_RX12_398 rfl dX12_readValue_8 ?_
    refine lv_iconst (v := 2) hx hb dX12_readValue_11 (by decide) ?_
    refine lv_icmp_ne (tgt := 25) hx hb dX12_readValue_12 (by decide) (fun c5 => ?_) (fun c5 => ?_)
    · rw [if_neg c5] at hsp
      refine lv_aload_n hx hb dX12_readValue_25 rfl (lv_at hl 0 rfl) ?_
      obtain ⟨r6, h7, E8, hsp⟩ := fr_b2 hsp
      refine fz_cV (rest := []) (st1 := [.long r6]) C EX hR (k_X12_valueHere C.2.2 ha E8) Y_X12_valueHere YV_X12_valueHere Lk_RX12_493 (fz_rv C hR ha ⟨_, _, rfl, by decide⟩) rfl hl.1 ⟨Nat.le_of_ble_eq_true rfl, Nat.le_of_ble_eq_true rfl⟩ rfl (Nat.le_of_ble_eq_true rfl) ⟨Nat.le_of_ble_eq_true rfl, Nat.le_of_ble_eq_true rfl⟩ rfl dX12_readValue_26 (fun H locs hR => ?_)
      refine lv_lstore_n (lv' := [(1, .long r6), (0, .ref (g.2.2 a))]) hx hb dX12_readValue_29 rfl hl (by decide) rfl (fun ls hl => ?_)
      refine lv_aload_n hx hb dX12_readValue_30 rfl (lv_at hl 1 rfl) ?_
      obtain ⟨h9, E10, hsp⟩ := fr_b1 hsp
      refine fq_callV (rest := []) (st1 := []) C hR (k_X12_pass C.2.2 ha E10) Y_X12_pass YV_X12_pass Lk_RX12_437 ha ⟨_, _, rfl, by decide⟩ rfl hl.1 ⟨Nat.le_of_ble_eq_true rfl, Nat.le_of_ble_eq_true rfl⟩ rfl (Nat.le_of_ble_eq_true rfl) ⟨Nat.zero_le _, Nat.zero_le _⟩ rfl dX12_readValue_31 (fun H locs hR => ?_)
      refine lv_lload_n hx hb dX12_readValue_34 rfl (lv_at hl 0 rfl) ?_
      obtain ⟨e1, e2⟩ := fr_s2 hsp
      exact fr_lret C hr hlocks hR e1 e2 dX12_readValue_35
    · rw [if_pos c5] at hsp
      refine lv_aload_n hx hb dX12_readValue_15 rfl (lv_at hl 0 rfl) ?_
      refine lv_iconst (v := 0) hx hb dX12_readValue_16 (by decide) ?_
      refine lv_sipush (v := 9999) hx hb dX12_readValue_17 (by decide) ?_
      obtain ⟨r11, h12, E13, hsp⟩ := fr_b2 hsp
      refine fq_callV (rest := []) (st1 := [.int r11]) C hR (k_X12_number C.2.2 ha E13) Y_X12_number YV_X12_number Lk_RX12_450 ha ⟨_, _, rfl, by decide⟩ rfl hl.1 ⟨Nat.le_of_ble_eq_true rfl, Nat.le_of_ble_eq_true rfl⟩ rfl (Nat.le_of_ble_eq_true rfl) ⟨Nat.zero_le _, Nat.zero_le _⟩ rfl dX12_readValue_20 (fun H locs hR => ?_)
      refine lv_i2l hx hb dX12_readValue_23 rfl ?_
      obtain ⟨e1, e2⟩ := fr_s2 hsp
      exact fr_lret C hr hlocks hR e1 e2 dX12_readValue_24

/-! TermRowsModel.readBoth()Z -/
def z_X12_readBoth_b5 (S : fh_S) (a : Nat) (PF : fh_H → Nat → Option (Int32 × fh_H)) : Nat → fh_H → Int32 → Option (Int32 × fh_H)
  | 0, _, _ => none
  | n + 1, h, y1 =>
    fh_b1 (z_X12_isWord S h a 3) (fun r1 => if r1 = 0 then (fh_ck (decide (y1 = 0 ∨ y1 = 1)) (some (y1, h))) else (fh_b1 (z_X12_pass S h a) (fun h5 => fh_b2 (PF h5 a) (fun r7 h8 => if y1 = 0 then (z_X12_readBoth_b5 S a PF n h8 (0 : Int32)) else (if r7 = 0 then (z_X12_readBoth_b5 S a PF n h8 (0 : Int32)) else (z_X12_readBoth_b5 S a PF n h8 (1 : Int32)))))))
def z_X12_readBoth (S : fh_S) (PF : fh_H → Nat → Option (Int32 × fh_H)) (h : fh_H) (a : Nat) : Option (Int32 × fh_H) :=
    fh_b2 (PF h a) (fun r1 h2 => z_X12_readBoth_b5 S a PF 20000 h2 r1)
set_option maxHeartbeats 4000000 in
set_option maxRecDepth 100000 in
theorem k_X12_readBoth {l : Launch} {S : fh_S} {g : fh_G} {h h' : fh_H} {z : (Nat → Nat) × (Nat → Nat)} (hj : fh_inj S g) {d : Nat} {PF : fh_H → Nat → Option (Int32 × fh_H)} (hd : 8 ≤ d) (hPF : ∀ {h h' : fh_H} {b : Nat} {r : Int32}, fh_kq S b 12 = true → PF h b = some (r, h') → fx_M l yX12_readFact cX12_readFact 6 (some .boolean) (fh_rm d) S g z [.ref (g.2.2 b)] h (some (.int r)) h') {a : Nat} {r : Int32} (ha : fh_kq S a 12 = true) (hsp : z_X12_readBoth S PF h a = some (r, h')) : fx_M l yX12_readBoth cX12_readBoth 3 (some .boolean) (fh_rm (d + 1)) S g z [.ref (g.2.2 a)] h (some (.int r)) h' := by
  unfold z_X12_readBoth at hsp
  refine fz_head (own := RX12) (by decide) rfl hj (Nat.le_of_ble_eq_true rfl) ?_
  intro p e s m below meth c ls C EX hr hlocks hR hl
  have hl : lv_has ls 3 [(0, .ref (g.2.2 a))] := hl
  have hx := C.1.1
  have hb := C.1.2.1
  have hb_5 : ∀ (n : Nat) (h : fh_H) (y1 : Int32) (H : Heap) (locs : List Loc) (ls : Array Slot), z_X12_readBoth_b5 S a PF n h y1 = some (r, h') → fh_R S g s.heap h H locs → lv_has ls 3 [(0, .ref (g.2.2 a)), (1, .int y1)] → fh_Wk p l e (d + 1) s m [.ref (g.2.2 a)] below meth c S g (some (.int r)) h' H locs (F0 m 5 ls []) := by
    intro n
    induction n with
    | zero => intro h y1 H locs ls hsp; cases hsp
    | succ n ih =>
      intro h y1 H locs ls hsp hR hl
      rw [z_X12_readBoth_b5] at hsp
      refine lv_aload_n hx hb dX12_readBoth_5 rfl (lv_at hl 0 rfl) ?_
      refine fr_ldcwS hx hb C.1.2.2.2.1 (vs_RX12_511 EX) dX12_readBoth_6 ?_
      obtain ⟨r1, E2, hsp⟩ := fr_b1 hsp
      refine fz_cV (rest := []) (st1 := [.int r1]) C EX hR (k_X12_isWord C.2.2 ha (by decide) E2) Y_X12_isWord YV_X12_isWord Lk_RX12_479 (fz_rv C hR ha ⟨_, _, rfl, by decide⟩) rfl hl.1 ⟨by simp only [fh_rm]; omega, by simp only [fh_rm]; omega⟩ rfl (Nat.le_of_ble_eq_true rfl) ⟨Nat.le_of_ble_eq_true rfl, Nat.le_of_ble_eq_true rfl⟩ rfl dX12_readBoth_9 (fun H locs hR => ?_)
      refine lv_if_eq (tgt := 41) hx hb dX12_readBoth_12 (by decide) (fun c3 => ?_) (fun c3 => ?_)
      · rw [if_pos c3] at hsp
        refine lv_iload_n hx hb dX12_readBoth_41 rfl (lv_at hl 1 rfl) ?_
        obtain ⟨hz4, hsp⟩ := fr_ck hsp
        obtain ⟨e1, e2⟩ := fr_s2 hsp
        exact fr_zret C hr hlocks hR (of_decide_eq_true hz4) e1 e2 dX12_readBoth_42
      · rw [if_neg c3] at hsp
        refine lv_aload_n hx hb dX12_readBoth_15 rfl (lv_at hl 0 rfl) ?_
        obtain ⟨h5, E6, hsp⟩ := fr_b1 hsp
        refine fq_callV (rest := []) (st1 := []) C hR (k_X12_pass C.2.2 ha E6) Y_X12_pass YV_X12_pass Lk_RX12_437 ha ⟨_, _, rfl, by decide⟩ rfl hl.1 ⟨by simp only [fh_rm]; omega, by simp only [fh_rm]; omega⟩ rfl (Nat.le_of_ble_eq_true rfl) ⟨Nat.zero_le _, Nat.zero_le _⟩ rfl dX12_readBoth_16 (fun H locs hR => ?_)
        refine lv_aload_n hx hb dX12_readBoth_19 rfl (lv_at hl 0 rfl) ?_
        obtain ⟨r7, h8, E9, hsp⟩ := fr_b2 hsp
        refine fz_cV (rest := []) (st1 := [.int r7]) C EX hR (hPF ha E9) Y_X12_readFact YV_X12_readFact Lk_RX12_502 (fz_rv C hR ha ⟨_, _, rfl, by decide⟩) rfl hl.1 ⟨by simp only [fh_rm]; omega, by simp only [fh_rm]; omega⟩ rfl (Nat.le_of_ble_eq_true rfl) ⟨Nat.le_of_ble_eq_true rfl, Nat.le_of_ble_eq_true rfl⟩ rfl dX12_readBoth_20 (fun H locs hR => ?_)
        refine lv_istore_n (lv' := [(2, .int r7), (0, .ref (g.2.2 a)), (1, .int y1)]) hx hb dX12_readBoth_23 rfl hl (by decide) rfl (fun ls hl => ?_)
        refine lv_iload_n hx hb dX12_readBoth_24 rfl (lv_at hl 2 rfl) ?_
        refine lv_if_eq (tgt := 36) hx hb dX12_readBoth_25 (by decide) (fun c10 => ?_) (fun c10 => ?_)
        · rw [if_pos c10] at hsp
          refine lv_iconst (v := 0) hx hb dX12_readBoth_36 (by decide) ?_
          refine lv_istore_n (lv' := [(1, .int (0 : Int32)), (2, .int r7), (0, .ref (g.2.2 a))]) hx hb dX12_readBoth_37 rfl hl (by decide) rfl (fun ls hl => ?_)
          refine lv_goto (tgt := 5) hx hb dX12_readBoth_38 (by decide) ?_
          exact ih h8 (0 : Int32) _ _ _ hsp hR (lv_sub hl [2, 0] rfl)
        · rw [if_neg c10] at hsp
          refine lv_iload_n hx hb dX12_readBoth_28 rfl (lv_at hl 0 rfl) ?_
          refine lv_if_eq (tgt := 36) hx hb dX12_readBoth_29 (by decide) (fun c11 => ?_) (fun c11 => ?_)
          · rw [if_pos c11] at hsp
            refine lv_iconst (v := 0) hx hb dX12_readBoth_36 (by decide) ?_
            refine lv_istore_n (lv' := [(1, .int (0 : Int32)), (2, .int r7), (0, .ref (g.2.2 a))]) hx hb dX12_readBoth_37 rfl hl (by decide) rfl (fun ls hl => ?_)
            refine lv_goto (tgt := 5) hx hb dX12_readBoth_38 (by decide) ?_
            exact ih h8 (0 : Int32) _ _ _ hsp hR (lv_sub hl [2, 0] rfl)
          · rw [if_neg c11] at hsp
            refine lv_iconst (v := 1) hx hb dX12_readBoth_32 (by decide) ?_
            refine lv_goto (tgt := 37) hx hb dX12_readBoth_33 (by decide) ?_
            refine lv_istore_n (lv' := [(1, .int (1 : Int32)), (2, .int r7), (0, .ref (g.2.2 a))]) hx hb dX12_readBoth_37 rfl hl (by decide) rfl (fun ls hl => ?_)
            refine lv_goto (tgt := 5) hx hb dX12_readBoth_38 (by decide) ?_
            exact ih h8 (1 : Int32) _ _ _ hsp hR (lv_sub hl [2, 0] rfl)
  refine lv_aload_n hx hb dX12_readBoth_0 rfl (lv_at hl 0 rfl) ?_
  obtain ⟨r1, h2, E3, hsp⟩ := fr_b2 hsp
  refine fz_cV (rest := []) (st1 := [.int r1]) C EX hR (hPF ha E3) Y_X12_readFact YV_X12_readFact Lk_RX12_502 (fz_rv C hR ha ⟨_, _, rfl, by decide⟩) rfl hl.1 ⟨by simp only [fh_rm]; omega, by simp only [fh_rm]; omega⟩ rfl (Nat.le_of_ble_eq_true rfl) ⟨Nat.le_of_ble_eq_true rfl, Nat.le_of_ble_eq_true rfl⟩ rfl dX12_readBoth_1 (fun H locs hR => ?_)
  refine lv_istore_n (lv' := [(1, .int r1), (0, .ref (g.2.2 a))]) hx hb dX12_readBoth_4 rfl hl (by decide) rfl (fun ls hl => ?_)
  exact hb_5 20000 h2 r1 _ _ _ hsp hR (lv_sub hl [1, 0] rfl)

/-! TermRowsModel.readTest()Z -/
def z_X12_readTest_b5 (S : fh_S) (a : Nat) (PF : fh_H → Nat → Option (Int32 × fh_H)) : Nat → fh_H → Int32 → Option (Int32 × fh_H)
  | 0, _, _ => none
  | n + 1, h, y1 =>
    fh_b1 (z_X12_isWord S h a 2) (fun r1 => if r1 = 0 then (fh_ck (decide (y1 = 0 ∨ y1 = 1)) (some (y1, h))) else (fh_b1 (z_X12_pass S h a) (fun h5 => fh_b2 (z_X12_readBoth S PF h5 a) (fun r7 h8 => if y1 = 0 then (if r7 = 0 then (z_X12_readTest_b5 S a PF n h8 (0 : Int32)) else (z_X12_readTest_b5 S a PF n h8 (1 : Int32))) else (z_X12_readTest_b5 S a PF n h8 (1 : Int32))))))
def z_X12_readTest (S : fh_S) (PF : fh_H → Nat → Option (Int32 × fh_H)) (h : fh_H) (a : Nat) : Option (Int32 × fh_H) :=
    fh_b2 (z_X12_readBoth S PF h a) (fun r1 h2 => z_X12_readTest_b5 S a PF 20000 h2 r1)
set_option maxHeartbeats 4000000 in
set_option maxRecDepth 100000 in
theorem k_X12_readTest {l : Launch} {S : fh_S} {g : fh_G} {h h' : fh_H} {z : (Nat → Nat) × (Nat → Nat)} (hj : fh_inj S g) {d : Nat} {PF : fh_H → Nat → Option (Int32 × fh_H)} (hd : 8 ≤ d) (hPF : ∀ {h h' : fh_H} {b : Nat} {r : Int32}, fh_kq S b 12 = true → PF h b = some (r, h') → fx_M l yX12_readFact cX12_readFact 6 (some .boolean) (fh_rm d) S g z [.ref (g.2.2 b)] h (some (.int r)) h') {a : Nat} {r : Int32} (ha : fh_kq S a 12 = true) (hsp : z_X12_readTest S PF h a = some (r, h')) : fx_M l yX12_readTest cX12_readTest 3 (some .boolean) (fh_rm (d + 2)) S g z [.ref (g.2.2 a)] h (some (.int r)) h' := by
  unfold z_X12_readTest at hsp
  refine fz_head (own := RX12) (by decide) rfl hj (Nat.le_of_ble_eq_true rfl) ?_
  intro p e s m below meth c ls C EX hr hlocks hR hl
  have hl : lv_has ls 3 [(0, .ref (g.2.2 a))] := hl
  have hx := C.1.1
  have hb := C.1.2.1
  have hb_5 : ∀ (n : Nat) (h : fh_H) (y1 : Int32) (H : Heap) (locs : List Loc) (ls : Array Slot), z_X12_readTest_b5 S a PF n h y1 = some (r, h') → fh_R S g s.heap h H locs → lv_has ls 3 [(0, .ref (g.2.2 a)), (1, .int y1)] → fh_Wk p l e (d + 2) s m [.ref (g.2.2 a)] below meth c S g (some (.int r)) h' H locs (F0 m 5 ls []) := by
    intro n
    induction n with
    | zero => intro h y1 H locs ls hsp; cases hsp
    | succ n ih =>
      intro h y1 H locs ls hsp hR hl
      rw [z_X12_readTest_b5] at hsp
      refine lv_aload_n hx hb dX12_readTest_5 rfl (lv_at hl 0 rfl) ?_
      refine fr_ldcwS hx hb C.1.2.2.2.1 (vs_RX12_516 EX) dX12_readTest_6 ?_
      obtain ⟨r1, E2, hsp⟩ := fr_b1 hsp
      refine fz_cV (rest := []) (st1 := [.int r1]) C EX hR (k_X12_isWord C.2.2 ha (by decide) E2) Y_X12_isWord YV_X12_isWord Lk_RX12_479 (fz_rv C hR ha ⟨_, _, rfl, by decide⟩) rfl hl.1 ⟨by simp only [fh_rm]; omega, by simp only [fh_rm]; omega⟩ rfl (Nat.le_of_ble_eq_true rfl) ⟨Nat.le_of_ble_eq_true rfl, Nat.le_of_ble_eq_true rfl⟩ rfl dX12_readTest_9 (fun H locs hR => ?_)
      refine lv_if_eq (tgt := 41) hx hb dX12_readTest_12 (by decide) (fun c3 => ?_) (fun c3 => ?_)
      · rw [if_pos c3] at hsp
        refine lv_iload_n hx hb dX12_readTest_41 rfl (lv_at hl 1 rfl) ?_
        obtain ⟨hz4, hsp⟩ := fr_ck hsp
        obtain ⟨e1, e2⟩ := fr_s2 hsp
        exact fr_zret C hr hlocks hR (of_decide_eq_true hz4) e1 e2 dX12_readTest_42
      · rw [if_neg c3] at hsp
        refine lv_aload_n hx hb dX12_readTest_15 rfl (lv_at hl 0 rfl) ?_
        obtain ⟨h5, E6, hsp⟩ := fr_b1 hsp
        refine fq_callV (rest := []) (st1 := []) C hR (k_X12_pass C.2.2 ha E6) Y_X12_pass YV_X12_pass Lk_RX12_437 ha ⟨_, _, rfl, by decide⟩ rfl hl.1 ⟨by simp only [fh_rm]; omega, by simp only [fh_rm]; omega⟩ rfl (Nat.le_of_ble_eq_true rfl) ⟨Nat.zero_le _, Nat.zero_le _⟩ rfl dX12_readTest_16 (fun H locs hR => ?_)
        refine lv_aload_n hx hb dX12_readTest_19 rfl (lv_at hl 0 rfl) ?_
        obtain ⟨r7, h8, E9, hsp⟩ := fr_b2 hsp
        refine fz_cV (rest := []) (st1 := [.int r7]) C EX hR (k_X12_readBoth C.2.2 hd hPF ha E9) Y_X12_readBoth YV_X12_readBoth Lk_RX12_513 (fz_rv C hR ha ⟨_, _, rfl, by decide⟩) rfl hl.1 ⟨by simp only [fh_rm]; omega, by simp only [fh_rm]; omega⟩ rfl (Nat.le_of_ble_eq_true rfl) ⟨Nat.le_of_ble_eq_true rfl, Nat.le_of_ble_eq_true rfl⟩ rfl dX12_readTest_20 (fun H locs hR => ?_)
        refine lv_istore_n (lv' := [(2, .int r7), (0, .ref (g.2.2 a)), (1, .int y1)]) hx hb dX12_readTest_23 rfl hl (by decide) rfl (fun ls hl => ?_)
        refine lv_iload_n hx hb dX12_readTest_24 rfl (lv_at hl 2 rfl) ?_
        refine lv_if_ne (tgt := 32) hx hb dX12_readTest_25 (by decide) (fun c10 => ?_) (fun c10 => ?_)
        · rw [if_neg c10] at hsp
          refine lv_iconst (v := 1) hx hb dX12_readTest_32 (by decide) ?_
          refine lv_goto (tgt := 37) hx hb dX12_readTest_33 (by decide) ?_
          refine lv_istore_n (lv' := [(1, .int (1 : Int32)), (2, .int r7), (0, .ref (g.2.2 a))]) hx hb dX12_readTest_37 rfl hl (by decide) rfl (fun ls hl => ?_)
          refine lv_goto (tgt := 5) hx hb dX12_readTest_38 (by decide) ?_
          exact ih h8 (1 : Int32) _ _ _ hsp hR (lv_sub hl [2, 0] rfl)
        · rw [if_pos c10] at hsp
          refine lv_iload_n hx hb dX12_readTest_28 rfl (lv_at hl 0 rfl) ?_
          refine lv_if_eq (tgt := 36) hx hb dX12_readTest_29 (by decide) (fun c11 => ?_) (fun c11 => ?_)
          · rw [if_pos c11] at hsp
            refine lv_iconst (v := 0) hx hb dX12_readTest_36 (by decide) ?_
            refine lv_istore_n (lv' := [(1, .int (0 : Int32)), (2, .int r7), (0, .ref (g.2.2 a))]) hx hb dX12_readTest_37 rfl hl (by decide) rfl (fun ls hl => ?_)
            refine lv_goto (tgt := 5) hx hb dX12_readTest_38 (by decide) ?_
            exact ih h8 (0 : Int32) _ _ _ hsp hR (lv_sub hl [2, 0] rfl)
          · rw [if_neg c11] at hsp
            refine lv_iconst (v := 1) hx hb dX12_readTest_32 (by decide) ?_
            refine lv_goto (tgt := 37) hx hb dX12_readTest_33 (by decide) ?_
            refine lv_istore_n (lv' := [(1, .int (1 : Int32)), (2, .int r7), (0, .ref (g.2.2 a))]) hx hb dX12_readTest_37 rfl hl (by decide) rfl (fun ls hl => ?_)
            refine lv_goto (tgt := 5) hx hb dX12_readTest_38 (by decide) ?_
            exact ih h8 (1 : Int32) _ _ _ hsp hR (lv_sub hl [2, 0] rfl)
  refine lv_aload_n hx hb dX12_readTest_0 rfl (lv_at hl 0 rfl) ?_
  obtain ⟨r1, h2, E3, hsp⟩ := fr_b2 hsp
  refine fz_cV (rest := []) (st1 := [.int r1]) C EX hR (k_X12_readBoth C.2.2 hd hPF ha E3) Y_X12_readBoth YV_X12_readBoth Lk_RX12_513 (fz_rv C hR ha ⟨_, _, rfl, by decide⟩) rfl hl.1 ⟨by simp only [fh_rm]; omega, by simp only [fh_rm]; omega⟩ rfl (Nat.le_of_ble_eq_true rfl) ⟨Nat.le_of_ble_eq_true rfl, Nat.le_of_ble_eq_true rfl⟩ rfl dX12_readTest_1 (fun H locs hR => ?_)
  refine lv_istore_n (lv' := [(1, .int r1), (0, .ref (g.2.2 a))]) hx hb dX12_readTest_4 rfl hl (by decide) rfl (fun ls hl => ?_)
  exact hb_5 20000 h2 r1 _ _ _ hsp hR (lv_sub hl [1, 0] rfl)

/-! TermRowsModel.readFact()Z -/
def z_X12_readFact_b131 (S : fh_S) (a : Nat) (PF : fh_H → Nat → Option (Int32 × fh_H)) (h : fh_H) (y1 : Int64) (y3 : Int32) : Option (Int32 × fh_H) :=
    fh_b1 (z_X12_pass S h a) (fun h1 => fh_b2 (z_X12_readValue S h1 a) (fun r3 h4 => if 0 ≤ y3 then (if y3 = 0 then (if y1 = r3 then (some ((1 : Int32), h4)) else (some ((0 : Int32), h4))) else (if y1 ≤ r3 then (some ((0 : Int32), h4)) else (some ((1 : Int32), h4)))) else (if r3 ≤ y1 then (some ((0 : Int32), h4)) else (some ((1 : Int32), h4)))))
def z_X12_readFact_F (S : fh_S) (PF : fh_H → Nat → Option (Int32 × fh_H)) (h : fh_H) (a : Nat) : Option (Int32 × fh_H) :=
    fh_b1 (z_X12_isWord S h a 4) (fun r1 => if r1 = 0 then (fh_b1 (z_X12_isSign S h a (123 : Int32)) (fun r4 => if r4 = 0 then (fh_b2 (z_X12_readValue S h a) (fun r7 h8 => fh_b1 (z_X12_isSign S h8 a (60 : Int32)) (fun r10 => if r10 = 0 then (fh_b1 (z_X12_isSign S h8 a (61 : Int32)) (fun r13 => if r13 = 0 then (fh_b1 (z_X12_isSign S h8 a (62 : Int32)) (fun r16 => if r16 = 0 then (if (2 : Int32) = (2 : Int32) then (fh_b1 (z_X12_wrong S h8 a (1 : Int32)) (fun h20 => z_X12_readFact_b131 S a PF h20 r7 (2 : Int32))) else (z_X12_readFact_b131 S a PF h8 r7 (2 : Int32))) else (if (1 : Int32) = (2 : Int32) then (fh_b1 (z_X12_wrong S h8 a (1 : Int32)) (fun h23 => z_X12_readFact_b131 S a PF h23 r7 (1 : Int32))) else (z_X12_readFact_b131 S a PF h8 r7 (1 : Int32))))) else (if (0 : Int32) = (2 : Int32) then (fh_b1 (z_X12_wrong S h8 a (1 : Int32)) (fun h26 => z_X12_readFact_b131 S a PF h26 r7 (0 : Int32))) else (z_X12_readFact_b131 S a PF h8 r7 (0 : Int32))))) else (if (-1 : Int32) = (2 : Int32) then (fh_b1 (z_X12_wrong S h8 a (1 : Int32)) (fun h29 => z_X12_readFact_b131 S a PF h29 r7 (-1 : Int32))) else (z_X12_readFact_b131 S a PF h8 r7 (-1 : Int32)))))) else (fh_b1 (z_X12_goesIn S h a) (fun h31 => fh_b2 (z_X12_readTest S PF h31 a) (fun r33 h34 => fh_b1 (z_X12_must S h34 a (125 : Int32)) (fun h36 => fh_let (fh_sI h36 a 44 ((h36.1 a 44) - (1 : Int32))) (fun h38 => fh_ck (decide (r33 = 0 ∨ r33 = 1)) (some (r33, h38))))))))) else (fh_b1 (z_X12_goesIn S h a) (fun h40 => fh_b2 (PF h40 a) (fun r42 h43 => fh_let (fh_sI h43 a 44 ((h43.1 a 44) - (1 : Int32))) (fun h45 => if r42 = 0 then (some ((1 : Int32), h45)) else (some ((0 : Int32), h45)))))))
set_option maxHeartbeats 4000000 in
set_option maxRecDepth 100000 in
theorem k_X12_readFact_F {l : Launch} {S : fh_S} {g : fh_G} {h h' : fh_H} {z : (Nat → Nat) × (Nat → Nat)} (hj : fh_inj S g) {d : Nat} {PF : fh_H → Nat → Option (Int32 × fh_H)} (hd : 8 ≤ d) (hPF : ∀ {h h' : fh_H} {b : Nat} {r : Int32}, fh_kq S b 12 = true → PF h b = some (r, h') → fx_M l yX12_readFact cX12_readFact 6 (some .boolean) (fh_rm d) S g z [.ref (g.2.2 b)] h (some (.int r)) h') {a : Nat} {r : Int32} (ha : fh_kq S a 12 = true) (hsp : z_X12_readFact_F S PF h a = some (r, h')) : fx_M l yX12_readFact cX12_readFact 6 (some .boolean) (fh_rm (d + 3)) S g z [.ref (g.2.2 a)] h (some (.int r)) h' := by
  unfold z_X12_readFact_F at hsp
  refine fz_head (own := RX12) (by decide) rfl hj (Nat.le_of_ble_eq_true rfl) ?_
  intro p e s m below meth c ls C EX hr hlocks hR hl
  have hl : lv_has ls 6 [(0, .ref (g.2.2 a))] := hl
  have hx := C.1.1
  have hb := C.1.2.1
  have hb_131 : ∀ (h : fh_H) (y1 : Int64) (y3 : Int32) (H : Heap) (locs : List Loc) (ls : Array Slot), z_X12_readFact_b131 S a PF h y1 y3 = some (r, h') → fh_R S g s.heap h H locs → lv_has ls 6 [(0, .ref (g.2.2 a)), (1, .long y1), (3, .int y3)] → fh_Wk p l e (d + 3) s m [.ref (g.2.2 a)] below meth c S g (some (.int r)) h' H locs (F0 m 131 ls []) := by
    intro h y1 y3 H locs ls hsp hR hl
    unfold z_X12_readFact_b131 at hsp
    refine lv_aload_n hx hb dX12_readFact_131 rfl (lv_at hl 0 rfl) ?_
    obtain ⟨h1, E2, hsp⟩ := fr_b1 hsp
    refine fq_callV (rest := []) (st1 := []) C hR (k_X12_pass C.2.2 ha E2) Y_X12_pass YV_X12_pass Lk_RX12_437 ha ⟨_, _, rfl, by decide⟩ rfl hl.1 ⟨by simp only [fh_rm]; omega, by simp only [fh_rm]; omega⟩ rfl (Nat.le_of_ble_eq_true rfl) ⟨Nat.zero_le _, Nat.zero_le _⟩ rfl dX12_readFact_132 (fun H locs hR => ?_)
    refine lv_aload_n hx hb dX12_readFact_135 rfl (lv_at hl 0 rfl) ?_
    obtain ⟨r3, h4, E5, hsp⟩ := fr_b2 hsp
    refine fz_cV (rest := []) (st1 := [.long r3]) C EX hR (k_X12_readValue C.2.2 ha E5) Y_X12_readValue YV_X12_readValue Lk_RX12_508 (fz_rv C hR ha ⟨_, _, rfl, by decide⟩) rfl hl.1 ⟨by simp only [fh_rm]; omega, by simp only [fh_rm]; omega⟩ rfl (Nat.le_of_ble_eq_true rfl) ⟨Nat.le_of_ble_eq_true rfl, Nat.le_of_ble_eq_true rfl⟩ rfl dX12_readFact_136 (fun H locs hR => ?_)
    refine lv_lstore (lv' := [(4, .long r3), (0, .ref (g.2.2 a)), (1, .long y1), (3, .int y3)]) hx hb dX12_readFact_139 hl (by decide) rfl (fun ls hl => ?_)
    refine lv_iload_n hx hb dX12_readFact_141 rfl (lv_at hl 3 rfl) ?_
    refine lv_if_ge (tgt := 160) hx hb dX12_readFact_142 (by decide) (fun c6 => ?_) (fun c6 => ?_)
    · rw [if_pos c6] at hsp
      refine lv_iload_n hx hb dX12_readFact_160 rfl (lv_at hl 3 rfl) ?_
      refine lv_if_ne (tgt := 179) hx hb dX12_readFact_161 (by decide) (fun c7 => ?_) (fun c7 => ?_)
      · rw [if_neg c7] at hsp
        refine lv_lload_n hx hb dX12_readFact_179 rfl (lv_at hl 2 rfl) ?_
        refine lv_lload hx hb dX12_readFact_180 (lv_at hl 0 rfl) ?_
        refine fr_lc_le (tgt := 190) hx hb dX12_readFact_182 dX12_readFact_183 (by decide) (fun c8 => ?_) (fun c8 => ?_)
        · rw [if_pos c8] at hsp
          refine lv_iconst (v := 0) hx hb dX12_readFact_190 (by decide) ?_
          obtain ⟨e1, e2⟩ := fr_s2 hsp
          exact fr_zret C hr hlocks hR (Or.inl rfl) e1 e2 dX12_readFact_191
        · rw [if_neg c8] at hsp
          refine lv_iconst (v := 1) hx hb dX12_readFact_186 (by decide) ?_
          refine lv_goto (tgt := 191) hx hb dX12_readFact_187 (by decide) ?_
          obtain ⟨e1, e2⟩ := fr_s2 hsp
          exact fr_zret C hr hlocks hR (Or.inr rfl) e1 e2 dX12_readFact_191
      · rw [if_pos c7] at hsp
        refine lv_lload_n hx hb dX12_readFact_164 rfl (lv_at hl 2 rfl) ?_
        refine lv_lload hx hb dX12_readFact_165 (lv_at hl 0 rfl) ?_
        refine fr_lc_ne (tgt := 175) hx hb dX12_readFact_167 dX12_readFact_168 (by decide) (fun c9 => ?_) (fun c9 => ?_)
        · rw [if_neg c9] at hsp
          refine lv_iconst (v := 0) hx hb dX12_readFact_175 (by decide) ?_
          refine lv_goto (tgt := 191) hx hb dX12_readFact_176 (by decide) ?_
          obtain ⟨e1, e2⟩ := fr_s2 hsp
          exact fr_zret C hr hlocks hR (Or.inl rfl) e1 e2 dX12_readFact_191
        · rw [if_pos c9] at hsp
          refine lv_iconst (v := 1) hx hb dX12_readFact_171 (by decide) ?_
          refine lv_goto (tgt := 191) hx hb dX12_readFact_172 (by decide) ?_
          obtain ⟨e1, e2⟩ := fr_s2 hsp
          exact fr_zret C hr hlocks hR (Or.inr rfl) e1 e2 dX12_readFact_191
    · rw [if_neg c6] at hsp
      refine lv_lload_n hx hb dX12_readFact_145 rfl (lv_at hl 2 rfl) ?_
      refine lv_lload hx hb dX12_readFact_146 (lv_at hl 0 rfl) ?_
      refine fr_lc_ge (tgt := 156) hx hb dX12_readFact_148 dX12_readFact_149 (by decide) (fun c10 => ?_) (fun c10 => ?_)
      · rw [if_pos c10] at hsp
        refine lv_iconst (v := 0) hx hb dX12_readFact_156 (by decide) ?_
        refine lv_goto (tgt := 191) hx hb dX12_readFact_157 (by decide) ?_
        obtain ⟨e1, e2⟩ := fr_s2 hsp
        exact fr_zret C hr hlocks hR (Or.inl rfl) e1 e2 dX12_readFact_191
      · rw [if_neg c10] at hsp
        refine lv_iconst (v := 1) hx hb dX12_readFact_152 (by decide) ?_
        refine lv_goto (tgt := 191) hx hb dX12_readFact_153 (by decide) ?_
        obtain ⟨e1, e2⟩ := fr_s2 hsp
        exact fr_zret C hr hlocks hR (Or.inr rfl) e1 e2 dX12_readFact_191
  refine lv_aload_n hx hb dX12_readFact_0 rfl (lv_at hl 0 rfl) ?_
  refine fr_ldcwS hx hb C.1.2.2.2.1 (vs_RX12_497 EX) dX12_readFact_1 ?_
  obtain ⟨r1, E2, hsp⟩ := fr_b1 hsp
  refine fz_cV (rest := []) (st1 := [.int r1]) C EX hR (k_X12_isWord C.2.2 ha (by decide) E2) Y_X12_isWord YV_X12_isWord Lk_RX12_479 (fz_rv C hR ha ⟨_, _, rfl, by decide⟩) rfl hl.1 ⟨by simp only [fh_rm]; omega, by simp only [fh_rm]; omega⟩ rfl (Nat.le_of_ble_eq_true rfl) ⟨Nat.le_of_ble_eq_true rfl, Nat.le_of_ble_eq_true rfl⟩ rfl dX12_readFact_4 (fun H locs hR => ?_)
  refine lv_if_eq (tgt := 39) hx hb dX12_readFact_7 (by decide) (fun c3 => ?_) (fun c3 => ?_)
  · rw [if_pos c3] at hsp
    refine lv_aload_n hx hb dX12_readFact_39 rfl (lv_at hl 0 rfl) ?_
    refine lv_bipush (v := 123) hx hb dX12_readFact_40 (by decide) ?_
    obtain ⟨r4, E5, hsp⟩ := fr_b1 hsp
    refine fq_callV (rest := []) (st1 := [.int r4]) C hR (k_X12_isSign C.2.2 ha E5) Y_X12_isSign YV_X12_isSign Lk_RX12_431 ha ⟨_, _, rfl, by decide⟩ rfl hl.1 ⟨by simp only [fh_rm]; omega, by simp only [fh_rm]; omega⟩ rfl (Nat.le_of_ble_eq_true rfl) ⟨Nat.zero_le _, Nat.zero_le _⟩ rfl dX12_readFact_42 (fun H locs hR => ?_)
    refine lv_if_eq (tgt := 75) hx hb dX12_readFact_45 (by decide) (fun c6 => ?_) (fun c6 => ?_)
    · rw [if_pos c6] at hsp
      refine lv_aload_n hx hb dX12_readFact_75 rfl (lv_at hl 0 rfl) ?_
      obtain ⟨r7, h8, E9, hsp⟩ := fr_b2 hsp
      refine fz_cV (rest := []) (st1 := [.long r7]) C EX hR (k_X12_readValue C.2.2 ha E9) Y_X12_readValue YV_X12_readValue Lk_RX12_508 (fz_rv C hR ha ⟨_, _, rfl, by decide⟩) rfl hl.1 ⟨by simp only [fh_rm]; omega, by simp only [fh_rm]; omega⟩ rfl (Nat.le_of_ble_eq_true rfl) ⟨Nat.le_of_ble_eq_true rfl, Nat.le_of_ble_eq_true rfl⟩ rfl dX12_readFact_76 (fun H locs hR => ?_)
      refine lv_lstore_n (lv' := [(1, .long r7), (0, .ref (g.2.2 a))]) hx hb dX12_readFact_79 rfl hl (by decide) rfl (fun ls hl => ?_)
      refine lv_aload_n hx hb dX12_readFact_80 rfl (lv_at hl 1 rfl) ?_
      refine lv_bipush (v := 60) hx hb dX12_readFact_81 (by decide) ?_
      obtain ⟨r10, E11, hsp⟩ := fr_b1 hsp
      refine fq_callV (rest := []) (st1 := [.int r10]) C hR (k_X12_isSign C.2.2 ha E11) Y_X12_isSign YV_X12_isSign Lk_RX12_431 ha ⟨_, _, rfl, by decide⟩ rfl hl.1 ⟨by simp only [fh_rm]; omega, by simp only [fh_rm]; omega⟩ rfl (Nat.le_of_ble_eq_true rfl) ⟨Nat.zero_le _, Nat.zero_le _⟩ rfl dX12_readFact_83 (fun H locs hR => ?_)
      refine lv_if_eq (tgt := 93) hx hb dX12_readFact_86 (by decide) (fun c12 => ?_) (fun c12 => ?_)
      · rw [if_pos c12] at hsp
        refine lv_aload_n hx hb dX12_readFact_93 rfl (lv_at hl 1 rfl) ?_
        refine lv_bipush (v := 61) hx hb dX12_readFact_94 (by decide) ?_
        obtain ⟨r13, E14, hsp⟩ := fr_b1 hsp
        refine fq_callV (rest := []) (st1 := [.int r13]) C hR (k_X12_isSign C.2.2 ha E14) Y_X12_isSign YV_X12_isSign Lk_RX12_431 ha ⟨_, _, rfl, by decide⟩ rfl hl.1 ⟨by simp only [fh_rm]; omega, by simp only [fh_rm]; omega⟩ rfl (Nat.le_of_ble_eq_true rfl) ⟨Nat.zero_le _, Nat.zero_le _⟩ rfl dX12_readFact_96 (fun H locs hR => ?_)
        refine lv_if_eq (tgt := 106) hx hb dX12_readFact_99 (by decide) (fun c15 => ?_) (fun c15 => ?_)
        · rw [if_pos c15] at hsp
          refine lv_aload_n hx hb dX12_readFact_106 rfl (lv_at hl 1 rfl) ?_
          refine lv_bipush (v := 62) hx hb dX12_readFact_107 (by decide) ?_
          obtain ⟨r16, E17, hsp⟩ := fr_b1 hsp
          refine fq_callV (rest := []) (st1 := [.int r16]) C hR (k_X12_isSign C.2.2 ha E17) Y_X12_isSign YV_X12_isSign Lk_RX12_431 ha ⟨_, _, rfl, by decide⟩ rfl hl.1 ⟨by simp only [fh_rm]; omega, by simp only [fh_rm]; omega⟩ rfl (Nat.le_of_ble_eq_true rfl) ⟨Nat.zero_le _, Nat.zero_le _⟩ rfl dX12_readFact_109 (fun H locs hR => ?_)
          refine lv_if_eq (tgt := 119) hx hb dX12_readFact_112 (by decide) (fun c18 => ?_) (fun c18 => ?_)
          · rw [if_pos c18] at hsp
            refine lv_iconst (v := 2) hx hb dX12_readFact_119 (by decide) ?_
            refine lv_istore_n (lv' := [(3, .int (2 : Int32)), (1, .long r7), (0, .ref (g.2.2 a))]) hx hb dX12_readFact_120 rfl hl (by decide) rfl (fun ls hl => ?_)
            refine lv_iload_n hx hb dX12_readFact_121 rfl (lv_at hl 0 rfl) ?_
            refine lv_iconst (v := 2) hx hb dX12_readFact_122 (by decide) ?_
            refine lv_icmp_ne (tgt := 131) hx hb dX12_readFact_123 (by decide) (fun c19 => ?_) (fun c19 => ?_)
            · rw [if_neg c19] at hsp
              exact hb_131 h8 r7 (2 : Int32) _ _ _ hsp hR (lv_sub hl [2, 1, 0] rfl)
            · rw [if_pos c19] at hsp
              refine lv_aload_n hx hb dX12_readFact_126 rfl (lv_at hl 2 rfl) ?_
              refine lv_iconst (v := 1) hx hb dX12_readFact_127 (by decide) ?_
              obtain ⟨h20, E21, hsp⟩ := fr_b1 hsp
              refine fq_callV (rest := []) (st1 := []) C hR (k_X12_wrong C.2.2 ha E21) Y_X12_wrong YV_X12_wrong Lk_RX12_434 ha ⟨_, _, rfl, by decide⟩ rfl hl.1 ⟨by simp only [fh_rm]; omega, by simp only [fh_rm]; omega⟩ rfl (Nat.le_of_ble_eq_true rfl) ⟨Nat.zero_le _, Nat.zero_le _⟩ rfl dX12_readFact_128 (fun H locs hR => ?_)
              exact hb_131 h20 r7 (2 : Int32) _ _ _ hsp hR (lv_sub hl [2, 1, 0] rfl)
          · rw [if_neg c18] at hsp
            refine lv_iconst (v := 1) hx hb dX12_readFact_115 (by decide) ?_
            refine lv_goto (tgt := 120) hx hb dX12_readFact_116 (by decide) ?_
            refine lv_istore_n (lv' := [(3, .int (1 : Int32)), (1, .long r7), (0, .ref (g.2.2 a))]) hx hb dX12_readFact_120 rfl hl (by decide) rfl (fun ls hl => ?_)
            refine lv_iload_n hx hb dX12_readFact_121 rfl (lv_at hl 0 rfl) ?_
            refine lv_iconst (v := 2) hx hb dX12_readFact_122 (by decide) ?_
            refine lv_icmp_ne (tgt := 131) hx hb dX12_readFact_123 (by decide) (fun c22 => ?_) (fun c22 => ?_)
            · rw [if_neg c22] at hsp
              exact hb_131 h8 r7 (1 : Int32) _ _ _ hsp hR (lv_sub hl [2, 1, 0] rfl)
            · rw [if_pos c22] at hsp
              refine lv_aload_n hx hb dX12_readFact_126 rfl (lv_at hl 2 rfl) ?_
              refine lv_iconst (v := 1) hx hb dX12_readFact_127 (by decide) ?_
              obtain ⟨h23, E24, hsp⟩ := fr_b1 hsp
              refine fq_callV (rest := []) (st1 := []) C hR (k_X12_wrong C.2.2 ha E24) Y_X12_wrong YV_X12_wrong Lk_RX12_434 ha ⟨_, _, rfl, by decide⟩ rfl hl.1 ⟨by simp only [fh_rm]; omega, by simp only [fh_rm]; omega⟩ rfl (Nat.le_of_ble_eq_true rfl) ⟨Nat.zero_le _, Nat.zero_le _⟩ rfl dX12_readFact_128 (fun H locs hR => ?_)
              exact hb_131 h23 r7 (1 : Int32) _ _ _ hsp hR (lv_sub hl [2, 1, 0] rfl)
        · rw [if_neg c15] at hsp
          refine lv_iconst (v := 0) hx hb dX12_readFact_102 (by decide) ?_
          refine lv_goto (tgt := 120) hx hb dX12_readFact_103 (by decide) ?_
          refine lv_istore_n (lv' := [(3, .int (0 : Int32)), (1, .long r7), (0, .ref (g.2.2 a))]) hx hb dX12_readFact_120 rfl hl (by decide) rfl (fun ls hl => ?_)
          refine lv_iload_n hx hb dX12_readFact_121 rfl (lv_at hl 0 rfl) ?_
          refine lv_iconst (v := 2) hx hb dX12_readFact_122 (by decide) ?_
          refine lv_icmp_ne (tgt := 131) hx hb dX12_readFact_123 (by decide) (fun c25 => ?_) (fun c25 => ?_)
          · rw [if_neg c25] at hsp
            exact hb_131 h8 r7 (0 : Int32) _ _ _ hsp hR (lv_sub hl [2, 1, 0] rfl)
          · rw [if_pos c25] at hsp
            refine lv_aload_n hx hb dX12_readFact_126 rfl (lv_at hl 2 rfl) ?_
            refine lv_iconst (v := 1) hx hb dX12_readFact_127 (by decide) ?_
            obtain ⟨h26, E27, hsp⟩ := fr_b1 hsp
            refine fq_callV (rest := []) (st1 := []) C hR (k_X12_wrong C.2.2 ha E27) Y_X12_wrong YV_X12_wrong Lk_RX12_434 ha ⟨_, _, rfl, by decide⟩ rfl hl.1 ⟨by simp only [fh_rm]; omega, by simp only [fh_rm]; omega⟩ rfl (Nat.le_of_ble_eq_true rfl) ⟨Nat.zero_le _, Nat.zero_le _⟩ rfl dX12_readFact_128 (fun H locs hR => ?_)
            exact hb_131 h26 r7 (0 : Int32) _ _ _ hsp hR (lv_sub hl [2, 1, 0] rfl)
      · rw [if_neg c12] at hsp
        refine lv_iconst (v := -1) hx hb dX12_readFact_89 (by decide) ?_
        refine lv_goto (tgt := 120) hx hb dX12_readFact_90 (by decide) ?_
        refine lv_istore_n (lv' := [(3, .int (-1 : Int32)), (1, .long r7), (0, .ref (g.2.2 a))]) hx hb dX12_readFact_120 rfl hl (by decide) rfl (fun ls hl => ?_)
        refine lv_iload_n hx hb dX12_readFact_121 rfl (lv_at hl 0 rfl) ?_
        refine lv_iconst (v := 2) hx hb dX12_readFact_122 (by decide) ?_
        refine lv_icmp_ne (tgt := 131) hx hb dX12_readFact_123 (by decide) (fun c28 => ?_) (fun c28 => ?_)
        · rw [if_neg c28] at hsp
          exact hb_131 h8 r7 (-1 : Int32) _ _ _ hsp hR (lv_sub hl [2, 1, 0] rfl)
        · rw [if_pos c28] at hsp
          refine lv_aload_n hx hb dX12_readFact_126 rfl (lv_at hl 2 rfl) ?_
          refine lv_iconst (v := 1) hx hb dX12_readFact_127 (by decide) ?_
          obtain ⟨h29, E30, hsp⟩ := fr_b1 hsp
          refine fq_callV (rest := []) (st1 := []) C hR (k_X12_wrong C.2.2 ha E30) Y_X12_wrong YV_X12_wrong Lk_RX12_434 ha ⟨_, _, rfl, by decide⟩ rfl hl.1 ⟨by simp only [fh_rm]; omega, by simp only [fh_rm]; omega⟩ rfl (Nat.le_of_ble_eq_true rfl) ⟨Nat.zero_le _, Nat.zero_le _⟩ rfl dX12_readFact_128 (fun H locs hR => ?_)
          exact hb_131 h29 r7 (-1 : Int32) _ _ _ hsp hR (lv_sub hl [2, 1, 0] rfl)
    · rw [if_neg c6] at hsp
      refine lv_aload_n hx hb dX12_readFact_48 rfl (lv_at hl 0 rfl) ?_
      obtain ⟨h31, E32, hsp⟩ := fr_b1 hsp
      refine fq_callV (rest := []) (st1 := []) C hR (k_X12_goesIn C.2.2 ha E32) Y_X12_goesIn YV_X12_goesIn Lk_RX12_499 ha ⟨_, _, rfl, by decide⟩ rfl hl.1 ⟨by simp only [fh_rm]; omega, by simp only [fh_rm]; omega⟩ rfl (Nat.le_of_ble_eq_true rfl) ⟨Nat.zero_le _, Nat.zero_le _⟩ rfl dX12_readFact_49 (fun H locs hR => ?_)
      refine lv_aload_n hx hb dX12_readFact_52 rfl (lv_at hl 0 rfl) ?_
      obtain ⟨r33, h34, E35, hsp⟩ := fr_b2 hsp
      refine fz_cV (rest := []) (st1 := [.int r33]) C EX hR (k_X12_readTest C.2.2 hd hPF ha E35) Y_X12_readTest YV_X12_readTest Lk_RX12_505 (fz_rv C hR ha ⟨_, _, rfl, by decide⟩) rfl hl.1 ⟨by simp only [fh_rm]; omega, by simp only [fh_rm]; omega⟩ rfl (Nat.le_of_ble_eq_true rfl) ⟨Nat.le_of_ble_eq_true rfl, Nat.le_of_ble_eq_true rfl⟩ rfl dX12_readFact_53 (fun H locs hR => ?_)
      refine lv_istore_n (lv' := [(1, .int r33), (0, .ref (g.2.2 a))]) hx hb dX12_readFact_56 rfl hl (by decide) rfl (fun ls hl => ?_)
      refine lv_aload_n hx hb dX12_readFact_57 rfl (lv_at hl 1 rfl) ?_
      refine lv_bipush (v := 125) hx hb dX12_readFact_58 (by decide) ?_
      obtain ⟨h36, E37, hsp⟩ := fr_b1 hsp
      refine fq_callV (rest := []) (st1 := []) C hR (k_X12_must C.2.2 ha E37) Y_X12_must YV_X12_must Lk_RX12_447 ha ⟨_, _, rfl, by decide⟩ rfl hl.1 ⟨by simp only [fh_rm]; omega, by simp only [fh_rm]; omega⟩ rfl (Nat.le_of_ble_eq_true rfl) ⟨Nat.zero_le _, Nat.zero_le _⟩ rfl dX12_readFact_60 (fun H locs hR => ?_)
      refine lv_aload_n hx hb dX12_readFact_63 rfl (lv_at hl 1 rfl) ?_
      refine lv_dup hx hb dX12_readFact_64 rfl ?_
      refine fr_geti C hR ha Fg_RX12_413 rfl dX12_readFact_65 ?_
      refine lv_iconst (v := 1) hx hb dX12_readFact_68 (by decide) ?_
      refine lv_isub hx hb dX12_readFact_69 ?_
      refine fr_puti C hR ha Fp_RX12_413 rfl dX12_readFact_70 (fun H locs hR => ?_)
      obtain ⟨h38, eh38⟩ : ∃ z, z = fh_sI h36 a 44 ((h36.1 a 44) - (1 : Int32)) := ⟨_, rfl⟩
      rw [← eh38] at hR
      have hsp := fr_let eh38 hsp
      refine lv_iload_n hx hb dX12_readFact_73 rfl (lv_at hl 0 rfl) ?_
      obtain ⟨hz39, hsp⟩ := fr_ck hsp
      obtain ⟨e1, e2⟩ := fr_s2 hsp
      exact fr_zret C hr hlocks hR (of_decide_eq_true hz39) e1 e2 dX12_readFact_74
  · rw [if_neg c3] at hsp
    refine lv_aload_n hx hb dX12_readFact_10 rfl (lv_at hl 0 rfl) ?_
    obtain ⟨h40, E41, hsp⟩ := fr_b1 hsp
    refine fq_callV (rest := []) (st1 := []) C hR (k_X12_goesIn C.2.2 ha E41) Y_X12_goesIn YV_X12_goesIn Lk_RX12_499 ha ⟨_, _, rfl, by decide⟩ rfl hl.1 ⟨by simp only [fh_rm]; omega, by simp only [fh_rm]; omega⟩ rfl (Nat.le_of_ble_eq_true rfl) ⟨Nat.zero_le _, Nat.zero_le _⟩ rfl dX12_readFact_11 (fun H locs hR => ?_)
    refine lv_aload_n hx hb dX12_readFact_14 rfl (lv_at hl 0 rfl) ?_
    obtain ⟨r42, h43, E44, hsp⟩ := fr_b2 hsp
    refine fz_cV (rest := []) (st1 := [.int r42]) C EX hR (hPF ha E44) Y_X12_readFact YV_X12_readFact Lk_RX12_502 (fz_rv C hR ha ⟨_, _, rfl, by decide⟩) rfl hl.1 ⟨by simp only [fh_rm]; omega, by simp only [fh_rm]; omega⟩ rfl (Nat.le_of_ble_eq_true rfl) ⟨Nat.le_of_ble_eq_true rfl, Nat.le_of_ble_eq_true rfl⟩ rfl dX12_readFact_15 (fun H locs hR => ?_)
    refine lv_istore_n (lv' := [(1, .int r42), (0, .ref (g.2.2 a))]) hx hb dX12_readFact_18 rfl hl (by decide) rfl (fun ls hl => ?_)
    refine lv_aload_n hx hb dX12_readFact_19 rfl (lv_at hl 1 rfl) ?_
    refine lv_dup hx hb dX12_readFact_20 rfl ?_
    refine fr_geti C hR ha Fg_RX12_413 rfl dX12_readFact_21 ?_
    refine lv_iconst (v := 1) hx hb dX12_readFact_24 (by decide) ?_
    refine lv_isub hx hb dX12_readFact_25 ?_
    refine fr_puti C hR ha Fp_RX12_413 rfl dX12_readFact_26 (fun H locs hR => ?_)
    obtain ⟨h45, eh45⟩ : ∃ z, z = fh_sI h43 a 44 ((h43.1 a 44) - (1 : Int32)) := ⟨_, rfl⟩
    rw [← eh45] at hR
    have hsp := fr_let eh45 hsp
    refine lv_iload_n hx hb dX12_readFact_29 rfl (lv_at hl 0 rfl) ?_
    refine lv_if_ne (tgt := 37) hx hb dX12_readFact_30 (by decide) (fun c46 => ?_) (fun c46 => ?_)
    · rw [if_neg c46] at hsp
      refine lv_iconst (v := 0) hx hb dX12_readFact_37 (by decide) ?_
      obtain ⟨e1, e2⟩ := fr_s2 hsp
      exact fr_zret C hr hlocks hR (Or.inl rfl) e1 e2 dX12_readFact_38
    · rw [if_pos c46] at hsp
      refine lv_iconst (v := 1) hx hb dX12_readFact_33 (by decide) ?_
      refine lv_goto (tgt := 38) hx hb dX12_readFact_34 (by decide) ?_
      obtain ⟨e1, e2⟩ := fr_s2 hsp
      exact fr_zret C hr hlocks hR (Or.inr rfl) e1 e2 dX12_readFact_38
def z_X12_readFact (S : fh_S) : Nat → fh_H → Nat → Option (Int32 × fh_H)
  | 0, _, _ => none
  | n + 1, h, a => z_X12_readFact_F S (z_X12_readFact S n) h a
theorem k_X12_readFact {l : Launch} {S : fh_S} {g : fh_G} {z : (Nat → Nat) × (Nat → Nat)} (hj : fh_inj S g) : ∀ (n : Nat) {h h' : fh_H} {a : Nat} {r : Int32}, fh_kq S a 12 = true → z_X12_readFact S n h a = some (r, h') → fx_M l yX12_readFact cX12_readFact 6 (some .boolean) (fh_rm (8 + 3 * n)) S g z [.ref (g.2.2 a)] h (some (.int r)) h' := by
  intro n
  induction n with
  | zero => intro h h' a r ha hsp; cases hsp
  | succ n ih =>
    intro h h' a r ha hsp
    rw [z_X12_readFact] at hsp
    have q := k_X12_readFact_F hj (d := 8 + 3 * n) (PF := z_X12_readFact S n) (Nat.le_add_right _ _) (fun ha E => ih ha E) ha hsp
    rw [show 8 + 3 * (n + 1) = 8 + 3 * n + 3 by omega]
    exact q

/-! TermRowsModel.readQuestion(II)Z -/
def z_X12_readQuestion_b35 (S : fh_S) (a : Nat) (h : fh_H) : Option (Int32 × fh_H) :=
    fh_b1 (z_X12_pass S h a) (fun h1 => fh_b2 (z_X12_readTest S (z_X12_readFact S 40) h1 a) (fun r3 h4 => if (h4.1 a 41) = 0 then (if (h4.1 a 38) = 0 then (fh_ck (decide (r3 = 0 ∨ r3 = 1)) (some (r3, h4))) else (fh_b1 (z_X12_wrong S h4 a (1 : Int32)) (fun h10 => fh_ck (decide (r3 = 0 ∨ r3 = 1)) (some (r3, h10))))) else (fh_ck (decide (r3 = 0 ∨ r3 = 1)) (some (r3, h4)))))
def z_X12_readQuestion (S : fh_S) (h : fh_H) (a : Nat) (x1 : Int32) (x2 : Int32) : Option (Int32 × fh_H) :=
    fh_let (fh_sI h a 48 x2) (fun h1 => fh_b1 (z_X12_opens S h1 a x1) (fun h2 => fh_b1 (z_X12_isWord S h2 a 0) (fun r4 => if r4 = 0 then (fh_b1 (z_X12_isWord S h2 a 1) (fun r7 => if r7 = 0 then (fh_b1 (z_X12_wrong S h2 a (1 : Int32)) (fun h10 => z_X12_readQuestion_b35 S a h10)) else (z_X12_readQuestion_b35 S a h2))) else (z_X12_readQuestion_b35 S a h2))))
set_option maxHeartbeats 4000000 in
set_option maxRecDepth 100000 in
theorem k_X12_readQuestion {l : Launch} {S : fh_S} {g : fh_G} {h h' : fh_H} {z : (Nat → Nat) × (Nat → Nat)} (hj : fh_inj S g) {a : Nat} {x1 : Int32} {x2 : Int32} {r : Int32} (ha : fh_kq S a 12 = true) (hsp : z_X12_readQuestion S h a x1 x2 = some (r, h')) : fx_M l yX12_readQuestion cX12_readQuestion 4 (some .boolean) (fh_rm 131) S g z [.ref (g.2.2 a), .int x1, .int x2] h (some (.int r)) h' := by
  unfold z_X12_readQuestion at hsp
  refine fz_head (own := RX12) (by decide) rfl hj (Nat.le_of_ble_eq_true rfl) ?_
  intro p e s m below meth c ls C EX hr hlocks hR hl
  have hl : lv_has ls 4 [(0, .ref (g.2.2 a)), (1, .int x1), (2, .int x2)] := hl
  have hx := C.1.1
  have hb := C.1.2.1
  have hb_35 : ∀ (h : fh_H) (H : Heap) (locs : List Loc) (ls : Array Slot), z_X12_readQuestion_b35 S a h = some (r, h') → fh_R S g s.heap h H locs → lv_has ls 4 [(0, .ref (g.2.2 a))] → fh_Wk p l e 131 s m [.ref (g.2.2 a), .int x1, .int x2] below meth c S g (some (.int r)) h' H locs (F0 m 35 ls []) := by
    intro h  H locs ls hsp hR hl
    unfold z_X12_readQuestion_b35 at hsp
    refine lv_aload_n hx hb dX12_readQuestion_35 rfl (lv_at hl 0 rfl) ?_
    obtain ⟨h1, E2, hsp⟩ := fr_b1 hsp
    refine fq_callV (rest := []) (st1 := []) C hR (k_X12_pass C.2.2 ha E2) Y_X12_pass YV_X12_pass Lk_RX12_437 ha ⟨_, _, rfl, by decide⟩ rfl hl.1 ⟨Nat.le_of_ble_eq_true rfl, Nat.le_of_ble_eq_true rfl⟩ rfl (Nat.le_of_ble_eq_true rfl) ⟨Nat.zero_le _, Nat.zero_le _⟩ rfl dX12_readQuestion_36 (fun H locs hR => ?_)
    refine lv_aload_n hx hb dX12_readQuestion_39 rfl (lv_at hl 0 rfl) ?_
    obtain ⟨r3, h4, E5, hsp⟩ := fr_b2 hsp
    refine fz_cV (rest := []) (st1 := [.int r3]) C EX hR (k_X12_readTest C.2.2 (Nat.le_add_right 8 (3 * 40)) (fun ha E => k_X12_readFact C.2.2 40 ha E) ha E5) Y_X12_readTest YV_X12_readTest Lk_RX12_505 (fz_rv C hR ha ⟨_, _, rfl, by decide⟩) rfl hl.1 ⟨Nat.le_of_ble_eq_true rfl, Nat.le_of_ble_eq_true rfl⟩ rfl (Nat.le_of_ble_eq_true rfl) ⟨Nat.le_of_ble_eq_true rfl, Nat.le_of_ble_eq_true rfl⟩ rfl dX12_readQuestion_40 (fun H locs hR => ?_)
    refine lv_istore_n (lv' := [(3, .int r3), (0, .ref (g.2.2 a))]) hx hb dX12_readQuestion_43 rfl hl (by decide) rfl (fun ls hl => ?_)
    refine lv_aload_n hx hb dX12_readQuestion_44 rfl (lv_at hl 1 rfl) ?_
    refine fr_geti C hR ha Fg_RX12_410 rfl dX12_readQuestion_45 ?_
    refine lv_if_ne (tgt := 63) hx hb dX12_readQuestion_48 (by decide) (fun c6 => ?_) (fun c6 => ?_)
    · rw [if_neg c6] at hsp
      refine lv_iload_n hx hb dX12_readQuestion_63 rfl (lv_at hl 0 rfl) ?_
      obtain ⟨hz7, hsp⟩ := fr_ck hsp
      obtain ⟨e1, e2⟩ := fr_s2 hsp
      exact fr_zret C hr hlocks hR (of_decide_eq_true hz7) e1 e2 dX12_readQuestion_64
    · rw [if_pos c6] at hsp
      refine lv_aload_n hx hb dX12_readQuestion_51 rfl (lv_at hl 1 rfl) ?_
      refine fr_geti C hR ha Fg_RX12_398 rfl dX12_readQuestion_52 ?_
      refine lv_if_eq (tgt := 63) hx hb dX12_readQuestion_55 (by decide) (fun c8 => ?_) (fun c8 => ?_)
      · rw [if_pos c8] at hsp
        refine lv_iload_n hx hb dX12_readQuestion_63 rfl (lv_at hl 0 rfl) ?_
        obtain ⟨hz9, hsp⟩ := fr_ck hsp
        obtain ⟨e1, e2⟩ := fr_s2 hsp
        exact fr_zret C hr hlocks hR (of_decide_eq_true hz9) e1 e2 dX12_readQuestion_64
      · rw [if_neg c8] at hsp
        refine lv_aload_n hx hb dX12_readQuestion_58 rfl (lv_at hl 1 rfl) ?_
        refine lv_iconst (v := 1) hx hb dX12_readQuestion_59 (by decide) ?_
        obtain ⟨h10, E11, hsp⟩ := fr_b1 hsp
        refine fq_callV (rest := []) (st1 := []) C hR (k_X12_wrong C.2.2 ha E11) Y_X12_wrong YV_X12_wrong Lk_RX12_434 ha ⟨_, _, rfl, by decide⟩ rfl hl.1 ⟨Nat.le_of_ble_eq_true rfl, Nat.le_of_ble_eq_true rfl⟩ rfl (Nat.le_of_ble_eq_true rfl) ⟨Nat.zero_le _, Nat.zero_le _⟩ rfl dX12_readQuestion_60 (fun H locs hR => ?_)
        refine lv_iload_n hx hb dX12_readQuestion_63 rfl (lv_at hl 0 rfl) ?_
        obtain ⟨hz12, hsp⟩ := fr_ck hsp
        obtain ⟨e1, e2⟩ := fr_s2 hsp
        exact fr_zret C hr hlocks hR (of_decide_eq_true hz12) e1 e2 dX12_readQuestion_64
  refine lv_aload_n hx hb dX12_readQuestion_0 rfl (lv_at hl 0 rfl) ?_
  refine lv_iload_n hx hb dX12_readQuestion_1 rfl (lv_at hl 2 rfl) ?_
  refine fr_puti C hR ha Fp_RX12_474 rfl dX12_readQuestion_2 (fun H locs hR => ?_)
  obtain ⟨h1, eh1⟩ : ∃ z, z = fh_sI h a 48 x2 := ⟨_, rfl⟩
  rw [← eh1] at hR
  have hsp := fr_let eh1 hsp
  refine lv_aload_n hx hb dX12_readQuestion_5 rfl (lv_at hl 0 rfl) ?_
  refine lv_iload_n hx hb dX12_readQuestion_6 rfl (lv_at hl 1 rfl) ?_
  obtain ⟨h2, E3, hsp⟩ := fr_b1 hsp
  refine fq_callV (rest := []) (st1 := []) C hR (k_X12_opens C.2.2 ha E3) Y_X12_opens YV_X12_opens Lk_RX12_465 ha ⟨_, _, rfl, by decide⟩ rfl hl.1 ⟨Nat.le_of_ble_eq_true rfl, Nat.le_of_ble_eq_true rfl⟩ rfl (Nat.le_of_ble_eq_true rfl) ⟨Nat.zero_le _, Nat.zero_le _⟩ rfl dX12_readQuestion_7 (fun H locs hR => ?_)
  refine lv_aload_n hx hb dX12_readQuestion_10 rfl (lv_at hl 0 rfl) ?_
  refine fr_ldcwS hx hb C.1.2.2.2.1 (vs_RX12_518 EX) dX12_readQuestion_11 ?_
  obtain ⟨r4, E5, hsp⟩ := fr_b1 hsp
  refine fz_cV (rest := []) (st1 := [.int r4]) C EX hR (k_X12_isWord C.2.2 ha (by decide) E5) Y_X12_isWord YV_X12_isWord Lk_RX12_479 (fz_rv C hR ha ⟨_, _, rfl, by decide⟩) rfl hl.1 ⟨Nat.le_of_ble_eq_true rfl, Nat.le_of_ble_eq_true rfl⟩ rfl (Nat.le_of_ble_eq_true rfl) ⟨Nat.le_of_ble_eq_true rfl, Nat.le_of_ble_eq_true rfl⟩ rfl dX12_readQuestion_14 (fun H locs hR => ?_)
  refine lv_if_ne (tgt := 35) hx hb dX12_readQuestion_17 (by decide) (fun c6 => ?_) (fun c6 => ?_)
  · rw [if_neg c6] at hsp
    exact hb_35 h2 _ _ _ hsp hR (lv_sub hl [0] rfl)
  · rw [if_pos c6] at hsp
    refine lv_aload_n hx hb dX12_readQuestion_20 rfl (lv_at hl 0 rfl) ?_
    refine fr_ldcwS hx hb C.1.2.2.2.1 (vs_RX12_519 EX) dX12_readQuestion_21 ?_
    obtain ⟨r7, E8, hsp⟩ := fr_b1 hsp
    refine fz_cV (rest := []) (st1 := [.int r7]) C EX hR (k_X12_isWord C.2.2 ha (by decide) E8) Y_X12_isWord YV_X12_isWord Lk_RX12_479 (fz_rv C hR ha ⟨_, _, rfl, by decide⟩) rfl hl.1 ⟨Nat.le_of_ble_eq_true rfl, Nat.le_of_ble_eq_true rfl⟩ rfl (Nat.le_of_ble_eq_true rfl) ⟨Nat.le_of_ble_eq_true rfl, Nat.le_of_ble_eq_true rfl⟩ rfl dX12_readQuestion_24 (fun H locs hR => ?_)
    refine lv_if_ne (tgt := 35) hx hb dX12_readQuestion_27 (by decide) (fun c9 => ?_) (fun c9 => ?_)
    · rw [if_neg c9] at hsp
      exact hb_35 h2 _ _ _ hsp hR (lv_sub hl [0] rfl)
    · rw [if_pos c9] at hsp
      refine lv_aload_n hx hb dX12_readQuestion_30 rfl (lv_at hl 0 rfl) ?_
      refine lv_iconst (v := 1) hx hb dX12_readQuestion_31 (by decide) ?_
      obtain ⟨h10, E11, hsp⟩ := fr_b1 hsp
      refine fq_callV (rest := []) (st1 := []) C hR (k_X12_wrong C.2.2 ha E11) Y_X12_wrong YV_X12_wrong Lk_RX12_434 ha ⟨_, _, rfl, by decide⟩ rfl hl.1 ⟨Nat.le_of_ble_eq_true rfl, Nat.le_of_ble_eq_true rfl⟩ rfl (Nat.le_of_ble_eq_true rfl) ⟨Nat.zero_le _, Nat.zero_le _⟩ rfl dX12_readQuestion_32 (fun H locs hR => ?_)
      exact hb_35 h10 _ _ _ hsp hR (lv_sub hl [0] rfl)

/-! TermRowsModel.ask(II)I -/
def z_X12_ask_b70 (S : fh_S) (a : Nat) : Nat → fh_H → Int32 → Int32 → Int32 → Int32 → Int32 → Option (Int32 × fh_H)
  | 0, _, _, _, _, _, _ => none
  | n + 1, h, y1, y2, y3, y6, y7 =>
    fh_b1 (h.2.2 a 5) (fun j1 => fh_ck (fh_kq S j1 13) (fh_ck (fh_in y1 (S.2.2 j1)) (if (h.1 j1 (Int32.toNatClampNeg y1)) ≤ y7 then (if y3 = 0 then (some (y6, h)) else (some ((-1 : Int32), h))) else (fh_b2 (z_X12_readQuestion S h a y2 y7) (fun r7 h8 => if r7 = 0 then (fh_let (y7 + 1) (fun v14 => z_X12_ask_b70 S a n h8 y1 y2 y3 y6 v14)) else (if y3 = 0 then (fh_let (y6 + 1) (fun v12 => fh_let (y7 + 1) (fun v13 => z_X12_ask_b70 S a n h8 y1 y2 y3 v12 v13))) else (some (y7, h8))))))))
def z_X12_ask (S : fh_S) (h : fh_H) (a : Nat) (x1 : Int32) (x2 : Int32) : Option (Int32 × fh_H) :=
    fh_let (fh_sI h a 3 (0 : Int32)) (fun h1 => fh_b1 (z_X12_isRight S h1 a x1 x2) (fun r2 => if r2 = 0 then (fh_b2 (z_X12_fail S h1 a (1 : Int32)) (fun r17 h18 => some (r17, h18))) else (fh_let (fh_sI h1 a 47 x1) (fun h5 => fh_b1 (z_X12_opens S h5 a x2) (fun h6 => fh_b1 (z_X12_isWord S h6 a 1) (fun r8 => fh_b2 (z_X12_readQuestion S h6 a x2 (-1 : Int32)) (fun r10 h11 => fh_b2 (z_X12_ends S h11 a) (fun r13 h14 => if r13 = 0 then (z_X12_ask_b70 S a 20000 h14 x1 x2 r8 (0 : Int32) (0 : Int32)) else (some (((-1000000000 : Int32) - r13), h14))))))))))
set_option maxHeartbeats 4000000 in
set_option maxRecDepth 100000 in
theorem k_X12_ask {l : Launch} {S : fh_S} {g : fh_G} {h h' : fh_H} {z : (Nat → Nat) × (Nat → Nat)} (hj : fh_inj S g) {a : Nat} {x1 : Int32} {x2 : Int32} {r : Int32} (ha : fh_kq S a 12 = true) (hsp : z_X12_ask S h a x1 x2 = some (r, h')) : fx_M l yX12_ask cX12_ask 8 (some .int) (fh_rm 132) S g z [.ref (g.2.2 a), .int x1, .int x2] h (some (.int r)) h' := by
  unfold z_X12_ask at hsp
  refine fz_head (own := RX12) (by decide) rfl hj (Nat.le_of_ble_eq_true rfl) ?_
  intro p e s m below meth c ls C EX hr hlocks hR hl
  have hl : lv_has ls 8 [(0, .ref (g.2.2 a)), (1, .int x1), (2, .int x2)] := hl
  have hx := C.1.1
  have hb := C.1.2.1
  have hb_70 : ∀ (n : Nat) (h : fh_H) (y1 : Int32) (y2 : Int32) (y3 : Int32) (y6 : Int32) (y7 : Int32) (H : Heap) (locs : List Loc) (ls : Array Slot), z_X12_ask_b70 S a n h y1 y2 y3 y6 y7 = some (r, h') → fh_R S g s.heap h H locs → lv_has ls 8 [(0, .ref (g.2.2 a)), (1, .int y1), (2, .int y2), (3, .int y3), (6, .int y6), (7, .int y7)] → fh_Wk p l e 132 s m [.ref (g.2.2 a), .int x1, .int x2] below meth c S g (some (.int r)) h' H locs (F0 m 70 ls []) := by
    intro n
    induction n with
    | zero => intro h y1 y2 y3 y6 y7 H locs ls hsp; cases hsp
    | succ n ih =>
      intro h y1 y2 y3 y6 y7 H locs ls hsp hR hl
      rw [z_X12_ask_b70] at hsp
      refine lv_iload hx hb dX12_ask_70 (lv_at hl 5 rfl) ?_
      refine lv_aload_n hx hb dX12_ask_72 rfl (lv_at hl 0 rfl) ?_
      obtain ⟨j1, hv2, hsp⟩ := fr_b1 hsp
      refine fr_getr C hR ha Fg_RX12_19 rfl hv2 dX12_ask_73 ?_
      refine lv_iload_n hx hb dX12_ask_76 rfl (lv_at hl 1 rfl) ?_
      obtain ⟨hk3, hsp⟩ := fr_ck hsp
      obtain ⟨hi4, hsp⟩ := fr_ck hsp
      refine fr_iald C hR hk3 hi4 dX12_ask_77 ?_
      refine lv_icmp_ge (tgt := 110) hx hb dX12_ask_78 (by decide) (fun c5 => ?_) (fun c5 => ?_)
      · rw [if_pos c5] at hsp
        refine lv_iload_n hx hb dX12_ask_110 rfl (lv_at hl 3 rfl) ?_
        refine lv_if_eq (tgt := 118) hx hb dX12_ask_111 (by decide) (fun c6 => ?_) (fun c6 => ?_)
        · rw [if_pos c6] at hsp
          refine lv_iload hx hb dX12_ask_118 (lv_at hl 4 rfl) ?_
          obtain ⟨e1, e2⟩ := fr_s2 hsp
          exact fr_iret C hr hlocks hR e1 e2 dX12_ask_120
        · rw [if_neg c6] at hsp
          refine lv_iconst (v := -1) hx hb dX12_ask_114 (by decide) ?_
          refine lv_goto (tgt := 120) hx hb dX12_ask_115 (by decide) ?_
          obtain ⟨e1, e2⟩ := fr_s2 hsp
          exact fr_iret C hr hlocks hR e1 e2 dX12_ask_120
      · rw [if_neg c5] at hsp
        refine lv_aload_n hx hb dX12_ask_81 rfl (lv_at hl 0 rfl) ?_
        refine lv_iload_n hx hb dX12_ask_82 rfl (lv_at hl 2 rfl) ?_
        refine lv_iload hx hb dX12_ask_83 (lv_at hl 5 rfl) ?_
        obtain ⟨r7, h8, E9, hsp⟩ := fr_b2 hsp
        refine fz_cV (rest := []) (st1 := [.int r7]) C EX hR (k_X12_readQuestion C.2.2 ha E9) Y_X12_readQuestion YV_X12_readQuestion Lk_RX12_521 (fz_rv C hR ha ⟨_, _, rfl, by decide⟩) rfl hl.1 ⟨Nat.le_of_ble_eq_true rfl, Nat.le_of_ble_eq_true rfl⟩ rfl (Nat.le_of_ble_eq_true rfl) ⟨Nat.le_of_ble_eq_true rfl, Nat.le_of_ble_eq_true rfl⟩ rfl dX12_ask_85 (fun H locs hR => ?_)
        refine lv_if_ne (tgt := 94) hx hb dX12_ask_88 (by decide) (fun c10 => ?_) (fun c10 => ?_)
        · rw [if_neg c10] at hsp
          refine lv_iload_n hx hb dX12_ask_94 rfl (lv_at hl 3 rfl) ?_
          refine lv_if_eq (tgt := 101) hx hb dX12_ask_95 (by decide) (fun c11 => ?_) (fun c11 => ?_)
          · rw [if_pos c11] at hsp
            obtain ⟨v12, ev12⟩ : ∃ z : Int32, z = y6 + 1 := ⟨_, rfl⟩
            have hsp := fr_let ev12 hsp
            refine lv_iinc (v := v12) (lv' := [(6, .int v12), (0, .ref (g.2.2 a)), (1, .int y1), (2, .int y2), (3, .int y3), (7, .int y7)]) hx hb dX12_ask_101 hl (k := 4) rfl (by rw [ev12]; rfl) (by decide) rfl (fun ls hl => ?_)
            obtain ⟨v13, ev13⟩ : ∃ z : Int32, z = y7 + 1 := ⟨_, rfl⟩
            have hsp := fr_let ev13 hsp
            refine lv_iinc (v := v13) (lv' := [(7, .int v13), (6, .int v12), (0, .ref (g.2.2 a)), (1, .int y1), (2, .int y2), (3, .int y3)]) hx hb dX12_ask_104 hl (k := 5) rfl (by rw [ev13]; rfl) (by decide) rfl (fun ls hl => ?_)
            refine lv_goto (tgt := 70) hx hb dX12_ask_107 (by decide) ?_
            exact ih h8 y1 y2 y3 v12 v13 _ _ _ hsp hR (lv_sub hl [2, 3, 4, 5, 1, 0] rfl)
          · rw [if_neg c11] at hsp
            refine lv_iload hx hb dX12_ask_98 (lv_at hl 5 rfl) ?_
            obtain ⟨e1, e2⟩ := fr_s2 hsp
            exact fr_iret C hr hlocks hR e1 e2 dX12_ask_100
        · rw [if_pos c10] at hsp
          refine lv_goto (tgt := 104) hx hb dX12_ask_91 (by decide) ?_
          obtain ⟨v14, ev14⟩ : ∃ z : Int32, z = y7 + 1 := ⟨_, rfl⟩
          have hsp := fr_let ev14 hsp
          refine lv_iinc (v := v14) (lv' := [(7, .int v14), (0, .ref (g.2.2 a)), (1, .int y1), (2, .int y2), (3, .int y3), (6, .int y6)]) hx hb dX12_ask_104 hl (k := 5) rfl (by rw [ev14]; rfl) (by decide) rfl (fun ls hl => ?_)
          refine lv_goto (tgt := 70) hx hb dX12_ask_107 (by decide) ?_
          exact ih h8 y1 y2 y3 y6 v14 _ _ _ hsp hR (lv_sub hl [1, 2, 3, 4, 5, 0] rfl)
  refine lv_aload_n hx hb dX12_ask_0 rfl (lv_at hl 0 rfl) ?_
  refine lv_iconst (v := 0) hx hb dX12_ask_1 (by decide) ?_
  refine fr_puti C hR ha Fp_RX12_73 rfl dX12_ask_2 (fun H locs hR => ?_)
  obtain ⟨h1, eh1⟩ : ∃ z, z = fh_sI h a 3 (0 : Int32) := ⟨_, rfl⟩
  rw [← eh1] at hR
  have hsp := fr_let eh1 hsp
  refine lv_aload_n hx hb dX12_ask_5 rfl (lv_at hl 0 rfl) ?_
  refine lv_iload_n hx hb dX12_ask_6 rfl (lv_at hl 1 rfl) ?_
  refine lv_iload_n hx hb dX12_ask_7 rfl (lv_at hl 2 rfl) ?_
  obtain ⟨r2, E3, hsp⟩ := fr_b1 hsp
  refine fq_callV (rest := []) (st1 := [.int r2]) C hR (k_X12_isRight C.2.2 ha E3) Y_X12_isRight YV_X12_isRight Lk_RX12_462 ha ⟨_, _, rfl, by decide⟩ rfl hl.1 ⟨Nat.le_of_ble_eq_true rfl, Nat.le_of_ble_eq_true rfl⟩ rfl (Nat.le_of_ble_eq_true rfl) ⟨Nat.zero_le _, Nat.zero_le _⟩ rfl dX12_ask_8 (fun H locs hR => ?_)
  refine lv_if_ne (tgt := 20) hx hb dX12_ask_11 (by decide) (fun c4 => ?_) (fun c4 => ?_)
  · rw [if_neg c4] at hsp
    refine lv_aload_n hx hb dX12_ask_20 rfl (lv_at hl 0 rfl) ?_
    refine lv_iload_n hx hb dX12_ask_21 rfl (lv_at hl 1 rfl) ?_
    refine fr_puti C hR ha Fp_RX12_484 rfl dX12_ask_22 (fun H locs hR => ?_)
    obtain ⟨h5, eh5⟩ : ∃ z, z = fh_sI h1 a 47 x1 := ⟨_, rfl⟩
    rw [← eh5] at hR
    have hsp := fr_let eh5 hsp
    refine lv_aload_n hx hb dX12_ask_25 rfl (lv_at hl 0 rfl) ?_
    refine lv_iload_n hx hb dX12_ask_26 rfl (lv_at hl 2 rfl) ?_
    obtain ⟨h6, E7, hsp⟩ := fr_b1 hsp
    refine fq_callV (rest := []) (st1 := []) C hR (k_X12_opens C.2.2 ha E7) Y_X12_opens YV_X12_opens Lk_RX12_465 ha ⟨_, _, rfl, by decide⟩ rfl hl.1 ⟨Nat.le_of_ble_eq_true rfl, Nat.le_of_ble_eq_true rfl⟩ rfl (Nat.le_of_ble_eq_true rfl) ⟨Nat.zero_le _, Nat.zero_le _⟩ rfl dX12_ask_27 (fun H locs hR => ?_)
    refine lv_aload_n hx hb dX12_ask_30 rfl (lv_at hl 0 rfl) ?_
    refine fr_ldcwS hx hb C.1.2.2.2.1 (vs_RX12_519 EX) dX12_ask_31 ?_
    obtain ⟨r8, E9, hsp⟩ := fr_b1 hsp
    refine fz_cV (rest := []) (st1 := [.int r8]) C EX hR (k_X12_isWord C.2.2 ha (by decide) E9) Y_X12_isWord YV_X12_isWord Lk_RX12_479 (fz_rv C hR ha ⟨_, _, rfl, by decide⟩) rfl hl.1 ⟨Nat.le_of_ble_eq_true rfl, Nat.le_of_ble_eq_true rfl⟩ rfl (Nat.le_of_ble_eq_true rfl) ⟨Nat.le_of_ble_eq_true rfl, Nat.le_of_ble_eq_true rfl⟩ rfl dX12_ask_34 (fun H locs hR => ?_)
    refine lv_istore_n (lv' := [(3, .int r8), (0, .ref (g.2.2 a)), (1, .int x1), (2, .int x2)]) hx hb dX12_ask_37 rfl hl (by decide) rfl (fun ls hl => ?_)
    refine lv_aload_n hx hb dX12_ask_38 rfl (lv_at hl 1 rfl) ?_
    refine lv_iload_n hx hb dX12_ask_39 rfl (lv_at hl 3 rfl) ?_
    refine lv_iconst (v := -1) hx hb dX12_ask_40 (by decide) ?_
    obtain ⟨r10, h11, E12, hsp⟩ := fr_b2 hsp
    refine fz_cV (rest := []) (st1 := [.int r10]) C EX hR (k_X12_readQuestion C.2.2 ha E12) Y_X12_readQuestion YV_X12_readQuestion Lk_RX12_521 (fz_rv C hR ha ⟨_, _, rfl, by decide⟩) rfl hl.1 ⟨Nat.le_of_ble_eq_true rfl, Nat.le_of_ble_eq_true rfl⟩ rfl (Nat.le_of_ble_eq_true rfl) ⟨Nat.le_of_ble_eq_true rfl, Nat.le_of_ble_eq_true rfl⟩ rfl dX12_ask_41 (fun H locs hR => ?_)
    refine lv_istore (lv' := [(4, .int r10), (3, .int r8), (0, .ref (g.2.2 a)), (1, .int x1), (2, .int x2)]) hx hb dX12_ask_44 hl (by decide) rfl (fun ls hl => ?_)
    refine lv_aload_n hx hb dX12_ask_46 rfl (lv_at hl 2 rfl) ?_
    obtain ⟨r13, h14, E15, hsp⟩ := fr_b2 hsp
    refine fq_callV (rest := []) (st1 := [.int r13]) C hR (k_X12_ends C.2.2 ha E15) Y_X12_ends YV_X12_ends Lk_RX12_471 ha ⟨_, _, rfl, by decide⟩ rfl hl.1 ⟨Nat.le_of_ble_eq_true rfl, Nat.le_of_ble_eq_true rfl⟩ rfl (Nat.le_of_ble_eq_true rfl) ⟨Nat.zero_le _, Nat.zero_le _⟩ rfl dX12_ask_47 (fun H locs hR => ?_)
    refine lv_istore (lv' := [(5, .int r13), (4, .int r10), (3, .int r8), (0, .ref (g.2.2 a)), (1, .int x1), (2, .int x2)]) hx hb dX12_ask_50 hl (by decide) rfl (fun ls hl => ?_)
    refine lv_iload hx hb dX12_ask_52 (lv_at hl 0 rfl) ?_
    refine lv_if_eq (tgt := 64) hx hb dX12_ask_54 (by decide) (fun c16 => ?_) (fun c16 => ?_)
    · rw [if_pos c16] at hsp
      refine lv_iconst (v := 0) hx hb dX12_ask_64 (by decide) ?_
      refine lv_istore (lv' := [(6, .int (0 : Int32)), (5, .int r13), (4, .int r10), (3, .int r8), (0, .ref (g.2.2 a)), (1, .int x1), (2, .int x2)]) hx hb dX12_ask_65 hl (by decide) rfl (fun ls hl => ?_)
      refine lv_iconst (v := 0) hx hb dX12_ask_67 (by decide) ?_
      refine lv_istore (lv' := [(7, .int (0 : Int32)), (6, .int (0 : Int32)), (5, .int r13), (4, .int r10), (3, .int r8), (0, .ref (g.2.2 a)), (1, .int x1), (2, .int x2)]) hx hb dX12_ask_68 hl (by decide) rfl (fun ls hl => ?_)
      exact hb_70 20000 h14 x1 x2 r8 (0 : Int32) (0 : Int32) _ _ _ hsp hR (lv_sub hl [5, 6, 7, 4, 1, 0] rfl)
    · rw [if_neg c16] at hsp
      refine lv_ldcw hx hb C.1.2.2.2.1 (C.1.2.2.2.2 _ Kc_RX12_354) dX12_ask_57 ?_
      refine lv_iload hx hb dX12_ask_60 (lv_at hl 0 rfl) ?_
      refine lv_isub hx hb dX12_ask_62 ?_
      obtain ⟨e1, e2⟩ := fr_s2 hsp
      exact fr_iret C hr hlocks hR e1 e2 dX12_ask_63
  · rw [if_pos c4] at hsp
    refine lv_aload_n hx hb dX12_ask_14 rfl (lv_at hl 0 rfl) ?_
    refine lv_iconst (v := 1) hx hb dX12_ask_15 (by decide) ?_
    obtain ⟨r17, h18, E19, hsp⟩ := fr_b2 hsp
    refine fq_callV (rest := []) (st1 := [.int r17]) C hR (k_X12_fail C.2.2 ha E19) Y_X12_fail YV_X12_fail Lk_RX12_299 ha ⟨_, _, rfl, by decide⟩ rfl hl.1 ⟨Nat.le_of_ble_eq_true rfl, Nat.le_of_ble_eq_true rfl⟩ rfl (Nat.le_of_ble_eq_true rfl) ⟨Nat.zero_le _, Nat.zero_le _⟩ rfl dX12_ask_16 (fun H locs hR => ?_)
    obtain ⟨e1, e2⟩ := fr_s2 hsp
    exact fr_iret C hr hlocks hR e1 e2 dX12_ask_19
