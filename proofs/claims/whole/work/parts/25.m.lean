/-! TermRowsModel.writesNumber(J)V -/
def z_X12_writesNumber_b36 (S : fh_S) (a : Nat) (PF : fh_H → Nat → Int64 → Option fh_H) (h : fh_H) (y1 : Int64) : Option fh_H :=
    fh_b1 (z_X12_writes S h a (Int64.toInt32 ((48 : Int64) + (y1 - y1 / (10 : Int64) * (10 : Int64))))) (fun h1 => some h1)
def z_X12_writesNumber_F (S : fh_S) (PF : fh_H → Nat → Int64 → Option fh_H) (h : fh_H) (a : Nat) (x1 : Int64) : Option fh_H :=
    if (0 : Int64) ≤ x1 then (if x1 ≤ (9 : Int64) then (z_X12_writesNumber_b36 S a PF h x1) else (fh_b1 (PF h a (x1 / (10 : Int64))) (fun h3 => z_X12_writesNumber_b36 S a PF h3 x1))) else (fh_b1 (z_X12_writes S h a (45 : Int32)) (fun h5 => fh_b1 (PF h5 a (-x1)) (fun h7 => some h7)))
set_option maxHeartbeats 4000000 in
set_option maxRecDepth 100000 in
theorem k_X12_writesNumber_F {l : Launch} {S : fh_S} {g : fh_G} {h h' : fh_H} (hj : fh_inj S g) {d : Nat} {PF : fh_H → Nat → Int64 → Option fh_H} (hd : 2 ≤ d) (hPF : ∀ {h h' : fh_H} {b : Nat} {w1 : Int64}, fh_kq S b 12 = true → PF h b w1 = some h' → fh_M l yX12_writesNumber cX12_writesNumber 3 none (fh_rm d) S g [.ref (g.2.2 b), .long w1] h none h') {a : Nat} {x1 : Int64} (ha : fh_kq S a 12 = true) (hsp : z_X12_writesNumber_F S PF h a x1 = some h') : fh_M l yX12_writesNumber cX12_writesNumber 3 none (fh_rm (d + 1)) S g [.ref (g.2.2 a), .long x1] h none h' := by
  unfold z_X12_writesNumber_F at hsp
  refine fr_head (own := RX12) (by decide) rfl hj (Nat.le_of_ble_eq_true rfl) ?_
  intro p e s m below meth c ls C hr hlocks hR hl
  have hl : lv_has ls 3 [(0, .ref (g.2.2 a)), (1, .long x1)] := hl
  have hx := C.1.1
  have hb := C.1.2.1
  have hb_36 : ∀ (h : fh_H) (y1 : Int64) (H : Heap) (locs : List Loc) (ls : Array Slot), z_X12_writesNumber_b36 S a PF h y1 = some h' → fh_R S g s.heap h H locs → lv_has ls 3 [(0, .ref (g.2.2 a)), (1, .long y1)] → fh_Wk p l e (d + 1) s m [.ref (g.2.2 a), .long x1] below meth c S g none h' H locs (F0 m 36 ls []) := by
    intro h y1 H locs ls hsp hR hl
    unfold z_X12_writesNumber_b36 at hsp
    refine lv_aload_n hx hb dX12_writesNumber_36 rfl (lv_at hl 0 rfl) ?_
    refine lv_ldc2 hx hb C.1.2.2.2.1 (C.1.2.2.2.2 _ Kc_RX12_372) dX12_writesNumber_37 ?_
    refine lv_lload_n hx hb dX12_writesNumber_40 rfl (lv_at hl 1 rfl) ?_
    refine lv_ldc2 hx hb C.1.2.2.2.1 (C.1.2.2.2.2 _ Kc_RX12_370) dX12_writesNumber_41 ?_
    refine lv_lrem hx hb dX12_writesNumber_44 (by decide) ?_
    refine lv_ladd hx hb dX12_writesNumber_45 ?_
    refine lv_l2i hx hb dX12_writesNumber_46 rfl ?_
    obtain ⟨h1, E2, hsp⟩ := fr_b1 hsp
    refine fq_callV (rest := []) (st1 := []) C hR (k_X12_writes C.2.2 ha E2) Y_X12_writes YV_X12_writes Lk_RX12_364 ha ⟨_, _, rfl, by decide⟩ rfl hl.1 ⟨by simp only [fh_rm]; omega, by simp only [fh_rm]; omega⟩ rfl (Nat.le_of_ble_eq_true rfl) ⟨Nat.zero_le _, Nat.zero_le _⟩ rfl dX12_writesNumber_47 (fun H locs hR => ?_)
    exact fr_vret C hr hlocks hR (fr_s1 hsp) dX12_writesNumber_50
  refine lv_lload_n hx hb dX12_writesNumber_0 rfl (lv_at hl 1 rfl) ?_
  refine lv_lconst (v := 0) hx hb dX12_writesNumber_1 (by decide) ?_
  refine fr_lc_ge (tgt := 19) hx hb dX12_writesNumber_2 dX12_writesNumber_3 (by decide) (fun c1 => ?_) (fun c1 => ?_)
  · rw [if_pos c1] at hsp
    refine lv_lload_n hx hb dX12_writesNumber_19 rfl (lv_at hl 1 rfl) ?_
    refine lv_ldc2 hx hb C.1.2.2.2.1 (C.1.2.2.2.2 _ Kc_RX12_76) dX12_writesNumber_20 ?_
    refine fr_lc_le (tgt := 36) hx hb dX12_writesNumber_23 dX12_writesNumber_24 (by decide) (fun c2 => ?_) (fun c2 => ?_)
    · rw [if_pos c2] at hsp
      exact hb_36 h x1 _ _ _ hsp hR (lv_sub hl [0, 1] rfl)
    · rw [if_neg c2] at hsp
      refine lv_aload_n hx hb dX12_writesNumber_27 rfl (lv_at hl 0 rfl) ?_
      refine lv_lload_n hx hb dX12_writesNumber_28 rfl (lv_at hl 1 rfl) ?_
      refine lv_ldc2 hx hb C.1.2.2.2.1 (C.1.2.2.2.2 _ Kc_RX12_370) dX12_writesNumber_29 ?_
      refine lv_ldiv hx hb dX12_writesNumber_32 (by decide) ?_
      obtain ⟨h3, E4, hsp⟩ := fr_b1 hsp
      refine fq_callV (rest := []) (st1 := []) C hR (hPF ha E4) Y_X12_writesNumber YV_X12_writesNumber Lk_RX12_367 ha ⟨_, _, rfl, by decide⟩ rfl hl.1 ⟨by simp only [fh_rm]; omega, by simp only [fh_rm]; omega⟩ rfl (Nat.le_of_ble_eq_true rfl) ⟨Nat.zero_le _, Nat.zero_le _⟩ rfl dX12_writesNumber_33 (fun H locs hR => ?_)
      exact hb_36 h3 x1 _ _ _ hsp hR (lv_sub hl [0, 1] rfl)
  · rw [if_neg c1] at hsp
    refine lv_aload_n hx hb dX12_writesNumber_6 rfl (lv_at hl 0 rfl) ?_
    refine lv_bipush (v := 45) hx hb dX12_writesNumber_7 (by decide) ?_
    obtain ⟨h5, E6, hsp⟩ := fr_b1 hsp
    refine fq_callV (rest := []) (st1 := []) C hR (k_X12_writes C.2.2 ha E6) Y_X12_writes YV_X12_writes Lk_RX12_364 ha ⟨_, _, rfl, by decide⟩ rfl hl.1 ⟨by simp only [fh_rm]; omega, by simp only [fh_rm]; omega⟩ rfl (Nat.le_of_ble_eq_true rfl) ⟨Nat.zero_le _, Nat.zero_le _⟩ rfl dX12_writesNumber_9 (fun H locs hR => ?_)
    refine lv_aload_n hx hb dX12_writesNumber_12 rfl (lv_at hl 0 rfl) ?_
    refine lv_lload_n hx hb dX12_writesNumber_13 rfl (lv_at hl 1 rfl) ?_
    refine lv_lneg hx hb dX12_writesNumber_14 ?_
    obtain ⟨h7, E8, hsp⟩ := fr_b1 hsp
    refine fq_callV (rest := []) (st1 := []) C hR (hPF ha E8) Y_X12_writesNumber YV_X12_writesNumber Lk_RX12_367 ha ⟨_, _, rfl, by decide⟩ rfl hl.1 ⟨by simp only [fh_rm]; omega, by simp only [fh_rm]; omega⟩ rfl (Nat.le_of_ble_eq_true rfl) ⟨Nat.zero_le _, Nat.zero_le _⟩ rfl dX12_writesNumber_15 (fun H locs hR => ?_)
    exact fr_vret C hr hlocks hR (fr_s1 hsp) dX12_writesNumber_18
def z_X12_writesNumber (S : fh_S) : Nat → fh_H → Nat → Int64 → Option fh_H
  | 0, _, _, _ => none
  | n + 1, h, a, x1 => z_X12_writesNumber_F S (z_X12_writesNumber S n) h a x1
theorem k_X12_writesNumber {l : Launch} {S : fh_S} {g : fh_G} (hj : fh_inj S g) : ∀ (n : Nat) {h h' : fh_H} {a : Nat} {x1 : Int64}, fh_kq S a 12 = true → z_X12_writesNumber S n h a x1 = some h' → fh_M l yX12_writesNumber cX12_writesNumber 3 none (fh_rm (2 + 1 * n)) S g [.ref (g.2.2 a), .long x1] h none h' := by
  intro n
  induction n with
  | zero => intro h h' a x1 ha hsp; cases hsp
  | succ n ih =>
    intro h h' a x1 ha hsp
    rw [z_X12_writesNumber] at hsp
    have q := k_X12_writesNumber_F hj (d := 2 + 1 * n) (PF := z_X12_writesNumber S n) (Nat.le_add_right _ _) (fun ha E => ih ha E) ha hsp
    rw [show 2 + 1 * (n + 1) = 2 + 1 * n + 1 by omega]
    exact q

/-! TermRowsModel.writesTerms(IIIZ)V -/
def z_X12_writesTerms_b26 (S : fh_S) (a : Nat) (K3 : fh_H → Int32 → Int32 → Int32 → Int32 → Int32 → Option fh_H) (h : fh_H) (y1 : Int32) (y2 : Int32) (y3 : Int32) (y4 : Int32) (y5 : Int32) : Option fh_H :=
    fh_b1 (z_X12_termOf S h a y1 y5) (fun r1 => fh_b1 (z_X12_writesNumber S 40 h a (Int32.toInt64 r1)) (fun h3 => fh_let (y5 + 1) (fun v5 => K3 h3 y1 y2 y3 y4 v5)))
def z_X12_writesTerms_b3 (S : fh_S) (a : Nat) : Nat → fh_H → Int32 → Int32 → Int32 → Int32 → Int32 → Option fh_H
  | 0, _, _, _, _, _, _ => none
  | n + 1, h, y1, y2, y3, y4, y5 =>
    if y3 ≤ y5 then (some h) else (if y4 = 0 then (fh_b1 (z_X12_writesSign S h a y5) (fun h3 => z_X12_writesTerms_b26 S a (z_X12_writesTerms_b3 S a n) h3 y1 y2 y3 y4 y5)) else (if y5 ≤ y2 then (z_X12_writesTerms_b26 S a (z_X12_writesTerms_b3 S a n) h y1 y2 y3 y4 y5) else (fh_b1 (z_X12_writesSign S h a y5) (fun h6 => z_X12_writesTerms_b26 S a (z_X12_writesTerms_b3 S a n) h6 y1 y2 y3 y4 y5))))
def z_X12_writesTerms (S : fh_S) (h : fh_H) (a : Nat) (x1 : Int32) (x2 : Int32) (x3 : Int32) (x4 : Int32) : Option fh_H :=
    z_X12_writesTerms_b3 S a 20000 h x1 x2 x3 x4 x2
set_option maxHeartbeats 4000000 in
set_option maxRecDepth 100000 in
theorem k_X12_writesTerms {l : Launch} {S : fh_S} {g : fh_G} {h h' : fh_H} (hj : fh_inj S g) {a : Nat} {x1 : Int32} {x2 : Int32} {x3 : Int32} {x4 : Int32} (ha : fh_kq S a 12 = true) (hsp : z_X12_writesTerms S h a x1 x2 x3 x4 = some h') : fh_M l yX12_writesTerms cX12_writesTerms 6 none (fh_rm 43) S g [.ref (g.2.2 a), .int x1, .int x2, .int x3, .int x4] h none h' := by
  unfold z_X12_writesTerms at hsp
  refine fr_head (own := RX12) (by decide) rfl hj (Nat.le_of_ble_eq_true rfl) ?_
  intro p e s m below meth c ls C hr hlocks hR hl
  have hl : lv_has ls 6 [(0, .ref (g.2.2 a)), (1, .int x1), (2, .int x2), (3, .int x3), (4, .int x4)] := hl
  have hx := C.1.1
  have hb := C.1.2.1
  have hb_26 : ∀ (K3 : fh_H → Int32 → Int32 → Int32 → Int32 → Int32 → Option fh_H) (hK3 : ∀ (h : fh_H) (y1 : Int32) (y2 : Int32) (y3 : Int32) (y4 : Int32) (y5 : Int32) (H : Heap) (locs : List Loc) (ls : Array Slot), K3 h y1 y2 y3 y4 y5 = some h' → fh_R S g s.heap h H locs → lv_has ls 6 [(0, .ref (g.2.2 a)), (1, .int y1), (2, .int y2), (3, .int y3), (4, .int y4), (5, .int y5)] → fh_Wk p l e 43 s m [.ref (g.2.2 a), .int x1, .int x2, .int x3, .int x4] below meth c S g none h' H locs (F0 m 3 ls [])), ∀ (h : fh_H) (y1 : Int32) (y2 : Int32) (y3 : Int32) (y4 : Int32) (y5 : Int32) (H : Heap) (locs : List Loc) (ls : Array Slot), z_X12_writesTerms_b26 S a K3 h y1 y2 y3 y4 y5 = some h' → fh_R S g s.heap h H locs → lv_has ls 6 [(0, .ref (g.2.2 a)), (1, .int y1), (2, .int y2), (3, .int y3), (4, .int y4), (5, .int y5)] → fh_Wk p l e 43 s m [.ref (g.2.2 a), .int x1, .int x2, .int x3, .int x4] below meth c S g none h' H locs (F0 m 26 ls []) := by
    intro K3 hK3 h y1 y2 y3 y4 y5 H locs ls hsp hR hl
    unfold z_X12_writesTerms_b26 at hsp
    refine lv_aload_n hx hb dX12_writesTerms_26 rfl (lv_at hl 0 rfl) ?_
    refine lv_aload_n hx hb dX12_writesTerms_27 rfl (lv_at hl 0 rfl) ?_
    refine lv_iload_n hx hb dX12_writesTerms_28 rfl (lv_at hl 1 rfl) ?_
    refine lv_iload hx hb dX12_writesTerms_29 (lv_at hl 5 rfl) ?_
    obtain ⟨r1, E2, hsp⟩ := fr_b1 hsp
    refine fq_callV (rest := [.ref (g.2.2 a)]) (st1 := [.int r1, .ref (g.2.2 a)]) C hR (k_X12_termOf C.2.2 ha E2) Y_X12_termOf YV_X12_termOf Lk_RX12_219 ha ⟨_, _, rfl, by decide⟩ rfl hl.1 ⟨Nat.le_of_ble_eq_true rfl, Nat.le_of_ble_eq_true rfl⟩ rfl (Nat.le_of_ble_eq_true rfl) ⟨Nat.zero_le _, Nat.zero_le _⟩ rfl dX12_writesTerms_31 (fun H locs hR => ?_)
    refine lv_i2l hx hb dX12_writesTerms_34 rfl ?_
    obtain ⟨h3, E4, hsp⟩ := fr_b1 hsp
    refine fq_callV (rest := []) (st1 := []) C hR (k_X12_writesNumber C.2.2 40 ha E4) Y_X12_writesNumber YV_X12_writesNumber Lk_RX12_367 ha ⟨_, _, rfl, by decide⟩ rfl hl.1 ⟨Nat.le_of_ble_eq_true rfl, Nat.le_of_ble_eq_true rfl⟩ rfl (Nat.le_of_ble_eq_true rfl) ⟨Nat.zero_le _, Nat.zero_le _⟩ rfl dX12_writesTerms_35 (fun H locs hR => ?_)
    obtain ⟨v5, ev5⟩ : ∃ z : Int32, z = y5 + 1 := ⟨_, rfl⟩
    have hsp := fr_let ev5 hsp
    refine lv_iinc (v := v5) (lv' := [(5, .int v5), (0, .ref (g.2.2 a)), (1, .int y1), (2, .int y2), (3, .int y3), (4, .int y4)]) hx hb dX12_writesTerms_38 hl (k := 5) rfl (by rw [ev5]; rfl) (by decide) rfl (fun ls hl => ?_)
    refine lv_goto (tgt := 3) hx hb dX12_writesTerms_41 (by decide) ?_
    exact hK3 h3 y1 y2 y3 y4 v5 _ _ _ hsp hR (lv_sub hl [1, 2, 3, 4, 5, 0] rfl)
  have hb_3 : ∀ (n : Nat) (h : fh_H) (y1 : Int32) (y2 : Int32) (y3 : Int32) (y4 : Int32) (y5 : Int32) (H : Heap) (locs : List Loc) (ls : Array Slot), z_X12_writesTerms_b3 S a n h y1 y2 y3 y4 y5 = some h' → fh_R S g s.heap h H locs → lv_has ls 6 [(0, .ref (g.2.2 a)), (1, .int y1), (2, .int y2), (3, .int y3), (4, .int y4), (5, .int y5)] → fh_Wk p l e 43 s m [.ref (g.2.2 a), .int x1, .int x2, .int x3, .int x4] below meth c S g none h' H locs (F0 m 3 ls []) := by
    intro n
    induction n with
    | zero => intro h y1 y2 y3 y4 y5 H locs ls hsp; cases hsp
    | succ n ih =>
      intro h y1 y2 y3 y4 y5 H locs ls hsp hR hl
      rw [z_X12_writesTerms_b3] at hsp
      refine lv_iload hx hb dX12_writesTerms_3 (lv_at hl 5 rfl) ?_
      refine lv_iload_n hx hb dX12_writesTerms_5 rfl (lv_at hl 3 rfl) ?_
      refine lv_icmp_ge (tgt := 44) hx hb dX12_writesTerms_6 (by decide) (fun c1 => ?_) (fun c1 => ?_)
      · rw [if_pos c1] at hsp
        exact fr_vret C hr hlocks hR (fr_s1 hsp) dX12_writesTerms_44
      · rw [if_neg c1] at hsp
        refine lv_iload hx hb dX12_writesTerms_9 (lv_at hl 4 rfl) ?_
        refine lv_if_eq (tgt := 20) hx hb dX12_writesTerms_11 (by decide) (fun c2 => ?_) (fun c2 => ?_)
        · rw [if_pos c2] at hsp
          refine lv_aload_n hx hb dX12_writesTerms_20 rfl (lv_at hl 0 rfl) ?_
          refine lv_iload hx hb dX12_writesTerms_21 (lv_at hl 5 rfl) ?_
          obtain ⟨h3, E4, hsp⟩ := fr_b1 hsp
          refine fq_callV (rest := []) (st1 := []) C hR (k_X12_writesSign C.2.2 ha E4) Y_X12_writesSign YV_X12_writesSign Lk_RX12_374 ha ⟨_, _, rfl, by decide⟩ rfl hl.1 ⟨Nat.le_of_ble_eq_true rfl, Nat.le_of_ble_eq_true rfl⟩ rfl (Nat.le_of_ble_eq_true rfl) ⟨Nat.zero_le _, Nat.zero_le _⟩ rfl dX12_writesTerms_23 (fun H locs hR => ?_)
          exact hb_26 (z_X12_writesTerms_b3 S a n) ih h3 y1 y2 y3 y4 y5 _ _ _ hsp hR (lv_sub hl [0, 1, 2, 3, 4, 5] rfl)
        · rw [if_neg c2] at hsp
          refine lv_iload hx hb dX12_writesTerms_14 (lv_at hl 5 rfl) ?_
          refine lv_iload_n hx hb dX12_writesTerms_16 rfl (lv_at hl 2 rfl) ?_
          refine lv_icmp_le (tgt := 26) hx hb dX12_writesTerms_17 (by decide) (fun c5 => ?_) (fun c5 => ?_)
          · rw [if_pos c5] at hsp
            exact hb_26 (z_X12_writesTerms_b3 S a n) ih h y1 y2 y3 y4 y5 _ _ _ hsp hR (lv_sub hl [0, 1, 2, 3, 4, 5] rfl)
          · rw [if_neg c5] at hsp
            refine lv_aload_n hx hb dX12_writesTerms_20 rfl (lv_at hl 0 rfl) ?_
            refine lv_iload hx hb dX12_writesTerms_21 (lv_at hl 5 rfl) ?_
            obtain ⟨h6, E7, hsp⟩ := fr_b1 hsp
            refine fq_callV (rest := []) (st1 := []) C hR (k_X12_writesSign C.2.2 ha E7) Y_X12_writesSign YV_X12_writesSign Lk_RX12_374 ha ⟨_, _, rfl, by decide⟩ rfl hl.1 ⟨Nat.le_of_ble_eq_true rfl, Nat.le_of_ble_eq_true rfl⟩ rfl (Nat.le_of_ble_eq_true rfl) ⟨Nat.zero_le _, Nat.zero_le _⟩ rfl dX12_writesTerms_23 (fun H locs hR => ?_)
            exact hb_26 (z_X12_writesTerms_b3 S a n) ih h6 y1 y2 y3 y4 y5 _ _ _ hsp hR (lv_sub hl [0, 1, 2, 3, 4, 5] rfl)
  refine lv_iload_n hx hb dX12_writesTerms_0 rfl (lv_at hl 2 rfl) ?_
  refine lv_istore (lv' := [(5, .int x2), (0, .ref (g.2.2 a)), (1, .int x1), (2, .int x2), (3, .int x3), (4, .int x4)]) hx hb dX12_writesTerms_1 hl (by decide) rfl (fun ls hl => ?_)
  exact hb_3 20000 h x1 x2 x3 x4 x2 _ _ _ hsp hR (lv_sub hl [1, 2, 3, 4, 5, 0] rfl)

/-! TermRowsModel.say(II)I -/
def z_X12_say_b167 (S : fh_S) (a : Nat) (h : fh_H) : Option (Int32 × fh_H) :=
    fh_b1 (z_X12_writes S h a (126 : Int32)) (fun h1 => fh_b1 (z_X12_writes S h1 a (93 : Int32)) (fun h3 => some ((h3.1 a 32), h3)))
def z_X12_say_b125 (S : fh_S) (a : Nat) (h : fh_H) (y1 : Int32) (y2 : Int32) : Option (Int32 × fh_H) :=
    fh_b1 (h.2.2 a 5) (fun j1 => fh_ck (fh_kq S j1 13) (fh_ck (fh_in y1 (S.2.2 j1)) (fh_b1 (z_J9_min_7cf53 y2 (h.1 j1 (Int32.toNatClampNeg y1))) (fun r5 => fh_b1 (z_X12_writesTerms S h a y1 (0 : Int32) r5 (0 : Int32)) (fun h7 => fh_b1 (h7.2.2 a 5) (fun j9 => fh_ck (fh_kq S j9 13) (fh_ck (fh_in y1 (S.2.2 j9)) (if r5 < (h7.1 j9 (Int32.toNatClampNeg y1)) then (z_X12_say_b167 S a h7) else (fh_b1 (h7.2.2 a 6) (fun j14 => fh_ck (fh_kq S j14 13) (fh_ck (fh_in y1 (S.2.2 j14)) (if (h7.1 j14 (Int32.toNatClampNeg y1)) = (1 : Int32) then (fh_b1 (z_X12_writes S h7 a (93 : Int32)) (fun h19 => some ((h19.1 a 32), h19))) else (z_X12_say_b167 S a h7)))))))))))))
def z_X12_say_b29 (S : fh_S) (a : Nat) (h : fh_H) (y1 : Int32) (y2 : Int32) (t0 : Int32) (t1 : Nat) : Option (Int32 × fh_H) :=
    fh_ck (fh_kq S t1 12) (fh_let (fh_sI h t1 3 t0) (fun h2 => if (h2.1 a 3) ≤ 0 then (fh_b1 (z_X12_layAgain S h2 a y1) (fun h4 => fh_let (fh_sI h4 a 32 (0 : Int32)) (fun h6 => fh_b1 (z_X12_writes S h6 a (91 : Int32)) (fun h7 => fh_b1 (z_J9_max_7cf53 (1 : Int32) (h7.1 a 29)) (fun r9 => if (h7.1 a 29) = (-1 : Int32) then (z_X12_say_b125 S a h7 y1 y2) else (if y2 < (r9 + (h7.1 a 30)) then (z_X12_say_b125 S a h7 y1 y2) else (fh_b1 (z_X12_writesTerms S h7 a y1 (0 : Int32) r9 (0 : Int32)) (fun h13 => fh_b1 (z_X12_writesSign S h13 a r9) (fun h15 => fh_b1 (z_X12_writes S h15 a (40 : Int32)) (fun h17 => fh_b1 (z_X12_writesTerms S h17 a y1 r9 (r9 + (h17.1 a 30)) (1 : Int32)) (fun h19 => fh_b1 (z_X12_writes S h19 a (41 : Int32)) (fun h21 => fh_b1 (z_X12_writes S h21 a (93 : Int32)) (fun h23 => some ((h23.1 a 32), h23)))))))))))))) else (some ((0 : Int32), h2))))
def z_X12_say (S : fh_S) (h : fh_H) (a : Nat) (x1 : Int32) (x2 : Int32) : Option (Int32 × fh_H) :=
    fh_b1 (z_X12_isRow x1) (fun r1 => if r1 = 0 then (z_X12_say_b29 S a h x1 x2 (1 : Int32) a) else (fh_b1 (z_X12_isIn (Int32.toInt64 x2) (1 : Int64) (60 : Int64)) (fun r4 => if r4 = 0 then (z_X12_say_b29 S a h x1 x2 (2 : Int32) a) else (z_X12_say_b29 S a h x1 x2 (0 : Int32) a))))
set_option maxHeartbeats 4000000 in
set_option maxRecDepth 100000 in
theorem k_X12_say {l : Launch} {S : fh_S} {g : fh_G} {h h' : fh_H} (hj : fh_inj S g) {a : Nat} {x1 : Int32} {x2 : Int32} {r : Int32} (ha : fh_kq S a 12 = true) (hsp : z_X12_say S h a x1 x2 = some (r, h')) : fh_M l yX12_say cX12_say 5 (some .int) (fh_rm 44) S g [.ref (g.2.2 a), .int x1, .int x2] h (some (.int r)) h' := by
  unfold z_X12_say at hsp
  refine fr_head (own := RX12) (by decide) rfl hj (Nat.le_of_ble_eq_true rfl) ?_
  intro p e s m below meth c ls C hr hlocks hR hl
  have hl : lv_has ls 5 [(0, .ref (g.2.2 a)), (1, .int x1), (2, .int x2)] := hl
  have hx := C.1.1
  have hb := C.1.2.1
  have hb_167 : ∀ (h : fh_H) (H : Heap) (locs : List Loc) (ls : Array Slot), z_X12_say_b167 S a h = some (r, h') → fh_R S g s.heap h H locs → lv_has ls 5 [(0, .ref (g.2.2 a))] → fh_Wk p l e 44 s m [.ref (g.2.2 a), .int x1, .int x2] below meth c S g (some (.int r)) h' H locs (F0 m 167 ls []) := by
    intro h  H locs ls hsp hR hl
    unfold z_X12_say_b167 at hsp
    refine lv_aload_n hx hb dX12_say_167 rfl (lv_at hl 0 rfl) ?_
    refine lv_bipush (v := 126) hx hb dX12_say_168 (by decide) ?_
    obtain ⟨h1, E2, hsp⟩ := fr_b1 hsp
    refine fq_callV (rest := []) (st1 := []) C hR (k_X12_writes C.2.2 ha E2) Y_X12_writes YV_X12_writes Lk_RX12_364 ha ⟨_, _, rfl, by decide⟩ rfl hl.1 ⟨Nat.le_of_ble_eq_true rfl, Nat.le_of_ble_eq_true rfl⟩ rfl (Nat.le_of_ble_eq_true rfl) ⟨Nat.zero_le _, Nat.zero_le _⟩ rfl dX12_say_170 (fun H locs hR => ?_)
    refine lv_aload_n hx hb dX12_say_173 rfl (lv_at hl 0 rfl) ?_
    refine lv_bipush (v := 93) hx hb dX12_say_174 (by decide) ?_
    obtain ⟨h3, E4, hsp⟩ := fr_b1 hsp
    refine fq_callV (rest := []) (st1 := []) C hR (k_X12_writes C.2.2 ha E4) Y_X12_writes YV_X12_writes Lk_RX12_364 ha ⟨_, _, rfl, by decide⟩ rfl hl.1 ⟨Nat.le_of_ble_eq_true rfl, Nat.le_of_ble_eq_true rfl⟩ rfl (Nat.le_of_ble_eq_true rfl) ⟨Nat.zero_le _, Nat.zero_le _⟩ rfl dX12_say_176 (fun H locs hR => ?_)
    refine lv_aload_n hx hb dX12_say_179 rfl (lv_at hl 0 rfl) ?_
    refine fr_geti C hR ha Fg_RX12_361 rfl dX12_say_180 ?_
    obtain ⟨e1, e2⟩ := fr_s2 hsp
    exact fr_iret C hr hlocks hR e1 e2 dX12_say_183
  have hb_125 : ∀ (h : fh_H) (y1 : Int32) (y2 : Int32) (H : Heap) (locs : List Loc) (ls : Array Slot), z_X12_say_b125 S a h y1 y2 = some (r, h') → fh_R S g s.heap h H locs → lv_has ls 5 [(0, .ref (g.2.2 a)), (1, .int y1), (2, .int y2)] → fh_Wk p l e 44 s m [.ref (g.2.2 a), .int x1, .int x2] below meth c S g (some (.int r)) h' H locs (F0 m 125 ls []) := by
    intro h y1 y2 H locs ls hsp hR hl
    unfold z_X12_say_b125 at hsp
    refine lv_iload_n hx hb dX12_say_125 rfl (lv_at hl 2 rfl) ?_
    refine lv_aload_n hx hb dX12_say_126 rfl (lv_at hl 0 rfl) ?_
    obtain ⟨j1, hv2, hsp⟩ := fr_b1 hsp
    refine fr_getr C hR ha Fg_RX12_19 rfl hv2 dX12_say_127 ?_
    refine lv_iload_n hx hb dX12_say_130 rfl (lv_at hl 1 rfl) ?_
    obtain ⟨hk3, hsp⟩ := fr_ck hsp
    obtain ⟨hi4, hsp⟩ := fr_ck hsp
    refine fr_iald C hR hk3 hi4 dX12_say_131 ?_
    obtain ⟨r5, E6, hsp⟩ := fr_b1 hsp
    refine fq_callS (rest := []) (st1 := [.int r5]) C hR (k_J9_min_7cf53 C.2.2 E6) Y_J9_min_7cf53 YS_J9_min_7cf53 Lk_RX12_383 rfl hl.1 ⟨Nat.le_of_ble_eq_true rfl, Nat.le_of_ble_eq_true rfl⟩ rfl (Nat.le_of_ble_eq_true rfl) ⟨Nat.zero_le _, Nat.zero_le _⟩ rfl dX12_say_132 (fun H locs hR => ?_)
    refine lv_istore (lv' := [(4, .int r5), (0, .ref (g.2.2 a)), (1, .int y1), (2, .int y2)]) hx hb dX12_say_135 hl (by decide) rfl (fun ls hl => ?_)
    refine lv_aload_n hx hb dX12_say_137 rfl (lv_at hl 1 rfl) ?_
    refine lv_iload_n hx hb dX12_say_138 rfl (lv_at hl 2 rfl) ?_
    refine lv_iconst (v := 0) hx hb dX12_say_139 (by decide) ?_
    refine lv_iload hx hb dX12_say_140 (lv_at hl 0 rfl) ?_
    refine lv_iconst (v := 0) hx hb dX12_say_142 (by decide) ?_
    obtain ⟨h7, E8, hsp⟩ := fr_b1 hsp
    refine fq_callV (rest := []) (st1 := []) C hR (k_X12_writesTerms C.2.2 ha E8) Y_X12_writesTerms YV_X12_writesTerms Lk_RX12_379 ha ⟨_, _, rfl, by decide⟩ rfl hl.1 ⟨Nat.le_of_ble_eq_true rfl, Nat.le_of_ble_eq_true rfl⟩ rfl (Nat.le_of_ble_eq_true rfl) ⟨Nat.zero_le _, Nat.zero_le _⟩ rfl dX12_say_143 (fun H locs hR => ?_)
    refine lv_iload hx hb dX12_say_146 (lv_at hl 0 rfl) ?_
    refine lv_aload_n hx hb dX12_say_148 rfl (lv_at hl 1 rfl) ?_
    obtain ⟨j9, hv10, hsp⟩ := fr_b1 hsp
    refine fr_getr C hR ha Fg_RX12_19 rfl hv10 dX12_say_149 ?_
    refine lv_iload_n hx hb dX12_say_152 rfl (lv_at hl 2 rfl) ?_
    obtain ⟨hk11, hsp⟩ := fr_ck hsp
    obtain ⟨hi12, hsp⟩ := fr_ck hsp
    refine fr_iald C hR hk11 hi12 dX12_say_153 ?_
    refine lv_icmp_lt (tgt := 167) hx hb dX12_say_154 (by decide) (fun c13 => ?_) (fun c13 => ?_)
    · rw [if_pos c13] at hsp
      exact hb_167 h7 _ _ _ hsp hR (lv_sub hl [1] rfl)
    · rw [if_neg c13] at hsp
      refine lv_aload_n hx hb dX12_say_157 rfl (lv_at hl 1 rfl) ?_
      obtain ⟨j14, hv15, hsp⟩ := fr_b1 hsp
      refine fr_getr C hR ha Fg_RX12_22 rfl hv15 dX12_say_158 ?_
      refine lv_iload_n hx hb dX12_say_161 rfl (lv_at hl 2 rfl) ?_
      obtain ⟨hk16, hsp⟩ := fr_ck hsp
      obtain ⟨hi17, hsp⟩ := fr_ck hsp
      refine fr_iald C hR hk16 hi17 dX12_say_162 ?_
      refine lv_iconst (v := 1) hx hb dX12_say_163 (by decide) ?_
      refine lv_icmp_eq (tgt := 173) hx hb dX12_say_164 (by decide) (fun c18 => ?_) (fun c18 => ?_)
      · rw [if_pos c18] at hsp
        refine lv_aload_n hx hb dX12_say_173 rfl (lv_at hl 1 rfl) ?_
        refine lv_bipush (v := 93) hx hb dX12_say_174 (by decide) ?_
        obtain ⟨h19, E20, hsp⟩ := fr_b1 hsp
        refine fq_callV (rest := []) (st1 := []) C hR (k_X12_writes C.2.2 ha E20) Y_X12_writes YV_X12_writes Lk_RX12_364 ha ⟨_, _, rfl, by decide⟩ rfl hl.1 ⟨Nat.le_of_ble_eq_true rfl, Nat.le_of_ble_eq_true rfl⟩ rfl (Nat.le_of_ble_eq_true rfl) ⟨Nat.zero_le _, Nat.zero_le _⟩ rfl dX12_say_176 (fun H locs hR => ?_)
        refine lv_aload_n hx hb dX12_say_179 rfl (lv_at hl 1 rfl) ?_
        refine fr_geti C hR ha Fg_RX12_361 rfl dX12_say_180 ?_
        obtain ⟨e1, e2⟩ := fr_s2 hsp
        exact fr_iret C hr hlocks hR e1 e2 dX12_say_183
      · rw [if_neg c18] at hsp
        exact hb_167 h7 _ _ _ hsp hR (lv_sub hl [1] rfl)
  have hb_29 : ∀ (h : fh_H) (y1 : Int32) (y2 : Int32) (t0 : Int32) (t1 : Nat) (H : Heap) (locs : List Loc) (ls : Array Slot), z_X12_say_b29 S a h y1 y2 t0 t1 = some (r, h') → fh_R S g s.heap h H locs → lv_has ls 5 [(0, .ref (g.2.2 a)), (1, .int y1), (2, .int y2)] → fh_Wk p l e 44 s m [.ref (g.2.2 a), .int x1, .int x2] below meth c S g (some (.int r)) h' H locs (F0 m 29 ls [.int t0, .ref (g.2.2 t1)]) := by
    intro h y1 y2 t0 t1 H locs ls hsp hR hl
    unfold z_X12_say_b29 at hsp
    obtain ⟨hk1, hsp⟩ := fr_ck hsp
    refine fr_puti C hR hk1 Fp_RX12_73 rfl dX12_say_29 (fun H locs hR => ?_)
    obtain ⟨h2, eh2⟩ : ∃ z, z = fh_sI h t1 3 t0 := ⟨_, rfl⟩
    rw [← eh2] at hR
    have hsp := fr_let eh2 hsp
    refine lv_aload_n hx hb dX12_say_32 rfl (lv_at hl 0 rfl) ?_
    refine fr_geti C hR ha Fg_RX12_73 rfl dX12_say_33 ?_
    refine lv_if_le (tgt := 41) hx hb dX12_say_36 (by decide) (fun c3 => ?_) (fun c3 => ?_)
    · rw [if_pos c3] at hsp
      refine lv_aload_n hx hb dX12_say_41 rfl (lv_at hl 0 rfl) ?_
      refine lv_iload_n hx hb dX12_say_42 rfl (lv_at hl 1 rfl) ?_
      obtain ⟨h4, E5, hsp⟩ := fr_b1 hsp
      refine fq_callV (rest := []) (st1 := []) C hR (k_X12_layAgain C.2.2 ha E5) Y_X12_layAgain YV_X12_layAgain Lk_RX12_348 ha ⟨_, _, rfl, by decide⟩ rfl hl.1 ⟨Nat.le_of_ble_eq_true rfl, Nat.le_of_ble_eq_true rfl⟩ rfl (Nat.le_of_ble_eq_true rfl) ⟨Nat.zero_le _, Nat.zero_le _⟩ rfl dX12_say_43 (fun H locs hR => ?_)
      refine lv_aload_n hx hb dX12_say_46 rfl (lv_at hl 0 rfl) ?_
      refine lv_iconst (v := 0) hx hb dX12_say_47 (by decide) ?_
      refine fr_puti C hR ha Fp_RX12_361 rfl dX12_say_48 (fun H locs hR => ?_)
      obtain ⟨h6, eh6⟩ : ∃ z, z = fh_sI h4 a 32 (0 : Int32) := ⟨_, rfl⟩
      rw [← eh6] at hR
      have hsp := fr_let eh6 hsp
      refine lv_aload_n hx hb dX12_say_51 rfl (lv_at hl 0 rfl) ?_
      refine lv_bipush (v := 91) hx hb dX12_say_52 (by decide) ?_
      obtain ⟨h7, E8, hsp⟩ := fr_b1 hsp
      refine fq_callV (rest := []) (st1 := []) C hR (k_X12_writes C.2.2 ha E8) Y_X12_writes YV_X12_writes Lk_RX12_364 ha ⟨_, _, rfl, by decide⟩ rfl hl.1 ⟨Nat.le_of_ble_eq_true rfl, Nat.le_of_ble_eq_true rfl⟩ rfl (Nat.le_of_ble_eq_true rfl) ⟨Nat.zero_le _, Nat.zero_le _⟩ rfl dX12_say_54 (fun H locs hR => ?_)
      refine lv_iconst (v := 1) hx hb dX12_say_57 (by decide) ?_
      refine lv_aload_n hx hb dX12_say_58 rfl (lv_at hl 0 rfl) ?_
      refine fr_geti C hR ha Fg_RX12_338 rfl dX12_say_59 ?_
      obtain ⟨r9, E10, hsp⟩ := fr_b1 hsp
      refine fq_callS (rest := []) (st1 := [.int r9]) C hR (k_J9_max_7cf53 C.2.2 E10) Y_J9_max_7cf53 YS_J9_max_7cf53 Lk_RX12_302 rfl hl.1 ⟨Nat.le_of_ble_eq_true rfl, Nat.le_of_ble_eq_true rfl⟩ rfl (Nat.le_of_ble_eq_true rfl) ⟨Nat.zero_le _, Nat.zero_le _⟩ rfl dX12_say_62 (fun H locs hR => ?_)
      refine lv_istore_n (lv' := [(3, .int r9), (0, .ref (g.2.2 a)), (1, .int y1), (2, .int y2)]) hx hb dX12_say_65 rfl hl (by decide) rfl (fun ls hl => ?_)
      refine lv_aload_n hx hb dX12_say_66 rfl (lv_at hl 1 rfl) ?_
      refine fr_geti C hR ha Fg_RX12_338 rfl dX12_say_67 ?_
      refine lv_iconst (v := -1) hx hb dX12_say_70 (by decide) ?_
      refine lv_icmp_eq (tgt := 125) hx hb dX12_say_71 (by decide) (fun c11 => ?_) (fun c11 => ?_)
      · rw [if_pos c11] at hsp
        exact hb_125 h7 y1 y2 _ _ _ hsp hR (lv_sub hl [1, 2, 3] rfl)
      · rw [if_neg c11] at hsp
        refine lv_iload_n hx hb dX12_say_74 rfl (lv_at hl 0 rfl) ?_
        refine lv_aload_n hx hb dX12_say_75 rfl (lv_at hl 1 rfl) ?_
        refine fr_geti C hR ha Fg_RX12_341 rfl dX12_say_76 ?_
        refine lv_iadd hx hb dX12_say_79 ?_
        refine lv_iload_n hx hb dX12_say_80 rfl (lv_at hl 3 rfl) ?_
        refine lv_icmp_gt (tgt := 125) hx hb dX12_say_81 (by decide) (fun c12 => ?_) (fun c12 => ?_)
        · rw [if_pos c12] at hsp
          exact hb_125 h7 y1 y2 _ _ _ hsp hR (lv_sub hl [1, 2, 3] rfl)
        · rw [if_neg c12] at hsp
          refine lv_aload_n hx hb dX12_say_84 rfl (lv_at hl 1 rfl) ?_
          refine lv_iload_n hx hb dX12_say_85 rfl (lv_at hl 2 rfl) ?_
          refine lv_iconst (v := 0) hx hb dX12_say_86 (by decide) ?_
          refine lv_iload_n hx hb dX12_say_87 rfl (lv_at hl 0 rfl) ?_
          refine lv_iconst (v := 0) hx hb dX12_say_88 (by decide) ?_
          obtain ⟨h13, E14, hsp⟩ := fr_b1 hsp
          refine fq_callV (rest := []) (st1 := []) C hR (k_X12_writesTerms C.2.2 ha E14) Y_X12_writesTerms YV_X12_writesTerms Lk_RX12_379 ha ⟨_, _, rfl, by decide⟩ rfl hl.1 ⟨Nat.le_of_ble_eq_true rfl, Nat.le_of_ble_eq_true rfl⟩ rfl (Nat.le_of_ble_eq_true rfl) ⟨Nat.zero_le _, Nat.zero_le _⟩ rfl dX12_say_89 (fun H locs hR => ?_)
          refine lv_aload_n hx hb dX12_say_92 rfl (lv_at hl 1 rfl) ?_
          refine lv_iload_n hx hb dX12_say_93 rfl (lv_at hl 0 rfl) ?_
          obtain ⟨h15, E16, hsp⟩ := fr_b1 hsp
          refine fq_callV (rest := []) (st1 := []) C hR (k_X12_writesSign C.2.2 ha E16) Y_X12_writesSign YV_X12_writesSign Lk_RX12_374 ha ⟨_, _, rfl, by decide⟩ rfl hl.1 ⟨Nat.le_of_ble_eq_true rfl, Nat.le_of_ble_eq_true rfl⟩ rfl (Nat.le_of_ble_eq_true rfl) ⟨Nat.zero_le _, Nat.zero_le _⟩ rfl dX12_say_94 (fun H locs hR => ?_)
          refine lv_aload_n hx hb dX12_say_97 rfl (lv_at hl 1 rfl) ?_
          refine lv_bipush (v := 40) hx hb dX12_say_98 (by decide) ?_
          obtain ⟨h17, E18, hsp⟩ := fr_b1 hsp
          refine fq_callV (rest := []) (st1 := []) C hR (k_X12_writes C.2.2 ha E18) Y_X12_writes YV_X12_writes Lk_RX12_364 ha ⟨_, _, rfl, by decide⟩ rfl hl.1 ⟨Nat.le_of_ble_eq_true rfl, Nat.le_of_ble_eq_true rfl⟩ rfl (Nat.le_of_ble_eq_true rfl) ⟨Nat.zero_le _, Nat.zero_le _⟩ rfl dX12_say_100 (fun H locs hR => ?_)
          refine lv_aload_n hx hb dX12_say_103 rfl (lv_at hl 1 rfl) ?_
          refine lv_iload_n hx hb dX12_say_104 rfl (lv_at hl 2 rfl) ?_
          refine lv_iload_n hx hb dX12_say_105 rfl (lv_at hl 0 rfl) ?_
          refine lv_iload_n hx hb dX12_say_106 rfl (lv_at hl 0 rfl) ?_
          refine lv_aload_n hx hb dX12_say_107 rfl (lv_at hl 1 rfl) ?_
          refine fr_geti C hR ha Fg_RX12_341 rfl dX12_say_108 ?_
          refine lv_iadd hx hb dX12_say_111 ?_
          refine lv_iconst (v := 1) hx hb dX12_say_112 (by decide) ?_
          obtain ⟨h19, E20, hsp⟩ := fr_b1 hsp
          refine fq_callV (rest := []) (st1 := []) C hR (k_X12_writesTerms C.2.2 ha E20) Y_X12_writesTerms YV_X12_writesTerms Lk_RX12_379 ha ⟨_, _, rfl, by decide⟩ rfl hl.1 ⟨Nat.le_of_ble_eq_true rfl, Nat.le_of_ble_eq_true rfl⟩ rfl (Nat.le_of_ble_eq_true rfl) ⟨Nat.zero_le _, Nat.zero_le _⟩ rfl dX12_say_113 (fun H locs hR => ?_)
          refine lv_aload_n hx hb dX12_say_116 rfl (lv_at hl 1 rfl) ?_
          refine lv_bipush (v := 41) hx hb dX12_say_117 (by decide) ?_
          obtain ⟨h21, E22, hsp⟩ := fr_b1 hsp
          refine fq_callV (rest := []) (st1 := []) C hR (k_X12_writes C.2.2 ha E22) Y_X12_writes YV_X12_writes Lk_RX12_364 ha ⟨_, _, rfl, by decide⟩ rfl hl.1 ⟨Nat.le_of_ble_eq_true rfl, Nat.le_of_ble_eq_true rfl⟩ rfl (Nat.le_of_ble_eq_true rfl) ⟨Nat.zero_le _, Nat.zero_le _⟩ rfl dX12_say_119 (fun H locs hR => ?_)
          refine lv_goto (tgt := 173) hx hb dX12_say_122 (by decide) ?_
          refine lv_aload_n hx hb dX12_say_173 rfl (lv_at hl 1 rfl) ?_
          refine lv_bipush (v := 93) hx hb dX12_say_174 (by decide) ?_
          obtain ⟨h23, E24, hsp⟩ := fr_b1 hsp
          refine fq_callV (rest := []) (st1 := []) C hR (k_X12_writes C.2.2 ha E24) Y_X12_writes YV_X12_writes Lk_RX12_364 ha ⟨_, _, rfl, by decide⟩ rfl hl.1 ⟨Nat.le_of_ble_eq_true rfl, Nat.le_of_ble_eq_true rfl⟩ rfl (Nat.le_of_ble_eq_true rfl) ⟨Nat.zero_le _, Nat.zero_le _⟩ rfl dX12_say_176 (fun H locs hR => ?_)
          refine lv_aload_n hx hb dX12_say_179 rfl (lv_at hl 1 rfl) ?_
          refine fr_geti C hR ha Fg_RX12_361 rfl dX12_say_180 ?_
          obtain ⟨e1, e2⟩ := fr_s2 hsp
          exact fr_iret C hr hlocks hR e1 e2 dX12_say_183
    · rw [if_neg c3] at hsp
      refine lv_iconst (v := 0) hx hb dX12_say_39 (by decide) ?_
      obtain ⟨e1, e2⟩ := fr_s2 hsp
      exact fr_iret C hr hlocks hR e1 e2 dX12_say_40
  refine lv_aload_n hx hb dX12_say_0 rfl (lv_at hl 0 rfl) ?_
  refine lv_iload_n hx hb dX12_say_1 rfl (lv_at hl 1 rfl) ?_
  obtain ⟨r1, E2, hsp⟩ := fr_b1 hsp
  refine fq_callS (rest := [.ref (g.2.2 a)]) (st1 := [.int r1, .ref (g.2.2 a)]) C hR (k_X12_isRow C.2.2 E2) Y_X12_isRow YS_X12_isRow Lk_RX12_264 rfl hl.1 ⟨Nat.le_of_ble_eq_true rfl, Nat.le_of_ble_eq_true rfl⟩ rfl (Nat.le_of_ble_eq_true rfl) ⟨Nat.zero_le _, Nat.zero_le _⟩ rfl dX12_say_2 (fun H locs hR => ?_)
  refine lv_if_ne (tgt := 12) hx hb dX12_say_5 (by decide) (fun c3 => ?_) (fun c3 => ?_)
  · rw [if_neg c3] at hsp
    refine lv_iload_n hx hb dX12_say_12 rfl (lv_at hl 2 rfl) ?_
    refine lv_i2l hx hb dX12_say_13 rfl ?_
    refine lv_lconst (v := 1) hx hb dX12_say_14 (by decide) ?_
    refine lv_ldc2 hx hb C.1.2.2.2.1 (C.1.2.2.2.2 _ Kc_RX12_377) dX12_say_15 ?_
    obtain ⟨r4, E5, hsp⟩ := fr_b1 hsp
    refine fq_callS (rest := [.ref (g.2.2 a)]) (st1 := [.int r4, .ref (g.2.2 a)]) C hR (k_X12_isIn C.2.2 E5) Y_X12_isIn YS_X12_isIn Lk_RX12_78 rfl hl.1 ⟨Nat.le_of_ble_eq_true rfl, Nat.le_of_ble_eq_true rfl⟩ rfl (Nat.le_of_ble_eq_true rfl) ⟨Nat.zero_le _, Nat.zero_le _⟩ rfl dX12_say_18 (fun H locs hR => ?_)
    refine lv_if_ne (tgt := 28) hx hb dX12_say_21 (by decide) (fun c6 => ?_) (fun c6 => ?_)
    · rw [if_neg c6] at hsp
      refine lv_iconst (v := 0) hx hb dX12_say_28 (by decide) ?_
      exact hb_29 h x1 x2 (0 : Int32) a _ _ _ hsp hR (lv_sub hl [0, 1, 2] rfl)
    · rw [if_pos c6] at hsp
      refine lv_iconst (v := 2) hx hb dX12_say_24 (by decide) ?_
      refine lv_goto (tgt := 29) hx hb dX12_say_25 (by decide) ?_
      exact hb_29 h x1 x2 (2 : Int32) a _ _ _ hsp hR (lv_sub hl [0, 1, 2] rfl)
  · rw [if_pos c3] at hsp
    refine lv_iconst (v := 1) hx hb dX12_say_8 (by decide) ?_
    refine lv_goto (tgt := 29) hx hb dX12_say_9 (by decide) ?_
    exact hb_29 h x1 x2 (1 : Int32) a _ _ _ hsp hR (lv_sub hl [0, 1, 2] rfl)
