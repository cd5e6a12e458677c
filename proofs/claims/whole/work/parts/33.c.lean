/-! TermRows$Row.greatestBehindFirst()I -/
def z_X6_greatestBehindFirst_b4 (S : fh_S) (a : Nat) : Nat → fh_H → Int32 → Int32 → Option Int32
  | 0, _, _, _ => none
  | n + 1, h, y1, y2 =>
    if (h.1 a 6) ≤ y2 then (some y1) else (fh_b1 (z_X6_termAt S h a y2) (fun r2 => fh_b1 (z_J9_max_7cf53 y1 r2) (fun r4 => fh_let (y2 + 1) (fun v6 => z_X6_greatestBehindFirst_b4 S a n h r4 v6))))
def z_X6_greatestBehindFirst (S : fh_S) (h : fh_H) (a : Nat) : Option Int32 :=
    z_X6_greatestBehindFirst_b4 S a 20000 h (0 : Int32) (1 : Int32)
set_option maxHeartbeats 4000000 in
set_option maxRecDepth 100000 in
theorem k_X6_greatestBehindFirst {l : Launch} {S : fh_S} {g : fh_G} {h : fh_H} (hj : fh_inj S g) {a : Nat} {r : Int32} (ha : fh_kq S a 6 = true) (hsp : z_X6_greatestBehindFirst S h a = some r) : fh_M l yX6_greatestBehindFirst cX6_greatestBehindFirst 3 (some .int) (fh_rm 2) S g [.ref (g.2.2 a)] h (some (.int r)) h := by
  unfold z_X6_greatestBehindFirst at hsp
  refine fr_head (own := RX6) (by decide) rfl hj (Nat.le_of_ble_eq_true rfl) ?_
  intro p e s m below meth c ls C hr hlocks hR hl
  have hl : lv_has ls 3 [(0, .ref (g.2.2 a))] := hl
  have hx := C.1.1
  have hb := C.1.2.1
  have hb_4 : ∀ (n : Nat) (y1 : Int32) (y2 : Int32) (H : Heap) (locs : List Loc) (ls : Array Slot), z_X6_greatestBehindFirst_b4 S a n h y1 y2 = some r → fh_R S g s.heap h H locs → lv_has ls 3 [(0, .ref (g.2.2 a)), (1, .int y1), (2, .int y2)] → fh_Wk p l e 2 s m [.ref (g.2.2 a)] below meth c S g (some (.int r)) h H locs (F0 m 4 ls []) := by
    intro n
    induction n with
    | zero => intro y1 y2 H locs ls hsp; cases hsp
    | succ n ih =>
      intro y1 y2 H locs ls hsp hR hl
      rw [z_X6_greatestBehindFirst_b4] at hsp
      refine lv_iload_n hx hb dX6_greatestBehindFirst_4 rfl (lv_at hl 2 rfl) ?_
      refine lv_aload_n hx hb dX6_greatestBehindFirst_5 rfl (lv_at hl 0 rfl) ?_
      refine fr_geti C hR ha Fg_RX6_36 rfl dX6_greatestBehindFirst_6 ?_
      refine lv_icmp_ge (tgt := 28) hx hb dX6_greatestBehindFirst_9 (by decide) (fun c1 => ?_) (fun c1 => ?_)
      · rw [if_pos c1] at hsp
        refine lv_iload_n hx hb dX6_greatestBehindFirst_28 rfl (lv_at hl 1 rfl) ?_
        have e1 := fr_s1 hsp
        exact fr_iret C hr hlocks hR e1 rfl dX6_greatestBehindFirst_29
      · rw [if_neg c1] at hsp
        refine lv_iload_n hx hb dX6_greatestBehindFirst_12 rfl (lv_at hl 1 rfl) ?_
        refine lv_aload_n hx hb dX6_greatestBehindFirst_13 rfl (lv_at hl 0 rfl) ?_
        refine lv_iload_n hx hb dX6_greatestBehindFirst_14 rfl (lv_at hl 2 rfl) ?_
        obtain ⟨r2, E3, hsp⟩ := fr_b1 hsp
        refine fq_callV (rest := [.int y1]) (st1 := [.int r2, .int y1]) C hR (k_X6_termAt C.2.2 ha E3) Y_X6_termAt YV_X6_termAt Lk_RX6_65 ha ⟨_, _, rfl, by decide⟩ rfl hl.1 ⟨Nat.le_of_ble_eq_true rfl, Nat.le_of_ble_eq_true rfl⟩ rfl (Nat.le_of_ble_eq_true rfl) ⟨Nat.zero_le _, Nat.zero_le _⟩ rfl dX6_greatestBehindFirst_15 (fun H locs hR => ?_)
        obtain ⟨r4, E5, hsp⟩ := fr_b1 hsp
        refine fq_callS (rest := []) (st1 := [.int r4]) C hR (k_J9_max_7cf53 C.2.2 E5) Y_J9_max_7cf53 YS_J9_max_7cf53 Lk_RX6_69 rfl hl.1 ⟨Nat.le_of_ble_eq_true rfl, Nat.le_of_ble_eq_true rfl⟩ rfl (Nat.le_of_ble_eq_true rfl) ⟨Nat.zero_le _, Nat.zero_le _⟩ rfl dX6_greatestBehindFirst_18 (fun H locs hR => ?_)
        refine lv_istore_n (lv' := [(1, .int r4), (0, .ref (g.2.2 a)), (2, .int y2)]) hx hb dX6_greatestBehindFirst_21 rfl hl (by decide) rfl (fun ls hl => ?_)
        obtain ⟨v6, ev6⟩ : ∃ z : Int32, z = y2 + 1 := ⟨_, rfl⟩
        have hsp := fr_let ev6 hsp
        refine lv_iinc (v := v6) (lv' := [(2, .int v6), (1, .int r4), (0, .ref (g.2.2 a))]) hx hb dX6_greatestBehindFirst_22 hl (k := 2) rfl (by rw [ev6]; rfl) (by decide) rfl (fun ls hl => ?_)
        refine lv_goto (tgt := 4) hx hb dX6_greatestBehindFirst_25 (by decide) ?_
        exact ih r4 v6 _ _ _ hsp hR (lv_sub hl [2, 1, 0] rfl)
  refine lv_iconst (v := 0) hx hb dX6_greatestBehindFirst_0 (by decide) ?_
  refine lv_istore_n (lv' := [(1, .int (0 : Int32)), (0, .ref (g.2.2 a))]) hx hb dX6_greatestBehindFirst_1 rfl hl (by decide) rfl (fun ls hl => ?_)
  refine lv_iconst (v := 1) hx hb dX6_greatestBehindFirst_2 (by decide) ?_
  refine lv_istore_n (lv' := [(2, .int (1 : Int32)), (1, .int (0 : Int32)), (0, .ref (g.2.2 a))]) hx hb dX6_greatestBehindFirst_3 rfl hl (by decide) rfl (fun ls hl => ?_)
  exact hb_4 20000 (0 : Int32) (1 : Int32) _ _ _ hsp hR (lv_sub hl [2, 1, 0] rfl)

/-! TermRows$Row.wrappedSum()I -/
def z_X6_wrappedSum_b4 (S : fh_S) (a : Nat) : Nat → fh_H → Int32 → Int32 → Option Int32
  | 0, _, _, _ => none
  | n + 1, h, y1, y2 =>
    if (h.1 a 6) ≤ y2 then (some y1) else (fh_b1 (z_X6_termAt S h a y2) (fun r2 => fh_let ((y1 + r2)) (fun v4 => fh_let (y2 + 1) (fun v5 => z_X6_wrappedSum_b4 S a n h v4 v5))))
def z_X6_wrappedSum (S : fh_S) (h : fh_H) (a : Nat) : Option Int32 :=
    z_X6_wrappedSum_b4 S a 20000 h (0 : Int32) (0 : Int32)
set_option maxHeartbeats 4000000 in
set_option maxRecDepth 100000 in
theorem k_X6_wrappedSum {l : Launch} {S : fh_S} {g : fh_G} {h : fh_H} (hj : fh_inj S g) {a : Nat} {r : Int32} (ha : fh_kq S a 6 = true) (hsp : z_X6_wrappedSum S h a = some r) : fh_M l yX6_wrappedSum cX6_wrappedSum 3 (some .int) (fh_rm 2) S g [.ref (g.2.2 a)] h (some (.int r)) h := by
  unfold z_X6_wrappedSum at hsp
  refine fr_head (own := RX6) (by decide) rfl hj (Nat.le_of_ble_eq_true rfl) ?_
  intro p e s m below meth c ls C hr hlocks hR hl
  have hl : lv_has ls 3 [(0, .ref (g.2.2 a))] := hl
  have hx := C.1.1
  have hb := C.1.2.1
  have hb_4 : ∀ (n : Nat) (y1 : Int32) (y2 : Int32) (H : Heap) (locs : List Loc) (ls : Array Slot), z_X6_wrappedSum_b4 S a n h y1 y2 = some r → fh_R S g s.heap h H locs → lv_has ls 3 [(0, .ref (g.2.2 a)), (1, .int y1), (2, .int y2)] → fh_Wk p l e 2 s m [.ref (g.2.2 a)] below meth c S g (some (.int r)) h H locs (F0 m 4 ls []) := by
    intro n
    induction n with
    | zero => intro y1 y2 H locs ls hsp; cases hsp
    | succ n ih =>
      intro y1 y2 H locs ls hsp hR hl
      rw [z_X6_wrappedSum_b4] at hsp
      refine lv_iload_n hx hb dX6_wrappedSum_4 rfl (lv_at hl 2 rfl) ?_
      refine lv_aload_n hx hb dX6_wrappedSum_5 rfl (lv_at hl 0 rfl) ?_
      refine fr_geti C hR ha Fg_RX6_36 rfl dX6_wrappedSum_6 ?_
      refine lv_icmp_ge (tgt := 26) hx hb dX6_wrappedSum_9 (by decide) (fun c1 => ?_) (fun c1 => ?_)
      · rw [if_pos c1] at hsp
        refine lv_iload_n hx hb dX6_wrappedSum_26 rfl (lv_at hl 1 rfl) ?_
        have e1 := fr_s1 hsp
        exact fr_iret C hr hlocks hR e1 rfl dX6_wrappedSum_27
      · rw [if_neg c1] at hsp
        refine lv_iload_n hx hb dX6_wrappedSum_12 rfl (lv_at hl 1 rfl) ?_
        refine lv_aload_n hx hb dX6_wrappedSum_13 rfl (lv_at hl 0 rfl) ?_
        refine lv_iload_n hx hb dX6_wrappedSum_14 rfl (lv_at hl 2 rfl) ?_
        obtain ⟨r2, E3, hsp⟩ := fr_b1 hsp
        refine fq_callV (rest := [.int y1]) (st1 := [.int r2, .int y1]) C hR (k_X6_termAt C.2.2 ha E3) Y_X6_termAt YV_X6_termAt Lk_RX6_65 ha ⟨_, _, rfl, by decide⟩ rfl hl.1 ⟨Nat.le_of_ble_eq_true rfl, Nat.le_of_ble_eq_true rfl⟩ rfl (Nat.le_of_ble_eq_true rfl) ⟨Nat.zero_le _, Nat.zero_le _⟩ rfl dX6_wrappedSum_15 (fun H locs hR => ?_)
        refine lv_iadd hx hb dX6_wrappedSum_18 ?_
        refine lv_topi (fun v4 ev4 => ?_)
        have hsp := fr_let ev4 hsp
        refine lv_istore_n (lv' := [(1, .int v4), (0, .ref (g.2.2 a)), (2, .int y2)]) hx hb dX6_wrappedSum_19 rfl hl (by decide) rfl (fun ls hl => ?_)
        obtain ⟨v5, ev5⟩ : ∃ z : Int32, z = y2 + 1 := ⟨_, rfl⟩
        have hsp := fr_let ev5 hsp
        refine lv_iinc (v := v5) (lv' := [(2, .int v5), (1, .int v4), (0, .ref (g.2.2 a))]) hx hb dX6_wrappedSum_20 hl (k := 2) rfl (by rw [ev5]; rfl) (by decide) rfl (fun ls hl => ?_)
        refine lv_goto (tgt := 4) hx hb dX6_wrappedSum_23 (by decide) ?_
        exact ih v4 v5 _ _ _ hsp hR (lv_sub hl [2, 1, 0] rfl)
  refine lv_iconst (v := 0) hx hb dX6_wrappedSum_0 (by decide) ?_
  refine lv_istore_n (lv' := [(1, .int (0 : Int32)), (0, .ref (g.2.2 a))]) hx hb dX6_wrappedSum_1 rfl hl (by decide) rfl (fun ls hl => ?_)
  refine lv_iconst (v := 0) hx hb dX6_wrappedSum_2 (by decide) ?_
  refine lv_istore_n (lv' := [(2, .int (0 : Int32)), (1, .int (0 : Int32)), (0, .ref (g.2.2 a))]) hx hb dX6_wrappedSum_3 rfl hl (by decide) rfl (fun ls hl => ?_)
  exact hb_4 20000 (0 : Int32) (0 : Int32) _ _ _ hsp hR (lv_sub hl [2, 1, 0] rfl)

/-! TermRows$RowText.tellTo(LTermRows$Made;)V -/
def z_X7_tellTo_b77 (S : fh_S) (a : Nat) (K25 : fh_H → Nat → Int32 → Int32 → Option fh_H) (h : fh_H) (y1 : Nat) (y2 : Int32) (y3 : Int32) : Option fh_H :=
    fh_ck (fh_kq S y1 3) (fh_b1 (h.2.2 y1 8) (fun j2 => fh_b1 (h.2.2 a 1) (fun j4 => fh_ck (fh_kq S j4 13) (fh_ck (fh_in y3 (S.2.2 j4)) (fh_ck (fh_kq S j2 13) (fh_ck (fh_in y3 (S.2.2 j2)) (fh_let (fh_sI h j2 (Int32.toNatClampNeg y3) (h.1 j4 (Int32.toNatClampNeg y3))) (fun h10 => fh_let (y3 + 1) (fun v11 => K25 h10 y1 y2 v11)))))))))
def z_X7_tellTo_b25 (S : fh_S) (a : Nat) : Nat → fh_H → Nat → Int32 → Int32 → Option fh_H
  | 0, _, _, _, _ => none
  | n + 1, h, y1, y2, y3 =>
    if y2 ≤ y3 then (fh_ck (fh_kq S y1 3) (fh_let (fh_sI h y1 7 y2) (fun h3 => some h3))) else (fh_b1 (h.2.2 a 1) (fun j4 => fh_ck (fh_kq S j4 13) (if (Int32.ofNat (S.2.2 j4)) ≤ y3 then (fh_ck (fh_kq S y1 3) (fh_let (fh_sI h y1 7 y2) (fun h9 => some h9))) else (fh_ck (fh_kq S y1 3) (fh_b1 (h.2.2 y1 8) (fun j11 => fh_ck (fh_kq S j11 13) (if (Int32.ofNat (S.2.2 j11)) ≤ y3 then (fh_let (fh_sI h y1 7 y2) (fun h15 => some h15)) else (if y3 < (h.1 a 3) then (z_X7_tellTo_b77 S a (z_X7_tellTo_b25 S a n) h y1 y2 y3) else (fh_b1 (z_X7_earlierTerm S h a (y3 - ((h.1 a 3) - (h.1 a 2)))) (fun r17 => fh_ck (fh_in y3 (S.2.2 j4)) (fh_let (fh_sI h j4 (Int32.toNatClampNeg y3) r17) (fun h20 => z_X7_tellTo_b77 S a (z_X7_tellTo_b25 S a n) h20 y1 y2 y3))))))))))))
def z_X7_tellTo (S : fh_S) (h : fh_H) (a : Nat) (x1 : Nat) : Option fh_H :=
    if (h.1 a 2) = (-1 : Int32) then (fh_b1 (z_J9_min_7cf53 (h.1 a 3) (60 : Int32)) (fun r2 => z_X7_tellTo_b25 S a 20000 h x1 r2 (0 : Int32))) else (z_X7_tellTo_b25 S a 20000 h x1 (60 : Int32) (0 : Int32))
set_option maxHeartbeats 4000000 in
set_option maxRecDepth 100000 in
theorem k_X7_tellTo {l : Launch} {S : fh_S} {g : fh_G} {h h' : fh_H} (hj : fh_inj S g) {a : Nat} {x1 : Nat} (ha : fh_kq S a 7 = true) (k_x1 : fh_kq S x1 3 = true) (hsp : z_X7_tellTo S h a x1 = some h') : fh_M l yX7_tellTo cX7_tellTo 4 none (fh_rm 2) S g [.ref (g.2.2 a), .ref (g.2.2 x1)] h none h' := by
  unfold z_X7_tellTo at hsp
  refine fr_head (own := RX7) (by decide) rfl hj (Nat.le_of_ble_eq_true rfl) ?_
  intro p e s m below meth c ls C hr hlocks hR hl
  have hl : lv_has ls 4 [(0, .ref (g.2.2 a)), (1, .ref (g.2.2 x1))] := hl
  have hx := C.1.1
  have hb := C.1.2.1
  have hb_77 : ∀ (K25 : fh_H → Nat → Int32 → Int32 → Option fh_H) (hK25 : ∀ (h : fh_H) (y1 : Nat) (y2 : Int32) (y3 : Int32) (H : Heap) (locs : List Loc) (ls : Array Slot), K25 h y1 y2 y3 = some h' → fh_R S g s.heap h H locs → lv_has ls 4 [(0, .ref (g.2.2 a)), (1, .ref (g.2.2 y1)), (2, .int y2), (3, .int y3)] → fh_Wk p l e 2 s m [.ref (g.2.2 a), .ref (g.2.2 x1)] below meth c S g none h' H locs (F0 m 25 ls [])), ∀ (h : fh_H) (y1 : Nat) (y2 : Int32) (y3 : Int32) (H : Heap) (locs : List Loc) (ls : Array Slot), z_X7_tellTo_b77 S a K25 h y1 y2 y3 = some h' → fh_R S g s.heap h H locs → lv_has ls 4 [(0, .ref (g.2.2 a)), (1, .ref (g.2.2 y1)), (2, .int y2), (3, .int y3)] → fh_Wk p l e 2 s m [.ref (g.2.2 a), .ref (g.2.2 x1)] below meth c S g none h' H locs (F0 m 77 ls []) := by
    intro K25 hK25 h y1 y2 y3 H locs ls hsp hR hl
    unfold z_X7_tellTo_b77 at hsp
    refine lv_aload_n hx hb dX7_tellTo_77 rfl (lv_at hl 1 rfl) ?_
    obtain ⟨hk1, hsp⟩ := fr_ck hsp
    obtain ⟨j2, hv3, hsp⟩ := fr_b1 hsp
    refine fr_getr C hR hk1 Fg_RX7_56 rfl hv3 dX7_tellTo_78 ?_
    refine lv_iload_n hx hb dX7_tellTo_81 rfl (lv_at hl 3 rfl) ?_
    refine lv_aload_n hx hb dX7_tellTo_82 rfl (lv_at hl 0 rfl) ?_
    obtain ⟨j4, hv5, hsp⟩ := fr_b1 hsp
    refine fr_getr C hR ha Fg_RX7_9 rfl hv5 dX7_tellTo_83 ?_
    refine lv_iload_n hx hb dX7_tellTo_86 rfl (lv_at hl 3 rfl) ?_
    obtain ⟨hk6, hsp⟩ := fr_ck hsp
    obtain ⟨hi7, hsp⟩ := fr_ck hsp
    refine fr_iald C hR hk6 hi7 dX7_tellTo_87 ?_
    obtain ⟨hk8, hsp⟩ := fr_ck hsp
    obtain ⟨hi9, hsp⟩ := fr_ck hsp
    refine fr_iast C hR hk8 hi9 dX7_tellTo_88 (fun H locs hR => ?_)
    obtain ⟨h10, eh10⟩ : ∃ z, z = fh_sI h j2 (Int32.toNatClampNeg y3) (h.1 j4 (Int32.toNatClampNeg y3)) := ⟨_, rfl⟩
    rw [← eh10] at hR
    have hsp := fr_let eh10 hsp
    obtain ⟨v11, ev11⟩ : ∃ z : Int32, z = y3 + 1 := ⟨_, rfl⟩
    have hsp := fr_let ev11 hsp
    refine lv_iinc (v := v11) (lv' := [(3, .int v11), (0, .ref (g.2.2 a)), (1, .ref (g.2.2 y1)), (2, .int y2)]) hx hb dX7_tellTo_89 hl (k := 3) rfl (by rw [ev11]; rfl) (by decide) rfl (fun ls hl => ?_)
    refine lv_goto (tgt := 25) hx hb dX7_tellTo_92 (by decide) ?_
    exact hK25 h10 y1 y2 v11 _ _ _ hsp hR (lv_sub hl [1, 2, 3, 0] rfl)
  have hb_25 : ∀ (n : Nat) (h : fh_H) (y1 : Nat) (y2 : Int32) (y3 : Int32) (H : Heap) (locs : List Loc) (ls : Array Slot), z_X7_tellTo_b25 S a n h y1 y2 y3 = some h' → fh_R S g s.heap h H locs → lv_has ls 4 [(0, .ref (g.2.2 a)), (1, .ref (g.2.2 y1)), (2, .int y2), (3, .int y3)] → fh_Wk p l e 2 s m [.ref (g.2.2 a), .ref (g.2.2 x1)] below meth c S g none h' H locs (F0 m 25 ls []) := by
    intro n
    induction n with
    | zero => intro h y1 y2 y3 H locs ls hsp; cases hsp
    | succ n ih =>
      intro h y1 y2 y3 H locs ls hsp hR hl
      rw [z_X7_tellTo_b25] at hsp
      refine lv_iload_n hx hb dX7_tellTo_25 rfl (lv_at hl 3 rfl) ?_
      refine lv_iload_n hx hb dX7_tellTo_26 rfl (lv_at hl 2 rfl) ?_
      refine lv_icmp_ge (tgt := 95) hx hb dX7_tellTo_27 (by decide) (fun c1 => ?_) (fun c1 => ?_)
      · rw [if_pos c1] at hsp
        refine lv_aload_n hx hb dX7_tellTo_95 rfl (lv_at hl 1 rfl) ?_
        refine lv_iload_n hx hb dX7_tellTo_96 rfl (lv_at hl 2 rfl) ?_
        obtain ⟨hk2, hsp⟩ := fr_ck hsp
        refine fr_puti C hR hk2 Fp_RX7_64 rfl dX7_tellTo_97 (fun H locs hR => ?_)
        obtain ⟨h3, eh3⟩ : ∃ z, z = fh_sI h y1 7 y2 := ⟨_, rfl⟩
        rw [← eh3] at hR
        have hsp := fr_let eh3 hsp
        exact fr_vret C hr hlocks hR (fr_s1 hsp) dX7_tellTo_100
      · rw [if_neg c1] at hsp
        refine lv_iload_n hx hb dX7_tellTo_30 rfl (lv_at hl 3 rfl) ?_
        refine lv_aload_n hx hb dX7_tellTo_31 rfl (lv_at hl 0 rfl) ?_
        obtain ⟨j4, hv5, hsp⟩ := fr_b1 hsp
        refine fr_getr C hR ha Fg_RX7_9 rfl hv5 dX7_tellTo_32 ?_
        obtain ⟨hk6, hsp⟩ := fr_ck hsp
        refine fr_alen C hR hk6 (Or.inl rfl) dX7_tellTo_35 ?_
        refine lv_icmp_ge (tgt := 95) hx hb dX7_tellTo_36 (by decide) (fun c7 => ?_) (fun c7 => ?_)
        · rw [if_pos c7] at hsp
          refine lv_aload_n hx hb dX7_tellTo_95 rfl (lv_at hl 1 rfl) ?_
          refine lv_iload_n hx hb dX7_tellTo_96 rfl (lv_at hl 2 rfl) ?_
          obtain ⟨hk8, hsp⟩ := fr_ck hsp
          refine fr_puti C hR hk8 Fp_RX7_64 rfl dX7_tellTo_97 (fun H locs hR => ?_)
          obtain ⟨h9, eh9⟩ : ∃ z, z = fh_sI h y1 7 y2 := ⟨_, rfl⟩
          rw [← eh9] at hR
          have hsp := fr_let eh9 hsp
          exact fr_vret C hr hlocks hR (fr_s1 hsp) dX7_tellTo_100
        · rw [if_neg c7] at hsp
          refine lv_iload_n hx hb dX7_tellTo_39 rfl (lv_at hl 3 rfl) ?_
          refine lv_aload_n hx hb dX7_tellTo_40 rfl (lv_at hl 1 rfl) ?_
          obtain ⟨hk10, hsp⟩ := fr_ck hsp
          obtain ⟨j11, hv12, hsp⟩ := fr_b1 hsp
          refine fr_getr C hR hk10 Fg_RX7_56 rfl hv12 dX7_tellTo_41 ?_
          obtain ⟨hk13, hsp⟩ := fr_ck hsp
          refine fr_alen C hR hk13 (Or.inl rfl) dX7_tellTo_44 ?_
          refine lv_icmp_ge (tgt := 95) hx hb dX7_tellTo_45 (by decide) (fun c14 => ?_) (fun c14 => ?_)
          · rw [if_pos c14] at hsp
            refine lv_aload_n hx hb dX7_tellTo_95 rfl (lv_at hl 1 rfl) ?_
            refine lv_iload_n hx hb dX7_tellTo_96 rfl (lv_at hl 2 rfl) ?_
            refine fr_puti C hR hk10 Fp_RX7_64 rfl dX7_tellTo_97 (fun H locs hR => ?_)
            obtain ⟨h15, eh15⟩ : ∃ z, z = fh_sI h y1 7 y2 := ⟨_, rfl⟩
            rw [← eh15] at hR
            have hsp := fr_let eh15 hsp
            exact fr_vret C hr hlocks hR (fr_s1 hsp) dX7_tellTo_100
          · rw [if_neg c14] at hsp
            refine lv_iload_n hx hb dX7_tellTo_48 rfl (lv_at hl 3 rfl) ?_
            refine lv_aload_n hx hb dX7_tellTo_49 rfl (lv_at hl 0 rfl) ?_
            refine fr_geti C hR ha Fg_RX7_19 rfl dX7_tellTo_50 ?_
            refine lv_icmp_lt (tgt := 77) hx hb dX7_tellTo_53 (by decide) (fun c16 => ?_) (fun c16 => ?_)
            · rw [if_pos c16] at hsp
              exact hb_77 (z_X7_tellTo_b25 S a n) ih h y1 y2 y3 _ _ _ hsp hR (lv_sub hl [0, 1, 2, 3] rfl)
            · rw [if_neg c16] at hsp
              refine lv_aload_n hx hb dX7_tellTo_56 rfl (lv_at hl 0 rfl) ?_
              refine fr_getr C hR ha Fg_RX7_9 rfl hv5 dX7_tellTo_57 ?_
              refine lv_iload_n hx hb dX7_tellTo_60 rfl (lv_at hl 3 rfl) ?_
              refine lv_aload_n hx hb dX7_tellTo_61 rfl (lv_at hl 0 rfl) ?_
              refine lv_iload_n hx hb dX7_tellTo_62 rfl (lv_at hl 3 rfl) ?_
              refine lv_aload_n hx hb dX7_tellTo_63 rfl (lv_at hl 0 rfl) ?_
              refine fr_geti C hR ha Fg_RX7_19 rfl dX7_tellTo_64 ?_
              refine lv_aload_n hx hb dX7_tellTo_67 rfl (lv_at hl 0 rfl) ?_
              refine fr_geti C hR ha Fg_RX7_23 rfl dX7_tellTo_68 ?_
              refine lv_isub hx hb dX7_tellTo_71 ?_
              refine lv_isub hx hb dX7_tellTo_72 ?_
              obtain ⟨r17, E18, hsp⟩ := fr_b1 hsp
              refine fq_callV (rest := [.int y3, .ref (g.2.2 j4)]) (st1 := [.int r17, .int y3, .ref (g.2.2 j4)]) C hR (k_X7_earlierTerm C.2.2 ha E18) Y_X7_earlierTerm YV_X7_earlierTerm Lk_RX7_61 ha ⟨_, _, rfl, by decide⟩ rfl hl.1 ⟨Nat.le_of_ble_eq_true rfl, Nat.le_of_ble_eq_true rfl⟩ rfl (Nat.le_of_ble_eq_true rfl) ⟨Nat.zero_le _, Nat.zero_le _⟩ rfl dX7_tellTo_73 (fun H locs hR => ?_)
              obtain ⟨hi19, hsp⟩ := fr_ck hsp
              refine fr_iast C hR hk6 hi19 dX7_tellTo_76 (fun H locs hR => ?_)
              obtain ⟨h20, eh20⟩ : ∃ z, z = fh_sI h j4 (Int32.toNatClampNeg y3) r17 := ⟨_, rfl⟩
              rw [← eh20] at hR
              have hsp := fr_let eh20 hsp
              exact hb_77 (z_X7_tellTo_b25 S a n) ih h20 y1 y2 y3 _ _ _ hsp hR (lv_sub hl [0, 1, 2, 3] rfl)
  refine lv_aload_n hx hb dX7_tellTo_0 rfl (lv_at hl 0 rfl) ?_
  refine fr_geti C hR ha Fg_RX7_23 rfl dX7_tellTo_1 ?_
  refine lv_iconst (v := -1) hx hb dX7_tellTo_4 (by decide) ?_
  refine lv_icmp_ne (tgt := 20) hx hb dX7_tellTo_5 (by decide) (fun c1 => ?_) (fun c1 => ?_)
  · rw [if_neg c1] at hsp
    refine lv_bipush (v := 60) hx hb dX7_tellTo_20 (by decide) ?_
    refine lv_istore_n (lv' := [(2, .int (60 : Int32)), (0, .ref (g.2.2 a)), (1, .ref (g.2.2 x1))]) hx hb dX7_tellTo_22 rfl hl (by decide) rfl (fun ls hl => ?_)
    refine lv_iconst (v := 0) hx hb dX7_tellTo_23 (by decide) ?_
    refine lv_istore_n (lv' := [(3, .int (0 : Int32)), (2, .int (60 : Int32)), (0, .ref (g.2.2 a)), (1, .ref (g.2.2 x1))]) hx hb dX7_tellTo_24 rfl hl (by decide) rfl (fun ls hl => ?_)
    exact hb_25 20000 h x1 (60 : Int32) (0 : Int32) _ _ _ hsp hR (lv_sub hl [2, 3, 1, 0] rfl)
  · rw [if_pos c1] at hsp
    refine lv_aload_n hx hb dX7_tellTo_8 rfl (lv_at hl 0 rfl) ?_
    refine fr_geti C hR ha Fg_RX7_19 rfl dX7_tellTo_9 ?_
    refine lv_bipush (v := 60) hx hb dX7_tellTo_12 (by decide) ?_
    obtain ⟨r2, E3, hsp⟩ := fr_b1 hsp
    refine fq_callS (rest := []) (st1 := [.int r2]) C hR (k_J9_min_7cf53 C.2.2 E3) Y_J9_min_7cf53 YS_J9_min_7cf53 Lk_RX7_50 rfl hl.1 ⟨Nat.le_of_ble_eq_true rfl, Nat.le_of_ble_eq_true rfl⟩ rfl (Nat.le_of_ble_eq_true rfl) ⟨Nat.zero_le _, Nat.zero_le _⟩ rfl dX7_tellTo_14 (fun H locs hR => ?_)
    refine lv_goto (tgt := 22) hx hb dX7_tellTo_17 (by decide) ?_
    refine lv_istore_n (lv' := [(2, .int r2), (0, .ref (g.2.2 a)), (1, .ref (g.2.2 x1))]) hx hb dX7_tellTo_22 rfl hl (by decide) rfl (fun ls hl => ?_)
    refine lv_iconst (v := 0) hx hb dX7_tellTo_23 (by decide) ?_
    refine lv_istore_n (lv' := [(3, .int (0 : Int32)), (2, .int r2), (0, .ref (g.2.2 a)), (1, .ref (g.2.2 x1))]) hx hb dX7_tellTo_24 rfl hl (by decide) rfl (fun ls hl => ?_)
    exact hb_25 20000 h x1 r2 (0 : Int32) _ _ _ hsp hR (lv_sub hl [2, 3, 1, 0] rfl)

/-! TermRows$Saying.putMarkAhead(I)V -/
def z_X8_putMarkAhead (S : fh_S) (h : fh_H) (a : Nat) (x1 : Int32) : Option fh_H :=
    if x1 ≤ 0 then (some h) else (if x1 = (1 : Int32) then (fh_b1 (z_X8_putSign S h a (59 : Int32)) (fun h5 => some h5)) else (fh_b1 (z_X8_putSign S h a (44 : Int32)) (fun h3 => some h3)))
set_option maxHeartbeats 4000000 in
set_option maxRecDepth 100000 in
theorem k_X8_putMarkAhead {l : Launch} {S : fh_S} {g : fh_G} {h h' : fh_H} (hj : fh_inj S g) {a : Nat} {x1 : Int32} (ha : fh_kq S a 8 = true) (hsp : z_X8_putMarkAhead S h a x1 = some h') : fh_M l yX8_putMarkAhead cX8_putMarkAhead 2 none (fh_rm 2) S g [.ref (g.2.2 a), .int x1] h none h' := by
  unfold z_X8_putMarkAhead at hsp
  refine fr_head (own := RX8) (by decide) rfl hj (Nat.le_of_ble_eq_true rfl) ?_
  intro p e s m below meth c ls C hr hlocks hR hl
  have hl : lv_has ls 2 [(0, .ref (g.2.2 a)), (1, .int x1)] := hl
  have hx := C.1.1
  have hb := C.1.2.1
  refine lv_iload_n hx hb dX8_putMarkAhead_0 rfl (lv_at hl 1 rfl) ?_
  refine lv_if_le (tgt := 20) hx hb dX8_putMarkAhead_1 (by decide) (fun c1 => ?_) (fun c1 => ?_)
  · rw [if_pos c1] at hsp
    exact fr_vret C hr hlocks hR (fr_s1 hsp) dX8_putMarkAhead_20
  · rw [if_neg c1] at hsp
    refine lv_aload_n hx hb dX8_putMarkAhead_4 rfl (lv_at hl 0 rfl) ?_
    refine lv_iload_n hx hb dX8_putMarkAhead_5 rfl (lv_at hl 1 rfl) ?_
    refine lv_iconst (v := 1) hx hb dX8_putMarkAhead_6 (by decide) ?_
    refine lv_icmp_ne (tgt := 15) hx hb dX8_putMarkAhead_7 (by decide) (fun c2 => ?_) (fun c2 => ?_)
    · rw [if_neg c2] at hsp
      refine lv_bipush (v := 44) hx hb dX8_putMarkAhead_15 (by decide) ?_
      obtain ⟨h3, E4, hsp⟩ := fr_b1 hsp
      refine fq_callV (rest := []) (st1 := []) C hR (k_X8_putSign C.2.2 ha E4) Y_X8_putSign YV_X8_putSign Lk_RX8_30 ha ⟨_, _, rfl, by decide⟩ rfl hl.1 ⟨Nat.le_of_ble_eq_true rfl, Nat.le_of_ble_eq_true rfl⟩ rfl (Nat.le_of_ble_eq_true rfl) ⟨Nat.zero_le _, Nat.zero_le _⟩ rfl dX8_putMarkAhead_17 (fun H locs hR => ?_)
      exact fr_vret C hr hlocks hR (fr_s1 hsp) dX8_putMarkAhead_20
    · rw [if_pos c2] at hsp
      refine lv_bipush (v := 59) hx hb dX8_putMarkAhead_10 (by decide) ?_
      refine lv_goto (tgt := 17) hx hb dX8_putMarkAhead_12 (by decide) ?_
      obtain ⟨h5, E6, hsp⟩ := fr_b1 hsp
      refine fq_callV (rest := []) (st1 := []) C hR (k_X8_putSign C.2.2 ha E6) Y_X8_putSign YV_X8_putSign Lk_RX8_30 ha ⟨_, _, rfl, by decide⟩ rfl hl.1 ⟨Nat.le_of_ble_eq_true rfl, Nat.le_of_ble_eq_true rfl⟩ rfl (Nat.le_of_ble_eq_true rfl) ⟨Nat.zero_le _, Nat.zero_le _⟩ rfl dX8_putMarkAhead_17 (fun H locs hR => ?_)
      exact fr_vret C hr hlocks hR (fr_s1 hsp) dX8_putMarkAhead_20

/-! TermRows$Saying.putNumber(I)V -/
def z_X8_putNumber_b55 (S : fh_S) (a : Nat) (K21 : fh_H → Int32 → Int32 → Int32 → Option fh_H) (h : fh_H) (y2 : Int32) (y4 : Int32) (y5 : Int32) (t0 : Int32) : Option fh_H :=
    if t0 = 0 then (fh_let ((y4 / (10 : Int32))) (fun v2 => K21 h y2 t0 v2)) else (fh_b1 (z_X8_putSign S h a (Int32.toUInt32 ((48 : Int32) + y5) % 65536).toInt32) (fun h3 => fh_let ((y4 / (10 : Int32))) (fun v5 => K21 h3 y2 t0 v5)))
def z_X8_putNumber_b21 (S : fh_S) (a : Nat) : Nat → fh_H → Int32 → Int32 → Int32 → Option fh_H
  | 0, _, _, _, _ => none
  | n + 1, h, y2, y3, y4 =>
    if y4 ≤ 0 then (some h) else (fh_ck (decide (¬ y4 = 0)) (fh_let (((y2 / y4) - (y2 / y4) / (10 : Int32) * (10 : Int32))) (fun v3 => if y3 = 0 then (if v3 = 0 then (if y4 = (1 : Int32) then (z_X8_putNumber_b55 S a (z_X8_putNumber_b21 S a n) h y2 y4 v3 (1 : Int32)) else (z_X8_putNumber_b55 S a (z_X8_putNumber_b21 S a n) h y2 y4 v3 (0 : Int32))) else (z_X8_putNumber_b55 S a (z_X8_putNumber_b21 S a n) h y2 y4 v3 (1 : Int32))) else (z_X8_putNumber_b55 S a (z_X8_putNumber_b21 S a n) h y2 y4 v3 (1 : Int32)))))
def z_X8_putNumber (S : fh_S) (h : fh_H) (a : Nat) (x1 : Int32) : Option fh_H :=
    if 0 ≤ x1 then (fh_b1 (z_J9_abs_0f7a4 x1) (fun r2 => z_X8_putNumber_b21 S a 20000 h r2 (0 : Int32) (1000000000 : Int32))) else (fh_b1 (z_X8_putSign S h a (45 : Int32)) (fun h4 => fh_b1 (z_J9_abs_0f7a4 x1) (fun r6 => z_X8_putNumber_b21 S a 20000 h4 r6 (0 : Int32) (1000000000 : Int32))))
set_option maxHeartbeats 4000000 in
set_option maxRecDepth 100000 in
theorem k_X8_putNumber {l : Launch} {S : fh_S} {g : fh_G} {h h' : fh_H} (hj : fh_inj S g) {a : Nat} {x1 : Int32} (ha : fh_kq S a 8 = true) (hsp : z_X8_putNumber S h a x1 = some h') : fh_M l yX8_putNumber cX8_putNumber 6 none (fh_rm 2) S g [.ref (g.2.2 a), .int x1] h none h' := by
  unfold z_X8_putNumber at hsp
  refine fr_head (own := RX8) (by decide) rfl hj (Nat.le_of_ble_eq_true rfl) ?_
  intro p e s m below meth c ls C hr hlocks hR hl
  have hl : lv_has ls 6 [(0, .ref (g.2.2 a)), (1, .int x1)] := hl
  have hx := C.1.1
  have hb := C.1.2.1
  have hb_55 : ∀ (K21 : fh_H → Int32 → Int32 → Int32 → Option fh_H) (hK21 : ∀ (h : fh_H) (y2 : Int32) (y3 : Int32) (y4 : Int32) (H : Heap) (locs : List Loc) (ls : Array Slot), K21 h y2 y3 y4 = some h' → fh_R S g s.heap h H locs → lv_has ls 6 [(0, .ref (g.2.2 a)), (2, .int y2), (3, .int y3), (4, .int y4)] → fh_Wk p l e 2 s m [.ref (g.2.2 a), .int x1] below meth c S g none h' H locs (F0 m 21 ls [])), ∀ (h : fh_H) (y2 : Int32) (y4 : Int32) (y5 : Int32) (t0 : Int32) (H : Heap) (locs : List Loc) (ls : Array Slot), z_X8_putNumber_b55 S a K21 h y2 y4 y5 t0 = some h' → fh_R S g s.heap h H locs → lv_has ls 6 [(0, .ref (g.2.2 a)), (2, .int y2), (4, .int y4), (5, .int y5)] → fh_Wk p l e 2 s m [.ref (g.2.2 a), .int x1] below meth c S g none h' H locs (F0 m 55 ls [.int t0]) := by
    intro K21 hK21 h y2 y4 y5 t0 H locs ls hsp hR hl
    unfold z_X8_putNumber_b55 at hsp
    refine lv_istore_n (lv' := [(3, .int t0), (0, .ref (g.2.2 a)), (2, .int y2), (4, .int y4), (5, .int y5)]) hx hb dX8_putNumber_55 rfl hl (by decide) rfl (fun ls hl => ?_)
    refine lv_iload_n hx hb dX8_putNumber_56 rfl (lv_at hl 0 rfl) ?_
    refine lv_if_eq (tgt := 70) hx hb dX8_putNumber_57 (by decide) (fun c1 => ?_) (fun c1 => ?_)
    · rw [if_pos c1] at hsp
      refine lv_iload hx hb dX8_putNumber_70 (lv_at hl 3 rfl) ?_
      refine lv_bipush (v := 10) hx hb dX8_putNumber_72 (by decide) ?_
      refine lv_idiv hx hb dX8_putNumber_74 (by decide) ?_
      refine lv_topi (fun v2 ev2 => ?_)
      have hsp := fr_let ev2 hsp
      refine lv_istore (lv' := [(4, .int v2), (3, .int t0), (0, .ref (g.2.2 a)), (2, .int y2), (5, .int y5)]) hx hb dX8_putNumber_75 hl (by decide) rfl (fun ls hl => ?_)
      refine lv_goto (tgt := 21) hx hb dX8_putNumber_77 (by decide) ?_
      exact hK21 h y2 t0 v2 _ _ _ hsp hR (lv_sub hl [2, 3, 1, 0] rfl)
    · rw [if_neg c1] at hsp
      refine lv_aload_n hx hb dX8_putNumber_60 rfl (lv_at hl 1 rfl) ?_
      refine lv_bipush (v := 48) hx hb dX8_putNumber_61 (by decide) ?_
      refine lv_iload hx hb dX8_putNumber_63 (lv_at hl 4 rfl) ?_
      refine lv_iadd hx hb dX8_putNumber_65 ?_
      refine lv_i2c hx hb dX8_putNumber_66 rfl ?_
      obtain ⟨h3, E4, hsp⟩ := fr_b1 hsp
      refine fq_callV (rest := []) (st1 := []) C hR (k_X8_putSign C.2.2 ha E4) Y_X8_putSign YV_X8_putSign Lk_RX8_30 ha ⟨_, _, rfl, by decide⟩ rfl hl.1 ⟨Nat.le_of_ble_eq_true rfl, Nat.le_of_ble_eq_true rfl⟩ rfl (Nat.le_of_ble_eq_true rfl) ⟨Nat.zero_le _, Nat.zero_le _⟩ rfl dX8_putNumber_67 (fun H locs hR => ?_)
      refine lv_iload hx hb dX8_putNumber_70 (lv_at hl 3 rfl) ?_
      refine lv_bipush (v := 10) hx hb dX8_putNumber_72 (by decide) ?_
      refine lv_idiv hx hb dX8_putNumber_74 (by decide) ?_
      refine lv_topi (fun v5 ev5 => ?_)
      have hsp := fr_let ev5 hsp
      refine lv_istore (lv' := [(4, .int v5), (3, .int t0), (0, .ref (g.2.2 a)), (2, .int y2), (5, .int y5)]) hx hb dX8_putNumber_75 hl (by decide) rfl (fun ls hl => ?_)
      refine lv_goto (tgt := 21) hx hb dX8_putNumber_77 (by decide) ?_
      exact hK21 h3 y2 t0 v5 _ _ _ hsp hR (lv_sub hl [2, 3, 1, 0] rfl)
  have hb_21 : ∀ (n : Nat) (h : fh_H) (y2 : Int32) (y3 : Int32) (y4 : Int32) (H : Heap) (locs : List Loc) (ls : Array Slot), z_X8_putNumber_b21 S a n h y2 y3 y4 = some h' → fh_R S g s.heap h H locs → lv_has ls 6 [(0, .ref (g.2.2 a)), (2, .int y2), (3, .int y3), (4, .int y4)] → fh_Wk p l e 2 s m [.ref (g.2.2 a), .int x1] below meth c S g none h' H locs (F0 m 21 ls []) := by
    intro n
    induction n with
    | zero => intro h y2 y3 y4 H locs ls hsp; cases hsp
    | succ n ih =>
      intro h y2 y3 y4 H locs ls hsp hR hl
      rw [z_X8_putNumber_b21] at hsp
      refine lv_iload hx hb dX8_putNumber_21 (lv_at hl 3 rfl) ?_
      refine lv_if_le (tgt := 80) hx hb dX8_putNumber_23 (by decide) (fun c1 => ?_) (fun c1 => ?_)
      · rw [if_pos c1] at hsp
        exact fr_vret C hr hlocks hR (fr_s1 hsp) dX8_putNumber_80
      · rw [if_neg c1] at hsp
        refine lv_iload_n hx hb dX8_putNumber_26 rfl (lv_at hl 1 rfl) ?_
        refine lv_iload hx hb dX8_putNumber_27 (lv_at hl 3 rfl) ?_
        obtain ⟨hz2, hsp⟩ := fr_ck hsp
        refine lv_idiv hx hb dX8_putNumber_29 (of_decide_eq_true hz2) ?_
        refine lv_bipush (v := 10) hx hb dX8_putNumber_30 (by decide) ?_
        refine lv_irem hx hb dX8_putNumber_32 (by decide) ?_
        refine lv_topi (fun v3 ev3 => ?_)
        have hsp := fr_let ev3 hsp
        refine lv_istore (lv' := [(5, .int v3), (0, .ref (g.2.2 a)), (2, .int y2), (3, .int y3), (4, .int y4)]) hx hb dX8_putNumber_33 hl (by decide) rfl (fun ls hl => ?_)
        refine lv_iload_n hx hb dX8_putNumber_35 rfl (lv_at hl 3 rfl) ?_
        refine lv_if_ne (tgt := 50) hx hb dX8_putNumber_36 (by decide) (fun c4 => ?_) (fun c4 => ?_)
        · rw [if_neg c4] at hsp
          refine lv_iconst (v := 1) hx hb dX8_putNumber_50 (by decide) ?_
          refine lv_goto (tgt := 55) hx hb dX8_putNumber_51 (by decide) ?_
          exact hb_55 (z_X8_putNumber_b21 S a n) ih h y2 y4 v3 (1 : Int32) _ _ _ hsp hR (lv_sub hl [1, 2, 4, 0] rfl)
        · rw [if_pos c4] at hsp
          refine lv_iload hx hb dX8_putNumber_39 (lv_at hl 0 rfl) ?_
          refine lv_if_ne (tgt := 50) hx hb dX8_putNumber_41 (by decide) (fun c5 => ?_) (fun c5 => ?_)
          · rw [if_neg c5] at hsp
            refine lv_iconst (v := 1) hx hb dX8_putNumber_50 (by decide) ?_
            refine lv_goto (tgt := 55) hx hb dX8_putNumber_51 (by decide) ?_
            exact hb_55 (z_X8_putNumber_b21 S a n) ih h y2 y4 v3 (1 : Int32) _ _ _ hsp hR (lv_sub hl [1, 2, 4, 0] rfl)
          · rw [if_pos c5] at hsp
            refine lv_iload hx hb dX8_putNumber_44 (lv_at hl 4 rfl) ?_
            refine lv_iconst (v := 1) hx hb dX8_putNumber_46 (by decide) ?_
            refine lv_icmp_ne (tgt := 54) hx hb dX8_putNumber_47 (by decide) (fun c6 => ?_) (fun c6 => ?_)
            · rw [if_neg c6] at hsp
              refine lv_iconst (v := 0) hx hb dX8_putNumber_54 (by decide) ?_
              exact hb_55 (z_X8_putNumber_b21 S a n) ih h y2 y4 v3 (0 : Int32) _ _ _ hsp hR (lv_sub hl [1, 2, 4, 0] rfl)
            · rw [if_pos c6] at hsp
              refine lv_iconst (v := 1) hx hb dX8_putNumber_50 (by decide) ?_
              refine lv_goto (tgt := 55) hx hb dX8_putNumber_51 (by decide) ?_
              exact hb_55 (z_X8_putNumber_b21 S a n) ih h y2 y4 v3 (1 : Int32) _ _ _ hsp hR (lv_sub hl [1, 2, 4, 0] rfl)
  refine lv_iload_n hx hb dX8_putNumber_0 rfl (lv_at hl 1 rfl) ?_
  refine lv_if_ge (tgt := 10) hx hb dX8_putNumber_1 (by decide) (fun c1 => ?_) (fun c1 => ?_)
  · rw [if_pos c1] at hsp
    refine lv_iload_n hx hb dX8_putNumber_10 rfl (lv_at hl 1 rfl) ?_
    obtain ⟨r2, E3, hsp⟩ := fr_b1 hsp
    refine fq_callS (rest := []) (st1 := [.int r2]) C hR (k_J9_abs_0f7a4 C.2.2 E3) Y_J9_abs_0f7a4 YS_J9_abs_0f7a4 Lk_RX8_52 rfl hl.1 ⟨Nat.le_of_ble_eq_true rfl, Nat.le_of_ble_eq_true rfl⟩ rfl (Nat.le_of_ble_eq_true rfl) ⟨Nat.zero_le _, Nat.zero_le _⟩ rfl dX8_putNumber_11 (fun H locs hR => ?_)
    refine lv_istore_n (lv' := [(2, .int r2), (0, .ref (g.2.2 a)), (1, .int x1)]) hx hb dX8_putNumber_14 rfl hl (by decide) rfl (fun ls hl => ?_)
    refine lv_iconst (v := 0) hx hb dX8_putNumber_15 (by decide) ?_
    refine lv_istore_n (lv' := [(3, .int (0 : Int32)), (2, .int r2), (0, .ref (g.2.2 a)), (1, .int x1)]) hx hb dX8_putNumber_16 rfl hl (by decide) rfl (fun ls hl => ?_)
    refine lv_ldc hx hb C.1.2.2.2.1 (C.1.2.2.2.2 _ Kc_RX8_55) dX8_putNumber_17 ?_
    refine lv_istore (lv' := [(4, .int (1000000000 : Int32)), (3, .int (0 : Int32)), (2, .int r2), (0, .ref (g.2.2 a)), (1, .int x1)]) hx hb dX8_putNumber_19 hl (by decide) rfl (fun ls hl => ?_)
    exact hb_21 20000 h r2 (0 : Int32) (1000000000 : Int32) _ _ _ hsp hR (lv_sub hl [3, 2, 1, 0] rfl)
  · rw [if_neg c1] at hsp
    refine lv_aload_n hx hb dX8_putNumber_4 rfl (lv_at hl 0 rfl) ?_
    refine lv_bipush (v := 45) hx hb dX8_putNumber_5 (by decide) ?_
    obtain ⟨h4, E5, hsp⟩ := fr_b1 hsp
    refine fq_callV (rest := []) (st1 := []) C hR (k_X8_putSign C.2.2 ha E5) Y_X8_putSign YV_X8_putSign Lk_RX8_30 ha ⟨_, _, rfl, by decide⟩ rfl hl.1 ⟨Nat.le_of_ble_eq_true rfl, Nat.le_of_ble_eq_true rfl⟩ rfl (Nat.le_of_ble_eq_true rfl) ⟨Nat.zero_le _, Nat.zero_le _⟩ rfl dX8_putNumber_7 (fun H locs hR => ?_)
    refine lv_iload_n hx hb dX8_putNumber_10 rfl (lv_at hl 1 rfl) ?_
    obtain ⟨r6, E7, hsp⟩ := fr_b1 hsp
    refine fq_callS (rest := []) (st1 := [.int r6]) C hR (k_J9_abs_0f7a4 C.2.2 E7) Y_J9_abs_0f7a4 YS_J9_abs_0f7a4 Lk_RX8_52 rfl hl.1 ⟨Nat.le_of_ble_eq_true rfl, Nat.le_of_ble_eq_true rfl⟩ rfl (Nat.le_of_ble_eq_true rfl) ⟨Nat.zero_le _, Nat.zero_le _⟩ rfl dX8_putNumber_11 (fun H locs hR => ?_)
    refine lv_istore_n (lv' := [(2, .int r6), (0, .ref (g.2.2 a)), (1, .int x1)]) hx hb dX8_putNumber_14 rfl hl (by decide) rfl (fun ls hl => ?_)
    refine lv_iconst (v := 0) hx hb dX8_putNumber_15 (by decide) ?_
    refine lv_istore_n (lv' := [(3, .int (0 : Int32)), (2, .int r6), (0, .ref (g.2.2 a)), (1, .int x1)]) hx hb dX8_putNumber_16 rfl hl (by decide) rfl (fun ls hl => ?_)
    refine lv_ldc hx hb C.1.2.2.2.1 (C.1.2.2.2.2 _ Kc_RX8_55) dX8_putNumber_17 ?_
    refine lv_istore (lv' := [(4, .int (1000000000 : Int32)), (3, .int (0 : Int32)), (2, .int r6), (0, .ref (g.2.2 a)), (1, .int x1)]) hx hb dX8_putNumber_19 hl (by decide) rfl (fun ls hl => ?_)
    exact hb_21 20000 h4 r6 (0 : Int32) (1000000000 : Int32) _ _ _ hsp hR (lv_sub hl [3, 2, 1, 0] rfl)

/-! TermRows$Surd.start(JJJ)V -/
def z_X9_start (S : fh_S) (h : fh_H) (a : Nat) (x1 : Int64) (x3 : Int64) (x5 : Int64) : Option fh_H :=
    fh_let (fh_sJ h a 0 x1) (fun h1 => fh_let (fh_sJ h1 a 1 x3) (fun h2 => fh_let (fh_sJ h2 a 2 x5) (fun h3 => if (h3.2.1 a 2) = (0 : Int64) then (fh_b1 (z_X11_wholeRoot (h3.2.1 a 1)) (fun r5 => fh_let (fh_sJ h3 a 3 r5) (fun h7 => some h7))) else (fh_ck (decide (¬ (h3.2.1 a 2) = 0)) (if (((h3.2.1 a 1) - ((h3.2.1 a 0) * (h3.2.1 a 0))) - ((h3.2.1 a 1) - ((h3.2.1 a 0) * (h3.2.1 a 0))) / (h3.2.1 a 2) * (h3.2.1 a 2)) = (0 : Int64) then (fh_b1 (z_X11_wholeRoot (h3.2.1 a 1)) (fun r10 => fh_let (fh_sJ h3 a 3 r10) (fun h12 => some h12))) else (fh_b1 (z_J9_abs_067f4 (h3.2.1 a 2)) (fun r13 => fh_let (fh_sJ h3 a 0 ((h3.2.1 a 0) * r13)) (fun h15 => fh_let (fh_sJ h15 a 1 ((h15.2.1 a 1) * (r13 * r13))) (fun h16 => fh_let (fh_sJ h16 a 2 ((h16.2.1 a 2) * r13)) (fun h17 => fh_b1 (z_X11_wholeRoot (h17.2.1 a 1)) (fun r18 => fh_let (fh_sJ h17 a 3 r18) (fun h20 => some h20))))))))))))
set_option maxHeartbeats 4000000 in
set_option maxRecDepth 100000 in
theorem k_X9_start {l : Launch} {S : fh_S} {g : fh_G} {h h' : fh_H} (hj : fh_inj S g) {a : Nat} {x1 : Int64} {x3 : Int64} {x5 : Int64} (ha : fh_kq S a 9 = true) (hsp : z_X9_start S h a x1 x3 x5 = some h') : fh_M l yX9_start cX9_start 9 none (fh_rm 2) S g [.ref (g.2.2 a), .long x1, .long x3, .long x5] h none h' := by
  unfold z_X9_start at hsp
  refine fr_head (own := RX9) (by decide) rfl hj (Nat.le_of_ble_eq_true rfl) ?_
  intro p e s m below meth c ls C hr hlocks hR hl
  have hl : lv_has ls 9 [(0, .ref (g.2.2 a)), (1, .long x1), (3, .long x3), (5, .long x5)] := hl
  have hx := C.1.1
  have hb := C.1.2.1
  refine lv_aload_n hx hb dX9_start_0 rfl (lv_at hl 0 rfl) ?_
  refine lv_lload_n hx hb dX9_start_1 rfl (lv_at hl 1 rfl) ?_
  refine fr_putj C hR ha Fp_RX9_7 rfl dX9_start_2 (fun H locs hR => ?_)
  obtain ⟨h1, eh1⟩ : ∃ z, z = fh_sJ h a 0 x1 := ⟨_, rfl⟩
  rw [← eh1] at hR
  have hsp := fr_let eh1 hsp
  refine lv_aload_n hx hb dX9_start_5 rfl (lv_at hl 0 rfl) ?_
  refine lv_lload_n hx hb dX9_start_6 rfl (lv_at hl 2 rfl) ?_
  refine fr_putj C hR ha Fp_RX9_13 rfl dX9_start_7 (fun H locs hR => ?_)
  obtain ⟨h2, eh2⟩ : ∃ z, z = fh_sJ h1 a 1 x3 := ⟨_, rfl⟩
  rw [← eh2] at hR
  have hsp := fr_let eh2 hsp
  refine lv_aload_n hx hb dX9_start_10 rfl (lv_at hl 0 rfl) ?_
  refine lv_lload hx hb dX9_start_11 (lv_at hl 3 rfl) ?_
  refine fr_putj C hR ha Fp_RX9_16 rfl dX9_start_13 (fun H locs hR => ?_)
  obtain ⟨h3, eh3⟩ : ∃ z, z = fh_sJ h2 a 2 x5 := ⟨_, rfl⟩
  rw [← eh3] at hR
  have hsp := fr_let eh3 hsp
  refine lv_aload_n hx hb dX9_start_16 rfl (lv_at hl 0 rfl) ?_
  refine fr_getj C hR ha Fg_RX9_16 rfl dX9_start_17 ?_
  refine lv_lconst (v := 0) hx hb dX9_start_20 (by decide) ?_
  refine fr_lc_eq (tgt := 94) hx hb dX9_start_21 dX9_start_22 (by decide) (fun c4 => ?_) (fun c4 => ?_)
  · rw [if_pos c4] at hsp
    refine lv_aload_n hx hb dX9_start_94 rfl (lv_at hl 0 rfl) ?_
    refine lv_aload_n hx hb dX9_start_95 rfl (lv_at hl 0 rfl) ?_
    refine fr_getj C hR ha Fg_RX9_13 rfl dX9_start_96 ?_
    obtain ⟨r5, E6, hsp⟩ := fr_b1 hsp
    refine fq_callSN (rest := [.ref (g.2.2 a)]) (st1 := [.long r5, .ref (g.2.2 a)]) C hR (k_X11_wholeRoot C.2.2 E6) Y_X11_wholeRoot YS_X11_wholeRoot C.2.1.2.2.2 rfl hl.1 ⟨Nat.le_of_ble_eq_true rfl, Nat.le_of_ble_eq_true rfl⟩ rfl (Nat.le_of_ble_eq_true rfl) ⟨Nat.zero_le _, Nat.zero_le _⟩ rfl dX9_start_99 (fun H locs hR => ?_)
    refine fr_putj C hR ha Fp_RX9_30 rfl dX9_start_102 (fun H locs hR => ?_)
    obtain ⟨h7, eh7⟩ : ∃ z, z = fh_sJ h3 a 3 r5 := ⟨_, rfl⟩
    rw [← eh7] at hR
    have hsp := fr_let eh7 hsp
    exact fr_vret C hr hlocks hR (fr_s1 hsp) dX9_start_105
  · rw [if_neg c4] at hsp
    refine lv_aload_n hx hb dX9_start_25 rfl (lv_at hl 0 rfl) ?_
    refine fr_getj C hR ha Fg_RX9_13 rfl dX9_start_26 ?_
    refine lv_aload_n hx hb dX9_start_29 rfl (lv_at hl 0 rfl) ?_
    refine fr_getj C hR ha Fg_RX9_7 rfl dX9_start_30 ?_
    refine lv_aload_n hx hb dX9_start_33 rfl (lv_at hl 0 rfl) ?_
    refine fr_getj C hR ha Fg_RX9_7 rfl dX9_start_34 ?_
    refine lv_lmul hx hb dX9_start_37 ?_
    refine lv_lsub hx hb dX9_start_38 ?_
    refine lv_aload_n hx hb dX9_start_39 rfl (lv_at hl 0 rfl) ?_
    refine fr_getj C hR ha Fg_RX9_16 rfl dX9_start_40 ?_
    obtain ⟨hz8, hsp⟩ := fr_ck hsp
    refine lv_lrem hx hb dX9_start_43 (of_decide_eq_true hz8) ?_
    refine lv_lconst (v := 0) hx hb dX9_start_44 (by decide) ?_
    refine fr_lc_eq (tgt := 94) hx hb dX9_start_45 dX9_start_46 (by decide) (fun c9 => ?_) (fun c9 => ?_)
    · rw [if_pos c9] at hsp
      refine lv_aload_n hx hb dX9_start_94 rfl (lv_at hl 0 rfl) ?_
      refine lv_aload_n hx hb dX9_start_95 rfl (lv_at hl 0 rfl) ?_
      refine fr_getj C hR ha Fg_RX9_13 rfl dX9_start_96 ?_
      obtain ⟨r10, E11, hsp⟩ := fr_b1 hsp
      refine fq_callSN (rest := [.ref (g.2.2 a)]) (st1 := [.long r10, .ref (g.2.2 a)]) C hR (k_X11_wholeRoot C.2.2 E11) Y_X11_wholeRoot YS_X11_wholeRoot C.2.1.2.2.2 rfl hl.1 ⟨Nat.le_of_ble_eq_true rfl, Nat.le_of_ble_eq_true rfl⟩ rfl (Nat.le_of_ble_eq_true rfl) ⟨Nat.zero_le _, Nat.zero_le _⟩ rfl dX9_start_99 (fun H locs hR => ?_)
      refine fr_putj C hR ha Fp_RX9_30 rfl dX9_start_102 (fun H locs hR => ?_)
      obtain ⟨h12, eh12⟩ : ∃ z, z = fh_sJ h3 a 3 r10 := ⟨_, rfl⟩
      rw [← eh12] at hR
      have hsp := fr_let eh12 hsp
      exact fr_vret C hr hlocks hR (fr_s1 hsp) dX9_start_105
    · rw [if_neg c9] at hsp
      refine lv_aload_n hx hb dX9_start_49 rfl (lv_at hl 0 rfl) ?_
      refine fr_getj C hR ha Fg_RX9_16 rfl dX9_start_50 ?_
      obtain ⟨r13, E14, hsp⟩ := fr_b1 hsp
      refine fq_callS (rest := []) (st1 := [.long r13]) C hR (k_J9_abs_067f4 C.2.2 E14) Y_J9_abs_067f4 YS_J9_abs_067f4 Lk_RX9_19 rfl hl.1 ⟨Nat.le_of_ble_eq_true rfl, Nat.le_of_ble_eq_true rfl⟩ rfl (Nat.le_of_ble_eq_true rfl) ⟨Nat.zero_le _, Nat.zero_le _⟩ rfl dX9_start_53 (fun H locs hR => ?_)
      refine lv_lstore (lv' := [(7, .long r13), (0, .ref (g.2.2 a)), (1, .long x1), (3, .long x3), (5, .long x5)]) hx hb dX9_start_56 hl (by decide) rfl (fun ls hl => ?_)
      refine lv_aload_n hx hb dX9_start_58 rfl (lv_at hl 1 rfl) ?_
      refine lv_dup hx hb dX9_start_59 rfl ?_
      refine fr_getj C hR ha Fg_RX9_7 rfl dX9_start_60 ?_
      refine lv_lload hx hb dX9_start_63 (lv_at hl 0 rfl) ?_
      refine lv_lmul hx hb dX9_start_65 ?_
      refine fr_putj C hR ha Fp_RX9_7 rfl dX9_start_66 (fun H locs hR => ?_)
      obtain ⟨h15, eh15⟩ : ∃ z, z = fh_sJ h3 a 0 ((h3.2.1 a 0) * r13) := ⟨_, rfl⟩
      rw [← eh15] at hR
      have hsp := fr_let eh15 hsp
      refine lv_aload_n hx hb dX9_start_69 rfl (lv_at hl 1 rfl) ?_
      refine lv_dup hx hb dX9_start_70 rfl ?_
      refine fr_getj C hR ha Fg_RX9_13 rfl dX9_start_71 ?_
      refine lv_lload hx hb dX9_start_74 (lv_at hl 0 rfl) ?_
      refine lv_lload hx hb dX9_start_76 (lv_at hl 0 rfl) ?_
      refine lv_lmul hx hb dX9_start_78 ?_
      refine lv_lmul hx hb dX9_start_79 ?_
      refine fr_putj C hR ha Fp_RX9_13 rfl dX9_start_80 (fun H locs hR => ?_)
      obtain ⟨h16, eh16⟩ : ∃ z, z = fh_sJ h15 a 1 ((h15.2.1 a 1) * (r13 * r13)) := ⟨_, rfl⟩
      rw [← eh16] at hR
      have hsp := fr_let eh16 hsp
      refine lv_aload_n hx hb dX9_start_83 rfl (lv_at hl 1 rfl) ?_
      refine lv_dup hx hb dX9_start_84 rfl ?_
      refine fr_getj C hR ha Fg_RX9_16 rfl dX9_start_85 ?_
      refine lv_lload hx hb dX9_start_88 (lv_at hl 0 rfl) ?_
      refine lv_lmul hx hb dX9_start_90 ?_
      refine fr_putj C hR ha Fp_RX9_16 rfl dX9_start_91 (fun H locs hR => ?_)
      obtain ⟨h17, eh17⟩ : ∃ z, z = fh_sJ h16 a 2 ((h16.2.1 a 2) * r13) := ⟨_, rfl⟩
      rw [← eh17] at hR
      have hsp := fr_let eh17 hsp
      refine lv_aload_n hx hb dX9_start_94 rfl (lv_at hl 1 rfl) ?_
      refine lv_aload_n hx hb dX9_start_95 rfl (lv_at hl 1 rfl) ?_
      refine fr_getj C hR ha Fg_RX9_13 rfl dX9_start_96 ?_
      obtain ⟨r18, E19, hsp⟩ := fr_b1 hsp
      refine fq_callSN (rest := [.ref (g.2.2 a)]) (st1 := [.long r18, .ref (g.2.2 a)]) C hR (k_X11_wholeRoot C.2.2 E19) Y_X11_wholeRoot YS_X11_wholeRoot C.2.1.2.2.2 rfl hl.1 ⟨Nat.le_of_ble_eq_true rfl, Nat.le_of_ble_eq_true rfl⟩ rfl (Nat.le_of_ble_eq_true rfl) ⟨Nat.zero_le _, Nat.zero_le _⟩ rfl dX9_start_99 (fun H locs hR => ?_)
      refine fr_putj C hR ha Fp_RX9_30 rfl dX9_start_102 (fun H locs hR => ?_)
      obtain ⟨h20, eh20⟩ : ∃ z, z = fh_sJ h17 a 3 r18 := ⟨_, rfl⟩
      rw [← eh20] at hR
      have hsp := fr_let eh20 hsp
      exact fr_vret C hr hlocks hR (fr_s1 hsp) dX9_start_105

/-! TermRows$Surd.whole()J -/
def z_X9_whole (S : fh_S) (h : fh_H) (a : Nat) : Option Int64 :=
    if (h.2.1 a 2) = (0 : Int64) then (some (0 : Int64)) else (if (h.2.1 a 2) ≤ (0 : Int64) then (fh_b1 (z_J9_floorDiv_f86c9 (((h.2.1 a 0) + (h.2.1 a 3)) + (1 : Int64)) (h.2.1 a 2)) (fun r3 => some r3)) else (fh_b1 (z_J9_floorDiv_f86c9 ((h.2.1 a 0) + (h.2.1 a 3)) (h.2.1 a 2)) (fun r5 => some r5)))
set_option maxHeartbeats 4000000 in
set_option maxRecDepth 100000 in
theorem k_X9_whole {l : Launch} {S : fh_S} {g : fh_G} {h : fh_H} (hj : fh_inj S g) {a : Nat} {r : Int64} (ha : fh_kq S a 9 = true) (hsp : z_X9_whole S h a = some r) : fh_M l yX9_whole cX9_whole 1 (some .long) (fh_rm 2) S g [.ref (g.2.2 a)] h (some (.long r)) h := by
  unfold z_X9_whole at hsp
  refine fr_head (own := RX9) (by decide) rfl hj (Nat.le_of_ble_eq_true rfl) ?_
  intro p e s m below meth c ls C hr hlocks hR hl
  have hl : lv_has ls 1 [(0, .ref (g.2.2 a))] := hl
  have hx := C.1.1
  have hb := C.1.2.1
  refine lv_aload_n hx hb dX9_whole_0 rfl (lv_at hl 0 rfl) ?_
  refine fr_getj C hR ha Fg_RX9_16 rfl dX9_whole_1 ?_
  refine lv_lconst (v := 0) hx hb dX9_whole_4 (by decide) ?_
  refine fr_lc_ne (tgt := 11) hx hb dX9_whole_5 dX9_whole_6 (by decide) (fun c1 => ?_) (fun c1 => ?_)
  · rw [if_neg c1] at hsp
    refine lv_aload_n hx hb dX9_whole_11 rfl (lv_at hl 0 rfl) ?_
    refine fr_getj C hR ha Fg_RX9_16 rfl dX9_whole_12 ?_
    refine lv_lconst (v := 0) hx hb dX9_whole_15 (by decide) ?_
    refine fr_lc_le (tgt := 32) hx hb dX9_whole_16 dX9_whole_17 (by decide) (fun c2 => ?_) (fun c2 => ?_)
    · rw [if_pos c2] at hsp
      refine lv_aload_n hx hb dX9_whole_32 rfl (lv_at hl 0 rfl) ?_
      refine fr_getj C hR ha Fg_RX9_7 rfl dX9_whole_33 ?_
      refine lv_aload_n hx hb dX9_whole_36 rfl (lv_at hl 0 rfl) ?_
      refine fr_getj C hR ha Fg_RX9_30 rfl dX9_whole_37 ?_
      refine lv_ladd hx hb dX9_whole_40 ?_
      refine lv_lconst (v := 1) hx hb dX9_whole_41 (by decide) ?_
      refine lv_ladd hx hb dX9_whole_42 ?_
      refine lv_aload_n hx hb dX9_whole_43 rfl (lv_at hl 0 rfl) ?_
      refine fr_getj C hR ha Fg_RX9_16 rfl dX9_whole_44 ?_
      obtain ⟨r3, E4, hsp⟩ := fr_b1 hsp
      refine fq_callS (rest := []) (st1 := [.long r3]) C hR (k_J9_floorDiv_f86c9 C.2.2 E4) Y_J9_floorDiv_f86c9 YS_J9_floorDiv_f86c9 Lk_RX9_33 rfl hl.1 ⟨Nat.le_of_ble_eq_true rfl, Nat.le_of_ble_eq_true rfl⟩ rfl (Nat.le_of_ble_eq_true rfl) ⟨Nat.zero_le _, Nat.zero_le _⟩ rfl dX9_whole_47 (fun H locs hR => ?_)
      have e1 := fr_s1 hsp
      exact fr_lret C hr hlocks hR e1 rfl dX9_whole_50
    · rw [if_neg c2] at hsp
      refine lv_aload_n hx hb dX9_whole_20 rfl (lv_at hl 0 rfl) ?_
      refine fr_getj C hR ha Fg_RX9_7 rfl dX9_whole_21 ?_
      refine lv_aload_n hx hb dX9_whole_24 rfl (lv_at hl 0 rfl) ?_
      refine fr_getj C hR ha Fg_RX9_30 rfl dX9_whole_25 ?_
      refine lv_ladd hx hb dX9_whole_28 ?_
      refine lv_goto (tgt := 43) hx hb dX9_whole_29 (by decide) ?_
      refine lv_aload_n hx hb dX9_whole_43 rfl (lv_at hl 0 rfl) ?_
      refine fr_getj C hR ha Fg_RX9_16 rfl dX9_whole_44 ?_
      obtain ⟨r5, E6, hsp⟩ := fr_b1 hsp
      refine fq_callS (rest := []) (st1 := [.long r5]) C hR (k_J9_floorDiv_f86c9 C.2.2 E6) Y_J9_floorDiv_f86c9 YS_J9_floorDiv_f86c9 Lk_RX9_33 rfl hl.1 ⟨Nat.le_of_ble_eq_true rfl, Nat.le_of_ble_eq_true rfl⟩ rfl (Nat.le_of_ble_eq_true rfl) ⟨Nat.zero_le _, Nat.zero_le _⟩ rfl dX9_whole_47 (fun H locs hR => ?_)
      have e1 := fr_s1 hsp
      exact fr_lret C hr hlocks hR e1 rfl dX9_whole_50
  · rw [if_pos c1] at hsp
    refine lv_lconst (v := 0) hx hb dX9_whole_9 (by decide) ?_
    have e1 := fr_s1 hsp
    exact fr_lret C hr hlocks hR e1 rfl dX9_whole_10

/-! TermRows$Tape.addFour(I)V -/
def z_X10_addFour (S : fh_S) (h : fh_H) (a : Nat) (x1 : Int32) : Option fh_H :=
    fh_b1 (z_X10_addByte S h a (Int32.toUInt32 x1 >>> (Int32.toUInt32 (24 : Int32) &&& Int32.toUInt32 31)).toInt32) (fun h1 => fh_b1 (z_X10_addByte S h1 a (Int32.toUInt32 x1 >>> (Int32.toUInt32 (16 : Int32) &&& Int32.toUInt32 31)).toInt32) (fun h3 => fh_b1 (z_X10_addByte S h3 a (Int32.toUInt32 x1 >>> (Int32.toUInt32 (8 : Int32) &&& Int32.toUInt32 31)).toInt32) (fun h5 => fh_b1 (z_X10_addByte S h5 a x1) (fun h7 => some h7))))
set_option maxHeartbeats 4000000 in
set_option maxRecDepth 100000 in
theorem k_X10_addFour {l : Launch} {S : fh_S} {g : fh_G} {h h' : fh_H} (hj : fh_inj S g) {a : Nat} {x1 : Int32} (ha : fh_kq S a 10 = true) (hsp : z_X10_addFour S h a x1 = some h') : fh_M l yX10_addFour cX10_addFour 2 none (fh_rm 2) S g [.ref (g.2.2 a), .int x1] h none h' := by
  unfold z_X10_addFour at hsp
  refine fr_head (own := RX10) (by decide) rfl hj (Nat.le_of_ble_eq_true rfl) ?_
  intro p e s m below meth c ls C hr hlocks hR hl
  have hl : lv_has ls 2 [(0, .ref (g.2.2 a)), (1, .int x1)] := hl
  have hx := C.1.1
  have hb := C.1.2.1
  refine lv_aload_n hx hb dX10_addFour_0 rfl (lv_at hl 0 rfl) ?_
  refine lv_iload_n hx hb dX10_addFour_1 rfl (lv_at hl 1 rfl) ?_
  refine lv_bipush (v := 24) hx hb dX10_addFour_2 (by decide) ?_
  refine lv_iushr hx hb dX10_addFour_4 rfl ?_
  obtain ⟨h1, E2, hsp⟩ := fr_b1 hsp
  refine fq_callV (rest := []) (st1 := []) C hR (k_X10_addByte C.2.2 ha E2) Y_X10_addByte YV_X10_addByte Lk_RX10_28 ha ⟨_, _, rfl, by decide⟩ rfl hl.1 ⟨Nat.le_of_ble_eq_true rfl, Nat.le_of_ble_eq_true rfl⟩ rfl (Nat.le_of_ble_eq_true rfl) ⟨Nat.zero_le _, Nat.zero_le _⟩ rfl dX10_addFour_5 (fun H locs hR => ?_)
  refine lv_aload_n hx hb dX10_addFour_8 rfl (lv_at hl 0 rfl) ?_
  refine lv_iload_n hx hb dX10_addFour_9 rfl (lv_at hl 1 rfl) ?_
  refine lv_bipush (v := 16) hx hb dX10_addFour_10 (by decide) ?_
  refine lv_iushr hx hb dX10_addFour_12 rfl ?_
  obtain ⟨h3, E4, hsp⟩ := fr_b1 hsp
  refine fq_callV (rest := []) (st1 := []) C hR (k_X10_addByte C.2.2 ha E4) Y_X10_addByte YV_X10_addByte Lk_RX10_28 ha ⟨_, _, rfl, by decide⟩ rfl hl.1 ⟨Nat.le_of_ble_eq_true rfl, Nat.le_of_ble_eq_true rfl⟩ rfl (Nat.le_of_ble_eq_true rfl) ⟨Nat.zero_le _, Nat.zero_le _⟩ rfl dX10_addFour_13 (fun H locs hR => ?_)
  refine lv_aload_n hx hb dX10_addFour_16 rfl (lv_at hl 0 rfl) ?_
  refine lv_iload_n hx hb dX10_addFour_17 rfl (lv_at hl 1 rfl) ?_
  refine lv_bipush (v := 8) hx hb dX10_addFour_18 (by decide) ?_
  refine lv_iushr hx hb dX10_addFour_20 rfl ?_
  obtain ⟨h5, E6, hsp⟩ := fr_b1 hsp
  refine fq_callV (rest := []) (st1 := []) C hR (k_X10_addByte C.2.2 ha E6) Y_X10_addByte YV_X10_addByte Lk_RX10_28 ha ⟨_, _, rfl, by decide⟩ rfl hl.1 ⟨Nat.le_of_ble_eq_true rfl, Nat.le_of_ble_eq_true rfl⟩ rfl (Nat.le_of_ble_eq_true rfl) ⟨Nat.zero_le _, Nat.zero_le _⟩ rfl dX10_addFour_21 (fun H locs hR => ?_)
  refine lv_aload_n hx hb dX10_addFour_24 rfl (lv_at hl 0 rfl) ?_
  refine lv_iload_n hx hb dX10_addFour_25 rfl (lv_at hl 1 rfl) ?_
  obtain ⟨h7, E8, hsp⟩ := fr_b1 hsp
  refine fq_callV (rest := []) (st1 := []) C hR (k_X10_addByte C.2.2 ha E8) Y_X10_addByte YV_X10_addByte Lk_RX10_28 ha ⟨_, _, rfl, by decide⟩ rfl hl.1 ⟨Nat.le_of_ble_eq_true rfl, Nat.le_of_ble_eq_true rfl⟩ rfl (Nat.le_of_ble_eq_true rfl) ⟨Nat.zero_le _, Nat.zero_le _⟩ rfl dX10_addFour_26 (fun H locs hR => ?_)
  exact fr_vret C hr hlocks hR (fr_s1 hsp) dX10_addFour_29

/-! TermRows$Tape.scanFigures(II)I -/
def z_X10_scanFigures_b14 (S : fh_S) (a : Nat) : Nat → fh_H → Int32 → Int32 → Int32 → Int32 → Option (Int32 × fh_H)
  | 0, _, _, _, _, _ => none
  | n + 1, h, y1, y2, y3, y4 =>
    if y2 ≤ y4 then (fh_b1 (z_X10_addToken S h a (256 : Int32) y3 y1) (fun h2 => some (y4, h2))) else (fh_b1 (z_X10_byteAt S h a y4) (fun r4 => fh_b1 (z_X10_isFigure r4) (fun r6 => if r6 = 0 then (fh_b1 (z_X10_addToken S h a (256 : Int32) y3 y1) (fun h9 => some (y4, h9))) else (fh_b1 (z_X10_byteAt S h a y4) (fun r11 => fh_b1 (z_J9_min_7cf53 (((y3 * (10 : Int32)) + r11) - (48 : Int32)) (10000 : Int32)) (fun r13 => fh_let (y4 + 1) (fun v15 => z_X10_scanFigures_b14 S a n h y1 y2 r13 v15)))))))
def z_X10_scanFigures (S : fh_S) (h : fh_H) (a : Nat) (x1 : Int32) (x2 : Int32) : Option (Int32 × fh_H) :=
    fh_b1 (z_X10_byteAt S h a x1) (fun r1 => fh_let ((r1 - (48 : Int32))) (fun v3 => fh_let ((x1 + (1 : Int32))) (fun v4 => z_X10_scanFigures_b14 S a 20000 h x1 x2 v3 v4)))
set_option maxHeartbeats 4000000 in
set_option maxRecDepth 100000 in
theorem k_X10_scanFigures {l : Launch} {S : fh_S} {g : fh_G} {h h' : fh_H} (hj : fh_inj S g) {a : Nat} {x1 : Int32} {x2 : Int32} {r : Int32} (ha : fh_kq S a 10 = true) (hsp : z_X10_scanFigures S h a x1 x2 = some (r, h')) : fh_M l yX10_scanFigures cX10_scanFigures 5 (some .int) (fh_rm 2) S g [.ref (g.2.2 a), .int x1, .int x2] h (some (.int r)) h' := by
  unfold z_X10_scanFigures at hsp
  refine fr_head (own := RX10) (by decide) rfl hj (Nat.le_of_ble_eq_true rfl) ?_
  intro p e s m below meth c ls C hr hlocks hR hl
  have hl : lv_has ls 5 [(0, .ref (g.2.2 a)), (1, .int x1), (2, .int x2)] := hl
  have hx := C.1.1
  have hb := C.1.2.1
  have hb_14 : ∀ (n : Nat) (h : fh_H) (y1 : Int32) (y2 : Int32) (y3 : Int32) (y4 : Int32) (H : Heap) (locs : List Loc) (ls : Array Slot), z_X10_scanFigures_b14 S a n h y1 y2 y3 y4 = some (r, h') → fh_R S g s.heap h H locs → lv_has ls 5 [(0, .ref (g.2.2 a)), (1, .int y1), (2, .int y2), (3, .int y3), (4, .int y4)] → fh_Wk p l e 2 s m [.ref (g.2.2 a), .int x1, .int x2] below meth c S g (some (.int r)) h' H locs (F0 m 14 ls []) := by
    intro n
    induction n with
    | zero => intro h y1 y2 y3 y4 H locs ls hsp; cases hsp
    | succ n ih =>
      intro h y1 y2 y3 y4 H locs ls hsp hR hl
      rw [z_X10_scanFigures_b14] at hsp
      refine lv_iload hx hb dX10_scanFigures_14 (lv_at hl 4 rfl) ?_
      refine lv_iload_n hx hb dX10_scanFigures_16 rfl (lv_at hl 2 rfl) ?_
      refine lv_icmp_ge (tgt := 59) hx hb dX10_scanFigures_17 (by decide) (fun c1 => ?_) (fun c1 => ?_)
      · rw [if_pos c1] at hsp
        refine lv_aload_n hx hb dX10_scanFigures_59 rfl (lv_at hl 0 rfl) ?_
        refine lv_sipush (v := 256) hx hb dX10_scanFigures_60 (by decide) ?_
        refine lv_iload_n hx hb dX10_scanFigures_63 rfl (lv_at hl 3 rfl) ?_
        refine lv_iload_n hx hb dX10_scanFigures_64 rfl (lv_at hl 1 rfl) ?_
        obtain ⟨h2, E3, hsp⟩ := fr_b1 hsp
        refine fq_callV (rest := []) (st1 := []) C hR (k_X10_addToken C.2.2 ha E3) Y_X10_addToken YV_X10_addToken Lk_RX10_48 ha ⟨_, _, rfl, by decide⟩ rfl hl.1 ⟨Nat.le_of_ble_eq_true rfl, Nat.le_of_ble_eq_true rfl⟩ rfl (Nat.le_of_ble_eq_true rfl) ⟨Nat.zero_le _, Nat.zero_le _⟩ rfl dX10_scanFigures_65 (fun H locs hR => ?_)
        refine lv_iload hx hb dX10_scanFigures_68 (lv_at hl 4 rfl) ?_
        obtain ⟨e1, e2⟩ := fr_s2 hsp
        exact fr_iret C hr hlocks hR e1 e2 dX10_scanFigures_70
      · rw [if_neg c1] at hsp
        refine lv_aload_n hx hb dX10_scanFigures_20 rfl (lv_at hl 0 rfl) ?_
        refine lv_iload hx hb dX10_scanFigures_21 (lv_at hl 4 rfl) ?_
        obtain ⟨r4, E5, hsp⟩ := fr_b1 hsp
        refine fq_callV (rest := []) (st1 := [.int r4]) C hR (k_X10_byteAt C.2.2 ha E5) Y_X10_byteAt YV_X10_byteAt Lk_RX10_52 ha ⟨_, _, rfl, by decide⟩ rfl hl.1 ⟨Nat.le_of_ble_eq_true rfl, Nat.le_of_ble_eq_true rfl⟩ rfl (Nat.le_of_ble_eq_true rfl) ⟨Nat.zero_le _, Nat.zero_le _⟩ rfl dX10_scanFigures_23 (fun H locs hR => ?_)
        obtain ⟨r6, E7, hsp⟩ := fr_b1 hsp
        refine fq_callS (rest := []) (st1 := [.int r6]) C hR (k_X10_isFigure C.2.2 E7) Y_X10_isFigure YS_X10_isFigure Lk_RX10_56 rfl hl.1 ⟨Nat.le_of_ble_eq_true rfl, Nat.le_of_ble_eq_true rfl⟩ rfl (Nat.le_of_ble_eq_true rfl) ⟨Nat.zero_le _, Nat.zero_le _⟩ rfl dX10_scanFigures_26 (fun H locs hR => ?_)
        refine lv_if_eq (tgt := 59) hx hb dX10_scanFigures_29 (by decide) (fun c8 => ?_) (fun c8 => ?_)
        · rw [if_pos c8] at hsp
          refine lv_aload_n hx hb dX10_scanFigures_59 rfl (lv_at hl 0 rfl) ?_
          refine lv_sipush (v := 256) hx hb dX10_scanFigures_60 (by decide) ?_
          refine lv_iload_n hx hb dX10_scanFigures_63 rfl (lv_at hl 3 rfl) ?_
          refine lv_iload_n hx hb dX10_scanFigures_64 rfl (lv_at hl 1 rfl) ?_
          obtain ⟨h9, E10, hsp⟩ := fr_b1 hsp
          refine fq_callV (rest := []) (st1 := []) C hR (k_X10_addToken C.2.2 ha E10) Y_X10_addToken YV_X10_addToken Lk_RX10_48 ha ⟨_, _, rfl, by decide⟩ rfl hl.1 ⟨Nat.le_of_ble_eq_true rfl, Nat.le_of_ble_eq_true rfl⟩ rfl (Nat.le_of_ble_eq_true rfl) ⟨Nat.zero_le _, Nat.zero_le _⟩ rfl dX10_scanFigures_65 (fun H locs hR => ?_)
          refine lv_iload hx hb dX10_scanFigures_68 (lv_at hl 4 rfl) ?_
          obtain ⟨e1, e2⟩ := fr_s2 hsp
          exact fr_iret C hr hlocks hR e1 e2 dX10_scanFigures_70
        · rw [if_neg c8] at hsp
          refine lv_iload_n hx hb dX10_scanFigures_32 rfl (lv_at hl 3 rfl) ?_
          refine lv_bipush (v := 10) hx hb dX10_scanFigures_33 (by decide) ?_
          refine lv_imul hx hb dX10_scanFigures_35 ?_
          refine lv_aload_n hx hb dX10_scanFigures_36 rfl (lv_at hl 0 rfl) ?_
          refine lv_iload hx hb dX10_scanFigures_37 (lv_at hl 4 rfl) ?_
          obtain ⟨r11, E12, hsp⟩ := fr_b1 hsp
          refine fq_callV (rest := [.int (y3 * (10 : Int32))]) (st1 := [.int r11, .int (y3 * (10 : Int32))]) C hR (k_X10_byteAt C.2.2 ha E12) Y_X10_byteAt YV_X10_byteAt Lk_RX10_52 ha ⟨_, _, rfl, by decide⟩ rfl hl.1 ⟨Nat.le_of_ble_eq_true rfl, Nat.le_of_ble_eq_true rfl⟩ rfl (Nat.le_of_ble_eq_true rfl) ⟨Nat.zero_le _, Nat.zero_le _⟩ rfl dX10_scanFigures_39 (fun H locs hR => ?_)
          refine lv_iadd hx hb dX10_scanFigures_42 ?_
          refine lv_bipush (v := 48) hx hb dX10_scanFigures_43 (by decide) ?_
          refine lv_isub hx hb dX10_scanFigures_45 ?_
          refine lv_sipush (v := 10000) hx hb dX10_scanFigures_46 (by decide) ?_
          obtain ⟨r13, E14, hsp⟩ := fr_b1 hsp
          refine fq_callS (rest := []) (st1 := [.int r13]) C hR (k_J9_min_7cf53 C.2.2 E14) Y_J9_min_7cf53 YS_J9_min_7cf53 Lk_RX10_69 rfl hl.1 ⟨Nat.le_of_ble_eq_true rfl, Nat.le_of_ble_eq_true rfl⟩ rfl (Nat.le_of_ble_eq_true rfl) ⟨Nat.zero_le _, Nat.zero_le _⟩ rfl dX10_scanFigures_49 (fun H locs hR => ?_)
          refine lv_istore_n (lv' := [(3, .int r13), (0, .ref (g.2.2 a)), (1, .int y1), (2, .int y2), (4, .int y4)]) hx hb dX10_scanFigures_52 rfl hl (by decide) rfl (fun ls hl => ?_)
          obtain ⟨v15, ev15⟩ : ∃ z : Int32, z = y4 + 1 := ⟨_, rfl⟩
          have hsp := fr_let ev15 hsp
          refine lv_iinc (v := v15) (lv' := [(4, .int v15), (3, .int r13), (0, .ref (g.2.2 a)), (1, .int y1), (2, .int y2)]) hx hb dX10_scanFigures_53 hl (k := 4) rfl (by rw [ev15]; rfl) (by decide) rfl (fun ls hl => ?_)
          refine lv_goto (tgt := 14) hx hb dX10_scanFigures_56 (by decide) ?_
          exact ih h y1 y2 r13 v15 _ _ _ hsp hR (lv_sub hl [2, 3, 4, 1, 0] rfl)
  refine lv_aload_n hx hb dX10_scanFigures_0 rfl (lv_at hl 0 rfl) ?_
  refine lv_iload_n hx hb dX10_scanFigures_1 rfl (lv_at hl 1 rfl) ?_
  obtain ⟨r1, E2, hsp⟩ := fr_b1 hsp
  refine fq_callV (rest := []) (st1 := [.int r1]) C hR (k_X10_byteAt C.2.2 ha E2) Y_X10_byteAt YV_X10_byteAt Lk_RX10_52 ha ⟨_, _, rfl, by decide⟩ rfl hl.1 ⟨Nat.le_of_ble_eq_true rfl, Nat.le_of_ble_eq_true rfl⟩ rfl (Nat.le_of_ble_eq_true rfl) ⟨Nat.zero_le _, Nat.zero_le _⟩ rfl dX10_scanFigures_2 (fun H locs hR => ?_)
  refine lv_bipush (v := 48) hx hb dX10_scanFigures_5 (by decide) ?_
  refine lv_isub hx hb dX10_scanFigures_7 ?_
  refine lv_topi (fun v3 ev3 => ?_)
  have hsp := fr_let ev3 hsp
  refine lv_istore_n (lv' := [(3, .int v3), (0, .ref (g.2.2 a)), (1, .int x1), (2, .int x2)]) hx hb dX10_scanFigures_8 rfl hl (by decide) rfl (fun ls hl => ?_)
  refine lv_iload_n hx hb dX10_scanFigures_9 rfl (lv_at hl 2 rfl) ?_
  refine lv_iconst (v := 1) hx hb dX10_scanFigures_10 (by decide) ?_
  refine lv_iadd hx hb dX10_scanFigures_11 ?_
  refine lv_topi (fun v4 ev4 => ?_)
  have hsp := fr_let ev4 hsp
  refine lv_istore (lv' := [(4, .int v4), (3, .int v3), (0, .ref (g.2.2 a)), (1, .int x1), (2, .int x2)]) hx hb dX10_scanFigures_12 hl (by decide) rfl (fun ls hl => ?_)
  exact hb_14 20000 h x1 x2 v3 v4 _ _ _ hsp hR (lv_sub hl [2, 3, 4, 1, 0] rfl)

/-! TermRows$Tape.take(I)Z -/
def z_X10_take (S : fh_S) (h : fh_H) (a : Nat) (x1 : Int32) : Option (Int32 × fh_H) :=
    fh_b1 (z_X10_isNext S h a x1) (fun r1 => if r1 = 0 then (fh_ck (decide (r1 = 0 ∨ r1 = 1)) (some (r1, h))) else (if x1 = (257 : Int32) then (fh_ck (decide (r1 = 0 ∨ r1 = 1)) (some (r1, h))) else (fh_let (fh_sI h a 5 ((h.1 a 5) + (1 : Int32))) (fun h7 => fh_ck (decide (r1 = 0 ∨ r1 = 1)) (some (r1, h7))))))
set_option maxHeartbeats 4000000 in
set_option maxRecDepth 100000 in
theorem k_X10_take {l : Launch} {S : fh_S} {g : fh_G} {h h' : fh_H} (hj : fh_inj S g) {a : Nat} {x1 : Int32} {r : Int32} (ha : fh_kq S a 10 = true) (hsp : z_X10_take S h a x1 = some (r, h')) : fh_M l yX10_take cX10_take 3 (some .boolean) (fh_rm 2) S g [.ref (g.2.2 a), .int x1] h (some (.int r)) h' := by
  unfold z_X10_take at hsp
  refine fr_head (own := RX10) (by decide) rfl hj (Nat.le_of_ble_eq_true rfl) ?_
  intro p e s m below meth c ls C hr hlocks hR hl
  have hl : lv_has ls 3 [(0, .ref (g.2.2 a)), (1, .int x1)] := hl
  have hx := C.1.1
  have hb := C.1.2.1
  refine lv_aload_n hx hb dX10_take_0 rfl (lv_at hl 0 rfl) ?_
  refine lv_iload_n hx hb dX10_take_1 rfl (lv_at hl 1 rfl) ?_
  obtain ⟨r1, E2, hsp⟩ := fr_b1 hsp
  refine fq_callV (rest := []) (st1 := [.int r1]) C hR (k_X10_isNext C.2.2 ha E2) Y_X10_isNext YV_X10_isNext Lk_RX10_111 ha ⟨_, _, rfl, by decide⟩ rfl hl.1 ⟨Nat.le_of_ble_eq_true rfl, Nat.le_of_ble_eq_true rfl⟩ rfl (Nat.le_of_ble_eq_true rfl) ⟨Nat.zero_le _, Nat.zero_le _⟩ rfl dX10_take_2 (fun H locs hR => ?_)
  refine lv_istore_n (lv' := [(2, .int r1), (0, .ref (g.2.2 a)), (1, .int x1)]) hx hb dX10_take_5 rfl hl (by decide) rfl (fun ls hl => ?_)
  refine lv_iload_n hx hb dX10_take_6 rfl (lv_at hl 0 rfl) ?_
  refine lv_if_eq (tgt := 27) hx hb dX10_take_7 (by decide) (fun c3 => ?_) (fun c3 => ?_)
  · rw [if_pos c3] at hsp
    refine lv_iload_n hx hb dX10_take_27 rfl (lv_at hl 0 rfl) ?_
    obtain ⟨hz4, hsp⟩ := fr_ck hsp
    obtain ⟨e1, e2⟩ := fr_s2 hsp
    exact fr_zret C hr hlocks hR (of_decide_eq_true hz4) e1 e2 dX10_take_28
  · rw [if_neg c3] at hsp
    refine lv_iload_n hx hb dX10_take_10 rfl (lv_at hl 2 rfl) ?_
    refine lv_sipush (v := 257) hx hb dX10_take_11 (by decide) ?_
    refine lv_icmp_eq (tgt := 27) hx hb dX10_take_14 (by decide) (fun c5 => ?_) (fun c5 => ?_)
    · rw [if_pos c5] at hsp
      refine lv_iload_n hx hb dX10_take_27 rfl (lv_at hl 0 rfl) ?_
      obtain ⟨hz6, hsp⟩ := fr_ck hsp
      obtain ⟨e1, e2⟩ := fr_s2 hsp
      exact fr_zret C hr hlocks hR (of_decide_eq_true hz6) e1 e2 dX10_take_28
    · rw [if_neg c5] at hsp
      refine lv_aload_n hx hb dX10_take_17 rfl (lv_at hl 1 rfl) ?_
      refine lv_dup hx hb dX10_take_18 rfl ?_
      refine fr_geti C hR ha Fg_RX10_41 rfl dX10_take_19 ?_
      refine lv_iconst (v := 1) hx hb dX10_take_22 (by decide) ?_
      refine lv_iadd hx hb dX10_take_23 ?_
      refine fr_puti C hR ha Fp_RX10_41 rfl dX10_take_24 (fun H locs hR => ?_)
      obtain ⟨h7, eh7⟩ : ∃ z, z = fh_sI h a 5 ((h.1 a 5) + (1 : Int32)) := ⟨_, rfl⟩
      rw [← eh7] at hR
      have hsp := fr_let eh7 hsp
      refine lv_iload_n hx hb dX10_take_27 rfl (lv_at hl 0 rfl) ?_
      obtain ⟨hz8, hsp⟩ := fr_ck hsp
      obtain ⟨e1, e2⟩ := fr_s2 hsp
      exact fr_zret C hr hlocks hR (of_decide_eq_true hz8) e1 e2 dX10_take_28

/-! TermRows$Tape.takeFigures(I)I -/
def z_X10_takeFigures_b32 (S : fh_S) (a : Nat) (h : fh_H) (y1 : Int32) (t0 : Int32) : Option (Int32 × fh_H) :=
    fh_b1 (z_X10_isNext S h a (256 : Int32)) (fun r1 => if r1 = 0 then (fh_b1 (z_X10_fail S h a (1 : Int32)) (fun h11 => some ((0 : Int32), h11))) else (if t0 < y1 then (fh_b1 (z_X10_fail S h a (2 : Int32)) (fun h5 => some ((0 : Int32), h5))) else (if t0 ≤ (9999 : Int32) then (fh_let (fh_sI h a 5 ((h.1 a 5) + (1 : Int32))) (fun h8 => some (t0, h8))) else (fh_b1 (z_X10_fail S h a (2 : Int32)) (fun h9 => some ((0 : Int32), h9))))))
def z_X10_takeFigures (S : fh_S) (h : fh_H) (a : Nat) (x1 : Int32) : Option (Int32 × fh_H) :=
    if (h.1 a 5) < 0 then (z_X10_takeFigures_b32 S a h x1 (0 : Int32)) else (fh_b1 (h.2.2 a 2) (fun j2 => fh_ck (fh_kq S j2 13) (if (Int32.ofNat (S.2.2 j2)) ≤ (h.1 a 5) then (z_X10_takeFigures_b32 S a h x1 (0 : Int32)) else (fh_ck (fh_in (h.1 a 5) (S.2.2 j2)) (z_X10_takeFigures_b32 S a h x1 (h.1 j2 (Int32.toNatClampNeg (h.1 a 5))))))))
set_option maxHeartbeats 4000000 in
set_option maxRecDepth 100000 in
theorem k_X10_takeFigures {l : Launch} {S : fh_S} {g : fh_G} {h h' : fh_H} (hj : fh_inj S g) {a : Nat} {x1 : Int32} {r : Int32} (ha : fh_kq S a 10 = true) (hsp : z_X10_takeFigures S h a x1 = some (r, h')) : fh_M l yX10_takeFigures cX10_takeFigures 3 (some .int) (fh_rm 2) S g [.ref (g.2.2 a), .int x1] h (some (.int r)) h' := by
  unfold z_X10_takeFigures at hsp
  refine fr_head (own := RX10) (by decide) rfl hj (Nat.le_of_ble_eq_true rfl) ?_
  intro p e s m below meth c ls C hr hlocks hR hl
  have hl : lv_has ls 3 [(0, .ref (g.2.2 a)), (1, .int x1)] := hl
  have hx := C.1.1
  have hb := C.1.2.1
  have hb_32 : ∀ (h : fh_H) (y1 : Int32) (t0 : Int32) (H : Heap) (locs : List Loc) (ls : Array Slot), z_X10_takeFigures_b32 S a h y1 t0 = some (r, h') → fh_R S g s.heap h H locs → lv_has ls 3 [(0, .ref (g.2.2 a)), (1, .int y1)] → fh_Wk p l e 2 s m [.ref (g.2.2 a), .int x1] below meth c S g (some (.int r)) h' H locs (F0 m 32 ls [.int t0]) := by
    intro h y1 t0 H locs ls hsp hR hl
    unfold z_X10_takeFigures_b32 at hsp
    refine lv_istore_n (lv' := [(2, .int t0), (0, .ref (g.2.2 a)), (1, .int y1)]) hx hb dX10_takeFigures_32 rfl hl (by decide) rfl (fun ls hl => ?_)
    refine lv_aload_n hx hb dX10_takeFigures_33 rfl (lv_at hl 1 rfl) ?_
    refine lv_sipush (v := 256) hx hb dX10_takeFigures_34 (by decide) ?_
    obtain ⟨r1, E2, hsp⟩ := fr_b1 hsp
    refine fq_callV (rest := []) (st1 := [.int r1]) C hR (k_X10_isNext C.2.2 ha E2) Y_X10_isNext YV_X10_isNext Lk_RX10_111 ha ⟨_, _, rfl, by decide⟩ rfl hl.1 ⟨Nat.le_of_ble_eq_true rfl, Nat.le_of_ble_eq_true rfl⟩ rfl (Nat.le_of_ble_eq_true rfl) ⟨Nat.zero_le _, Nat.zero_le _⟩ rfl dX10_takeFigures_37 (fun H locs hR => ?_)
    refine lv_if_ne (tgt := 50) hx hb dX10_takeFigures_40 (by decide) (fun c3 => ?_) (fun c3 => ?_)
    · rw [if_neg c3] at hsp
      refine lv_iload_n hx hb dX10_takeFigures_50 rfl (lv_at hl 0 rfl) ?_
      refine lv_iload_n hx hb dX10_takeFigures_51 rfl (lv_at hl 2 rfl) ?_
      refine lv_icmp_lt (tgt := 62) hx hb dX10_takeFigures_52 (by decide) (fun c4 => ?_) (fun c4 => ?_)
      · rw [if_pos c4] at hsp
        refine lv_aload_n hx hb dX10_takeFigures_62 rfl (lv_at hl 1 rfl) ?_
        refine lv_iconst (v := 2) hx hb dX10_takeFigures_63 (by decide) ?_
        obtain ⟨h5, E6, hsp⟩ := fr_b1 hsp
        refine fq_callV (rest := []) (st1 := []) C hR (k_X10_fail C.2.2 ha E6) Y_X10_fail YV_X10_fail Lk_RX10_117 ha ⟨_, _, rfl, by decide⟩ rfl hl.1 ⟨Nat.le_of_ble_eq_true rfl, Nat.le_of_ble_eq_true rfl⟩ rfl (Nat.le_of_ble_eq_true rfl) ⟨Nat.zero_le _, Nat.zero_le _⟩ rfl dX10_takeFigures_64 (fun H locs hR => ?_)
        refine lv_iconst (v := 0) hx hb dX10_takeFigures_67 (by decide) ?_
        obtain ⟨e1, e2⟩ := fr_s2 hsp
        exact fr_iret C hr hlocks hR e1 e2 dX10_takeFigures_68
      · rw [if_neg c4] at hsp
        refine lv_iload_n hx hb dX10_takeFigures_55 rfl (lv_at hl 0 rfl) ?_
        refine lv_sipush (v := 9999) hx hb dX10_takeFigures_56 (by decide) ?_
        refine lv_icmp_le (tgt := 69) hx hb dX10_takeFigures_59 (by decide) (fun c7 => ?_) (fun c7 => ?_)
        · rw [if_pos c7] at hsp
          refine lv_aload_n hx hb dX10_takeFigures_69 rfl (lv_at hl 1 rfl) ?_
          refine lv_dup hx hb dX10_takeFigures_70 rfl ?_
          refine fr_geti C hR ha Fg_RX10_41 rfl dX10_takeFigures_71 ?_
          refine lv_iconst (v := 1) hx hb dX10_takeFigures_74 (by decide) ?_
          refine lv_iadd hx hb dX10_takeFigures_75 ?_
          refine fr_puti C hR ha Fp_RX10_41 rfl dX10_takeFigures_76 (fun H locs hR => ?_)
          obtain ⟨h8, eh8⟩ : ∃ z, z = fh_sI h a 5 ((h.1 a 5) + (1 : Int32)) := ⟨_, rfl⟩
          rw [← eh8] at hR
          have hsp := fr_let eh8 hsp
          refine lv_iload_n hx hb dX10_takeFigures_79 rfl (lv_at hl 0 rfl) ?_
          obtain ⟨e1, e2⟩ := fr_s2 hsp
          exact fr_iret C hr hlocks hR e1 e2 dX10_takeFigures_80
        · rw [if_neg c7] at hsp
          refine lv_aload_n hx hb dX10_takeFigures_62 rfl (lv_at hl 1 rfl) ?_
          refine lv_iconst (v := 2) hx hb dX10_takeFigures_63 (by decide) ?_
          obtain ⟨h9, E10, hsp⟩ := fr_b1 hsp
          refine fq_callV (rest := []) (st1 := []) C hR (k_X10_fail C.2.2 ha E10) Y_X10_fail YV_X10_fail Lk_RX10_117 ha ⟨_, _, rfl, by decide⟩ rfl hl.1 ⟨Nat.le_of_ble_eq_true rfl, Nat.le_of_ble_eq_true rfl⟩ rfl (Nat.le_of_ble_eq_true rfl) ⟨Nat.zero_le _, Nat.zero_le _⟩ rfl dX10_takeFigures_64 (fun H locs hR => ?_)
          refine lv_iconst (v := 0) hx hb dX10_takeFigures_67 (by decide) ?_
          obtain ⟨e1, e2⟩ := fr_s2 hsp
          exact fr_iret C hr hlocks hR e1 e2 dX10_takeFigures_68
    · rw [if_pos c3] at hsp
      refine lv_aload_n hx hb dX10_takeFigures_43 rfl (lv_at hl 1 rfl) ?_
      refine lv_iconst (v := 1) hx hb dX10_takeFigures_44 (by decide) ?_
      obtain ⟨h11, E12, hsp⟩ := fr_b1 hsp
      refine fq_callV (rest := []) (st1 := []) C hR (k_X10_fail C.2.2 ha E12) Y_X10_fail YV_X10_fail Lk_RX10_117 ha ⟨_, _, rfl, by decide⟩ rfl hl.1 ⟨Nat.le_of_ble_eq_true rfl, Nat.le_of_ble_eq_true rfl⟩ rfl (Nat.le_of_ble_eq_true rfl) ⟨Nat.zero_le _, Nat.zero_le _⟩ rfl dX10_takeFigures_45 (fun H locs hR => ?_)
      refine lv_iconst (v := 0) hx hb dX10_takeFigures_48 (by decide) ?_
      obtain ⟨e1, e2⟩ := fr_s2 hsp
      exact fr_iret C hr hlocks hR e1 e2 dX10_takeFigures_49
  refine lv_aload_n hx hb dX10_takeFigures_0 rfl (lv_at hl 0 rfl) ?_
  refine fr_geti C hR ha Fg_RX10_41 rfl dX10_takeFigures_1 ?_
  refine lv_if_lt (tgt := 31) hx hb dX10_takeFigures_4 (by decide) (fun c1 => ?_) (fun c1 => ?_)
  · rw [if_pos c1] at hsp
    refine lv_iconst (v := 0) hx hb dX10_takeFigures_31 (by decide) ?_
    exact hb_32 h x1 (0 : Int32) _ _ _ hsp hR (lv_sub hl [0, 1] rfl)
  · rw [if_neg c1] at hsp
    refine lv_aload_n hx hb dX10_takeFigures_7 rfl (lv_at hl 0 rfl) ?_
    refine fr_geti C hR ha Fg_RX10_41 rfl dX10_takeFigures_8 ?_
    refine lv_aload_n hx hb dX10_takeFigures_11 rfl (lv_at hl 0 rfl) ?_
    obtain ⟨j2, hv3, hsp⟩ := fr_b1 hsp
    refine fr_getr C hR ha Fg_RX10_18 rfl hv3 dX10_takeFigures_12 ?_
    obtain ⟨hk4, hsp⟩ := fr_ck hsp
    refine fr_alen C hR hk4 (Or.inl rfl) dX10_takeFigures_15 ?_
    refine lv_icmp_ge (tgt := 31) hx hb dX10_takeFigures_16 (by decide) (fun c5 => ?_) (fun c5 => ?_)
    · rw [if_pos c5] at hsp
      refine lv_iconst (v := 0) hx hb dX10_takeFigures_31 (by decide) ?_
      exact hb_32 h x1 (0 : Int32) _ _ _ hsp hR (lv_sub hl [0, 1] rfl)
    · rw [if_neg c5] at hsp
      refine lv_aload_n hx hb dX10_takeFigures_19 rfl (lv_at hl 0 rfl) ?_
      refine fr_getr C hR ha Fg_RX10_18 rfl hv3 dX10_takeFigures_20 ?_
      refine lv_aload_n hx hb dX10_takeFigures_23 rfl (lv_at hl 0 rfl) ?_
      refine fr_geti C hR ha Fg_RX10_41 rfl dX10_takeFigures_24 ?_
      obtain ⟨hi6, hsp⟩ := fr_ck hsp
      refine fr_iald C hR hk4 hi6 dX10_takeFigures_27 ?_
      refine lv_goto (tgt := 32) hx hb dX10_takeFigures_28 (by decide) ?_
      exact hb_32 h x1 (h.1 j2 (Int32.toNatClampNeg (h.1 a 5))) _ _ _ hsp hR (lv_sub hl [0, 1] rfl)

/-! TermRows.said(I)I -/
def z_X11_said (S : fh_S) (h : fh_H) (a : Nat) (x1 : Int32) : Option Int32 :=
    fh_b1 (h.2.2 a 9) (fun j1 => fh_ck (fh_kq S j1 8) (fh_b1 (z_X8_byteAt S h j1 x1) (fun r4 => some r4)))
set_option maxHeartbeats 4000000 in
set_option maxRecDepth 100000 in
theorem k_X11_said {l : Launch} {S : fh_S} {g : fh_G} {h : fh_H} (hj : fh_inj S g) {a : Nat} {x1 : Int32} {r : Int32} (ha : fh_kq S a 11 = true) (hsp : z_X11_said S h a x1 = some r) : fh_M l yX11_said cX11_said 2 (some .int) (fh_rm 2) S g [.ref (g.2.2 a), .int x1] h (some (.int r)) h := by
  unfold z_X11_said at hsp
  refine fr_head (own := RX11) (by decide) rfl hj (Nat.le_of_ble_eq_true rfl) ?_
  intro p e s m below meth c ls C hr hlocks hR hl
  have hl : lv_has ls 2 [(0, .ref (g.2.2 a)), (1, .int x1)] := hl
  have hx := C.1.1
  have hb := C.1.2.1
  refine lv_aload_n hx hb dX11_said_0 rfl (lv_at hl 0 rfl) ?_
  obtain ⟨j1, hv2, hsp⟩ := fr_b1 hsp
  refine fr_getr C hR ha Fg_RX11_76 rfl hv2 dX11_said_1 ?_
  refine lv_iload_n hx hb dX11_said_4 rfl (lv_at hl 1 rfl) ?_
  obtain ⟨hk3, hsp⟩ := fr_ck hsp
  obtain ⟨r4, E5, hsp⟩ := fr_b1 hsp
  refine fq_callV (rest := []) (st1 := [.int r4]) C hR (k_X8_byteAt C.2.2 hk3 E5) Y_X8_byteAt YV_X8_byteAt Lk_RX11_339 hk3 ⟨_, _, rfl, by decide⟩ rfl hl.1 ⟨Nat.le_of_ble_eq_true rfl, Nat.le_of_ble_eq_true rfl⟩ rfl (Nat.le_of_ble_eq_true rfl) ⟨Nat.zero_le _, Nat.zero_le _⟩ rfl dX11_said_5 (fun H locs hR => ?_)
  have e1 := fr_s1 hsp
  exact fr_iret C hr hlocks hR e1 rfl dX11_said_8

/-! TermRows.fitsSingle(IIII)Z -/
def z_X11_fitsSingle_b10 (y0 : Int32) (y1 : Int32) (y2 : Int32) (y3 : Int32) : Option Int32 :=
    fh_b1 (z_X11_within y0 (999 : Int32)) (fun r1 => if r1 = 0 then (some (0 : Int32)) else (fh_b1 (z_X11_within y1 (999 : Int32)) (fun r4 => if r4 = 0 then (some (0 : Int32)) else (fh_b1 (z_X11_within y2 (999 : Int32)) (fun r7 => if r7 = 0 then (some (0 : Int32)) else (fh_b1 (z_X11_within y3 (999 : Int32)) (fun r10 => if r10 = 0 then (some (0 : Int32)) else (some (1 : Int32)))))))))
def z_X11_fitsSingle (x0 : Int32) (x1 : Int32) (x2 : Int32) (x3 : Int32) : Option Int32 :=
    if x2 = 0 then (if x3 = 0 then (some (0 : Int32)) else (z_X11_fitsSingle_b10 x0 x1 x2 x3)) else (z_X11_fitsSingle_b10 x0 x1 x2 x3)
set_option maxHeartbeats 4000000 in
set_option maxRecDepth 100000 in
theorem k_X11_fitsSingle {l : Launch} {S : fh_S} {g : fh_G} {h : fh_H} (hj : fh_inj S g) {x0 : Int32} {x1 : Int32} {x2 : Int32} {x3 : Int32} {r : Int32} (hsp : z_X11_fitsSingle x0 x1 x2 x3 = some r) : fh_M l yX11_fitsSingle cX11_fitsSingle 4 (some .boolean) (fh_rm 2) S g [.int x0, .int x1, .int x2, .int x3] h (some (.int r)) h := by
  unfold z_X11_fitsSingle at hsp
  refine fr_head (own := RX11) (by decide) rfl hj (Nat.le_of_ble_eq_true rfl) ?_
  intro p e s m below meth c ls C hr hlocks hR hl
  have hl : lv_has ls 4 [(0, .int x0), (1, .int x1), (2, .int x2), (3, .int x3)] := hl
  have hx := C.1.1
  have hb := C.1.2.1
  have hb_10 : ∀ (y0 : Int32) (y1 : Int32) (y2 : Int32) (y3 : Int32) (H : Heap) (locs : List Loc) (ls : Array Slot), z_X11_fitsSingle_b10 y0 y1 y2 y3 = some r → fh_R S g s.heap h H locs → lv_has ls 4 [(0, .int y0), (1, .int y1), (2, .int y2), (3, .int y3)] → fh_Wk p l e 2 s m [.int x0, .int x1, .int x2, .int x3] below meth c S g (some (.int r)) h H locs (F0 m 10 ls []) := by
    intro y0 y1 y2 y3 H locs ls hsp hR hl
    unfold z_X11_fitsSingle_b10 at hsp
    refine lv_iload_n hx hb dX11_fitsSingle_10 rfl (lv_at hl 0 rfl) ?_
    refine lv_sipush (v := 999) hx hb dX11_fitsSingle_11 (by decide) ?_
    obtain ⟨r1, E2, hsp⟩ := fr_b1 hsp
    refine fq_callS (rest := []) (st1 := [.int r1]) C hR (k_X11_within C.2.2 E2) Y_X11_within YS_X11_within Lk_RX11_137 rfl hl.1 ⟨Nat.le_of_ble_eq_true rfl, Nat.le_of_ble_eq_true rfl⟩ rfl (Nat.le_of_ble_eq_true rfl) ⟨Nat.zero_le _, Nat.zero_le _⟩ rfl dX11_fitsSingle_14 (fun H locs hR => ?_)
    refine lv_if_eq (tgt := 54) hx hb dX11_fitsSingle_17 (by decide) (fun c3 => ?_) (fun c3 => ?_)
    · rw [if_pos c3] at hsp
      refine lv_iconst (v := 0) hx hb dX11_fitsSingle_54 (by decide) ?_
      have e1 := fr_s1 hsp
      exact fr_zret C hr hlocks hR (Or.inl rfl) e1 rfl dX11_fitsSingle_55
    · rw [if_neg c3] at hsp
      refine lv_iload_n hx hb dX11_fitsSingle_20 rfl (lv_at hl 1 rfl) ?_
      refine lv_sipush (v := 999) hx hb dX11_fitsSingle_21 (by decide) ?_
      obtain ⟨r4, E5, hsp⟩ := fr_b1 hsp
      refine fq_callS (rest := []) (st1 := [.int r4]) C hR (k_X11_within C.2.2 E5) Y_X11_within YS_X11_within Lk_RX11_137 rfl hl.1 ⟨Nat.le_of_ble_eq_true rfl, Nat.le_of_ble_eq_true rfl⟩ rfl (Nat.le_of_ble_eq_true rfl) ⟨Nat.zero_le _, Nat.zero_le _⟩ rfl dX11_fitsSingle_24 (fun H locs hR => ?_)
      refine lv_if_eq (tgt := 54) hx hb dX11_fitsSingle_27 (by decide) (fun c6 => ?_) (fun c6 => ?_)
      · rw [if_pos c6] at hsp
        refine lv_iconst (v := 0) hx hb dX11_fitsSingle_54 (by decide) ?_
        have e1 := fr_s1 hsp
        exact fr_zret C hr hlocks hR (Or.inl rfl) e1 rfl dX11_fitsSingle_55
      · rw [if_neg c6] at hsp
        refine lv_iload_n hx hb dX11_fitsSingle_30 rfl (lv_at hl 2 rfl) ?_
        refine lv_sipush (v := 999) hx hb dX11_fitsSingle_31 (by decide) ?_
        obtain ⟨r7, E8, hsp⟩ := fr_b1 hsp
        refine fq_callS (rest := []) (st1 := [.int r7]) C hR (k_X11_within C.2.2 E8) Y_X11_within YS_X11_within Lk_RX11_137 rfl hl.1 ⟨Nat.le_of_ble_eq_true rfl, Nat.le_of_ble_eq_true rfl⟩ rfl (Nat.le_of_ble_eq_true rfl) ⟨Nat.zero_le _, Nat.zero_le _⟩ rfl dX11_fitsSingle_34 (fun H locs hR => ?_)
        refine lv_if_eq (tgt := 54) hx hb dX11_fitsSingle_37 (by decide) (fun c9 => ?_) (fun c9 => ?_)
        · rw [if_pos c9] at hsp
          refine lv_iconst (v := 0) hx hb dX11_fitsSingle_54 (by decide) ?_
          have e1 := fr_s1 hsp
          exact fr_zret C hr hlocks hR (Or.inl rfl) e1 rfl dX11_fitsSingle_55
        · rw [if_neg c9] at hsp
          refine lv_iload_n hx hb dX11_fitsSingle_40 rfl (lv_at hl 3 rfl) ?_
          refine lv_sipush (v := 999) hx hb dX11_fitsSingle_41 (by decide) ?_
          obtain ⟨r10, E11, hsp⟩ := fr_b1 hsp
          refine fq_callS (rest := []) (st1 := [.int r10]) C hR (k_X11_within C.2.2 E11) Y_X11_within YS_X11_within Lk_RX11_137 rfl hl.1 ⟨Nat.le_of_ble_eq_true rfl, Nat.le_of_ble_eq_true rfl⟩ rfl (Nat.le_of_ble_eq_true rfl) ⟨Nat.zero_le _, Nat.zero_le _⟩ rfl dX11_fitsSingle_44 (fun H locs hR => ?_)
          refine lv_if_eq (tgt := 54) hx hb dX11_fitsSingle_47 (by decide) (fun c12 => ?_) (fun c12 => ?_)
          · rw [if_pos c12] at hsp
            refine lv_iconst (v := 0) hx hb dX11_fitsSingle_54 (by decide) ?_
            have e1 := fr_s1 hsp
            exact fr_zret C hr hlocks hR (Or.inl rfl) e1 rfl dX11_fitsSingle_55
          · rw [if_neg c12] at hsp
            refine lv_iconst (v := 1) hx hb dX11_fitsSingle_50 (by decide) ?_
            refine lv_goto (tgt := 55) hx hb dX11_fitsSingle_51 (by decide) ?_
            have e1 := fr_s1 hsp
            exact fr_zret C hr hlocks hR (Or.inr rfl) e1 rfl dX11_fitsSingle_55
  refine lv_iload_n hx hb dX11_fitsSingle_0 rfl (lv_at hl 2 rfl) ?_
  refine lv_if_ne (tgt := 10) hx hb dX11_fitsSingle_1 (by decide) (fun c1 => ?_) (fun c1 => ?_)
  · rw [if_neg c1] at hsp
    exact hb_10 x0 x1 x2 x3 _ _ _ hsp hR (lv_sub hl [0, 1, 2, 3] rfl)
  · rw [if_pos c1] at hsp
    refine lv_iload_n hx hb dX11_fitsSingle_4 rfl (lv_at hl 3 rfl) ?_
    refine lv_if_ne (tgt := 10) hx hb dX11_fitsSingle_5 (by decide) (fun c2 => ?_) (fun c2 => ?_)
    · rw [if_neg c2] at hsp
      exact hb_10 x0 x1 x2 x3 _ _ _ hsp hR (lv_sub hl [0, 1, 2, 3] rfl)
    · rw [if_pos c2] at hsp
      refine lv_iconst (v := 0) hx hb dX11_fitsSingle_8 (by decide) ?_
      have e1 := fr_s1 hsp
      exact fr_zret C hr hlocks hR (Or.inl rfl) e1 rfl dX11_fitsSingle_9

/-! TermRows.isSquare(J)Z -/
def z_X11_isSquare (x0 : Int64) : Option Int32 :=
    fh_b1 (z_X11_wholeRoot x0) (fun r1 => if (r1 * r1) = x0 then (some (1 : Int32)) else (some (0 : Int32)))
set_option maxHeartbeats 4000000 in
set_option maxRecDepth 100000 in
theorem k_X11_isSquare {l : Launch} {S : fh_S} {g : fh_G} {h : fh_H} (hj : fh_inj S g) {x0 : Int64} {r : Int32} (hsp : z_X11_isSquare x0 = some r) : fh_M l yX11_isSquare cX11_isSquare 4 (some .boolean) (fh_rm 2) S g [.long x0] h (some (.int r)) h := by
  unfold z_X11_isSquare at hsp
  refine fr_head (own := RX11) (by decide) rfl hj (Nat.le_of_ble_eq_true rfl) ?_
  intro p e s m below meth c ls C hr hlocks hR hl
  have hl : lv_has ls 4 [(0, .long x0)] := hl
  have hx := C.1.1
  have hb := C.1.2.1
  refine lv_lload_n hx hb dX11_isSquare_0 rfl (lv_at hl 0 rfl) ?_
  obtain ⟨r1, E2, hsp⟩ := fr_b1 hsp
  refine fq_callS (rest := []) (st1 := [.long r1]) C hR (k_X11_wholeRoot C.2.2 E2) Y_X11_wholeRoot YS_X11_wholeRoot Lk_RX11_350 rfl hl.1 ⟨Nat.le_of_ble_eq_true rfl, Nat.le_of_ble_eq_true rfl⟩ rfl (Nat.le_of_ble_eq_true rfl) ⟨Nat.zero_le _, Nat.zero_le _⟩ rfl dX11_isSquare_1 (fun H locs hR => ?_)
  refine lv_lstore_n (lv' := [(2, .long r1), (0, .long x0)]) hx hb dX11_isSquare_4 rfl hl (by decide) rfl (fun ls hl => ?_)
  refine lv_lload_n hx hb dX11_isSquare_5 rfl (lv_at hl 0 rfl) ?_
  refine lv_lload_n hx hb dX11_isSquare_6 rfl (lv_at hl 0 rfl) ?_
  refine lv_lmul hx hb dX11_isSquare_7 ?_
  refine lv_lload_n hx hb dX11_isSquare_8 rfl (lv_at hl 1 rfl) ?_
  refine fr_lc_ne (tgt := 17) hx hb dX11_isSquare_9 dX11_isSquare_10 (by decide) (fun c3 => ?_) (fun c3 => ?_)
  · rw [if_neg c3] at hsp
    refine lv_iconst (v := 0) hx hb dX11_isSquare_17 (by decide) ?_
    have e1 := fr_s1 hsp
    exact fr_zret C hr hlocks hR (Or.inl rfl) e1 rfl dX11_isSquare_18
  · rw [if_pos c3] at hsp
    refine lv_iconst (v := 1) hx hb dX11_isSquare_13 (by decide) ?_
    refine lv_goto (tgt := 18) hx hb dX11_isSquare_14 (by decide) ?_
    have e1 := fr_s1 hsp
    exact fr_zret C hr hlocks hR (Or.inr rfl) e1 rfl dX11_isSquare_18

/-! TermRows.isStaleSource(LTermRows$Row;I)Z -/
def z_X11_isStaleSource (S : fh_S) (h : fh_H) (a : Nat) (x1 : Nat) (x2 : Int32) : Option Int32 :=
    fh_b1 (z_X11_find S h a x2) (fun r1 => fh_nn r1 (some (0 : Int32)) (fun j3 => fh_ck (fh_kq S j3 6) (if (h.1 j3 5) = 0 then (some (0 : Int32)) else (fh_b1 (h.2.2 x1 4) (fun j6 => fh_ck (fh_kq S j6 3) (if (h.1 j6 0) < (3 : Int32) then (some (0 : Int32)) else (some (1 : Int32))))))))
set_option maxHeartbeats 4000000 in
set_option maxRecDepth 100000 in
theorem k_X11_isStaleSource {l : Launch} {S : fh_S} {g : fh_G} {h : fh_H} (hj : fh_inj S g) {a : Nat} {x1 : Nat} {x2 : Int32} {r : Int32} (ha : fh_kq S a 11 = true) (k_x1 : fh_kq S x1 6 = true) (hsp : z_X11_isStaleSource S h a x1 x2 = some r) : fh_M l yX11_isStaleSource cX11_isStaleSource 4 (some .boolean) (fh_rm 2) S g [.ref (g.2.2 a), .ref (g.2.2 x1), .int x2] h (some (.int r)) h := by
  unfold z_X11_isStaleSource at hsp
  refine fr_head (own := RX11) (by decide) rfl hj (Nat.le_of_ble_eq_true rfl) ?_
  intro p e s m below meth c ls C hr hlocks hR hl
  have hl : lv_has ls 4 [(0, .ref (g.2.2 a)), (1, .ref (g.2.2 x1)), (2, .int x2)] := hl
  have hx := C.1.1
  have hb := C.1.2.1
  refine lv_aload_n hx hb dX11_isStaleSource_0 rfl (lv_at hl 0 rfl) ?_
  refine lv_iload_n hx hb dX11_isStaleSource_1 rfl (lv_at hl 2 rfl) ?_
  obtain ⟨r1, E2, hsp⟩ := fr_b1 hsp
  refine fq_callV (rest := []) (st1 := [va_rf (Option.map g.2.2 r1)]) C hR (k_X11_find C.2.2 ha E2) Y_X11_find YV_X11_find Lk_RX11_87 ha ⟨_, _, rfl, by decide⟩ rfl hl.1 ⟨Nat.le_of_ble_eq_true rfl, Nat.le_of_ble_eq_true rfl⟩ rfl (Nat.le_of_ble_eq_true rfl) ⟨Nat.zero_le _, Nat.zero_le _⟩ rfl dX11_isStaleSource_2 (fun H locs hR => ?_)
  rcases r1 with _ | j3
  · have hsp := fr_nnN hsp
    refine W.eq (g2 := F0 m 5 ls [.null]) rfl ?_
    refine lv_astore_nN (lv' := [(3, .null), (0, .ref (g.2.2 a)), (1, .ref (g.2.2 x1)), (2, .int x2)]) hx hb dX11_isStaleSource_5 rfl hl (by decide) rfl (fun ls hl => ?_)
    refine lv_aload_nN hx hb dX11_isStaleSource_6 rfl (lv_at hl 0 rfl) ?_
    refine lv_ifnullN (tgt := 32) hx hb dX11_isStaleSource_7 (by decide) ?_
    refine lv_iconst (v := 0) hx hb dX11_isStaleSource_32 (by decide) ?_
    have e1 := fr_s1 hsp
    exact fr_zret C hr hlocks hR (Or.inl rfl) e1 rfl dX11_isStaleSource_33
  · have hsp := fr_nnS hsp
    refine W.eq (g2 := F0 m 5 ls [.ref (g.2.2 j3)]) rfl ?_
    refine lv_astore_n (lv' := [(3, .ref (g.2.2 j3)), (0, .ref (g.2.2 a)), (1, .ref (g.2.2 x1)), (2, .int x2)]) hx hb dX11_isStaleSource_5 rfl hl (by decide) rfl (fun ls hl => ?_)
    refine lv_aload_n hx hb dX11_isStaleSource_6 rfl (lv_at hl 0 rfl) ?_
    refine lv_ifnull hx hb dX11_isStaleSource_7 ?_
    refine lv_aload_n hx hb dX11_isStaleSource_10 rfl (lv_at hl 0 rfl) ?_
    obtain ⟨hk4, hsp⟩ := fr_ck hsp
    refine fr_geti C hR hk4 Fg_RX11_356 rfl dX11_isStaleSource_11 ?_
    refine lv_if_eq (tgt := 32) hx hb dX11_isStaleSource_14 (by decide) (fun c5 => ?_) (fun c5 => ?_)
    · rw [if_pos c5] at hsp
      refine lv_iconst (v := 0) hx hb dX11_isStaleSource_32 (by decide) ?_
      have e1 := fr_s1 hsp
      exact fr_zret C hr hlocks hR (Or.inl rfl) e1 rfl dX11_isStaleSource_33
    · rw [if_neg c5] at hsp
      refine lv_aload_n hx hb dX11_isStaleSource_17 rfl (lv_at hl 2 rfl) ?_
      obtain ⟨j6, hv7, hsp⟩ := fr_b1 hsp
      refine fr_getr C hR k_x1 Fg_RX11_168 rfl hv7 dX11_isStaleSource_18 ?_
      obtain ⟨hk8, hsp⟩ := fr_ck hsp
      refine fr_geti C hR hk8 Fg_RX11_172 rfl dX11_isStaleSource_21 ?_
      refine lv_iconst (v := 3) hx hb dX11_isStaleSource_24 (by decide) ?_
      refine lv_icmp_lt (tgt := 32) hx hb dX11_isStaleSource_25 (by decide) (fun c9 => ?_) (fun c9 => ?_)
      · rw [if_pos c9] at hsp
        refine lv_iconst (v := 0) hx hb dX11_isStaleSource_32 (by decide) ?_
        have e1 := fr_s1 hsp
        exact fr_zret C hr hlocks hR (Or.inl rfl) e1 rfl dX11_isStaleSource_33
      · rw [if_neg c9] at hsp
        refine lv_iconst (v := 1) hx hb dX11_isStaleSource_28 (by decide) ?_
        refine lv_goto (tgt := 33) hx hb dX11_isStaleSource_29 (by decide) ?_
        have e1 := fr_s1 hsp
        exact fr_zret C hr hlocks hR (Or.inr rfl) e1 rfl dX11_isStaleSource_33

/-! TermRows.placesAlike(LTermRows$Row;LTermRows$Row;)I -/
def z_X11_placesAlike_b2 (S : fh_S) : Nat → fh_H → Nat → Nat → Int32 → Option Int32
  | 0, _, _, _, _ => none
  | n + 1, h, y0, y1, y2 =>
    if (60 : Int32) ≤ y2 then (some y2) else (fh_ck (fh_kq S y0 6) (fh_b1 (z_X6_knows S h y0 y2) (fun r3 => if r3 = 0 then (some y2) else (fh_ck (fh_kq S y1 6) (fh_b1 (z_X6_knows S h y1 y2) (fun r7 => if r7 = 0 then (some y2) else (fh_b1 (z_X6_termAt S h y0 y2) (fun r10 => fh_b1 (z_X6_termAt S h y1 y2) (fun r12 => if r10 = r12 then (fh_let (y2 + 1) (fun v15 => z_X11_placesAlike_b2 S n h y0 y1 v15)) else (some y2))))))))))
def z_X11_placesAlike (S : fh_S) (h : fh_H) (x0 : Nat) (x1 : Nat) : Option Int32 :=
    z_X11_placesAlike_b2 S 20000 h x0 x1 (0 : Int32)
set_option maxHeartbeats 4000000 in
set_option maxRecDepth 100000 in
theorem k_X11_placesAlike {l : Launch} {S : fh_S} {g : fh_G} {h : fh_H} (hj : fh_inj S g) {x0 : Nat} {x1 : Nat} {r : Int32} (k_x0 : fh_kq S x0 6 = true) (k_x1 : fh_kq S x1 6 = true) (hsp : z_X11_placesAlike S h x0 x1 = some r) : fh_M l yX11_placesAlike cX11_placesAlike 3 (some .int) (fh_rm 2) S g [.ref (g.2.2 x0), .ref (g.2.2 x1)] h (some (.int r)) h := by
  unfold z_X11_placesAlike at hsp
  refine fr_head (own := RX11) (by decide) rfl hj (Nat.le_of_ble_eq_true rfl) ?_
  intro p e s m below meth c ls C hr hlocks hR hl
  have hl : lv_has ls 3 [(0, .ref (g.2.2 x0)), (1, .ref (g.2.2 x1))] := hl
  have hx := C.1.1
  have hb := C.1.2.1
  have hb_2 : ∀ (n : Nat) (y0 : Nat) (y1 : Nat) (y2 : Int32) (H : Heap) (locs : List Loc) (ls : Array Slot), z_X11_placesAlike_b2 S n h y0 y1 y2 = some r → fh_R S g s.heap h H locs → lv_has ls 3 [(0, .ref (g.2.2 y0)), (1, .ref (g.2.2 y1)), (2, .int y2)] → fh_Wk p l e 2 s m [.ref (g.2.2 x0), .ref (g.2.2 x1)] below meth c S g (some (.int r)) h H locs (F0 m 2 ls []) := by
    intro n
    induction n with
    | zero => intro y0 y1 y2 H locs ls hsp; cases hsp
    | succ n ih =>
      intro y0 y1 y2 H locs ls hsp hR hl
      rw [z_X11_placesAlike_b2] at hsp
      refine lv_iload_n hx hb dX11_placesAlike_2 rfl (lv_at hl 2 rfl) ?_
      refine lv_bipush (v := 60) hx hb dX11_placesAlike_3 (by decide) ?_
      refine lv_icmp_ge (tgt := 43) hx hb dX11_placesAlike_5 (by decide) (fun c1 => ?_) (fun c1 => ?_)
      · rw [if_pos c1] at hsp
        refine lv_iload_n hx hb dX11_placesAlike_43 rfl (lv_at hl 2 rfl) ?_
        have e1 := fr_s1 hsp
        exact fr_iret C hr hlocks hR e1 rfl dX11_placesAlike_44
      · rw [if_neg c1] at hsp
        refine lv_aload_n hx hb dX11_placesAlike_8 rfl (lv_at hl 0 rfl) ?_
        refine lv_iload_n hx hb dX11_placesAlike_9 rfl (lv_at hl 2 rfl) ?_
        obtain ⟨hk2, hsp⟩ := fr_ck hsp
        obtain ⟨r3, E4, hsp⟩ := fr_b1 hsp
        refine fq_callV (rest := []) (st1 := [.int r3]) C hR (k_X6_knows C.2.2 hk2 E4) Y_X6_knows YV_X6_knows Lk_RX11_257 hk2 ⟨_, _, rfl, by decide⟩ rfl hl.1 ⟨Nat.le_of_ble_eq_true rfl, Nat.le_of_ble_eq_true rfl⟩ rfl (Nat.le_of_ble_eq_true rfl) ⟨Nat.zero_le _, Nat.zero_le _⟩ rfl dX11_placesAlike_10 (fun H locs hR => ?_)
        refine lv_if_eq (tgt := 43) hx hb dX11_placesAlike_13 (by decide) (fun c5 => ?_) (fun c5 => ?_)
        · rw [if_pos c5] at hsp
          refine lv_iload_n hx hb dX11_placesAlike_43 rfl (lv_at hl 2 rfl) ?_
          have e1 := fr_s1 hsp
          exact fr_iret C hr hlocks hR e1 rfl dX11_placesAlike_44
        · rw [if_neg c5] at hsp
          refine lv_aload_n hx hb dX11_placesAlike_16 rfl (lv_at hl 1 rfl) ?_
          refine lv_iload_n hx hb dX11_placesAlike_17 rfl (lv_at hl 2 rfl) ?_
          obtain ⟨hk6, hsp⟩ := fr_ck hsp
          obtain ⟨r7, E8, hsp⟩ := fr_b1 hsp
          refine fq_callV (rest := []) (st1 := [.int r7]) C hR (k_X6_knows C.2.2 hk6 E8) Y_X6_knows YV_X6_knows Lk_RX11_257 hk6 ⟨_, _, rfl, by decide⟩ rfl hl.1 ⟨Nat.le_of_ble_eq_true rfl, Nat.le_of_ble_eq_true rfl⟩ rfl (Nat.le_of_ble_eq_true rfl) ⟨Nat.zero_le _, Nat.zero_le _⟩ rfl dX11_placesAlike_18 (fun H locs hR => ?_)
          refine lv_if_eq (tgt := 43) hx hb dX11_placesAlike_21 (by decide) (fun c9 => ?_) (fun c9 => ?_)
          · rw [if_pos c9] at hsp
            refine lv_iload_n hx hb dX11_placesAlike_43 rfl (lv_at hl 2 rfl) ?_
            have e1 := fr_s1 hsp
            exact fr_iret C hr hlocks hR e1 rfl dX11_placesAlike_44
          · rw [if_neg c9] at hsp
            refine lv_aload_n hx hb dX11_placesAlike_24 rfl (lv_at hl 0 rfl) ?_
            refine lv_iload_n hx hb dX11_placesAlike_25 rfl (lv_at hl 2 rfl) ?_
            obtain ⟨r10, E11, hsp⟩ := fr_b1 hsp
            refine fq_callV (rest := []) (st1 := [.int r10]) C hR (k_X6_termAt C.2.2 hk2 E11) Y_X6_termAt YV_X6_termAt Lk_RX11_200 hk2 ⟨_, _, rfl, by decide⟩ rfl hl.1 ⟨Nat.le_of_ble_eq_true rfl, Nat.le_of_ble_eq_true rfl⟩ rfl (Nat.le_of_ble_eq_true rfl) ⟨Nat.zero_le _, Nat.zero_le _⟩ rfl dX11_placesAlike_26 (fun H locs hR => ?_)
            refine lv_aload_n hx hb dX11_placesAlike_29 rfl (lv_at hl 1 rfl) ?_
            refine lv_iload_n hx hb dX11_placesAlike_30 rfl (lv_at hl 2 rfl) ?_
            obtain ⟨r12, E13, hsp⟩ := fr_b1 hsp
            refine fq_callV (rest := [.int r10]) (st1 := [.int r12, .int r10]) C hR (k_X6_termAt C.2.2 hk6 E13) Y_X6_termAt YV_X6_termAt Lk_RX11_200 hk6 ⟨_, _, rfl, by decide⟩ rfl hl.1 ⟨Nat.le_of_ble_eq_true rfl, Nat.le_of_ble_eq_true rfl⟩ rfl (Nat.le_of_ble_eq_true rfl) ⟨Nat.zero_le _, Nat.zero_le _⟩ rfl dX11_placesAlike_31 (fun H locs hR => ?_)
            refine lv_icmp_ne (tgt := 43) hx hb dX11_placesAlike_34 (by decide) (fun c14 => ?_) (fun c14 => ?_)
            · rw [if_neg c14] at hsp
              refine lv_iload_n hx hb dX11_placesAlike_43 rfl (lv_at hl 2 rfl) ?_
              have e1 := fr_s1 hsp
              exact fr_iret C hr hlocks hR e1 rfl dX11_placesAlike_44
            · rw [if_pos c14] at hsp
              obtain ⟨v15, ev15⟩ : ∃ z : Int32, z = y2 + 1 := ⟨_, rfl⟩
              have hsp := fr_let ev15 hsp
              refine lv_iinc (v := v15) (lv' := [(2, .int v15), (0, .ref (g.2.2 y0)), (1, .ref (g.2.2 y1))]) hx hb dX11_placesAlike_37 hl (k := 2) rfl (by rw [ev15]; rfl) (by decide) rfl (fun ls hl => ?_)
              refine lv_goto (tgt := 2) hx hb dX11_placesAlike_40 (by decide) ?_
              exact ih y0 y1 v15 _ _ _ hsp hR (lv_sub hl [1, 2, 0] rfl)
  refine lv_iconst (v := 0) hx hb dX11_placesAlike_0 (by decide) ?_
  refine lv_istore_n (lv' := [(2, .int (0 : Int32)), (0, .ref (g.2.2 x0)), (1, .ref (g.2.2 x1))]) hx hb dX11_placesAlike_1 rfl hl (by decide) rfl (fun ls hl => ?_)
  exact hb_2 20000 x0 x1 (0 : Int32) _ _ _ hsp hR (lv_sub hl [1, 2, 0] rfl)

/-! TermRows.alikeFrom(LTermRows$Row;LTermRows$Row;I)I -/
def z_X11_alikeFrom_b10 (S : fh_S) : Nat → fh_H → Nat → Nat → Int32 → Int32 → Option Int32
  | 0, _, _, _, _, _ => none
  | n + 1, h, y0, y1, y2, y3 =>
    if y3 ≤ 0 then (some y3) else (if y3 ≤ y2 then (some y3) else (fh_ck (fh_kq S y0 6) (fh_b1 (z_X6_termAt S h y0 (y3 - (1 : Int32))) (fun r4 => fh_ck (fh_kq S y1 6) (fh_b1 (z_X6_termAt S h y1 ((y3 - (1 : Int32)) - y2)) (fun r7 => if r4 = r7 then (fh_let (y3 + (-1)) (fun v10 => z_X11_alikeFrom_b10 S n h y0 y1 y2 v10)) else (some y3)))))))
def z_X11_alikeFrom (S : fh_S) (h : fh_H) (x0 : Nat) (x1 : Nat) (x2 : Int32) : Option Int32 :=
    fh_b1 (z_J9_min_7cf53 (60 : Int32) ((60 : Int32) + x2)) (fun r1 => z_X11_alikeFrom_b10 S 20000 h x0 x1 x2 r1)
set_option maxHeartbeats 4000000 in
set_option maxRecDepth 100000 in
theorem k_X11_alikeFrom {l : Launch} {S : fh_S} {g : fh_G} {h : fh_H} (hj : fh_inj S g) {x0 : Nat} {x1 : Nat} {x2 : Int32} {r : Int32} (k_x0 : fh_kq S x0 6 = true) (k_x1 : fh_kq S x1 6 = true) (hsp : z_X11_alikeFrom S h x0 x1 x2 = some r) : fh_M l yX11_alikeFrom cX11_alikeFrom 4 (some .int) (fh_rm 2) S g [.ref (g.2.2 x0), .ref (g.2.2 x1), .int x2] h (some (.int r)) h := by
  unfold z_X11_alikeFrom at hsp
  refine fr_head (own := RX11) (by decide) rfl hj (Nat.le_of_ble_eq_true rfl) ?_
  intro p e s m below meth c ls C hr hlocks hR hl
  have hl : lv_has ls 4 [(0, .ref (g.2.2 x0)), (1, .ref (g.2.2 x1)), (2, .int x2)] := hl
  have hx := C.1.1
  have hb := C.1.2.1
  have hb_10 : ∀ (n : Nat) (y0 : Nat) (y1 : Nat) (y2 : Int32) (y3 : Int32) (H : Heap) (locs : List Loc) (ls : Array Slot), z_X11_alikeFrom_b10 S n h y0 y1 y2 y3 = some r → fh_R S g s.heap h H locs → lv_has ls 4 [(0, .ref (g.2.2 y0)), (1, .ref (g.2.2 y1)), (2, .int y2), (3, .int y3)] → fh_Wk p l e 2 s m [.ref (g.2.2 x0), .ref (g.2.2 x1), .int x2] below meth c S g (some (.int r)) h H locs (F0 m 10 ls []) := by
    intro n
    induction n with
    | zero => intro y0 y1 y2 y3 H locs ls hsp; cases hsp
    | succ n ih =>
      intro y0 y1 y2 y3 H locs ls hsp hR hl
      rw [z_X11_alikeFrom_b10] at hsp
      refine lv_iload_n hx hb dX11_alikeFrom_10 rfl (lv_at hl 3 rfl) ?_
      refine lv_if_le (tgt := 44) hx hb dX11_alikeFrom_11 (by decide) (fun c1 => ?_) (fun c1 => ?_)
      · rw [if_pos c1] at hsp
        refine lv_iload_n hx hb dX11_alikeFrom_44 rfl (lv_at hl 3 rfl) ?_
        have e1 := fr_s1 hsp
        exact fr_iret C hr hlocks hR e1 rfl dX11_alikeFrom_45
      · rw [if_neg c1] at hsp
        refine lv_iload_n hx hb dX11_alikeFrom_14 rfl (lv_at hl 3 rfl) ?_
        refine lv_iload_n hx hb dX11_alikeFrom_15 rfl (lv_at hl 2 rfl) ?_
        refine lv_icmp_le (tgt := 44) hx hb dX11_alikeFrom_16 (by decide) (fun c2 => ?_) (fun c2 => ?_)
        · rw [if_pos c2] at hsp
          refine lv_iload_n hx hb dX11_alikeFrom_44 rfl (lv_at hl 3 rfl) ?_
          have e1 := fr_s1 hsp
          exact fr_iret C hr hlocks hR e1 rfl dX11_alikeFrom_45
        · rw [if_neg c2] at hsp
          refine lv_aload_n hx hb dX11_alikeFrom_19 rfl (lv_at hl 0 rfl) ?_
          refine lv_iload_n hx hb dX11_alikeFrom_20 rfl (lv_at hl 3 rfl) ?_
          refine lv_iconst (v := 1) hx hb dX11_alikeFrom_21 (by decide) ?_
          refine lv_isub hx hb dX11_alikeFrom_22 ?_
          obtain ⟨hk3, hsp⟩ := fr_ck hsp
          obtain ⟨r4, E5, hsp⟩ := fr_b1 hsp
          refine fq_callV (rest := []) (st1 := [.int r4]) C hR (k_X6_termAt C.2.2 hk3 E5) Y_X6_termAt YV_X6_termAt Lk_RX11_200 hk3 ⟨_, _, rfl, by decide⟩ rfl hl.1 ⟨Nat.le_of_ble_eq_true rfl, Nat.le_of_ble_eq_true rfl⟩ rfl (Nat.le_of_ble_eq_true rfl) ⟨Nat.zero_le _, Nat.zero_le _⟩ rfl dX11_alikeFrom_23 (fun H locs hR => ?_)
          refine lv_aload_n hx hb dX11_alikeFrom_26 rfl (lv_at hl 1 rfl) ?_
          refine lv_iload_n hx hb dX11_alikeFrom_27 rfl (lv_at hl 3 rfl) ?_
          refine lv_iconst (v := 1) hx hb dX11_alikeFrom_28 (by decide) ?_
          refine lv_isub hx hb dX11_alikeFrom_29 ?_
          refine lv_iload_n hx hb dX11_alikeFrom_30 rfl (lv_at hl 2 rfl) ?_
          refine lv_isub hx hb dX11_alikeFrom_31 ?_
          obtain ⟨hk6, hsp⟩ := fr_ck hsp
          obtain ⟨r7, E8, hsp⟩ := fr_b1 hsp
          refine fq_callV (rest := [.int r4]) (st1 := [.int r7, .int r4]) C hR (k_X6_termAt C.2.2 hk6 E8) Y_X6_termAt YV_X6_termAt Lk_RX11_200 hk6 ⟨_, _, rfl, by decide⟩ rfl hl.1 ⟨Nat.le_of_ble_eq_true rfl, Nat.le_of_ble_eq_true rfl⟩ rfl (Nat.le_of_ble_eq_true rfl) ⟨Nat.zero_le _, Nat.zero_le _⟩ rfl dX11_alikeFrom_32 (fun H locs hR => ?_)
          refine lv_icmp_ne (tgt := 44) hx hb dX11_alikeFrom_35 (by decide) (fun c9 => ?_) (fun c9 => ?_)
          · rw [if_neg c9] at hsp
            refine lv_iload_n hx hb dX11_alikeFrom_44 rfl (lv_at hl 3 rfl) ?_
            have e1 := fr_s1 hsp
            exact fr_iret C hr hlocks hR e1 rfl dX11_alikeFrom_45
          · rw [if_pos c9] at hsp
            obtain ⟨v10, ev10⟩ : ∃ z : Int32, z = y3 + (-1) := ⟨_, rfl⟩
            have hsp := fr_let ev10 hsp
            refine lv_iinc (v := v10) (lv' := [(3, .int v10), (0, .ref (g.2.2 y0)), (1, .ref (g.2.2 y1)), (2, .int y2)]) hx hb dX11_alikeFrom_38 hl (k := 3) rfl (by rw [ev10]; rfl) (by decide) rfl (fun ls hl => ?_)
            refine lv_goto (tgt := 10) hx hb dX11_alikeFrom_41 (by decide) ?_
            exact ih y0 y1 y2 v10 _ _ _ hsp hR (lv_sub hl [1, 2, 3, 0] rfl)
  refine lv_bipush (v := 60) hx hb dX11_alikeFrom_0 (by decide) ?_
  refine lv_bipush (v := 60) hx hb dX11_alikeFrom_2 (by decide) ?_
  refine lv_iload_n hx hb dX11_alikeFrom_4 rfl (lv_at hl 2 rfl) ?_
  refine lv_iadd hx hb dX11_alikeFrom_5 ?_
  obtain ⟨r1, E2, hsp⟩ := fr_b1 hsp
  refine fq_callS (rest := []) (st1 := [.int r1]) C hR (k_J9_min_7cf53 C.2.2 E2) Y_J9_min_7cf53 YS_J9_min_7cf53 Lk_RX11_408 rfl hl.1 ⟨Nat.le_of_ble_eq_true rfl, Nat.le_of_ble_eq_true rfl⟩ rfl (Nat.le_of_ble_eq_true rfl) ⟨Nat.zero_le _, Nat.zero_le _⟩ rfl dX11_alikeFrom_6 (fun H locs hR => ?_)
  refine lv_istore_n (lv' := [(3, .int r1), (0, .ref (g.2.2 x0)), (1, .ref (g.2.2 x1)), (2, .int x2)]) hx hb dX11_alikeFrom_9 rfl hl (by decide) rfl (fun ls hl => ?_)
  exact hb_10 20000 x0 x1 x2 r1 _ _ _ hsp hR (lv_sub hl [1, 2, 3, 0] rfl)

/-! TermRows$Ladder.climb(LTermRows$Row;I)V -/
def z_X2_climb_b6 (S : fh_S) (a : Nat) : Nat → fh_H → Nat → Int32 → Int32 → Option fh_H
  | 0, _, _, _, _ => none
  | n + 1, h, y1, y2, y3 =>
    if y2 < y3 then (some h) else (if (60 : Int32) ≤ y3 then (some h) else (fh_ck (fh_kq S y1 6) (fh_b1 (z_X6_termAt S h y1 y3) (fun r4 => fh_b1 (z_X2_climbOne S h a r4) (fun h6 => fh_let (y3 + 1) (fun v8 => z_X2_climb_b6 S a n h6 y1 y2 v8))))))
def z_X2_climb (S : fh_S) (h : fh_H) (a : Nat) (x1 : Nat) (x2 : Int32) : Option fh_H :=
    fh_b1 (z_X2_start S h a) (fun h1 => z_X2_climb_b6 S a 20000 h1 x1 x2 (0 : Int32))
set_option maxHeartbeats 4000000 in
set_option maxRecDepth 100000 in
theorem k_X2_climb {l : Launch} {S : fh_S} {g : fh_G} {h h' : fh_H} (hj : fh_inj S g) {a : Nat} {x1 : Nat} {x2 : Int32} (ha : fh_kq S a 2 = true) (k_x1 : fh_kq S x1 6 = true) (hsp : z_X2_climb S h a x1 x2 = some h') : fh_M l yX2_climb cX2_climb 4 none (fh_rm 3) S g [.ref (g.2.2 a), .ref (g.2.2 x1), .int x2] h none h' := by
  unfold z_X2_climb at hsp
  refine fr_head (own := RX2) (by decide) rfl hj (Nat.le_of_ble_eq_true rfl) ?_
  intro p e s m below meth c ls C hr hlocks hR hl
  have hl : lv_has ls 4 [(0, .ref (g.2.2 a)), (1, .ref (g.2.2 x1)), (2, .int x2)] := hl
  have hx := C.1.1
  have hb := C.1.2.1
  have hb_6 : ∀ (n : Nat) (h : fh_H) (y1 : Nat) (y2 : Int32) (y3 : Int32) (H : Heap) (locs : List Loc) (ls : Array Slot), z_X2_climb_b6 S a n h y1 y2 y3 = some h' → fh_R S g s.heap h H locs → lv_has ls 4 [(0, .ref (g.2.2 a)), (1, .ref (g.2.2 y1)), (2, .int y2), (3, .int y3)] → fh_Wk p l e 3 s m [.ref (g.2.2 a), .ref (g.2.2 x1), .int x2] below meth c S g none h' H locs (F0 m 6 ls []) := by
    intro n
    induction n with
    | zero => intro h y1 y2 y3 H locs ls hsp; cases hsp
    | succ n ih =>
      intro h y1 y2 y3 H locs ls hsp hR hl
      rw [z_X2_climb_b6] at hsp
      refine lv_iload_n hx hb dX2_climb_6 rfl (lv_at hl 3 rfl) ?_
      refine lv_iload_n hx hb dX2_climb_7 rfl (lv_at hl 2 rfl) ?_
      refine lv_icmp_gt (tgt := 32) hx hb dX2_climb_8 (by decide) (fun c1 => ?_) (fun c1 => ?_)
      · rw [if_pos c1] at hsp
        exact fr_vret C hr hlocks hR (fr_s1 hsp) dX2_climb_32
      · rw [if_neg c1] at hsp
        refine lv_iload_n hx hb dX2_climb_11 rfl (lv_at hl 3 rfl) ?_
        refine lv_bipush (v := 60) hx hb dX2_climb_12 (by decide) ?_
        refine lv_icmp_ge (tgt := 32) hx hb dX2_climb_14 (by decide) (fun c2 => ?_) (fun c2 => ?_)
        · rw [if_pos c2] at hsp
          exact fr_vret C hr hlocks hR (fr_s1 hsp) dX2_climb_32
        · rw [if_neg c2] at hsp
          refine lv_aload_n hx hb dX2_climb_17 rfl (lv_at hl 0 rfl) ?_
          refine lv_aload_n hx hb dX2_climb_18 rfl (lv_at hl 1 rfl) ?_
          refine lv_iload_n hx hb dX2_climb_19 rfl (lv_at hl 3 rfl) ?_
          obtain ⟨hk3, hsp⟩ := fr_ck hsp
          obtain ⟨r4, E5, hsp⟩ := fr_b1 hsp
          refine fq_callV (rest := [.ref (g.2.2 a)]) (st1 := [.int r4, .ref (g.2.2 a)]) C hR (k_X6_termAt C.2.2 hk3 E5) Y_X6_termAt YV_X6_termAt Lk_RX2_31 hk3 ⟨_, _, rfl, by decide⟩ rfl hl.1 ⟨Nat.le_of_ble_eq_true rfl, Nat.le_of_ble_eq_true rfl⟩ rfl (Nat.le_of_ble_eq_true rfl) ⟨Nat.zero_le _, Nat.zero_le _⟩ rfl dX2_climb_20 (fun H locs hR => ?_)
          obtain ⟨h6, E7, hsp⟩ := fr_b1 hsp
          refine fq_callV (rest := []) (st1 := []) C hR (k_X2_climbOne C.2.2 ha E7) Y_X2_climbOne YV_X2_climbOne Lk_RX2_37 ha ⟨_, _, rfl, by decide⟩ rfl hl.1 ⟨Nat.le_of_ble_eq_true rfl, Nat.le_of_ble_eq_true rfl⟩ rfl (Nat.le_of_ble_eq_true rfl) ⟨Nat.zero_le _, Nat.zero_le _⟩ rfl dX2_climb_23 (fun H locs hR => ?_)
          obtain ⟨v8, ev8⟩ : ∃ z : Int32, z = y3 + 1 := ⟨_, rfl⟩
          have hsp := fr_let ev8 hsp
          refine lv_iinc (v := v8) (lv' := [(3, .int v8), (0, .ref (g.2.2 a)), (1, .ref (g.2.2 y1)), (2, .int y2)]) hx hb dX2_climb_26 hl (k := 3) rfl (by rw [ev8]; rfl) (by decide) rfl (fun ls hl => ?_)
          refine lv_goto (tgt := 6) hx hb dX2_climb_29 (by decide) ?_
          exact ih h6 y1 y2 v8 _ _ _ hsp hR (lv_sub hl [1, 2, 3, 0] rfl)
  refine lv_aload_n hx hb dX2_climb_0 rfl (lv_at hl 0 rfl) ?_
  obtain ⟨h1, E2, hsp⟩ := fr_b1 hsp
  refine fq_callV (rest := []) (st1 := []) C hR (k_X2_start C.2.2 ha E2) Y_X2_start YV_X2_start Lk_RX2_28 ha ⟨_, _, rfl, by decide⟩ rfl hl.1 ⟨Nat.le_of_ble_eq_true rfl, Nat.le_of_ble_eq_true rfl⟩ rfl (Nat.le_of_ble_eq_true rfl) ⟨Nat.zero_le _, Nat.zero_le _⟩ rfl dX2_climb_1 (fun H locs hR => ?_)
  refine lv_iconst (v := 0) hx hb dX2_climb_4 (by decide) ?_
  refine lv_istore_n (lv' := [(3, .int (0 : Int32)), (0, .ref (g.2.2 a)), (1, .ref (g.2.2 x1)), (2, .int x2)]) hx hb dX2_climb_5 rfl hl (by decide) rfl (fun ls hl => ?_)
  exact hb_6 20000 h1 x1 x2 (0 : Int32) _ _ _ hsp hR (lv_sub hl [1, 2, 3, 0] rfl)

/-! TermRows$Question.parseValueCode()I -/
def z_X4_parseValueCode_b4 (S : fh_S) (a : Nat) : Nat → fh_H → Int32 → Option (Int32 × fh_H)
  | 0, _, _ => none
  | n + 1, h, y1 =>
    if (267 : Int32) < y1 then (some ((256 : Int32), h)) else (fh_b1 (h.2.2 a 0) (fun j2 => fh_ck (fh_kq S j2 10) (fh_b2 (z_X10_take S h j2 y1) (fun r5 h6 => if r5 = 0 then (fh_let (y1 + 1) (fun v9 => z_X4_parseValueCode_b4 S a n h6 v9)) else (some (y1, h6))))))
def z_X4_parseValueCode (S : fh_S) (h : fh_H) (a : Nat) : Option (Int32 × fh_H) :=
    z_X4_parseValueCode_b4 S a 20000 h (263 : Int32)
set_option maxHeartbeats 4000000 in
set_option maxRecDepth 100000 in
theorem k_X4_parseValueCode {l : Launch} {S : fh_S} {g : fh_G} {h h' : fh_H} (hj : fh_inj S g) {a : Nat} {r : Int32} (ha : fh_kq S a 4 = true) (hsp : z_X4_parseValueCode S h a = some (r, h')) : fh_M l yX4_parseValueCode cX4_parseValueCode 2 (some .int) (fh_rm 3) S g [.ref (g.2.2 a)] h (some (.int r)) h' := by
  unfold z_X4_parseValueCode at hsp
  refine fr_head (own := RX4) (by decide) rfl hj (Nat.le_of_ble_eq_true rfl) ?_
  intro p e s m below meth c ls C hr hlocks hR hl
  have hl : lv_has ls 2 [(0, .ref (g.2.2 a))] := hl
  have hx := C.1.1
  have hb := C.1.2.1
  have hb_4 : ∀ (n : Nat) (h : fh_H) (y1 : Int32) (H : Heap) (locs : List Loc) (ls : Array Slot), z_X4_parseValueCode_b4 S a n h y1 = some (r, h') → fh_R S g s.heap h H locs → lv_has ls 2 [(0, .ref (g.2.2 a)), (1, .int y1)] → fh_Wk p l e 3 s m [.ref (g.2.2 a)] below meth c S g (some (.int r)) h' H locs (F0 m 4 ls []) := by
    intro n
    induction n with
    | zero => intro h y1 H locs ls hsp; cases hsp
    | succ n ih =>
      intro h y1 H locs ls hsp hR hl
      rw [z_X4_parseValueCode_b4] at hsp
      refine lv_iload_n hx hb dX4_parseValueCode_4 rfl (lv_at hl 1 rfl) ?_
      refine lv_sipush (v := 267) hx hb dX4_parseValueCode_5 (by decide) ?_
      refine lv_icmp_gt (tgt := 30) hx hb dX4_parseValueCode_8 (by decide) (fun c1 => ?_) (fun c1 => ?_)
      · rw [if_pos c1] at hsp
        refine lv_sipush (v := 256) hx hb dX4_parseValueCode_30 (by decide) ?_
        obtain ⟨e1, e2⟩ := fr_s2 hsp
        exact fr_iret C hr hlocks hR e1 e2 dX4_parseValueCode_33
      · rw [if_neg c1] at hsp
        refine lv_aload_n hx hb dX4_parseValueCode_11 rfl (lv_at hl 0 rfl) ?_
        obtain ⟨j2, hv3, hsp⟩ := fr_b1 hsp
        refine fr_getr C hR ha Fg_RX4_9 rfl hv3 dX4_parseValueCode_12 ?_
        refine lv_iload_n hx hb dX4_parseValueCode_15 rfl (lv_at hl 1 rfl) ?_
        obtain ⟨hk4, hsp⟩ := fr_ck hsp
        obtain ⟨r5, h6, E7, hsp⟩ := fr_b2 hsp
        refine fq_callV (rest := []) (st1 := [.int r5]) C hR (k_X10_take C.2.2 hk4 E7) Y_X10_take YV_X10_take Lk_RX4_37 hk4 ⟨_, _, rfl, by decide⟩ rfl hl.1 ⟨Nat.le_of_ble_eq_true rfl, Nat.le_of_ble_eq_true rfl⟩ rfl (Nat.le_of_ble_eq_true rfl) ⟨Nat.zero_le _, Nat.zero_le _⟩ rfl dX4_parseValueCode_16 (fun H locs hR => ?_)
        refine lv_if_eq (tgt := 24) hx hb dX4_parseValueCode_19 (by decide) (fun c8 => ?_) (fun c8 => ?_)
        · rw [if_pos c8] at hsp
          obtain ⟨v9, ev9⟩ : ∃ z : Int32, z = y1 + 1 := ⟨_, rfl⟩
          have hsp := fr_let ev9 hsp
          refine lv_iinc (v := v9) (lv' := [(1, .int v9), (0, .ref (g.2.2 a))]) hx hb dX4_parseValueCode_24 hl (k := 1) rfl (by rw [ev9]; rfl) (by decide) rfl (fun ls hl => ?_)
          refine lv_goto (tgt := 4) hx hb dX4_parseValueCode_27 (by decide) ?_
          exact ih h6 v9 _ _ _ hsp hR (lv_sub hl [1, 0] rfl)
        · rw [if_neg c8] at hsp
          refine lv_iload_n hx hb dX4_parseValueCode_22 rfl (lv_at hl 1 rfl) ?_
          obtain ⟨e1, e2⟩ := fr_s2 hsp
          exact fr_iret C hr hlocks hR e1 e2 dX4_parseValueCode_23
  refine lv_sipush (v := 263) hx hb dX4_parseValueCode_0 (by decide) ?_
  refine lv_istore_n (lv' := [(1, .int (263 : Int32)), (0, .ref (g.2.2 a))]) hx hb dX4_parseValueCode_3 rfl hl (by decide) rfl (fun ls hl => ?_)
  exact hb_4 20000 h (263 : Int32) _ _ _ hsp hR (lv_sub hl [1, 0] rfl)

/-! TermRows$Question.parseCompareSign()I -/
def z_X4_parseCompareSign (S : fh_S) (h : fh_H) (a : Nat) : Option (Int32 × fh_H) :=
    fh_b1 (h.2.2 a 0) (fun j1 => fh_ck (fh_kq S j1 10) (fh_b2 (z_X10_take S h j1 (60 : Int32)) (fun r4 h5 => if r4 = 0 then (fh_b1 (h5.2.2 a 0) (fun j8 => fh_ck (fh_kq S j8 10) (fh_b2 (z_X10_take S h5 j8 (62 : Int32)) (fun r11 h12 => if r11 = 0 then (fh_b1 (h12.2.2 a 0) (fun j15 => fh_ck (fh_kq S j15 10) (fh_b2 (z_X10_take S h12 j15 (61 : Int32)) (fun r18 h19 => if r18 = 0 then (fh_b1 (h19.2.2 a 0) (fun j22 => fh_ck (fh_kq S j22 10) (fh_b1 (z_X10_fail S h19 j22 (1 : Int32)) (fun h25 => some ((0 : Int32), h25))))) else (some ((0 : Int32), h19)))))) else (some ((1 : Int32), h12)))))) else (some ((-1 : Int32), h5)))))
set_option maxHeartbeats 4000000 in
set_option maxRecDepth 100000 in
theorem k_X4_parseCompareSign {l : Launch} {S : fh_S} {g : fh_G} {h h' : fh_H} (hj : fh_inj S g) {a : Nat} {r : Int32} (ha : fh_kq S a 4 = true) (hsp : z_X4_parseCompareSign S h a = some (r, h')) : fh_M l yX4_parseCompareSign cX4_parseCompareSign 1 (some .int) (fh_rm 3) S g [.ref (g.2.2 a)] h (some (.int r)) h' := by
  unfold z_X4_parseCompareSign at hsp
  refine fr_head (own := RX4) (by decide) rfl hj (Nat.le_of_ble_eq_true rfl) ?_
  intro p e s m below meth c ls C hr hlocks hR hl
  have hl : lv_has ls 1 [(0, .ref (g.2.2 a))] := hl
  have hx := C.1.1
  have hb := C.1.2.1
  refine lv_aload_n hx hb dX4_parseCompareSign_0 rfl (lv_at hl 0 rfl) ?_
  obtain ⟨j1, hv2, hsp⟩ := fr_b1 hsp
  refine fr_getr C hR ha Fg_RX4_9 rfl hv2 dX4_parseCompareSign_1 ?_
  refine lv_bipush (v := 60) hx hb dX4_parseCompareSign_4 (by decide) ?_
  obtain ⟨hk3, hsp⟩ := fr_ck hsp
  obtain ⟨r4, h5, E6, hsp⟩ := fr_b2 hsp
  refine fq_callV (rest := []) (st1 := [.int r4]) C hR (k_X10_take C.2.2 hk3 E6) Y_X10_take YV_X10_take Lk_RX4_37 hk3 ⟨_, _, rfl, by decide⟩ rfl hl.1 ⟨Nat.le_of_ble_eq_true rfl, Nat.le_of_ble_eq_true rfl⟩ rfl (Nat.le_of_ble_eq_true rfl) ⟨Nat.zero_le _, Nat.zero_le _⟩ rfl dX4_parseCompareSign_6 (fun H locs hR => ?_)
  refine lv_if_eq (tgt := 14) hx hb dX4_parseCompareSign_9 (by decide) (fun c7 => ?_) (fun c7 => ?_)
  · rw [if_pos c7] at hsp
    refine lv_aload_n hx hb dX4_parseCompareSign_14 rfl (lv_at hl 0 rfl) ?_
    obtain ⟨j8, hv9, hsp⟩ := fr_b1 hsp
    refine fr_getr C hR ha Fg_RX4_9 rfl hv9 dX4_parseCompareSign_15 ?_
    refine lv_bipush (v := 62) hx hb dX4_parseCompareSign_18 (by decide) ?_
    obtain ⟨hk10, hsp⟩ := fr_ck hsp
    obtain ⟨r11, h12, E13, hsp⟩ := fr_b2 hsp
    refine fq_callV (rest := []) (st1 := [.int r11]) C hR (k_X10_take C.2.2 hk10 E13) Y_X10_take YV_X10_take Lk_RX4_37 hk10 ⟨_, _, rfl, by decide⟩ rfl hl.1 ⟨Nat.le_of_ble_eq_true rfl, Nat.le_of_ble_eq_true rfl⟩ rfl (Nat.le_of_ble_eq_true rfl) ⟨Nat.zero_le _, Nat.zero_le _⟩ rfl dX4_parseCompareSign_20 (fun H locs hR => ?_)
    refine lv_if_eq (tgt := 28) hx hb dX4_parseCompareSign_23 (by decide) (fun c14 => ?_) (fun c14 => ?_)
    · rw [if_pos c14] at hsp
      refine lv_aload_n hx hb dX4_parseCompareSign_28 rfl (lv_at hl 0 rfl) ?_
      obtain ⟨j15, hv16, hsp⟩ := fr_b1 hsp
      refine fr_getr C hR ha Fg_RX4_9 rfl hv16 dX4_parseCompareSign_29 ?_
      refine lv_bipush (v := 61) hx hb dX4_parseCompareSign_32 (by decide) ?_
      obtain ⟨hk17, hsp⟩ := fr_ck hsp
      obtain ⟨r18, h19, E20, hsp⟩ := fr_b2 hsp
      refine fq_callV (rest := []) (st1 := [.int r18]) C hR (k_X10_take C.2.2 hk17 E20) Y_X10_take YV_X10_take Lk_RX4_37 hk17 ⟨_, _, rfl, by decide⟩ rfl hl.1 ⟨Nat.le_of_ble_eq_true rfl, Nat.le_of_ble_eq_true rfl⟩ rfl (Nat.le_of_ble_eq_true rfl) ⟨Nat.zero_le _, Nat.zero_le _⟩ rfl dX4_parseCompareSign_34 (fun H locs hR => ?_)
      refine lv_if_ne (tgt := 48) hx hb dX4_parseCompareSign_37 (by decide) (fun c21 => ?_) (fun c21 => ?_)
      · rw [if_neg c21] at hsp
        refine lv_iconst (v := 0) hx hb dX4_parseCompareSign_48 (by decide) ?_
        obtain ⟨e1, e2⟩ := fr_s2 hsp
        exact fr_iret C hr hlocks hR e1 e2 dX4_parseCompareSign_49
      · rw [if_pos c21] at hsp
        refine lv_aload_n hx hb dX4_parseCompareSign_40 rfl (lv_at hl 0 rfl) ?_
        obtain ⟨j22, hv23, hsp⟩ := fr_b1 hsp
        refine fr_getr C hR ha Fg_RX4_9 rfl hv23 dX4_parseCompareSign_41 ?_
        refine lv_iconst (v := 1) hx hb dX4_parseCompareSign_44 (by decide) ?_
        obtain ⟨hk24, hsp⟩ := fr_ck hsp
        obtain ⟨h25, E26, hsp⟩ := fr_b1 hsp
        refine fq_callV (rest := []) (st1 := []) C hR (k_X10_fail C.2.2 hk24 E26) Y_X10_fail YV_X10_fail Lk_RX4_72 hk24 ⟨_, _, rfl, by decide⟩ rfl hl.1 ⟨Nat.le_of_ble_eq_true rfl, Nat.le_of_ble_eq_true rfl⟩ rfl (Nat.le_of_ble_eq_true rfl) ⟨Nat.zero_le _, Nat.zero_le _⟩ rfl dX4_parseCompareSign_45 (fun H locs hR => ?_)
        refine lv_iconst (v := 0) hx hb dX4_parseCompareSign_48 (by decide) ?_
        obtain ⟨e1, e2⟩ := fr_s2 hsp
        exact fr_iret C hr hlocks hR e1 e2 dX4_parseCompareSign_49
    · rw [if_neg c14] at hsp
      refine lv_iconst (v := 1) hx hb dX4_parseCompareSign_26 (by decide) ?_
      obtain ⟨e1, e2⟩ := fr_s2 hsp
      exact fr_iret C hr hlocks hR e1 e2 dX4_parseCompareSign_27
  · rw [if_neg c7] at hsp
    refine lv_iconst (v := -1) hx hb dX4_parseCompareSign_12 (by decide) ?_
    obtain ⟨e1, e2⟩ := fr_s2 hsp
    exact fr_iret C hr hlocks hR e1 e2 dX4_parseCompareSign_13

/-! TermRows$Reckoner.letOut(LTermRows$Row;)I -/
def z_X5_letOut (S : fh_S) (h : fh_H) (a : Nat) (x1 : Nat) : Option (Int32 × fh_H) :=
    if (1000000000 : Int64) < (h.2.1 a 10) then (some ((2 : Int32), h)) else (if (-1000000000 : Int64) ≤ (h.2.1 a 10) then (fh_b1 (h.2.2 a 0) (fun j3 => fh_b1 (h.2.2 a 1) (fun j5 => fh_ck (fh_kq S j3 0) (fh_ck (fh_kq S j5 0) (fh_b1 (z_X0_subtract S h j3 (h.2.1 a 10) j5) (fun h9 => fh_b1 (h9.2.2 a 0) (fun j11 => fh_ck (fh_kq S j11 0) (fh_b1 (z_X0_isBeyond S h9 j11) (fun r14 => if r14 = 0 then (fh_nn (h9.2.2 a 1) (fh_let (fh_sR h9 a 0 none) (fun h19 => fh_let (fh_sR h19 a 1 (some j11)) (fun h20 => fh_b1 (z_X6_add S h20 x1 (Int64.toInt32 (h20.2.1 a 10)) (h20.1 a 4) (h20.1 a 5)) (fun h21 => fh_let (fh_sI h21 a 6 (0 : Int32)) (fun h23 => some ((4 : Int32), h23)))))) (fun j17 => fh_let (fh_sR h9 a 0 (some j17)) (fun h24 => fh_let (fh_sR h24 a 1 (some j11)) (fun h25 => fh_b1 (z_X6_add S h25 x1 (Int64.toInt32 (h25.2.1 a 10)) (h25.1 a 4) (h25.1 a 5)) (fun h26 => fh_let (fh_sI h26 a 6 (0 : Int32)) (fun h28 => some ((4 : Int32), h28))))))) else (some ((2 : Int32), h9))))))))))) else (some ((2 : Int32), h)))
set_option maxHeartbeats 4000000 in
set_option maxRecDepth 100000 in
theorem k_X5_letOut {l : Launch} {S : fh_S} {g : fh_G} {h h' : fh_H} (hj : fh_inj S g) {a : Nat} {x1 : Nat} {r : Int32} (ha : fh_kq S a 5 = true) (k_x1 : fh_kq S x1 6 = true) (hsp : z_X5_letOut S h a x1 = some (r, h')) : fh_M l yX5_letOut cX5_letOut 3 (some .int) (fh_rm 3) S g [.ref (g.2.2 a), .ref (g.2.2 x1)] h (some (.int r)) h' := by
  unfold z_X5_letOut at hsp
  refine fr_head (own := RX5) (by decide) rfl hj (Nat.le_of_ble_eq_true rfl) ?_
  intro p e s m below meth c ls C hr hlocks hR hl
  have hl : lv_has ls 3 [(0, .ref (g.2.2 a)), (1, .ref (g.2.2 x1))] := hl
  have hx := C.1.1
  have hb := C.1.2.1
  refine lv_aload_n hx hb dX5_letOut_0 rfl (lv_at hl 0 rfl) ?_
  refine fr_getj C hR ha Fg_RX5_103 rfl dX5_letOut_1 ?_
  refine lv_ldc2 hx hb C.1.2.2.2.1 (C.1.2.2.2.2 _ Kc_RX5_106) dX5_letOut_4 ?_
  refine fr_lc_gt (tgt := 22) hx hb dX5_letOut_7 dX5_letOut_8 (by decide) (fun c1 => ?_) (fun c1 => ?_)
  · rw [if_pos c1] at hsp
    refine lv_iconst (v := 2) hx hb dX5_letOut_22 (by decide) ?_
    obtain ⟨e1, e2⟩ := fr_s2 hsp
    exact fr_iret C hr hlocks hR e1 e2 dX5_letOut_23
  · rw [if_neg c1] at hsp
    refine lv_aload_n hx hb dX5_letOut_11 rfl (lv_at hl 0 rfl) ?_
    refine fr_getj C hR ha Fg_RX5_103 rfl dX5_letOut_12 ?_
    refine lv_ldc2 hx hb C.1.2.2.2.1 (C.1.2.2.2.2 _ Kc_RX5_108) dX5_letOut_15 ?_
    refine fr_lc_ge (tgt := 24) hx hb dX5_letOut_18 dX5_letOut_19 (by decide) (fun c2 => ?_) (fun c2 => ?_)
    · rw [if_pos c2] at hsp
      refine lv_aload_n hx hb dX5_letOut_24 rfl (lv_at hl 0 rfl) ?_
      obtain ⟨j3, hv4, hsp⟩ := fr_b1 hsp
      refine fr_getr C hR ha Fg_RX5_12 rfl hv4 dX5_letOut_25 ?_
      refine lv_aload_n hx hb dX5_letOut_28 rfl (lv_at hl 0 rfl) ?_
      refine fr_getj C hR ha Fg_RX5_103 rfl dX5_letOut_29 ?_
      refine lv_aload_n hx hb dX5_letOut_32 rfl (lv_at hl 0 rfl) ?_
      obtain ⟨j5, hv6, hsp⟩ := fr_b1 hsp
      refine fr_getr C hR ha Fg_RX5_18 rfl hv6 dX5_letOut_33 ?_
      obtain ⟨hk7, hsp⟩ := fr_ck hsp
      obtain ⟨hk8, hsp⟩ := fr_ck hsp
      obtain ⟨h9, E10, hsp⟩ := fr_b1 hsp
      refine fq_callV (rest := []) (st1 := []) C hR (k_X0_subtract C.2.2 hk7 hk8 E10) Y_X0_subtract YV_X0_subtract Lk_RX5_110 hk7 ⟨_, _, rfl, by decide⟩ rfl hl.1 ⟨Nat.le_of_ble_eq_true rfl, Nat.le_of_ble_eq_true rfl⟩ rfl (Nat.le_of_ble_eq_true rfl) ⟨Nat.zero_le _, Nat.zero_le _⟩ rfl dX5_letOut_36 (fun H locs hR => ?_)
      refine lv_aload_n hx hb dX5_letOut_39 rfl (lv_at hl 0 rfl) ?_
      obtain ⟨j11, hv12, hsp⟩ := fr_b1 hsp
      refine fr_getr C hR ha Fg_RX5_12 rfl hv12 dX5_letOut_40 ?_
      obtain ⟨hk13, hsp⟩ := fr_ck hsp
      obtain ⟨r14, E15, hsp⟩ := fr_b1 hsp
      refine fq_callV (rest := []) (st1 := [.int r14]) C hR (k_X0_isBeyond C.2.2 hk13 E15) Y_X0_isBeyond YV_X0_isBeyond Lk_RX5_114 hk13 ⟨_, _, rfl, by decide⟩ rfl hl.1 ⟨Nat.le_of_ble_eq_true rfl, Nat.le_of_ble_eq_true rfl⟩ rfl (Nat.le_of_ble_eq_true rfl) ⟨Nat.zero_le _, Nat.zero_le _⟩ rfl dX5_letOut_43 (fun H locs hR => ?_)
      refine lv_if_eq (tgt := 51) hx hb dX5_letOut_46 (by decide) (fun c16 => ?_) (fun c16 => ?_)
      · rw [if_pos c16] at hsp
        refine lv_aload_n hx hb dX5_letOut_51 rfl (lv_at hl 0 rfl) ?_
        refine fr_getr C hR ha Fg_RX5_12 rfl hv12 dX5_letOut_52 ?_
        refine lv_astore_n (lv' := [(2, .ref (g.2.2 j11)), (0, .ref (g.2.2 a)), (1, .ref (g.2.2 x1))]) hx hb dX5_letOut_55 rfl hl (by decide) rfl (fun ls hl => ?_)
        refine lv_aload_n hx hb dX5_letOut_56 rfl (lv_at hl 1 rfl) ?_
        refine lv_aload_n hx hb dX5_letOut_57 rfl (lv_at hl 1 rfl) ?_
        rcases hv18 : (h9.2.2 a 1) with _ | j17
        · rw [hv18] at hsp; have hsp := fr_nnN hsp
          refine fr_getn C hR ha Fg_RX5_18 rfl hv18 dX5_letOut_58 ?_
          refine fr_putn C hR ha Fp_RX5_12 rfl rfl rfl dX5_letOut_61 (fun H locs hR => ?_)
          obtain ⟨h19, eh19⟩ : ∃ z, z = fh_sR h9 a 0 none := ⟨_, rfl⟩
          rw [← eh19] at hR
          have hsp := fr_let eh19 hsp
          refine lv_aload_n hx hb dX5_letOut_64 rfl (lv_at hl 1 rfl) ?_
          refine lv_aload_n hx hb dX5_letOut_65 rfl (lv_at hl 0 rfl) ?_
          refine fr_putr C hR ha Fp_RX5_18 rfl rfl rfl dX5_letOut_66 (fun H locs hR => ?_)
          obtain ⟨h20, eh20⟩ : ∃ z, z = fh_sR h19 a 1 (some j11) := ⟨_, rfl⟩
          rw [← eh20] at hR
          have hsp := fr_let eh20 hsp
          refine lv_aload_n hx hb dX5_letOut_69 rfl (lv_at hl 2 rfl) ?_
          refine lv_aload_n hx hb dX5_letOut_70 rfl (lv_at hl 1 rfl) ?_
          refine fr_getj C hR ha Fg_RX5_103 rfl dX5_letOut_71 ?_
          refine lv_l2i hx hb dX5_letOut_74 rfl ?_
          refine lv_aload_n hx hb dX5_letOut_75 rfl (lv_at hl 1 rfl) ?_
          refine fr_geti C hR ha Fg_RX5_38 rfl dX5_letOut_76 ?_
          refine lv_aload_n hx hb dX5_letOut_79 rfl (lv_at hl 1 rfl) ?_
          refine fr_geti C hR ha Fg_RX5_42 rfl dX5_letOut_80 ?_
          obtain ⟨h21, E22, hsp⟩ := fr_b1 hsp
          refine fq_callV (rest := []) (st1 := []) C hR (k_X6_add C.2.2 k_x1 E22) Y_X6_add YV_X6_add Lk_RX5_117 k_x1 ⟨_, _, rfl, by decide⟩ rfl hl.1 ⟨Nat.le_of_ble_eq_true rfl, Nat.le_of_ble_eq_true rfl⟩ rfl (Nat.le_of_ble_eq_true rfl) ⟨Nat.zero_le _, Nat.zero_le _⟩ rfl dX5_letOut_83 (fun H locs hR => ?_)
          refine lv_aload_n hx hb dX5_letOut_86 rfl (lv_at hl 1 rfl) ?_
          refine lv_iconst (v := 0) hx hb dX5_letOut_87 (by decide) ?_
          refine fr_puti C hR ha Fp_RX5_45 rfl dX5_letOut_88 (fun H locs hR => ?_)
          obtain ⟨h23, eh23⟩ : ∃ z, z = fh_sI h21 a 6 (0 : Int32) := ⟨_, rfl⟩
          rw [← eh23] at hR
          have hsp := fr_let eh23 hsp
          refine lv_iconst (v := 4) hx hb dX5_letOut_91 (by decide) ?_
          obtain ⟨e1, e2⟩ := fr_s2 hsp
          exact fr_iret C hr hlocks hR e1 e2 dX5_letOut_92
        · rw [hv18] at hsp; have hsp := fr_nnS hsp
          refine fr_getr C hR ha Fg_RX5_18 rfl hv18 dX5_letOut_58 ?_
          refine fr_putr C hR ha Fp_RX5_12 rfl rfl rfl dX5_letOut_61 (fun H locs hR => ?_)
          obtain ⟨h24, eh24⟩ : ∃ z, z = fh_sR h9 a 0 (some j17) := ⟨_, rfl⟩
          rw [← eh24] at hR
          have hsp := fr_let eh24 hsp
          refine lv_aload_n hx hb dX5_letOut_64 rfl (lv_at hl 1 rfl) ?_
          refine lv_aload_n hx hb dX5_letOut_65 rfl (lv_at hl 0 rfl) ?_
          refine fr_putr C hR ha Fp_RX5_18 rfl rfl rfl dX5_letOut_66 (fun H locs hR => ?_)
          obtain ⟨h25, eh25⟩ : ∃ z, z = fh_sR h24 a 1 (some j11) := ⟨_, rfl⟩
          rw [← eh25] at hR
          have hsp := fr_let eh25 hsp
          refine lv_aload_n hx hb dX5_letOut_69 rfl (lv_at hl 2 rfl) ?_
          refine lv_aload_n hx hb dX5_letOut_70 rfl (lv_at hl 1 rfl) ?_
          refine fr_getj C hR ha Fg_RX5_103 rfl dX5_letOut_71 ?_
          refine lv_l2i hx hb dX5_letOut_74 rfl ?_
          refine lv_aload_n hx hb dX5_letOut_75 rfl (lv_at hl 1 rfl) ?_
          refine fr_geti C hR ha Fg_RX5_38 rfl dX5_letOut_76 ?_
          refine lv_aload_n hx hb dX5_letOut_79 rfl (lv_at hl 1 rfl) ?_
          refine fr_geti C hR ha Fg_RX5_42 rfl dX5_letOut_80 ?_
          obtain ⟨h26, E27, hsp⟩ := fr_b1 hsp
          refine fq_callV (rest := []) (st1 := []) C hR (k_X6_add C.2.2 k_x1 E27) Y_X6_add YV_X6_add Lk_RX5_117 k_x1 ⟨_, _, rfl, by decide⟩ rfl hl.1 ⟨Nat.le_of_ble_eq_true rfl, Nat.le_of_ble_eq_true rfl⟩ rfl (Nat.le_of_ble_eq_true rfl) ⟨Nat.zero_le _, Nat.zero_le _⟩ rfl dX5_letOut_83 (fun H locs hR => ?_)
          refine lv_aload_n hx hb dX5_letOut_86 rfl (lv_at hl 1 rfl) ?_
          refine lv_iconst (v := 0) hx hb dX5_letOut_87 (by decide) ?_
          refine fr_puti C hR ha Fp_RX5_45 rfl dX5_letOut_88 (fun H locs hR => ?_)
          obtain ⟨h28, eh28⟩ : ∃ z, z = fh_sI h26 a 6 (0 : Int32) := ⟨_, rfl⟩
          rw [← eh28] at hR
          have hsp := fr_let eh28 hsp
          refine lv_iconst (v := 4) hx hb dX5_letOut_91 (by decide) ?_
          obtain ⟨e1, e2⟩ := fr_s2 hsp
          exact fr_iret C hr hlocks hR e1 e2 dX5_letOut_92
      · rw [if_neg c16] at hsp
        refine lv_iconst (v := 2) hx hb dX5_letOut_49 (by decide) ?_
        obtain ⟨e1, e2⟩ := fr_s2 hsp
        exact fr_iret C hr hlocks hR e1 e2 dX5_letOut_50
    · rw [if_neg c2] at hsp
      refine lv_iconst (v := 2) hx hb dX5_letOut_22 (by decide) ?_
      obtain ⟨e1, e2⟩ := fr_s2 hsp
      exact fr_iret C hr hlocks hR e1 e2 dX5_letOut_23

/-! TermRows$Reckoner.readFirst()I -/
def z_X5_readFirst (S : fh_S) (h : fh_H) (a : Nat) : Option (Int32 × fh_H) :=
    fh_nn (h.2.2 a 2) (some ((3 : Int32), h)) (fun j1 => fh_ck (fh_kq S j1 6) (fh_b1 (z_X6_unknownAt S h j1 (h.1 a 4)) (fun r4 => if r4 = 0 then (fh_b1 (z_X6_knows S h j1 (h.1 a 4)) (fun r7 => if r7 = 0 then (fh_b1 (h.2.2 a 0) (fun j36 => fh_ck (fh_kq S j36 0) (fh_b1 (z_X0_endFirst S h j36) (fun h39 => fh_b1 (h39.2.2 a 1) (fun j41 => fh_ck (fh_kq S j41 0) (fh_b1 (z_X0_endFirst S h39 j41) (fun h44 => fh_let (fh_sI h44 a 7 (1 : Int32)) (fun h46 => some ((4 : Int32), h46))))))))) else (fh_b1 (z_X6_termAt S h j1 (h.1 a 4)) (fun r10 => fh_b1 (h.2.2 a 0) (fun j12 => fh_ck (fh_kq S j12 0) (fh_b1 (z_X0_readFirst S h j12 r10) (fun h15 => fh_b1 (h15.2.2 a 1) (fun j17 => fh_ck (fh_kq S j17 0) (fh_b1 (z_X0_readFirst S h15 j17 r10) (fun h20 => fh_let (fh_sI h20 a 4 ((h20.1 a 4) + (1 : Int32))) (fun h22 => fh_let (fh_sI h22 a 6 ((h22.1 a 6) + (1 : Int32))) (fun h23 => fh_b1 (h23.2.2 a 0) (fun j24 => fh_ck (fh_kq S j24 0) (fh_b1 (z_X0_isBeyond S h23 j24) (fun r27 => if r27 = 0 then (fh_b1 (h23.2.2 a 1) (fun j30 => fh_ck (fh_kq S j30 0) (fh_b1 (z_X0_isBeyond S h23 j30) (fun r33 => if r33 = 0 then (some ((4 : Int32), h23)) else (some ((2 : Int32), h23)))))) else (some ((2 : Int32), h23))))))))))))))))) else (some ((3 : Int32), h)))))
set_option maxHeartbeats 4000000 in
set_option maxRecDepth 100000 in
theorem k_X5_readFirst {l : Launch} {S : fh_S} {g : fh_G} {h h' : fh_H} (hj : fh_inj S g) {a : Nat} {r : Int32} (ha : fh_kq S a 5 = true) (hsp : z_X5_readFirst S h a = some (r, h')) : fh_M l yX5_readFirst cX5_readFirst 2 (some .int) (fh_rm 3) S g [.ref (g.2.2 a)] h (some (.int r)) h' := by
  unfold z_X5_readFirst at hsp
  refine fr_head (own := RX5) (by decide) rfl hj (Nat.le_of_ble_eq_true rfl) ?_
  intro p e s m below meth c ls C hr hlocks hR hl
  have hl : lv_has ls 2 [(0, .ref (g.2.2 a))] := hl
  have hx := C.1.1
  have hb := C.1.2.1
  refine lv_aload_n hx hb dX5_readFirst_0 rfl (lv_at hl 0 rfl) ?_
  rcases hv2 : (h.2.2 a 2) with _ | j1
  · rw [hv2] at hsp; have hsp := fr_nnN hsp
    refine fr_getn C hR ha Fg_RX5_31 rfl hv2 dX5_readFirst_1 ?_
    refine lv_ifnullN (tgt := 21) hx hb dX5_readFirst_4 (by decide) ?_
    refine lv_iconst (v := 3) hx hb dX5_readFirst_21 (by decide) ?_
    obtain ⟨e1, e2⟩ := fr_s2 hsp
    exact fr_iret C hr hlocks hR e1 e2 dX5_readFirst_22
  · rw [hv2] at hsp; have hsp := fr_nnS hsp
    refine fr_getr C hR ha Fg_RX5_31 rfl hv2 dX5_readFirst_1 ?_
    refine lv_ifnull hx hb dX5_readFirst_4 ?_
    refine lv_aload_n hx hb dX5_readFirst_7 rfl (lv_at hl 0 rfl) ?_
    refine fr_getr C hR ha Fg_RX5_31 rfl hv2 dX5_readFirst_8 ?_
    refine lv_aload_n hx hb dX5_readFirst_11 rfl (lv_at hl 0 rfl) ?_
    refine fr_geti C hR ha Fg_RX5_38 rfl dX5_readFirst_12 ?_
    obtain ⟨hk3, hsp⟩ := fr_ck hsp
    obtain ⟨r4, E5, hsp⟩ := fr_b1 hsp
    refine fq_callV (rest := []) (st1 := [.int r4]) C hR (k_X6_unknownAt C.2.2 hk3 E5) Y_X6_unknownAt YV_X6_unknownAt Lk_RX5_121 hk3 ⟨_, _, rfl, by decide⟩ rfl hl.1 ⟨Nat.le_of_ble_eq_true rfl, Nat.le_of_ble_eq_true rfl⟩ rfl (Nat.le_of_ble_eq_true rfl) ⟨Nat.zero_le _, Nat.zero_le _⟩ rfl dX5_readFirst_15 (fun H locs hR => ?_)
    refine lv_if_eq (tgt := 23) hx hb dX5_readFirst_18 (by decide) (fun c6 => ?_) (fun c6 => ?_)
    · rw [if_pos c6] at hsp
      refine lv_aload_n hx hb dX5_readFirst_23 rfl (lv_at hl 0 rfl) ?_
      refine fr_getr C hR ha Fg_RX5_31 rfl hv2 dX5_readFirst_24 ?_
      refine lv_aload_n hx hb dX5_readFirst_27 rfl (lv_at hl 0 rfl) ?_
      refine fr_geti C hR ha Fg_RX5_38 rfl dX5_readFirst_28 ?_
      obtain ⟨r7, E8, hsp⟩ := fr_b1 hsp
      refine fq_callV (rest := []) (st1 := [.int r7]) C hR (k_X6_knows C.2.2 hk3 E8) Y_X6_knows YV_X6_knows Lk_RX5_125 hk3 ⟨_, _, rfl, by decide⟩ rfl hl.1 ⟨Nat.le_of_ble_eq_true rfl, Nat.le_of_ble_eq_true rfl⟩ rfl (Nat.le_of_ble_eq_true rfl) ⟨Nat.zero_le _, Nat.zero_le _⟩ rfl dX5_readFirst_31 (fun H locs hR => ?_)
      refine lv_if_ne (tgt := 58) hx hb dX5_readFirst_34 (by decide) (fun c9 => ?_) (fun c9 => ?_)
      · rw [if_neg c9] at hsp
        refine lv_aload_n hx hb dX5_readFirst_58 rfl (lv_at hl 0 rfl) ?_
        refine fr_getr C hR ha Fg_RX5_31 rfl hv2 dX5_readFirst_59 ?_
        refine lv_aload_n hx hb dX5_readFirst_62 rfl (lv_at hl 0 rfl) ?_
        refine fr_geti C hR ha Fg_RX5_38 rfl dX5_readFirst_63 ?_
        obtain ⟨r10, E11, hsp⟩ := fr_b1 hsp
        refine fq_callV (rest := []) (st1 := [.int r10]) C hR (k_X6_termAt C.2.2 hk3 E11) Y_X6_termAt YV_X6_termAt Lk_RX5_131 hk3 ⟨_, _, rfl, by decide⟩ rfl hl.1 ⟨Nat.le_of_ble_eq_true rfl, Nat.le_of_ble_eq_true rfl⟩ rfl (Nat.le_of_ble_eq_true rfl) ⟨Nat.zero_le _, Nat.zero_le _⟩ rfl dX5_readFirst_66 (fun H locs hR => ?_)
        refine lv_istore_n (lv' := [(1, .int r10), (0, .ref (g.2.2 a))]) hx hb dX5_readFirst_69 rfl hl (by decide) rfl (fun ls hl => ?_)
        refine lv_aload_n hx hb dX5_readFirst_70 rfl (lv_at hl 1 rfl) ?_
        obtain ⟨j12, hv13, hsp⟩ := fr_b1 hsp
        refine fr_getr C hR ha Fg_RX5_12 rfl hv13 dX5_readFirst_71 ?_
        refine lv_iload_n hx hb dX5_readFirst_74 rfl (lv_at hl 0 rfl) ?_
        obtain ⟨hk14, hsp⟩ := fr_ck hsp
        obtain ⟨h15, E16, hsp⟩ := fr_b1 hsp
        refine fq_callV (rest := []) (st1 := []) C hR (k_X0_readFirst C.2.2 hk14 E16) Y_X0_readFirst YV_X0_readFirst Lk_RX5_135 hk14 ⟨_, _, rfl, by decide⟩ rfl hl.1 ⟨Nat.le_of_ble_eq_true rfl, Nat.le_of_ble_eq_true rfl⟩ rfl (Nat.le_of_ble_eq_true rfl) ⟨Nat.zero_le _, Nat.zero_le _⟩ rfl dX5_readFirst_75 (fun H locs hR => ?_)
        refine lv_aload_n hx hb dX5_readFirst_78 rfl (lv_at hl 1 rfl) ?_
        obtain ⟨j17, hv18, hsp⟩ := fr_b1 hsp
        refine fr_getr C hR ha Fg_RX5_18 rfl hv18 dX5_readFirst_79 ?_
        refine lv_iload_n hx hb dX5_readFirst_82 rfl (lv_at hl 0 rfl) ?_
        obtain ⟨hk19, hsp⟩ := fr_ck hsp
        obtain ⟨h20, E21, hsp⟩ := fr_b1 hsp
        refine fq_callV (rest := []) (st1 := []) C hR (k_X0_readFirst C.2.2 hk19 E21) Y_X0_readFirst YV_X0_readFirst Lk_RX5_135 hk19 ⟨_, _, rfl, by decide⟩ rfl hl.1 ⟨Nat.le_of_ble_eq_true rfl, Nat.le_of_ble_eq_true rfl⟩ rfl (Nat.le_of_ble_eq_true rfl) ⟨Nat.zero_le _, Nat.zero_le _⟩ rfl dX5_readFirst_83 (fun H locs hR => ?_)
        refine lv_aload_n hx hb dX5_readFirst_86 rfl (lv_at hl 1 rfl) ?_
        refine lv_dup hx hb dX5_readFirst_87 rfl ?_
        refine fr_geti C hR ha Fg_RX5_38 rfl dX5_readFirst_88 ?_
        refine lv_iconst (v := 1) hx hb dX5_readFirst_91 (by decide) ?_
        refine lv_iadd hx hb dX5_readFirst_92 ?_
        refine fr_puti C hR ha Fp_RX5_38 rfl dX5_readFirst_93 (fun H locs hR => ?_)
        obtain ⟨h22, eh22⟩ : ∃ z, z = fh_sI h20 a 4 ((h20.1 a 4) + (1 : Int32)) := ⟨_, rfl⟩
        rw [← eh22] at hR
        have hsp := fr_let eh22 hsp
        refine lv_aload_n hx hb dX5_readFirst_96 rfl (lv_at hl 1 rfl) ?_
        refine lv_dup hx hb dX5_readFirst_97 rfl ?_
        refine fr_geti C hR ha Fg_RX5_45 rfl dX5_readFirst_98 ?_
        refine lv_iconst (v := 1) hx hb dX5_readFirst_101 (by decide) ?_
        refine lv_iadd hx hb dX5_readFirst_102 ?_
        refine fr_puti C hR ha Fp_RX5_45 rfl dX5_readFirst_103 (fun H locs hR => ?_)
        obtain ⟨h23, eh23⟩ : ∃ z, z = fh_sI h22 a 6 ((h22.1 a 6) + (1 : Int32)) := ⟨_, rfl⟩
        rw [← eh23] at hR
        have hsp := fr_let eh23 hsp
        refine lv_aload_n hx hb dX5_readFirst_106 rfl (lv_at hl 1 rfl) ?_
        obtain ⟨j24, hv25, hsp⟩ := fr_b1 hsp
        refine fr_getr C hR ha Fg_RX5_12 rfl hv25 dX5_readFirst_107 ?_
        obtain ⟨hk26, hsp⟩ := fr_ck hsp
        obtain ⟨r27, E28, hsp⟩ := fr_b1 hsp
        refine fq_callV (rest := []) (st1 := [.int r27]) C hR (k_X0_isBeyond C.2.2 hk26 E28) Y_X0_isBeyond YV_X0_isBeyond Lk_RX5_114 hk26 ⟨_, _, rfl, by decide⟩ rfl hl.1 ⟨Nat.le_of_ble_eq_true rfl, Nat.le_of_ble_eq_true rfl⟩ rfl (Nat.le_of_ble_eq_true rfl) ⟨Nat.zero_le _, Nat.zero_le _⟩ rfl dX5_readFirst_110 (fun H locs hR => ?_)
        refine lv_if_ne (tgt := 126) hx hb dX5_readFirst_113 (by decide) (fun c29 => ?_) (fun c29 => ?_)
        · rw [if_neg c29] at hsp
          refine lv_iconst (v := 2) hx hb dX5_readFirst_126 (by decide) ?_
          refine lv_goto (tgt := 131) hx hb dX5_readFirst_127 (by decide) ?_
          obtain ⟨e1, e2⟩ := fr_s2 hsp
          exact fr_iret C hr hlocks hR e1 e2 dX5_readFirst_131
        · rw [if_pos c29] at hsp
          refine lv_aload_n hx hb dX5_readFirst_116 rfl (lv_at hl 1 rfl) ?_
          obtain ⟨j30, hv31, hsp⟩ := fr_b1 hsp
          refine fr_getr C hR ha Fg_RX5_18 rfl hv31 dX5_readFirst_117 ?_
          obtain ⟨hk32, hsp⟩ := fr_ck hsp
          obtain ⟨r33, E34, hsp⟩ := fr_b1 hsp
          refine fq_callV (rest := []) (st1 := [.int r33]) C hR (k_X0_isBeyond C.2.2 hk32 E34) Y_X0_isBeyond YV_X0_isBeyond Lk_RX5_114 hk32 ⟨_, _, rfl, by decide⟩ rfl hl.1 ⟨Nat.le_of_ble_eq_true rfl, Nat.le_of_ble_eq_true rfl⟩ rfl (Nat.le_of_ble_eq_true rfl) ⟨Nat.zero_le _, Nat.zero_le _⟩ rfl dX5_readFirst_120 (fun H locs hR => ?_)
          refine lv_if_eq (tgt := 130) hx hb dX5_readFirst_123 (by decide) (fun c35 => ?_) (fun c35 => ?_)
          · rw [if_pos c35] at hsp
            refine lv_iconst (v := 4) hx hb dX5_readFirst_130 (by decide) ?_
            obtain ⟨e1, e2⟩ := fr_s2 hsp
            exact fr_iret C hr hlocks hR e1 e2 dX5_readFirst_131
          · rw [if_neg c35] at hsp
            refine lv_iconst (v := 2) hx hb dX5_readFirst_126 (by decide) ?_
            refine lv_goto (tgt := 131) hx hb dX5_readFirst_127 (by decide) ?_
            obtain ⟨e1, e2⟩ := fr_s2 hsp
            exact fr_iret C hr hlocks hR e1 e2 dX5_readFirst_131
      · rw [if_pos c9] at hsp
        refine lv_aload_n hx hb dX5_readFirst_37 rfl (lv_at hl 0 rfl) ?_
        obtain ⟨j36, hv37, hsp⟩ := fr_b1 hsp
        refine fr_getr C hR ha Fg_RX5_12 rfl hv37 dX5_readFirst_38 ?_
        obtain ⟨hk38, hsp⟩ := fr_ck hsp
        obtain ⟨h39, E40, hsp⟩ := fr_b1 hsp
        refine fq_callV (rest := []) (st1 := []) C hR (k_X0_endFirst C.2.2 hk38 E40) Y_X0_endFirst YV_X0_endFirst Lk_RX5_128 hk38 ⟨_, _, rfl, by decide⟩ rfl hl.1 ⟨Nat.le_of_ble_eq_true rfl, Nat.le_of_ble_eq_true rfl⟩ rfl (Nat.le_of_ble_eq_true rfl) ⟨Nat.zero_le _, Nat.zero_le _⟩ rfl dX5_readFirst_41 (fun H locs hR => ?_)
        refine lv_aload_n hx hb dX5_readFirst_44 rfl (lv_at hl 0 rfl) ?_
        obtain ⟨j41, hv42, hsp⟩ := fr_b1 hsp
        refine fr_getr C hR ha Fg_RX5_18 rfl hv42 dX5_readFirst_45 ?_
        obtain ⟨hk43, hsp⟩ := fr_ck hsp
        obtain ⟨h44, E45, hsp⟩ := fr_b1 hsp
        refine fq_callV (rest := []) (st1 := []) C hR (k_X0_endFirst C.2.2 hk43 E45) Y_X0_endFirst YV_X0_endFirst Lk_RX5_128 hk43 ⟨_, _, rfl, by decide⟩ rfl hl.1 ⟨Nat.le_of_ble_eq_true rfl, Nat.le_of_ble_eq_true rfl⟩ rfl (Nat.le_of_ble_eq_true rfl) ⟨Nat.zero_le _, Nat.zero_le _⟩ rfl dX5_readFirst_48 (fun H locs hR => ?_)
        refine lv_aload_n hx hb dX5_readFirst_51 rfl (lv_at hl 0 rfl) ?_
        refine lv_iconst (v := 1) hx hb dX5_readFirst_52 (by decide) ?_
        refine fr_putz C hR ha Fp_RX5_48 rfl (Or.inr rfl) dX5_readFirst_53 (fun H locs hR => ?_)
        obtain ⟨h46, eh46⟩ : ∃ z, z = fh_sI h44 a 7 (1 : Int32) := ⟨_, rfl⟩
        rw [← eh46] at hR
        have hsp := fr_let eh46 hsp
        refine lv_iconst (v := 4) hx hb dX5_readFirst_56 (by decide) ?_
        obtain ⟨e1, e2⟩ := fr_s2 hsp
        exact fr_iret C hr hlocks hR e1 e2 dX5_readFirst_57
    · rw [if_neg c6] at hsp
      refine lv_iconst (v := 3) hx hb dX5_readFirst_21 (by decide) ?_
      obtain ⟨e1, e2⟩ := fr_s2 hsp
      exact fr_iret C hr hlocks hR e1 e2 dX5_readFirst_22

/-! TermRows$Reckoner.readSecond()I -/
def z_X5_readSecond (S : fh_S) (h : fh_H) (a : Nat) : Option (Int32 × fh_H) :=
    fh_nn (h.2.2 a 3) (some ((3 : Int32), h)) (fun j1 => fh_ck (fh_kq S j1 6) (fh_b1 (z_X6_unknownAt S h j1 (h.1 a 5)) (fun r4 => if r4 = 0 then (fh_b1 (z_X6_knows S h j1 (h.1 a 5)) (fun r7 => if r7 = 0 then (fh_b1 (h.2.2 a 0) (fun j36 => fh_ck (fh_kq S j36 0) (fh_b1 (z_X0_endSecond S h j36) (fun h39 => fh_b1 (h39.2.2 a 1) (fun j41 => fh_ck (fh_kq S j41 0) (fh_b1 (z_X0_endSecond S h39 j41) (fun h44 => fh_let (fh_sI h44 a 8 (1 : Int32)) (fun h46 => some ((4 : Int32), h46))))))))) else (fh_b1 (z_X6_termAt S h j1 (h.1 a 5)) (fun r10 => fh_b1 (h.2.2 a 0) (fun j12 => fh_ck (fh_kq S j12 0) (fh_b1 (z_X0_readSecond S h j12 r10) (fun h15 => fh_b1 (h15.2.2 a 1) (fun j17 => fh_ck (fh_kq S j17 0) (fh_b1 (z_X0_readSecond S h15 j17 r10) (fun h20 => fh_let (fh_sI h20 a 5 ((h20.1 a 5) + (1 : Int32))) (fun h22 => fh_let (fh_sI h22 a 6 ((h22.1 a 6) + (1 : Int32))) (fun h23 => fh_b1 (h23.2.2 a 0) (fun j24 => fh_ck (fh_kq S j24 0) (fh_b1 (z_X0_isBeyond S h23 j24) (fun r27 => if r27 = 0 then (fh_b1 (h23.2.2 a 1) (fun j30 => fh_ck (fh_kq S j30 0) (fh_b1 (z_X0_isBeyond S h23 j30) (fun r33 => if r33 = 0 then (some ((4 : Int32), h23)) else (some ((2 : Int32), h23)))))) else (some ((2 : Int32), h23))))))))))))))))) else (some ((3 : Int32), h)))))
set_option maxHeartbeats 4000000 in
set_option maxRecDepth 100000 in
theorem k_X5_readSecond {l : Launch} {S : fh_S} {g : fh_G} {h h' : fh_H} (hj : fh_inj S g) {a : Nat} {r : Int32} (ha : fh_kq S a 5 = true) (hsp : z_X5_readSecond S h a = some (r, h')) : fh_M l yX5_readSecond cX5_readSecond 2 (some .int) (fh_rm 3) S g [.ref (g.2.2 a)] h (some (.int r)) h' := by
  unfold z_X5_readSecond at hsp
  refine fr_head (own := RX5) (by decide) rfl hj (Nat.le_of_ble_eq_true rfl) ?_
  intro p e s m below meth c ls C hr hlocks hR hl
  have hl : lv_has ls 2 [(0, .ref (g.2.2 a))] := hl
  have hx := C.1.1
  have hb := C.1.2.1
  refine lv_aload_n hx hb dX5_readSecond_0 rfl (lv_at hl 0 rfl) ?_
  rcases hv2 : (h.2.2 a 3) with _ | j1
  · rw [hv2] at hsp; have hsp := fr_nnN hsp
    refine fr_getn C hR ha Fg_RX5_35 rfl hv2 dX5_readSecond_1 ?_
    refine lv_ifnullN (tgt := 21) hx hb dX5_readSecond_4 (by decide) ?_
    refine lv_iconst (v := 3) hx hb dX5_readSecond_21 (by decide) ?_
    obtain ⟨e1, e2⟩ := fr_s2 hsp
    exact fr_iret C hr hlocks hR e1 e2 dX5_readSecond_22
  · rw [hv2] at hsp; have hsp := fr_nnS hsp
    refine fr_getr C hR ha Fg_RX5_35 rfl hv2 dX5_readSecond_1 ?_
    refine lv_ifnull hx hb dX5_readSecond_4 ?_
    refine lv_aload_n hx hb dX5_readSecond_7 rfl (lv_at hl 0 rfl) ?_
    refine fr_getr C hR ha Fg_RX5_35 rfl hv2 dX5_readSecond_8 ?_
    refine lv_aload_n hx hb dX5_readSecond_11 rfl (lv_at hl 0 rfl) ?_
    refine fr_geti C hR ha Fg_RX5_42 rfl dX5_readSecond_12 ?_
    obtain ⟨hk3, hsp⟩ := fr_ck hsp
    obtain ⟨r4, E5, hsp⟩ := fr_b1 hsp
    refine fq_callV (rest := []) (st1 := [.int r4]) C hR (k_X6_unknownAt C.2.2 hk3 E5) Y_X6_unknownAt YV_X6_unknownAt Lk_RX5_121 hk3 ⟨_, _, rfl, by decide⟩ rfl hl.1 ⟨Nat.le_of_ble_eq_true rfl, Nat.le_of_ble_eq_true rfl⟩ rfl (Nat.le_of_ble_eq_true rfl) ⟨Nat.zero_le _, Nat.zero_le _⟩ rfl dX5_readSecond_15 (fun H locs hR => ?_)
    refine lv_if_eq (tgt := 23) hx hb dX5_readSecond_18 (by decide) (fun c6 => ?_) (fun c6 => ?_)
    · rw [if_pos c6] at hsp
      refine lv_aload_n hx hb dX5_readSecond_23 rfl (lv_at hl 0 rfl) ?_
      refine fr_getr C hR ha Fg_RX5_35 rfl hv2 dX5_readSecond_24 ?_
      refine lv_aload_n hx hb dX5_readSecond_27 rfl (lv_at hl 0 rfl) ?_
      refine fr_geti C hR ha Fg_RX5_42 rfl dX5_readSecond_28 ?_
      obtain ⟨r7, E8, hsp⟩ := fr_b1 hsp
      refine fq_callV (rest := []) (st1 := [.int r7]) C hR (k_X6_knows C.2.2 hk3 E8) Y_X6_knows YV_X6_knows Lk_RX5_125 hk3 ⟨_, _, rfl, by decide⟩ rfl hl.1 ⟨Nat.le_of_ble_eq_true rfl, Nat.le_of_ble_eq_true rfl⟩ rfl (Nat.le_of_ble_eq_true rfl) ⟨Nat.zero_le _, Nat.zero_le _⟩ rfl dX5_readSecond_31 (fun H locs hR => ?_)
      refine lv_if_ne (tgt := 58) hx hb dX5_readSecond_34 (by decide) (fun c9 => ?_) (fun c9 => ?_)
      · rw [if_neg c9] at hsp
        refine lv_aload_n hx hb dX5_readSecond_58 rfl (lv_at hl 0 rfl) ?_
        refine fr_getr C hR ha Fg_RX5_35 rfl hv2 dX5_readSecond_59 ?_
        refine lv_aload_n hx hb dX5_readSecond_62 rfl (lv_at hl 0 rfl) ?_
        refine fr_geti C hR ha Fg_RX5_42 rfl dX5_readSecond_63 ?_
        obtain ⟨r10, E11, hsp⟩ := fr_b1 hsp
        refine fq_callV (rest := []) (st1 := [.int r10]) C hR (k_X6_termAt C.2.2 hk3 E11) Y_X6_termAt YV_X6_termAt Lk_RX5_131 hk3 ⟨_, _, rfl, by decide⟩ rfl hl.1 ⟨Nat.le_of_ble_eq_true rfl, Nat.le_of_ble_eq_true rfl⟩ rfl (Nat.le_of_ble_eq_true rfl) ⟨Nat.zero_le _, Nat.zero_le _⟩ rfl dX5_readSecond_66 (fun H locs hR => ?_)
        refine lv_istore_n (lv' := [(1, .int r10), (0, .ref (g.2.2 a))]) hx hb dX5_readSecond_69 rfl hl (by decide) rfl (fun ls hl => ?_)
        refine lv_aload_n hx hb dX5_readSecond_70 rfl (lv_at hl 1 rfl) ?_
        obtain ⟨j12, hv13, hsp⟩ := fr_b1 hsp
        refine fr_getr C hR ha Fg_RX5_12 rfl hv13 dX5_readSecond_71 ?_
        refine lv_iload_n hx hb dX5_readSecond_74 rfl (lv_at hl 0 rfl) ?_
        obtain ⟨hk14, hsp⟩ := fr_ck hsp
        obtain ⟨h15, E16, hsp⟩ := fr_b1 hsp
        refine fq_callV (rest := []) (st1 := []) C hR (k_X0_readSecond C.2.2 hk14 E16) Y_X0_readSecond YV_X0_readSecond Lk_RX5_141 hk14 ⟨_, _, rfl, by decide⟩ rfl hl.1 ⟨Nat.le_of_ble_eq_true rfl, Nat.le_of_ble_eq_true rfl⟩ rfl (Nat.le_of_ble_eq_true rfl) ⟨Nat.zero_le _, Nat.zero_le _⟩ rfl dX5_readSecond_75 (fun H locs hR => ?_)
        refine lv_aload_n hx hb dX5_readSecond_78 rfl (lv_at hl 1 rfl) ?_
        obtain ⟨j17, hv18, hsp⟩ := fr_b1 hsp
        refine fr_getr C hR ha Fg_RX5_18 rfl hv18 dX5_readSecond_79 ?_
        refine lv_iload_n hx hb dX5_readSecond_82 rfl (lv_at hl 0 rfl) ?_
        obtain ⟨hk19, hsp⟩ := fr_ck hsp
        obtain ⟨h20, E21, hsp⟩ := fr_b1 hsp
        refine fq_callV (rest := []) (st1 := []) C hR (k_X0_readSecond C.2.2 hk19 E21) Y_X0_readSecond YV_X0_readSecond Lk_RX5_141 hk19 ⟨_, _, rfl, by decide⟩ rfl hl.1 ⟨Nat.le_of_ble_eq_true rfl, Nat.le_of_ble_eq_true rfl⟩ rfl (Nat.le_of_ble_eq_true rfl) ⟨Nat.zero_le _, Nat.zero_le _⟩ rfl dX5_readSecond_83 (fun H locs hR => ?_)
        refine lv_aload_n hx hb dX5_readSecond_86 rfl (lv_at hl 1 rfl) ?_
        refine lv_dup hx hb dX5_readSecond_87 rfl ?_
        refine fr_geti C hR ha Fg_RX5_42 rfl dX5_readSecond_88 ?_
        refine lv_iconst (v := 1) hx hb dX5_readSecond_91 (by decide) ?_
        refine lv_iadd hx hb dX5_readSecond_92 ?_
        refine fr_puti C hR ha Fp_RX5_42 rfl dX5_readSecond_93 (fun H locs hR => ?_)
        obtain ⟨h22, eh22⟩ : ∃ z, z = fh_sI h20 a 5 ((h20.1 a 5) + (1 : Int32)) := ⟨_, rfl⟩
        rw [← eh22] at hR
        have hsp := fr_let eh22 hsp
        refine lv_aload_n hx hb dX5_readSecond_96 rfl (lv_at hl 1 rfl) ?_
        refine lv_dup hx hb dX5_readSecond_97 rfl ?_
        refine fr_geti C hR ha Fg_RX5_45 rfl dX5_readSecond_98 ?_
        refine lv_iconst (v := 1) hx hb dX5_readSecond_101 (by decide) ?_
        refine lv_iadd hx hb dX5_readSecond_102 ?_
        refine fr_puti C hR ha Fp_RX5_45 rfl dX5_readSecond_103 (fun H locs hR => ?_)
        obtain ⟨h23, eh23⟩ : ∃ z, z = fh_sI h22 a 6 ((h22.1 a 6) + (1 : Int32)) := ⟨_, rfl⟩
        rw [← eh23] at hR
        have hsp := fr_let eh23 hsp
        refine lv_aload_n hx hb dX5_readSecond_106 rfl (lv_at hl 1 rfl) ?_
        obtain ⟨j24, hv25, hsp⟩ := fr_b1 hsp
        refine fr_getr C hR ha Fg_RX5_12 rfl hv25 dX5_readSecond_107 ?_
        obtain ⟨hk26, hsp⟩ := fr_ck hsp
        obtain ⟨r27, E28, hsp⟩ := fr_b1 hsp
        refine fq_callV (rest := []) (st1 := [.int r27]) C hR (k_X0_isBeyond C.2.2 hk26 E28) Y_X0_isBeyond YV_X0_isBeyond Lk_RX5_114 hk26 ⟨_, _, rfl, by decide⟩ rfl hl.1 ⟨Nat.le_of_ble_eq_true rfl, Nat.le_of_ble_eq_true rfl⟩ rfl (Nat.le_of_ble_eq_true rfl) ⟨Nat.zero_le _, Nat.zero_le _⟩ rfl dX5_readSecond_110 (fun H locs hR => ?_)
        refine lv_if_ne (tgt := 126) hx hb dX5_readSecond_113 (by decide) (fun c29 => ?_) (fun c29 => ?_)
        · rw [if_neg c29] at hsp
          refine lv_iconst (v := 2) hx hb dX5_readSecond_126 (by decide) ?_
          refine lv_goto (tgt := 131) hx hb dX5_readSecond_127 (by decide) ?_
          obtain ⟨e1, e2⟩ := fr_s2 hsp
          exact fr_iret C hr hlocks hR e1 e2 dX5_readSecond_131
        · rw [if_pos c29] at hsp
          refine lv_aload_n hx hb dX5_readSecond_116 rfl (lv_at hl 1 rfl) ?_
          obtain ⟨j30, hv31, hsp⟩ := fr_b1 hsp
          refine fr_getr C hR ha Fg_RX5_18 rfl hv31 dX5_readSecond_117 ?_
          obtain ⟨hk32, hsp⟩ := fr_ck hsp
          obtain ⟨r33, E34, hsp⟩ := fr_b1 hsp
          refine fq_callV (rest := []) (st1 := [.int r33]) C hR (k_X0_isBeyond C.2.2 hk32 E34) Y_X0_isBeyond YV_X0_isBeyond Lk_RX5_114 hk32 ⟨_, _, rfl, by decide⟩ rfl hl.1 ⟨Nat.le_of_ble_eq_true rfl, Nat.le_of_ble_eq_true rfl⟩ rfl (Nat.le_of_ble_eq_true rfl) ⟨Nat.zero_le _, Nat.zero_le _⟩ rfl dX5_readSecond_120 (fun H locs hR => ?_)
          refine lv_if_eq (tgt := 130) hx hb dX5_readSecond_123 (by decide) (fun c35 => ?_) (fun c35 => ?_)
          · rw [if_pos c35] at hsp
            refine lv_iconst (v := 4) hx hb dX5_readSecond_130 (by decide) ?_
            obtain ⟨e1, e2⟩ := fr_s2 hsp
            exact fr_iret C hr hlocks hR e1 e2 dX5_readSecond_131
          · rw [if_neg c35] at hsp
            refine lv_iconst (v := 2) hx hb dX5_readSecond_126 (by decide) ?_
            refine lv_goto (tgt := 131) hx hb dX5_readSecond_127 (by decide) ?_
            obtain ⟨e1, e2⟩ := fr_s2 hsp
            exact fr_iret C hr hlocks hR e1 e2 dX5_readSecond_131
      · rw [if_pos c9] at hsp
        refine lv_aload_n hx hb dX5_readSecond_37 rfl (lv_at hl 0 rfl) ?_
        obtain ⟨j36, hv37, hsp⟩ := fr_b1 hsp
        refine fr_getr C hR ha Fg_RX5_12 rfl hv37 dX5_readSecond_38 ?_
        obtain ⟨hk38, hsp⟩ := fr_ck hsp
        obtain ⟨h39, E40, hsp⟩ := fr_b1 hsp
        refine fq_callV (rest := []) (st1 := []) C hR (k_X0_endSecond C.2.2 hk38 E40) Y_X0_endSecond YV_X0_endSecond Lk_RX5_138 hk38 ⟨_, _, rfl, by decide⟩ rfl hl.1 ⟨Nat.le_of_ble_eq_true rfl, Nat.le_of_ble_eq_true rfl⟩ rfl (Nat.le_of_ble_eq_true rfl) ⟨Nat.zero_le _, Nat.zero_le _⟩ rfl dX5_readSecond_41 (fun H locs hR => ?_)
        refine lv_aload_n hx hb dX5_readSecond_44 rfl (lv_at hl 0 rfl) ?_
        obtain ⟨j41, hv42, hsp⟩ := fr_b1 hsp
        refine fr_getr C hR ha Fg_RX5_18 rfl hv42 dX5_readSecond_45 ?_
        obtain ⟨hk43, hsp⟩ := fr_ck hsp
        obtain ⟨h44, E45, hsp⟩ := fr_b1 hsp
        refine fq_callV (rest := []) (st1 := []) C hR (k_X0_endSecond C.2.2 hk43 E45) Y_X0_endSecond YV_X0_endSecond Lk_RX5_138 hk43 ⟨_, _, rfl, by decide⟩ rfl hl.1 ⟨Nat.le_of_ble_eq_true rfl, Nat.le_of_ble_eq_true rfl⟩ rfl (Nat.le_of_ble_eq_true rfl) ⟨Nat.zero_le _, Nat.zero_le _⟩ rfl dX5_readSecond_48 (fun H locs hR => ?_)
        refine lv_aload_n hx hb dX5_readSecond_51 rfl (lv_at hl 0 rfl) ?_
        refine lv_iconst (v := 1) hx hb dX5_readSecond_52 (by decide) ?_
        refine fr_putz C hR ha Fp_RX5_52 rfl (Or.inr rfl) dX5_readSecond_53 (fun H locs hR => ?_)
        obtain ⟨h46, eh46⟩ : ∃ z, z = fh_sI h44 a 8 (1 : Int32) := ⟨_, rfl⟩
        rw [← eh46] at hR
        have hsp := fr_let eh46 hsp
        refine lv_iconst (v := 4) hx hb dX5_readSecond_56 (by decide) ?_
        obtain ⟨e1, e2⟩ := fr_s2 hsp
        exact fr_iret C hr hlocks hR e1 e2 dX5_readSecond_57
    · rw [if_neg c6] at hsp
      refine lv_iconst (v := 3) hx hb dX5_readSecond_21 (by decide) ?_
      obtain ⟨e1, e2⟩ := fr_s2 hsp
      exact fr_iret C hr hlocks hR e1 e2 dX5_readSecond_22

/-! TermRows$RowText.takeMark()Z -/
def z_X7_takeMark (S : fh_S) (h : fh_H) (a : Nat) : Option (Int32 × fh_H) :=
    fh_b1 (h.2.2 a 0) (fun j1 => fh_ck (fh_kq S j1 10) (fh_b2 (z_X10_take S h j1 (59 : Int32)) (fun r4 h5 => if r4 = 0 then (fh_b1 (h5.2.2 a 0) (fun j8 => fh_ck (fh_kq S j8 10) (fh_b2 (z_X10_take S h5 j8 (44 : Int32)) (fun r11 h12 => if r11 = 0 then (some ((0 : Int32), h12)) else (some ((1 : Int32), h12)))))) else (some ((1 : Int32), h5)))))
set_option maxHeartbeats 4000000 in
set_option maxRecDepth 100000 in
theorem k_X7_takeMark {l : Launch} {S : fh_S} {g : fh_G} {h h' : fh_H} (hj : fh_inj S g) {a : Nat} {r : Int32} (ha : fh_kq S a 7 = true) (hsp : z_X7_takeMark S h a = some (r, h')) : fh_M l yX7_takeMark cX7_takeMark 1 (some .boolean) (fh_rm 3) S g [.ref (g.2.2 a)] h (some (.int r)) h' := by
  unfold z_X7_takeMark at hsp
  refine fr_head (own := RX7) (by decide) rfl hj (Nat.le_of_ble_eq_true rfl) ?_
  intro p e s m below meth c ls C hr hlocks hR hl
  have hl : lv_has ls 1 [(0, .ref (g.2.2 a))] := hl
  have hx := C.1.1
  have hb := C.1.2.1
  refine lv_aload_n hx hb dX7_takeMark_0 rfl (lv_at hl 0 rfl) ?_
  obtain ⟨j1, hv2, hsp⟩ := fr_b1 hsp
  refine fr_getr C hR ha Fg_RX7_15 rfl hv2 dX7_takeMark_1 ?_
  refine lv_bipush (v := 59) hx hb dX7_takeMark_4 (by decide) ?_
  obtain ⟨hk3, hsp⟩ := fr_ck hsp
  obtain ⟨r4, h5, E6, hsp⟩ := fr_b2 hsp
  refine fq_callV (rest := []) (st1 := [.int r4]) C hR (k_X10_take C.2.2 hk3 E6) Y_X10_take YV_X10_take Lk_RX7_32 hk3 ⟨_, _, rfl, by decide⟩ rfl hl.1 ⟨Nat.le_of_ble_eq_true rfl, Nat.le_of_ble_eq_true rfl⟩ rfl (Nat.le_of_ble_eq_true rfl) ⟨Nat.zero_le _, Nat.zero_le _⟩ rfl dX7_takeMark_6 (fun H locs hR => ?_)
  refine lv_if_ne (tgt := 24) hx hb dX7_takeMark_9 (by decide) (fun c7 => ?_) (fun c7 => ?_)
  · rw [if_neg c7] at hsp
    refine lv_iconst (v := 1) hx hb dX7_takeMark_24 (by decide) ?_
    refine lv_goto (tgt := 29) hx hb dX7_takeMark_25 (by decide) ?_
    obtain ⟨e1, e2⟩ := fr_s2 hsp
    exact fr_zret C hr hlocks hR (Or.inr rfl) e1 e2 dX7_takeMark_29
  · rw [if_pos c7] at hsp
    refine lv_aload_n hx hb dX7_takeMark_12 rfl (lv_at hl 0 rfl) ?_
    obtain ⟨j8, hv9, hsp⟩ := fr_b1 hsp
    refine fr_getr C hR ha Fg_RX7_15 rfl hv9 dX7_takeMark_13 ?_
    refine lv_bipush (v := 44) hx hb dX7_takeMark_16 (by decide) ?_
    obtain ⟨hk10, hsp⟩ := fr_ck hsp
    obtain ⟨r11, h12, E13, hsp⟩ := fr_b2 hsp
    refine fq_callV (rest := []) (st1 := [.int r11]) C hR (k_X10_take C.2.2 hk10 E13) Y_X10_take YV_X10_take Lk_RX7_32 hk10 ⟨_, _, rfl, by decide⟩ rfl hl.1 ⟨Nat.le_of_ble_eq_true rfl, Nat.le_of_ble_eq_true rfl⟩ rfl (Nat.le_of_ble_eq_true rfl) ⟨Nat.zero_le _, Nat.zero_le _⟩ rfl dX7_takeMark_18 (fun H locs hR => ?_)
    refine lv_if_eq (tgt := 28) hx hb dX7_takeMark_21 (by decide) (fun c14 => ?_) (fun c14 => ?_)
    · rw [if_pos c14] at hsp
      refine lv_iconst (v := 0) hx hb dX7_takeMark_28 (by decide) ?_
      obtain ⟨e1, e2⟩ := fr_s2 hsp
      exact fr_zret C hr hlocks hR (Or.inl rfl) e1 e2 dX7_takeMark_29
    · rw [if_neg c14] at hsp
      refine lv_iconst (v := 1) hx hb dX7_takeMark_24 (by decide) ?_
      refine lv_goto (tgt := 29) hx hb dX7_takeMark_25 (by decide) ?_
      obtain ⟨e1, e2⟩ := fr_s2 hsp
      exact fr_zret C hr hlocks hR (Or.inr rfl) e1 e2 dX7_takeMark_29

/-! TermRows$Saying.putTerms(LTermRows$Row;II)V -/
def z_X8_putTerms_b3 (S : fh_S) (a : Nat) : Nat → fh_H → Nat → Int32 → Int32 → Option fh_H
  | 0, _, _, _, _ => none
  | n + 1, h, y1, y3, y4 =>
    if y3 ≤ y4 then (some h) else (fh_b1 (z_X8_putMarkAhead S h a y4) (fun h2 => fh_ck (fh_kq S y1 6) (fh_b1 (z_X6_termAt S h2 y1 y4) (fun r5 => fh_b1 (z_X8_putNumber S h2 a r5) (fun h7 => fh_let (y4 + 1) (fun v9 => z_X8_putTerms_b3 S a n h7 y1 y3 v9))))))
def z_X8_putTerms (S : fh_S) (h : fh_H) (a : Nat) (x1 : Nat) (x2 : Int32) (x3 : Int32) : Option fh_H :=
    z_X8_putTerms_b3 S a 20000 h x1 x3 x2
set_option maxHeartbeats 4000000 in
set_option maxRecDepth 100000 in
theorem k_X8_putTerms {l : Launch} {S : fh_S} {g : fh_G} {h h' : fh_H} (hj : fh_inj S g) {a : Nat} {x1 : Nat} {x2 : Int32} {x3 : Int32} (ha : fh_kq S a 8 = true) (k_x1 : fh_kq S x1 6 = true) (hsp : z_X8_putTerms S h a x1 x2 x3 = some h') : fh_M l yX8_putTerms cX8_putTerms 5 none (fh_rm 3) S g [.ref (g.2.2 a), .ref (g.2.2 x1), .int x2, .int x3] h none h' := by
  unfold z_X8_putTerms at hsp
  refine fr_head (own := RX8) (by decide) rfl hj (Nat.le_of_ble_eq_true rfl) ?_
  intro p e s m below meth c ls C hr hlocks hR hl
  have hl : lv_has ls 5 [(0, .ref (g.2.2 a)), (1, .ref (g.2.2 x1)), (2, .int x2), (3, .int x3)] := hl
  have hx := C.1.1
  have hb := C.1.2.1
  have hb_3 : ∀ (n : Nat) (h : fh_H) (y1 : Nat) (y3 : Int32) (y4 : Int32) (H : Heap) (locs : List Loc) (ls : Array Slot), z_X8_putTerms_b3 S a n h y1 y3 y4 = some h' → fh_R S g s.heap h H locs → lv_has ls 5 [(0, .ref (g.2.2 a)), (1, .ref (g.2.2 y1)), (3, .int y3), (4, .int y4)] → fh_Wk p l e 3 s m [.ref (g.2.2 a), .ref (g.2.2 x1), .int x2, .int x3] below meth c S g none h' H locs (F0 m 3 ls []) := by
    intro n
    induction n with
    | zero => intro h y1 y3 y4 H locs ls hsp; cases hsp
    | succ n ih =>
      intro h y1 y3 y4 H locs ls hsp hR hl
      rw [z_X8_putTerms_b3] at hsp
      refine lv_iload hx hb dX8_putTerms_3 (lv_at hl 3 rfl) ?_
      refine lv_iload_n hx hb dX8_putTerms_5 rfl (lv_at hl 2 rfl) ?_
      refine lv_icmp_ge (tgt := 31) hx hb dX8_putTerms_6 (by decide) (fun c1 => ?_) (fun c1 => ?_)
      · rw [if_pos c1] at hsp
        exact fr_vret C hr hlocks hR (fr_s1 hsp) dX8_putTerms_31
      · rw [if_neg c1] at hsp
        refine lv_aload_n hx hb dX8_putTerms_9 rfl (lv_at hl 0 rfl) ?_
        refine lv_iload hx hb dX8_putTerms_10 (lv_at hl 3 rfl) ?_
        obtain ⟨h2, E3, hsp⟩ := fr_b1 hsp
        refine fq_callV (rest := []) (st1 := []) C hR (k_X8_putMarkAhead C.2.2 ha E3) Y_X8_putMarkAhead YV_X8_putMarkAhead Lk_RX8_41 ha ⟨_, _, rfl, by decide⟩ rfl hl.1 ⟨Nat.le_of_ble_eq_true rfl, Nat.le_of_ble_eq_true rfl⟩ rfl (Nat.le_of_ble_eq_true rfl) ⟨Nat.zero_le _, Nat.zero_le _⟩ rfl dX8_putTerms_12 (fun H locs hR => ?_)
        refine lv_aload_n hx hb dX8_putTerms_15 rfl (lv_at hl 0 rfl) ?_
        refine lv_aload_n hx hb dX8_putTerms_16 rfl (lv_at hl 1 rfl) ?_
        refine lv_iload hx hb dX8_putTerms_17 (lv_at hl 3 rfl) ?_
        obtain ⟨hk4, hsp⟩ := fr_ck hsp
        obtain ⟨r5, E6, hsp⟩ := fr_b1 hsp
        refine fq_callV (rest := [.ref (g.2.2 a)]) (st1 := [.int r5, .ref (g.2.2 a)]) C hR (k_X6_termAt C.2.2 hk4 E6) Y_X6_termAt YV_X6_termAt Lk_RX8_45 hk4 ⟨_, _, rfl, by decide⟩ rfl hl.1 ⟨Nat.le_of_ble_eq_true rfl, Nat.le_of_ble_eq_true rfl⟩ rfl (Nat.le_of_ble_eq_true rfl) ⟨Nat.zero_le _, Nat.zero_le _⟩ rfl dX8_putTerms_19 (fun H locs hR => ?_)
        obtain ⟨h7, E8, hsp⟩ := fr_b1 hsp
        refine fq_callV (rest := []) (st1 := []) C hR (k_X8_putNumber C.2.2 ha E8) Y_X8_putNumber YV_X8_putNumber Lk_RX8_49 ha ⟨_, _, rfl, by decide⟩ rfl hl.1 ⟨Nat.le_of_ble_eq_true rfl, Nat.le_of_ble_eq_true rfl⟩ rfl (Nat.le_of_ble_eq_true rfl) ⟨Nat.zero_le _, Nat.zero_le _⟩ rfl dX8_putTerms_22 (fun H locs hR => ?_)
        obtain ⟨v9, ev9⟩ : ∃ z : Int32, z = y4 + 1 := ⟨_, rfl⟩
        have hsp := fr_let ev9 hsp
        refine lv_iinc (v := v9) (lv' := [(4, .int v9), (0, .ref (g.2.2 a)), (1, .ref (g.2.2 y1)), (3, .int y3)]) hx hb dX8_putTerms_25 hl (k := 3) rfl (by rw [ev9]; rfl) (by decide) rfl (fun ls hl => ?_)
        refine lv_goto (tgt := 3) hx hb dX8_putTerms_28 (by decide) ?_
        exact ih h7 y1 y3 v9 _ _ _ hsp hR (lv_sub hl [1, 2, 3, 0] rfl)
  refine lv_iload_n hx hb dX8_putTerms_0 rfl (lv_at hl 2 rfl) ?_
  refine lv_istore (lv' := [(4, .int x2), (0, .ref (g.2.2 a)), (1, .ref (g.2.2 x1)), (2, .int x2), (3, .int x3)]) hx hb dX8_putTerms_1 hl (by decide) rfl (fun ls hl => ?_)
  exact hb_3 20000 h x1 x3 x2 _ _ _ hsp hR (lv_sub hl [1, 2, 4, 0] rfl)
