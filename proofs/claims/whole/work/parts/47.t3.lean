/-! TermRows.requireTerm(LTermRows$Row;I)V -/
def z_X11_requireTerm (S : fh_S) (h : fh_H) (x0 : Nat) (x1 : Int32) : Option ((Nat ⊕ Unit) × fh_H) :=
    fh_b1 (z_X6_knows S h x0 x1) (fun r1 => if r1 = 0 then (some (Sum.inl 1, h)) else (some (Sum.inr (), h)))
set_option maxHeartbeats 4000000 in
set_option maxRecDepth 100000 in
theorem k_X11_requireTerm {l : Launch} {S : fh_S} {g : fh_G} {h h' : fh_H} {z : (Nat → Nat) × (Nat → Nat)} (hj : fh_inj S g) {x0 : Nat} {x1 : Int32} {r : (Nat ⊕ Unit)} (hlt : l.stackTraces = false) (k_x0 : fh_kq S x0 6 = true) (hsp : z_X11_requireTerm S h x0 x1 = some (r, h')) : fx_Mx l yX11_requireTerm cX11_requireTerm 2 none 2 1 S g z [.ref (g.2.2 x0), .int x1] h (fx_ov r) h' := by
  unfold z_X11_requireTerm at hsp
  refine fz_headX (own := RX11) (by decide) rfl hj (Nat.le_of_ble_eq_true rfl) ?_
  intro p e s m below meth c ls C EX hno hr hlocks hR hl
  have hl : lv_has ls 2 [(0, .ref (g.2.2 x0)), (1, .int x1)] := hl
  have hx := C.1.1
  have hb := C.1.2.1
  refine lv_aload_n hx hb dX11_requireTerm_0 rfl (lv_at hl 0 rfl) ?_
  refine lv_iload_n hx hb dX11_requireTerm_1 rfl (lv_at hl 1 rfl) ?_
  obtain ⟨r1, E2, hsp⟩ := fr_b1 hsp
  refine fq_callV (rest := []) (st1 := [.int r1]) C hR (k_X6_knows C.2.2 k_x0 E2) Y_X6_knows YV_X6_knows Lk_RX11_257 k_x0 ⟨_, _, rfl, by decide⟩ rfl hl.1 ⟨Nat.le_of_ble_eq_true rfl, Nat.le_of_ble_eq_true rfl⟩ rfl (Nat.le_of_ble_eq_true rfl) ⟨Nat.le_of_ble_eq_true rfl, Nat.le_of_ble_eq_true rfl⟩ rfl dX11_requireTerm_2 (fun H locs hR => ?_)
  refine lv_if_ne (tgt := 19) hx hb dX11_requireTerm_5 (by decide) (fun c3 => ?_) (fun c3 => ?_)
  · rw [if_neg c3] at hsp
    obtain ⟨e1, e2⟩ := fr_s2 hsp
    exact fz_vret C hr hlocks hR e1 e2 (Nat.le_of_ble_eq_true rfl) (Nat.le_of_ble_eq_true rfl) dX11_requireTerm_19
  · rw [if_pos c3] at hsp
    obtain ⟨e1, e2⟩ := fr_s2 hsp
    exact fz_throwW (is := 362) (text := "the term isn't known") 1 (Or.inr rfl) C EX hlt hno hlocks hR (congrArg fx_ov e1) e2 (List.mem_of_getElem? (i := 15) rfl) hl.1 ⟨Nat.le_of_ble_eq_true rfl, Nat.le_of_ble_eq_true rfl, Nat.le_of_ble_eq_true rfl⟩ ⟨Nat.le_of_ble_eq_true rfl, Nat.le_of_ble_eq_true rfl⟩ (Nat.le_of_ble_eq_true rfl) (Nat.le_of_ble_eq_true rfl) dX11_requireTerm_8 dX11_requireTerm_11 dX11_requireTerm_12 dX11_requireTerm_15 dX11_requireTerm_18

/-! TermRows.settled(I)LTermRows$Row; -/
def z_X11_settled_b23 (S : fh_S) (a : Nat) : Nat → fh_H → Int32 → Nat → Int32 → Option ((Nat ⊕ (Option Nat)) × fh_H)
  | 0, _, _, _, _ => none
  | n + 1, h, y1, y2, y3 =>
    if y1 < y3 then (some (Sum.inr (some y2), h)) else (fh_b1 (h.2.2 a 0) (fun j2 => fh_ck (fh_kq S j2 16) (if (Int32.ofNat (S.2.2 j2)) ≤ y3 then (some (Sum.inr (some y2), h)) else (fh_ck (fh_in y3 (S.2.2 j2)) (fh_nn (h.2.2 j2 (Int32.toNatClampNeg y3)) (fh_let (y3 + 1) (fun v9 => z_X11_settled_b23 S a n h y1 y2 v9)) (fun j7 => fh_ck (fh_kq S j7 6) (if (h.1 j7 5) = 0 then (fh_let (y3 + 1) (fun v12 => z_X11_settled_b23 S a n h y1 y2 v12)) else (fh_b1 (z_X11_reckon S h a j7) (fun h13 => fh_let (fh_sI h13 j7 5 (0 : Int32)) (fun h15 => fh_let (y3 + 1) (fun v16 => z_X11_settled_b23 S a n h15 y1 y2 v16)))))))))))
def z_X11_settled (S : fh_S) (h : fh_H) (a : Nat) (x1 : Int32) : Option ((Nat ⊕ (Option Nat)) × fh_H) :=
    fh_b1 (z_X11_find S h a x1) (fun r1 => fh_nn r1 (some (Sum.inl 1, h)) (fun j3 => z_X11_settled_b23 S a 20000 h x1 j3 (0 : Int32)))
set_option maxHeartbeats 4000000 in
set_option maxRecDepth 100000 in
theorem k_X11_settled {l : Launch} {S : fh_S} {g : fh_G} {h h' : fh_H} {z : (Nat → Nat) × (Nat → Nat)} (hj : fh_inj S g) {a : Nat} {x1 : Int32} {r : (Nat ⊕ Option Nat)} (hlt : l.stackTraces = false) (ha : fh_kq S a 11 = true) (hsp : z_X11_settled S h a x1 = some (r, h')) : fx_Mx l yX11_settled cX11_settled 5 (some (.object "TermRows$Row")) 6 1 S g z [.ref (g.2.2 a), .int x1] h (fx_or g r) h' := by
  unfold z_X11_settled at hsp
  refine fz_headX (own := RX11) (by decide) rfl hj (Nat.le_of_ble_eq_true rfl) ?_
  intro p e s m below meth c ls C EX hno hr hlocks hR hl
  have hl : lv_has ls 5 [(0, .ref (g.2.2 a)), (1, .int x1)] := hl
  have hx := C.1.1
  have hb := C.1.2.1
  have hb_23 : ∀ (n : Nat) (h : fh_H) (y1 : Int32) (y2 : Nat) (y3 : Int32) (H : Heap) (locs : List Loc) (ls : Array Slot), z_X11_settled_b23 S a n h y1 y2 y3 = some (r, h') → fh_R S g s.heap h H locs → lv_has ls 5 [(0, .ref (g.2.2 a)), (1, .int y1), (2, .ref (g.2.2 y2)), (3, .int y3)] → fx_Wk p l e 6 1 0 s m [.ref (g.2.2 a), .int x1] below meth c S g (fx_or g r) h' H locs (F0 m 23 ls []) := by
    intro n
    induction n with
    | zero => intro h y1 y2 y3 H locs ls hsp; cases hsp
    | succ n ih =>
      intro h y1 y2 y3 H locs ls hsp hR hl
      rw [z_X11_settled_b23] at hsp
      refine lv_iload_n hx hb dX11_settled_23 rfl (lv_at hl 3 rfl) ?_
      refine lv_iload_n hx hb dX11_settled_24 rfl (lv_at hl 1 rfl) ?_
      refine lv_icmp_gt (tgt := 76) hx hb dX11_settled_25 (by decide) (fun c1 => ?_) (fun c1 => ?_)
      · rw [if_pos c1] at hsp
        refine lv_aload_n hx hb dX11_settled_76 rfl (lv_at hl 2 rfl) ?_
        obtain ⟨e1, e2⟩ := fr_s2 hsp
        exact fz_aret C hr hlocks hR e1 e2 (Nat.le_of_ble_eq_true rfl) (Nat.le_of_ble_eq_true rfl) dX11_settled_77
      · rw [if_neg c1] at hsp
        refine lv_iload_n hx hb dX11_settled_28 rfl (lv_at hl 3 rfl) ?_
        refine lv_aload_n hx hb dX11_settled_29 rfl (lv_at hl 0 rfl) ?_
        obtain ⟨j2, hv3, hsp⟩ := fr_b1 hsp
        refine fr_getr C hR ha Fg_RX11_11 rfl hv3 dX11_settled_30 ?_
        obtain ⟨hk4, hsp⟩ := fr_ck hsp
        refine fr_alen C hR hk4 (Or.inr (Or.inr (Or.inr rfl))) dX11_settled_33 ?_
        refine lv_icmp_ge (tgt := 76) hx hb dX11_settled_34 (by decide) (fun c5 => ?_) (fun c5 => ?_)
        · rw [if_pos c5] at hsp
          refine lv_aload_n hx hb dX11_settled_76 rfl (lv_at hl 2 rfl) ?_
          obtain ⟨e1, e2⟩ := fr_s2 hsp
          exact fz_aret C hr hlocks hR e1 e2 (Nat.le_of_ble_eq_true rfl) (Nat.le_of_ble_eq_true rfl) dX11_settled_77
        · rw [if_neg c5] at hsp
          refine lv_aload_n hx hb dX11_settled_37 rfl (lv_at hl 0 rfl) ?_
          refine fr_getr C hR ha Fg_RX11_11 rfl hv3 dX11_settled_38 ?_
          refine lv_iload_n hx hb dX11_settled_41 rfl (lv_at hl 3 rfl) ?_
          obtain ⟨hi6, hsp⟩ := fr_ck hsp
          rcases hv8 : (h.2.2 j2 (Int32.toNatClampNeg y3)) with _ | j7
          · rw [hv8] at hsp; have hsp := fr_nnN hsp
            refine fr_aaln C hR hk4 (Or.inr rfl) hi6 hv8 dX11_settled_42 ?_
            refine lv_astoreN (lv' := [(4, .null), (0, .ref (g.2.2 a)), (1, .int y1), (2, .ref (g.2.2 y2)), (3, .int y3)]) hx hb dX11_settled_43 hl (by decide) rfl (fun ls hl => ?_)
            refine lv_aloadN hx hb dX11_settled_45 (lv_at hl 0 rfl) ?_
            refine lv_ifnullN (tgt := 70) hx hb dX11_settled_47 (by decide) ?_
            obtain ⟨v9, ev9⟩ : ∃ z : Int32, z = y3 + 1 := ⟨_, rfl⟩
            have hsp := fr_let ev9 hsp
            refine lv_iinc (v := v9) (lv' := [(3, .int v9), (4, .null), (0, .ref (g.2.2 a)), (1, .int y1), (2, .ref (g.2.2 y2))]) hx hb dX11_settled_70 hl (k := 4) rfl (by rw [ev9]; rfl) (by decide) rfl (fun ls hl => ?_)
            refine lv_goto (tgt := 23) hx hb dX11_settled_73 (by decide) ?_
            refine W.widen (k := 0) (n := 6 * 0) (Nat.le_of_ble_eq_true rfl) (Nat.le_of_ble_eq_true rfl) ?_
            exact ih h y1 y2 v9 _ _ _ hsp hR (lv_sub hl [2, 3, 4, 0] rfl)
          · rw [hv8] at hsp; have hsp := fr_nnS hsp
            refine fr_aald C hR hk4 (Or.inr rfl) hi6 hv8 dX11_settled_42 ?_
            refine lv_astore (lv' := [(4, .ref (g.2.2 j7)), (0, .ref (g.2.2 a)), (1, .int y1), (2, .ref (g.2.2 y2)), (3, .int y3)]) hx hb dX11_settled_43 hl (by decide) rfl (fun ls hl => ?_)
            refine lv_aload hx hb dX11_settled_45 (lv_at hl 0 rfl) ?_
            refine lv_ifnull hx hb dX11_settled_47 ?_
            refine lv_aload hx hb dX11_settled_50 (lv_at hl 0 rfl) ?_
            obtain ⟨hk10, hsp⟩ := fr_ck hsp
            refine fr_geti C hR hk10 Fg_RX11_356 rfl dX11_settled_52 ?_
            refine lv_if_eq (tgt := 70) hx hb dX11_settled_55 (by decide) (fun c11 => ?_) (fun c11 => ?_)
            · rw [if_pos c11] at hsp
              obtain ⟨v12, ev12⟩ : ∃ z : Int32, z = y3 + 1 := ⟨_, rfl⟩
              have hsp := fr_let ev12 hsp
              refine lv_iinc (v := v12) (lv' := [(3, .int v12), (4, .ref (g.2.2 j7)), (0, .ref (g.2.2 a)), (1, .int y1), (2, .ref (g.2.2 y2))]) hx hb dX11_settled_70 hl (k := 4) rfl (by rw [ev12]; rfl) (by decide) rfl (fun ls hl => ?_)
              refine lv_goto (tgt := 23) hx hb dX11_settled_73 (by decide) ?_
              refine W.widen (k := 0) (n := 6 * 0) (Nat.le_of_ble_eq_true rfl) (Nat.le_of_ble_eq_true rfl) ?_
              exact ih h y1 y2 v12 _ _ _ hsp hR (lv_sub hl [2, 3, 4, 0] rfl)
            · rw [if_neg c11] at hsp
              refine lv_aload_n hx hb dX11_settled_58 rfl (lv_at hl 1 rfl) ?_
              refine lv_aload hx hb dX11_settled_59 (lv_at hl 0 rfl) ?_
              obtain ⟨h13, E14, hsp⟩ := fr_b1 hsp
              refine fq_callV (rest := []) (st1 := []) C hR (k_X11_reckon C.2.2 ha hk10 E14) Y_X11_reckon YV_X11_reckon Lk_RX11_359 ha ⟨_, _, rfl, by decide⟩ rfl hl.1 ⟨Nat.le_of_ble_eq_true rfl, Nat.le_of_ble_eq_true rfl⟩ rfl (Nat.le_of_ble_eq_true rfl) ⟨Nat.le_of_ble_eq_true rfl, Nat.le_of_ble_eq_true rfl⟩ rfl dX11_settled_61 (fun H locs hR => ?_)
              refine lv_aload hx hb dX11_settled_64 (lv_at hl 0 rfl) ?_
              refine lv_iconst (v := 0) hx hb dX11_settled_66 (by decide) ?_
              refine fr_putz C hR hk10 Fp_RX11_356 rfl (Or.inl rfl) dX11_settled_67 (fun H locs hR => ?_)
              obtain ⟨h15, eh15⟩ : ∃ z, z = fh_sI h13 j7 5 (0 : Int32) := ⟨_, rfl⟩
              rw [← eh15] at hR
              have hsp := fr_let eh15 hsp
              obtain ⟨v16, ev16⟩ : ∃ z : Int32, z = y3 + 1 := ⟨_, rfl⟩
              have hsp := fr_let ev16 hsp
              refine lv_iinc (v := v16) (lv' := [(3, .int v16), (4, .ref (g.2.2 j7)), (0, .ref (g.2.2 a)), (1, .int y1), (2, .ref (g.2.2 y2))]) hx hb dX11_settled_70 hl (k := 4) rfl (by rw [ev16]; rfl) (by decide) rfl (fun ls hl => ?_)
              refine lv_goto (tgt := 23) hx hb dX11_settled_73 (by decide) ?_
              refine W.widen (k := 0) (n := 6 * 0) (Nat.le_of_ble_eq_true rfl) (Nat.le_of_ble_eq_true rfl) ?_
              exact ih h15 y1 y2 v16 _ _ _ hsp hR (lv_sub hl [2, 3, 4, 0] rfl)
  refine lv_aload_n hx hb dX11_settled_0 rfl (lv_at hl 0 rfl) ?_
  refine lv_iload_n hx hb dX11_settled_1 rfl (lv_at hl 1 rfl) ?_
  obtain ⟨r1, E2, hsp⟩ := fr_b1 hsp
  refine fq_callV (rest := []) (st1 := [va_rf (Option.map g.2.2 r1)]) C hR (k_X11_find C.2.2 ha E2) Y_X11_find YV_X11_find Lk_RX11_87 ha ⟨_, _, rfl, by decide⟩ rfl hl.1 ⟨Nat.le_of_ble_eq_true rfl, Nat.le_of_ble_eq_true rfl⟩ rfl (Nat.le_of_ble_eq_true rfl) ⟨Nat.le_of_ble_eq_true rfl, Nat.le_of_ble_eq_true rfl⟩ rfl dX11_settled_2 (fun H locs hR => ?_)
  rcases r1 with _ | j3
  · have hsp := fr_nnN hsp
    refine W.eq (g2 := F0 m 5 ls [.null]) rfl ?_
    refine lv_astore_nN (lv' := [(2, .null), (0, .ref (g.2.2 a)), (1, .int x1)]) hx hb dX11_settled_5 rfl hl (by decide) rfl (fun ls hl => ?_)
    refine lv_aload_nN hx hb dX11_settled_6 rfl (lv_at hl 0 rfl) ?_
    refine lv_ifnonnullN hx hb dX11_settled_7 ?_
    obtain ⟨e1, e2⟩ := fr_s2 hsp
    exact fz_throwW (is := 354) (text := "no such row") 1 (Or.inr rfl) C EX hlt hno hlocks hR (congrArg (fx_or g) e1) e2 (List.mem_of_getElem? (i := 14) rfl) hl.1 ⟨Nat.le_of_ble_eq_true rfl, Nat.le_of_ble_eq_true rfl, Nat.le_of_ble_eq_true rfl⟩ ⟨Nat.le_of_ble_eq_true rfl, Nat.le_of_ble_eq_true rfl⟩ (Nat.le_of_ble_eq_true rfl) (Nat.le_of_ble_eq_true rfl) dX11_settled_10 dX11_settled_13 dX11_settled_14 dX11_settled_17 dX11_settled_20
  · have hsp := fr_nnS hsp
    refine W.eq (g2 := F0 m 5 ls [.ref (g.2.2 j3)]) rfl ?_
    refine lv_astore_n (lv' := [(2, .ref (g.2.2 j3)), (0, .ref (g.2.2 a)), (1, .int x1)]) hx hb dX11_settled_5 rfl hl (by decide) rfl (fun ls hl => ?_)
    refine lv_aload_n hx hb dX11_settled_6 rfl (lv_at hl 0 rfl) ?_
    refine lv_ifnonnull (tgt := 21) hx hb dX11_settled_7 (by decide) ?_
    refine lv_iconst (v := 0) hx hb dX11_settled_21 (by decide) ?_
    refine lv_istore_n (lv' := [(3, .int (0 : Int32)), (2, .ref (g.2.2 j3)), (0, .ref (g.2.2 a)), (1, .int x1)]) hx hb dX11_settled_22 rfl hl (by decide) rfl (fun ls hl => ?_)
    refine W.widen (k := 0) (n := 6 * 0) (Nat.le_of_ble_eq_true rfl) (Nat.le_of_ble_eq_true rfl) ?_
    exact hb_23 20000 h x1 j3 (0 : Int32) _ _ _ hsp hR (lv_sub hl [2, 3, 1, 0] rfl)

/-! TermRows.rowsThatStop(I)I -/
def z_X11_rowsThatStop_b11 (S : fh_S) (a : Nat) : Nat → fh_H → Int32 → Int32 → Int32 → Option ((Nat ⊕ Int32) × fh_H)
  | 0, _, _, _, _ => none
  | n + 1, h, y1, y2, y3 =>
    fh_b1 (h.2.2 a 0) (fun j1 => fh_ck (fh_kq S j1 16) (if (Int32.ofNat (S.2.2 j1)) ≤ y3 then (some (Sum.inr y2, h)) else (fh_ck (fh_in y3 (S.2.2 j1)) (fh_nn (h.2.2 j1 (Int32.toNatClampNeg y3)) (fh_let (y3 + 1) (fun v8 => z_X11_rowsThatStop_b11 S a n h y1 y2 v8)) (fun j6 => fh_ck (fh_kq S j6 6) (if (h.1 j6 7) = y1 then (fh_let (y2 + 1) (fun v12 => fh_let (y3 + 1) (fun v13 => z_X11_rowsThatStop_b11 S a n h y1 v12 v13))) else (fh_let (y3 + 1) (fun v11 => z_X11_rowsThatStop_b11 S a n h y1 y2 v11))))))))
def z_X11_rowsThatStop (S : fh_S) (h : fh_H) (a : Nat) (x1 : Int32) : Option ((Nat ⊕ Int32) × fh_H) :=
    fh_bx (z_X11_settled S h a (9 : Int32)) (fun r1 h2 => fh_b1 r1 (fun j4 => z_X11_rowsThatStop_b11 S a 20000 h2 x1 (0 : Int32) (0 : Int32)))
set_option maxHeartbeats 4000000 in
set_option maxRecDepth 100000 in
theorem k_X11_rowsThatStop {l : Launch} {S : fh_S} {g : fh_G} {h h' : fh_H} {z : (Nat → Nat) × (Nat → Nat)} (hj : fh_inj S g) {a : Nat} {x1 : Int32} {r : (Nat ⊕ Int32)} (hlt : l.stackTraces = false) (ha : fh_kq S a 11 = true) (hsp : z_X11_rowsThatStop S h a x1 = some (r, h')) : fx_Mx l yX11_rowsThatStop cX11_rowsThatStop 4 (some .int) 7 1 S g z [.ref (g.2.2 a), .int x1] h (fx_oi r) h' := by
  unfold z_X11_rowsThatStop at hsp
  refine fz_headX (own := RX11) (by decide) rfl hj (Nat.le_of_ble_eq_true rfl) ?_
  intro p e s m below meth c ls C EX hno hr hlocks hR hl
  have hl : lv_has ls 4 [(0, .ref (g.2.2 a)), (1, .int x1)] := hl
  have hx := C.1.1
  have hb := C.1.2.1
  have hb_11 : ∀ (n : Nat) (h : fh_H) (y1 : Int32) (y2 : Int32) (y3 : Int32) (H : Heap) (locs : List Loc) (ls : Array Slot), z_X11_rowsThatStop_b11 S a n h y1 y2 y3 = some (r, h') → fh_R S g s.heap h H locs → lv_has ls 4 [(0, .ref (g.2.2 a)), (1, .int y1), (2, .int y2), (3, .int y3)] → fx_Wk p l e 7 1 1 s m [.ref (g.2.2 a), .int x1] below meth c S g (fx_oi r) h' H locs (F0 m 11 ls []) := by
    intro n
    induction n with
    | zero => intro h y1 y2 y3 H locs ls hsp; cases hsp
    | succ n ih =>
      intro h y1 y2 y3 H locs ls hsp hR hl
      rw [z_X11_rowsThatStop_b11] at hsp
      refine lv_iload_n hx hb dX11_rowsThatStop_11 rfl (lv_at hl 3 rfl) ?_
      refine lv_aload_n hx hb dX11_rowsThatStop_12 rfl (lv_at hl 0 rfl) ?_
      obtain ⟨j1, hv2, hsp⟩ := fr_b1 hsp
      refine fr_getr C hR ha Fg_RX11_11 rfl hv2 dX11_rowsThatStop_13 ?_
      obtain ⟨hk3, hsp⟩ := fr_ck hsp
      refine fr_alen C hR hk3 (Or.inr (Or.inr (Or.inr rfl))) dX11_rowsThatStop_16 ?_
      refine lv_icmp_ge (tgt := 51) hx hb dX11_rowsThatStop_17 (by decide) (fun c4 => ?_) (fun c4 => ?_)
      · rw [if_pos c4] at hsp
        refine lv_iload_n hx hb dX11_rowsThatStop_51 rfl (lv_at hl 2 rfl) ?_
        obtain ⟨e1, e2⟩ := fr_s2 hsp
        exact fz_iret C hr hlocks hR e1 e2 (Nat.le_of_ble_eq_true rfl) (Nat.le_of_ble_eq_true rfl) dX11_rowsThatStop_52
      · rw [if_neg c4] at hsp
        refine lv_aload_n hx hb dX11_rowsThatStop_20 rfl (lv_at hl 0 rfl) ?_
        refine fr_getr C hR ha Fg_RX11_11 rfl hv2 dX11_rowsThatStop_21 ?_
        refine lv_iload_n hx hb dX11_rowsThatStop_24 rfl (lv_at hl 3 rfl) ?_
        obtain ⟨hi5, hsp⟩ := fr_ck hsp
        rcases hv7 : (h.2.2 j1 (Int32.toNatClampNeg y3)) with _ | j6
        · rw [hv7] at hsp; have hsp := fr_nnN hsp
          refine fr_aaln C hR hk3 (Or.inr rfl) hi5 hv7 dX11_rowsThatStop_25 ?_
          refine lv_ifnullN (tgt := 45) hx hb dX11_rowsThatStop_26 (by decide) ?_
          obtain ⟨v8, ev8⟩ : ∃ z : Int32, z = y3 + 1 := ⟨_, rfl⟩
          have hsp := fr_let ev8 hsp
          refine lv_iinc (v := v8) (lv' := [(3, .int v8), (0, .ref (g.2.2 a)), (1, .int y1), (2, .int y2)]) hx hb dX11_rowsThatStop_45 hl (k := 3) rfl (by rw [ev8]; rfl) (by decide) rfl (fun ls hl => ?_)
          refine lv_goto (tgt := 11) hx hb dX11_rowsThatStop_48 (by decide) ?_
          refine W.widen (k := 1) (n := 6 * 1) (Nat.le_of_ble_eq_true rfl) (Nat.le_of_ble_eq_true rfl) ?_
          exact ih h y1 y2 v8 _ _ _ hsp hR (lv_sub hl [1, 2, 3, 0] rfl)
        · rw [hv7] at hsp; have hsp := fr_nnS hsp
          refine fr_aald C hR hk3 (Or.inr rfl) hi5 hv7 dX11_rowsThatStop_25 ?_
          refine lv_ifnull hx hb dX11_rowsThatStop_26 ?_
          refine lv_aload_n hx hb dX11_rowsThatStop_29 rfl (lv_at hl 0 rfl) ?_
          refine fr_getr C hR ha Fg_RX11_11 rfl hv2 dX11_rowsThatStop_30 ?_
          refine lv_iload_n hx hb dX11_rowsThatStop_33 rfl (lv_at hl 3 rfl) ?_
          refine fr_aald C hR hk3 (Or.inr rfl) hi5 hv7 dX11_rowsThatStop_34 ?_
          obtain ⟨hk9, hsp⟩ := fr_ck hsp
          refine fr_geti C hR hk9 Fg_RX11_178 rfl dX11_rowsThatStop_35 ?_
          refine lv_iload_n hx hb dX11_rowsThatStop_38 rfl (lv_at hl 1 rfl) ?_
          refine lv_icmp_ne (tgt := 45) hx hb dX11_rowsThatStop_39 (by decide) (fun c10 => ?_) (fun c10 => ?_)
          · rw [if_neg c10] at hsp
            obtain ⟨v11, ev11⟩ : ∃ z : Int32, z = y3 + 1 := ⟨_, rfl⟩
            have hsp := fr_let ev11 hsp
            refine lv_iinc (v := v11) (lv' := [(3, .int v11), (0, .ref (g.2.2 a)), (1, .int y1), (2, .int y2)]) hx hb dX11_rowsThatStop_45 hl (k := 3) rfl (by rw [ev11]; rfl) (by decide) rfl (fun ls hl => ?_)
            refine lv_goto (tgt := 11) hx hb dX11_rowsThatStop_48 (by decide) ?_
            refine W.widen (k := 1) (n := 6 * 1) (Nat.le_of_ble_eq_true rfl) (Nat.le_of_ble_eq_true rfl) ?_
            exact ih h y1 y2 v11 _ _ _ hsp hR (lv_sub hl [1, 2, 3, 0] rfl)
          · rw [if_pos c10] at hsp
            obtain ⟨v12, ev12⟩ : ∃ z : Int32, z = y2 + 1 := ⟨_, rfl⟩
            have hsp := fr_let ev12 hsp
            refine lv_iinc (v := v12) (lv' := [(2, .int v12), (0, .ref (g.2.2 a)), (1, .int y1), (3, .int y3)]) hx hb dX11_rowsThatStop_42 hl (k := 2) rfl (by rw [ev12]; rfl) (by decide) rfl (fun ls hl => ?_)
            obtain ⟨v13, ev13⟩ : ∃ z : Int32, z = y3 + 1 := ⟨_, rfl⟩
            have hsp := fr_let ev13 hsp
            refine lv_iinc (v := v13) (lv' := [(3, .int v13), (2, .int v12), (0, .ref (g.2.2 a)), (1, .int y1)]) hx hb dX11_rowsThatStop_45 hl (k := 3) rfl (by rw [ev13]; rfl) (by decide) rfl (fun ls hl => ?_)
            refine lv_goto (tgt := 11) hx hb dX11_rowsThatStop_48 (by decide) ?_
            refine W.widen (k := 1) (n := 6 * 1) (Nat.le_of_ble_eq_true rfl) (Nat.le_of_ble_eq_true rfl) ?_
            exact ih h y1 v12 v13 _ _ _ hsp hR (lv_sub hl [2, 3, 1, 0] rfl)
  refine lv_aload_n hx hb dX11_rowsThatStop_0 rfl (lv_at hl 0 rfl) ?_
  refine lv_bipush (v := 9) hx hb dX11_rowsThatStop_1 (by decide) ?_
  rcases fr_bx hsp with ⟨r1, h2, E3, hsp⟩ | ⟨r1, h2, E3, hsp⟩
  · obtain ⟨e1, e2⟩ := fr_s2 hsp
    exact fz_xVo (k := r1) (rest := []) C EX hR (k_X11_settled C.2.2 hlt ha E3) Y_X11_settled YV_X11_settled Lk_RX11_127 (fz_rv C hR ha ⟨_, _, rfl, by decide⟩) rfl hl.1 ⟨Nat.le_of_ble_eq_true rfl, Nat.le_of_ble_eq_true rfl⟩ rfl (Nat.le_of_ble_eq_true rfl) ⟨Nat.le_of_ble_eq_true rfl, Nat.le_of_ble_eq_true rfl⟩ dX11_rowsThatStop_3 hno hlocks (congrArg fx_oi e1) e2 (Nat.le_of_ble_eq_true rfl) (Nat.le_of_ble_eq_true rfl)
  refine fz_xVr (rest := []) (st1 := [va_rf (Option.map g.2.2 r1)]) C EX hR (k_X11_settled C.2.2 hlt ha E3) Y_X11_settled YV_X11_settled Lk_RX11_127 (fz_rv C hR ha ⟨_, _, rfl, by decide⟩) rfl hl.1 ⟨Nat.le_of_ble_eq_true rfl, Nat.le_of_ble_eq_true rfl⟩ rfl (Nat.le_of_ble_eq_true rfl) ⟨Nat.le_of_ble_eq_true rfl, Nat.le_of_ble_eq_true rfl⟩ rfl dX11_rowsThatStop_3 (fun H locs hR => ?_)
  obtain ⟨j4, ej4, hq⟩ := fr_b1 hsp
  subst ej4
  have hsp := hq
  refine W.eq (g2 := F0 m 6 ls [.ref (g.2.2 j4)]) rfl ?_
  refine lv_pop hx hb dX11_rowsThatStop_6 rfl ?_
  refine lv_iconst (v := 0) hx hb dX11_rowsThatStop_7 (by decide) ?_
  refine lv_istore_n (lv' := [(2, .int (0 : Int32)), (0, .ref (g.2.2 a)), (1, .int x1)]) hx hb dX11_rowsThatStop_8 rfl hl (by decide) rfl (fun ls hl => ?_)
  refine lv_iconst (v := 0) hx hb dX11_rowsThatStop_9 (by decide) ?_
  refine lv_istore_n (lv' := [(3, .int (0 : Int32)), (2, .int (0 : Int32)), (0, .ref (g.2.2 a)), (1, .int x1)]) hx hb dX11_rowsThatStop_10 rfl hl (by decide) rfl (fun ls hl => ?_)
  refine W.widen (k := 1) (n := 6 * 1) (Nat.le_of_ble_eq_true rfl) (Nat.le_of_ble_eq_true rfl) ?_
  exact hb_11 20000 h2 x1 (0 : Int32) (0 : Int32) _ _ _ hsp hR (lv_sub hl [2, 3, 1, 0] rfl)

/-! TermRows.told(II)I -/
def z_X11_told (S : fh_S) (h : fh_H) (a : Nat) (x1 : Int32) (x2 : Int32) : Option ((Nat ⊕ Int32) × fh_H) :=
    fh_b1 (z_X11_find S h a x1) (fun r1 => fh_nn r1 (some (Sum.inl 0, h)) (fun j3 => if x2 < 0 then (some (Sum.inl 0, h)) else (fh_b1 (h.2.2 a 6) (fun j5 => fh_ck (fh_kq S j5 10) (if x2 ≤ (h.1 j5 6) then (fh_b1 (z_X10_open S h j5 x2) (fun h9 => fh_b1 (h9.2.2 a 7) (fun j11 => fh_ck (fh_kq S j11 7) (fh_b1 (z_X7_parse S h9 j11) (fun h14 => fh_b1 (h14.2.2 a 6) (fun j16 => fh_ck (fh_kq S j16 10) (fh_b1 (z_X10_empty S h14 j16) (fun h19 => fh_b1 (h19.2.2 a 6) (fun j21 => fh_ck (fh_kq S j21 10) (if (h19.1 j21 7) = 0 then (fh_ck (fh_kq S j3 6) (fh_b2 (z_X11_act S h19 a j3) (fun r26 h27 => fh_b1 r26 (fun j29 => fh_ck (fh_kq S j29 3) (fh_b1 (z_X3_become S h27 j29 (2 : Int32) (0 : Int32) (0 : Int32) (0 : Int32) (0 : Int32) (0 : Int32) (0 : Int32)) (fun h31 => fh_b1 (h31.2.2 a 7) (fun j33 => fh_ck (fh_kq S j33 7) (fh_b1 (z_X7_tellTo S h31 j33 j29) (fun h36 => fh_b1 (h36.2.2 a 7) (fun j38 => fh_ck (fh_kq S j38 7) (some (Sum.inr (h36.1 j38 3), h36)))))))))))) else (some (Sum.inr ((-10 : Int32) - (h19.1 j21 7)), h19)))))))))))) else (some (Sum.inl 0, h)))))))
set_option maxHeartbeats 4000000 in
set_option maxRecDepth 100000 in
theorem k_X11_told {l : Launch} {S : fh_S} {g : fh_G} {h h' : fh_H} {z : (Nat → Nat) × (Nat → Nat)} (hj : fh_inj S g) {a : Nat} {x1 : Int32} {x2 : Int32} {r : (Nat ⊕ Int32)} (hlt : l.stackTraces = false) (ha : fh_kq S a 11 = true) (hsp : z_X11_told S h a x1 x2 = some (r, h')) : fx_Mx l yX11_told cX11_told 5 (some .int) 10 1 S g z [.ref (g.2.2 a), .int x1, .int x2] h (fx_oi r) h' := by
  unfold z_X11_told at hsp
  refine fz_headX (own := RX11) (by decide) rfl hj (Nat.le_of_ble_eq_true rfl) ?_
  intro p e s m below meth c ls C EX hno hr hlocks hR hl
  have hl : lv_has ls 5 [(0, .ref (g.2.2 a)), (1, .int x1), (2, .int x2)] := hl
  have hx := C.1.1
  have hb := C.1.2.1
  refine lv_aload_n hx hb dX11_told_0 rfl (lv_at hl 0 rfl) ?_
  refine lv_iload_n hx hb dX11_told_1 rfl (lv_at hl 1 rfl) ?_
  obtain ⟨r1, E2, hsp⟩ := fr_b1 hsp
  refine fq_callV (rest := []) (st1 := [va_rf (Option.map g.2.2 r1)]) C hR (k_X11_find C.2.2 ha E2) Y_X11_find YV_X11_find Lk_RX11_87 ha ⟨_, _, rfl, by decide⟩ rfl hl.1 ⟨Nat.le_of_ble_eq_true rfl, Nat.le_of_ble_eq_true rfl⟩ rfl (Nat.le_of_ble_eq_true rfl) ⟨Nat.le_of_ble_eq_true rfl, Nat.le_of_ble_eq_true rfl⟩ rfl dX11_told_2 (fun H locs hR => ?_)
  rcases r1 with _ | j3
  · have hsp := fr_nnN hsp
    refine W.eq (g2 := F0 m 5 ls [.null]) rfl ?_
    refine lv_astore_nN (lv' := [(3, .null), (0, .ref (g.2.2 a)), (1, .int x1), (2, .int x2)]) hx hb dX11_told_5 rfl hl (by decide) rfl (fun ls hl => ?_)
    refine lv_aload_nN hx hb dX11_told_6 rfl (lv_at hl 0 rfl) ?_
    refine lv_ifnullN (tgt := 25) hx hb dX11_told_7 (by decide) ?_
    obtain ⟨e1, e2⟩ := fr_s2 hsp
    exact fz_throw (is := 93) (text := "no such row, or not so many bytes") 0 (Or.inl rfl) C EX hlt hno hlocks hR (congrArg fx_oi e1) e2 (List.mem_of_getElem? (i := 0) rfl) hl.1 ⟨Nat.le_of_ble_eq_true rfl, Nat.le_of_ble_eq_true rfl, Nat.le_of_ble_eq_true rfl⟩ ⟨Nat.le_of_ble_eq_true rfl, Nat.le_of_ble_eq_true rfl⟩ (Nat.le_of_ble_eq_true rfl) (Nat.le_of_ble_eq_true rfl) dX11_told_25 dX11_told_28 dX11_told_29 dX11_told_31 dX11_told_34
  · have hsp := fr_nnS hsp
    refine W.eq (g2 := F0 m 5 ls [.ref (g.2.2 j3)]) rfl ?_
    refine lv_astore_n (lv' := [(3, .ref (g.2.2 j3)), (0, .ref (g.2.2 a)), (1, .int x1), (2, .int x2)]) hx hb dX11_told_5 rfl hl (by decide) rfl (fun ls hl => ?_)
    refine lv_aload_n hx hb dX11_told_6 rfl (lv_at hl 0 rfl) ?_
    refine lv_ifnull hx hb dX11_told_7 ?_
    refine lv_iload_n hx hb dX11_told_10 rfl (lv_at hl 3 rfl) ?_
    refine lv_if_lt (tgt := 25) hx hb dX11_told_11 (by decide) (fun c4 => ?_) (fun c4 => ?_)
    · rw [if_pos c4] at hsp
      obtain ⟨e1, e2⟩ := fr_s2 hsp
      exact fz_throw (is := 93) (text := "no such row, or not so many bytes") 0 (Or.inl rfl) C EX hlt hno hlocks hR (congrArg fx_oi e1) e2 (List.mem_of_getElem? (i := 0) rfl) hl.1 ⟨Nat.le_of_ble_eq_true rfl, Nat.le_of_ble_eq_true rfl, Nat.le_of_ble_eq_true rfl⟩ ⟨Nat.le_of_ble_eq_true rfl, Nat.le_of_ble_eq_true rfl⟩ (Nat.le_of_ble_eq_true rfl) (Nat.le_of_ble_eq_true rfl) dX11_told_25 dX11_told_28 dX11_told_29 dX11_told_31 dX11_told_34
    · rw [if_neg c4] at hsp
      refine lv_iload_n hx hb dX11_told_14 rfl (lv_at hl 3 rfl) ?_
      refine lv_aload_n hx hb dX11_told_15 rfl (lv_at hl 1 rfl) ?_
      obtain ⟨j5, hv6, hsp⟩ := fr_b1 hsp
      refine fr_getr C hR ha Fg_RX11_53 rfl hv6 dX11_told_16 ?_
      obtain ⟨hk7, hsp⟩ := fr_ck hsp
      refine fr_geti C hR hk7 Fg_RX11_80 rfl dX11_told_19 ?_
      refine lv_icmp_le (tgt := 35) hx hb dX11_told_22 (by decide) (fun c8 => ?_) (fun c8 => ?_)
      · rw [if_pos c8] at hsp
        refine lv_aload_n hx hb dX11_told_35 rfl (lv_at hl 1 rfl) ?_
        refine fr_getr C hR ha Fg_RX11_53 rfl hv6 dX11_told_36 ?_
        refine lv_iload_n hx hb dX11_told_39 rfl (lv_at hl 3 rfl) ?_
        obtain ⟨h9, E10, hsp⟩ := fr_b1 hsp
        refine fz_cV (rest := []) (st1 := []) C EX hR (k_X10_open C.2.2 hk7 E10) Y_X10_open YV_X10_open Lk_RX11_98 (fz_rv C hR hk7 ⟨_, _, rfl, by decide⟩) rfl hl.1 ⟨Nat.le_of_ble_eq_true rfl, Nat.le_of_ble_eq_true rfl⟩ rfl (Nat.le_of_ble_eq_true rfl) ⟨Nat.le_of_ble_eq_true rfl, Nat.le_of_ble_eq_true rfl⟩ rfl dX11_told_40 (fun H locs hR => ?_)
        refine lv_aload_n hx hb dX11_told_43 rfl (lv_at hl 1 rfl) ?_
        obtain ⟨j11, hv12, hsp⟩ := fr_b1 hsp
        refine fr_getr C hR ha Fg_RX11_62 rfl hv12 dX11_told_44 ?_
        obtain ⟨hk13, hsp⟩ := fr_ck hsp
        obtain ⟨h14, E15, hsp⟩ := fr_b1 hsp
        refine fq_callV (rest := []) (st1 := []) C hR (k_X7_parse C.2.2 hk13 E15) Y_X7_parse YV_X7_parse Lk_RX11_101 hk13 ⟨_, _, rfl, by decide⟩ rfl hl.1 ⟨Nat.le_of_ble_eq_true rfl, Nat.le_of_ble_eq_true rfl⟩ rfl (Nat.le_of_ble_eq_true rfl) ⟨Nat.le_of_ble_eq_true rfl, Nat.le_of_ble_eq_true rfl⟩ rfl dX11_told_47 (fun H locs hR => ?_)
        refine lv_aload_n hx hb dX11_told_50 rfl (lv_at hl 1 rfl) ?_
        obtain ⟨j16, hv17, hsp⟩ := fr_b1 hsp
        refine fr_getr C hR ha Fg_RX11_53 rfl hv17 dX11_told_51 ?_
        obtain ⟨hk18, hsp⟩ := fr_ck hsp
        obtain ⟨h19, E20, hsp⟩ := fr_b1 hsp
        refine fq_callV (rest := []) (st1 := []) C hR (k_X10_empty C.2.2 hk18 E20) Y_X10_empty YV_X10_empty Lk_RX11_104 hk18 ⟨_, _, rfl, by decide⟩ rfl hl.1 ⟨Nat.le_of_ble_eq_true rfl, Nat.le_of_ble_eq_true rfl⟩ rfl (Nat.le_of_ble_eq_true rfl) ⟨Nat.le_of_ble_eq_true rfl, Nat.le_of_ble_eq_true rfl⟩ rfl dX11_told_54 (fun H locs hR => ?_)
        refine lv_aload_n hx hb dX11_told_57 rfl (lv_at hl 1 rfl) ?_
        obtain ⟨j21, hv22, hsp⟩ := fr_b1 hsp
        refine fr_getr C hR ha Fg_RX11_53 rfl hv22 dX11_told_58 ?_
        obtain ⟨hk23, hsp⟩ := fr_ck hsp
        refine fr_geti C hR hk23 Fg_RX11_107 rfl dX11_told_61 ?_
        refine lv_if_eq (tgt := 78) hx hb dX11_told_64 (by decide) (fun c24 => ?_) (fun c24 => ?_)
        · rw [if_pos c24] at hsp
          refine lv_aload_n hx hb dX11_told_78 rfl (lv_at hl 1 rfl) ?_
          refine lv_aload_n hx hb dX11_told_79 rfl (lv_at hl 0 rfl) ?_
          obtain ⟨hk25, hsp⟩ := fr_ck hsp
          obtain ⟨r26, h27, E28, hsp⟩ := fr_b2 hsp
          refine fq_callV (rest := []) (st1 := [va_rf (Option.map g.2.2 r26)]) C hR (k_X11_act C.2.2 ha hk25 E28) Y_X11_act YV_X11_act Lk_RX11_110 ha ⟨_, _, rfl, by decide⟩ rfl hl.1 ⟨Nat.le_of_ble_eq_true rfl, Nat.le_of_ble_eq_true rfl⟩ rfl (Nat.le_of_ble_eq_true rfl) ⟨Nat.le_of_ble_eq_true rfl, Nat.le_of_ble_eq_true rfl⟩ rfl dX11_told_80 (fun H locs hR => ?_)
          obtain ⟨j29, rfl, hsp⟩ := fr_b1 hsp
          refine W.eq (g2 := F0 m 83 ls [.ref (g.2.2 j29)]) rfl ?_
          refine lv_astore (lv' := [(4, .ref (g.2.2 j29)), (3, .ref (g.2.2 j3)), (0, .ref (g.2.2 a)), (1, .int x1), (2, .int x2)]) hx hb dX11_told_83 hl (by decide) rfl (fun ls hl => ?_)
          refine lv_aload hx hb dX11_told_85 (lv_at hl 0 rfl) ?_
          refine lv_iconst (v := 2) hx hb dX11_told_87 (by decide) ?_
          refine lv_iconst (v := 0) hx hb dX11_told_88 (by decide) ?_
          refine lv_iconst (v := 0) hx hb dX11_told_89 (by decide) ?_
          refine lv_iconst (v := 0) hx hb dX11_told_90 (by decide) ?_
          refine lv_iconst (v := 0) hx hb dX11_told_91 (by decide) ?_
          refine lv_iconst (v := 0) hx hb dX11_told_92 (by decide) ?_
          refine lv_iconst (v := 0) hx hb dX11_told_93 (by decide) ?_
          obtain ⟨hk30, hsp⟩ := fr_ck hsp
          obtain ⟨h31, E32, hsp⟩ := fr_b1 hsp
          refine fq_callV (rest := []) (st1 := []) C hR (k_X3_become C.2.2 hk30 E32) Y_X3_become YV_X3_become Lk_RX11_114 hk30 ⟨_, _, rfl, by decide⟩ rfl hl.1 ⟨Nat.le_of_ble_eq_true rfl, Nat.le_of_ble_eq_true rfl⟩ rfl (Nat.le_of_ble_eq_true rfl) ⟨Nat.le_of_ble_eq_true rfl, Nat.le_of_ble_eq_true rfl⟩ rfl dX11_told_94 (fun H locs hR => ?_)
          refine lv_aload_n hx hb dX11_told_97 rfl (lv_at hl 2 rfl) ?_
          obtain ⟨j33, hv34, hsp⟩ := fr_b1 hsp
          refine fr_getr C hR ha Fg_RX11_62 rfl hv34 dX11_told_98 ?_
          refine lv_aload hx hb dX11_told_101 (lv_at hl 0 rfl) ?_
          obtain ⟨hk35, hsp⟩ := fr_ck hsp
          obtain ⟨h36, E37, hsp⟩ := fr_b1 hsp
          refine fq_callV (rest := []) (st1 := []) C hR (k_X7_tellTo C.2.2 hk35 hk30 E37) Y_X7_tellTo YV_X7_tellTo Lk_RX11_120 hk35 ⟨_, _, rfl, by decide⟩ rfl hl.1 ⟨Nat.le_of_ble_eq_true rfl, Nat.le_of_ble_eq_true rfl⟩ rfl (Nat.le_of_ble_eq_true rfl) ⟨Nat.le_of_ble_eq_true rfl, Nat.le_of_ble_eq_true rfl⟩ rfl dX11_told_103 (fun H locs hR => ?_)
          refine lv_aload_n hx hb dX11_told_106 rfl (lv_at hl 2 rfl) ?_
          obtain ⟨j38, hv39, hsp⟩ := fr_b1 hsp
          refine fr_getr C hR ha Fg_RX11_62 rfl hv39 dX11_told_107 ?_
          obtain ⟨hk40, hsp⟩ := fr_ck hsp
          refine fr_geti C hR hk40 Fg_RX11_124 rfl dX11_told_110 ?_
          obtain ⟨e1, e2⟩ := fr_s2 hsp
          exact fz_iret C hr hlocks hR e1 e2 (Nat.le_of_ble_eq_true rfl) (Nat.le_of_ble_eq_true rfl) dX11_told_113
        · rw [if_neg c24] at hsp
          refine lv_bipush (v := -10) hx hb dX11_told_67 (by decide) ?_
          refine lv_aload_n hx hb dX11_told_69 rfl (lv_at hl 1 rfl) ?_
          refine fr_getr C hR ha Fg_RX11_53 rfl hv22 dX11_told_70 ?_
          refine fr_geti C hR hk23 Fg_RX11_107 rfl dX11_told_73 ?_
          refine lv_isub hx hb dX11_told_76 ?_
          obtain ⟨e1, e2⟩ := fr_s2 hsp
          exact fz_iret C hr hlocks hR e1 e2 (Nat.le_of_ble_eq_true rfl) (Nat.le_of_ble_eq_true rfl) dX11_told_77
      · rw [if_neg c8] at hsp
        obtain ⟨e1, e2⟩ := fr_s2 hsp
        exact fz_throw (is := 93) (text := "no such row, or not so many bytes") 0 (Or.inl rfl) C EX hlt hno hlocks hR (congrArg fx_oi e1) e2 (List.mem_of_getElem? (i := 0) rfl) hl.1 ⟨Nat.le_of_ble_eq_true rfl, Nat.le_of_ble_eq_true rfl, Nat.le_of_ble_eq_true rfl⟩ ⟨Nat.le_of_ble_eq_true rfl, Nat.le_of_ble_eq_true rfl⟩ (Nat.le_of_ble_eq_true rfl) (Nat.le_of_ble_eq_true rfl) dX11_told_25 dX11_told_28 dX11_told_29 dX11_told_31 dX11_told_34

/-! TermRows.ask(II)I -/
def z_X11_ask (S : fh_S) (h : fh_H) (a : Nat) (x1 : Int32) (x2 : Int32) : Option ((Nat ⊕ Int32) × fh_H) :=
    fh_b1 (z_X11_find S h a x1) (fun r1 => fh_nn r1 (some (Sum.inl 0, h)) (fun j3 => if x2 < 0 then (some (Sum.inl 0, h)) else (fh_b1 (h.2.2 a 6) (fun j5 => fh_ck (fh_kq S j5 10) (if x2 ≤ (h.1 j5 6) then (fh_b1 (z_X10_open S h j5 x2) (fun h9 => fh_b1 (h9.2.2 a 8) (fun j11 => fh_bx (z_X11_settled S h9 a x1) (fun r13 h14 => fh_b1 r13 (fun j16 => fh_ck (fh_kq S j11 4) (fh_ck (fh_kq S j16 6) (fh_b2 (z_X4_answer S h14 j11 j16) (fun r19 h20 => fh_b1 (h20.2.2 a 6) (fun j22 => fh_ck (fh_kq S j22 10) (fh_b1 (z_X10_empty S h20 j22) (fun h25 => some (Sum.inr r19, h25)))))))))))) else (some (Sum.inl 0, h)))))))
set_option maxHeartbeats 4000000 in
set_option maxRecDepth 100000 in
theorem k_X11_ask {l : Launch} {S : fh_S} {g : fh_G} {h h' : fh_H} {z : (Nat → Nat) × (Nat → Nat)} (hj : fh_inj S g) {a : Nat} {x1 : Int32} {x2 : Int32} {r : (Nat ⊕ Int32)} (hlt : l.stackTraces = false) (ha : fh_kq S a 11 = true) (hsp : z_X11_ask S h a x1 x2 = some (r, h')) : fx_Mx l yX11_ask cX11_ask 4 (some .int) 88 2 S g z [.ref (g.2.2 a), .int x1, .int x2] h (fx_oi r) h' := by
  unfold z_X11_ask at hsp
  refine fz_headX (own := RX11) (by decide) rfl hj (Nat.le_of_ble_eq_true rfl) ?_
  intro p e s m below meth c ls C EX hno hr hlocks hR hl
  have hl : lv_has ls 4 [(0, .ref (g.2.2 a)), (1, .int x1), (2, .int x2)] := hl
  have hx := C.1.1
  have hb := C.1.2.1
  refine lv_aload_n hx hb dX11_ask_0 rfl (lv_at hl 0 rfl) ?_
  refine lv_iload_n hx hb dX11_ask_1 rfl (lv_at hl 1 rfl) ?_
  obtain ⟨r1, E2, hsp⟩ := fr_b1 hsp
  refine fq_callV (rest := []) (st1 := [va_rf (Option.map g.2.2 r1)]) C hR (k_X11_find C.2.2 ha E2) Y_X11_find YV_X11_find Lk_RX11_87 ha ⟨_, _, rfl, by decide⟩ rfl hl.1 ⟨Nat.le_of_ble_eq_true rfl, Nat.le_of_ble_eq_true rfl⟩ rfl (Nat.le_of_ble_eq_true rfl) ⟨Nat.le_of_ble_eq_true rfl, Nat.le_of_ble_eq_true rfl⟩ rfl dX11_ask_2 (fun H locs hR => ?_)
  rcases r1 with _ | j3
  · have hsp := fr_nnN hsp
    refine W.eq (g2 := F0 m 5 ls [.null]) rfl ?_
    refine lv_ifnullN (tgt := 23) hx hb dX11_ask_5 (by decide) ?_
    obtain ⟨e1, e2⟩ := fr_s2 hsp
    exact fz_throw (is := 93) (text := "no such row, or not so many bytes") 0 (Or.inl rfl) C EX hlt hno hlocks hR (congrArg fx_oi e1) e2 (List.mem_of_getElem? (i := 0) rfl) hl.1 ⟨Nat.le_of_ble_eq_true rfl, Nat.le_of_ble_eq_true rfl, Nat.le_of_ble_eq_true rfl⟩ ⟨Nat.le_of_ble_eq_true rfl, Nat.le_of_ble_eq_true rfl⟩ (Nat.le_of_ble_eq_true rfl) (Nat.le_of_ble_eq_true rfl) dX11_ask_23 dX11_ask_26 dX11_ask_27 dX11_ask_29 dX11_ask_32
  · have hsp := fr_nnS hsp
    refine W.eq (g2 := F0 m 5 ls [.ref (g.2.2 j3)]) rfl ?_
    refine lv_ifnull hx hb dX11_ask_5 ?_
    refine lv_iload_n hx hb dX11_ask_8 rfl (lv_at hl 2 rfl) ?_
    refine lv_if_lt (tgt := 23) hx hb dX11_ask_9 (by decide) (fun c4 => ?_) (fun c4 => ?_)
    · rw [if_pos c4] at hsp
      obtain ⟨e1, e2⟩ := fr_s2 hsp
      exact fz_throw (is := 93) (text := "no such row, or not so many bytes") 0 (Or.inl rfl) C EX hlt hno hlocks hR (congrArg fx_oi e1) e2 (List.mem_of_getElem? (i := 0) rfl) hl.1 ⟨Nat.le_of_ble_eq_true rfl, Nat.le_of_ble_eq_true rfl, Nat.le_of_ble_eq_true rfl⟩ ⟨Nat.le_of_ble_eq_true rfl, Nat.le_of_ble_eq_true rfl⟩ (Nat.le_of_ble_eq_true rfl) (Nat.le_of_ble_eq_true rfl) dX11_ask_23 dX11_ask_26 dX11_ask_27 dX11_ask_29 dX11_ask_32
    · rw [if_neg c4] at hsp
      refine lv_iload_n hx hb dX11_ask_12 rfl (lv_at hl 2 rfl) ?_
      refine lv_aload_n hx hb dX11_ask_13 rfl (lv_at hl 0 rfl) ?_
      obtain ⟨j5, hv6, hsp⟩ := fr_b1 hsp
      refine fr_getr C hR ha Fg_RX11_53 rfl hv6 dX11_ask_14 ?_
      obtain ⟨hk7, hsp⟩ := fr_ck hsp
      refine fr_geti C hR hk7 Fg_RX11_80 rfl dX11_ask_17 ?_
      refine lv_icmp_le (tgt := 33) hx hb dX11_ask_20 (by decide) (fun c8 => ?_) (fun c8 => ?_)
      · rw [if_pos c8] at hsp
        refine lv_aload_n hx hb dX11_ask_33 rfl (lv_at hl 0 rfl) ?_
        refine fr_getr C hR ha Fg_RX11_53 rfl hv6 dX11_ask_34 ?_
        refine lv_iload_n hx hb dX11_ask_37 rfl (lv_at hl 2 rfl) ?_
        obtain ⟨h9, E10, hsp⟩ := fr_b1 hsp
        refine fz_cV (rest := []) (st1 := []) C EX hR (k_X10_open C.2.2 hk7 E10) Y_X10_open YV_X10_open Lk_RX11_98 (fz_rv C hR hk7 ⟨_, _, rfl, by decide⟩) rfl hl.1 ⟨Nat.le_of_ble_eq_true rfl, Nat.le_of_ble_eq_true rfl⟩ rfl (Nat.le_of_ble_eq_true rfl) ⟨Nat.le_of_ble_eq_true rfl, Nat.le_of_ble_eq_true rfl⟩ rfl dX11_ask_38 (fun H locs hR => ?_)
        refine lv_aload_n hx hb dX11_ask_41 rfl (lv_at hl 0 rfl) ?_
        obtain ⟨j11, hv12, hsp⟩ := fr_b1 hsp
        refine fr_getr C hR ha Fg_RX11_69 rfl hv12 dX11_ask_42 ?_
        refine lv_aload_n hx hb dX11_ask_45 rfl (lv_at hl 0 rfl) ?_
        refine lv_iload_n hx hb dX11_ask_46 rfl (lv_at hl 1 rfl) ?_
        rcases fr_bx hsp with ⟨r13, h14, E15, hsp⟩ | ⟨r13, h14, E15, hsp⟩
        · obtain ⟨e1, e2⟩ := fr_s2 hsp
          exact fz_xVo (k := r13) (rest := [.ref (g.2.2 j11)]) C EX hR (k_X11_settled C.2.2 hlt ha E15) Y_X11_settled YV_X11_settled Lk_RX11_127 (fz_rv C hR ha ⟨_, _, rfl, by decide⟩) rfl hl.1 ⟨Nat.le_of_ble_eq_true rfl, Nat.le_of_ble_eq_true rfl⟩ rfl (Nat.le_of_ble_eq_true rfl) ⟨Nat.le_of_ble_eq_true rfl, Nat.le_of_ble_eq_true rfl⟩ dX11_ask_47 hno hlocks (congrArg fx_oi e1) e2 (Nat.le_of_ble_eq_true rfl) (Nat.le_of_ble_eq_true rfl)
        refine fz_xVr (rest := [.ref (g.2.2 j11)]) (st1 := [va_rf (Option.map g.2.2 r13), .ref (g.2.2 j11)]) C EX hR (k_X11_settled C.2.2 hlt ha E15) Y_X11_settled YV_X11_settled Lk_RX11_127 (fz_rv C hR ha ⟨_, _, rfl, by decide⟩) rfl hl.1 ⟨Nat.le_of_ble_eq_true rfl, Nat.le_of_ble_eq_true rfl⟩ rfl (Nat.le_of_ble_eq_true rfl) ⟨Nat.le_of_ble_eq_true rfl, Nat.le_of_ble_eq_true rfl⟩ rfl dX11_ask_47 (fun H locs hR => ?_)
        obtain ⟨j16, ej16, hq⟩ := fr_b1 hsp
        subst ej16
        have hsp := hq
        refine W.eq (g2 := F0 m 50 ls [.ref (g.2.2 j16), .ref (g.2.2 j11)]) rfl ?_
        obtain ⟨hk17, hsp⟩ := fr_ck hsp
        obtain ⟨hk18, hsp⟩ := fr_ck hsp
        obtain ⟨r19, h20, E21, hsp⟩ := fr_b2 hsp
        refine fq_callV (rest := []) (st1 := [.int r19]) C hR (k_X4_answer C.2.2 hk17 hk18 E21) Y_X4_answer YV_X4_answer Lk_RX11_130 hk17 ⟨_, _, rfl, by decide⟩ rfl hl.1 ⟨Nat.le_of_ble_eq_true rfl, Nat.le_of_ble_eq_true rfl⟩ rfl (Nat.le_of_ble_eq_true rfl) ⟨Nat.le_of_ble_eq_true rfl, Nat.le_of_ble_eq_true rfl⟩ rfl dX11_ask_50 (fun H locs hR => ?_)
        refine lv_istore_n (lv' := [(3, .int r19), (0, .ref (g.2.2 a)), (1, .int x1), (2, .int x2)]) hx hb dX11_ask_53 rfl hl (by decide) rfl (fun ls hl => ?_)
        refine lv_aload_n hx hb dX11_ask_54 rfl (lv_at hl 1 rfl) ?_
        obtain ⟨j22, hv23, hsp⟩ := fr_b1 hsp
        refine fr_getr C hR ha Fg_RX11_53 rfl hv23 dX11_ask_55 ?_
        obtain ⟨hk24, hsp⟩ := fr_ck hsp
        obtain ⟨h25, E26, hsp⟩ := fr_b1 hsp
        refine fq_callV (rest := []) (st1 := []) C hR (k_X10_empty C.2.2 hk24 E26) Y_X10_empty YV_X10_empty Lk_RX11_104 hk24 ⟨_, _, rfl, by decide⟩ rfl hl.1 ⟨Nat.le_of_ble_eq_true rfl, Nat.le_of_ble_eq_true rfl⟩ rfl (Nat.le_of_ble_eq_true rfl) ⟨Nat.le_of_ble_eq_true rfl, Nat.le_of_ble_eq_true rfl⟩ rfl dX11_ask_58 (fun H locs hR => ?_)
        refine lv_iload_n hx hb dX11_ask_61 rfl (lv_at hl 0 rfl) ?_
        obtain ⟨e1, e2⟩ := fr_s2 hsp
        exact fz_iret C hr hlocks hR e1 e2 (Nat.le_of_ble_eq_true rfl) (Nat.le_of_ble_eq_true rfl) dX11_ask_62
      · rw [if_neg c8] at hsp
        obtain ⟨e1, e2⟩ := fr_s2 hsp
        exact fz_throw (is := 93) (text := "no such row, or not so many bytes") 0 (Or.inl rfl) C EX hlt hno hlocks hR (congrArg fx_oi e1) e2 (List.mem_of_getElem? (i := 0) rfl) hl.1 ⟨Nat.le_of_ble_eq_true rfl, Nat.le_of_ble_eq_true rfl, Nat.le_of_ble_eq_true rfl⟩ ⟨Nat.le_of_ble_eq_true rfl, Nat.le_of_ble_eq_true rfl⟩ (Nat.le_of_ble_eq_true rfl) (Nat.le_of_ble_eq_true rfl) dX11_ask_23 dX11_ask_26 dX11_ask_27 dX11_ask_29 dX11_ask_32

/-! TermRows.count(I)I -/
def z_X11_count (S : fh_S) (h : fh_H) (a : Nat) (x1 : Int32) : Option ((Nat ⊕ Int32) × fh_H) :=
    if x1 = 0 then (fh_b1 (h.2.2 a 2) (fun j2 => fh_ck (fh_kq S j2 1) (some (Sum.inr (h.1 j2 3), h)))) else (if x1 = 1 then (fh_b1 (h.2.2 a 6) (fun j6 => fh_ck (fh_kq S j6 10) (some (Sum.inr (h.1 j6 6), h)))) else (if x1 = 2 then (fh_b1 (z_X11_rowsOfKind S h a (3 : Int32)) (fun r10 => some (Sum.inr r10, h))) else (if x1 = 3 then (fh_b1 (z_X11_rowsOfKind S h a (4 : Int32)) (fun r13 => some (Sum.inr r13, h))) else (if x1 = 4 then (fh_bx (z_X11_rowsThatStop S h a (0 : Int32)) (fun r16 h17 => some (Sum.inr r16, h17))) else (if x1 = 5 then (fh_bx (z_X11_rowsThatStop S h a (1 : Int32)) (fun r20 h21 => some (Sum.inr r20, h21))) else (if x1 = 6 then (fh_bx (z_X11_rowsThatStop S h a (2 : Int32)) (fun r24 h25 => some (Sum.inr r24, h25))) else (if x1 = 7 then (fh_bx (z_X11_rowsThatStop S h a (3 : Int32)) (fun r28 h29 => some (Sum.inr r28, h29))) else (some (Sum.inl 1, h)))))))))
set_option maxHeartbeats 4000000 in
set_option maxRecDepth 100000 in
theorem k_X11_count {l : Launch} {S : fh_S} {g : fh_G} {h h' : fh_H} {z : (Nat → Nat) × (Nat → Nat)} (hj : fh_inj S g) {a : Nat} {x1 : Int32} {r : (Nat ⊕ Int32)} (hlt : l.stackTraces = false) (ha : fh_kq S a 11 = true) (hsp : z_X11_count S h a x1 = some (r, h')) : fx_Mx l yX11_count cX11_count 2 (some .int) 8 5 S g z [.ref (g.2.2 a), .int x1] h (fx_oi r) h' := by
  unfold z_X11_count at hsp
  refine fz_headX (own := RX11) (by decide) rfl hj (Nat.le_of_ble_eq_true rfl) ?_
  intro p e s m below meth c ls C EX hno hr hlocks hR hl
  have hl : lv_has ls 2 [(0, .ref (g.2.2 a)), (1, .int x1)] := hl
  have hx := C.1.1
  have hb := C.1.2.1
  refine lv_iload_n hx hb dX11_count_0 rfl (lv_at hl 1 rfl) ?_
  by_cases c1 : x1 = 0
  · rw [if_pos c1] at hsp
    refine lv_tableIn (off := 47) (tgt := 48) hx hb dX11_count_1 (by rw [c1]; decide) (by rw [c1]; decide) (by rw [c1]; decide) (by decide) ?_
    refine lv_aload_n hx hb dX11_count_48 rfl (lv_at hl 0 rfl) ?_
    obtain ⟨j2, hv3, hsp⟩ := fr_b1 hsp
    refine fr_getr C hR ha Fg_RX11_25 rfl hv3 dX11_count_49 ?_
    obtain ⟨hk4, hsp⟩ := fr_ck hsp
    refine fr_geti C hR hk4 Fg_RX11_153 rfl dX11_count_52 ?_
    obtain ⟨e1, e2⟩ := fr_s2 hsp
    exact fz_iret C hr hlocks hR e1 e2 (Nat.le_of_ble_eq_true rfl) (Nat.le_of_ble_eq_true rfl) dX11_count_55
  rw [if_neg c1] at hsp
  by_cases c5 : x1 = 1
  · rw [if_pos c5] at hsp
    refine lv_tableIn (off := 55) (tgt := 56) hx hb dX11_count_1 (by rw [c5]; decide) (by rw [c5]; decide) (by rw [c5]; decide) (by decide) ?_
    refine lv_aload_n hx hb dX11_count_56 rfl (lv_at hl 0 rfl) ?_
    obtain ⟨j6, hv7, hsp⟩ := fr_b1 hsp
    refine fr_getr C hR ha Fg_RX11_53 rfl hv7 dX11_count_57 ?_
    obtain ⟨hk8, hsp⟩ := fr_ck hsp
    refine fr_geti C hR hk8 Fg_RX11_80 rfl dX11_count_60 ?_
    obtain ⟨e1, e2⟩ := fr_s2 hsp
    exact fz_iret C hr hlocks hR e1 e2 (Nat.le_of_ble_eq_true rfl) (Nat.le_of_ble_eq_true rfl) dX11_count_63
  rw [if_neg c5] at hsp
  by_cases c9 : x1 = 2
  · rw [if_pos c9] at hsp
    refine lv_tableIn (off := 63) (tgt := 64) hx hb dX11_count_1 (by rw [c9]; decide) (by rw [c9]; decide) (by rw [c9]; decide) (by decide) ?_
    refine lv_aload_n hx hb dX11_count_64 rfl (lv_at hl 0 rfl) ?_
    refine lv_iconst (v := 3) hx hb dX11_count_65 (by decide) ?_
    obtain ⟨r10, E11, hsp⟩ := fr_b1 hsp
    refine fq_callV (rest := []) (st1 := [.int r10]) C hR (k_X11_rowsOfKind C.2.2 ha E11) Y_X11_rowsOfKind YV_X11_rowsOfKind Lk_RX11_156 ha ⟨_, _, rfl, by decide⟩ rfl hl.1 ⟨Nat.le_of_ble_eq_true rfl, Nat.le_of_ble_eq_true rfl⟩ rfl (Nat.le_of_ble_eq_true rfl) ⟨Nat.le_of_ble_eq_true rfl, Nat.le_of_ble_eq_true rfl⟩ rfl dX11_count_66 (fun H locs hR => ?_)
    obtain ⟨e1, e2⟩ := fr_s2 hsp
    exact fz_iret C hr hlocks hR e1 e2 (Nat.le_of_ble_eq_true rfl) (Nat.le_of_ble_eq_true rfl) dX11_count_69
  rw [if_neg c9] at hsp
  by_cases c12 : x1 = 3
  · rw [if_pos c12] at hsp
    refine lv_tableIn (off := 69) (tgt := 70) hx hb dX11_count_1 (by rw [c12]; decide) (by rw [c12]; decide) (by rw [c12]; decide) (by decide) ?_
    refine lv_aload_n hx hb dX11_count_70 rfl (lv_at hl 0 rfl) ?_
    refine lv_iconst (v := 4) hx hb dX11_count_71 (by decide) ?_
    obtain ⟨r13, E14, hsp⟩ := fr_b1 hsp
    refine fq_callV (rest := []) (st1 := [.int r13]) C hR (k_X11_rowsOfKind C.2.2 ha E14) Y_X11_rowsOfKind YV_X11_rowsOfKind Lk_RX11_156 ha ⟨_, _, rfl, by decide⟩ rfl hl.1 ⟨Nat.le_of_ble_eq_true rfl, Nat.le_of_ble_eq_true rfl⟩ rfl (Nat.le_of_ble_eq_true rfl) ⟨Nat.le_of_ble_eq_true rfl, Nat.le_of_ble_eq_true rfl⟩ rfl dX11_count_72 (fun H locs hR => ?_)
    obtain ⟨e1, e2⟩ := fr_s2 hsp
    exact fz_iret C hr hlocks hR e1 e2 (Nat.le_of_ble_eq_true rfl) (Nat.le_of_ble_eq_true rfl) dX11_count_75
  rw [if_neg c12] at hsp
  by_cases c15 : x1 = 4
  · rw [if_pos c15] at hsp
    refine lv_tableIn (off := 75) (tgt := 76) hx hb dX11_count_1 (by rw [c15]; decide) (by rw [c15]; decide) (by rw [c15]; decide) (by decide) ?_
    refine lv_aload_n hx hb dX11_count_76 rfl (lv_at hl 0 rfl) ?_
    refine lv_iconst (v := 0) hx hb dX11_count_77 (by decide) ?_
    rcases fr_bx hsp with ⟨r16, h17, E18, hsp⟩ | ⟨r16, h17, E18, hsp⟩
    · obtain ⟨e1, e2⟩ := fr_s2 hsp
      exact fz_xVo (k := r16) (rest := []) C EX hR (k_X11_rowsThatStop C.2.2 hlt ha E18) Y_X11_rowsThatStop YV_X11_rowsThatStop Lk_RX11_160 (fz_rv C hR ha ⟨_, _, rfl, by decide⟩) rfl hl.1 ⟨Nat.le_of_ble_eq_true rfl, Nat.le_of_ble_eq_true rfl⟩ rfl (Nat.le_of_ble_eq_true rfl) ⟨Nat.le_of_ble_eq_true rfl, Nat.le_of_ble_eq_true rfl⟩ dX11_count_78 hno hlocks (congrArg fx_oi e1) e2 (Nat.le_of_ble_eq_true rfl) (Nat.le_of_ble_eq_true rfl)
    refine fz_xVr (rest := []) (st1 := [.int r16]) C EX hR (k_X11_rowsThatStop C.2.2 hlt ha E18) Y_X11_rowsThatStop YV_X11_rowsThatStop Lk_RX11_160 (fz_rv C hR ha ⟨_, _, rfl, by decide⟩) rfl hl.1 ⟨Nat.le_of_ble_eq_true rfl, Nat.le_of_ble_eq_true rfl⟩ rfl (Nat.le_of_ble_eq_true rfl) ⟨Nat.le_of_ble_eq_true rfl, Nat.le_of_ble_eq_true rfl⟩ rfl dX11_count_78 (fun H locs hR => ?_)
    obtain ⟨e1, e2⟩ := fr_s2 hsp
    exact fz_iret C hr hlocks hR e1 e2 (Nat.le_of_ble_eq_true rfl) (Nat.le_of_ble_eq_true rfl) dX11_count_81
  rw [if_neg c15] at hsp
  by_cases c19 : x1 = 5
  · rw [if_pos c19] at hsp
    refine lv_tableIn (off := 81) (tgt := 82) hx hb dX11_count_1 (by rw [c19]; decide) (by rw [c19]; decide) (by rw [c19]; decide) (by decide) ?_
    refine lv_aload_n hx hb dX11_count_82 rfl (lv_at hl 0 rfl) ?_
    refine lv_iconst (v := 1) hx hb dX11_count_83 (by decide) ?_
    rcases fr_bx hsp with ⟨r20, h21, E22, hsp⟩ | ⟨r20, h21, E22, hsp⟩
    · obtain ⟨e1, e2⟩ := fr_s2 hsp
      exact fz_xVo (k := r20) (rest := []) C EX hR (k_X11_rowsThatStop C.2.2 hlt ha E22) Y_X11_rowsThatStop YV_X11_rowsThatStop Lk_RX11_160 (fz_rv C hR ha ⟨_, _, rfl, by decide⟩) rfl hl.1 ⟨Nat.le_of_ble_eq_true rfl, Nat.le_of_ble_eq_true rfl⟩ rfl (Nat.le_of_ble_eq_true rfl) ⟨Nat.le_of_ble_eq_true rfl, Nat.le_of_ble_eq_true rfl⟩ dX11_count_84 hno hlocks (congrArg fx_oi e1) e2 (Nat.le_of_ble_eq_true rfl) (Nat.le_of_ble_eq_true rfl)
    refine fz_xVr (rest := []) (st1 := [.int r20]) C EX hR (k_X11_rowsThatStop C.2.2 hlt ha E22) Y_X11_rowsThatStop YV_X11_rowsThatStop Lk_RX11_160 (fz_rv C hR ha ⟨_, _, rfl, by decide⟩) rfl hl.1 ⟨Nat.le_of_ble_eq_true rfl, Nat.le_of_ble_eq_true rfl⟩ rfl (Nat.le_of_ble_eq_true rfl) ⟨Nat.le_of_ble_eq_true rfl, Nat.le_of_ble_eq_true rfl⟩ rfl dX11_count_84 (fun H locs hR => ?_)
    obtain ⟨e1, e2⟩ := fr_s2 hsp
    exact fz_iret C hr hlocks hR e1 e2 (Nat.le_of_ble_eq_true rfl) (Nat.le_of_ble_eq_true rfl) dX11_count_87
  rw [if_neg c19] at hsp
  by_cases c23 : x1 = 6
  · rw [if_pos c23] at hsp
    refine lv_tableIn (off := 87) (tgt := 88) hx hb dX11_count_1 (by rw [c23]; decide) (by rw [c23]; decide) (by rw [c23]; decide) (by decide) ?_
    refine lv_aload_n hx hb dX11_count_88 rfl (lv_at hl 0 rfl) ?_
    refine lv_iconst (v := 2) hx hb dX11_count_89 (by decide) ?_
    rcases fr_bx hsp with ⟨r24, h25, E26, hsp⟩ | ⟨r24, h25, E26, hsp⟩
    · obtain ⟨e1, e2⟩ := fr_s2 hsp
      exact fz_xVo (k := r24) (rest := []) C EX hR (k_X11_rowsThatStop C.2.2 hlt ha E26) Y_X11_rowsThatStop YV_X11_rowsThatStop Lk_RX11_160 (fz_rv C hR ha ⟨_, _, rfl, by decide⟩) rfl hl.1 ⟨Nat.le_of_ble_eq_true rfl, Nat.le_of_ble_eq_true rfl⟩ rfl (Nat.le_of_ble_eq_true rfl) ⟨Nat.le_of_ble_eq_true rfl, Nat.le_of_ble_eq_true rfl⟩ dX11_count_90 hno hlocks (congrArg fx_oi e1) e2 (Nat.le_of_ble_eq_true rfl) (Nat.le_of_ble_eq_true rfl)
    refine fz_xVr (rest := []) (st1 := [.int r24]) C EX hR (k_X11_rowsThatStop C.2.2 hlt ha E26) Y_X11_rowsThatStop YV_X11_rowsThatStop Lk_RX11_160 (fz_rv C hR ha ⟨_, _, rfl, by decide⟩) rfl hl.1 ⟨Nat.le_of_ble_eq_true rfl, Nat.le_of_ble_eq_true rfl⟩ rfl (Nat.le_of_ble_eq_true rfl) ⟨Nat.le_of_ble_eq_true rfl, Nat.le_of_ble_eq_true rfl⟩ rfl dX11_count_90 (fun H locs hR => ?_)
    obtain ⟨e1, e2⟩ := fr_s2 hsp
    exact fz_iret C hr hlocks hR e1 e2 (Nat.le_of_ble_eq_true rfl) (Nat.le_of_ble_eq_true rfl) dX11_count_93
  rw [if_neg c23] at hsp
  by_cases c27 : x1 = 7
  · rw [if_pos c27] at hsp
    refine lv_tableIn (off := 93) (tgt := 94) hx hb dX11_count_1 (by rw [c27]; decide) (by rw [c27]; decide) (by rw [c27]; decide) (by decide) ?_
    refine lv_aload_n hx hb dX11_count_94 rfl (lv_at hl 0 rfl) ?_
    refine lv_iconst (v := 3) hx hb dX11_count_95 (by decide) ?_
    rcases fr_bx hsp with ⟨r28, h29, E30, hsp⟩ | ⟨r28, h29, E30, hsp⟩
    · obtain ⟨e1, e2⟩ := fr_s2 hsp
      exact fz_xVo (k := r28) (rest := []) C EX hR (k_X11_rowsThatStop C.2.2 hlt ha E30) Y_X11_rowsThatStop YV_X11_rowsThatStop Lk_RX11_160 (fz_rv C hR ha ⟨_, _, rfl, by decide⟩) rfl hl.1 ⟨Nat.le_of_ble_eq_true rfl, Nat.le_of_ble_eq_true rfl⟩ rfl (Nat.le_of_ble_eq_true rfl) ⟨Nat.le_of_ble_eq_true rfl, Nat.le_of_ble_eq_true rfl⟩ dX11_count_96 hno hlocks (congrArg fx_oi e1) e2 (Nat.le_of_ble_eq_true rfl) (Nat.le_of_ble_eq_true rfl)
    refine fz_xVr (rest := []) (st1 := [.int r28]) C EX hR (k_X11_rowsThatStop C.2.2 hlt ha E30) Y_X11_rowsThatStop YV_X11_rowsThatStop Lk_RX11_160 (fz_rv C hR ha ⟨_, _, rfl, by decide⟩) rfl hl.1 ⟨Nat.le_of_ble_eq_true rfl, Nat.le_of_ble_eq_true rfl⟩ rfl (Nat.le_of_ble_eq_true rfl) ⟨Nat.le_of_ble_eq_true rfl, Nat.le_of_ble_eq_true rfl⟩ rfl dX11_count_96 (fun H locs hR => ?_)
    obtain ⟨e1, e2⟩ := fr_s2 hsp
    exact fz_iret C hr hlocks hR e1 e2 (Nat.le_of_ble_eq_true rfl) (Nat.le_of_ble_eq_true rfl) dX11_count_99
  rw [if_neg c27] at hsp
  refine lv_tableOut (tgt := 100) hx hb dX11_count_1 (fr_tout 0 8 (fun j hj => by match j, hj with | 0, _ => exact c1 | 1, _ => exact c5 | 2, _ => exact c9 | 3, _ => exact c12 | 4, _ => exact c15 | 5, _ => exact c19 | 6, _ => exact c23 | 7, _ => exact c27 | (k + 8), hk => omega) (by decide) (by decide)) (by decide) ?_
  obtain ⟨e1, e2⟩ := fr_s2 hsp
  exact fz_throw (is := 165) (text := "no such count") 1 (Or.inr rfl) C EX hlt hno hlocks hR (congrArg fx_oi e1) e2 (List.mem_of_getElem? (i := 1) rfl) hl.1 ⟨Nat.le_of_ble_eq_true rfl, Nat.le_of_ble_eq_true rfl, Nat.le_of_ble_eq_true rfl⟩ ⟨Nat.le_of_ble_eq_true rfl, Nat.le_of_ble_eq_true rfl⟩ (Nat.le_of_ble_eq_true rfl) (Nat.le_of_ble_eq_true rfl) dX11_count_100 dX11_count_103 dX11_count_104 dX11_count_106 dX11_count_109

/-! TermRows.of(II)I -/
def z_X11_of (S : fh_S) (h : fh_H) (a : Nat) (x1 : Int32) (x2 : Int32) : Option ((Nat ⊕ Int32) × fh_H) :=
    fh_bx (z_X11_settled S h a x1) (fun r1 h2 => fh_b1 r1 (fun j4 => if x2 = 0 then (fh_ck (fh_kq S j4 6) (fh_b1 (h2.2.2 j4 4) (fun j7 => fh_ck (fh_kq S j7 3) (some (Sum.inr (h2.1 j7 0), h2))))) else (if x2 = 1 then (fh_ck (fh_kq S j4 6) (some (Sum.inr (h2.1 j4 6), h2))) else (if x2 = 2 then (fh_ck (fh_kq S j4 6) (some (Sum.inr (h2.1 j4 7), h2))) else (if x2 = 3 then (fh_ck (fh_kq S j4 6) (some (Sum.inr (h2.1 j4 8), h2))) else (if x2 = 4 then (fh_ck (fh_kq S j4 6) (fh_b1 (z_X6_greatestBehindFirst S h2 j4) (fun r18 => some (Sum.inr r18, h2)))) else (if x2 = 5 then (fh_ck (fh_kq S j4 6) (fh_b1 (z_X6_wrappedSum S h2 j4) (fun r22 => some (Sum.inr r22, h2)))) else (if x2 = 6 then (fh_b1 (z_X11_rowsMadeOf S h2 a x1) (fun r25 => some (Sum.inr r25, h2))) else (some (Sum.inl 1, h2))))))))))
set_option maxHeartbeats 4000000 in
set_option maxRecDepth 100000 in
theorem k_X11_of {l : Launch} {S : fh_S} {g : fh_G} {h h' : fh_H} {z : (Nat → Nat) × (Nat → Nat)} (hj : fh_inj S g) {a : Nat} {x1 : Int32} {x2 : Int32} {r : (Nat ⊕ Int32)} (hlt : l.stackTraces = false) (ha : fh_kq S a 11 = true) (hsp : z_X11_of S h a x1 x2 = some (r, h')) : fx_Mx l yX11_of cX11_of 4 (some .int) 7 2 S g z [.ref (g.2.2 a), .int x1, .int x2] h (fx_oi r) h' := by
  unfold z_X11_of at hsp
  refine fz_headX (own := RX11) (by decide) rfl hj (Nat.le_of_ble_eq_true rfl) ?_
  intro p e s m below meth c ls C EX hno hr hlocks hR hl
  have hl : lv_has ls 4 [(0, .ref (g.2.2 a)), (1, .int x1), (2, .int x2)] := hl
  have hx := C.1.1
  have hb := C.1.2.1
  refine lv_aload_n hx hb dX11_of_0 rfl (lv_at hl 0 rfl) ?_
  refine lv_iload_n hx hb dX11_of_1 rfl (lv_at hl 1 rfl) ?_
  rcases fr_bx hsp with ⟨r1, h2, E3, hsp⟩ | ⟨r1, h2, E3, hsp⟩
  · obtain ⟨e1, e2⟩ := fr_s2 hsp
    exact fz_xVo (k := r1) (rest := []) C EX hR (k_X11_settled C.2.2 hlt ha E3) Y_X11_settled YV_X11_settled Lk_RX11_127 (fz_rv C hR ha ⟨_, _, rfl, by decide⟩) rfl hl.1 ⟨Nat.le_of_ble_eq_true rfl, Nat.le_of_ble_eq_true rfl⟩ rfl (Nat.le_of_ble_eq_true rfl) ⟨Nat.le_of_ble_eq_true rfl, Nat.le_of_ble_eq_true rfl⟩ dX11_of_2 hno hlocks (congrArg fx_oi e1) e2 (Nat.le_of_ble_eq_true rfl) (Nat.le_of_ble_eq_true rfl)
  refine fz_xVr (rest := []) (st1 := [va_rf (Option.map g.2.2 r1)]) C EX hR (k_X11_settled C.2.2 hlt ha E3) Y_X11_settled YV_X11_settled Lk_RX11_127 (fz_rv C hR ha ⟨_, _, rfl, by decide⟩) rfl hl.1 ⟨Nat.le_of_ble_eq_true rfl, Nat.le_of_ble_eq_true rfl⟩ rfl (Nat.le_of_ble_eq_true rfl) ⟨Nat.le_of_ble_eq_true rfl, Nat.le_of_ble_eq_true rfl⟩ rfl dX11_of_2 (fun H locs hR => ?_)
  obtain ⟨j4, ej4, hq⟩ := fr_b1 hsp
  subst ej4
  have hsp := hq
  refine W.eq (g2 := F0 m 5 ls [.ref (g.2.2 j4)]) rfl ?_
  refine lv_astore_n (lv' := [(3, .ref (g.2.2 j4)), (0, .ref (g.2.2 a)), (1, .int x1), (2, .int x2)]) hx hb dX11_of_5 rfl hl (by decide) rfl (fun ls hl => ?_)
  refine lv_iload_n hx hb dX11_of_6 rfl (lv_at hl 3 rfl) ?_
  by_cases c5 : x2 = 0
  · rw [if_pos c5] at hsp
    refine lv_tableIn (off := 41) (tgt := 48) hx hb dX11_of_7 (by rw [c5]; decide) (by rw [c5]; decide) (by rw [c5]; decide) (by decide) ?_
    refine lv_aload_n hx hb dX11_of_48 rfl (lv_at hl 0 rfl) ?_
    obtain ⟨hk6, hsp⟩ := fr_ck hsp
    obtain ⟨j7, hv8, hsp⟩ := fr_b1 hsp
    refine fr_getr C hR hk6 Fg_RX11_168 rfl hv8 dX11_of_49 ?_
    obtain ⟨hk9, hsp⟩ := fr_ck hsp
    refine fr_geti C hR hk9 Fg_RX11_172 rfl dX11_of_52 ?_
    obtain ⟨e1, e2⟩ := fr_s2 hsp
    exact fz_iret C hr hlocks hR e1 e2 (Nat.le_of_ble_eq_true rfl) (Nat.le_of_ble_eq_true rfl) dX11_of_55
  rw [if_neg c5] at hsp
  by_cases c10 : x2 = 1
  · rw [if_pos c10] at hsp
    refine lv_tableIn (off := 49) (tgt := 56) hx hb dX11_of_7 (by rw [c10]; decide) (by rw [c10]; decide) (by rw [c10]; decide) (by decide) ?_
    refine lv_aload_n hx hb dX11_of_56 rfl (lv_at hl 0 rfl) ?_
    obtain ⟨hk11, hsp⟩ := fr_ck hsp
    refine fr_geti C hR hk11 Fg_RX11_175 rfl dX11_of_57 ?_
    obtain ⟨e1, e2⟩ := fr_s2 hsp
    exact fz_iret C hr hlocks hR e1 e2 (Nat.le_of_ble_eq_true rfl) (Nat.le_of_ble_eq_true rfl) dX11_of_60
  rw [if_neg c10] at hsp
  by_cases c12 : x2 = 2
  · rw [if_pos c12] at hsp
    refine lv_tableIn (off := 54) (tgt := 61) hx hb dX11_of_7 (by rw [c12]; decide) (by rw [c12]; decide) (by rw [c12]; decide) (by decide) ?_
    refine lv_aload_n hx hb dX11_of_61 rfl (lv_at hl 0 rfl) ?_
    obtain ⟨hk13, hsp⟩ := fr_ck hsp
    refine fr_geti C hR hk13 Fg_RX11_178 rfl dX11_of_62 ?_
    obtain ⟨e1, e2⟩ := fr_s2 hsp
    exact fz_iret C hr hlocks hR e1 e2 (Nat.le_of_ble_eq_true rfl) (Nat.le_of_ble_eq_true rfl) dX11_of_65
  rw [if_neg c12] at hsp
  by_cases c14 : x2 = 3
  · rw [if_pos c14] at hsp
    refine lv_tableIn (off := 59) (tgt := 66) hx hb dX11_of_7 (by rw [c14]; decide) (by rw [c14]; decide) (by rw [c14]; decide) (by decide) ?_
    refine lv_aload_n hx hb dX11_of_66 rfl (lv_at hl 0 rfl) ?_
    obtain ⟨hk15, hsp⟩ := fr_ck hsp
    refine fr_geti C hR hk15 Fg_RX11_181 rfl dX11_of_67 ?_
    obtain ⟨e1, e2⟩ := fr_s2 hsp
    exact fz_iret C hr hlocks hR e1 e2 (Nat.le_of_ble_eq_true rfl) (Nat.le_of_ble_eq_true rfl) dX11_of_70
  rw [if_neg c14] at hsp
  by_cases c16 : x2 = 4
  · rw [if_pos c16] at hsp
    refine lv_tableIn (off := 64) (tgt := 71) hx hb dX11_of_7 (by rw [c16]; decide) (by rw [c16]; decide) (by rw [c16]; decide) (by decide) ?_
    refine lv_aload_n hx hb dX11_of_71 rfl (lv_at hl 0 rfl) ?_
    obtain ⟨hk17, hsp⟩ := fr_ck hsp
    obtain ⟨r18, E19, hsp⟩ := fr_b1 hsp
    refine fq_callV (rest := []) (st1 := [.int r18]) C hR (k_X6_greatestBehindFirst C.2.2 hk17 E19) Y_X6_greatestBehindFirst YV_X6_greatestBehindFirst Lk_RX11_184 hk17 ⟨_, _, rfl, by decide⟩ rfl hl.1 ⟨Nat.le_of_ble_eq_true rfl, Nat.le_of_ble_eq_true rfl⟩ rfl (Nat.le_of_ble_eq_true rfl) ⟨Nat.le_of_ble_eq_true rfl, Nat.le_of_ble_eq_true rfl⟩ rfl dX11_of_72 (fun H locs hR => ?_)
    obtain ⟨e1, e2⟩ := fr_s2 hsp
    exact fz_iret C hr hlocks hR e1 e2 (Nat.le_of_ble_eq_true rfl) (Nat.le_of_ble_eq_true rfl) dX11_of_75
  rw [if_neg c16] at hsp
  by_cases c20 : x2 = 5
  · rw [if_pos c20] at hsp
    refine lv_tableIn (off := 69) (tgt := 76) hx hb dX11_of_7 (by rw [c20]; decide) (by rw [c20]; decide) (by rw [c20]; decide) (by decide) ?_
    refine lv_aload_n hx hb dX11_of_76 rfl (lv_at hl 0 rfl) ?_
    obtain ⟨hk21, hsp⟩ := fr_ck hsp
    obtain ⟨r22, E23, hsp⟩ := fr_b1 hsp
    refine fq_callV (rest := []) (st1 := [.int r22]) C hR (k_X6_wrappedSum C.2.2 hk21 E23) Y_X6_wrappedSum YV_X6_wrappedSum Lk_RX11_188 hk21 ⟨_, _, rfl, by decide⟩ rfl hl.1 ⟨Nat.le_of_ble_eq_true rfl, Nat.le_of_ble_eq_true rfl⟩ rfl (Nat.le_of_ble_eq_true rfl) ⟨Nat.le_of_ble_eq_true rfl, Nat.le_of_ble_eq_true rfl⟩ rfl dX11_of_77 (fun H locs hR => ?_)
    obtain ⟨e1, e2⟩ := fr_s2 hsp
    exact fz_iret C hr hlocks hR e1 e2 (Nat.le_of_ble_eq_true rfl) (Nat.le_of_ble_eq_true rfl) dX11_of_80
  rw [if_neg c20] at hsp
  by_cases c24 : x2 = 6
  · rw [if_pos c24] at hsp
    refine lv_tableIn (off := 74) (tgt := 81) hx hb dX11_of_7 (by rw [c24]; decide) (by rw [c24]; decide) (by rw [c24]; decide) (by decide) ?_
    refine lv_aload_n hx hb dX11_of_81 rfl (lv_at hl 1 rfl) ?_
    refine lv_iload_n hx hb dX11_of_82 rfl (lv_at hl 2 rfl) ?_
    obtain ⟨r25, E26, hsp⟩ := fr_b1 hsp
    refine fq_callV (rest := []) (st1 := [.int r25]) C hR (k_X11_rowsMadeOf C.2.2 ha E26) Y_X11_rowsMadeOf YV_X11_rowsMadeOf Lk_RX11_191 ha ⟨_, _, rfl, by decide⟩ rfl hl.1 ⟨Nat.le_of_ble_eq_true rfl, Nat.le_of_ble_eq_true rfl⟩ rfl (Nat.le_of_ble_eq_true rfl) ⟨Nat.le_of_ble_eq_true rfl, Nat.le_of_ble_eq_true rfl⟩ rfl dX11_of_83 (fun H locs hR => ?_)
    obtain ⟨e1, e2⟩ := fr_s2 hsp
    exact fz_iret C hr hlocks hR e1 e2 (Nat.le_of_ble_eq_true rfl) (Nat.le_of_ble_eq_true rfl) dX11_of_86
  rw [if_neg c24] at hsp
  refine lv_tableOut (tgt := 87) hx hb dX11_of_7 (fr_tout 0 7 (fun j hj => by match j, hj with | 0, _ => exact c5 | 1, _ => exact c10 | 2, _ => exact c12 | 3, _ => exact c14 | 4, _ => exact c16 | 5, _ => exact c20 | 6, _ => exact c24 | (k + 7), hk => omega) (by decide) (by decide)) (by decide) ?_
  obtain ⟨e1, e2⟩ := fr_s2 hsp
  exact fz_throw (is := 194) (text := "no such fact of a row") 1 (Or.inr rfl) C EX hlt hno hlocks hR (congrArg fx_oi e1) e2 (List.mem_of_getElem? (i := 2) rfl) hl.1 ⟨Nat.le_of_ble_eq_true rfl, Nat.le_of_ble_eq_true rfl, Nat.le_of_ble_eq_true rfl⟩ ⟨Nat.le_of_ble_eq_true rfl, Nat.le_of_ble_eq_true rfl⟩ (Nat.le_of_ble_eq_true rfl) (Nat.le_of_ble_eq_true rfl) dX11_of_87 dX11_of_90 dX11_of_91 dX11_of_93 dX11_of_96

/-! TermRows.term(II)I -/
def z_X11_term (S : fh_S) (h : fh_H) (a : Nat) (x1 : Int32) (x2 : Int32) : Option ((Nat ⊕ Int32) × fh_H) :=
    fh_bx (z_X11_settled S h a x1) (fun r1 h2 => fh_b1 r1 (fun j4 => fh_ck (fh_kq S j4 6) (fh_bx (z_X11_requireTerm S h2 j4 x2) (fun r6 h7 => fh_b1 (z_X6_termAt S h7 j4 x2) (fun r9 => some (Sum.inr r9, h7))))))
set_option maxHeartbeats 4000000 in
set_option maxRecDepth 100000 in
theorem k_X11_term {l : Launch} {S : fh_S} {g : fh_G} {h h' : fh_H} {z : (Nat → Nat) × (Nat → Nat)} (hj : fh_inj S g) {a : Nat} {x1 : Int32} {x2 : Int32} {r : (Nat ⊕ Int32)} (hlt : l.stackTraces = false) (ha : fh_kq S a 11 = true) (hsp : z_X11_term S h a x1 x2 = some (r, h')) : fx_Mx l yX11_term cX11_term 4 (some .int) 7 2 S g z [.ref (g.2.2 a), .int x1, .int x2] h (fx_oi r) h' := by
  unfold z_X11_term at hsp
  refine fz_headX (own := RX11) (by decide) rfl hj (Nat.le_of_ble_eq_true rfl) ?_
  intro p e s m below meth c ls C EX hno hr hlocks hR hl
  have hl : lv_has ls 4 [(0, .ref (g.2.2 a)), (1, .int x1), (2, .int x2)] := hl
  have hx := C.1.1
  have hb := C.1.2.1
  refine lv_aload_n hx hb dX11_term_0 rfl (lv_at hl 0 rfl) ?_
  refine lv_iload_n hx hb dX11_term_1 rfl (lv_at hl 1 rfl) ?_
  rcases fr_bx hsp with ⟨r1, h2, E3, hsp⟩ | ⟨r1, h2, E3, hsp⟩
  · obtain ⟨e1, e2⟩ := fr_s2 hsp
    exact fz_xVo (k := r1) (rest := []) C EX hR (k_X11_settled C.2.2 hlt ha E3) Y_X11_settled YV_X11_settled Lk_RX11_127 (fz_rv C hR ha ⟨_, _, rfl, by decide⟩) rfl hl.1 ⟨Nat.le_of_ble_eq_true rfl, Nat.le_of_ble_eq_true rfl⟩ rfl (Nat.le_of_ble_eq_true rfl) ⟨Nat.le_of_ble_eq_true rfl, Nat.le_of_ble_eq_true rfl⟩ dX11_term_2 hno hlocks (congrArg fx_oi e1) e2 (Nat.le_of_ble_eq_true rfl) (Nat.le_of_ble_eq_true rfl)
  refine fz_xVr (rest := []) (st1 := [va_rf (Option.map g.2.2 r1)]) C EX hR (k_X11_settled C.2.2 hlt ha E3) Y_X11_settled YV_X11_settled Lk_RX11_127 (fz_rv C hR ha ⟨_, _, rfl, by decide⟩) rfl hl.1 ⟨Nat.le_of_ble_eq_true rfl, Nat.le_of_ble_eq_true rfl⟩ rfl (Nat.le_of_ble_eq_true rfl) ⟨Nat.le_of_ble_eq_true rfl, Nat.le_of_ble_eq_true rfl⟩ rfl dX11_term_2 (fun H locs hR => ?_)
  obtain ⟨j4, ej4, hq⟩ := fr_b1 hsp
  subst ej4
  have hsp := hq
  refine W.eq (g2 := F0 m 5 ls [.ref (g.2.2 j4)]) rfl ?_
  refine lv_astore_n (lv' := [(3, .ref (g.2.2 j4)), (0, .ref (g.2.2 a)), (1, .int x1), (2, .int x2)]) hx hb dX11_term_5 rfl hl (by decide) rfl (fun ls hl => ?_)
  refine lv_aload_n hx hb dX11_term_6 rfl (lv_at hl 0 rfl) ?_
  refine lv_iload_n hx hb dX11_term_7 rfl (lv_at hl 3 rfl) ?_
  obtain ⟨hk5, hsp⟩ := fr_ck hsp
  rcases fr_bx hsp with ⟨r6, h7, E8, hsp⟩ | ⟨r6, h7, E8, hsp⟩
  · obtain ⟨e1, e2⟩ := fr_s2 hsp
    exact fz_xSo (k := r6) (rest := []) C EX hR (k_X11_requireTerm C.2.2 hlt hk5 E8) Y_X11_requireTerm YS_X11_requireTerm Lk_RX11_196 rfl hl.1 ⟨Nat.le_of_ble_eq_true rfl, Nat.le_of_ble_eq_true rfl⟩ rfl (Nat.le_of_ble_eq_true rfl) ⟨Nat.le_of_ble_eq_true rfl, Nat.le_of_ble_eq_true rfl⟩ dX11_term_8 hno hlocks (congrArg fx_oi e1) e2 (Nat.le_of_ble_eq_true rfl) (Nat.le_of_ble_eq_true rfl)
  refine fz_xSr (rest := []) (st1 := []) C EX hR (k_X11_requireTerm C.2.2 hlt hk5 E8) Y_X11_requireTerm YS_X11_requireTerm Lk_RX11_196 rfl hl.1 ⟨Nat.le_of_ble_eq_true rfl, Nat.le_of_ble_eq_true rfl⟩ rfl (Nat.le_of_ble_eq_true rfl) ⟨Nat.le_of_ble_eq_true rfl, Nat.le_of_ble_eq_true rfl⟩ rfl dX11_term_8 (fun H locs hR => ?_)
  refine lv_aload_n hx hb dX11_term_11 rfl (lv_at hl 0 rfl) ?_
  refine lv_iload_n hx hb dX11_term_12 rfl (lv_at hl 3 rfl) ?_
  obtain ⟨r9, E10, hsp⟩ := fr_b1 hsp
  refine fq_callV (rest := []) (st1 := [.int r9]) C hR (k_X6_termAt C.2.2 hk5 E10) Y_X6_termAt YV_X6_termAt Lk_RX11_200 hk5 ⟨_, _, rfl, by decide⟩ rfl hl.1 ⟨Nat.le_of_ble_eq_true rfl, Nat.le_of_ble_eq_true rfl⟩ rfl (Nat.le_of_ble_eq_true rfl) ⟨Nat.le_of_ble_eq_true rfl, Nat.le_of_ble_eq_true rfl⟩ rfl dX11_term_13 (fun H locs hR => ?_)
  obtain ⟨e1, e2⟩ := fr_s2 hsp
  exact fz_iret C hr hlocks hR e1 e2 (Nat.le_of_ble_eq_true rfl) (Nat.le_of_ble_eq_true rfl) dX11_term_16

/-! TermRows.read(IIZ)I -/
def z_X11_read_b49 (S : fh_S) (a : Nat) (h : fh_H) (y2 : Int32) (y3 : Int32) (y4 : Nat) : Option ((Nat ⊕ Int32) × fh_H) :=
    if y3 = 0 then (fh_ck (fh_kq S y4 6) (fh_b1 (z_X6_firstReadsAt S h y4 y2) (fun r3 => some (Sum.inr r3, h)))) else (fh_ck (fh_kq S y4 6) (fh_b1 (z_X6_secondReadsAt S h y4 y2) (fun r6 => some (Sum.inr r6, h))))
def z_X11_read (S : fh_S) (h : fh_H) (a : Nat) (x1 : Int32) (x2 : Int32) (x3 : Int32) : Option ((Nat ⊕ Int32) × fh_H) :=
    fh_bx (z_X11_settled S h a x1) (fun r1 h2 => fh_b1 r1 (fun j4 => fh_ck (fh_kq S j4 6) (fh_bx (z_X11_requireTerm S h2 j4 x2) (fun r6 h7 => fh_b1 (h7.2.2 j4 4) (fun j9 => fh_ck (fh_kq S j9 3) (fh_let ((h7.1 j9 0)) (fun v12 => if v12 = (4 : Int32) then (z_X11_read_b49 S a h7 x2 x3 j4) else (if x3 = 0 then (if v12 = (3 : Int32) then (z_X11_read_b49 S a h7 x2 x3 j4) else (some (Sum.inl 1, h7))) else (some (Sum.inl 1, h7))))))))))
set_option maxHeartbeats 4000000 in
set_option maxRecDepth 100000 in
theorem k_X11_read {l : Launch} {S : fh_S} {g : fh_G} {h h' : fh_H} {z : (Nat → Nat) × (Nat → Nat)} (hj : fh_inj S g) {a : Nat} {x1 : Int32} {x2 : Int32} {x3 : Int32} {r : (Nat ⊕ Int32)} (hlt : l.stackTraces = false) (ha : fh_kq S a 11 = true) (hsp : z_X11_read S h a x1 x2 x3 = some (r, h')) : fx_Mx l yX11_read cX11_read 6 (some .int) 7 3 S g z [.ref (g.2.2 a), .int x1, .int x2, .int x3] h (fx_oi r) h' := by
  unfold z_X11_read at hsp
  refine fz_headX (own := RX11) (by decide) rfl hj (Nat.le_of_ble_eq_true rfl) ?_
  intro p e s m below meth c ls C EX hno hr hlocks hR hl
  have hl : lv_has ls 6 [(0, .ref (g.2.2 a)), (1, .int x1), (2, .int x2), (3, .int x3)] := hl
  have hx := C.1.1
  have hb := C.1.2.1
  have hb_49 : ∀ (h : fh_H) (y2 : Int32) (y3 : Int32) (y4 : Nat) (H : Heap) (locs : List Loc) (ls : Array Slot), z_X11_read_b49 S a h y2 y3 y4 = some (r, h') → fh_R S g s.heap h H locs → lv_has ls 6 [(2, .int y2), (3, .int y3), (4, .ref (g.2.2 y4))] → fx_Wk p l e 7 3 2 s m [.ref (g.2.2 a), .int x1, .int x2, .int x3] below meth c S g (fx_oi r) h' H locs (F0 m 49 ls []) := by
    intro h y2 y3 y4 H locs ls hsp hR hl
    unfold z_X11_read_b49 at hsp
    refine lv_iload_n hx hb dX11_read_49 rfl (lv_at hl 1 rfl) ?_
    refine lv_if_eq (tgt := 62) hx hb dX11_read_50 (by decide) (fun c1 => ?_) (fun c1 => ?_)
    · rw [if_pos c1] at hsp
      refine lv_aload hx hb dX11_read_62 (lv_at hl 2 rfl) ?_
      refine lv_iload_n hx hb dX11_read_64 rfl (lv_at hl 0 rfl) ?_
      obtain ⟨hk2, hsp⟩ := fr_ck hsp
      obtain ⟨r3, E4, hsp⟩ := fr_b1 hsp
      refine fq_callV (rest := []) (st1 := [.int r3]) C hR (k_X6_firstReadsAt C.2.2 hk2 E4) Y_X6_firstReadsAt YV_X6_firstReadsAt Lk_RX11_208 hk2 ⟨_, _, rfl, by decide⟩ rfl hl.1 ⟨Nat.le_of_ble_eq_true rfl, Nat.le_of_ble_eq_true rfl⟩ rfl (Nat.le_of_ble_eq_true rfl) ⟨Nat.le_of_ble_eq_true rfl, Nat.le_of_ble_eq_true rfl⟩ rfl dX11_read_65 (fun H locs hR => ?_)
      obtain ⟨e1, e2⟩ := fr_s2 hsp
      exact fz_iret C hr hlocks hR e1 e2 (Nat.le_of_ble_eq_true rfl) (Nat.le_of_ble_eq_true rfl) dX11_read_68
    · rw [if_neg c1] at hsp
      refine lv_aload hx hb dX11_read_53 (lv_at hl 2 rfl) ?_
      refine lv_iload_n hx hb dX11_read_55 rfl (lv_at hl 0 rfl) ?_
      obtain ⟨hk5, hsp⟩ := fr_ck hsp
      obtain ⟨r6, E7, hsp⟩ := fr_b1 hsp
      refine fq_callV (rest := []) (st1 := [.int r6]) C hR (k_X6_secondReadsAt C.2.2 hk5 E7) Y_X6_secondReadsAt YV_X6_secondReadsAt Lk_RX11_205 hk5 ⟨_, _, rfl, by decide⟩ rfl hl.1 ⟨Nat.le_of_ble_eq_true rfl, Nat.le_of_ble_eq_true rfl⟩ rfl (Nat.le_of_ble_eq_true rfl) ⟨Nat.le_of_ble_eq_true rfl, Nat.le_of_ble_eq_true rfl⟩ rfl dX11_read_56 (fun H locs hR => ?_)
      refine lv_goto (tgt := 68) hx hb dX11_read_59 (by decide) ?_
      obtain ⟨e1, e2⟩ := fr_s2 hsp
      exact fz_iret C hr hlocks hR e1 e2 (Nat.le_of_ble_eq_true rfl) (Nat.le_of_ble_eq_true rfl) dX11_read_68
  refine lv_aload_n hx hb dX11_read_0 rfl (lv_at hl 0 rfl) ?_
  refine lv_iload_n hx hb dX11_read_1 rfl (lv_at hl 1 rfl) ?_
  rcases fr_bx hsp with ⟨r1, h2, E3, hsp⟩ | ⟨r1, h2, E3, hsp⟩
  · obtain ⟨e1, e2⟩ := fr_s2 hsp
    exact fz_xVo (k := r1) (rest := []) C EX hR (k_X11_settled C.2.2 hlt ha E3) Y_X11_settled YV_X11_settled Lk_RX11_127 (fz_rv C hR ha ⟨_, _, rfl, by decide⟩) rfl hl.1 ⟨Nat.le_of_ble_eq_true rfl, Nat.le_of_ble_eq_true rfl⟩ rfl (Nat.le_of_ble_eq_true rfl) ⟨Nat.le_of_ble_eq_true rfl, Nat.le_of_ble_eq_true rfl⟩ dX11_read_2 hno hlocks (congrArg fx_oi e1) e2 (Nat.le_of_ble_eq_true rfl) (Nat.le_of_ble_eq_true rfl)
  refine fz_xVr (rest := []) (st1 := [va_rf (Option.map g.2.2 r1)]) C EX hR (k_X11_settled C.2.2 hlt ha E3) Y_X11_settled YV_X11_settled Lk_RX11_127 (fz_rv C hR ha ⟨_, _, rfl, by decide⟩) rfl hl.1 ⟨Nat.le_of_ble_eq_true rfl, Nat.le_of_ble_eq_true rfl⟩ rfl (Nat.le_of_ble_eq_true rfl) ⟨Nat.le_of_ble_eq_true rfl, Nat.le_of_ble_eq_true rfl⟩ rfl dX11_read_2 (fun H locs hR => ?_)
  obtain ⟨j4, ej4, hq⟩ := fr_b1 hsp
  subst ej4
  have hsp := hq
  refine W.eq (g2 := F0 m 5 ls [.ref (g.2.2 j4)]) rfl ?_
  refine lv_astore (lv' := [(4, .ref (g.2.2 j4)), (0, .ref (g.2.2 a)), (1, .int x1), (2, .int x2), (3, .int x3)]) hx hb dX11_read_5 hl (by decide) rfl (fun ls hl => ?_)
  refine lv_aload hx hb dX11_read_7 (lv_at hl 0 rfl) ?_
  refine lv_iload_n hx hb dX11_read_9 rfl (lv_at hl 3 rfl) ?_
  obtain ⟨hk5, hsp⟩ := fr_ck hsp
  rcases fr_bx hsp with ⟨r6, h7, E8, hsp⟩ | ⟨r6, h7, E8, hsp⟩
  · obtain ⟨e1, e2⟩ := fr_s2 hsp
    exact fz_xSo (k := r6) (rest := []) C EX hR (k_X11_requireTerm C.2.2 hlt hk5 E8) Y_X11_requireTerm YS_X11_requireTerm Lk_RX11_196 rfl hl.1 ⟨Nat.le_of_ble_eq_true rfl, Nat.le_of_ble_eq_true rfl⟩ rfl (Nat.le_of_ble_eq_true rfl) ⟨Nat.le_of_ble_eq_true rfl, Nat.le_of_ble_eq_true rfl⟩ dX11_read_10 hno hlocks (congrArg fx_oi e1) e2 (Nat.le_of_ble_eq_true rfl) (Nat.le_of_ble_eq_true rfl)
  refine fz_xSr (rest := []) (st1 := []) C EX hR (k_X11_requireTerm C.2.2 hlt hk5 E8) Y_X11_requireTerm YS_X11_requireTerm Lk_RX11_196 rfl hl.1 ⟨Nat.le_of_ble_eq_true rfl, Nat.le_of_ble_eq_true rfl⟩ rfl (Nat.le_of_ble_eq_true rfl) ⟨Nat.le_of_ble_eq_true rfl, Nat.le_of_ble_eq_true rfl⟩ rfl dX11_read_10 (fun H locs hR => ?_)
  refine lv_aload hx hb dX11_read_13 (lv_at hl 0 rfl) ?_
  obtain ⟨j9, hv10, hsp⟩ := fr_b1 hsp
  refine fr_getr C hR hk5 Fg_RX11_168 rfl hv10 dX11_read_15 ?_
  obtain ⟨hk11, hsp⟩ := fr_ck hsp
  refine fr_geti C hR hk11 Fg_RX11_172 rfl dX11_read_18 ?_
  refine lv_topi (fun v12 ev12 => ?_)
  have hsp := fr_let ev12 hsp
  refine lv_istore (lv' := [(5, .int v12), (4, .ref (g.2.2 j4)), (0, .ref (g.2.2 a)), (1, .int x1), (2, .int x2), (3, .int x3)]) hx hb dX11_read_21 hl (by decide) rfl (fun ls hl => ?_)
  refine lv_iload hx hb dX11_read_23 (lv_at hl 0 rfl) ?_
  refine lv_iconst (v := 4) hx hb dX11_read_25 (by decide) ?_
  refine lv_icmp_eq (tgt := 49) hx hb dX11_read_26 (by decide) (fun c13 => ?_) (fun c13 => ?_)
  · rw [if_pos c13] at hsp
    refine W.widen (k := 2) (n := 6 * 2) (Nat.le_of_ble_eq_true rfl) (Nat.le_of_ble_eq_true rfl) ?_
    exact hb_49 h7 x2 x3 j4 _ _ _ hsp hR (lv_sub hl [4, 5, 1] rfl)
  · rw [if_neg c13] at hsp
    refine lv_iload_n hx hb dX11_read_29 rfl (lv_at hl 5 rfl) ?_
    refine lv_if_ne (tgt := 39) hx hb dX11_read_30 (by decide) (fun c14 => ?_) (fun c14 => ?_)
    · rw [if_neg c14] at hsp
      obtain ⟨e1, e2⟩ := fr_s2 hsp
      exact fz_throw (is := 203) (text := "the row reads no such row") 1 (Or.inr rfl) C EX hlt hno hlocks hR (congrArg fx_oi e1) e2 (List.mem_of_getElem? (i := 3) rfl) hl.1 ⟨Nat.le_of_ble_eq_true rfl, Nat.le_of_ble_eq_true rfl, Nat.le_of_ble_eq_true rfl⟩ ⟨Nat.le_of_ble_eq_true rfl, Nat.le_of_ble_eq_true rfl⟩ (Nat.le_of_ble_eq_true rfl) (Nat.le_of_ble_eq_true rfl) dX11_read_39 dX11_read_42 dX11_read_43 dX11_read_45 dX11_read_48
    · rw [if_pos c14] at hsp
      refine lv_iload hx hb dX11_read_33 (lv_at hl 0 rfl) ?_
      refine lv_iconst (v := 3) hx hb dX11_read_35 (by decide) ?_
      refine lv_icmp_eq (tgt := 49) hx hb dX11_read_36 (by decide) (fun c15 => ?_) (fun c15 => ?_)
      · rw [if_pos c15] at hsp
        refine W.widen (k := 2) (n := 6 * 2) (Nat.le_of_ble_eq_true rfl) (Nat.le_of_ble_eq_true rfl) ?_
        exact hb_49 h7 x2 x3 j4 _ _ _ hsp hR (lv_sub hl [4, 5, 1] rfl)
      · rw [if_neg c15] at hsp
        obtain ⟨e1, e2⟩ := fr_s2 hsp
        exact fz_throw (is := 203) (text := "the row reads no such row") 1 (Or.inr rfl) C EX hlt hno hlocks hR (congrArg fx_oi e1) e2 (List.mem_of_getElem? (i := 3) rfl) hl.1 ⟨Nat.le_of_ble_eq_true rfl, Nat.le_of_ble_eq_true rfl, Nat.le_of_ble_eq_true rfl⟩ ⟨Nat.le_of_ble_eq_true rfl, Nat.le_of_ble_eq_true rfl⟩ (Nat.le_of_ble_eq_true rfl) (Nat.le_of_ble_eq_true rfl) dX11_read_39 dX11_read_42 dX11_read_43 dX11_read_45 dX11_read_48
